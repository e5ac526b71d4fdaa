/-! The methods as functions of the state, each with the proof that the interpreter runs so. -/
noncomputable def wX11_farBy_j111 (qq : Int32 → wS → Option ((wS) ⊕ (Int32 × wS))) (x1 : Int32) (x2 : Int32) (x5 : Int32) (s : wS) : Option ((wS) ⊕ (Int32 × wS)) := qq (x5 + 1) s
theorem wX11_farBy_u111 {x1 : Int32} {x2 : Int32} {x5 : Int32} {s : wS} {w3 : Int32} {w4 : Int32} {w6 : Int32} {qq : Int32 → wS → Option ((wS) ⊕ (Int32 × wS))} {x : (wS) ⊕ (Int32 × wS)} {r : ri_R} (ih : ∀ {x5 : Int32} {s : wS} {w3 : Int32} {w4 : Int32} {w6 : Option Value} , qq x5 s = some x → gRun 2 221 11 [some (.ref 153), some (.int x1), some (.int x2), some (.int w3), some (.int w4), some (.int x5), w6] [] (wmk s) r) (he117 : ∀ (s : wS) (w1 : Int32) (w2 : Int32) (w3 : Int32) (w4 : Int32) (w5 : Int32) (w6 : Option Value) , x = .inl s → gRun 2 221 117 [some (.ref 153), some (.int w1), some (.int w2), some (.int w3), some (.int w4), some (.int w5), w6] [] (wmk s) r) (he87 : ∀ (x6 : Int32) (s : wS) (w2 : Int32) (w3 : Int32) (w4 : Int32) (w5 : Int32) , x = .inr (x6, s) → gRun 2 221 87 [some (.ref 153), some (.int x1), some (.int w2), some (.int w3), some (.int w4), some (.int w5), some (.int x6)] [] (wmk s) r) (h : wX11_farBy_j111 qq x1 x2 x5 s = some x) : gRun 2 221 111 [some (.ref 153), some (.int x1), some (.int x2), some (.int w3), some (.int w4), some (.int x5), some (.int w6)] [] (wmk s) r := by
  unfold wX11_farBy_j111 at h
  refine gR_go 2 (pc1 := 11) (L1 := [some (.ref 153), some (.int x1), some (.int x2), some (.int w3), some (.int w4), some (.int (x5 + 1)), some (.int w6)]) (st1 := []) (fun _ _ => rfl) ?_
  exact ih h
noncomputable def wX11_farBy_h11 (x1 : Int32) (x2 : Int32) : Nat → Int32 → wS → Option ((wS) ⊕ (Int32 × wS))
  | 0, _, _ => none
  | n + 1, x5, s => (wldI s 157 6 x1).bind fun t4 => if x5 < t4 then ((wldI s 156 360 ((60 * x1) + (5 * x5))).bind fun t6 => if t6 = x2 then ((wldI s 156 360 (((60 * x1) + (5 * x5)) + 3)).bind fun t8 => if t8 < 0 then (some (.inr (((60 * x1) + (5 * x5)), s))) else ((wldI s 156 360 (((60 * x1) + (5 * x5)) + 3)).bind fun t10 => (wldI s 156 360 (((60 * x1) + (5 * x5)) + 4)).bind fun t11 => (wX11_reckons x1 t10 t11 s).bind fun (t12, s13) => if t12 = 0 then (wX11_farBy_j111 (wX11_farBy_h11 x1 x2 n) x1 x2 x5 s13) else (some (.inr (((60 * x1) + (5 * x5)), s13))))) else (wX11_farBy_j111 (wX11_farBy_h11 x1 x2 n) x1 x2 x5 s)) else (some (.inl s))
theorem wX11_farBy_t11 {x1 : Int32} {x2 : Int32} {x : (wS) ⊕ (Int32 × wS)} {r : ri_R} (he117 : ∀ (s : wS) (w1 : Int32) (w2 : Int32) (w3 : Int32) (w4 : Int32) (w5 : Int32) (w6 : Option Value) , x = .inl s → gRun 2 221 117 [some (.ref 153), some (.int w1), some (.int w2), some (.int w3), some (.int w4), some (.int w5), w6] [] (wmk s) r) (he87 : ∀ (x6 : Int32) (s : wS) (w2 : Int32) (w3 : Int32) (w4 : Int32) (w5 : Int32) , x = .inr (x6, s) → gRun 2 221 87 [some (.ref 153), some (.int x1), some (.int w2), some (.int w3), some (.int w4), some (.int w5), some (.int x6)] [] (wmk s) r) : ∀ {n : Nat} {x5 : Int32} {s : wS} {w3 : Int32} {w4 : Int32} {w6 : Option Value} , wX11_farBy_h11 x1 x2 n x5 s = some x → gRun 2 221 11 [some (.ref 153), some (.int x1), some (.int x2), some (.int w3), some (.int w4), some (.int x5), w6] [] (wmk s) r := by
  intro n
  induction n with
  | zero => intro x5 s w3 w4 w6 h; cases (show (none : Option ((wS) ⊕ (Int32 × wS))) = some x from h)
  | succ n ih =>
    intro x5 s w3 w4 w6 h
    rw [wX11_farBy_h11] at h
    refine gR_go 2 (pc1 := 14) (L1 := [some (.ref 153), some (.int x1), some (.int x2), some (.int w3), some (.int w4), some (.int x5), w6]) (st1 := [.ref 153, .int x5]) (fun _ _ => rfl) ?_
    refine gR_gfR (k := 152) (k' := 157) rfl rfl rfl rfl ?_
    refine gR_go 1 (pc1 := 18) (L1 := [some (.ref 153), some (.int x1), some (.int x2), some (.int w3), some (.int w4), some (.int x5), w6]) (st1 := [.int x1, .ref 158, .int x5]) (fun _ _ => rfl) ?_
    obtain ⟨t4, et4, h⟩ := gb h
    refine gR_ial (k := 157) rfl rfl rfl et4 ?_
    rcases gif h with ⟨c5, h⟩ | ⟨c5, h⟩
    · refine gR_ic_ge_f rfl c5 ?_
      refine gR_go 9 (pc1 := 34) (L1 := [some (.ref 153), some (.int x1), some (.int x2), some (.int w3), some (.int w4), some (.int x5), some (.int ((60 * x1) + (5 * x5)))]) (st1 := [.ref 153]) (fun _ _ => rfl) ?_
      refine gR_gfR (k := 152) (k' := 156) rfl rfl rfl rfl ?_
      refine gR_go 1 (pc1 := 39) (L1 := [some (.ref 153), some (.int x1), some (.int x2), some (.int w3), some (.int w4), some (.int x5), some (.int ((60 * x1) + (5 * x5)))]) (st1 := [.int ((60 * x1) + (5 * x5)), .ref 157]) (fun _ _ => rfl) ?_
      obtain ⟨t6, et6, h⟩ := gb h
      refine gR_ial (k := 156) rfl rfl rfl et6 ?_
      refine gR_go 1 (pc1 := 41) (L1 := [some (.ref 153), some (.int x1), some (.int x2), some (.int w3), some (.int w4), some (.int x5), some (.int ((60 * x1) + (5 * x5)))]) (st1 := [.int x2, .int t6]) (fun _ _ => rfl) ?_
      rcases gif h with ⟨c7, h⟩ | ⟨c7, h⟩
      · refine gR_ic_ne_f rfl c7 ?_
        refine gR_go 1 (pc1 := 45) (L1 := [some (.ref 153), some (.int x1), some (.int x2), some (.int w3), some (.int w4), some (.int x5), some (.int ((60 * x1) + (5 * x5)))]) (st1 := [.ref 153]) (fun _ _ => rfl) ?_
        refine gR_gfR (k := 152) (k' := 156) rfl rfl rfl rfl ?_
        refine gR_go 3 (pc1 := 52) (L1 := [some (.ref 153), some (.int x1), some (.int x2), some (.int w3), some (.int w4), some (.int x5), some (.int ((60 * x1) + (5 * x5)))]) (st1 := [.int (((60 * x1) + (5 * x5)) + 3), .ref 157]) (fun _ _ => rfl) ?_
        obtain ⟨t8, et8, h⟩ := gb h
        refine gR_ial (k := 156) rfl rfl rfl et8 ?_
        rcases gif h with ⟨c9, h⟩ | ⟨c9, h⟩
        · refine gR_iz_lt_j rfl c9 rfl ?_
          exact he87 _ _ _ _ _ _ (Option.some.inj h).symm
        · refine gR_iz_lt_f rfl c9 ?_
          refine gR_go 3 (pc1 := 59) (L1 := [some (.ref 153), some (.int x1), some (.int x2), some (.int w3), some (.int w4), some (.int x5), some (.int ((60 * x1) + (5 * x5)))]) (st1 := [.ref 153, .int x1, .ref 153]) (fun _ _ => rfl) ?_
          refine gR_gfR (k := 152) (k' := 156) rfl rfl rfl rfl ?_
          refine gR_go 3 (pc1 := 66) (L1 := [some (.ref 153), some (.int x1), some (.int x2), some (.int w3), some (.int w4), some (.int x5), some (.int ((60 * x1) + (5 * x5)))]) (st1 := [.int (((60 * x1) + (5 * x5)) + 3), .ref 157, .int x1, .ref 153]) (fun _ _ => rfl) ?_
          obtain ⟨t10, et10, h⟩ := gb h
          refine gR_ial (k := 156) rfl rfl rfl et10 ?_
          refine gR_go 1 (pc1 := 68) (L1 := [some (.ref 153), some (.int x1), some (.int x2), some (.int w3), some (.int w4), some (.int x5), some (.int ((60 * x1) + (5 * x5)))]) (st1 := [.ref 153, .int t10, .int x1, .ref 153]) (fun _ _ => rfl) ?_
          refine gR_gfR (k := 152) (k' := 156) rfl rfl rfl rfl ?_
          refine gR_go 3 (pc1 := 75) (L1 := [some (.ref 153), some (.int x1), some (.int x2), some (.int w3), some (.int w4), some (.int x5), some (.int ((60 * x1) + (5 * x5)))]) (st1 := [.int (((60 * x1) + (5 * x5)) + 4), .ref 157, .int t10, .int x1, .ref 153]) (fun _ _ => rfl) ?_
          obtain ⟨t11, et11, h⟩ := gb h
          refine gR_ial (k := 156) rfl rfl rfl et11 ?_
          obtain ⟨⟨t12, s13⟩, e14, h⟩ := gb h
          dsimp only at h
          refine gR_cvL (wX11_reckons_s e14) (Nat.le_of_ble_eq_true rfl) rfl rfl rfl rfl rfl ?_
          refine gR_go 2 (pc1 := 81) (L1 := [some (.ref 153), some (.int x1), some (.int x2), some (.int w3), some (.int w4), some (.int x5), some (.int ((60 * x1) + (5 * x5)))]) (st1 := [.int (lg_cmp t12 0)]) (fun _ _ => rfl) ?_
          rcases gif h with ⟨c15, h⟩ | ⟨c15, h⟩
          · refine gR_lc_ne_f rfl c15 ?_
            refine gR_go 1 (pc1 := 111) (L1 := [some (.ref 153), some (.int x1), some (.int x2), some (.int w3), some (.int w4), some (.int x5), some (.int ((60 * x1) + (5 * x5)))]) (st1 := []) (fun _ _ => rfl) ?_
            exact wX11_farBy_u111 ih he117 he87 h
          · refine gR_lc_ne_j rfl c15 rfl ?_
            exact he87 _ _ _ _ _ _ (Option.some.inj h).symm
      · refine gR_ic_ne_j rfl c7 rfl ?_
        exact wX11_farBy_u111 ih he117 he87 h
    · refine gR_ic_ge_j rfl c5 rfl ?_
      exact he117 _ _ _ _ _ _ _ (Option.some.inj h).symm
noncomputable def wX11_farBy_j87 (x1 : Int32) (x6 : Int32) (s : wS) : Option (Int64 × wS) := (wldI s 156 360 (x6 + 1)).bind fun t31 => (wldI s 156 360 (x6 + 2)).bind fun t32 => (wX11_reckons x1 t31 t32 s).bind fun (t33, s34) => some (t33, s34)
theorem wX11_farBy_u87 {x1 : Int32} {x6 : Int32} {s : wS} {w2 : Int32} {w3 : Int32} {w4 : Int32} {w5 : Int32} {rv : Int64} {rs : wS} (h : wX11_farBy_j87 x1 x6 s = some (rv, rs)) : gRun 2 221 87 [some (.ref 153), some (.int x1), some (.int w2), some (.int w3), some (.int w4), some (.int w5), some (.int x6)] [] (wmk s) (some (.long rv), wmk rs, 0, 0) := by
  unfold wX11_farBy_j87 at h
  refine gR_go 3 (pc1 := 90) (L1 := [some (.ref 153), some (.int x1), some (.int w2), some (.int w3), some (.int w4), some (.int w5), some (.int x6)]) (st1 := [.ref 153, .int x1, .ref 153]) (fun _ _ => rfl) ?_
  refine gR_gfR (k := 152) (k' := 156) rfl rfl rfl rfl ?_
  refine gR_go 3 (pc1 := 97) (L1 := [some (.ref 153), some (.int x1), some (.int w2), some (.int w3), some (.int w4), some (.int w5), some (.int x6)]) (st1 := [.int (x6 + 1), .ref 157, .int x1, .ref 153]) (fun _ _ => rfl) ?_
  obtain ⟨t31, et31, h⟩ := gb h
  refine gR_ial (k := 156) rfl rfl rfl et31 ?_
  refine gR_go 1 (pc1 := 99) (L1 := [some (.ref 153), some (.int x1), some (.int w2), some (.int w3), some (.int w4), some (.int w5), some (.int x6)]) (st1 := [.ref 153, .int t31, .int x1, .ref 153]) (fun _ _ => rfl) ?_
  refine gR_gfR (k := 152) (k' := 156) rfl rfl rfl rfl ?_
  refine gR_go 3 (pc1 := 106) (L1 := [some (.ref 153), some (.int x1), some (.int w2), some (.int w3), some (.int w4), some (.int w5), some (.int x6)]) (st1 := [.int (x6 + 2), .ref 157, .int t31, .int x1, .ref 153]) (fun _ _ => rfl) ?_
  obtain ⟨t32, et32, h⟩ := gb h
  refine gR_ial (k := 156) rfl rfl rfl et32 ?_
  obtain ⟨⟨t33, s34⟩, e35, h⟩ := gb h
  dsimp only at h
  refine gR_cvL (wX11_reckons_s e35) (Nat.le_of_ble_eq_true rfl) rfl rfl rfl rfl rfl ?_
  obtain ⟨rfl, rfl⟩ := gi2 h
  exact gR_rl rfl rfl
noncomputable def wX11_farBy (x1 : Int32) (x2 : Int32) (x3 : Int32) (x4 : Int32) (s : wS) : Option (Int64 × wS) := (wX11_words x2 x3 x4 s).bind fun s2 => (wX11_farBy_h11 x1 x2 wFuel 0 s2).bind fun z16 => (match z16 with | .inl s17 => some ((s17.2 162 2), s17) | .inr (t25, s26) => wX11_farBy_j87 x1 t25 s26)
theorem wX11_farBy_s {x1 : Int32} {x2 : Int32} {x3 : Int32} {x4 : Int32} {s : wS} {rv : Int64} {rs : wS} (h : wX11_farBy x1 x2 x3 x4 s = some (rv, rs)) : gEv 3 221 [.ref 153, .int x1, .int x2, .int x3, .int x4] (wmk s) (some (.long rv), wmk rs, 0, 0) := by
  refine gEv_of (d := 2) (L := [some (.ref 153), some (.int x1), some (.int x2), some (.int x3), some (.int x4), none, none]) rfl ?_
  unfold wX11_farBy at h
  refine gR_go 4 (pc1 := 5) (L1 := [some (.ref 153), some (.int x1), some (.int x2), some (.int x3), some (.int x4), none, none]) (st1 := [.int x4, .int x3, .int x2, .ref 153]) (fun _ _ => rfl) ?_
  obtain ⟨s2, e3, h⟩ := gb h
  refine gR_cvV (wX11_words_s e3) (Nat.le_of_ble_eq_true rfl) rfl rfl rfl rfl rfl ?_
  refine gR_go 2 (pc1 := 11) (L1 := [some (.ref 153), some (.int x1), some (.int x2), some (.int x3), some (.int x4), some (.int 0), none]) (st1 := []) (fun _ _ => rfl) ?_
  obtain ⟨z16, ez16, h⟩ := gb h
  refine wX11_farBy_t11 ?_ ?_  ez16
  · intro s17 w18 w19 w20 w21 w22 w23 hz
    replace hz := hz.symm
    subst hz
    dsimp only at h
    refine gR_go 1 (pc1 := 118) (L1 := [some (.ref 153), some (.int w18), some (.int w19), some (.int w20), some (.int w21), some (.int w22), w23]) (st1 := [.ref 153]) (fun _ _ => rfl) ?_
    refine gR_gfR (k := 152) (k' := 162) rfl rfl rfl rfl ?_
    refine gR_go 1 (pc1 := 122) (L1 := [some (.ref 153), some (.int w18), some (.int w19), some (.int w20), some (.int w21), some (.int w22), w23]) (st1 := [.int 2, .ref 163]) (fun _ _ => rfl) ?_
    refine gR_lalc (k := 162) (j := 2) rfl rfl rfl (by decide) rfl ?_
    obtain ⟨rfl, rfl⟩ := gi2 h
    exact gR_rl rfl rfl
  · intro t25 s26 w27 w28 w29 w30 hz
    replace hz := hz.symm
    subst hz
    dsimp only at h
    exact wX11_farBy_u87 h
noncomputable def wX11_far (x1 : Int32) (x2 : Int32) (x3 : Int32) (x4 : Int32) (s : wS) : Option (Int64 × wS) := (wX11_isLaw x1 s).bind fun t1 => if t1 = 0 then (some ((-1000000000000), s)) else ((wX11_isThing x2 x3 s).bind fun t4 => if t4 = 0 then (some ((-1000000000000), s)) else ((wX11_isThing x2 x4 s).bind fun t7 => if t7 = 0 then (some ((-1000000000000), s)) else ((wX11_farBy x1 x2 x3 x4 s).bind fun (t10, s11) => some (t10, s11))))
theorem wX11_far_s {x1 : Int32} {x2 : Int32} {x3 : Int32} {x4 : Int32} {s : wS} {rv : Int64} {rs : wS} (h : wX11_far x1 x2 x3 x4 s = some (rv, rs)) : gEv 4 222 [.ref 153, .int x1, .int x2, .int x3, .int x4] (wmk s) (some (.long rv), wmk rs, 0, 0) := by
  refine gEv_of (d := 3) (L := [some (.ref 153), some (.int x1), some (.int x2), some (.int x3), some (.int x4)]) rfl ?_
  unfold wX11_far at h
  refine gR_go 2 (pc1 := 2) (L1 := [some (.ref 153), some (.int x1), some (.int x2), some (.int x3), some (.int x4)]) (st1 := [.int x1, .ref 153]) (fun _ _ => rfl) ?_
  obtain ⟨t1, e2, h⟩ := gb h
  refine gR_cvI (wX11_isLaw_s e2) (Nat.le_of_ble_eq_true rfl) rfl rfl rfl rfl rfl ?_
  rcases gif h with ⟨c3, h⟩ | ⟨c3, h⟩
  · refine gR_iz_eq_j rfl c3 rfl ?_
    refine gR_go 1 (pc1 := 42) (L1 := [some (.ref 153), some (.int x1), some (.int x2), some (.int x3), some (.int x4)]) (st1 := [.long (-1000000000000)]) (fun _ _ => rfl) ?_
    obtain ⟨rfl, rfl⟩ := gi2 h
    exact gR_rl rfl rfl
  · refine gR_iz_eq_f rfl c3 ?_
    refine gR_go 3 (pc1 := 11) (L1 := [some (.ref 153), some (.int x1), some (.int x2), some (.int x3), some (.int x4)]) (st1 := [.int x3, .int x2, .ref 153]) (fun _ _ => rfl) ?_
    obtain ⟨t4, e5, h⟩ := gb h
    refine gR_cvI (wX11_isThing_s e5) (Nat.le_of_ble_eq_true rfl) rfl rfl rfl rfl rfl ?_
    rcases gif h with ⟨c6, h⟩ | ⟨c6, h⟩
    · refine gR_iz_eq_j rfl c6 rfl ?_
      refine gR_go 1 (pc1 := 42) (L1 := [some (.ref 153), some (.int x1), some (.int x2), some (.int x3), some (.int x4)]) (st1 := [.long (-1000000000000)]) (fun _ _ => rfl) ?_
      obtain ⟨rfl, rfl⟩ := gi2 h
      exact gR_rl rfl rfl
    · refine gR_iz_eq_f rfl c6 ?_
      refine gR_go 3 (pc1 := 21) (L1 := [some (.ref 153), some (.int x1), some (.int x2), some (.int x3), some (.int x4)]) (st1 := [.int x4, .int x2, .ref 153]) (fun _ _ => rfl) ?_
      obtain ⟨t7, e8, h⟩ := gb h
      refine gR_cvI (wX11_isThing_s e8) (Nat.le_of_ble_eq_true rfl) rfl rfl rfl rfl rfl ?_
      rcases gif h with ⟨c9, h⟩ | ⟨c9, h⟩
      · refine gR_iz_eq_j rfl c9 rfl ?_
        refine gR_go 1 (pc1 := 42) (L1 := [some (.ref 153), some (.int x1), some (.int x2), some (.int x3), some (.int x4)]) (st1 := [.long (-1000000000000)]) (fun _ _ => rfl) ?_
        obtain ⟨rfl, rfl⟩ := gi2 h
        exact gR_rl rfl rfl
      · refine gR_iz_eq_f rfl c9 ?_
        refine gR_go 5 (pc1 := 33) (L1 := [some (.ref 153), some (.int x1), some (.int x2), some (.int x3), some (.int x4)]) (st1 := [.int x4, .int x3, .int x2, .int x1, .ref 153]) (fun _ _ => rfl) ?_
        obtain ⟨⟨t10, s11⟩, e12, h⟩ := gb h
        dsimp only at h
        refine gR_cvL (wX11_farBy_s e12) (Nat.le_of_ble_eq_true rfl) rfl rfl rfl rfl rfl ?_
        refine gR_go 1 (pc1 := 42) (L1 := [some (.ref 153), some (.int x1), some (.int x2), some (.int x3), some (.int x4)]) (st1 := [.long t10]) (fun _ _ => rfl) ?_
        obtain ⟨rfl, rfl⟩ := gi2 h
        exact gR_rl rfl rfl
noncomputable def wX11_answersBy_j30 (qq : Int32 → Int32 → Option (Int32)) (x1 : Int32) (x3 : Int32) (y0 : Int32) (y1 : Int32) (s : wS) : Option (Int32) := qq (y0 + y1) (x3 + 1)
theorem wX11_answersBy_u30 {x1 : Int32} {x3 : Int32} {y0 : Int32} {y1 : Int32} {s : wS} {w2 : Int32} {qq : Int32 → Int32 → Option (Int32)} {x : Int32} {r : ri_R} (ih : ∀ {x2 : Int32} {x3 : Int32} , qq x2 x3 = some x → gRun 1 223 4 [some (.ref 153), some (.int x1), some (.int x2), some (.int x3)] [] (wmk s) r) (he38 : ∀ (x2 : Int32) (w1 : Int32) (w3 : Int32) , x = x2 → gRun 1 223 38 [some (.ref 153), some (.int w1), some (.int x2), some (.int w3)] [] (wmk s) r) (h : wX11_answersBy_j30 qq x1 x3 y0 y1 s = some x) : gRun 1 223 30 [some (.ref 153), some (.int x1), some (.int w2), some (.int x3)] [.int y1, .int y0] (wmk s) r := by
  unfold wX11_answersBy_j30 at h
  refine gR_go 4 (pc1 := 4) (L1 := [some (.ref 153), some (.int x1), some (.int (y0 + y1)), some (.int (x3 + 1))]) (st1 := []) (fun _ _ => rfl) ?_
  exact ih h
noncomputable def wX11_answersBy_h4 (x1 : Int32) (s : wS) : Nat → Int32 → Int32 → Option (Int32)
  | 0, _, _ => none
  | n + 1, x2, x3 => if x3 < (s.1 163 3) then ((wX11_answerOf x3 0 s).bind fun t3 => if t3 = x1 then (wX11_answersBy_j30 (wX11_answersBy_h4 x1 s n) x1 x3 x2 1 s) else (wX11_answersBy_j30 (wX11_answersBy_h4 x1 s n) x1 x3 x2 0 s)) else (some x2)
theorem wX11_answersBy_t4 {x1 : Int32} {s : wS} {x : Int32} {r : ri_R} (he38 : ∀ (x2 : Int32) (w1 : Int32) (w3 : Int32) , x = x2 → gRun 1 223 38 [some (.ref 153), some (.int w1), some (.int x2), some (.int w3)] [] (wmk s) r) : ∀ {n : Nat} {x2 : Int32} {x3 : Int32} , wX11_answersBy_h4 x1 s n x2 x3 = some x → gRun 1 223 4 [some (.ref 153), some (.int x1), some (.int x2), some (.int x3)] [] (wmk s) r := by
  intro n
  induction n with
  | zero => intro x2 x3 h; cases (show (none : Option (Int32)) = some x from h)
  | succ n ih =>
    intro x2 x3 h
    rw [wX11_answersBy_h4] at h
    refine gR_go 2 (pc1 := 6) (L1 := [some (.ref 153), some (.int x1), some (.int x2), some (.int x3)]) (st1 := [.ref 153, .int x3]) (fun _ _ => rfl) ?_
    refine gR_gfR (k := 152) (k' := 163) rfl rfl rfl rfl ?_
    refine gR_go 1 (pc1 := 10) (L1 := [some (.ref 153), some (.int x1), some (.int x2), some (.int x3)]) (st1 := [.int 3, .ref 164, .int x3]) (fun _ _ => rfl) ?_
    refine gR_ialc (k := 163) (j := 3) rfl rfl rfl (by decide) rfl ?_
    rcases gif h with ⟨c2, h⟩ | ⟨c2, h⟩
    · refine gR_ic_ge_f rfl c2 ?_
      refine gR_go 4 (pc1 := 18) (L1 := [some (.ref 153), some (.int x1), some (.int x2), some (.int x3)]) (st1 := [.int 0, .int x3, .ref 153, .int x2]) (fun _ _ => rfl) ?_
      obtain ⟨t3, e4, h⟩ := gb h
      refine gR_cvI (wX11_answerOf_s e4) (Nat.le_of_ble_eq_true rfl) rfl rfl rfl rfl rfl ?_
      refine gR_go 1 (pc1 := 22) (L1 := [some (.ref 153), some (.int x1), some (.int x2), some (.int x3)]) (st1 := [.int x1, .int t3, .int x2]) (fun _ _ => rfl) ?_
      rcases gif h with ⟨c5, h⟩ | ⟨c5, h⟩
      · refine gR_ic_ne_f rfl c5 ?_
        refine gR_go 2 (pc1 := 30) (L1 := [some (.ref 153), some (.int x1), some (.int x2), some (.int x3)]) (st1 := [.int 1, .int x2]) (fun _ _ => rfl) ?_
        exact wX11_answersBy_u30 ih he38 h
      · refine gR_ic_ne_j rfl c5 rfl ?_
        refine gR_go 1 (pc1 := 30) (L1 := [some (.ref 153), some (.int x1), some (.int x2), some (.int x3)]) (st1 := [.int 0, .int x2]) (fun _ _ => rfl) ?_
        exact wX11_answersBy_u30 ih he38 h
    · refine gR_ic_ge_j rfl c2 rfl ?_
      exact he38 _ _ _ (Option.some.inj h).symm
noncomputable def wX11_answersBy (x1 : Int32) (s : wS) : Option (Int32) := (wX11_answersBy_h4 x1 s wFuel 0 0).bind fun t7 => some t7
theorem wX11_answersBy_s {x1 : Int32} {s : wS} {rv : Int32} (h : wX11_answersBy x1 s = some rv) : gEv 2 223 [.ref 153, .int x1] (wmk s) (some (.int rv), wmk s, 0, 0) := by
  refine gEv_of (d := 1) (L := [some (.ref 153), some (.int x1), none, none]) rfl ?_
  unfold wX11_answersBy at h
  refine gR_go 4 (pc1 := 4) (L1 := [some (.ref 153), some (.int x1), some (.int 0), some (.int 0)]) (st1 := []) (fun _ _ => rfl) ?_
  obtain ⟨z6, ez6, h⟩ := gb h
  refine wX11_answersBy_t4 ?_  ez6
  · intro t7 w8 w9 hz
    replace hz := hz.symm
    subst hz
    refine gR_go 1 (pc1 := 39) (L1 := [some (.ref 153), some (.int w8), some (.int t7), some (.int w9)]) (st1 := [.int t7]) (fun _ _ => rfl) ?_
    obtain rfl := gi1 h
    exact gR_ri rfl rfl
noncomputable def wX11_answer (x1 : Int32) (x2 : Int32) (x3 : Int32) (x4 : Int32) (s : wS) : Option (Int32 × wS) := if (s.1 163 3) = 40 then (some ((-1), s)) else ((wX11_isWitness x1 s).bind fun t3 => if t3 = 0 then (some ((-1), s)) else ((wX11_isThing x2 x3 s).bind fun t6 => if t6 = 0 then (some ((-1), s)) else ((wX11_isThing x2 x4 s).bind fun t9 => if t9 = 0 then (some ((-1), s)) else (if x3 = x4 then (some ((-1), s)) else ((wX11_answersBy x1 s).bind fun t13 => if t13 = 9 then (some ((-1), s)) else ((wstI s 163 262 (42 + (5 * (s.1 163 3))) x1).bind fun s17 => (wstI s17 163 262 ((42 + (5 * (s.1 163 3))) + 1) x2).bind fun s18 => (wstI s18 163 262 ((42 + (5 * (s.1 163 3))) + 2) x3).bind fun s19 => (wstI s19 163 262 ((42 + (5 * (s.1 163 3))) + 3) x4).bind fun s20 => (wstI s20 163 262 ((42 + (5 * (s.1 163 3))) + 4) 0).bind fun s21 => (wstI s21 163 262 3 ((s21.1 163 3) + 1)).bind fun s23 => some (((s23.1 163 3) - 1), s23)))))))
theorem wX11_answer_s {x1 : Int32} {x2 : Int32} {x3 : Int32} {x4 : Int32} {s : wS} {rv : Int32} {rs : wS} (h : wX11_answer x1 x2 x3 x4 s = some (rv, rs)) : gEv 4 224 [.ref 153, .int x1, .int x2, .int x3, .int x4] (wmk s) (some (.int rv), wmk rs, 0, 0) := by
  refine gEv_of (d := 3) (L := [some (.ref 153), some (.int x1), some (.int x2), some (.int x3), some (.int x4), none]) rfl ?_
  unfold wX11_answer at h
  refine gR_go 1 (pc1 := 1) (L1 := [some (.ref 153), some (.int x1), some (.int x2), some (.int x3), some (.int x4), none]) (st1 := [.ref 153]) (fun _ _ => rfl) ?_
  refine gR_gfR (k := 152) (k' := 163) rfl rfl rfl rfl ?_
  refine gR_go 1 (pc1 := 5) (L1 := [some (.ref 153), some (.int x1), some (.int x2), some (.int x3), some (.int x4), none]) (st1 := [.int 3, .ref 164]) (fun _ _ => rfl) ?_
  refine gR_ialc (k := 163) (j := 3) rfl rfl rfl (by decide) rfl ?_
  refine gR_go 1 (pc1 := 8) (L1 := [some (.ref 153), some (.int x1), some (.int x2), some (.int x3), some (.int x4), none]) (st1 := [.int 40, .int (s.1 163 3)]) (fun _ _ => rfl) ?_
  rcases gif h with ⟨c2, h⟩ | ⟨c2, h⟩
  · refine gR_ic_eq_j rfl c2 rfl ?_
    refine gR_go 1 (pc1 := 54) (L1 := [some (.ref 153), some (.int x1), some (.int x2), some (.int x3), some (.int x4), none]) (st1 := [.int (-1)]) (fun _ _ => rfl) ?_
    obtain ⟨rfl, rfl⟩ := gi2 h
    exact gR_ri rfl rfl
  · refine gR_ic_eq_f rfl c2 ?_
    refine gR_go 1 (pc1 := 12) (L1 := [some (.ref 153), some (.int x1), some (.int x2), some (.int x3), some (.int x4), none]) (st1 := [.int x1]) (fun _ _ => rfl) ?_
    obtain ⟨t3, e4, h⟩ := gb h
    refine gR_csI (wX11_isWitness_s e4) (Nat.le_of_ble_eq_true rfl) rfl rfl rfl rfl ?_
    rcases gif h with ⟨c5, h⟩ | ⟨c5, h⟩
    · refine gR_iz_eq_j rfl c5 rfl ?_
      refine gR_go 1 (pc1 := 54) (L1 := [some (.ref 153), some (.int x1), some (.int x2), some (.int x3), some (.int x4), none]) (st1 := [.int (-1)]) (fun _ _ => rfl) ?_
      obtain ⟨rfl, rfl⟩ := gi2 h
      exact gR_ri rfl rfl
    · refine gR_iz_eq_f rfl c5 ?_
      refine gR_go 3 (pc1 := 21) (L1 := [some (.ref 153), some (.int x1), some (.int x2), some (.int x3), some (.int x4), none]) (st1 := [.int x3, .int x2, .ref 153]) (fun _ _ => rfl) ?_
      obtain ⟨t6, e7, h⟩ := gb h
      refine gR_cvI (wX11_isThing_s e7) (Nat.le_of_ble_eq_true rfl) rfl rfl rfl rfl rfl ?_
      rcases gif h with ⟨c8, h⟩ | ⟨c8, h⟩
      · refine gR_iz_eq_j rfl c8 rfl ?_
        refine gR_go 1 (pc1 := 54) (L1 := [some (.ref 153), some (.int x1), some (.int x2), some (.int x3), some (.int x4), none]) (st1 := [.int (-1)]) (fun _ _ => rfl) ?_
        obtain ⟨rfl, rfl⟩ := gi2 h
        exact gR_ri rfl rfl
      · refine gR_iz_eq_f rfl c8 ?_
        refine gR_go 3 (pc1 := 31) (L1 := [some (.ref 153), some (.int x1), some (.int x2), some (.int x3), some (.int x4), none]) (st1 := [.int x4, .int x2, .ref 153]) (fun _ _ => rfl) ?_
        obtain ⟨t9, e10, h⟩ := gb h
        refine gR_cvI (wX11_isThing_s e10) (Nat.le_of_ble_eq_true rfl) rfl rfl rfl rfl rfl ?_
        rcases gif h with ⟨c11, h⟩ | ⟨c11, h⟩
        · refine gR_iz_eq_j rfl c11 rfl ?_
          refine gR_go 1 (pc1 := 54) (L1 := [some (.ref 153), some (.int x1), some (.int x2), some (.int x3), some (.int x4), none]) (st1 := [.int (-1)]) (fun _ _ => rfl) ?_
          obtain ⟨rfl, rfl⟩ := gi2 h
          exact gR_ri rfl rfl
        · refine gR_iz_eq_f rfl c11 ?_
          refine gR_go 2 (pc1 := 40) (L1 := [some (.ref 153), some (.int x1), some (.int x2), some (.int x3), some (.int x4), none]) (st1 := [.int x4, .int x3]) (fun _ _ => rfl) ?_
          rcases gif h with ⟨c12, h⟩ | ⟨c12, h⟩
          · refine gR_ic_eq_j rfl c12 rfl ?_
            refine gR_go 1 (pc1 := 54) (L1 := [some (.ref 153), some (.int x1), some (.int x2), some (.int x3), some (.int x4), none]) (st1 := [.int (-1)]) (fun _ _ => rfl) ?_
            obtain ⟨rfl, rfl⟩ := gi2 h
            exact gR_ri rfl rfl
          · refine gR_ic_eq_f rfl c12 ?_
            refine gR_go 2 (pc1 := 45) (L1 := [some (.ref 153), some (.int x1), some (.int x2), some (.int x3), some (.int x4), none]) (st1 := [.int x1, .ref 153]) (fun _ _ => rfl) ?_
            obtain ⟨t13, e14, h⟩ := gb h
            refine gR_cvI (wX11_answersBy_s e14) (Nat.le_of_ble_eq_true rfl) rfl rfl rfl rfl rfl ?_
            refine gR_go 1 (pc1 := 50) (L1 := [some (.ref 153), some (.int x1), some (.int x2), some (.int x3), some (.int x4), none]) (st1 := [.int 9, .int t13]) (fun _ _ => rfl) ?_
            rcases gif h with ⟨c15, h⟩ | ⟨c15, h⟩
            · refine gR_ic_ne_f rfl c15 ?_
              refine gR_go 1 (pc1 := 54) (L1 := [some (.ref 153), some (.int x1), some (.int x2), some (.int x3), some (.int x4), none]) (st1 := [.int (-1)]) (fun _ _ => rfl) ?_
              obtain ⟨rfl, rfl⟩ := gi2 h
              exact gR_ri rfl rfl
            · refine gR_ic_ne_j rfl c15 rfl ?_
              refine gR_go 3 (pc1 := 59) (L1 := [some (.ref 153), some (.int x1), some (.int x2), some (.int x3), some (.int x4), none]) (st1 := [.ref 153, .int 5, .int 42]) (fun _ _ => rfl) ?_
              refine gR_gfR (k := 152) (k' := 163) rfl rfl rfl rfl ?_
              refine gR_go 1 (pc1 := 63) (L1 := [some (.ref 153), some (.int x1), some (.int x2), some (.int x3), some (.int x4), none]) (st1 := [.int 3, .ref 164, .int 5, .int 42]) (fun _ _ => rfl) ?_
              refine gR_ialc (k := 163) (j := 3) rfl rfl rfl (by decide) rfl ?_
              refine gR_go 4 (pc1 := 69) (L1 := [some (.ref 153), some (.int x1), some (.int x2), some (.int x3), some (.int x4), some (.int (42 + (5 * (s.1 163 3))))]) (st1 := [.ref 153]) (fun _ _ => rfl) ?_
              refine gR_gfR (k := 152) (k' := 163) rfl rfl rfl rfl ?_
              refine gR_go 2 (pc1 := 75) (L1 := [some (.ref 153), some (.int x1), some (.int x2), some (.int x3), some (.int x4), some (.int (42 + (5 * (s.1 163 3))))]) (st1 := [.int x1, .int (42 + (5 * (s.1 163 3))), .ref 164]) (fun _ _ => rfl) ?_
              obtain ⟨s17, es17, h⟩ := gb h
              refine gR_ias (k := 163) rfl rfl rfl es17 ?_
              refine gR_go 1 (pc1 := 77) (L1 := [some (.ref 153), some (.int x1), some (.int x2), some (.int x3), some (.int x4), some (.int (42 + (5 * (s.1 163 3))))]) (st1 := [.ref 153]) (fun _ _ => rfl) ?_
              refine gR_gfR (k := 152) (k' := 163) rfl rfl rfl rfl ?_
              refine gR_go 4 (pc1 := 85) (L1 := [some (.ref 153), some (.int x1), some (.int x2), some (.int x3), some (.int x4), some (.int (42 + (5 * (s.1 163 3))))]) (st1 := [.int x2, .int ((42 + (5 * (s.1 163 3))) + 1), .ref 164]) (fun _ _ => rfl) ?_
              obtain ⟨s18, es18, h⟩ := gb h
              refine gR_ias (k := 163) rfl rfl rfl es18 ?_
              refine gR_go 1 (pc1 := 87) (L1 := [some (.ref 153), some (.int x1), some (.int x2), some (.int x3), some (.int x4), some (.int (42 + (5 * (s.1 163 3))))]) (st1 := [.ref 153]) (fun _ _ => rfl) ?_
              refine gR_gfR (k := 152) (k' := 163) rfl rfl rfl rfl ?_
              refine gR_go 4 (pc1 := 95) (L1 := [some (.ref 153), some (.int x1), some (.int x2), some (.int x3), some (.int x4), some (.int (42 + (5 * (s.1 163 3))))]) (st1 := [.int x3, .int ((42 + (5 * (s.1 163 3))) + 2), .ref 164]) (fun _ _ => rfl) ?_
              obtain ⟨s19, es19, h⟩ := gb h
              refine gR_ias (k := 163) rfl rfl rfl es19 ?_
              refine gR_go 1 (pc1 := 97) (L1 := [some (.ref 153), some (.int x1), some (.int x2), some (.int x3), some (.int x4), some (.int (42 + (5 * (s.1 163 3))))]) (st1 := [.ref 153]) (fun _ _ => rfl) ?_
              refine gR_gfR (k := 152) (k' := 163) rfl rfl rfl rfl ?_
              refine gR_go 4 (pc1 := 106) (L1 := [some (.ref 153), some (.int x1), some (.int x2), some (.int x3), some (.int x4), some (.int (42 + (5 * (s.1 163 3))))]) (st1 := [.int x4, .int ((42 + (5 * (s.1 163 3))) + 3), .ref 164]) (fun _ _ => rfl) ?_
              obtain ⟨s20, es20, h⟩ := gb h
              refine gR_ias (k := 163) rfl rfl rfl es20 ?_
              refine gR_go 1 (pc1 := 108) (L1 := [some (.ref 153), some (.int x1), some (.int x2), some (.int x3), some (.int x4), some (.int (42 + (5 * (s.1 163 3))))]) (st1 := [.ref 153]) (fun _ _ => rfl) ?_
              refine gR_gfR (k := 152) (k' := 163) rfl rfl rfl rfl ?_
              refine gR_go 4 (pc1 := 116) (L1 := [some (.ref 153), some (.int x1), some (.int x2), some (.int x3), some (.int x4), some (.int (42 + (5 * (s.1 163 3))))]) (st1 := [.int 0, .int ((42 + (5 * (s.1 163 3))) + 4), .ref 164]) (fun _ _ => rfl) ?_
              obtain ⟨s21, es21, h⟩ := gb h
              refine gR_ias (k := 163) rfl rfl rfl es21 ?_
              refine gR_go 1 (pc1 := 118) (L1 := [some (.ref 153), some (.int x1), some (.int x2), some (.int x3), some (.int x4), some (.int (42 + (5 * (s.1 163 3))))]) (st1 := [.ref 153]) (fun _ _ => rfl) ?_
              refine gR_gfR (k := 152) (k' := 163) rfl rfl rfl rfl ?_
              refine gR_go 2 (pc1 := 123) (L1 := [some (.ref 153), some (.int x1), some (.int x2), some (.int x3), some (.int x4), some (.int (42 + (5 * (s.1 163 3))))]) (st1 := [.int 3, .ref 164, .int 3, .ref 164]) (fun _ _ => rfl) ?_
              refine gR_ialc (k := 163) (j := 3) rfl rfl rfl (by decide) rfl ?_
              refine gR_go 2 (pc1 := 126) (L1 := [some (.ref 153), some (.int x1), some (.int x2), some (.int x3), some (.int x4), some (.int (42 + (5 * (s.1 163 3))))]) (st1 := [.int ((s21.1 163 3) + 1), .int 3, .ref 164]) (fun _ _ => rfl) ?_
              obtain ⟨s23, es23, h⟩ := gb h
              refine gR_ias (k := 163) rfl rfl rfl es23 ?_
              refine gR_go 1 (pc1 := 128) (L1 := [some (.ref 153), some (.int x1), some (.int x2), some (.int x3), some (.int x4), some (.int (42 + (5 * (s.1 163 3))))]) (st1 := [.ref 153]) (fun _ _ => rfl) ?_
              refine gR_gfR (k := 152) (k' := 163) rfl rfl rfl rfl ?_
              refine gR_go 1 (pc1 := 132) (L1 := [some (.ref 153), some (.int x1), some (.int x2), some (.int x3), some (.int x4), some (.int (42 + (5 * (s.1 163 3))))]) (st1 := [.int 3, .ref 164]) (fun _ _ => rfl) ?_
              refine gR_ialc (k := 163) (j := 3) rfl rfl rfl (by decide) rfl ?_
              refine gR_go 2 (pc1 := 135) (L1 := [some (.ref 153), some (.int x1), some (.int x2), some (.int x3), some (.int x4), some (.int (42 + (5 * (s.1 163 3))))]) (st1 := [.int ((s23.1 163 3) - 1)]) (fun _ _ => rfl) ?_
              obtain ⟨rfl, rfl⟩ := gi2 h
              exact gR_ri rfl rfl
noncomputable def wX11_answers (x1 : Int32) (x2 : Int32) (s : wS) : Option (Int32) := (wX11_isAnswer x1 s).bind fun t1 => if t1 = 0 then (some (-1)) else ((wX11_in ((x2 : Int32).toInt64) 0 4 s).bind fun t4 => if t4 = 0 then (some (-1)) else ((wX11_answerOf x1 x2 s).bind fun t7 => some t7))
theorem wX11_answers_s {x1 : Int32} {x2 : Int32} {s : wS} {rv : Int32} (h : wX11_answers x1 x2 s = some rv) : gEv 2 225 [.ref 153, .int x1, .int x2] (wmk s) (some (.int rv), wmk s, 0, 0) := by
  refine gEv_of (d := 1) (L := [some (.ref 153), some (.int x1), some (.int x2)]) rfl ?_
  unfold wX11_answers at h
  refine gR_go 2 (pc1 := 2) (L1 := [some (.ref 153), some (.int x1), some (.int x2)]) (st1 := [.int x1, .ref 153]) (fun _ _ => rfl) ?_
  obtain ⟨t1, e2, h⟩ := gb h
  refine gR_cvI (wX11_isAnswer_s e2) (Nat.le_of_ble_eq_true rfl) rfl rfl rfl rfl rfl ?_
  rcases gif h with ⟨c3, h⟩ | ⟨c3, h⟩
  · refine gR_iz_eq_j rfl c3 rfl ?_
    refine gR_go 1 (pc1 := 30) (L1 := [some (.ref 153), some (.int x1), some (.int x2)]) (st1 := [.int (-1)]) (fun _ _ => rfl) ?_
    obtain rfl := gi1 h
    exact gR_ri rfl rfl
  · refine gR_iz_eq_f rfl c3 ?_
    refine gR_go 4 (pc1 := 14) (L1 := [some (.ref 153), some (.int x1), some (.int x2)]) (st1 := [.long 4, .long 0, .long ((x2 : Int32).toInt64)]) (fun _ _ => rfl) ?_
    obtain ⟨t4, e5, h⟩ := gb h
    refine gR_csI (wX11_in_s e5) (Nat.le_of_ble_eq_true rfl) rfl rfl rfl rfl ?_
    rcases gif h with ⟨c6, h⟩ | ⟨c6, h⟩
    · refine gR_iz_eq_j rfl c6 rfl ?_
      refine gR_go 1 (pc1 := 30) (L1 := [some (.ref 153), some (.int x1), some (.int x2)]) (st1 := [.int (-1)]) (fun _ _ => rfl) ?_
      obtain rfl := gi1 h
      exact gR_ri rfl rfl
    · refine gR_iz_eq_f rfl c6 ?_
      refine gR_go 3 (pc1 := 23) (L1 := [some (.ref 153), some (.int x1), some (.int x2)]) (st1 := [.int x2, .int x1, .ref 153]) (fun _ _ => rfl) ?_
      obtain ⟨t7, e8, h⟩ := gb h
      refine gR_cvI (wX11_answerOf_s e8) (Nat.le_of_ble_eq_true rfl) rfl rfl rfl rfl rfl ?_
      refine gR_go 1 (pc1 := 30) (L1 := [some (.ref 153), some (.int x1), some (.int x2)]) (st1 := [.int t7]) (fun _ _ => rfl) ?_
      obtain rfl := gi1 h
      exact gR_ri rfl rfl
noncomputable def wX11_strike_j50 (y1 : Int32) (y2 : Int32) (s : wS) : Option (Int32 × wS) := (wstI s 163 262 y1 y2).bind fun s9 => some (1, s9)
theorem wX11_strike_u50 {y1 : Int32} {y2 : Int32} {s : wS} {w1 : Int32} {w2 : Int32} {rv : Int32} {rs : wS} (h : wX11_strike_j50 y1 y2 s = some (rv, rs)) : gRun 1 226 50 [some (.ref 153), some (.int w1), some (.int w2)] [.int y2, .int y1, .ref 164] (wmk s) (some (.int rv), wmk rs, 0, 0) := by
  unfold wX11_strike_j50 at h
  obtain ⟨s9, es9, h⟩ := gb h
  refine gR_ias (k := 163) rfl rfl rfl es9 ?_
  refine gR_go 1 (pc1 := 52) (L1 := [some (.ref 153), some (.int w1), some (.int w2)]) (st1 := [.int 1]) (fun _ _ => rfl) ?_
  obtain ⟨rfl, rfl⟩ := gi2 h
  exact gR_rzc rfl rfl rfl
noncomputable def wX11_strike_j23 (x1 : Int32) (x2 : Int32) (y0 : Int32) (s : wS) : Option (Int32 × wS) := if y0 = x2 then (some (0, s)) else (if x2 = 0 then (wX11_strike_j50 ((42 + (5 * x1)) + 4) 0 s) else (wX11_strike_j50 ((42 + (5 * x1)) + 4) 1 s))
theorem wX11_strike_u23 {x1 : Int32} {x2 : Int32} {y0 : Int32} {s : wS} {rv : Int32} {rs : wS} (h : wX11_strike_j23 x1 x2 y0 s = some (rv, rs)) : gRun 1 226 23 [some (.ref 153), some (.int x1), some (.int x2)] [.int y0] (wmk s) (some (.int rv), wmk rs, 0, 0) := by
  unfold wX11_strike_j23 at h
  refine gR_go 1 (pc1 := 24) (L1 := [some (.ref 153), some (.int x1), some (.int x2)]) (st1 := [.int x2, .int y0]) (fun _ _ => rfl) ?_
  rcases gif h with ⟨c7, h⟩ | ⟨c7, h⟩
  · refine gR_ic_ne_f rfl c7 ?_
    refine gR_go 1 (pc1 := 28) (L1 := [some (.ref 153), some (.int x1), some (.int x2)]) (st1 := [.int 0]) (fun _ _ => rfl) ?_
    obtain ⟨rfl, rfl⟩ := gi2 h
    exact gR_rzc rfl rfl rfl
  · refine gR_ic_ne_j rfl c7 rfl ?_
    refine gR_go 1 (pc1 := 30) (L1 := [some (.ref 153), some (.int x1), some (.int x2)]) (st1 := [.ref 153]) (fun _ _ => rfl) ?_
    refine gR_gfR (k := 152) (k' := 163) rfl rfl rfl rfl ?_
    refine gR_go 8 (pc1 := 42) (L1 := [some (.ref 153), some (.int x1), some (.int x2)]) (st1 := [.int x2, .int ((42 + (5 * x1)) + 4), .ref 164]) (fun _ _ => rfl) ?_
    rcases gif h with ⟨c8, h⟩ | ⟨c8, h⟩
    · refine gR_iz_eq_j rfl c8 rfl ?_
      refine gR_go 1 (pc1 := 50) (L1 := [some (.ref 153), some (.int x1), some (.int x2)]) (st1 := [.int 0, .int ((42 + (5 * x1)) + 4), .ref 164]) (fun _ _ => rfl) ?_
      exact wX11_strike_u50 h
    · refine gR_iz_eq_f rfl c8 ?_
      refine gR_go 2 (pc1 := 50) (L1 := [some (.ref 153), some (.int x1), some (.int x2)]) (st1 := [.int 1, .int ((42 + (5 * x1)) + 4), .ref 164]) (fun _ _ => rfl) ?_
      exact wX11_strike_u50 h
noncomputable def wX11_strike (x1 : Int32) (x2 : Int32) (s : wS) : Option (Int32 × wS) := (wX11_isAnswer x1 s).bind fun t1 => if t1 = 0 then (some (0, s)) else ((wX11_answerOf x1 4 s).bind fun t4 => if t4 = 1 then (wX11_strike_j23 x1 x2 1 s) else (wX11_strike_j23 x1 x2 0 s))
theorem wX11_strike_s {x1 : Int32} {x2 : Int32} {s : wS} {rv : Int32} {rs : wS} (h : wX11_strike x1 x2 s = some (rv, rs)) : gEv 2 226 [.ref 153, .int x1, .int x2] (wmk s) (some (.int rv), wmk rs, 0, 0) := by
  refine gEv_of (d := 1) (L := [some (.ref 153), some (.int x1), some (.int x2)]) rfl ?_
  unfold wX11_strike at h
  refine gR_go 2 (pc1 := 2) (L1 := [some (.ref 153), some (.int x1), some (.int x2)]) (st1 := [.int x1, .ref 153]) (fun _ _ => rfl) ?_
  obtain ⟨t1, e2, h⟩ := gb h
  refine gR_cvI (wX11_isAnswer_s e2) (Nat.le_of_ble_eq_true rfl) rfl rfl rfl rfl rfl ?_
  rcases gif h with ⟨c3, h⟩ | ⟨c3, h⟩
  · refine gR_iz_eq_j rfl c3 rfl ?_
    refine gR_go 1 (pc1 := 28) (L1 := [some (.ref 153), some (.int x1), some (.int x2)]) (st1 := [.int 0]) (fun _ _ => rfl) ?_
    obtain ⟨rfl, rfl⟩ := gi2 h
    exact gR_rzc rfl rfl rfl
  · refine gR_iz_eq_f rfl c3 ?_
    refine gR_go 3 (pc1 := 11) (L1 := [some (.ref 153), some (.int x1), some (.int x2)]) (st1 := [.int 4, .int x1, .ref 153]) (fun _ _ => rfl) ?_
    obtain ⟨t4, e5, h⟩ := gb h
    refine gR_cvI (wX11_answerOf_s e5) (Nat.le_of_ble_eq_true rfl) rfl rfl rfl rfl rfl ?_
    refine gR_go 1 (pc1 := 15) (L1 := [some (.ref 153), some (.int x1), some (.int x2)]) (st1 := [.int 1, .int t4]) (fun _ _ => rfl) ?_
    rcases gif h with ⟨c6, h⟩ | ⟨c6, h⟩
    · refine gR_ic_ne_f rfl c6 ?_
      refine gR_go 2 (pc1 := 23) (L1 := [some (.ref 153), some (.int x1), some (.int x2)]) (st1 := [.int 1]) (fun _ _ => rfl) ?_
      exact wX11_strike_u23 h
    · refine gR_ic_ne_j rfl c6 rfl ?_
      refine gR_go 1 (pc1 := 23) (L1 := [some (.ref 153), some (.int x1), some (.int x2)]) (st1 := [.int 0]) (fun _ _ => rfl) ?_
      exact wX11_strike_u23 h
noncomputable def wX11_only (x1 : Int32) (s : wS) : Option (Int32 × wS) := (wX11_in ((x1 : Int32).toInt64) (-1) 40 s).bind fun t1 => if t1 = 0 then (some (((Int8.ofInt (-2)).toInt32), s)) else ((wstI s 163 262 4 x1).bind fun s5 => some ((s.1 163 4), s5))
theorem wX11_only_s {x1 : Int32} {s : wS} {rv : Int32} {rs : wS} (h : wX11_only x1 s = some (rv, rs)) : gEv 2 227 [.ref 153, .int x1] (wmk s) (some (.int rv), wmk rs, 0, 0) := by
  refine gEv_of (d := 1) (L := [some (.ref 153), some (.int x1), none]) rfl ?_
  unfold wX11_only at h
  refine gR_go 4 (pc1 := 8) (L1 := [some (.ref 153), some (.int x1), none]) (st1 := [.long 40, .long (-1), .long ((x1 : Int32).toInt64)]) (fun _ _ => rfl) ?_
  obtain ⟨t1, e2, h⟩ := gb h
  refine gR_csI (wX11_in_s e2) (Nat.le_of_ble_eq_true rfl) rfl rfl rfl rfl ?_
  rcases gif h with ⟨c3, h⟩ | ⟨c3, h⟩
  · refine gR_iz_ne_f rfl c3 ?_
    refine gR_go 1 (pc1 := 16) (L1 := [some (.ref 153), some (.int x1), none]) (st1 := [.int ((Int8.ofInt (-2)).toInt32)]) (fun _ _ => rfl) ?_
    obtain ⟨rfl, rfl⟩ := gi2 h
    exact gR_ri rfl rfl
  · refine gR_iz_ne_j rfl c3 rfl ?_
    refine gR_go 1 (pc1 := 18) (L1 := [some (.ref 153), some (.int x1), none]) (st1 := [.ref 153]) (fun _ _ => rfl) ?_
    refine gR_gfR (k := 152) (k' := 163) rfl rfl rfl rfl ?_
    refine gR_go 1 (pc1 := 22) (L1 := [some (.ref 153), some (.int x1), none]) (st1 := [.int 4, .ref 164]) (fun _ _ => rfl) ?_
    refine gR_ialc (k := 163) (j := 4) rfl rfl rfl (by decide) rfl ?_
    refine gR_go 2 (pc1 := 25) (L1 := [some (.ref 153), some (.int x1), some (.int (s.1 163 4))]) (st1 := [.ref 153]) (fun _ _ => rfl) ?_
    refine gR_gfR (k := 152) (k' := 163) rfl rfl rfl rfl ?_
    refine gR_go 2 (pc1 := 30) (L1 := [some (.ref 153), some (.int x1), some (.int (s.1 163 4))]) (st1 := [.int x1, .int 4, .ref 164]) (fun _ _ => rfl) ?_
    obtain ⟨s5, es5, h⟩ := gb h
    refine gR_ias (k := 163) rfl rfl rfl es5 ?_
    refine gR_go 1 (pc1 := 32) (L1 := [some (.ref 153), some (.int x1), some (.int (s.1 163 4))]) (st1 := [.int (s.1 163 4)]) (fun _ _ => rfl) ?_
    obtain ⟨rfl, rfl⟩ := gi2 h
    exact gR_ri rfl rfl
noncomputable def wX11_isLookedAt_j29 (s : wS) : Option (Int32) := some 1
theorem wX11_isLookedAt_u29 {s : wS} {w1 : Int32} {rv : Int32} (h : wX11_isLookedAt_j29 s = some rv) : gRun 1 228 29 [some (.ref 153), some (.int w1)] [] (wmk s) (some (.int rv), wmk s, 0, 0) := by
  unfold wX11_isLookedAt_j29 at h
  refine gR_go 2 (pc1 := 34) (L1 := [some (.ref 153), some (.int w1)]) (st1 := [.int 1]) (fun _ _ => rfl) ?_
  obtain rfl := gi1 h
  exact gR_rzc rfl rfl rfl
noncomputable def wX11_isLookedAt (x1 : Int32) (s : wS) : Option (Int32) := (wX11_answerOf x1 4 s).bind fun t1 => if t1 = 0 then (if (s.1 163 4) = (-1) then (wX11_isLookedAt_j29 s) else (if x1 < (s.1 163 4) then (wX11_isLookedAt_j29 s) else (some 0))) else (some 0)
theorem wX11_isLookedAt_s {x1 : Int32} {s : wS} {rv : Int32} (h : wX11_isLookedAt x1 s = some rv) : gEv 2 228 [.ref 153, .int x1] (wmk s) (some (.int rv), wmk s, 0, 0) := by
  refine gEv_of (d := 1) (L := [some (.ref 153), some (.int x1)]) rfl ?_
  unfold wX11_isLookedAt at h
  refine gR_go 3 (pc1 := 3) (L1 := [some (.ref 153), some (.int x1)]) (st1 := [.int 4, .int x1, .ref 153]) (fun _ _ => rfl) ?_
  obtain ⟨t1, e2, h⟩ := gb h
  refine gR_cvI (wX11_answerOf_s e2) (Nat.le_of_ble_eq_true rfl) rfl rfl rfl rfl rfl ?_
  rcases gif h with ⟨c3, h⟩ | ⟨c3, h⟩
  · refine gR_iz_ne_f rfl c3 ?_
    refine gR_go 1 (pc1 := 10) (L1 := [some (.ref 153), some (.int x1)]) (st1 := [.ref 153]) (fun _ _ => rfl) ?_
    refine gR_gfR (k := 152) (k' := 163) rfl rfl rfl rfl ?_
    refine gR_go 1 (pc1 := 14) (L1 := [some (.ref 153), some (.int x1)]) (st1 := [.int 4, .ref 164]) (fun _ _ => rfl) ?_
    refine gR_ialc (k := 163) (j := 4) rfl rfl rfl (by decide) rfl ?_
    refine gR_go 1 (pc1 := 16) (L1 := [some (.ref 153), some (.int x1)]) (st1 := [.int (-1), .int (s.1 163 4)]) (fun _ _ => rfl) ?_
    rcases gif h with ⟨c5, h⟩ | ⟨c5, h⟩
    · refine gR_ic_eq_j rfl c5 rfl ?_
      exact wX11_isLookedAt_u29 h
    · refine gR_ic_eq_f rfl c5 ?_
      refine gR_go 2 (pc1 := 21) (L1 := [some (.ref 153), some (.int x1)]) (st1 := [.ref 153, .int x1]) (fun _ _ => rfl) ?_
      refine gR_gfR (k := 152) (k' := 163) rfl rfl rfl rfl ?_
      refine gR_go 1 (pc1 := 25) (L1 := [some (.ref 153), some (.int x1)]) (st1 := [.int 4, .ref 164, .int x1]) (fun _ _ => rfl) ?_
      refine gR_ialc (k := 163) (j := 4) rfl rfl rfl (by decide) rfl ?_
      rcases gif h with ⟨c7, h⟩ | ⟨c7, h⟩
      · refine gR_ic_ge_f rfl c7 ?_
        exact wX11_isLookedAt_u29 h
      · refine gR_ic_ge_j rfl c7 rfl ?_
        refine gR_go 1 (pc1 := 34) (L1 := [some (.ref 153), some (.int x1)]) (st1 := [.int 0]) (fun _ _ => rfl) ?_
        obtain rfl := gi1 h
        exact gR_rzc rfl rfl rfl
  · refine gR_iz_ne_j rfl c3 rfl ?_
    refine gR_go 1 (pc1 := 34) (L1 := [some (.ref 153), some (.int x1)]) (st1 := [.int 0]) (fun _ _ => rfl) ?_
    obtain rfl := gi1 h
    exact gR_rzc rfl rfl rfl
noncomputable def wX11_reaches_h22 (x1 : Int32) (x2 : Int32) (x3 : Int32) : Nat → Int32 → wS → Option (wS)
  | 0, _, _ => none
  | n + 1, x4, s => (wldI s 163 262 x2).bind fun t4 => if x4 < t4 then ((wX11_farBy x1 x2 x3 x4 s).bind fun (t6, s7) => (wstL s7 164 192 (((64 * x2) + (8 * x3)) + x4) t6).bind fun s9 => wX11_reaches_h22 x1 x2 x3 n (x4 + 1) s9) else (some s)
theorem wX11_reaches_t22 {x1 : Int32} {x2 : Int32} {x3 : Int32} {x : wS} {r : ri_R} (he65 : ∀ (s : wS) (w4 : Int32) , x = s → gRun 3 229 65 [some (.ref 153), some (.int x1), some (.int x2), some (.int x3), some (.int w4)] [] (wmk s) r) : ∀ {n : Nat} {x4 : Int32} {s : wS} , wX11_reaches_h22 x1 x2 x3 n x4 s = some x → gRun 3 229 22 [some (.ref 153), some (.int x1), some (.int x2), some (.int x3), some (.int x4)] [] (wmk s) r := by
  intro n
  induction n with
  | zero => intro x4 s h; cases (show (none : Option (wS)) = some x from h)
  | succ n ih =>
    intro x4 s h
    rw [wX11_reaches_h22] at h
    refine gR_go 2 (pc1 := 25) (L1 := [some (.ref 153), some (.int x1), some (.int x2), some (.int x3), some (.int x4)]) (st1 := [.ref 153, .int x4]) (fun _ _ => rfl) ?_
    refine gR_gfR (k := 152) (k' := 163) rfl rfl rfl rfl ?_
    refine gR_go 1 (pc1 := 29) (L1 := [some (.ref 153), some (.int x1), some (.int x2), some (.int x3), some (.int x4)]) (st1 := [.int x2, .ref 164, .int x4]) (fun _ _ => rfl) ?_
    obtain ⟨t4, et4, h⟩ := gb h
    refine gR_ial (k := 163) rfl rfl rfl et4 ?_
    rcases gif h with ⟨c5, h⟩ | ⟨c5, h⟩
    · refine gR_ic_ge_f rfl c5 ?_
      refine gR_go 1 (pc1 := 34) (L1 := [some (.ref 153), some (.int x1), some (.int x2), some (.int x3), some (.int x4)]) (st1 := [.ref 153]) (fun _ _ => rfl) ?_
      refine gR_gfR (k := 152) (k' := 164) rfl rfl rfl rfl ?_
      refine gR_go 14 (pc1 := 55) (L1 := [some (.ref 153), some (.int x1), some (.int x2), some (.int x3), some (.int x4)]) (st1 := [.int x4, .int x3, .int x2, .int x1, .ref 153, .int (((64 * x2) + (8 * x3)) + x4), .ref 165]) (fun _ _ => rfl) ?_
      obtain ⟨⟨t6, s7⟩, e8, h⟩ := gb h
      dsimp only at h
      refine gR_cvL (wX11_farBy_s e8) (Nat.le_of_ble_eq_true rfl) rfl rfl rfl rfl rfl ?_
      obtain ⟨s9, es9, h⟩ := gb h
      refine gR_las (k := 164) rfl rfl rfl es9 ?_
      refine gR_go 2 (pc1 := 22) (L1 := [some (.ref 153), some (.int x1), some (.int x2), some (.int x3), some (.int (x4 + 1))]) (st1 := []) (fun _ _ => rfl) ?_
      exact ih h
    · refine gR_ic_ge_j rfl c5 rfl ?_
      exact he65 _ _ (Option.some.inj h).symm
noncomputable def wX11_reaches_h9 (x1 : Int32) (x2 : Int32) : Nat → Int32 → wS → Option (wS)
  | 0, _, _ => none
  | n + 1, x3, s => (wldI s 163 262 x2).bind fun t2 => if x3 < t2 then ((wX11_reaches_h22 x1 x2 x3 wFuel 0 s).bind fun s11 => wX11_reaches_h9 x1 x2 n (x3 + 1) s11) else (some s)
theorem wX11_reaches_t9 {x1 : Int32} {x2 : Int32} {x : wS} {r : ri_R} (he71 : ∀ (s : wS) (w3 : Int32) (w4 : Option Value) , x = s → gRun 3 229 71 [some (.ref 153), some (.int x1), some (.int x2), some (.int w3), w4] [] (wmk s) r) : ∀ {n : Nat} {x3 : Int32} {s : wS} {w4 : Option Value} , wX11_reaches_h9 x1 x2 n x3 s = some x → gRun 3 229 9 [some (.ref 153), some (.int x1), some (.int x2), some (.int x3), w4] [] (wmk s) r := by
  intro n
  induction n with
  | zero => intro x3 s w4 h; cases (show (none : Option (wS)) = some x from h)
  | succ n ih =>
    intro x3 s w4 h
    rw [wX11_reaches_h9] at h
    refine gR_go 2 (pc1 := 11) (L1 := [some (.ref 153), some (.int x1), some (.int x2), some (.int x3), w4]) (st1 := [.ref 153, .int x3]) (fun _ _ => rfl) ?_
    refine gR_gfR (k := 152) (k' := 163) rfl rfl rfl rfl ?_
    refine gR_go 1 (pc1 := 15) (L1 := [some (.ref 153), some (.int x1), some (.int x2), some (.int x3), w4]) (st1 := [.int x2, .ref 164, .int x3]) (fun _ _ => rfl) ?_
    obtain ⟨t2, et2, h⟩ := gb h
    refine gR_ial (k := 163) rfl rfl rfl et2 ?_
    rcases gif h with ⟨c3, h⟩ | ⟨c3, h⟩
    · refine gR_ic_ge_f rfl c3 ?_
      refine gR_go 2 (pc1 := 22) (L1 := [some (.ref 153), some (.int x1), some (.int x2), some (.int x3), some (.int 0)]) (st1 := []) (fun _ _ => rfl) ?_
      obtain ⟨z10, ez10, h⟩ := gb h
      refine wX11_reaches_t22 ?_  ez10
      · intro s11 w12 hz
        replace hz := hz.symm
        subst hz
        refine gR_go 2 (pc1 := 9) (L1 := [some (.ref 153), some (.int x1), some (.int x2), some (.int (x3 + 1)), some (.int w12)]) (st1 := []) (fun _ _ => rfl) ?_
        exact ih h
    · refine gR_ic_ge_j rfl c3 rfl ?_
      exact he71 _ _ _ (Option.some.inj h).symm
noncomputable def wX11_reaches_h2 (x1 : Int32) : Nat → Int32 → wS → Option (wS)
  | 0, _, _ => none
  | n + 1, x2, s => if x2 < 3 then ((wX11_reaches_h9 x1 x2 wFuel 0 s).bind fun s14 => wX11_reaches_h2 x1 n (x2 + 1) s14) else (some s)
theorem wX11_reaches_t2 {x1 : Int32} {x : wS} {r : ri_R} (he77 : ∀ (s : wS) (w1 : Int32) (w2 : Int32) (w3 : Option Value) (w4 : Option Value) , x = s → gRun 3 229 77 [some (.ref 153), some (.int w1), some (.int w2), w3, w4] [] (wmk s) r) : ∀ {n : Nat} {x2 : Int32} {s : wS} {w3 : Option Value} {w4 : Option Value} , wX11_reaches_h2 x1 n x2 s = some x → gRun 3 229 2 [some (.ref 153), some (.int x1), some (.int x2), w3, w4] [] (wmk s) r := by
  intro n
  induction n with
  | zero => intro x2 s w3 w4 h; cases (show (none : Option (wS)) = some x from h)
  | succ n ih =>
    intro x2 s w3 w4 h
    rw [wX11_reaches_h2] at h
    refine gR_go 2 (pc1 := 4) (L1 := [some (.ref 153), some (.int x1), some (.int x2), w3, w4]) (st1 := [.int 3, .int x2]) (fun _ _ => rfl) ?_
    rcases gif h with ⟨c1, h⟩ | ⟨c1, h⟩
    · refine gR_ic_ge_f rfl c1 ?_
      refine gR_go 2 (pc1 := 9) (L1 := [some (.ref 153), some (.int x1), some (.int x2), some (.int 0), w4]) (st1 := []) (fun _ _ => rfl) ?_
      obtain ⟨z13, ez13, h⟩ := gb h
      refine wX11_reaches_t9 ?_  ez13
      · intro s14 w15 w16 hz
        replace hz := hz.symm
        subst hz
        refine gR_go 2 (pc1 := 2) (L1 := [some (.ref 153), some (.int x1), some (.int (x2 + 1)), some (.int w15), w16]) (st1 := []) (fun _ _ => rfl) ?_
        exact ih h
    · refine gR_ic_ge_j rfl c1 rfl ?_
      exact he77 _ _ _ _ _ (Option.some.inj h).symm
noncomputable def wX11_reaches (x1 : Int32) (s : wS) : Option (wS) := (wX11_reaches_h2 x1 wFuel 0 s).bind fun s18 => some s18
theorem wX11_reaches_s {x1 : Int32} {s : wS} {rs : wS} (h : wX11_reaches x1 s = some rs) : gEv 4 229 [.ref 153, .int x1] (wmk s) (none, wmk rs, 0, 0) := by
  refine gEv_of (d := 3) (L := [some (.ref 153), some (.int x1), none, none, none]) rfl ?_
  unfold wX11_reaches at h
  refine gR_go 2 (pc1 := 2) (L1 := [some (.ref 153), some (.int x1), some (.int 0), none, none]) (st1 := []) (fun _ _ => rfl) ?_
  obtain ⟨z17, ez17, h⟩ := gb h
  refine wX11_reaches_t2 ?_  ez17
  · intro s18 w19 w20 w21 w22 hz
    replace hz := hz.symm
    subst hz
    obtain rfl := gi1 h
    exact gR_rv rfl rfl
noncomputable def wX11_isNearer (x1 : Int32) (x2 : Int32) (x3 : Int32) (x4 : Int32) (s : wS) : Option (Int32) := (wX11_thingOf x4 x1 s).bind fun t1 => (wldL s 164 192 (((64 * x1) + (8 * x2)) + t1)).bind fun t3 => (wldL s 164 192 (((64 * x1) + (8 * x3)) + t1)).bind fun t4 => if t4 < t3 then (some 0) else (some 1)
theorem wX11_isNearer_s {x1 : Int32} {x2 : Int32} {x3 : Int32} {x4 : Int32} {s : wS} {rv : Int32} (h : wX11_isNearer x1 x2 x3 x4 s = some rv) : gEv 2 230 [.ref 153, .int x1, .int x2, .int x3, .int x4] (wmk s) (some (.int rv), wmk s, 0, 0) := by
  refine gEv_of (d := 1) (L := [some (.ref 153), some (.int x1), some (.int x2), some (.int x3), some (.int x4), none]) rfl ?_
  unfold wX11_isNearer at h
  refine gR_go 3 (pc1 := 4) (L1 := [some (.ref 153), some (.int x1), some (.int x2), some (.int x3), some (.int x4), none]) (st1 := [.int x1, .int x4, .ref 153]) (fun _ _ => rfl) ?_
  obtain ⟨t1, e2, h⟩ := gb h
  refine gR_cvI (wX11_thingOf_s e2) (Nat.le_of_ble_eq_true rfl) rfl rfl rfl rfl rfl ?_
  refine gR_go 2 (pc1 := 10) (L1 := [some (.ref 153), some (.int x1), some (.int x2), some (.int x3), some (.int x4), some (.int t1)]) (st1 := [.ref 153]) (fun _ _ => rfl) ?_
  refine gR_gfR (k := 152) (k' := 164) rfl rfl rfl rfl ?_
  refine gR_go 9 (pc1 := 25) (L1 := [some (.ref 153), some (.int x1), some (.int x2), some (.int x3), some (.int x4), some (.int t1)]) (st1 := [.int (((64 * x1) + (8 * x2)) + t1), .ref 165]) (fun _ _ => rfl) ?_
  obtain ⟨t3, et3, h⟩ := gb h
  refine gR_lal (k := 164) rfl rfl rfl et3 ?_
  refine gR_go 1 (pc1 := 27) (L1 := [some (.ref 153), some (.int x1), some (.int x2), some (.int x3), some (.int x4), some (.int t1)]) (st1 := [.ref 153, .long t3]) (fun _ _ => rfl) ?_
  refine gR_gfR (k := 152) (k' := 164) rfl rfl rfl rfl ?_
  refine gR_go 9 (pc1 := 42) (L1 := [some (.ref 153), some (.int x1), some (.int x2), some (.int x3), some (.int x4), some (.int t1)]) (st1 := [.int (((64 * x1) + (8 * x3)) + t1), .ref 165, .long t3]) (fun _ _ => rfl) ?_
  obtain ⟨t4, et4, h⟩ := gb h
  refine gR_lal (k := 164) rfl rfl rfl et4 ?_
  refine gR_go 1 (pc1 := 44) (L1 := [some (.ref 153), some (.int x1), some (.int x2), some (.int x3), some (.int x4), some (.int t1)]) (st1 := [.int (lg_cmp t3 t4)]) (fun _ _ => rfl) ?_
  rcases gif h with ⟨c5, h⟩ | ⟨c5, h⟩
  · refine gR_lc_gt_j rfl c5 rfl ?_
    refine gR_go 1 (pc1 := 52) (L1 := [some (.ref 153), some (.int x1), some (.int x2), some (.int x3), some (.int x4), some (.int t1)]) (st1 := [.int 0]) (fun _ _ => rfl) ?_
    obtain rfl := gi1 h
    exact gR_rzc rfl rfl rfl
  · refine gR_lc_gt_f rfl c5 ?_
    refine gR_go 2 (pc1 := 52) (L1 := [some (.ref 153), some (.int x1), some (.int x2), some (.int x3), some (.int x4), some (.int t1)]) (st1 := [.int 1]) (fun _ _ => rfl) ?_
    obtain rfl := gi1 h
    exact gR_rzc rfl rfl rfl
noncomputable def wX11_isTrue (x1 : Int32) (x2 : Int32) (s : wS) : Option (Int32) := (wX11_answerOf x1 1 s).bind fun t1 => (wX11_answerOf x1 2 s).bind fun t3 => (wX11_answerOf x1 3 s).bind fun t5 => (wX11_isNearer t1 t3 t5 x2 s).bind fun t7 => wrtZ t7
theorem wX11_isTrue_s {x1 : Int32} {x2 : Int32} {s : wS} {rv : Int32} (h : wX11_isTrue x1 x2 s = some rv) : gEv 3 231 [.ref 153, .int x1, .int x2] (wmk s) (some (.int rv), wmk s, 0, 0) := by
  refine gEv_of (d := 2) (L := [some (.ref 153), some (.int x1), some (.int x2)]) rfl ?_
  unfold wX11_isTrue at h
  refine gR_go 4 (pc1 := 4) (L1 := [some (.ref 153), some (.int x1), some (.int x2)]) (st1 := [.int 1, .int x1, .ref 153, .ref 153]) (fun _ _ => rfl) ?_
  obtain ⟨t1, e2, h⟩ := gb h
  refine gR_cvI (wX11_answerOf_s e2) (Nat.le_of_ble_eq_true rfl) rfl rfl rfl rfl rfl ?_
  refine gR_go 3 (pc1 := 10) (L1 := [some (.ref 153), some (.int x1), some (.int x2)]) (st1 := [.int 2, .int x1, .ref 153, .int t1, .ref 153]) (fun _ _ => rfl) ?_
  obtain ⟨t3, e4, h⟩ := gb h
  refine gR_cvI (wX11_answerOf_s e4) (Nat.le_of_ble_eq_true rfl) rfl rfl rfl rfl rfl ?_
  refine gR_go 3 (pc1 := 16) (L1 := [some (.ref 153), some (.int x1), some (.int x2)]) (st1 := [.int 3, .int x1, .ref 153, .int t3, .int t1, .ref 153]) (fun _ _ => rfl) ?_
  obtain ⟨t5, e6, h⟩ := gb h
  refine gR_cvI (wX11_answerOf_s e6) (Nat.le_of_ble_eq_true rfl) rfl rfl rfl rfl rfl ?_
  refine gR_go 1 (pc1 := 20) (L1 := [some (.ref 153), some (.int x1), some (.int x2)]) (st1 := [.int x2, .int t5, .int t3, .int t1, .ref 153]) (fun _ _ => rfl) ?_
  obtain ⟨t7, e8, h⟩ := gb h
  refine gR_cvI (wX11_isNearer_s e8) (Nat.le_of_ble_eq_true rfl) rfl rfl rfl rfl rfl ?_
  exact gR_rz rfl rfl h
noncomputable def wX11_wrongIn_j47 (qq : Int32 → Int32 → Option (Int32)) (x1 : Int32) (x2 : Int32) (x4 : Int32) (y0 : Int32) (y1 : Int32) (s : wS) : Option (Int32) := qq (y0 + y1) (x4 + 1)
theorem wX11_wrongIn_u47 {x1 : Int32} {x2 : Int32} {x4 : Int32} {y0 : Int32} {y1 : Int32} {s : wS} {w3 : Int32} {qq : Int32 → Int32 → Option (Int32)} {x : Int32} {r : ri_R} (ih : ∀ {x3 : Int32} {x4 : Int32} , qq x3 x4 = some x → gRun 3 232 5 [some (.ref 153), some (.int x1), some (.int x2), some (.int x3), some (.int x4)] [] (wmk s) r) (he55 : ∀ (x3 : Int32) (w1 : Int32) (w2 : Int32) (w4 : Int32) , x = x3 → gRun 3 232 55 [some (.ref 153), some (.int w1), some (.int w2), some (.int x3), some (.int w4)] [] (wmk s) r) (h : wX11_wrongIn_j47 qq x1 x2 x4 y0 y1 s = some x) : gRun 3 232 47 [some (.ref 153), some (.int x1), some (.int x2), some (.int w3), some (.int x4)] [.int y1, .int y0] (wmk s) r := by
  unfold wX11_wrongIn_j47 at h
  refine gR_go 4 (pc1 := 5) (L1 := [some (.ref 153), some (.int x1), some (.int x2), some (.int (y0 + y1)), some (.int (x4 + 1))]) (st1 := []) (fun _ _ => rfl) ?_
  exact ih h
noncomputable def wX11_wrongIn_j46 (qq : Int32 → Int32 → Option (Int32)) (x1 : Int32) (x2 : Int32) (x4 : Int32) (y0 : Int32) (s : wS) : Option (Int32) := wX11_wrongIn_j47 qq x1 x2 x4 y0 0 s
theorem wX11_wrongIn_u46 {x1 : Int32} {x2 : Int32} {x4 : Int32} {y0 : Int32} {s : wS} {w3 : Int32} {qq : Int32 → Int32 → Option (Int32)} {x : Int32} {r : ri_R} (ih : ∀ {x3 : Int32} {x4 : Int32} , qq x3 x4 = some x → gRun 3 232 5 [some (.ref 153), some (.int x1), some (.int x2), some (.int x3), some (.int x4)] [] (wmk s) r) (he55 : ∀ (x3 : Int32) (w1 : Int32) (w2 : Int32) (w4 : Int32) , x = x3 → gRun 3 232 55 [some (.ref 153), some (.int w1), some (.int w2), some (.int x3), some (.int w4)] [] (wmk s) r) (h : wX11_wrongIn_j46 qq x1 x2 x4 y0 s = some x) : gRun 3 232 46 [some (.ref 153), some (.int x1), some (.int x2), some (.int w3), some (.int x4)] [.int y0] (wmk s) r := by
  unfold wX11_wrongIn_j46 at h
  refine gR_go 1 (pc1 := 47) (L1 := [some (.ref 153), some (.int x1), some (.int x2), some (.int w3), some (.int x4)]) (st1 := [.int 0, .int y0]) (fun _ _ => rfl) ?_
  exact wX11_wrongIn_u47 ih he55 h
noncomputable def wX11_wrongIn_h5 (x1 : Int32) (x2 : Int32) (s : wS) : Nat → Int32 → Int32 → Option (Int32)
  | 0, _, _ => none
  | n + 1, x3, x4 => if x4 < (s.1 163 3) then (if x4 = x2 then (wX11_wrongIn_j46 (wX11_wrongIn_h5 x1 x2 s n) x1 x2 x4 x3 s) else ((wX11_isLookedAt x4 s).bind fun t4 => if t4 = 0 then (wX11_wrongIn_j46 (wX11_wrongIn_h5 x1 x2 s n) x1 x2 x4 x3 s) else ((wX11_isTrue x4 x1 s).bind fun t7 => if t7 = 0 then (wX11_wrongIn_j47 (wX11_wrongIn_h5 x1 x2 s n) x1 x2 x4 x3 1 s) else (wX11_wrongIn_j46 (wX11_wrongIn_h5 x1 x2 s n) x1 x2 x4 x3 s)))) else (some x3)
theorem wX11_wrongIn_t5 {x1 : Int32} {x2 : Int32} {s : wS} {x : Int32} {r : ri_R} (he55 : ∀ (x3 : Int32) (w1 : Int32) (w2 : Int32) (w4 : Int32) , x = x3 → gRun 3 232 55 [some (.ref 153), some (.int w1), some (.int w2), some (.int x3), some (.int w4)] [] (wmk s) r) : ∀ {n : Nat} {x3 : Int32} {x4 : Int32} , wX11_wrongIn_h5 x1 x2 s n x3 x4 = some x → gRun 3 232 5 [some (.ref 153), some (.int x1), some (.int x2), some (.int x3), some (.int x4)] [] (wmk s) r := by
  intro n
  induction n with
  | zero => intro x3 x4 h; cases (show (none : Option (Int32)) = some x from h)
  | succ n ih =>
    intro x3 x4 h
    rw [wX11_wrongIn_h5] at h
    refine gR_go 2 (pc1 := 8) (L1 := [some (.ref 153), some (.int x1), some (.int x2), some (.int x3), some (.int x4)]) (st1 := [.ref 153, .int x4]) (fun _ _ => rfl) ?_
    refine gR_gfR (k := 152) (k' := 163) rfl rfl rfl rfl ?_
    refine gR_go 1 (pc1 := 12) (L1 := [some (.ref 153), some (.int x1), some (.int x2), some (.int x3), some (.int x4)]) (st1 := [.int 3, .ref 164, .int x4]) (fun _ _ => rfl) ?_
    refine gR_ialc (k := 163) (j := 3) rfl rfl rfl (by decide) rfl ?_
    rcases gif h with ⟨c2, h⟩ | ⟨c2, h⟩
    · refine gR_ic_ge_f rfl c2 ?_
      refine gR_go 3 (pc1 := 20) (L1 := [some (.ref 153), some (.int x1), some (.int x2), some (.int x3), some (.int x4)]) (st1 := [.int x2, .int x4, .int x3]) (fun _ _ => rfl) ?_
      rcases gif h with ⟨c3, h⟩ | ⟨c3, h⟩
      · refine gR_ic_eq_j rfl c3 rfl ?_
        exact wX11_wrongIn_u46 ih he55 h
      · refine gR_ic_eq_f rfl c3 ?_
        refine gR_go 2 (pc1 := 26) (L1 := [some (.ref 153), some (.int x1), some (.int x2), some (.int x3), some (.int x4)]) (st1 := [.int x4, .ref 153, .int x3]) (fun _ _ => rfl) ?_
        obtain ⟨t4, e5, h⟩ := gb h
        refine gR_cvI (wX11_isLookedAt_s e5) (Nat.le_of_ble_eq_true rfl) rfl rfl rfl rfl rfl ?_
        rcases gif h with ⟨c6, h⟩ | ⟨c6, h⟩
        · refine gR_iz_eq_j rfl c6 rfl ?_
          exact wX11_wrongIn_u46 ih he55 h
        · refine gR_iz_eq_f rfl c6 ?_
          refine gR_go 3 (pc1 := 36) (L1 := [some (.ref 153), some (.int x1), some (.int x2), some (.int x3), some (.int x4)]) (st1 := [.int x1, .int x4, .ref 153, .int x3]) (fun _ _ => rfl) ?_
          obtain ⟨t7, e8, h⟩ := gb h
          refine gR_cvI (wX11_isTrue_s e8) (Nat.le_of_ble_eq_true rfl) rfl rfl rfl rfl rfl ?_
          rcases gif h with ⟨c9, h⟩ | ⟨c9, h⟩
          · refine gR_iz_ne_f rfl c9 ?_
            refine gR_go 2 (pc1 := 47) (L1 := [some (.ref 153), some (.int x1), some (.int x2), some (.int x3), some (.int x4)]) (st1 := [.int 1, .int x3]) (fun _ _ => rfl) ?_
            exact wX11_wrongIn_u47 ih he55 h
          · refine gR_iz_ne_j rfl c9 rfl ?_
            exact wX11_wrongIn_u46 ih he55 h
    · refine gR_ic_ge_j rfl c2 rfl ?_
      exact he55 _ _ _ _ (Option.some.inj h).symm
noncomputable def wX11_wrongIn (x1 : Int32) (x2 : Int32) (s : wS) : Option (Int32) := (wX11_wrongIn_h5 x1 x2 s wFuel 0 0).bind fun t11 => some t11
theorem wX11_wrongIn_s {x1 : Int32} {x2 : Int32} {s : wS} {rv : Int32} (h : wX11_wrongIn x1 x2 s = some rv) : gEv 4 232 [.ref 153, .int x1, .int x2] (wmk s) (some (.int rv), wmk s, 0, 0) := by
  refine gEv_of (d := 3) (L := [some (.ref 153), some (.int x1), some (.int x2), none, none]) rfl ?_
  unfold wX11_wrongIn at h
  refine gR_go 4 (pc1 := 5) (L1 := [some (.ref 153), some (.int x1), some (.int x2), some (.int 0), some (.int 0)]) (st1 := []) (fun _ _ => rfl) ?_
  obtain ⟨z10, ez10, h⟩ := gb h
  refine wX11_wrongIn_t5 ?_  ez10
  · intro t11 w12 w13 w14 hz
    replace hz := hz.symm
    subst hz
    refine gR_go 1 (pc1 := 56) (L1 := [some (.ref 153), some (.int w12), some (.int w13), some (.int t11), some (.int w14)]) (st1 := [.int t11]) (fun _ _ => rfl) ?_
    obtain rfl := gi1 h
    exact gR_ri rfl rfl
noncomputable def wX11_canAsk (x1 : Int32) (s : wS) : Option (Int32) := (wX11_isCourt s).bind fun t1 => if t1 = 0 then (some 0) else ((wX11_isLaw x1 s).bind fun t4 => if t4 = 0 then (some 0) else (some 1))
theorem wX11_canAsk_s {x1 : Int32} {s : wS} {rv : Int32} (h : wX11_canAsk x1 s = some rv) : gEv 2 233 [.ref 153, .int x1] (wmk s) (some (.int rv), wmk s, 0, 0) := by
  refine gEv_of (d := 1) (L := [some (.ref 153), some (.int x1)]) rfl ?_
  unfold wX11_canAsk at h
  refine gR_go 1 (pc1 := 1) (L1 := [some (.ref 153), some (.int x1)]) (st1 := [.ref 153]) (fun _ _ => rfl) ?_
  obtain ⟨t1, e2, h⟩ := gb h
  refine gR_cvI (wX11_isCourt_s e2) (Nat.le_of_ble_eq_true rfl) rfl rfl rfl rfl rfl ?_
  rcases gif h with ⟨c3, h⟩ | ⟨c3, h⟩
  · refine gR_iz_eq_j rfl c3 rfl ?_
    refine gR_go 1 (pc1 := 20) (L1 := [some (.ref 153), some (.int x1)]) (st1 := [.int 0]) (fun _ _ => rfl) ?_
    obtain rfl := gi1 h
    exact gR_rzc rfl rfl rfl
  · refine gR_iz_eq_f rfl c3 ?_
    refine gR_go 2 (pc1 := 9) (L1 := [some (.ref 153), some (.int x1)]) (st1 := [.int x1, .ref 153]) (fun _ _ => rfl) ?_
    obtain ⟨t4, e5, h⟩ := gb h
    refine gR_cvI (wX11_isLaw_s e5) (Nat.le_of_ble_eq_true rfl) rfl rfl rfl rfl rfl ?_
    rcases gif h with ⟨c6, h⟩ | ⟨c6, h⟩
    · refine gR_iz_eq_j rfl c6 rfl ?_
      refine gR_go 1 (pc1 := 20) (L1 := [some (.ref 153), some (.int x1)]) (st1 := [.int 0]) (fun _ _ => rfl) ?_
      obtain rfl := gi1 h
      exact gR_rzc rfl rfl rfl
    · refine gR_iz_eq_f rfl c6 ?_
      refine gR_go 2 (pc1 := 20) (L1 := [some (.ref 153), some (.int x1)]) (st1 := [.int 1]) (fun _ _ => rfl) ?_
      obtain rfl := gi1 h
      exact gR_rzc rfl rfl rfl
noncomputable def wX11_isMany (x0 : Int32) (s : wS) : Option (Int32) := (wX11_in ((x0 : Int32).toInt64) 0 40 s).bind fun t1 => wrtZ t1
theorem wX11_isMany_s {x0 : Int32} {s : wS} {rv : Int32} (h : wX11_isMany x0 s = some rv) : gEv 2 234 [.int x0] (wmk s) (some (.int rv), wmk s, 0, 0) := by
  refine gEv_of (d := 1) (L := [some (.int x0)]) rfl ?_
  unfold wX11_isMany at h
  refine gR_go 4 (pc1 := 6) (L1 := [some (.int x0)]) (st1 := [.long 40, .long 0, .long ((x0 : Int32).toInt64)]) (fun _ _ => rfl) ?_
  obtain ⟨t1, e2, h⟩ := gb h
  refine gR_csI (wX11_in_s e2) (Nat.le_of_ble_eq_true rfl) rfl rfl rfl rfl ?_
  exact gR_rz rfl rfl h
noncomputable def wX11_keeps_j60 (qq : Int32 → Int32 → wS → Option (Int32 × wS)) (x2 : Int32) (x3 : Int32) (x5 : Int32) (y0 : Int32) (y1 : Int32) (s : wS) : Option (Int32 × wS) := qq (y0 + y1) (x5 + 1) s
theorem wX11_keeps_u60 {x2 : Int32} {x3 : Int32} {x5 : Int32} {y0 : Int32} {y1 : Int32} {s : wS} {w1 : Int32} {w4 : Int32} {qq : Int32 → Int32 → wS → Option (Int32 × wS)} {x : Int32 × wS} {r : ri_R} (ih : ∀ {x4 : Int32} {x5 : Int32} {s : wS} {w1 : Int32} , qq x4 x5 s = some x → gRun 4 235 11 [some (.ref 153), some (.int w1), some (.int x2), some (.int x3), some (.int x4), some (.int x5)] [] (wmk s) r) (he69 : ∀ (x4 : Int32) (s : wS) (w1 : Int32) (w2 : Int32) (w3 : Int32) (w5 : Int32) , x = (x4, s) → gRun 4 235 69 [some (.ref 153), some (.int w1), some (.int w2), some (.int w3), some (.int x4), some (.int w5)] [] (wmk s) r) (h : wX11_keeps_j60 qq x2 x3 x5 y0 y1 s = some x) : gRun 4 235 60 [some (.ref 153), some (.int w1), some (.int x2), some (.int x3), some (.int w4), some (.int x5)] [.int y1, .int y0] (wmk s) r := by
  unfold wX11_keeps_j60 at h
  refine gR_go 4 (pc1 := 11) (L1 := [some (.ref 153), some (.int w1), some (.int x2), some (.int x3), some (.int (y0 + y1)), some (.int (x5 + 1))]) (st1 := []) (fun _ _ => rfl) ?_
  exact ih h
noncomputable def wX11_keeps_j42 (qq : Int32 → Int32 → wS → Option (Int32 × wS)) (x2 : Int32) (x3 : Int32) (x4 : Int32) (x5 : Int32) (y1 : Int32) (y2 : Int32) (s : wS) : Option (Int32 × wS) := (wstZ s 165 512 y1 y2).bind fun s10 => (wldI s10 165 512 x5).bind fun t11 => if t11 = 0 then (wX11_keeps_j60 qq x2 x3 x5 x4 0 s10) else (wX11_keeps_j60 qq x2 x3 x5 x4 1 s10)
theorem wX11_keeps_u42 {x2 : Int32} {x3 : Int32} {x4 : Int32} {x5 : Int32} {y1 : Int32} {y2 : Int32} {s : wS} {w1 : Int32} {qq : Int32 → Int32 → wS → Option (Int32 × wS)} {x : Int32 × wS} {r : ri_R} (ih : ∀ {x4 : Int32} {x5 : Int32} {s : wS} {w1 : Int32} , qq x4 x5 s = some x → gRun 4 235 11 [some (.ref 153), some (.int w1), some (.int x2), some (.int x3), some (.int x4), some (.int x5)] [] (wmk s) r) (he69 : ∀ (x4 : Int32) (s : wS) (w1 : Int32) (w2 : Int32) (w3 : Int32) (w5 : Int32) , x = (x4, s) → gRun 4 235 69 [some (.ref 153), some (.int w1), some (.int w2), some (.int w3), some (.int x4), some (.int w5)] [] (wmk s) r) (h : wX11_keeps_j42 qq x2 x3 x4 x5 y1 y2 s = some x) : gRun 4 235 42 [some (.ref 153), some (.int w1), some (.int x2), some (.int x3), some (.int x4), some (.int x5)] [.int y2, .int y1, .ref 166] (wmk s) r := by
  unfold wX11_keeps_j42 at h
  obtain ⟨s10, es10, h⟩ := gb h
  refine gR_zas (k := 165) rfl rfl rfl es10 ?_
  refine gR_go 2 (pc1 := 46) (L1 := [some (.ref 153), some (.int w1), some (.int x2), some (.int x3), some (.int x4), some (.int x5)]) (st1 := [.ref 153, .int x4]) (fun _ _ => rfl) ?_
  refine gR_gfR (k := 152) (k' := 165) rfl rfl rfl rfl ?_
  refine gR_go 1 (pc1 := 51) (L1 := [some (.ref 153), some (.int w1), some (.int x2), some (.int x3), some (.int x4), some (.int x5)]) (st1 := [.int x5, .ref 166, .int x4]) (fun _ _ => rfl) ?_
  obtain ⟨t11, et11, h⟩ := gb h
  refine gR_zal (k := 165) rfl rfl rfl et11 ?_
  rcases gif h with ⟨c12, h⟩ | ⟨c12, h⟩
  · refine gR_iz_eq_j rfl c12 rfl ?_
    refine gR_go 1 (pc1 := 60) (L1 := [some (.ref 153), some (.int w1), some (.int x2), some (.int x3), some (.int x4), some (.int x5)]) (st1 := [.int 0, .int x4]) (fun _ _ => rfl) ?_
    exact wX11_keeps_u60 ih he69 h
  · refine gR_iz_eq_f rfl c12 ?_
    refine gR_go 2 (pc1 := 60) (L1 := [some (.ref 153), some (.int w1), some (.int x2), some (.int x3), some (.int x4), some (.int x5)]) (st1 := [.int 1, .int x4]) (fun _ _ => rfl) ?_
    exact wX11_keeps_u60 ih he69 h
noncomputable def wX11_keeps_h11 (x2 : Int32) (x3 : Int32) : Nat → Int32 → Int32 → wS → Option (Int32 × wS)
  | 0, _, _, _ => none
  | n + 1, x4, x5, s => (wX11_worlds s).bind fun t4 => if x5 < t4 then ((wX11_wrongIn x5 x3 s).bind fun t7 => if x2 < t7 then (wX11_keeps_j42 (wX11_keeps_h11 x2 x3 n) x2 x3 x4 x5 x5 0 s) else (wX11_keeps_j42 (wX11_keeps_h11 x2 x3 n) x2 x3 x4 x5 x5 1 s)) else (some (x4, s))
theorem wX11_keeps_t11 {x2 : Int32} {x3 : Int32} {x : Int32 × wS} {r : ri_R} (he69 : ∀ (x4 : Int32) (s : wS) (w1 : Int32) (w2 : Int32) (w3 : Int32) (w5 : Int32) , x = (x4, s) → gRun 4 235 69 [some (.ref 153), some (.int w1), some (.int w2), some (.int w3), some (.int x4), some (.int w5)] [] (wmk s) r) : ∀ {n : Nat} {x4 : Int32} {x5 : Int32} {s : wS} {w1 : Int32} , wX11_keeps_h11 x2 x3 n x4 x5 s = some x → gRun 4 235 11 [some (.ref 153), some (.int w1), some (.int x2), some (.int x3), some (.int x4), some (.int x5)] [] (wmk s) r := by
  intro n
  induction n with
  | zero => intro x4 x5 s w1 h; cases (show (none : Option (Int32 × wS)) = some x from h)
  | succ n ih =>
    intro x4 x5 s w1 h
    rw [wX11_keeps_h11] at h
    refine gR_go 2 (pc1 := 14) (L1 := [some (.ref 153), some (.int w1), some (.int x2), some (.int x3), some (.int x4), some (.int x5)]) (st1 := [.ref 153, .int x5]) (fun _ _ => rfl) ?_
    obtain ⟨t4, e5, h⟩ := gb h
    refine gR_cvI (wX11_worlds_s e5) (Nat.le_of_ble_eq_true rfl) rfl rfl rfl rfl rfl ?_
    rcases gif h with ⟨c6, h⟩ | ⟨c6, h⟩
    · refine gR_ic_ge_f rfl c6 ?_
      refine gR_go 1 (pc1 := 21) (L1 := [some (.ref 153), some (.int w1), some (.int x2), some (.int x3), some (.int x4), some (.int x5)]) (st1 := [.ref 153]) (fun _ _ => rfl) ?_
      refine gR_gfR (k := 152) (k' := 165) rfl rfl rfl rfl ?_
      refine gR_go 4 (pc1 := 30) (L1 := [some (.ref 153), some (.int w1), some (.int x2), some (.int x3), some (.int x4), some (.int x5)]) (st1 := [.int x3, .int x5, .ref 153, .int x5, .ref 166]) (fun _ _ => rfl) ?_
      obtain ⟨t7, e8, h⟩ := gb h
      refine gR_cvI (wX11_wrongIn_s e8) (Nat.le_of_ble_eq_true rfl) rfl rfl rfl rfl rfl ?_
      refine gR_go 1 (pc1 := 34) (L1 := [some (.ref 153), some (.int w1), some (.int x2), some (.int x3), some (.int x4), some (.int x5)]) (st1 := [.int x2, .int t7, .int x5, .ref 166]) (fun _ _ => rfl) ?_
      rcases gif h with ⟨c9, h⟩ | ⟨c9, h⟩
      · refine gR_ic_gt_j rfl c9 rfl ?_
        refine gR_go 1 (pc1 := 42) (L1 := [some (.ref 153), some (.int w1), some (.int x2), some (.int x3), some (.int x4), some (.int x5)]) (st1 := [.int 0, .int x5, .ref 166]) (fun _ _ => rfl) ?_
        exact wX11_keeps_u42 ih he69 h
      · refine gR_ic_gt_f rfl c9 ?_
        refine gR_go 2 (pc1 := 42) (L1 := [some (.ref 153), some (.int w1), some (.int x2), some (.int x3), some (.int x4), some (.int x5)]) (st1 := [.int 1, .int x5, .ref 166]) (fun _ _ => rfl) ?_
        exact wX11_keeps_u42 ih he69 h
    · refine gR_ic_ge_j rfl c6 rfl ?_
      exact he69 _ _ _ _ _ _ (Option.some.inj h).symm
noncomputable def wX11_keeps (x1 : Int32) (x2 : Int32) (x3 : Int32) (s : wS) : Option (Int32 × wS) := (wX11_reaches x1 s).bind fun s2 => (wX11_keeps_h11 x2 x3 wFuel 0 0 s2).bind fun (t14, s15) => some (t14, s15)
theorem wX11_keeps_s {x1 : Int32} {x2 : Int32} {x3 : Int32} {s : wS} {rv : Int32} {rs : wS} (h : wX11_keeps x1 x2 x3 s = some (rv, rs)) : gEv 5 235 [.ref 153, .int x1, .int x2, .int x3] (wmk s) (some (.int rv), wmk rs, 0, 0) := by
  refine gEv_of (d := 4) (L := [some (.ref 153), some (.int x1), some (.int x2), some (.int x3), none, none]) rfl ?_
  unfold wX11_keeps at h
  refine gR_go 2 (pc1 := 2) (L1 := [some (.ref 153), some (.int x1), some (.int x2), some (.int x3), none, none]) (st1 := [.int x1, .ref 153]) (fun _ _ => rfl) ?_
  obtain ⟨s2, e3, h⟩ := gb h
  refine gR_cvV (wX11_reaches_s e3) (Nat.le_of_ble_eq_true rfl) rfl rfl rfl rfl rfl ?_
  refine gR_go 4 (pc1 := 11) (L1 := [some (.ref 153), some (.int x1), some (.int x2), some (.int x3), some (.int 0), some (.int 0)]) (st1 := []) (fun _ _ => rfl) ?_
  obtain ⟨z13, ez13, h⟩ := gb h
  refine wX11_keeps_t11 ?_  ez13
  · intro t14 s15 w16 w17 w18 w19 hz
    replace hz := hz.symm
    subst hz
    dsimp only at h
    refine gR_go 1 (pc1 := 71) (L1 := [some (.ref 153), some (.int w16), some (.int w17), some (.int w18), some (.int t14), some (.int w19)]) (st1 := [.int t14]) (fun _ _ => rfl) ?_
    obtain ⟨rfl, rfl⟩ := gi2 h
    exact gR_ri rfl rfl
noncomputable def wX11_holds (x1 : Int32) (x2 : Int32) (x3 : Int32) (s : wS) : Option (Int32 × wS) := (wX11_canAsk x1 s).bind fun t1 => if t1 = 0 then (some ((-1), s)) else ((wX11_isAnswer x2 s).bind fun t4 => if t4 = 0 then (some ((-1), s)) else ((wX11_isWorld x3 s).bind fun t7 => if t7 = 0 then (some ((-1), s)) else ((wX11_reaches x1 s).bind fun s11 => (wX11_isTrue x2 x3 s11).bind fun t13 => if t13 = 0 then (some (0, s11)) else (some (1, s11)))))
theorem wX11_holds_s {x1 : Int32} {x2 : Int32} {x3 : Int32} {s : wS} {rv : Int32} {rs : wS} (h : wX11_holds x1 x2 x3 s = some (rv, rs)) : gEv 5 236 [.ref 153, .int x1, .int x2, .int x3] (wmk s) (some (.int rv), wmk rs, 0, 0) := by
  refine gEv_of (d := 4) (L := [some (.ref 153), some (.int x1), some (.int x2), some (.int x3)]) rfl ?_
  unfold wX11_holds at h
  refine gR_go 2 (pc1 := 2) (L1 := [some (.ref 153), some (.int x1), some (.int x2), some (.int x3)]) (st1 := [.int x1, .ref 153]) (fun _ _ => rfl) ?_
  obtain ⟨t1, e2, h⟩ := gb h
  refine gR_cvI (wX11_canAsk_s e2) (Nat.le_of_ble_eq_true rfl) rfl rfl rfl rfl rfl ?_
  rcases gif h with ⟨c3, h⟩ | ⟨c3, h⟩
  · refine gR_iz_eq_j rfl c3 rfl ?_
    refine gR_go 1 (pc1 := 25) (L1 := [some (.ref 153), some (.int x1), some (.int x2), some (.int x3)]) (st1 := [.int (-1)]) (fun _ _ => rfl) ?_
    obtain ⟨rfl, rfl⟩ := gi2 h
    exact gR_ri rfl rfl
  · refine gR_iz_eq_f rfl c3 ?_
    refine gR_go 2 (pc1 := 10) (L1 := [some (.ref 153), some (.int x1), some (.int x2), some (.int x3)]) (st1 := [.int x2, .ref 153]) (fun _ _ => rfl) ?_
    obtain ⟨t4, e5, h⟩ := gb h
    refine gR_cvI (wX11_isAnswer_s e5) (Nat.le_of_ble_eq_true rfl) rfl rfl rfl rfl rfl ?_
    rcases gif h with ⟨c6, h⟩ | ⟨c6, h⟩
    · refine gR_iz_eq_j rfl c6 rfl ?_
      refine gR_go 1 (pc1 := 25) (L1 := [some (.ref 153), some (.int x1), some (.int x2), some (.int x3)]) (st1 := [.int (-1)]) (fun _ _ => rfl) ?_
      obtain ⟨rfl, rfl⟩ := gi2 h
      exact gR_ri rfl rfl
    · refine gR_iz_eq_f rfl c6 ?_
      refine gR_go 2 (pc1 := 18) (L1 := [some (.ref 153), some (.int x1), some (.int x2), some (.int x3)]) (st1 := [.int x3, .ref 153]) (fun _ _ => rfl) ?_
      obtain ⟨t7, e8, h⟩ := gb h
      refine gR_cvI (wX11_isWorld_s e8) (Nat.le_of_ble_eq_true rfl) rfl rfl rfl rfl rfl ?_
      rcases gif h with ⟨c9, h⟩ | ⟨c9, h⟩
      · refine gR_iz_ne_f rfl c9 ?_
        refine gR_go 1 (pc1 := 25) (L1 := [some (.ref 153), some (.int x1), some (.int x2), some (.int x3)]) (st1 := [.int (-1)]) (fun _ _ => rfl) ?_
        obtain ⟨rfl, rfl⟩ := gi2 h
        exact gR_ri rfl rfl
      · refine gR_iz_ne_j rfl c9 rfl ?_
        refine gR_go 2 (pc1 := 28) (L1 := [some (.ref 153), some (.int x1), some (.int x2), some (.int x3)]) (st1 := [.int x1, .ref 153]) (fun _ _ => rfl) ?_
        obtain ⟨s11, e12, h⟩ := gb h
        refine gR_cvV (wX11_reaches_s e12) (Nat.le_of_ble_eq_true rfl) rfl rfl rfl rfl rfl ?_
        refine gR_go 3 (pc1 := 34) (L1 := [some (.ref 153), some (.int x1), some (.int x2), some (.int x3)]) (st1 := [.int x3, .int x2, .ref 153]) (fun _ _ => rfl) ?_
        obtain ⟨t13, e14, h⟩ := gb h
        refine gR_cvI (wX11_isTrue_s e14) (Nat.le_of_ble_eq_true rfl) rfl rfl rfl rfl rfl ?_
        rcases gif h with ⟨c15, h⟩ | ⟨c15, h⟩
        · refine gR_iz_eq_j rfl c15 rfl ?_
          refine gR_go 1 (pc1 := 45) (L1 := [some (.ref 153), some (.int x1), some (.int x2), some (.int x3)]) (st1 := [.int 0]) (fun _ _ => rfl) ?_
          obtain ⟨rfl, rfl⟩ := gi2 h
          exact gR_ri rfl rfl
        · refine gR_iz_eq_f rfl c15 ?_
          refine gR_go 2 (pc1 := 45) (L1 := [some (.ref 153), some (.int x1), some (.int x2), some (.int x3)]) (st1 := [.int 1]) (fun _ _ => rfl) ?_
          obtain ⟨rfl, rfl⟩ := gi2 h
          exact gR_ri rfl rfl
noncomputable def wX11_wrong (x1 : Int32) (x2 : Int32) (s : wS) : Option (Int32 × wS) := (wX11_canAsk x1 s).bind fun t1 => if t1 = 0 then (some ((-1), s)) else ((wX11_isWorld x2 s).bind fun t4 => if t4 = 0 then (some ((-1), s)) else ((wX11_reaches x1 s).bind fun s8 => (wX11_wrongIn x2 (-1) s8).bind fun t10 => some (t10, s8)))
theorem wX11_wrong_s {x1 : Int32} {x2 : Int32} {s : wS} {rv : Int32} {rs : wS} (h : wX11_wrong x1 x2 s = some (rv, rs)) : gEv 5 237 [.ref 153, .int x1, .int x2] (wmk s) (some (.int rv), wmk rs, 0, 0) := by
  refine gEv_of (d := 4) (L := [some (.ref 153), some (.int x1), some (.int x2)]) rfl ?_
  unfold wX11_wrong at h
  refine gR_go 2 (pc1 := 2) (L1 := [some (.ref 153), some (.int x1), some (.int x2)]) (st1 := [.int x1, .ref 153]) (fun _ _ => rfl) ?_
  obtain ⟨t1, e2, h⟩ := gb h
  refine gR_cvI (wX11_canAsk_s e2) (Nat.le_of_ble_eq_true rfl) rfl rfl rfl rfl rfl ?_
  rcases gif h with ⟨c3, h⟩ | ⟨c3, h⟩
  · refine gR_iz_eq_j rfl c3 rfl ?_
    refine gR_go 1 (pc1 := 17) (L1 := [some (.ref 153), some (.int x1), some (.int x2)]) (st1 := [.int (-1)]) (fun _ _ => rfl) ?_
    obtain ⟨rfl, rfl⟩ := gi2 h
    exact gR_ri rfl rfl
  · refine gR_iz_eq_f rfl c3 ?_
    refine gR_go 2 (pc1 := 10) (L1 := [some (.ref 153), some (.int x1), some (.int x2)]) (st1 := [.int x2, .ref 153]) (fun _ _ => rfl) ?_
    obtain ⟨t4, e5, h⟩ := gb h
    refine gR_cvI (wX11_isWorld_s e5) (Nat.le_of_ble_eq_true rfl) rfl rfl rfl rfl rfl ?_
    rcases gif h with ⟨c6, h⟩ | ⟨c6, h⟩
    · refine gR_iz_ne_f rfl c6 ?_
      refine gR_go 1 (pc1 := 17) (L1 := [some (.ref 153), some (.int x1), some (.int x2)]) (st1 := [.int (-1)]) (fun _ _ => rfl) ?_
      obtain ⟨rfl, rfl⟩ := gi2 h
      exact gR_ri rfl rfl
    · refine gR_iz_ne_j rfl c6 rfl ?_
      refine gR_go 2 (pc1 := 20) (L1 := [some (.ref 153), some (.int x1), some (.int x2)]) (st1 := [.int x1, .ref 153]) (fun _ _ => rfl) ?_
      obtain ⟨s8, e9, h⟩ := gb h
      refine gR_cvV (wX11_reaches_s e9) (Nat.le_of_ble_eq_true rfl) rfl rfl rfl rfl rfl ?_
      refine gR_go 3 (pc1 := 26) (L1 := [some (.ref 153), some (.int x1), some (.int x2)]) (st1 := [.int (-1), .int x2, .ref 153]) (fun _ _ => rfl) ?_
      obtain ⟨t10, e11, h⟩ := gb h
      refine gR_cvI (wX11_wrongIn_s e11) (Nat.le_of_ble_eq_true rfl) rfl rfl rfl rfl rfl ?_
      obtain ⟨rfl, rfl⟩ := gi2 h
      exact gR_ri rfl rfl
noncomputable def wX11_kept (x1 : Int32) (x2 : Int32) (s : wS) : Option (Int32 × wS) := (wX11_canAsk x1 s).bind fun t1 => if t1 = 0 then (some ((-1), s)) else ((wX11_isMany x2 s).bind fun t4 => if t4 = 0 then (some ((-1), s)) else ((wX11_keeps x1 x2 (-1) s).bind fun (t7, s8) => some (t7, s8)))
theorem wX11_kept_s {x1 : Int32} {x2 : Int32} {s : wS} {rv : Int32} {rs : wS} (h : wX11_kept x1 x2 s = some (rv, rs)) : gEv 6 238 [.ref 153, .int x1, .int x2] (wmk s) (some (.int rv), wmk rs, 0, 0) := by
  refine gEv_of (d := 5) (L := [some (.ref 153), some (.int x1), some (.int x2)]) rfl ?_
  unfold wX11_kept at h
  refine gR_go 2 (pc1 := 2) (L1 := [some (.ref 153), some (.int x1), some (.int x2)]) (st1 := [.int x1, .ref 153]) (fun _ _ => rfl) ?_
  obtain ⟨t1, e2, h⟩ := gb h
  refine gR_cvI (wX11_canAsk_s e2) (Nat.le_of_ble_eq_true rfl) rfl rfl rfl rfl rfl ?_
  rcases gif h with ⟨c3, h⟩ | ⟨c3, h⟩
  · refine gR_iz_eq_j rfl c3 rfl ?_
    refine gR_go 1 (pc1 := 26) (L1 := [some (.ref 153), some (.int x1), some (.int x2)]) (st1 := [.int (-1)]) (fun _ _ => rfl) ?_
    obtain ⟨rfl, rfl⟩ := gi2 h
    exact gR_ri rfl rfl
  · refine gR_iz_eq_f rfl c3 ?_
    refine gR_go 1 (pc1 := 9) (L1 := [some (.ref 153), some (.int x1), some (.int x2)]) (st1 := [.int x2]) (fun _ _ => rfl) ?_
    obtain ⟨t4, e5, h⟩ := gb h
    refine gR_csI (wX11_isMany_s e5) (Nat.le_of_ble_eq_true rfl) rfl rfl rfl rfl ?_
    rcases gif h with ⟨c6, h⟩ | ⟨c6, h⟩
    · refine gR_iz_eq_j rfl c6 rfl ?_
      refine gR_go 1 (pc1 := 26) (L1 := [some (.ref 153), some (.int x1), some (.int x2)]) (st1 := [.int (-1)]) (fun _ _ => rfl) ?_
      obtain ⟨rfl, rfl⟩ := gi2 h
      exact gR_ri rfl rfl
    · refine gR_iz_eq_f rfl c6 ?_
      refine gR_go 4 (pc1 := 19) (L1 := [some (.ref 153), some (.int x1), some (.int x2)]) (st1 := [.int (-1), .int x2, .int x1, .ref 153]) (fun _ _ => rfl) ?_
      obtain ⟨⟨t7, s8⟩, e9, h⟩ := gb h
      dsimp only at h
      refine gR_cvI (wX11_keeps_s e9) (Nat.le_of_ble_eq_true rfl) rfl rfl rfl rfl rfl ?_
      refine gR_go 1 (pc1 := 26) (L1 := [some (.ref 153), some (.int x1), some (.int x2)]) (st1 := [.int t7]) (fun _ _ => rfl) ?_
      obtain ⟨rfl, rfl⟩ := gi2 h
      exact gR_ri rfl rfl
noncomputable def wX11_world_j69 (qq : Int32 → Int32 → Option ((Unit) ⊕ (Int32))) (x3 : Int32) (x4 : Int32) (x5 : Int32) (s : wS) : Option ((Unit) ⊕ (Int32)) := qq x4 (x5 + 1)
theorem wX11_world_u69 {x3 : Int32} {x4 : Int32} {x5 : Int32} {s : wS} {w1 : Int32} {w2 : Int32} {qq : Int32 → Int32 → Option ((Unit) ⊕ (Int32))} {x : (Unit) ⊕ (Int32)} {r : ri_R} (ih : ∀ {x4 : Int32} {x5 : Int32} {w1 : Int32} {w2 : Int32} , qq x4 x5 = some x → gRun 5 239 35 [some (.ref 153), some (.int w1), some (.int w2), some (.int x3), some (.int x4), some (.int x5)] [] (wmk s) r) (he75 : ∀ (w1 : Int32) (w2 : Int32) (w3 : Int32) (w4 : Int32) (w5 : Int32) , x = .inl () → gRun 5 239 75 [some (.ref 153), some (.int w1), some (.int w2), some (.int w3), some (.int w4), some (.int w5)] [] (wmk s) r) (he63 : ∀ (x5 : Int32) (w1 : Int32) (w2 : Int32) (w3 : Int32) (w4 : Int32) , x = .inr x5 → gRun 5 239 63 [some (.ref 153), some (.int w1), some (.int w2), some (.int w3), some (.int w4), some (.int x5)] [] (wmk s) r) (h : wX11_world_j69 qq x3 x4 x5 s = some x) : gRun 5 239 69 [some (.ref 153), some (.int w1), some (.int w2), some (.int x3), some (.int x4), some (.int x5)] [] (wmk s) r := by
  unfold wX11_world_j69 at h
  refine gR_go 2 (pc1 := 35) (L1 := [some (.ref 153), some (.int w1), some (.int w2), some (.int x3), some (.int x4), some (.int (x5 + 1))]) (st1 := []) (fun _ _ => rfl) ?_
  exact ih h
noncomputable def wX11_world_h35 (x3 : Int32) (s : wS) : Nat → Int32 → Int32 → Option ((Unit) ⊕ (Int32))
  | 0, _, _ => none
  | n + 1, x4, x5 => (wX11_worlds s).bind fun t11 => if x5 < t11 then ((wldI s 165 512 x5).bind fun t14 => if t14 = 0 then (wX11_world_j69 (wX11_world_h35 x3 s n) x3 x4 x5 s) else (if x4 = x3 then (some (.inr x5)) else (wX11_world_j69 (wX11_world_h35 x3 s n) x3 (x4 + 1) x5 s))) else (some (.inl ()))
theorem wX11_world_t35 {x3 : Int32} {s : wS} {x : (Unit) ⊕ (Int32)} {r : ri_R} (he75 : ∀ (w1 : Int32) (w2 : Int32) (w3 : Int32) (w4 : Int32) (w5 : Int32) , x = .inl () → gRun 5 239 75 [some (.ref 153), some (.int w1), some (.int w2), some (.int w3), some (.int w4), some (.int w5)] [] (wmk s) r) (he63 : ∀ (x5 : Int32) (w1 : Int32) (w2 : Int32) (w3 : Int32) (w4 : Int32) , x = .inr x5 → gRun 5 239 63 [some (.ref 153), some (.int w1), some (.int w2), some (.int w3), some (.int w4), some (.int x5)] [] (wmk s) r) : ∀ {n : Nat} {x4 : Int32} {x5 : Int32} {w1 : Int32} {w2 : Int32} , wX11_world_h35 x3 s n x4 x5 = some x → gRun 5 239 35 [some (.ref 153), some (.int w1), some (.int w2), some (.int x3), some (.int x4), some (.int x5)] [] (wmk s) r := by
  intro n
  induction n with
  | zero => intro x4 x5 w1 w2 h; cases (show (none : Option ((Unit) ⊕ (Int32))) = some x from h)
  | succ n ih =>
    intro x4 x5 w1 w2 h
    rw [wX11_world_h35] at h
    refine gR_go 2 (pc1 := 38) (L1 := [some (.ref 153), some (.int w1), some (.int w2), some (.int x3), some (.int x4), some (.int x5)]) (st1 := [.ref 153, .int x5]) (fun _ _ => rfl) ?_
    obtain ⟨t11, e12, h⟩ := gb h
    refine gR_cvI (wX11_worlds_s e12) (Nat.le_of_ble_eq_true rfl) rfl rfl rfl rfl rfl ?_
    rcases gif h with ⟨c13, h⟩ | ⟨c13, h⟩
    · refine gR_ic_ge_f rfl c13 ?_
      refine gR_go 1 (pc1 := 45) (L1 := [some (.ref 153), some (.int w1), some (.int w2), some (.int x3), some (.int x4), some (.int x5)]) (st1 := [.ref 153]) (fun _ _ => rfl) ?_
      refine gR_gfR (k := 152) (k' := 165) rfl rfl rfl rfl ?_
      refine gR_go 1 (pc1 := 50) (L1 := [some (.ref 153), some (.int w1), some (.int w2), some (.int x3), some (.int x4), some (.int x5)]) (st1 := [.int x5, .ref 166]) (fun _ _ => rfl) ?_
      obtain ⟨t14, et14, h⟩ := gb h
      refine gR_zal (k := 165) rfl rfl rfl et14 ?_
      rcases gif h with ⟨c15, h⟩ | ⟨c15, h⟩
      · refine gR_iz_ne_f rfl c15 ?_
        refine gR_go 1 (pc1 := 69) (L1 := [some (.ref 153), some (.int w1), some (.int w2), some (.int x3), some (.int x4), some (.int x5)]) (st1 := []) (fun _ _ => rfl) ?_
        exact wX11_world_u69 ih he75 he63 h
      · refine gR_iz_ne_j rfl c15 rfl ?_
        refine gR_go 2 (pc1 := 60) (L1 := [some (.ref 153), some (.int w1), some (.int w2), some (.int x3), some (.int x4), some (.int x5)]) (st1 := [.int x3, .int x4]) (fun _ _ => rfl) ?_
        rcases gif h with ⟨c16, h⟩ | ⟨c16, h⟩
        · refine gR_ic_ne_f rfl c16 ?_
          exact he63 _ _ _ _ _ (Option.some.inj h).symm
        · refine gR_ic_ne_j rfl c16 rfl ?_
          refine gR_go 1 (pc1 := 69) (L1 := [some (.ref 153), some (.int w1), some (.int w2), some (.int x3), some (.int (x4 + 1)), some (.int x5)]) (st1 := []) (fun _ _ => rfl) ?_
          exact wX11_world_u69 ih he75 he63 h
    · refine gR_ic_ge_j rfl c13 rfl ?_
      exact he75 _ _ _ _ _ (Option.some.inj h).symm
noncomputable def wX11_world (x1 : Int32) (x2 : Int32) (x3 : Int32) (s : wS) : Option (Int32 × wS) := (wX11_canAsk x1 s).bind fun t1 => if t1 = 0 then (some ((-1), s)) else ((wX11_isMany x2 s).bind fun t4 => if t4 = 0 then (some ((-1), s)) else (if x3 < 0 then (some ((-1), s)) else ((wX11_keeps x1 x2 (-1) s).bind fun (t8, s9) => (wX11_world_h35 x3 s9 wFuel 0 0).bind fun z17 => (match z17 with | .inl () => some (((Int8.ofInt (-2)).toInt32), s9) | .inr t23 => some (t23, s9)))))
theorem wX11_world_s {x1 : Int32} {x2 : Int32} {x3 : Int32} {s : wS} {rv : Int32} {rs : wS} (h : wX11_world x1 x2 x3 s = some (rv, rs)) : gEv 6 239 [.ref 153, .int x1, .int x2, .int x3] (wmk s) (some (.int rv), wmk rs, 0, 0) := by
  refine gEv_of (d := 5) (L := [some (.ref 153), some (.int x1), some (.int x2), some (.int x3), none, none]) rfl ?_
  unfold wX11_world at h
  refine gR_go 2 (pc1 := 2) (L1 := [some (.ref 153), some (.int x1), some (.int x2), some (.int x3), none, none]) (st1 := [.int x1, .ref 153]) (fun _ _ => rfl) ?_
  obtain ⟨t1, e2, h⟩ := gb h
  refine gR_cvI (wX11_canAsk_s e2) (Nat.le_of_ble_eq_true rfl) rfl rfl rfl rfl rfl ?_
  rcases gif h with ⟨c3, h⟩ | ⟨c3, h⟩
  · refine gR_iz_eq_j rfl c3 rfl ?_
    refine gR_go 1 (pc1 := 20) (L1 := [some (.ref 153), some (.int x1), some (.int x2), some (.int x3), none, none]) (st1 := [.int (-1)]) (fun _ _ => rfl) ?_
    obtain ⟨rfl, rfl⟩ := gi2 h
    exact gR_ri rfl rfl
  · refine gR_iz_eq_f rfl c3 ?_
    refine gR_go 1 (pc1 := 9) (L1 := [some (.ref 153), some (.int x1), some (.int x2), some (.int x3), none, none]) (st1 := [.int x2]) (fun _ _ => rfl) ?_
    obtain ⟨t4, e5, h⟩ := gb h
    refine gR_csI (wX11_isMany_s e5) (Nat.le_of_ble_eq_true rfl) rfl rfl rfl rfl ?_
    rcases gif h with ⟨c6, h⟩ | ⟨c6, h⟩
    · refine gR_iz_eq_j rfl c6 rfl ?_
      refine gR_go 1 (pc1 := 20) (L1 := [some (.ref 153), some (.int x1), some (.int x2), some (.int x3), none, none]) (st1 := [.int (-1)]) (fun _ _ => rfl) ?_
      obtain ⟨rfl, rfl⟩ := gi2 h
      exact gR_ri rfl rfl
    · refine gR_iz_eq_f rfl c6 ?_
      refine gR_go 1 (pc1 := 16) (L1 := [some (.ref 153), some (.int x1), some (.int x2), some (.int x3), none, none]) (st1 := [.int x3]) (fun _ _ => rfl) ?_
      rcases gif h with ⟨c7, h⟩ | ⟨c7, h⟩
      · refine gR_iz_ge_f rfl c7 ?_
        refine gR_go 1 (pc1 := 20) (L1 := [some (.ref 153), some (.int x1), some (.int x2), some (.int x3), none, none]) (st1 := [.int (-1)]) (fun _ _ => rfl) ?_
        obtain ⟨rfl, rfl⟩ := gi2 h
        exact gR_ri rfl rfl
      · refine gR_iz_ge_j rfl c7 rfl ?_
        refine gR_go 4 (pc1 := 25) (L1 := [some (.ref 153), some (.int x1), some (.int x2), some (.int x3), none, none]) (st1 := [.int (-1), .int x2, .int x1, .ref 153]) (fun _ _ => rfl) ?_
        obtain ⟨⟨t8, s9⟩, e10, h⟩ := gb h
        dsimp only at h
        refine gR_cvI (wX11_keeps_s e10) (Nat.le_of_ble_eq_true rfl) rfl rfl rfl rfl rfl ?_
        refine gR_go 5 (pc1 := 35) (L1 := [some (.ref 153), some (.int x1), some (.int x2), some (.int x3), some (.int 0), some (.int 0)]) (st1 := []) (fun _ _ => rfl) ?_
        obtain ⟨z17, ez17, h⟩ := gb h
        refine wX11_world_t35 ?_ ?_  ez17
        · intro w18 w19 w20 w21 w22 hz
          replace hz := hz.symm
          subst hz
          dsimp only at h
          refine gR_go 1 (pc1 := 77) (L1 := [some (.ref 153), some (.int w18), some (.int w19), some (.int w20), some (.int w21), some (.int w22)]) (st1 := [.int ((Int8.ofInt (-2)).toInt32)]) (fun _ _ => rfl) ?_
          obtain ⟨rfl, rfl⟩ := gi2 h
          exact gR_ri rfl rfl
        · intro t23 w24 w25 w26 w27 hz
          replace hz := hz.symm
          subst hz
          dsimp only at h
          refine gR_go 1 (pc1 := 65) (L1 := [some (.ref 153), some (.int w24), some (.int w25), some (.int w26), some (.int w27), some (.int t23)]) (st1 := [.int t23]) (fun _ _ => rfl) ?_
          obtain ⟨rfl, rfl⟩ := gi2 h
          exact gR_ri rfl rfl
noncomputable def wX11_keptWith_j41 (qq : Int32 → Int32 → Option (Int32)) (x1 : Int32) (x2 : Int32) (x4 : Int32) (y0 : Int32) (y1 : Int32) (s : wS) : Option (Int32) := qq (y0 + y1) (x4 + 1)
theorem wX11_keptWith_u41 {x1 : Int32} {x2 : Int32} {x4 : Int32} {y0 : Int32} {y1 : Int32} {s : wS} {w3 : Int32} {qq : Int32 → Int32 → Option (Int32)} {x : Int32} {r : ri_R} (ih : ∀ {x3 : Int32} {x4 : Int32} , qq x3 x4 = some x → gRun 1 240 5 [some (.ref 153), some (.int x1), some (.int x2), some (.int x3), some (.int x4)] [] (wmk s) r) (he49 : ∀ (x3 : Int32) (w1 : Int32) (w2 : Int32) (w4 : Int32) , x = x3 → gRun 1 240 49 [some (.ref 153), some (.int w1), some (.int w2), some (.int x3), some (.int w4)] [] (wmk s) r) (h : wX11_keptWith_j41 qq x1 x2 x4 y0 y1 s = some x) : gRun 1 240 41 [some (.ref 153), some (.int x1), some (.int x2), some (.int w3), some (.int x4)] [.int y1, .int y0] (wmk s) r := by
  unfold wX11_keptWith_j41 at h
  refine gR_go 4 (pc1 := 5) (L1 := [some (.ref 153), some (.int x1), some (.int x2), some (.int (y0 + y1)), some (.int (x4 + 1))]) (st1 := []) (fun _ _ => rfl) ?_
  exact ih h
noncomputable def wX11_keptWith_j40 (qq : Int32 → Int32 → Option (Int32)) (x1 : Int32) (x2 : Int32) (x4 : Int32) (y0 : Int32) (s : wS) : Option (Int32) := wX11_keptWith_j41 qq x1 x2 x4 y0 0 s
theorem wX11_keptWith_u40 {x1 : Int32} {x2 : Int32} {x4 : Int32} {y0 : Int32} {s : wS} {w3 : Int32} {qq : Int32 → Int32 → Option (Int32)} {x : Int32} {r : ri_R} (ih : ∀ {x3 : Int32} {x4 : Int32} , qq x3 x4 = some x → gRun 1 240 5 [some (.ref 153), some (.int x1), some (.int x2), some (.int x3), some (.int x4)] [] (wmk s) r) (he49 : ∀ (x3 : Int32) (w1 : Int32) (w2 : Int32) (w4 : Int32) , x = x3 → gRun 1 240 49 [some (.ref 153), some (.int w1), some (.int w2), some (.int x3), some (.int w4)] [] (wmk s) r) (h : wX11_keptWith_j40 qq x1 x2 x4 y0 s = some x) : gRun 1 240 40 [some (.ref 153), some (.int x1), some (.int x2), some (.int w3), some (.int x4)] [.int y0] (wmk s) r := by
  unfold wX11_keptWith_j40 at h
  refine gR_go 1 (pc1 := 41) (L1 := [some (.ref 153), some (.int x1), some (.int x2), some (.int w3), some (.int x4)]) (st1 := [.int 0, .int y0]) (fun _ _ => rfl) ?_
  exact wX11_keptWith_u41 ih he49 h
noncomputable def wX11_keptWith_h5 (x1 : Int32) (x2 : Int32) (s : wS) : Nat → Int32 → Int32 → Option (Int32)
  | 0, _, _ => none
  | n + 1, x3, x4 => (wX11_worlds s).bind fun t1 => if x4 < t1 then ((wldI s 165 512 x4).bind fun t4 => if t4 = 0 then (wX11_keptWith_j40 (wX11_keptWith_h5 x1 x2 s n) x1 x2 x4 x3 s) else ((wX11_thingOf x4 x1 s).bind fun t6 => if t6 = x2 then (wX11_keptWith_j41 (wX11_keptWith_h5 x1 x2 s n) x1 x2 x4 x3 1 s) else (wX11_keptWith_j40 (wX11_keptWith_h5 x1 x2 s n) x1 x2 x4 x3 s))) else (some x3)
theorem wX11_keptWith_t5 {x1 : Int32} {x2 : Int32} {s : wS} {x : Int32} {r : ri_R} (he49 : ∀ (x3 : Int32) (w1 : Int32) (w2 : Int32) (w4 : Int32) , x = x3 → gRun 1 240 49 [some (.ref 153), some (.int w1), some (.int w2), some (.int x3), some (.int w4)] [] (wmk s) r) : ∀ {n : Nat} {x3 : Int32} {x4 : Int32} , wX11_keptWith_h5 x1 x2 s n x3 x4 = some x → gRun 1 240 5 [some (.ref 153), some (.int x1), some (.int x2), some (.int x3), some (.int x4)] [] (wmk s) r := by
  intro n
  induction n with
  | zero => intro x3 x4 h; cases (show (none : Option (Int32)) = some x from h)
  | succ n ih =>
    intro x3 x4 h
    rw [wX11_keptWith_h5] at h
    refine gR_go 2 (pc1 := 8) (L1 := [some (.ref 153), some (.int x1), some (.int x2), some (.int x3), some (.int x4)]) (st1 := [.ref 153, .int x4]) (fun _ _ => rfl) ?_
    obtain ⟨t1, e2, h⟩ := gb h
    refine gR_cvI (wX11_worlds_s e2) (Nat.le_of_ble_eq_true rfl) rfl rfl rfl rfl rfl ?_
    rcases gif h with ⟨c3, h⟩ | ⟨c3, h⟩
    · refine gR_ic_ge_f rfl c3 ?_
      refine gR_go 2 (pc1 := 16) (L1 := [some (.ref 153), some (.int x1), some (.int x2), some (.int x3), some (.int x4)]) (st1 := [.ref 153, .int x3]) (fun _ _ => rfl) ?_
      refine gR_gfR (k := 152) (k' := 165) rfl rfl rfl rfl ?_
      refine gR_go 1 (pc1 := 21) (L1 := [some (.ref 153), some (.int x1), some (.int x2), some (.int x3), some (.int x4)]) (st1 := [.int x4, .ref 166, .int x3]) (fun _ _ => rfl) ?_
      obtain ⟨t4, et4, h⟩ := gb h
      refine gR_zal (k := 165) rfl rfl rfl et4 ?_
      rcases gif h with ⟨c5, h⟩ | ⟨c5, h⟩
      · refine gR_iz_eq_j rfl c5 rfl ?_
        exact wX11_keptWith_u40 ih he49 h
      · refine gR_iz_eq_f rfl c5 ?_
        refine gR_go 3 (pc1 := 29) (L1 := [some (.ref 153), some (.int x1), some (.int x2), some (.int x3), some (.int x4)]) (st1 := [.int x1, .int x4, .ref 153, .int x3]) (fun _ _ => rfl) ?_
        obtain ⟨t6, e7, h⟩ := gb h
        refine gR_cvI (wX11_thingOf_s e7) (Nat.le_of_ble_eq_true rfl) rfl rfl rfl rfl rfl ?_
        refine gR_go 1 (pc1 := 33) (L1 := [some (.ref 153), some (.int x1), some (.int x2), some (.int x3), some (.int x4)]) (st1 := [.int x2, .int t6, .int x3]) (fun _ _ => rfl) ?_
        rcases gif h with ⟨c8, h⟩ | ⟨c8, h⟩
        · refine gR_ic_ne_f rfl c8 ?_
          refine gR_go 2 (pc1 := 41) (L1 := [some (.ref 153), some (.int x1), some (.int x2), some (.int x3), some (.int x4)]) (st1 := [.int 1, .int x3]) (fun _ _ => rfl) ?_
          exact wX11_keptWith_u41 ih he49 h
        · refine gR_ic_ne_j rfl c8 rfl ?_
          exact wX11_keptWith_u40 ih he49 h
    · refine gR_ic_ge_j rfl c3 rfl ?_
      exact he49 _ _ _ _ (Option.some.inj h).symm
noncomputable def wX11_keptWith (x1 : Int32) (x2 : Int32) (s : wS) : Option (Int32) := (wX11_keptWith_h5 x1 x2 s wFuel 0 0).bind fun t10 => some t10
theorem wX11_keptWith_s {x1 : Int32} {x2 : Int32} {s : wS} {rv : Int32} (h : wX11_keptWith x1 x2 s = some rv) : gEv 2 240 [.ref 153, .int x1, .int x2] (wmk s) (some (.int rv), wmk s, 0, 0) := by
  refine gEv_of (d := 1) (L := [some (.ref 153), some (.int x1), some (.int x2), none, none]) rfl ?_
  unfold wX11_keptWith at h
  refine gR_go 4 (pc1 := 5) (L1 := [some (.ref 153), some (.int x1), some (.int x2), some (.int 0), some (.int 0)]) (st1 := []) (fun _ _ => rfl) ?_
  obtain ⟨z9, ez9, h⟩ := gb h
  refine wX11_keptWith_t5 ?_  ez9
  · intro t10 w11 w12 w13 hz
    replace hz := hz.symm
    subst hz
    refine gR_go 1 (pc1 := 50) (L1 := [some (.ref 153), some (.int w11), some (.int w12), some (.int t10), some (.int w13)]) (st1 := [.int t10]) (fun _ _ => rfl) ?_
    obtain rfl := gi1 h
    exact gR_ri rfl rfl
noncomputable def wX11_may (x1 : Int32) (x2 : Int32) (x3 : Int32) (x4 : Int32) (s : wS) : Option (Int32 × wS) := (wX11_canAsk x1 s).bind fun t1 => if t1 = 0 then (some ((-1), s)) else ((wX11_isMany x2 s).bind fun t4 => if t4 = 0 then (some ((-1), s)) else ((wX11_isThing x3 x4 s).bind fun t7 => if t7 = 0 then (some ((-1), s)) else ((wX11_keeps x1 x2 (-1) s).bind fun (t10, s11) => (wX11_keptWith x3 x4 s11).bind fun t13 => some (t13, s11))))
theorem wX11_may_s {x1 : Int32} {x2 : Int32} {x3 : Int32} {x4 : Int32} {s : wS} {rv : Int32} {rs : wS} (h : wX11_may x1 x2 x3 x4 s = some (rv, rs)) : gEv 6 241 [.ref 153, .int x1, .int x2, .int x3, .int x4] (wmk s) (some (.int rv), wmk rs, 0, 0) := by
  refine gEv_of (d := 5) (L := [some (.ref 153), some (.int x1), some (.int x2), some (.int x3), some (.int x4)]) rfl ?_
  unfold wX11_may at h
  refine gR_go 2 (pc1 := 2) (L1 := [some (.ref 153), some (.int x1), some (.int x2), some (.int x3), some (.int x4)]) (st1 := [.int x1, .ref 153]) (fun _ _ => rfl) ?_
  obtain ⟨t1, e2, h⟩ := gb h
  refine gR_cvI (wX11_canAsk_s e2) (Nat.le_of_ble_eq_true rfl) rfl rfl rfl rfl rfl ?_
  rcases gif h with ⟨c3, h⟩ | ⟨c3, h⟩
  · refine gR_iz_eq_j rfl c3 rfl ?_
    refine gR_go 1 (pc1 := 26) (L1 := [some (.ref 153), some (.int x1), some (.int x2), some (.int x3), some (.int x4)]) (st1 := [.int (-1)]) (fun _ _ => rfl) ?_
    obtain ⟨rfl, rfl⟩ := gi2 h
    exact gR_ri rfl rfl
  · refine gR_iz_eq_f rfl c3 ?_
    refine gR_go 1 (pc1 := 9) (L1 := [some (.ref 153), some (.int x1), some (.int x2), some (.int x3), some (.int x4)]) (st1 := [.int x2]) (fun _ _ => rfl) ?_
    obtain ⟨t4, e5, h⟩ := gb h
    refine gR_csI (wX11_isMany_s e5) (Nat.le_of_ble_eq_true rfl) rfl rfl rfl rfl ?_
    rcases gif h with ⟨c6, h⟩ | ⟨c6, h⟩
    · refine gR_iz_eq_j rfl c6 rfl ?_
      refine gR_go 1 (pc1 := 26) (L1 := [some (.ref 153), some (.int x1), some (.int x2), some (.int x3), some (.int x4)]) (st1 := [.int (-1)]) (fun _ _ => rfl) ?_
      obtain ⟨rfl, rfl⟩ := gi2 h
      exact gR_ri rfl rfl
    · refine gR_iz_eq_f rfl c6 ?_
      refine gR_go 3 (pc1 := 19) (L1 := [some (.ref 153), some (.int x1), some (.int x2), some (.int x3), some (.int x4)]) (st1 := [.int x4, .int x3, .ref 153]) (fun _ _ => rfl) ?_
      obtain ⟨t7, e8, h⟩ := gb h
      refine gR_cvI (wX11_isThing_s e8) (Nat.le_of_ble_eq_true rfl) rfl rfl rfl rfl rfl ?_
      rcases gif h with ⟨c9, h⟩ | ⟨c9, h⟩
      · refine gR_iz_ne_f rfl c9 ?_
        refine gR_go 1 (pc1 := 26) (L1 := [some (.ref 153), some (.int x1), some (.int x2), some (.int x3), some (.int x4)]) (st1 := [.int (-1)]) (fun _ _ => rfl) ?_
        obtain ⟨rfl, rfl⟩ := gi2 h
        exact gR_ri rfl rfl
      · refine gR_iz_ne_j rfl c9 rfl ?_
        refine gR_go 4 (pc1 := 31) (L1 := [some (.ref 153), some (.int x1), some (.int x2), some (.int x3), some (.int x4)]) (st1 := [.int (-1), .int x2, .int x1, .ref 153]) (fun _ _ => rfl) ?_
        obtain ⟨⟨t10, s11⟩, e12, h⟩ := gb h
        dsimp only at h
        refine gR_cvI (wX11_keeps_s e12) (Nat.le_of_ble_eq_true rfl) rfl rfl rfl rfl rfl ?_
        refine gR_go 4 (pc1 := 39) (L1 := [some (.ref 153), some (.int x1), some (.int x2), some (.int x3), some (.int x4)]) (st1 := [.int x4, .int x3, .ref 153]) (fun _ _ => rfl) ?_
        obtain ⟨t13, e14, h⟩ := gb h
        refine gR_cvI (wX11_keptWith_s e14) (Nat.le_of_ble_eq_true rfl) rfl rfl rfl rfl rfl ?_
        obtain ⟨rfl, rfl⟩ := gi2 h
        exact gR_ri rfl rfl
noncomputable def wX11_cleared_j60 (qq : Int32 → Int32 → Option (Int32)) (x4 : Int32) (y0 : Int32) (y1 : Int32) (s : wS) : Option (Int32) := qq (y0 ||| y1) (x4 + 1)
theorem wX11_cleared_u60 {x4 : Int32} {y0 : Int32} {y1 : Int32} {s : wS} {w1 : Int32} {w2 : Int32} {w3 : Int32} {qq : Int32 → Int32 → Option (Int32)} {x : Int32} {r : ri_R} (ih : ∀ {x3 : Int32} {x4 : Int32} {w1 : Int32} {w2 : Int32} , qq x3 x4 = some x → gRun 5 242 30 [some (.ref 153), some (.int w1), some (.int w2), some (.int x3), some (.int x4)] [] (wmk s) r) (he68 : ∀ (x3 : Int32) (w1 : Int32) (w2 : Int32) (w4 : Int32) , x = x3 → gRun 5 242 68 [some (.ref 153), some (.int w1), some (.int w2), some (.int x3), some (.int w4)] [] (wmk s) r) (h : wX11_cleared_j60 qq x4 y0 y1 s = some x) : gRun 5 242 60 [some (.ref 153), some (.int w1), some (.int w2), some (.int w3), some (.int x4)] [.int y1, .int y0] (wmk s) r := by
  unfold wX11_cleared_j60 at h
  refine gR_go 4 (pc1 := 30) (L1 := [some (.ref 153), some (.int w1), some (.int w2), some (.int (y0 ||| y1)), some (.int (x4 + 1))]) (st1 := []) (fun _ _ => rfl) ?_
  exact ih h
noncomputable def wX11_cleared_h30 (s : wS) : Nat → Int32 → Int32 → Option (Int32)
  | 0, _, _ => none
  | n + 1, x3, x4 => if x4 < (s.1 163 2) then ((wX11_keptWith 2 x4 s).bind fun t12 => if t12 = 0 then (wX11_cleared_j60 (wX11_cleared_h30 s n) x4 x3 (1 <<< (x4 &&& 31)) s) else (wX11_cleared_j60 (wX11_cleared_h30 s n) x4 x3 0 s)) else (some x3)
theorem wX11_cleared_t30 {s : wS} {x : Int32} {r : ri_R} (he68 : ∀ (x3 : Int32) (w1 : Int32) (w2 : Int32) (w4 : Int32) , x = x3 → gRun 5 242 68 [some (.ref 153), some (.int w1), some (.int w2), some (.int x3), some (.int w4)] [] (wmk s) r) : ∀ {n : Nat} {x3 : Int32} {x4 : Int32} {w1 : Int32} {w2 : Int32} , wX11_cleared_h30 s n x3 x4 = some x → gRun 5 242 30 [some (.ref 153), some (.int w1), some (.int w2), some (.int x3), some (.int x4)] [] (wmk s) r := by
  intro n
  induction n with
  | zero => intro x3 x4 w1 w2 h; cases (show (none : Option (Int32)) = some x from h)
  | succ n ih =>
    intro x3 x4 w1 w2 h
    rw [wX11_cleared_h30] at h
    refine gR_go 2 (pc1 := 33) (L1 := [some (.ref 153), some (.int w1), some (.int w2), some (.int x3), some (.int x4)]) (st1 := [.ref 153, .int x4]) (fun _ _ => rfl) ?_
    refine gR_gfR (k := 152) (k' := 163) rfl rfl rfl rfl ?_
    refine gR_go 1 (pc1 := 37) (L1 := [some (.ref 153), some (.int w1), some (.int w2), some (.int x3), some (.int x4)]) (st1 := [.int 2, .ref 164, .int x4]) (fun _ _ => rfl) ?_
    refine gR_ialc (k := 163) (j := 2) rfl rfl rfl (by decide) rfl ?_
    rcases gif h with ⟨c11, h⟩ | ⟨c11, h⟩
    · refine gR_ic_ge_f rfl c11 ?_
      refine gR_go 4 (pc1 := 46) (L1 := [some (.ref 153), some (.int w1), some (.int w2), some (.int x3), some (.int x4)]) (st1 := [.int x4, .int 2, .ref 153, .int x3]) (fun _ _ => rfl) ?_
      obtain ⟨t12, e13, h⟩ := gb h
      refine gR_cvI (wX11_keptWith_s e13) (Nat.le_of_ble_eq_true rfl) rfl rfl rfl rfl rfl ?_
      rcases gif h with ⟨c14, h⟩ | ⟨c14, h⟩
      · refine gR_iz_ne_f rfl c14 ?_
        refine gR_go 4 (pc1 := 60) (L1 := [some (.ref 153), some (.int w1), some (.int w2), some (.int x3), some (.int x4)]) (st1 := [.int (1 <<< (x4 &&& 31)), .int x3]) (fun _ _ => rfl) ?_
        exact wX11_cleared_u60 ih he68 h
      · refine gR_iz_ne_j rfl c14 rfl ?_
        refine gR_go 1 (pc1 := 60) (L1 := [some (.ref 153), some (.int w1), some (.int w2), some (.int x3), some (.int x4)]) (st1 := [.int 0, .int x3]) (fun _ _ => rfl) ?_
        exact wX11_cleared_u60 ih he68 h
    · refine gR_ic_ge_j rfl c11 rfl ?_
      exact he68 _ _ _ _ (Option.some.inj h).symm
noncomputable def wX11_cleared (x1 : Int32) (x2 : Int32) (s : wS) : Option (Int32 × wS) := (wX11_canAsk x1 s).bind fun t1 => if t1 = 0 then (some ((-1), s)) else ((wX11_isMany x2 s).bind fun t4 => if t4 = 0 then (some ((-1), s)) else ((wX11_keeps x1 x2 (-1) s).bind fun (t7, s8) => (wX11_cleared_h30 s8 wFuel 0 0).bind fun t16 => some (t16, s8)))
theorem wX11_cleared_s {x1 : Int32} {x2 : Int32} {s : wS} {rv : Int32} {rs : wS} (h : wX11_cleared x1 x2 s = some (rv, rs)) : gEv 6 242 [.ref 153, .int x1, .int x2] (wmk s) (some (.int rv), wmk rs, 0, 0) := by
  refine gEv_of (d := 5) (L := [some (.ref 153), some (.int x1), some (.int x2), none, none]) rfl ?_
  unfold wX11_cleared at h
  refine gR_go 2 (pc1 := 2) (L1 := [some (.ref 153), some (.int x1), some (.int x2), none, none]) (st1 := [.int x1, .ref 153]) (fun _ _ => rfl) ?_
  obtain ⟨t1, e2, h⟩ := gb h
  refine gR_cvI (wX11_canAsk_s e2) (Nat.le_of_ble_eq_true rfl) rfl rfl rfl rfl rfl ?_
  rcases gif h with ⟨c3, h⟩ | ⟨c3, h⟩
  · refine gR_iz_eq_j rfl c3 rfl ?_
    refine gR_go 1 (pc1 := 16) (L1 := [some (.ref 153), some (.int x1), some (.int x2), none, none]) (st1 := [.int (-1)]) (fun _ _ => rfl) ?_
    obtain ⟨rfl, rfl⟩ := gi2 h
    exact gR_ri rfl rfl
  · refine gR_iz_eq_f rfl c3 ?_
    refine gR_go 1 (pc1 := 9) (L1 := [some (.ref 153), some (.int x1), some (.int x2), none, none]) (st1 := [.int x2]) (fun _ _ => rfl) ?_
    obtain ⟨t4, e5, h⟩ := gb h
    refine gR_csI (wX11_isMany_s e5) (Nat.le_of_ble_eq_true rfl) rfl rfl rfl rfl ?_
    rcases gif h with ⟨c6, h⟩ | ⟨c6, h⟩
    · refine gR_iz_ne_f rfl c6 ?_
      refine gR_go 1 (pc1 := 16) (L1 := [some (.ref 153), some (.int x1), some (.int x2), none, none]) (st1 := [.int (-1)]) (fun _ _ => rfl) ?_
      obtain ⟨rfl, rfl⟩ := gi2 h
      exact gR_ri rfl rfl
    · refine gR_iz_ne_j rfl c6 rfl ?_
      refine gR_go 4 (pc1 := 21) (L1 := [some (.ref 153), some (.int x1), some (.int x2), none, none]) (st1 := [.int (-1), .int x2, .int x1, .ref 153]) (fun _ _ => rfl) ?_
      obtain ⟨⟨t7, s8⟩, e9, h⟩ := gb h
      dsimp only at h
      refine gR_cvI (wX11_keeps_s e9) (Nat.le_of_ble_eq_true rfl) rfl rfl rfl rfl rfl ?_
      refine gR_go 5 (pc1 := 30) (L1 := [some (.ref 153), some (.int x1), some (.int x2), some (.int 0), some (.int 0)]) (st1 := []) (fun _ _ => rfl) ?_
      obtain ⟨z15, ez15, h⟩ := gb h
      refine wX11_cleared_t30 ?_  ez15
      · intro t16 w17 w18 w19 hz
        replace hz := hz.symm
        subst hz
        refine gR_go 1 (pc1 := 69) (L1 := [some (.ref 153), some (.int w17), some (.int w18), some (.int t16), some (.int w19)]) (st1 := [.int t16]) (fun _ _ => rfl) ?_
        obtain ⟨rfl, rfl⟩ := gi2 h
        exact gR_ri rfl rfl
noncomputable def wX11_finds_j85 (qq : Int32 → wS → Option (wS)) (x2 : Int32) (y1 : Int32) (y2 : Int32) (s : wS) : Option (wS) := (wpfI s 152 29 (y1 + y2)).bind fun s17 => qq (x2 + 1) s17
theorem wX11_finds_u85 {x2 : Int32} {y1 : Int32} {y2 : Int32} {s : wS} {w1 : Int32} {w3 : Int32} {qq : Int32 → wS → Option (wS)} {x : wS} {r : ri_R} (ih : ∀ {x2 : Int32} {s : wS} {w1 : Int32} {w3 : Option Value} , qq x2 s = some x → gRun 4 243 22 [some (.ref 153), some (.int w1), some (.int x2), w3] [] (wmk s) r) (he95 : ∀ (s : wS) (w1 : Int32) (w2 : Int32) (w3 : Option Value) , x = s → gRun 4 243 95 [some (.ref 153), some (.int w1), some (.int w2), w3] [] (wmk s) r) (h : wX11_finds_j85 qq x2 y1 y2 s = some x) : gRun 4 243 85 [some (.ref 153), some (.int w1), some (.int x2), some (.int w3)] [.int y2, .int y1, .ref 153] (wmk s) r := by
  unfold wX11_finds_j85 at h
  refine gR_go 1 (pc1 := 86) (L1 := [some (.ref 153), some (.int w1), some (.int x2), some (.int w3)]) (st1 := [.int (y1 + y2), .ref 153]) (fun _ _ => rfl) ?_
  obtain ⟨s17, es17, h⟩ := gb h
  refine gR_pfI (k := 152) rfl rfl rfl rfl es17 ?_
  refine gR_go 2 (pc1 := 22) (L1 := [some (.ref 153), some (.int w1), some (.int (x2 + 1)), some (.int w3)]) (st1 := []) (fun _ _ => rfl) ?_
  exact ih h
noncomputable def wX11_finds_j67 (qq : Int32 → wS → Option (wS)) (x2 : Int32) (x3 : Int32) (s : wS) : Option (wS) := if x3 = (s.1 152 28) then (wX11_finds_j85 qq x2 (s.1 152 29) 1 s) else (wX11_finds_j85 qq x2 (s.1 152 29) 0 s)
theorem wX11_finds_u67 {x2 : Int32} {x3 : Int32} {s : wS} {w1 : Int32} {qq : Int32 → wS → Option (wS)} {x : wS} {r : ri_R} (ih : ∀ {x2 : Int32} {s : wS} {w1 : Int32} {w3 : Option Value} , qq x2 s = some x → gRun 4 243 22 [some (.ref 153), some (.int w1), some (.int x2), w3] [] (wmk s) r) (he95 : ∀ (s : wS) (w1 : Int32) (w2 : Int32) (w3 : Option Value) , x = s → gRun 4 243 95 [some (.ref 153), some (.int w1), some (.int w2), w3] [] (wmk s) r) (h : wX11_finds_j67 qq x2 x3 s = some x) : gRun 4 243 67 [some (.ref 153), some (.int w1), some (.int x2), some (.int x3)] [] (wmk s) r := by
  unfold wX11_finds_j67 at h
  refine gR_go 2 (pc1 := 69) (L1 := [some (.ref 153), some (.int w1), some (.int x2), some (.int x3)]) (st1 := [.ref 153, .ref 153]) (fun _ _ => rfl) ?_
  refine gR_gfI (k := 152) rfl rfl rfl ?_
  refine gR_go 2 (pc1 := 74) (L1 := [some (.ref 153), some (.int w1), some (.int x2), some (.int x3)]) (st1 := [.ref 153, .int x3, .int (s.1 152 29), .ref 153]) (fun _ _ => rfl) ?_
  refine gR_gfI (k := 152) rfl rfl rfl ?_
  rcases gif h with ⟨c16, h⟩ | ⟨c16, h⟩
  · refine gR_ic_ne_f rfl c16 ?_
    refine gR_go 2 (pc1 := 85) (L1 := [some (.ref 153), some (.int w1), some (.int x2), some (.int x3)]) (st1 := [.int 1, .int (s.1 152 29), .ref 153]) (fun _ _ => rfl) ?_
    exact wX11_finds_u85 ih he95 h
  · refine gR_ic_ne_j rfl c16 rfl ?_
    refine gR_go 1 (pc1 := 85) (L1 := [some (.ref 153), some (.int w1), some (.int x2), some (.int x3)]) (st1 := [.int 0, .int (s.1 152 29), .ref 153]) (fun _ _ => rfl) ?_
    exact wX11_finds_u85 ih he95 h
noncomputable def wX11_finds_j52 (qq : Int32 → wS → Option (wS)) (x2 : Int32) (x3 : Int32) (s : wS) : Option (wS) := (wpfI s 152 27 x2).bind fun s13 => (wpfI s13 152 28 x3).bind fun s14 => (wpfI s14 152 29 0).bind fun s15 => wX11_finds_j67 qq x2 x3 s15
theorem wX11_finds_u52 {x2 : Int32} {x3 : Int32} {s : wS} {w1 : Int32} {qq : Int32 → wS → Option (wS)} {x : wS} {r : ri_R} (ih : ∀ {x2 : Int32} {s : wS} {w1 : Int32} {w3 : Option Value} , qq x2 s = some x → gRun 4 243 22 [some (.ref 153), some (.int w1), some (.int x2), w3] [] (wmk s) r) (he95 : ∀ (s : wS) (w1 : Int32) (w2 : Int32) (w3 : Option Value) , x = s → gRun 4 243 95 [some (.ref 153), some (.int w1), some (.int w2), w3] [] (wmk s) r) (h : wX11_finds_j52 qq x2 x3 s = some x) : gRun 4 243 52 [some (.ref 153), some (.int w1), some (.int x2), some (.int x3)] [] (wmk s) r := by
  unfold wX11_finds_j52 at h
  refine gR_go 2 (pc1 := 54) (L1 := [some (.ref 153), some (.int w1), some (.int x2), some (.int x3)]) (st1 := [.int x2, .ref 153]) (fun _ _ => rfl) ?_
  obtain ⟨s13, es13, h⟩ := gb h
  refine gR_pfI (k := 152) rfl rfl rfl rfl es13 ?_
  refine gR_go 2 (pc1 := 59) (L1 := [some (.ref 153), some (.int w1), some (.int x2), some (.int x3)]) (st1 := [.int x3, .ref 153]) (fun _ _ => rfl) ?_
  obtain ⟨s14, es14, h⟩ := gb h
  refine gR_pfI (k := 152) rfl rfl rfl rfl es14 ?_
  refine gR_go 2 (pc1 := 64) (L1 := [some (.ref 153), some (.int w1), some (.int x2), some (.int x3)]) (st1 := [.int 0, .ref 153]) (fun _ _ => rfl) ?_
  obtain ⟨s15, es15, h⟩ := gb h
  refine gR_pfI (k := 152) rfl rfl rfl rfl es15 ?_
  exact wX11_finds_u67 ih he95 h
noncomputable def wX11_finds_h22 : Nat → Int32 → wS → Option (wS)
  | 0, _, _ => none
  | n + 1, x2, s => (wX11_worlds s).bind fun t7 => if x2 < t7 then ((wX11_wrongIn x2 (-1) s).bind fun t10 => if (s.1 152 27) < 0 then (wX11_finds_j52 (wX11_finds_h22 n) x2 t10 s) else (if t10 < (s.1 152 28) then (wX11_finds_j52 (wX11_finds_h22 n) x2 t10 s) else (wX11_finds_j67 (wX11_finds_h22 n) x2 t10 s))) else (some s)
theorem wX11_finds_t22 {x : wS} {r : ri_R} (he95 : ∀ (s : wS) (w1 : Int32) (w2 : Int32) (w3 : Option Value) , x = s → gRun 4 243 95 [some (.ref 153), some (.int w1), some (.int w2), w3] [] (wmk s) r) : ∀ {n : Nat} {x2 : Int32} {s : wS} {w1 : Int32} {w3 : Option Value} , wX11_finds_h22 n x2 s = some x → gRun 4 243 22 [some (.ref 153), some (.int w1), some (.int x2), w3] [] (wmk s) r := by
  intro n
  induction n with
  | zero => intro x2 s w1 w3 h; cases (show (none : Option (wS)) = some x from h)
  | succ n ih =>
    intro x2 s w1 w3 h
    rw [wX11_finds_h22] at h
    refine gR_go 2 (pc1 := 24) (L1 := [some (.ref 153), some (.int w1), some (.int x2), w3]) (st1 := [.ref 153, .int x2]) (fun _ _ => rfl) ?_
    obtain ⟨t7, e8, h⟩ := gb h
    refine gR_cvI (wX11_worlds_s e8) (Nat.le_of_ble_eq_true rfl) rfl rfl rfl rfl rfl ?_
    rcases gif h with ⟨c9, h⟩ | ⟨c9, h⟩
    · refine gR_ic_ge_f rfl c9 ?_
      refine gR_go 3 (pc1 := 33) (L1 := [some (.ref 153), some (.int w1), some (.int x2), w3]) (st1 := [.int (-1), .int x2, .ref 153]) (fun _ _ => rfl) ?_
      obtain ⟨t10, e11, h⟩ := gb h
      refine gR_cvI (wX11_wrongIn_s e11) (Nat.le_of_ble_eq_true rfl) rfl rfl rfl rfl rfl ?_
      refine gR_go 2 (pc1 := 38) (L1 := [some (.ref 153), some (.int w1), some (.int x2), some (.int t10)]) (st1 := [.ref 153]) (fun _ _ => rfl) ?_
      refine gR_gfI (k := 152) rfl rfl rfl ?_
      rcases gif h with ⟨c12, h⟩ | ⟨c12, h⟩
      · refine gR_iz_lt_j rfl c12 rfl ?_
        exact wX11_finds_u52 ih he95 h
      · refine gR_iz_lt_f rfl c12 ?_
        refine gR_go 2 (pc1 := 46) (L1 := [some (.ref 153), some (.int w1), some (.int x2), some (.int t10)]) (st1 := [.ref 153, .int t10]) (fun _ _ => rfl) ?_
        refine gR_gfI (k := 152) rfl rfl rfl ?_
        rcases gif h with ⟨c18, h⟩ | ⟨c18, h⟩
        · refine gR_ic_ge_f rfl c18 ?_
          exact wX11_finds_u52 ih he95 h
        · refine gR_ic_ge_j rfl c18 rfl ?_
          exact wX11_finds_u67 ih he95 h
    · refine gR_ic_ge_j rfl c9 rfl ?_
      exact he95 _ _ _ _ (Option.some.inj h).symm
noncomputable def wX11_finds (x1 : Int32) (s : wS) : Option (wS) := (wX11_reaches x1 s).bind fun s2 => (wpfI s2 152 27 (-1)).bind fun s4 => (wpfI s4 152 28 0).bind fun s5 => (wpfI s5 152 29 0).bind fun s6 => (wX11_finds_h22 wFuel 0 s6).bind fun s20 => some s20
theorem wX11_finds_s {x1 : Int32} {s : wS} {rs : wS} (h : wX11_finds x1 s = some rs) : gEv 5 243 [.ref 153, .int x1] (wmk s) (none, wmk rs, 0, 0) := by
  refine gEv_of (d := 4) (L := [some (.ref 153), some (.int x1), none, none]) rfl ?_
  unfold wX11_finds at h
  refine gR_go 2 (pc1 := 2) (L1 := [some (.ref 153), some (.int x1), none, none]) (st1 := [.int x1, .ref 153]) (fun _ _ => rfl) ?_
  obtain ⟨s2, e3, h⟩ := gb h
  refine gR_cvV (wX11_reaches_s e3) (Nat.le_of_ble_eq_true rfl) rfl rfl rfl rfl rfl ?_
  refine gR_go 2 (pc1 := 7) (L1 := [some (.ref 153), some (.int x1), none, none]) (st1 := [.int (-1), .ref 153]) (fun _ _ => rfl) ?_
  obtain ⟨s4, es4, h⟩ := gb h
  refine gR_pfI (k := 152) rfl rfl rfl rfl es4 ?_
  refine gR_go 2 (pc1 := 12) (L1 := [some (.ref 153), some (.int x1), none, none]) (st1 := [.int 0, .ref 153]) (fun _ _ => rfl) ?_
  obtain ⟨s5, es5, h⟩ := gb h
  refine gR_pfI (k := 152) rfl rfl rfl rfl es5 ?_
  refine gR_go 2 (pc1 := 17) (L1 := [some (.ref 153), some (.int x1), none, none]) (st1 := [.int 0, .ref 153]) (fun _ _ => rfl) ?_
  obtain ⟨s6, es6, h⟩ := gb h
  refine gR_pfI (k := 152) rfl rfl rfl rfl es6 ?_
  refine gR_go 2 (pc1 := 22) (L1 := [some (.ref 153), some (.int x1), some (.int 0), none]) (st1 := []) (fun _ _ => rfl) ?_
  obtain ⟨z19, ez19, h⟩ := gb h
  refine wX11_finds_t22 ?_  ez19
  · intro s20 w21 w22 w23 hz
    replace hz := hz.symm
    subst hz
    obtain rfl := gi1 h
    exact gR_rv rfl rfl
noncomputable def wX11_fewest (x1 : Int32) (x2 : Int32) (s : wS) : Option (Int32 × wS) := (wX11_canAsk x1 s).bind fun t1 => if t1 = 0 then (some ((-1), s)) else ((wX11_in ((x2 : Int32).toInt64) 0 2 s).bind fun t4 => if t4 = 0 then (some ((-1), s)) else ((wX11_finds x1 s).bind fun s8 => if x2 = 0 then (some ((s8.1 152 28), s8)) else (if x2 = 1 then (some ((s8.1 152 27), s8)) else (some ((s8.1 152 29), s8)))))
theorem wX11_fewest_s {x1 : Int32} {x2 : Int32} {s : wS} {rv : Int32} {rs : wS} (h : wX11_fewest x1 x2 s = some (rv, rs)) : gEv 6 244 [.ref 153, .int x1, .int x2] (wmk s) (some (.int rv), wmk rs, 0, 0) := by
  refine gEv_of (d := 5) (L := [some (.ref 153), some (.int x1), some (.int x2)]) rfl ?_
  unfold wX11_fewest at h
  refine gR_go 2 (pc1 := 2) (L1 := [some (.ref 153), some (.int x1), some (.int x2)]) (st1 := [.int x1, .ref 153]) (fun _ _ => rfl) ?_
  obtain ⟨t1, e2, h⟩ := gb h
  refine gR_cvI (wX11_canAsk_s e2) (Nat.le_of_ble_eq_true rfl) rfl rfl rfl rfl rfl ?_
  rcases gif h with ⟨c3, h⟩ | ⟨c3, h⟩
  · refine gR_iz_eq_j rfl c3 rfl ?_
    refine gR_go 1 (pc1 := 21) (L1 := [some (.ref 153), some (.int x1), some (.int x2)]) (st1 := [.int (-1)]) (fun _ _ => rfl) ?_
    obtain ⟨rfl, rfl⟩ := gi2 h
    exact gR_ri rfl rfl
  · refine gR_iz_eq_f rfl c3 ?_
    refine gR_go 4 (pc1 := 14) (L1 := [some (.ref 153), some (.int x1), some (.int x2)]) (st1 := [.long 2, .long 0, .long ((x2 : Int32).toInt64)]) (fun _ _ => rfl) ?_
    obtain ⟨t4, e5, h⟩ := gb h
    refine gR_csI (wX11_in_s e5) (Nat.le_of_ble_eq_true rfl) rfl rfl rfl rfl ?_
    rcases gif h with ⟨c6, h⟩ | ⟨c6, h⟩
    · refine gR_iz_ne_f rfl c6 ?_
      refine gR_go 1 (pc1 := 21) (L1 := [some (.ref 153), some (.int x1), some (.int x2)]) (st1 := [.int (-1)]) (fun _ _ => rfl) ?_
      obtain ⟨rfl, rfl⟩ := gi2 h
      exact gR_ri rfl rfl
    · refine gR_iz_ne_j rfl c6 rfl ?_
      refine gR_go 2 (pc1 := 24) (L1 := [some (.ref 153), some (.int x1), some (.int x2)]) (st1 := [.int x1, .ref 153]) (fun _ _ => rfl) ?_
      obtain ⟨s8, e9, h⟩ := gb h
      refine gR_cvV (wX11_finds_s e9) (Nat.le_of_ble_eq_true rfl) rfl rfl rfl rfl rfl ?_
      refine gR_go 1 (pc1 := 28) (L1 := [some (.ref 153), some (.int x1), some (.int x2)]) (st1 := [.int x2]) (fun _ _ => rfl) ?_
      rcases gif h with ⟨c10, h⟩ | ⟨c10, h⟩
      · refine gR_iz_ne_f rfl c10 ?_
        refine gR_go 1 (pc1 := 32) (L1 := [some (.ref 153), some (.int x1), some (.int x2)]) (st1 := [.ref 153]) (fun _ _ => rfl) ?_
        refine gR_gfI (k := 152) rfl rfl rfl ?_
        refine gR_go 1 (pc1 := 54) (L1 := [some (.ref 153), some (.int x1), some (.int x2)]) (st1 := [.int (s8.1 152 28)]) (fun _ _ => rfl) ?_
        obtain ⟨rfl, rfl⟩ := gi2 h
        exact gR_ri rfl rfl
      · refine gR_iz_ne_j rfl c10 rfl ?_
        refine gR_go 2 (pc1 := 40) (L1 := [some (.ref 153), some (.int x1), some (.int x2)]) (st1 := [.int 1, .int x2]) (fun _ _ => rfl) ?_
        rcases gif h with ⟨c11, h⟩ | ⟨c11, h⟩
        · refine gR_ic_ne_f rfl c11 ?_
          refine gR_go 1 (pc1 := 44) (L1 := [some (.ref 153), some (.int x1), some (.int x2)]) (st1 := [.ref 153]) (fun _ _ => rfl) ?_
          refine gR_gfI (k := 152) rfl rfl rfl ?_
          refine gR_go 1 (pc1 := 54) (L1 := [some (.ref 153), some (.int x1), some (.int x2)]) (st1 := [.int (s8.1 152 27)]) (fun _ _ => rfl) ?_
          obtain ⟨rfl, rfl⟩ := gi2 h
          exact gR_ri rfl rfl
        · refine gR_ic_ne_j rfl c11 rfl ?_
          refine gR_go 1 (pc1 := 51) (L1 := [some (.ref 153), some (.int x1), some (.int x2)]) (st1 := [.ref 153]) (fun _ _ => rfl) ?_
          refine gR_gfI (k := 152) rfl rfl rfl ?_
          obtain ⟨rfl, rfl⟩ := gi2 h
          exact gR_ri rfl rfl
noncomputable def wX11_falseOnes_j64 (qq : Int64 → Int32 → Option (Int64)) (x4 : Int32) (y0 : Int64) (y1 : Int64) (s : wS) : Option (Int64) := qq (y0 ||| y1) (x4 + 1)
theorem wX11_falseOnes_u64 {x4 : Int32} {y0 : Int64} {y1 : Int64} {s : wS} {w1 : Int32} {w2 : Int64} {qq : Int64 → Int32 → Option (Int64)} {x : Int64} {r : ri_R} (ih : ∀ {x2 : Int64} {x4 : Int32} {w1 : Int32} , qq x2 x4 = some x → gRun 5 245 22 [some (.ref 153), some (.int w1), some (.long x2), none, some (.int x4)] [] (wmk s) r) (he72 : ∀ (x2 : Int64) (w1 : Int32) (w4 : Int32) , x = x2 → gRun 5 245 72 [some (.ref 153), some (.int w1), some (.long x2), none, some (.int w4)] [] (wmk s) r) (h : wX11_falseOnes_j64 qq x4 y0 y1 s = some x) : gRun 5 245 64 [some (.ref 153), some (.int w1), some (.long w2), none, some (.int x4)] [.long y1, .long y0] (wmk s) r := by
  unfold wX11_falseOnes_j64 at h
  refine gR_go 4 (pc1 := 22) (L1 := [some (.ref 153), some (.int w1), some (.long (y0 ||| y1)), none, some (.int (x4 + 1))]) (st1 := []) (fun _ _ => rfl) ?_
  exact ih h
noncomputable def wX11_falseOnes_j63 (qq : Int64 → Int32 → Option (Int64)) (x4 : Int32) (y0 : Int64) (s : wS) : Option (Int64) := wX11_falseOnes_j64 qq x4 y0 0 s
theorem wX11_falseOnes_u63 {x4 : Int32} {y0 : Int64} {s : wS} {w1 : Int32} {w2 : Int64} {qq : Int64 → Int32 → Option (Int64)} {x : Int64} {r : ri_R} (ih : ∀ {x2 : Int64} {x4 : Int32} {w1 : Int32} , qq x2 x4 = some x → gRun 5 245 22 [some (.ref 153), some (.int w1), some (.long x2), none, some (.int x4)] [] (wmk s) r) (he72 : ∀ (x2 : Int64) (w1 : Int32) (w4 : Int32) , x = x2 → gRun 5 245 72 [some (.ref 153), some (.int w1), some (.long x2), none, some (.int w4)] [] (wmk s) r) (h : wX11_falseOnes_j63 qq x4 y0 s = some x) : gRun 5 245 63 [some (.ref 153), some (.int w1), some (.long w2), none, some (.int x4)] [.long y0] (wmk s) r := by
  unfold wX11_falseOnes_j63 at h
  refine gR_go 1 (pc1 := 64) (L1 := [some (.ref 153), some (.int w1), some (.long w2), none, some (.int x4)]) (st1 := [.long 0, .long y0]) (fun _ _ => rfl) ?_
  exact wX11_falseOnes_u64 ih he72 h
noncomputable def wX11_falseOnes_h22 (s : wS) : Nat → Int64 → Int32 → Option (Int64)
  | 0, _, _ => none
  | n + 1, x2, x4 => if x4 < (s.1 163 3) then ((wX11_isLookedAt x4 s).bind fun t9 => if t9 = 0 then (wX11_falseOnes_j63 (wX11_falseOnes_h22 s n) x4 x2 s) else ((wX11_isTrue x4 (s.1 152 27) s).bind fun t12 => if t12 = 0 then (wX11_falseOnes_j64 (wX11_falseOnes_h22 s n) x4 x2 (1 <<< ((x4 : Int32).toInt64 &&& 63)) s) else (wX11_falseOnes_j63 (wX11_falseOnes_h22 s n) x4 x2 s))) else (some x2)
theorem wX11_falseOnes_t22 {s : wS} {x : Int64} {r : ri_R} (he72 : ∀ (x2 : Int64) (w1 : Int32) (w4 : Int32) , x = x2 → gRun 5 245 72 [some (.ref 153), some (.int w1), some (.long x2), none, some (.int w4)] [] (wmk s) r) : ∀ {n : Nat} {x2 : Int64} {x4 : Int32} {w1 : Int32} , wX11_falseOnes_h22 s n x2 x4 = some x → gRun 5 245 22 [some (.ref 153), some (.int w1), some (.long x2), none, some (.int x4)] [] (wmk s) r := by
  intro n
  induction n with
  | zero => intro x2 x4 w1 h; cases (show (none : Option (Int64)) = some x from h)
  | succ n ih =>
    intro x2 x4 w1 h
    rw [wX11_falseOnes_h22] at h
    refine gR_go 2 (pc1 := 25) (L1 := [some (.ref 153), some (.int w1), some (.long x2), none, some (.int x4)]) (st1 := [.ref 153, .int x4]) (fun _ _ => rfl) ?_
    refine gR_gfR (k := 152) (k' := 163) rfl rfl rfl rfl ?_
    refine gR_go 1 (pc1 := 29) (L1 := [some (.ref 153), some (.int w1), some (.long x2), none, some (.int x4)]) (st1 := [.int 3, .ref 164, .int x4]) (fun _ _ => rfl) ?_
    refine gR_ialc (k := 163) (j := 3) rfl rfl rfl (by decide) rfl ?_
    rcases gif h with ⟨c8, h⟩ | ⟨c8, h⟩
    · refine gR_ic_ge_f rfl c8 ?_
      refine gR_go 3 (pc1 := 37) (L1 := [some (.ref 153), some (.int w1), some (.long x2), none, some (.int x4)]) (st1 := [.int x4, .ref 153, .long x2]) (fun _ _ => rfl) ?_
      obtain ⟨t9, e10, h⟩ := gb h
      refine gR_cvI (wX11_isLookedAt_s e10) (Nat.le_of_ble_eq_true rfl) rfl rfl rfl rfl rfl ?_
      rcases gif h with ⟨c11, h⟩ | ⟨c11, h⟩
      · refine gR_iz_eq_j rfl c11 rfl ?_
        exact wX11_falseOnes_u63 ih he72 h
      · refine gR_iz_eq_f rfl c11 ?_
        refine gR_go 3 (pc1 := 47) (L1 := [some (.ref 153), some (.int w1), some (.long x2), none, some (.int x4)]) (st1 := [.ref 153, .int x4, .ref 153, .long x2]) (fun _ _ => rfl) ?_
        refine gR_gfI (k := 152) rfl rfl rfl ?_
        obtain ⟨t12, e13, h⟩ := gb h
        refine gR_cvI (wX11_isTrue_s e13) (Nat.le_of_ble_eq_true rfl) rfl rfl rfl rfl rfl ?_
        rcases gif h with ⟨c14, h⟩ | ⟨c14, h⟩
        · refine gR_iz_ne_f rfl c14 ?_
          refine gR_go 4 (pc1 := 64) (L1 := [some (.ref 153), some (.int w1), some (.long x2), none, some (.int x4)]) (st1 := [.long (1 <<< ((x4 : Int32).toInt64 &&& 63)), .long x2]) (fun _ _ => rfl) ?_
          exact wX11_falseOnes_u64 ih he72 h
        · refine gR_iz_ne_j rfl c14 rfl ?_
          exact wX11_falseOnes_u63 ih he72 h
    · refine gR_ic_ge_j rfl c8 rfl ?_
      exact he72 _ _ _ (Option.some.inj h).symm
noncomputable def wX11_falseOnes (x1 : Int32) (s : wS) : Option (Int64 × wS) := (wX11_canAsk x1 s).bind fun t1 => if t1 = 0 then (some ((-1), s)) else ((wX11_finds x1 s).bind fun s5 => (wX11_falseOnes_h22 s5 wFuel 0 0).bind fun t16 => some (t16, s5))
theorem wX11_falseOnes_s {x1 : Int32} {s : wS} {rv : Int64} {rs : wS} (h : wX11_falseOnes x1 s = some (rv, rs)) : gEv 6 245 [.ref 153, .int x1] (wmk s) (some (.long rv), wmk rs, 0, 0) := by
  refine gEv_of (d := 5) (L := [some (.ref 153), some (.int x1), none, none, none]) rfl ?_
  unfold wX11_falseOnes at h
  refine gR_go 2 (pc1 := 2) (L1 := [some (.ref 153), some (.int x1), none, none, none]) (st1 := [.int x1, .ref 153]) (fun _ _ => rfl) ?_
  obtain ⟨t1, e2, h⟩ := gb h
  refine gR_cvI (wX11_canAsk_s e2) (Nat.le_of_ble_eq_true rfl) rfl rfl rfl rfl rfl ?_
  rcases gif h with ⟨c3, h⟩ | ⟨c3, h⟩
  · refine gR_iz_ne_f rfl c3 ?_
    refine gR_go 1 (pc1 := 11) (L1 := [some (.ref 153), some (.int x1), none, none, none]) (st1 := [.long (-1)]) (fun _ _ => rfl) ?_
    obtain ⟨rfl, rfl⟩ := gi2 h
    exact gR_rl rfl rfl
  · refine gR_iz_ne_j rfl c3 rfl ?_
    refine gR_go 2 (pc1 := 14) (L1 := [some (.ref 153), some (.int x1), none, none, none]) (st1 := [.int x1, .ref 153]) (fun _ _ => rfl) ?_
    obtain ⟨s5, e6, h⟩ := gb h
    refine gR_cvV (wX11_finds_s e6) (Nat.le_of_ble_eq_true rfl) rfl rfl rfl rfl rfl ?_
    refine gR_go 4 (pc1 := 22) (L1 := [some (.ref 153), some (.int x1), some (.long 0), none, some (.int 0)]) (st1 := []) (fun _ _ => rfl) ?_
    obtain ⟨z15, ez15, h⟩ := gb h
    refine wX11_falseOnes_t22 ?_  ez15
    · intro t16 w17 w18 hz
      replace hz := hz.symm
      subst hz
      refine gR_go 1 (pc1 := 73) (L1 := [some (.ref 153), some (.int w17), some (.long t16), none, some (.int w18)]) (st1 := [.long t16]) (fun _ _ => rfl) ?_
      obtain ⟨rfl, rfl⟩ := gi2 h
      exact gR_rl rfl rfl
noncomputable def wX11_liars_j78 (qq : Int32 → Int32 → Option (Int32)) (x2 : Int32) (x3 : Int32) (x5 : Int32) (y0 : Int32) (y1 : Int32) (s : wS) : Option (Int32) := qq (y0 ||| y1) (x5 + 1)
theorem wX11_liars_u78 {x2 : Int32} {x3 : Int32} {x5 : Int32} {y0 : Int32} {y1 : Int32} {s : wS} {w1 : Int32} {w4 : Int32} {qq : Int32 → Int32 → Option (Int32)} {x : Int32} {r : ri_R} (ih : ∀ {x4 : Int32} {x5 : Int32} {w1 : Int32} , qq x4 x5 = some x → gRun 4 246 33 [some (.ref 153), some (.int w1), some (.int x2), some (.int x3), some (.int x4), some (.int x5)] [] (wmk s) r) (he87 : ∀ (x4 : Int32) (w1 : Int32) (w5 : Int32) , x = x4 → gRun 4 246 87 [some (.ref 153), some (.int w1), some (.int x2), some (.int x3), some (.int x4), some (.int w5)] [] (wmk s) r) (h : wX11_liars_j78 qq x2 x3 x5 y0 y1 s = some x) : gRun 4 246 78 [some (.ref 153), some (.int w1), some (.int x2), some (.int x3), some (.int w4), some (.int x5)] [.int y1, .int y0] (wmk s) r := by
  unfold wX11_liars_j78 at h
  refine gR_go 4 (pc1 := 33) (L1 := [some (.ref 153), some (.int w1), some (.int x2), some (.int x3), some (.int (y0 ||| y1)), some (.int (x5 + 1))]) (st1 := []) (fun _ _ => rfl) ?_
  exact ih h
noncomputable def wX11_liars_j77 (qq : Int32 → Int32 → Option (Int32)) (x2 : Int32) (x3 : Int32) (x5 : Int32) (y0 : Int32) (s : wS) : Option (Int32) := wX11_liars_j78 qq x2 x3 x5 y0 0 s
theorem wX11_liars_u77 {x2 : Int32} {x3 : Int32} {x5 : Int32} {y0 : Int32} {s : wS} {w1 : Int32} {w4 : Int32} {qq : Int32 → Int32 → Option (Int32)} {x : Int32} {r : ri_R} (ih : ∀ {x4 : Int32} {x5 : Int32} {w1 : Int32} , qq x4 x5 = some x → gRun 4 246 33 [some (.ref 153), some (.int w1), some (.int x2), some (.int x3), some (.int x4), some (.int x5)] [] (wmk s) r) (he87 : ∀ (x4 : Int32) (w1 : Int32) (w5 : Int32) , x = x4 → gRun 4 246 87 [some (.ref 153), some (.int w1), some (.int x2), some (.int x3), some (.int x4), some (.int w5)] [] (wmk s) r) (h : wX11_liars_j77 qq x2 x3 x5 y0 s = some x) : gRun 4 246 77 [some (.ref 153), some (.int w1), some (.int x2), some (.int x3), some (.int w4), some (.int x5)] [.int y0] (wmk s) r := by
  unfold wX11_liars_j77 at h
  refine gR_go 1 (pc1 := 78) (L1 := [some (.ref 153), some (.int w1), some (.int x2), some (.int x3), some (.int w4), some (.int x5)]) (st1 := [.int 0, .int y0]) (fun _ _ => rfl) ?_
  exact wX11_liars_u78 ih he87 h
noncomputable def wX11_liars_h33 (x2 : Int32) (x3 : Int32) (s : wS) : Nat → Int32 → Int32 → Option (Int32)
  | 0, _, _ => none
  | n + 1, x4, x5 => if x5 < (s.1 163 3) then ((wX11_isLookedAt x5 s).bind fun t12 => if t12 = 0 then (wX11_liars_j77 (wX11_liars_h33 x2 x3 s n) x2 x3 x5 x4 s) else ((wX11_isTrue x5 x3 s).bind fun t15 => if t15 = 0 then ((wX11_answerOf x5 0 s).bind fun t18 => wX11_liars_j78 (wX11_liars_h33 x2 x3 s n) x2 x3 x5 x4 (1 <<< (t18 &&& 31)) s) else (wX11_liars_j77 (wX11_liars_h33 x2 x3 s n) x2 x3 x5 x4 s))) else (some x4)
theorem wX11_liars_t33 {x2 : Int32} {x3 : Int32} {s : wS} {x : Int32} {r : ri_R} (he87 : ∀ (x4 : Int32) (w1 : Int32) (w5 : Int32) , x = x4 → gRun 4 246 87 [some (.ref 153), some (.int w1), some (.int x2), some (.int x3), some (.int x4), some (.int w5)] [] (wmk s) r) : ∀ {n : Nat} {x4 : Int32} {x5 : Int32} {w1 : Int32} , wX11_liars_h33 x2 x3 s n x4 x5 = some x → gRun 4 246 33 [some (.ref 153), some (.int w1), some (.int x2), some (.int x3), some (.int x4), some (.int x5)] [] (wmk s) r := by
  intro n
  induction n with
  | zero => intro x4 x5 w1 h; cases (show (none : Option (Int32)) = some x from h)
  | succ n ih =>
    intro x4 x5 w1 h
    rw [wX11_liars_h33] at h
    refine gR_go 2 (pc1 := 36) (L1 := [some (.ref 153), some (.int w1), some (.int x2), some (.int x3), some (.int x4), some (.int x5)]) (st1 := [.ref 153, .int x5]) (fun _ _ => rfl) ?_
    refine gR_gfR (k := 152) (k' := 163) rfl rfl rfl rfl ?_
    refine gR_go 1 (pc1 := 40) (L1 := [some (.ref 153), some (.int w1), some (.int x2), some (.int x3), some (.int x4), some (.int x5)]) (st1 := [.int 3, .ref 164, .int x5]) (fun _ _ => rfl) ?_
    refine gR_ialc (k := 163) (j := 3) rfl rfl rfl (by decide) rfl ?_
    rcases gif h with ⟨c11, h⟩ | ⟨c11, h⟩
    · refine gR_ic_ge_f rfl c11 ?_
      refine gR_go 3 (pc1 := 49) (L1 := [some (.ref 153), some (.int w1), some (.int x2), some (.int x3), some (.int x4), some (.int x5)]) (st1 := [.int x5, .ref 153, .int x4]) (fun _ _ => rfl) ?_
      obtain ⟨t12, e13, h⟩ := gb h
      refine gR_cvI (wX11_isLookedAt_s e13) (Nat.le_of_ble_eq_true rfl) rfl rfl rfl rfl rfl ?_
      rcases gif h with ⟨c14, h⟩ | ⟨c14, h⟩
      · refine gR_iz_eq_j rfl c14 rfl ?_
        exact wX11_liars_u77 ih he87 h
      · refine gR_iz_eq_f rfl c14 ?_
        refine gR_go 3 (pc1 := 59) (L1 := [some (.ref 153), some (.int w1), some (.int x2), some (.int x3), some (.int x4), some (.int x5)]) (st1 := [.int x3, .int x5, .ref 153, .int x4]) (fun _ _ => rfl) ?_
        obtain ⟨t15, e16, h⟩ := gb h
        refine gR_cvI (wX11_isTrue_s e16) (Nat.le_of_ble_eq_true rfl) rfl rfl rfl rfl rfl ?_
        rcases gif h with ⟨c17, h⟩ | ⟨c17, h⟩
        · refine gR_iz_ne_f rfl c17 ?_
          refine gR_go 4 (pc1 := 70) (L1 := [some (.ref 153), some (.int w1), some (.int x2), some (.int x3), some (.int x4), some (.int x5)]) (st1 := [.int 0, .int x5, .ref 153, .int 1, .int x4]) (fun _ _ => rfl) ?_
          obtain ⟨t18, e19, h⟩ := gb h
          refine gR_cvI (wX11_answerOf_s e19) (Nat.le_of_ble_eq_true rfl) rfl rfl rfl rfl rfl ?_
          refine gR_go 2 (pc1 := 78) (L1 := [some (.ref 153), some (.int w1), some (.int x2), some (.int x3), some (.int x4), some (.int x5)]) (st1 := [.int (1 <<< (t18 &&& 31)), .int x4]) (fun _ _ => rfl) ?_
          exact wX11_liars_u78 ih he87 h
        · refine gR_iz_ne_j rfl c17 rfl ?_
          exact wX11_liars_u77 ih he87 h
    · refine gR_ic_ge_j rfl c11 rfl ?_
      exact he87 _ _ _ (Option.some.inj h).symm
noncomputable def wX11_liars_j128 (qq : Int32 → Int32 → Option (Int32)) (x2 : Int32) (x3 : Int32) (s : wS) : Option (Int32) := qq x2 (x3 + 1)
theorem wX11_liars_u128 {x2 : Int32} {x3 : Int32} {s : wS} {w1 : Int32} {w4 : Int32} {w5 : Int32} {qq : Int32 → Int32 → Option (Int32)} {x : Int32} {r : ri_R} (ih : ∀ {x2 : Int32} {x3 : Int32} {w1 : Int32} {w4 : Option Value} {w5 : Option Value} , qq x2 x3 = some x → gRun 4 246 19 [some (.ref 153), some (.int w1), some (.int x2), some (.int x3), w4, w5] [] (wmk s) r) (he134 : ∀ (x2 : Int32) (w1 : Int32) (w3 : Int32) (w4 : Option Value) (w5 : Option Value) , x = x2 → gRun 4 246 134 [some (.ref 153), some (.int w1), some (.int x2), some (.int w3), w4, w5] [] (wmk s) r) (h : wX11_liars_j128 qq x2 x3 s = some x) : gRun 4 246 128 [some (.ref 153), some (.int w1), some (.int x2), some (.int x3), some (.int w4), some (.int w5)] [] (wmk s) r := by
  unfold wX11_liars_j128 at h
  refine gR_go 2 (pc1 := 19) (L1 := [some (.ref 153), some (.int w1), some (.int x2), some (.int (x3 + 1)), some (.int w4), some (.int w5)]) (st1 := []) (fun _ _ => rfl) ?_
  exact ih h
noncomputable def wX11_liars_j125 (qq : Int32 → Int32 → Option (Int32)) (x3 : Int32) (x4 : Int32) (s : wS) : Option (Int32) := wX11_liars_j128 qq x4 x3 s
theorem wX11_liars_u125 {x3 : Int32} {x4 : Int32} {s : wS} {w1 : Int32} {w2 : Int32} {w5 : Int32} {qq : Int32 → Int32 → Option (Int32)} {x : Int32} {r : ri_R} (ih : ∀ {x2 : Int32} {x3 : Int32} {w1 : Int32} {w4 : Option Value} {w5 : Option Value} , qq x2 x3 = some x → gRun 4 246 19 [some (.ref 153), some (.int w1), some (.int x2), some (.int x3), w4, w5] [] (wmk s) r) (he134 : ∀ (x2 : Int32) (w1 : Int32) (w3 : Int32) (w4 : Option Value) (w5 : Option Value) , x = x2 → gRun 4 246 134 [some (.ref 153), some (.int w1), some (.int x2), some (.int w3), w4, w5] [] (wmk s) r) (h : wX11_liars_j125 qq x3 x4 s = some x) : gRun 4 246 125 [some (.ref 153), some (.int w1), some (.int w2), some (.int x3), some (.int x4), some (.int w5)] [] (wmk s) r := by
  unfold wX11_liars_j125 at h
  refine gR_go 2 (pc1 := 128) (L1 := [some (.ref 153), some (.int w1), some (.int x4), some (.int x3), some (.int x4), some (.int w5)]) (st1 := []) (fun _ _ => rfl) ?_
  exact wX11_liars_u128 ih he134 h
noncomputable def wX11_liars_h19 (s : wS) : Nat → Int32 → Int32 → Option (Int32)
  | 0, _, _ => none
  | n + 1, x2, x3 => (wX11_worlds s).bind fun t7 => if x3 < t7 then ((wX11_liars_h33 x2 x3 s wFuel 0 0).bind fun t21 => if x2 < 0 then (wX11_liars_j125 (wX11_liars_h19 s n) x3 t21 s) else ((wX11_bits ((t21 : Int32).toInt64) s).bind fun t25 => (wX11_bits ((x2 : Int32).toInt64) s).bind fun t27 => if t25 < t27 then (wX11_liars_j125 (wX11_liars_h19 s n) x3 t21 s) else ((wX11_bits ((t21 : Int32).toInt64) s).bind fun t30 => (wX11_bits ((x2 : Int32).toInt64) s).bind fun t32 => if t30 = t32 then (if t21 < x2 then (wX11_liars_j125 (wX11_liars_h19 s n) x3 t21 s) else (wX11_liars_j128 (wX11_liars_h19 s n) x2 x3 s)) else (wX11_liars_j128 (wX11_liars_h19 s n) x2 x3 s)))) else (some x2)
theorem wX11_liars_t19 {s : wS} {x : Int32} {r : ri_R} (he134 : ∀ (x2 : Int32) (w1 : Int32) (w3 : Int32) (w4 : Option Value) (w5 : Option Value) , x = x2 → gRun 4 246 134 [some (.ref 153), some (.int w1), some (.int x2), some (.int w3), w4, w5] [] (wmk s) r) : ∀ {n : Nat} {x2 : Int32} {x3 : Int32} {w1 : Int32} {w4 : Option Value} {w5 : Option Value} , wX11_liars_h19 s n x2 x3 = some x → gRun 4 246 19 [some (.ref 153), some (.int w1), some (.int x2), some (.int x3), w4, w5] [] (wmk s) r := by
  intro n
  induction n with
  | zero => intro x2 x3 w1 w4 w5 h; cases (show (none : Option (Int32)) = some x from h)
  | succ n ih =>
    intro x2 x3 w1 w4 w5 h
    rw [wX11_liars_h19] at h
    refine gR_go 2 (pc1 := 21) (L1 := [some (.ref 153), some (.int w1), some (.int x2), some (.int x3), w4, w5]) (st1 := [.ref 153, .int x3]) (fun _ _ => rfl) ?_
    obtain ⟨t7, e8, h⟩ := gb h
    refine gR_cvI (wX11_worlds_s e8) (Nat.le_of_ble_eq_true rfl) rfl rfl rfl rfl rfl ?_
    rcases gif h with ⟨c9, h⟩ | ⟨c9, h⟩
    · refine gR_ic_ge_f rfl c9 ?_
      refine gR_go 4 (pc1 := 33) (L1 := [some (.ref 153), some (.int w1), some (.int x2), some (.int x3), some (.int 0), some (.int 0)]) (st1 := []) (fun _ _ => rfl) ?_
      obtain ⟨z20, ez20, h⟩ := gb h
      refine wX11_liars_t33 ?_  ez20
      · intro t21 w22 w23 hz
        replace hz := hz.symm
        subst hz
        refine gR_go 1 (pc1 := 88) (L1 := [some (.ref 153), some (.int w22), some (.int x2), some (.int x3), some (.int t21), some (.int w23)]) (st1 := [.int x2]) (fun _ _ => rfl) ?_
        rcases gif h with ⟨c24, h⟩ | ⟨c24, h⟩
        · refine gR_iz_lt_j rfl c24 rfl ?_
          exact wX11_liars_u125 ih he134 h
        · refine gR_iz_lt_f rfl c24 ?_
          refine gR_go 2 (pc1 := 94) (L1 := [some (.ref 153), some (.int w22), some (.int x2), some (.int x3), some (.int t21), some (.int w23)]) (st1 := [.long ((t21 : Int32).toInt64)]) (fun _ _ => rfl) ?_
          obtain ⟨t25, e26, h⟩ := gb h
          refine gR_csI (wX11_bits_s e26) (Nat.le_of_ble_eq_true rfl) rfl rfl rfl rfl ?_
          refine gR_go 2 (pc1 := 99) (L1 := [some (.ref 153), some (.int w22), some (.int x2), some (.int x3), some (.int t21), some (.int w23)]) (st1 := [.long ((x2 : Int32).toInt64), .int t25]) (fun _ _ => rfl) ?_
          obtain ⟨t27, e28, h⟩ := gb h
          refine gR_csI (wX11_bits_s e28) (Nat.le_of_ble_eq_true rfl) rfl rfl rfl rfl ?_
          rcases gif h with ⟨c29, h⟩ | ⟨c29, h⟩
          · refine gR_ic_lt_j rfl c29 rfl ?_
            exact wX11_liars_u125 ih he134 h
          · refine gR_ic_lt_f rfl c29 ?_
            refine gR_go 2 (pc1 := 108) (L1 := [some (.ref 153), some (.int w22), some (.int x2), some (.int x3), some (.int t21), some (.int w23)]) (st1 := [.long ((t21 : Int32).toInt64)]) (fun _ _ => rfl) ?_
            obtain ⟨t30, e31, h⟩ := gb h
            refine gR_csI (wX11_bits_s e31) (Nat.le_of_ble_eq_true rfl) rfl rfl rfl rfl ?_
            refine gR_go 2 (pc1 := 113) (L1 := [some (.ref 153), some (.int w22), some (.int x2), some (.int x3), some (.int t21), some (.int w23)]) (st1 := [.long ((x2 : Int32).toInt64), .int t30]) (fun _ _ => rfl) ?_
            obtain ⟨t32, e33, h⟩ := gb h
            refine gR_csI (wX11_bits_s e33) (Nat.le_of_ble_eq_true rfl) rfl rfl rfl rfl ?_
            rcases gif h with ⟨c34, h⟩ | ⟨c34, h⟩
            · refine gR_ic_ne_f rfl c34 ?_
              refine gR_go 2 (pc1 := 122) (L1 := [some (.ref 153), some (.int w22), some (.int x2), some (.int x3), some (.int t21), some (.int w23)]) (st1 := [.int x2, .int t21]) (fun _ _ => rfl) ?_
              rcases gif h with ⟨c35, h⟩ | ⟨c35, h⟩
              · refine gR_ic_ge_f rfl c35 ?_
                exact wX11_liars_u125 ih he134 h
              · refine gR_ic_ge_j rfl c35 rfl ?_
                exact wX11_liars_u128 ih he134 h
            · refine gR_ic_ne_j rfl c34 rfl ?_
              exact wX11_liars_u128 ih he134 h
    · refine gR_ic_ge_j rfl c9 rfl ?_
      exact he134 _ _ _ _ _ (Option.some.inj h).symm
noncomputable def wX11_liars (x1 : Int32) (s : wS) : Option (Int32 × wS) := (wX11_canAsk x1 s).bind fun t1 => if t1 = 0 then (some ((-1), s)) else ((wX11_reaches x1 s).bind fun s5 => (wX11_liars_h19 s5 wFuel (-1) 0).bind fun t37 => some (t37, s5))
theorem wX11_liars_s {x1 : Int32} {s : wS} {rv : Int32} {rs : wS} (h : wX11_liars x1 s = some (rv, rs)) : gEv 5 246 [.ref 153, .int x1] (wmk s) (some (.int rv), wmk rs, 0, 0) := by
  refine gEv_of (d := 4) (L := [some (.ref 153), some (.int x1), none, none, none, none]) rfl ?_
  unfold wX11_liars at h
  refine gR_go 2 (pc1 := 2) (L1 := [some (.ref 153), some (.int x1), none, none, none, none]) (st1 := [.int x1, .ref 153]) (fun _ _ => rfl) ?_
  obtain ⟨t1, e2, h⟩ := gb h
  refine gR_cvI (wX11_canAsk_s e2) (Nat.le_of_ble_eq_true rfl) rfl rfl rfl rfl rfl ?_
  rcases gif h with ⟨c3, h⟩ | ⟨c3, h⟩
  · refine gR_iz_ne_f rfl c3 ?_
    refine gR_go 1 (pc1 := 9) (L1 := [some (.ref 153), some (.int x1), none, none, none, none]) (st1 := [.int (-1)]) (fun _ _ => rfl) ?_
    obtain ⟨rfl, rfl⟩ := gi2 h
    exact gR_ri rfl rfl
  · refine gR_iz_ne_j rfl c3 rfl ?_
    refine gR_go 2 (pc1 := 12) (L1 := [some (.ref 153), some (.int x1), none, none, none, none]) (st1 := [.int x1, .ref 153]) (fun _ _ => rfl) ?_
    obtain ⟨s5, e6, h⟩ := gb h
    refine gR_cvV (wX11_reaches_s e6) (Nat.le_of_ble_eq_true rfl) rfl rfl rfl rfl rfl ?_
    refine gR_go 4 (pc1 := 19) (L1 := [some (.ref 153), some (.int x1), some (.int (-1)), some (.int 0), none, none]) (st1 := []) (fun _ _ => rfl) ?_
    obtain ⟨z36, ez36, h⟩ := gb h
    refine wX11_liars_t19 ?_  ez36
    · intro t37 w38 w39 w40 w41 hz
      replace hz := hz.symm
      subst hz
      refine gR_go 1 (pc1 := 135) (L1 := [some (.ref 153), some (.int w38), some (.int t37), some (.int w39), w40, w41]) (st1 := [.int t37]) (fun _ _ => rfl) ?_
      obtain ⟨rfl, rfl⟩ := gi2 h
      exact gR_ri rfl rfl
noncomputable def wX11_areTrueTogether_j30 (qq : Int32 → Option ((Unit) ⊕ (Unit))) (x1 : Int32) (x2 : Int32) (x3 : Int32) (s : wS) : Option ((Unit) ⊕ (Unit)) := qq (x3 + 1)
theorem wX11_areTrueTogether_u30 {x1 : Int32} {x2 : Int32} {x3 : Int32} {s : wS} {qq : Int32 → Option ((Unit) ⊕ (Unit))} {x : (Unit) ⊕ (Unit)} {r : ri_R} (ih : ∀ {x3 : Int32} , qq x3 = some x → gRun 3 247 2 [some (.ref 153), some (.int x1), some (.int x2), some (.int x3)] [] (wmk s) r) (he36 : ∀ (w1 : Int32) (w2 : Int32) (w3 : Int32) , x = .inl () → gRun 3 247 36 [some (.ref 153), some (.int w1), some (.int w2), some (.int w3)] [] (wmk s) r) (he28 : ∀ (w1 : Int32) (w2 : Int32) (w3 : Int32) , x = .inr () → gRun 3 247 28 [some (.ref 153), some (.int w1), some (.int w2), some (.int w3)] [] (wmk s) r) (h : wX11_areTrueTogether_j30 qq x1 x2 x3 s = some x) : gRun 3 247 30 [some (.ref 153), some (.int x1), some (.int x2), some (.int x3)] [] (wmk s) r := by
  unfold wX11_areTrueTogether_j30 at h
  refine gR_go 2 (pc1 := 2) (L1 := [some (.ref 153), some (.int x1), some (.int x2), some (.int (x3 + 1))]) (st1 := []) (fun _ _ => rfl) ?_
  exact ih h
noncomputable def wX11_areTrueTogether_h2 (x1 : Int32) (x2 : Int32) (s : wS) : Nat → Int32 → Option ((Unit) ⊕ (Unit))
  | 0, _ => none
  | n + 1, x3 => (wX11_worlds s).bind fun t1 => if x3 < t1 then ((wX11_isTrue x1 x3 s).bind fun t4 => if t4 = 0 then (wX11_areTrueTogether_j30 (wX11_areTrueTogether_h2 x1 x2 s n) x1 x2 x3 s) else ((wX11_isTrue x2 x3 s).bind fun t7 => if t7 = 0 then (wX11_areTrueTogether_j30 (wX11_areTrueTogether_h2 x1 x2 s n) x1 x2 x3 s) else (some (.inr ())))) else (some (.inl ()))
theorem wX11_areTrueTogether_t2 {x1 : Int32} {x2 : Int32} {s : wS} {x : (Unit) ⊕ (Unit)} {r : ri_R} (he36 : ∀ (w1 : Int32) (w2 : Int32) (w3 : Int32) , x = .inl () → gRun 3 247 36 [some (.ref 153), some (.int w1), some (.int w2), some (.int w3)] [] (wmk s) r) (he28 : ∀ (w1 : Int32) (w2 : Int32) (w3 : Int32) , x = .inr () → gRun 3 247 28 [some (.ref 153), some (.int w1), some (.int w2), some (.int w3)] [] (wmk s) r) : ∀ {n : Nat} {x3 : Int32} , wX11_areTrueTogether_h2 x1 x2 s n x3 = some x → gRun 3 247 2 [some (.ref 153), some (.int x1), some (.int x2), some (.int x3)] [] (wmk s) r := by
  intro n
  induction n with
  | zero => intro x3 h; cases (show (none : Option ((Unit) ⊕ (Unit))) = some x from h)
  | succ n ih =>
    intro x3 h
    rw [wX11_areTrueTogether_h2] at h
    refine gR_go 2 (pc1 := 4) (L1 := [some (.ref 153), some (.int x1), some (.int x2), some (.int x3)]) (st1 := [.ref 153, .int x3]) (fun _ _ => rfl) ?_
    obtain ⟨t1, e2, h⟩ := gb h
    refine gR_cvI (wX11_worlds_s e2) (Nat.le_of_ble_eq_true rfl) rfl rfl rfl rfl rfl ?_
    rcases gif h with ⟨c3, h⟩ | ⟨c3, h⟩
    · refine gR_ic_ge_f rfl c3 ?_
      refine gR_go 3 (pc1 := 13) (L1 := [some (.ref 153), some (.int x1), some (.int x2), some (.int x3)]) (st1 := [.int x3, .int x1, .ref 153]) (fun _ _ => rfl) ?_
      obtain ⟨t4, e5, h⟩ := gb h
      refine gR_cvI (wX11_isTrue_s e5) (Nat.le_of_ble_eq_true rfl) rfl rfl rfl rfl rfl ?_
      rcases gif h with ⟨c6, h⟩ | ⟨c6, h⟩
      · refine gR_iz_eq_j rfl c6 rfl ?_
        exact wX11_areTrueTogether_u30 ih he36 he28 h
      · refine gR_iz_eq_f rfl c6 ?_
        refine gR_go 3 (pc1 := 22) (L1 := [some (.ref 153), some (.int x1), some (.int x2), some (.int x3)]) (st1 := [.int x3, .int x2, .ref 153]) (fun _ _ => rfl) ?_
        obtain ⟨t7, e8, h⟩ := gb h
        refine gR_cvI (wX11_isTrue_s e8) (Nat.le_of_ble_eq_true rfl) rfl rfl rfl rfl rfl ?_
        rcases gif h with ⟨c9, h⟩ | ⟨c9, h⟩
        · refine gR_iz_eq_j rfl c9 rfl ?_
          exact wX11_areTrueTogether_u30 ih he36 he28 h
        · refine gR_iz_eq_f rfl c9 ?_
          exact he28 _ _ _ (Option.some.inj h).symm
    · refine gR_ic_ge_j rfl c3 rfl ?_
      exact he36 _ _ _ (Option.some.inj h).symm
noncomputable def wX11_areTrueTogether (x1 : Int32) (x2 : Int32) (s : wS) : Option (Int32) := (wX11_areTrueTogether_h2 x1 x2 s wFuel 0).bind fun z10 => (match z10 with | .inl () => some 0 | .inr () => some 1)
theorem wX11_areTrueTogether_s {x1 : Int32} {x2 : Int32} {s : wS} {rv : Int32} (h : wX11_areTrueTogether x1 x2 s = some rv) : gEv 4 247 [.ref 153, .int x1, .int x2] (wmk s) (some (.int rv), wmk s, 0, 0) := by
  refine gEv_of (d := 3) (L := [some (.ref 153), some (.int x1), some (.int x2), none]) rfl ?_
  unfold wX11_areTrueTogether at h
  refine gR_go 2 (pc1 := 2) (L1 := [some (.ref 153), some (.int x1), some (.int x2), some (.int 0)]) (st1 := []) (fun _ _ => rfl) ?_
  obtain ⟨z10, ez10, h⟩ := gb h
  refine wX11_areTrueTogether_t2 ?_ ?_  ez10
  · intro w11 w12 w13 hz
    replace hz := hz.symm
    subst hz
    dsimp only at h
    refine gR_go 1 (pc1 := 37) (L1 := [some (.ref 153), some (.int w11), some (.int w12), some (.int w13)]) (st1 := [.int 0]) (fun _ _ => rfl) ?_
    obtain rfl := gi1 h
    exact gR_rzc rfl rfl rfl
  · intro w14 w15 w16 hz
    replace hz := hz.symm
    subst hz
    dsimp only at h
    refine gR_go 1 (pc1 := 29) (L1 := [some (.ref 153), some (.int w14), some (.int w15), some (.int w16)]) (st1 := [.int 1]) (fun _ _ => rfl) ?_
    obtain rfl := gi1 h
    exact gR_rzc rfl rfl rfl
noncomputable def wX11_quarrel_j73 (qq : Int32 → Option ((Unit) ⊕ (Int32))) (x2 : Int32) (x3 : Int32) (s : wS) : Option ((Unit) ⊕ (Int32)) := qq (x3 + 1)
theorem wX11_quarrel_u73 {x2 : Int32} {x3 : Int32} {s : wS} {w1 : Int32} {qq : Int32 → Option ((Unit) ⊕ (Int32))} {x : (Unit) ⊕ (Int32)} {r : ri_R} (ih : ∀ {x3 : Int32} {w1 : Int32} , qq x3 = some x → gRun 4 248 31 [some (.ref 153), some (.int w1), some (.int x2), some (.int x3)] [] (wmk s) r) (he79 : ∀ (w1 : Int32) (w3 : Int32) , x = .inl () → gRun 4 248 79 [some (.ref 153), some (.int w1), some (.int x2), some (.int w3)] [] (wmk s) r) (he66 : ∀ (x3 : Int32) (w1 : Int32) , x = .inr x3 → gRun 4 248 66 [some (.ref 153), some (.int w1), some (.int x2), some (.int x3)] [] (wmk s) r) (h : wX11_quarrel_j73 qq x2 x3 s = some x) : gRun 4 248 73 [some (.ref 153), some (.int w1), some (.int x2), some (.int x3)] [] (wmk s) r := by
  unfold wX11_quarrel_j73 at h
  refine gR_go 2 (pc1 := 31) (L1 := [some (.ref 153), some (.int w1), some (.int x2), some (.int (x3 + 1))]) (st1 := []) (fun _ _ => rfl) ?_
  exact ih h
noncomputable def wX11_quarrel_h31 (x2 : Int32) (s : wS) : Nat → Int32 → Option ((Unit) ⊕ (Int32))
  | 0, _ => none
  | n + 1, x3 => if x3 < (s.1 163 3) then ((wX11_isLookedAt x2 s).bind fun t11 => if t11 = 0 then (wX11_quarrel_j73 (wX11_quarrel_h31 x2 s n) x2 x3 s) else ((wX11_isLookedAt x3 s).bind fun t14 => if t14 = 0 then (wX11_quarrel_j73 (wX11_quarrel_h31 x2 s n) x2 x3 s) else ((wX11_areTrueTogether x2 x3 s).bind fun t17 => if t17 = 0 then (some (.inr x3)) else (wX11_quarrel_j73 (wX11_quarrel_h31 x2 s n) x2 x3 s)))) else (some (.inl ()))
theorem wX11_quarrel_t31 {x2 : Int32} {s : wS} {x : (Unit) ⊕ (Int32)} {r : ri_R} (he79 : ∀ (w1 : Int32) (w3 : Int32) , x = .inl () → gRun 4 248 79 [some (.ref 153), some (.int w1), some (.int x2), some (.int w3)] [] (wmk s) r) (he66 : ∀ (x3 : Int32) (w1 : Int32) , x = .inr x3 → gRun 4 248 66 [some (.ref 153), some (.int w1), some (.int x2), some (.int x3)] [] (wmk s) r) : ∀ {n : Nat} {x3 : Int32} {w1 : Int32} , wX11_quarrel_h31 x2 s n x3 = some x → gRun 4 248 31 [some (.ref 153), some (.int w1), some (.int x2), some (.int x3)] [] (wmk s) r := by
  intro n
  induction n with
  | zero => intro x3 w1 h; cases (show (none : Option ((Unit) ⊕ (Int32))) = some x from h)
  | succ n ih =>
    intro x3 w1 h
    rw [wX11_quarrel_h31] at h
    refine gR_go 2 (pc1 := 33) (L1 := [some (.ref 153), some (.int w1), some (.int x2), some (.int x3)]) (st1 := [.ref 153, .int x3]) (fun _ _ => rfl) ?_
    refine gR_gfR (k := 152) (k' := 163) rfl rfl rfl rfl ?_
    refine gR_go 1 (pc1 := 37) (L1 := [some (.ref 153), some (.int w1), some (.int x2), some (.int x3)]) (st1 := [.int 3, .ref 164, .int x3]) (fun _ _ => rfl) ?_
    refine gR_ialc (k := 163) (j := 3) rfl rfl rfl (by decide) rfl ?_
    rcases gif h with ⟨c10, h⟩ | ⟨c10, h⟩
    · refine gR_ic_ge_f rfl c10 ?_
      refine gR_go 2 (pc1 := 43) (L1 := [some (.ref 153), some (.int w1), some (.int x2), some (.int x3)]) (st1 := [.int x2, .ref 153]) (fun _ _ => rfl) ?_
      obtain ⟨t11, e12, h⟩ := gb h
      refine gR_cvI (wX11_isLookedAt_s e12) (Nat.le_of_ble_eq_true rfl) rfl rfl rfl rfl rfl ?_
      rcases gif h with ⟨c13, h⟩ | ⟨c13, h⟩
      · refine gR_iz_eq_j rfl c13 rfl ?_
        exact wX11_quarrel_u73 ih he79 he66 h
      · refine gR_iz_eq_f rfl c13 ?_
        refine gR_go 2 (pc1 := 51) (L1 := [some (.ref 153), some (.int w1), some (.int x2), some (.int x3)]) (st1 := [.int x3, .ref 153]) (fun _ _ => rfl) ?_
        obtain ⟨t14, e15, h⟩ := gb h
        refine gR_cvI (wX11_isLookedAt_s e15) (Nat.le_of_ble_eq_true rfl) rfl rfl rfl rfl rfl ?_
        rcases gif h with ⟨c16, h⟩ | ⟨c16, h⟩
        · refine gR_iz_eq_j rfl c16 rfl ?_
          exact wX11_quarrel_u73 ih he79 he66 h
        · refine gR_iz_eq_f rfl c16 ?_
          refine gR_go 3 (pc1 := 60) (L1 := [some (.ref 153), some (.int w1), some (.int x2), some (.int x3)]) (st1 := [.int x3, .int x2, .ref 153]) (fun _ _ => rfl) ?_
          obtain ⟨t17, e18, h⟩ := gb h
          refine gR_cvI (wX11_areTrueTogether_s e18) (Nat.le_of_ble_eq_true rfl) rfl rfl rfl rfl rfl ?_
          rcases gif h with ⟨c19, h⟩ | ⟨c19, h⟩
          · refine gR_iz_ne_f rfl c19 ?_
            exact he66 _ _ (Option.some.inj h).symm
          · refine gR_iz_ne_j rfl c19 rfl ?_
            exact wX11_quarrel_u73 ih he79 he66 h
    · refine gR_ic_ge_j rfl c10 rfl ?_
      exact he79 _ _ (Option.some.inj h).symm
noncomputable def wX11_quarrel_h17 (s : wS) : Nat → Int32 → Option ((Unit) ⊕ (Int32 × Int32))
  | 0, _ => none
  | n + 1, x2 => if x2 < (s.1 163 3) then ((wX11_quarrel_h31 x2 s wFuel (x2 + 1)).bind fun z20 => (match z20 with | .inl () => wX11_quarrel_h17 s n (x2 + 1) | .inr t23 => some (.inr (x2, t23)))) else (some (.inl ()))
theorem wX11_quarrel_t17 {s : wS} {x : (Unit) ⊕ (Int32 × Int32)} {r : ri_R} (he85 : ∀ (w1 : Int32) (w2 : Int32) (w3 : Option Value) , x = .inl () → gRun 4 248 85 [some (.ref 153), some (.int w1), some (.int w2), w3] [] (wmk s) r) (he66 : ∀ (x2 : Int32) (x3 : Int32) (w1 : Int32) , x = .inr (x2, x3) → gRun 4 248 66 [some (.ref 153), some (.int w1), some (.int x2), some (.int x3)] [] (wmk s) r) : ∀ {n : Nat} {x2 : Int32} {w1 : Int32} {w3 : Option Value} , wX11_quarrel_h17 s n x2 = some x → gRun 4 248 17 [some (.ref 153), some (.int w1), some (.int x2), w3] [] (wmk s) r := by
  intro n
  induction n with
  | zero => intro x2 w1 w3 h; cases (show (none : Option ((Unit) ⊕ (Int32 × Int32))) = some x from h)
  | succ n ih =>
    intro x2 w1 w3 h
    rw [wX11_quarrel_h17] at h
    refine gR_go 2 (pc1 := 19) (L1 := [some (.ref 153), some (.int w1), some (.int x2), w3]) (st1 := [.ref 153, .int x2]) (fun _ _ => rfl) ?_
    refine gR_gfR (k := 152) (k' := 163) rfl rfl rfl rfl ?_
    refine gR_go 1 (pc1 := 23) (L1 := [some (.ref 153), some (.int w1), some (.int x2), w3]) (st1 := [.int 3, .ref 164, .int x2]) (fun _ _ => rfl) ?_
    refine gR_ialc (k := 163) (j := 3) rfl rfl rfl (by decide) rfl ?_
    rcases gif h with ⟨c8, h⟩ | ⟨c8, h⟩
    · refine gR_ic_ge_f rfl c8 ?_
      refine gR_go 4 (pc1 := 31) (L1 := [some (.ref 153), some (.int w1), some (.int x2), some (.int (x2 + 1))]) (st1 := []) (fun _ _ => rfl) ?_
      obtain ⟨z20, ez20, h⟩ := gb h
      refine wX11_quarrel_t31 ?_ ?_  ez20
      · intro w21 w22 hz
        replace hz := hz.symm
        subst hz
        dsimp only at h
        refine gR_go 2 (pc1 := 17) (L1 := [some (.ref 153), some (.int w21), some (.int (x2 + 1)), some (.int w22)]) (st1 := []) (fun _ _ => rfl) ?_
        exact ih h
      · intro t23 w24 hz
        replace hz := hz.symm
        subst hz
        dsimp only at h
        exact he66 _ _ _ (Option.some.inj h).symm
    · refine gR_ic_ge_j rfl c8 rfl ?_
      exact he85 _ _ _ (Option.some.inj h).symm
noncomputable def wX11_quarrel (x1 : Int32) (s : wS) : Option (Int32 × wS) := (wX11_canAsk x1 s).bind fun t1 => if t1 = 0 then (some ((-1), s)) else ((wX11_reaches x1 s).bind fun s5 => (wX11_quarrel_h17 s5 wFuel 0).bind fun z25 => (match z25 with | .inl () => some (((Int8.ofInt (-2)).toInt32), s5) | .inr (t29, t30) => some (((64 * t29) + t30), s5)))
theorem wX11_quarrel_s {x1 : Int32} {s : wS} {rv : Int32} {rs : wS} (h : wX11_quarrel x1 s = some (rv, rs)) : gEv 5 248 [.ref 153, .int x1] (wmk s) (some (.int rv), wmk rs, 0, 0) := by
  refine gEv_of (d := 4) (L := [some (.ref 153), some (.int x1), none, none]) rfl ?_
  unfold wX11_quarrel at h
  refine gR_go 2 (pc1 := 2) (L1 := [some (.ref 153), some (.int x1), none, none]) (st1 := [.int x1, .ref 153]) (fun _ _ => rfl) ?_
  obtain ⟨t1, e2, h⟩ := gb h
  refine gR_cvI (wX11_canAsk_s e2) (Nat.le_of_ble_eq_true rfl) rfl rfl rfl rfl rfl ?_
  rcases gif h with ⟨c3, h⟩ | ⟨c3, h⟩
  · refine gR_iz_ne_f rfl c3 ?_
    refine gR_go 1 (pc1 := 9) (L1 := [some (.ref 153), some (.int x1), none, none]) (st1 := [.int (-1)]) (fun _ _ => rfl) ?_
    obtain ⟨rfl, rfl⟩ := gi2 h
    exact gR_ri rfl rfl
  · refine gR_iz_ne_j rfl c3 rfl ?_
    refine gR_go 2 (pc1 := 12) (L1 := [some (.ref 153), some (.int x1), none, none]) (st1 := [.int x1, .ref 153]) (fun _ _ => rfl) ?_
    obtain ⟨s5, e6, h⟩ := gb h
    refine gR_cvV (wX11_reaches_s e6) (Nat.le_of_ble_eq_true rfl) rfl rfl rfl rfl rfl ?_
    refine gR_go 2 (pc1 := 17) (L1 := [some (.ref 153), some (.int x1), some (.int 0), none]) (st1 := []) (fun _ _ => rfl) ?_
    obtain ⟨z25, ez25, h⟩ := gb h
    refine wX11_quarrel_t17 ?_ ?_  ez25
    · intro w26 w27 w28 hz
      replace hz := hz.symm
      subst hz
      dsimp only at h
      refine gR_go 1 (pc1 := 87) (L1 := [some (.ref 153), some (.int w26), some (.int w27), w28]) (st1 := [.int ((Int8.ofInt (-2)).toInt32)]) (fun _ _ => rfl) ?_
      obtain ⟨rfl, rfl⟩ := gi2 h
      exact gR_ri rfl rfl
    · intro t29 t30 w31 hz
      replace hz := hz.symm
      subst hz
      dsimp only at h
      refine gR_go 5 (pc1 := 72) (L1 := [some (.ref 153), some (.int w31), some (.int t29), some (.int t30)]) (st1 := [.int ((64 * t29) + t30)]) (fun _ _ => rfl) ?_
      obtain ⟨rfl, rfl⟩ := gi2 h
      exact gR_ri rfl rfl
noncomputable def wX11_twelve_h4 (x1 : Int32) : Nat → Int32 → wS → Option (wS)
  | 0, _, _ => none
  | n + 1, x2, s => (wX11_worlds s).bind fun t1 => if x2 < t1 then ((wstI s 166 512 x2 0).bind fun s4 => wX11_twelve_h4 x1 n (x2 + 1) s4) else (some s)
theorem wX11_twelve_t4 {x1 : Int32} {x : wS} {r : ri_R} (he25 : ∀ (s : wS) (w2 : Int32) (w3 : Option Value) , x = s → gRun 3 249 25 [some (.ref 153), some (.int x1), some (.int w2), w3] [] (wmk s) r) : ∀ {n : Nat} {x2 : Int32} {s : wS} {w3 : Option Value} , wX11_twelve_h4 x1 n x2 s = some x → gRun 3 249 4 [some (.ref 153), some (.int x1), some (.int x2), w3] [] (wmk s) r := by
  intro n
  induction n with
  | zero => intro x2 s w3 h; cases (show (none : Option (wS)) = some x from h)
  | succ n ih =>
    intro x2 s w3 h
    rw [wX11_twelve_h4] at h
    refine gR_go 2 (pc1 := 6) (L1 := [some (.ref 153), some (.int x1), some (.int x2), w3]) (st1 := [.ref 153, .int x2]) (fun _ _ => rfl) ?_
    obtain ⟨t1, e2, h⟩ := gb h
    refine gR_cvI (wX11_worlds_s e2) (Nat.le_of_ble_eq_true rfl) rfl rfl rfl rfl rfl ?_
    rcases gif h with ⟨c3, h⟩ | ⟨c3, h⟩
    · refine gR_ic_ge_f rfl c3 ?_
      refine gR_go 1 (pc1 := 13) (L1 := [some (.ref 153), some (.int x1), some (.int x2), w3]) (st1 := [.ref 153]) (fun _ _ => rfl) ?_
      refine gR_gfR (k := 152) (k' := 166) rfl rfl rfl rfl ?_
      refine gR_go 2 (pc1 := 18) (L1 := [some (.ref 153), some (.int x1), some (.int x2), w3]) (st1 := [.int 0, .int x2, .ref 167]) (fun _ _ => rfl) ?_
      obtain ⟨s4, es4, h⟩ := gb h
      refine gR_ias (k := 166) rfl rfl rfl es4 ?_
      refine gR_go 2 (pc1 := 4) (L1 := [some (.ref 153), some (.int x1), some (.int (x2 + 1)), w3]) (st1 := []) (fun _ _ => rfl) ?_
      exact ih h
    · refine gR_ic_ge_j rfl c3 rfl ?_
      exact he25 _ _ _ (Option.some.inj h).symm
noncomputable def wX11_twelve_j98 (qq : Int32 → Int32 → wS → Option (Int32 × wS)) (x1 : Int32) (x2 : Int32) (s : wS) : Option (Int32 × wS) := qq x1 (x2 + 1) s
theorem wX11_twelve_u98 {x1 : Int32} {x2 : Int32} {s : wS} {w3 : Option Value} {qq : Int32 → Int32 → wS → Option (Int32 × wS)} {x : Int32 × wS} {r : ri_R} (ih : ∀ {x1 : Int32} {x2 : Int32} {s : wS} {w3 : Option Value} , qq x1 x2 s = some x → gRun 3 249 27 [some (.ref 153), some (.int x1), some (.int x2), w3] [] (wmk s) r) (he104 : ∀ (x1 : Int32) (s : wS) (w2 : Int32) (w3 : Option Value) , x = (x1, s) → gRun 3 249 104 [some (.ref 153), some (.int x1), some (.int w2), w3] [] (wmk s) r) (h : wX11_twelve_j98 qq x1 x2 s = some x) : gRun 3 249 98 [some (.ref 153), some (.int x1), some (.int x2), w3] [] (wmk s) r := by
  unfold wX11_twelve_j98 at h
  refine gR_go 2 (pc1 := 27) (L1 := [some (.ref 153), some (.int x1), some (.int (x2 + 1)), w3]) (st1 := []) (fun _ _ => rfl) ?_
  exact ih h
noncomputable def wX11_twelve_j87 (qq : Int32 → wS → Option (wS)) (x1 : Int32) (x2 : Int32) (x3 : Int32) (y1 : Int32) (y2 : Int32) (y3 : Int32) (s : wS) : Option (wS) := (wstI s 166 512 y1 (y2 ||| y3)).bind fun s22 => qq (x3 + 1) s22
theorem wX11_twelve_u87 {x1 : Int32} {x2 : Int32} {x3 : Int32} {y1 : Int32} {y2 : Int32} {y3 : Int32} {s : wS} {qq : Int32 → wS → Option (wS)} {x : wS} {r : ri_R} (ih : ∀ {x3 : Int32} {s : wS} , qq x3 s = some x → gRun 3 249 56 [some (.ref 153), some (.int x1), some (.int x2), some (.int x3)] [] (wmk s) r) (he95 : ∀ (s : wS) (w3 : Int32) , x = s → gRun 3 249 95 [some (.ref 153), some (.int x1), some (.int x2), some (.int w3)] [] (wmk s) r) (h : wX11_twelve_j87 qq x1 x2 x3 y1 y2 y3 s = some x) : gRun 3 249 87 [some (.ref 153), some (.int x1), some (.int x2), some (.int x3)] [.int y3, .int y2, .int y1, .ref 167] (wmk s) r := by
  unfold wX11_twelve_j87 at h
  refine gR_go 1 (pc1 := 88) (L1 := [some (.ref 153), some (.int x1), some (.int x2), some (.int x3)]) (st1 := [.int (y2 ||| y3), .int y1, .ref 167]) (fun _ _ => rfl) ?_
  obtain ⟨s22, es22, h⟩ := gb h
  refine gR_ias (k := 166) rfl rfl rfl es22 ?_
  refine gR_go 2 (pc1 := 56) (L1 := [some (.ref 153), some (.int x1), some (.int x2), some (.int (x3 + 1))]) (st1 := []) (fun _ _ => rfl) ?_
  exact ih h
noncomputable def wX11_twelve_h56 (x1 : Int32) (x2 : Int32) : Nat → Int32 → wS → Option (wS)
  | 0, _, _ => none
  | n + 1, x3, s => (wX11_worlds s).bind fun t15 => if x3 < t15 then ((wldI s 166 512 x3).bind fun t18 => (wX11_isTrue x2 x3 s).bind fun t19 => if t19 = 0 then (wX11_twelve_j87 (wX11_twelve_h56 x1 x2 n) x1 x2 x3 x3 t18 0 s) else (wX11_twelve_j87 (wX11_twelve_h56 x1 x2 n) x1 x2 x3 x3 t18 (1 <<< (x1 &&& 31)) s)) else (some s)
theorem wX11_twelve_t56 {x1 : Int32} {x2 : Int32} {x : wS} {r : ri_R} (he95 : ∀ (s : wS) (w3 : Int32) , x = s → gRun 3 249 95 [some (.ref 153), some (.int x1), some (.int x2), some (.int w3)] [] (wmk s) r) : ∀ {n : Nat} {x3 : Int32} {s : wS} , wX11_twelve_h56 x1 x2 n x3 s = some x → gRun 3 249 56 [some (.ref 153), some (.int x1), some (.int x2), some (.int x3)] [] (wmk s) r := by
  intro n
  induction n with
  | zero => intro x3 s h; cases (show (none : Option (wS)) = some x from h)
  | succ n ih =>
    intro x3 s h
    rw [wX11_twelve_h56] at h
    refine gR_go 2 (pc1 := 58) (L1 := [some (.ref 153), some (.int x1), some (.int x2), some (.int x3)]) (st1 := [.ref 153, .int x3]) (fun _ _ => rfl) ?_
    obtain ⟨t15, e16, h⟩ := gb h
    refine gR_cvI (wX11_worlds_s e16) (Nat.le_of_ble_eq_true rfl) rfl rfl rfl rfl rfl ?_
    rcases gif h with ⟨c17, h⟩ | ⟨c17, h⟩
    · refine gR_ic_ge_f rfl c17 ?_
      refine gR_go 1 (pc1 := 65) (L1 := [some (.ref 153), some (.int x1), some (.int x2), some (.int x3)]) (st1 := [.ref 153]) (fun _ _ => rfl) ?_
      refine gR_gfR (k := 152) (k' := 166) rfl rfl rfl rfl ?_
      refine gR_go 2 (pc1 := 70) (L1 := [some (.ref 153), some (.int x1), some (.int x2), some (.int x3)]) (st1 := [.int x3, .ref 167, .int x3, .ref 167]) (fun _ _ => rfl) ?_
      obtain ⟨t18, et18, h⟩ := gb h
      refine gR_ial (k := 166) rfl rfl rfl et18 ?_
      refine gR_go 3 (pc1 := 74) (L1 := [some (.ref 153), some (.int x1), some (.int x2), some (.int x3)]) (st1 := [.int x3, .int x2, .ref 153, .int t18, .int x3, .ref 167]) (fun _ _ => rfl) ?_
      obtain ⟨t19, e20, h⟩ := gb h
      refine gR_cvI (wX11_isTrue_s e20) (Nat.le_of_ble_eq_true rfl) rfl rfl rfl rfl rfl ?_
      rcases gif h with ⟨c21, h⟩ | ⟨c21, h⟩
      · refine gR_iz_eq_j rfl c21 rfl ?_
        refine gR_go 1 (pc1 := 87) (L1 := [some (.ref 153), some (.int x1), some (.int x2), some (.int x3)]) (st1 := [.int 0, .int t18, .int x3, .ref 167]) (fun _ _ => rfl) ?_
        exact wX11_twelve_u87 ih he95 h
      · refine gR_iz_eq_f rfl c21 ?_
        refine gR_go 4 (pc1 := 87) (L1 := [some (.ref 153), some (.int x1), some (.int x2), some (.int x3)]) (st1 := [.int (1 <<< (x1 &&& 31)), .int t18, .int x3, .ref 167]) (fun _ _ => rfl) ?_
        exact wX11_twelve_u87 ih he95 h
    · refine gR_ic_ge_j rfl c17 rfl ?_
      exact he95 _ _ (Option.some.inj h).symm
noncomputable def wX11_twelve_h27 : Nat → Int32 → Int32 → wS → Option (Int32 × wS)
  | 0, _, _, _ => none
  | n + 1, x1, x2, s => if x2 < (s.1 163 3) then (if x1 < 12 then ((wX11_isLookedAt x2 s).bind fun t12 => if t12 = 0 then (wX11_twelve_j98 (wX11_twelve_h27 n) x1 x2 s) else ((wX11_twelve_h56 x1 x2 wFuel 0 s).bind fun s24 => wX11_twelve_j98 (wX11_twelve_h27 n) (x1 + 1) x2 s24)) else (some (x1, s))) else (some (x1, s))
theorem wX11_twelve_t27 {x : Int32 × wS} {r : ri_R} (he104 : ∀ (x1 : Int32) (s : wS) (w2 : Int32) (w3 : Option Value) , x = (x1, s) → gRun 3 249 104 [some (.ref 153), some (.int x1), some (.int w2), w3] [] (wmk s) r) : ∀ {n : Nat} {x1 : Int32} {x2 : Int32} {s : wS} {w3 : Option Value} , wX11_twelve_h27 n x1 x2 s = some x → gRun 3 249 27 [some (.ref 153), some (.int x1), some (.int x2), w3] [] (wmk s) r := by
  intro n
  induction n with
  | zero => intro x1 x2 s w3 h; cases (show (none : Option (Int32 × wS)) = some x from h)
  | succ n ih =>
    intro x1 x2 s w3 h
    rw [wX11_twelve_h27] at h
    refine gR_go 2 (pc1 := 29) (L1 := [some (.ref 153), some (.int x1), some (.int x2), w3]) (st1 := [.ref 153, .int x2]) (fun _ _ => rfl) ?_
    refine gR_gfR (k := 152) (k' := 163) rfl rfl rfl rfl ?_
    refine gR_go 1 (pc1 := 33) (L1 := [some (.ref 153), some (.int x1), some (.int x2), w3]) (st1 := [.int 3, .ref 164, .int x2]) (fun _ _ => rfl) ?_
    refine gR_ialc (k := 163) (j := 3) rfl rfl rfl (by decide) rfl ?_
    rcases gif h with ⟨c10, h⟩ | ⟨c10, h⟩
    · refine gR_ic_ge_f rfl c10 ?_
      refine gR_go 2 (pc1 := 40) (L1 := [some (.ref 153), some (.int x1), some (.int x2), w3]) (st1 := [.int 12, .int x1]) (fun _ _ => rfl) ?_
      rcases gif h with ⟨c11, h⟩ | ⟨c11, h⟩
      · refine gR_ic_ge_f rfl c11 ?_
        refine gR_go 2 (pc1 := 45) (L1 := [some (.ref 153), some (.int x1), some (.int x2), w3]) (st1 := [.int x2, .ref 153]) (fun _ _ => rfl) ?_
        obtain ⟨t12, e13, h⟩ := gb h
        refine gR_cvI (wX11_isLookedAt_s e13) (Nat.le_of_ble_eq_true rfl) rfl rfl rfl rfl rfl ?_
        rcases gif h with ⟨c14, h⟩ | ⟨c14, h⟩
        · refine gR_iz_ne_f rfl c14 ?_
          refine gR_go 1 (pc1 := 98) (L1 := [some (.ref 153), some (.int x1), some (.int x2), w3]) (st1 := []) (fun _ _ => rfl) ?_
          exact wX11_twelve_u98 ih he104 h
        · refine gR_iz_ne_j rfl c14 rfl ?_
          refine gR_go 2 (pc1 := 56) (L1 := [some (.ref 153), some (.int x1), some (.int x2), some (.int 0)]) (st1 := []) (fun _ _ => rfl) ?_
          obtain ⟨z23, ez23, h⟩ := gb h
          refine wX11_twelve_t56 ?_  ez23
          · intro s24 w25 hz
            replace hz := hz.symm
            subst hz
            refine gR_go 1 (pc1 := 98) (L1 := [some (.ref 153), some (.int (x1 + 1)), some (.int x2), some (.int w25)]) (st1 := []) (fun _ _ => rfl) ?_
            exact wX11_twelve_u98 ih he104 h
      · refine gR_ic_ge_j rfl c11 rfl ?_
        exact he104 _ _ _ _ (Option.some.inj h).symm
    · refine gR_ic_ge_j rfl c10 rfl ?_
      exact he104 _ _ _ _ (Option.some.inj h).symm
noncomputable def wX11_twelve (s : wS) : Option (Int32 × wS) := (wX11_twelve_h4 0 wFuel 0 s).bind fun s6 => (wX11_twelve_h27 wFuel 0 0 s6).bind fun (t27, s28) => some (t27, s28)
theorem wX11_twelve_s {s : wS} {rv : Int32} {rs : wS} (h : wX11_twelve s = some (rv, rs)) : gEv 4 249 [.ref 153] (wmk s) (some (.int rv), wmk rs, 0, 0) := by
  refine gEv_of (d := 3) (L := [some (.ref 153), none, none, none]) rfl ?_
  unfold wX11_twelve at h
  refine gR_go 4 (pc1 := 4) (L1 := [some (.ref 153), some (.int 0), some (.int 0), none]) (st1 := []) (fun _ _ => rfl) ?_
  obtain ⟨z5, ez5, h⟩ := gb h
  refine wX11_twelve_t4 ?_  ez5
  · intro s6 w7 w8 hz
    replace hz := hz.symm
    subst hz
    refine gR_go 2 (pc1 := 27) (L1 := [some (.ref 153), some (.int 0), some (.int 0), w8]) (st1 := []) (fun _ _ => rfl) ?_
    obtain ⟨z26, ez26, h⟩ := gb h
    refine wX11_twelve_t27 ?_  ez26
    · intro t27 s28 w29 w30 hz
      replace hz := hz.symm
      subst hz
      dsimp only at h
      refine gR_go 1 (pc1 := 105) (L1 := [some (.ref 153), some (.int t27), some (.int w29), w30]) (st1 := [.int t27]) (fun _ _ => rfl) ?_
      obtain ⟨rfl, rfl⟩ := gi2 h
      exact gR_ri rfl rfl
noncomputable def wX11_proves_j45 (qq : Int32 → Int32 → Option ((Int32) ⊕ (Unit))) (x1 : Int32) (x2 : Int32) (x3 : Int32) (x4 : Int32) (s : wS) : Option ((Int32) ⊕ (Unit)) := qq x3 (x4 + 1)
theorem wX11_proves_u45 {x1 : Int32} {x2 : Int32} {x3 : Int32} {x4 : Int32} {s : wS} {qq : Int32 → Int32 → Option ((Int32) ⊕ (Unit))} {x : (Int32) ⊕ (Unit)} {r : ri_R} (ih : ∀ {x3 : Int32} {x4 : Int32} , qq x3 x4 = some x → gRun 1 250 5 [some (.ref 153), some (.int x1), some (.int x2), some (.int x3), some (.int x4)] [] (wmk s) r) (he51 : ∀ (x3 : Int32) (w1 : Int32) (w2 : Int32) (w4 : Int32) , x = .inl x3 → gRun 1 250 51 [some (.ref 153), some (.int w1), some (.int w2), some (.int x3), some (.int w4)] [] (wmk s) r) (he41 : ∀ (w1 : Int32) (w2 : Int32) (w3 : Int32) (w4 : Int32) , x = .inr () → gRun 1 250 41 [some (.ref 153), some (.int w1), some (.int w2), some (.int w3), some (.int w4)] [] (wmk s) r) (h : wX11_proves_j45 qq x1 x2 x3 x4 s = some x) : gRun 1 250 45 [some (.ref 153), some (.int x1), some (.int x2), some (.int x3), some (.int x4)] [] (wmk s) r := by
  unfold wX11_proves_j45 at h
  refine gR_go 2 (pc1 := 5) (L1 := [some (.ref 153), some (.int x1), some (.int x2), some (.int x3), some (.int (x4 + 1))]) (st1 := []) (fun _ _ => rfl) ?_
  exact ih h
noncomputable def wX11_proves_h5 (x1 : Int32) (x2 : Int32) (s : wS) : Nat → Int32 → Int32 → Option ((Int32) ⊕ (Unit))
  | 0, _, _ => none
  | n + 1, x3, x4 => (wX11_worlds s).bind fun t1 => if x4 < t1 then ((wldI s 166 512 x4).bind fun t4 => if (t4 &&& x1) = x1 then ((wX11_thingOf x4 2 s).bind fun t6 => if t6 = x2 then (wX11_proves_j45 (wX11_proves_h5 x1 x2 s n) x1 x2 1 x4 s) else (some (.inr ()))) else (wX11_proves_j45 (wX11_proves_h5 x1 x2 s n) x1 x2 x3 x4 s)) else (some (.inl x3))
theorem wX11_proves_t5 {x1 : Int32} {x2 : Int32} {s : wS} {x : (Int32) ⊕ (Unit)} {r : ri_R} (he51 : ∀ (x3 : Int32) (w1 : Int32) (w2 : Int32) (w4 : Int32) , x = .inl x3 → gRun 1 250 51 [some (.ref 153), some (.int w1), some (.int w2), some (.int x3), some (.int w4)] [] (wmk s) r) (he41 : ∀ (w1 : Int32) (w2 : Int32) (w3 : Int32) (w4 : Int32) , x = .inr () → gRun 1 250 41 [some (.ref 153), some (.int w1), some (.int w2), some (.int w3), some (.int w4)] [] (wmk s) r) : ∀ {n : Nat} {x3 : Int32} {x4 : Int32} , wX11_proves_h5 x1 x2 s n x3 x4 = some x → gRun 1 250 5 [some (.ref 153), some (.int x1), some (.int x2), some (.int x3), some (.int x4)] [] (wmk s) r := by
  intro n
  induction n with
  | zero => intro x3 x4 h; cases (show (none : Option ((Int32) ⊕ (Unit))) = some x from h)
  | succ n ih =>
    intro x3 x4 h
    rw [wX11_proves_h5] at h
    refine gR_go 2 (pc1 := 8) (L1 := [some (.ref 153), some (.int x1), some (.int x2), some (.int x3), some (.int x4)]) (st1 := [.ref 153, .int x4]) (fun _ _ => rfl) ?_
    obtain ⟨t1, e2, h⟩ := gb h
    refine gR_cvI (wX11_worlds_s e2) (Nat.le_of_ble_eq_true rfl) rfl rfl rfl rfl rfl ?_
    rcases gif h with ⟨c3, h⟩ | ⟨c3, h⟩
    · refine gR_ic_ge_f rfl c3 ?_
      refine gR_go 1 (pc1 := 15) (L1 := [some (.ref 153), some (.int x1), some (.int x2), some (.int x3), some (.int x4)]) (st1 := [.ref 153]) (fun _ _ => rfl) ?_
      refine gR_gfR (k := 152) (k' := 166) rfl rfl rfl rfl ?_
      refine gR_go 1 (pc1 := 20) (L1 := [some (.ref 153), some (.int x1), some (.int x2), some (.int x3), some (.int x4)]) (st1 := [.int x4, .ref 167]) (fun _ _ => rfl) ?_
      obtain ⟨t4, et4, h⟩ := gb h
      refine gR_ial (k := 166) rfl rfl rfl et4 ?_
      refine gR_go 3 (pc1 := 24) (L1 := [some (.ref 153), some (.int x1), some (.int x2), some (.int x3), some (.int x4)]) (st1 := [.int x1, .int (t4 &&& x1)]) (fun _ _ => rfl) ?_
      rcases gif h with ⟨c5, h⟩ | ⟨c5, h⟩
      · refine gR_ic_eq_j rfl c5 rfl ?_
        refine gR_go 3 (pc1 := 34) (L1 := [some (.ref 153), some (.int x1), some (.int x2), some (.int x3), some (.int x4)]) (st1 := [.int 2, .int x4, .ref 153]) (fun _ _ => rfl) ?_
        obtain ⟨t6, e7, h⟩ := gb h
        refine gR_cvI (wX11_thingOf_s e7) (Nat.le_of_ble_eq_true rfl) rfl rfl rfl rfl rfl ?_
        refine gR_go 1 (pc1 := 38) (L1 := [some (.ref 153), some (.int x1), some (.int x2), some (.int x3), some (.int x4)]) (st1 := [.int x2, .int t6]) (fun _ _ => rfl) ?_
        rcases gif h with ⟨c8, h⟩ | ⟨c8, h⟩
        · refine gR_ic_eq_j rfl c8 rfl ?_
          refine gR_go 2 (pc1 := 45) (L1 := [some (.ref 153), some (.int x1), some (.int x2), some (.int 1), some (.int x4)]) (st1 := []) (fun _ _ => rfl) ?_
          exact wX11_proves_u45 ih he51 he41 h
        · refine gR_ic_eq_f rfl c8 ?_
          exact he41 _ _ _ _ (Option.some.inj h).symm
      · refine gR_ic_eq_f rfl c5 ?_
        refine gR_go 1 (pc1 := 45) (L1 := [some (.ref 153), some (.int x1), some (.int x2), some (.int x3), some (.int x4)]) (st1 := []) (fun _ _ => rfl) ?_
        exact wX11_proves_u45 ih he51 he41 h
    · refine gR_ic_ge_j rfl c3 rfl ?_
      exact he51 _ _ _ _ (Option.some.inj h).symm
noncomputable def wX11_proves (x1 : Int32) (x2 : Int32) (s : wS) : Option (Int32) := (wX11_proves_h5 x1 x2 s wFuel 0 0).bind fun z9 => (match z9 with | .inl t10 => wrtZ t10 | .inr () => some 0)
theorem wX11_proves_s {x1 : Int32} {x2 : Int32} {s : wS} {rv : Int32} (h : wX11_proves x1 x2 s = some rv) : gEv 2 250 [.ref 153, .int x1, .int x2] (wmk s) (some (.int rv), wmk s, 0, 0) := by
  refine gEv_of (d := 1) (L := [some (.ref 153), some (.int x1), some (.int x2), none, none]) rfl ?_
  unfold wX11_proves at h
  refine gR_go 4 (pc1 := 5) (L1 := [some (.ref 153), some (.int x1), some (.int x2), some (.int 0), some (.int 0)]) (st1 := []) (fun _ _ => rfl) ?_
  obtain ⟨z9, ez9, h⟩ := gb h
  refine wX11_proves_t5 ?_ ?_  ez9
  · intro t10 w11 w12 w13 hz
    replace hz := hz.symm
    subst hz
    dsimp only at h
    refine gR_go 1 (pc1 := 52) (L1 := [some (.ref 153), some (.int w11), some (.int w12), some (.int t10), some (.int w13)]) (st1 := [.int t10]) (fun _ _ => rfl) ?_
    exact gR_rz rfl rfl h
  · intro w14 w15 w16 w17 hz
    replace hz := hz.symm
    subst hz
    dsimp only at h
    refine gR_go 1 (pc1 := 42) (L1 := [some (.ref 153), some (.int w14), some (.int w15), some (.int w16), some (.int w17)]) (st1 := [.int 0]) (fun _ _ => rfl) ?_
    obtain rfl := gi1 h
    exact gR_rzc rfl rfl rfl
noncomputable def wX11_proof_j78 (qq : Int32 → Int32 → Option (Int32)) (x2 : Int32) (x3 : Int32) (x4 : Int32) (x5 : Int32) (s : wS) : Option (Int32) := qq x4 (x5 + 1)
theorem wX11_proof_u78 {x2 : Int32} {x3 : Int32} {x4 : Int32} {x5 : Int32} {s : wS} {w1 : Int32} {qq : Int32 → Int32 → Option (Int32)} {x : Int32} {r : ri_R} (ih : ∀ {x4 : Int32} {x5 : Int32} {w1 : Int32} , qq x4 x5 = some x → gRun 4 251 36 [some (.ref 153), some (.int w1), some (.int x2), some (.int x3), some (.int x4), some (.int x5)] [] (wmk s) r) (he84 : ∀ (x4 : Int32) (w1 : Int32) (w2 : Int32) (w3 : Int32) (w5 : Int32) , x = x4 → gRun 4 251 84 [some (.ref 153), some (.int w1), some (.int w2), some (.int w3), some (.int x4), some (.int w5)] [] (wmk s) r) (h : wX11_proof_j78 qq x2 x3 x4 x5 s = some x) : gRun 4 251 78 [some (.ref 153), some (.int w1), some (.int x2), some (.int x3), some (.int x4), some (.int x5)] [] (wmk s) r := by
  unfold wX11_proof_j78 at h
  refine gR_go 2 (pc1 := 36) (L1 := [some (.ref 153), some (.int w1), some (.int x2), some (.int x3), some (.int x4), some (.int (x5 + 1))]) (st1 := []) (fun _ _ => rfl) ?_
  exact ih h
noncomputable def wX11_proof_j64 (qq : Int32 → Int32 → Option (Int32)) (x2 : Int32) (x3 : Int32) (x4 : Int32) (x5 : Int32) (s : wS) : Option (Int32) := (wX11_proves x5 x2 s).bind fun t15 => if t15 = 0 then (wX11_proof_j78 qq x2 x3 x4 x5 s) else (wX11_proof_j78 qq x2 x3 x5 x5 s)
theorem wX11_proof_u64 {x2 : Int32} {x3 : Int32} {x4 : Int32} {x5 : Int32} {s : wS} {w1 : Int32} {qq : Int32 → Int32 → Option (Int32)} {x : Int32} {r : ri_R} (ih : ∀ {x4 : Int32} {x5 : Int32} {w1 : Int32} , qq x4 x5 = some x → gRun 4 251 36 [some (.ref 153), some (.int w1), some (.int x2), some (.int x3), some (.int x4), some (.int x5)] [] (wmk s) r) (he84 : ∀ (x4 : Int32) (w1 : Int32) (w2 : Int32) (w3 : Int32) (w5 : Int32) , x = x4 → gRun 4 251 84 [some (.ref 153), some (.int w1), some (.int w2), some (.int w3), some (.int x4), some (.int w5)] [] (wmk s) r) (h : wX11_proof_j64 qq x2 x3 x4 x5 s = some x) : gRun 4 251 64 [some (.ref 153), some (.int w1), some (.int x2), some (.int x3), some (.int x4), some (.int x5)] [] (wmk s) r := by
  unfold wX11_proof_j64 at h
  refine gR_go 3 (pc1 := 68) (L1 := [some (.ref 153), some (.int w1), some (.int x2), some (.int x3), some (.int x4), some (.int x5)]) (st1 := [.int x2, .int x5, .ref 153]) (fun _ _ => rfl) ?_
  obtain ⟨t15, e16, h⟩ := gb h
  refine gR_cvI (wX11_proves_s e16) (Nat.le_of_ble_eq_true rfl) rfl rfl rfl rfl rfl ?_
  rcases gif h with ⟨c17, h⟩ | ⟨c17, h⟩
  · refine gR_iz_eq_j rfl c17 rfl ?_
    exact wX11_proof_u78 ih he84 h
  · refine gR_iz_eq_f rfl c17 ?_
    refine gR_go 2 (pc1 := 78) (L1 := [some (.ref 153), some (.int w1), some (.int x2), some (.int x3), some (.int x5), some (.int x5)]) (st1 := []) (fun _ _ => rfl) ?_
    exact wX11_proof_u78 ih he84 h
noncomputable def wX11_proof_h36 (x2 : Int32) (x3 : Int32) (s : wS) : Nat → Int32 → Int32 → Option (Int32)
  | 0, _, _ => none
  | n + 1, x4, x5 => if x5 < (1 <<< (x3 &&& 31)) then (if x4 < 0 then (wX11_proof_j64 (wX11_proof_h36 x2 x3 s n) x2 x3 x4 x5 s) else ((wX11_bits ((x5 : Int32).toInt64) s).bind fun t18 => (wX11_bits ((x4 : Int32).toInt64) s).bind fun t20 => if t18 < t20 then (wX11_proof_j64 (wX11_proof_h36 x2 x3 s n) x2 x3 x4 x5 s) else (wX11_proof_j78 (wX11_proof_h36 x2 x3 s n) x2 x3 x4 x5 s))) else (some x4)
theorem wX11_proof_t36 {x2 : Int32} {x3 : Int32} {s : wS} {x : Int32} {r : ri_R} (he84 : ∀ (x4 : Int32) (w1 : Int32) (w2 : Int32) (w3 : Int32) (w5 : Int32) , x = x4 → gRun 4 251 84 [some (.ref 153), some (.int w1), some (.int w2), some (.int w3), some (.int x4), some (.int w5)] [] (wmk s) r) : ∀ {n : Nat} {x4 : Int32} {x5 : Int32} {w1 : Int32} , wX11_proof_h36 x2 x3 s n x4 x5 = some x → gRun 4 251 36 [some (.ref 153), some (.int w1), some (.int x2), some (.int x3), some (.int x4), some (.int x5)] [] (wmk s) r := by
  intro n
  induction n with
  | zero => intro x4 x5 w1 h; cases (show (none : Option (Int32)) = some x from h)
  | succ n ih =>
    intro x4 x5 w1 h
    rw [wX11_proof_h36] at h
    refine gR_go 4 (pc1 := 41) (L1 := [some (.ref 153), some (.int w1), some (.int x2), some (.int x3), some (.int x4), some (.int x5)]) (st1 := [.int (1 <<< (x3 &&& 31)), .int x5]) (fun _ _ => rfl) ?_
    rcases gif h with ⟨c13, h⟩ | ⟨c13, h⟩
    · refine gR_ic_ge_f rfl c13 ?_
      refine gR_go 1 (pc1 := 46) (L1 := [some (.ref 153), some (.int w1), some (.int x2), some (.int x3), some (.int x4), some (.int x5)]) (st1 := [.int x4]) (fun _ _ => rfl) ?_
      rcases gif h with ⟨c14, h⟩ | ⟨c14, h⟩
      · refine gR_iz_lt_j rfl c14 rfl ?_
        exact wX11_proof_u64 ih he84 h
      · refine gR_iz_lt_f rfl c14 ?_
        refine gR_go 2 (pc1 := 52) (L1 := [some (.ref 153), some (.int w1), some (.int x2), some (.int x3), some (.int x4), some (.int x5)]) (st1 := [.long ((x5 : Int32).toInt64)]) (fun _ _ => rfl) ?_
        obtain ⟨t18, e19, h⟩ := gb h
        refine gR_csI (wX11_bits_s e19) (Nat.le_of_ble_eq_true rfl) rfl rfl rfl rfl ?_
        refine gR_go 2 (pc1 := 58) (L1 := [some (.ref 153), some (.int w1), some (.int x2), some (.int x3), some (.int x4), some (.int x5)]) (st1 := [.long ((x4 : Int32).toInt64), .int t18]) (fun _ _ => rfl) ?_
        obtain ⟨t20, e21, h⟩ := gb h
        refine gR_csI (wX11_bits_s e21) (Nat.le_of_ble_eq_true rfl) rfl rfl rfl rfl ?_
        rcases gif h with ⟨c22, h⟩ | ⟨c22, h⟩
        · refine gR_ic_ge_f rfl c22 ?_
          exact wX11_proof_u64 ih he84 h
        · refine gR_ic_ge_j rfl c22 rfl ?_
          exact wX11_proof_u78 ih he84 h
    · refine gR_ic_ge_j rfl c13 rfl ?_
      exact he84 _ _ _ _ _ (Option.some.inj h).symm
noncomputable def wX11_proof (x1 : Int32) (x2 : Int32) (s : wS) : Option (Int32 × wS) := (wX11_canAsk x1 s).bind fun t1 => if t1 = 0 then (some ((-1), s)) else ((wX11_isThing 2 x2 s).bind fun t4 => if t4 = 0 then (some ((-1), s)) else ((wX11_reaches x1 s).bind fun s8 => (wX11_twelve s8).bind fun (t10, s11) => (wX11_proof_h36 x2 t10 s11 wFuel ((Int8.ofInt (-2)).toInt32) 0).bind fun t24 => some (t24, s11)))
theorem wX11_proof_s {x1 : Int32} {x2 : Int32} {s : wS} {rv : Int32} {rs : wS} (h : wX11_proof x1 x2 s = some (rv, rs)) : gEv 5 251 [.ref 153, .int x1, .int x2] (wmk s) (some (.int rv), wmk rs, 0, 0) := by
  refine gEv_of (d := 4) (L := [some (.ref 153), some (.int x1), some (.int x2), none, none, none]) rfl ?_
  unfold wX11_proof at h
  refine gR_go 2 (pc1 := 2) (L1 := [some (.ref 153), some (.int x1), some (.int x2), none, none, none]) (st1 := [.int x1, .ref 153]) (fun _ _ => rfl) ?_
  obtain ⟨t1, e2, h⟩ := gb h
  refine gR_cvI (wX11_canAsk_s e2) (Nat.le_of_ble_eq_true rfl) rfl rfl rfl rfl rfl ?_
  rcases gif h with ⟨c3, h⟩ | ⟨c3, h⟩
  · refine gR_iz_eq_j rfl c3 rfl ?_
    refine gR_go 1 (pc1 := 18) (L1 := [some (.ref 153), some (.int x1), some (.int x2), none, none, none]) (st1 := [.int (-1)]) (fun _ _ => rfl) ?_
    obtain ⟨rfl, rfl⟩ := gi2 h
    exact gR_ri rfl rfl
  · refine gR_iz_eq_f rfl c3 ?_
    refine gR_go 3 (pc1 := 11) (L1 := [some (.ref 153), some (.int x1), some (.int x2), none, none, none]) (st1 := [.int x2, .int 2, .ref 153]) (fun _ _ => rfl) ?_
    obtain ⟨t4, e5, h⟩ := gb h
    refine gR_cvI (wX11_isThing_s e5) (Nat.le_of_ble_eq_true rfl) rfl rfl rfl rfl rfl ?_
    rcases gif h with ⟨c6, h⟩ | ⟨c6, h⟩
    · refine gR_iz_ne_f rfl c6 ?_
      refine gR_go 1 (pc1 := 18) (L1 := [some (.ref 153), some (.int x1), some (.int x2), none, none, none]) (st1 := [.int (-1)]) (fun _ _ => rfl) ?_
      obtain ⟨rfl, rfl⟩ := gi2 h
      exact gR_ri rfl rfl
    · refine gR_iz_ne_j rfl c6 rfl ?_
      refine gR_go 2 (pc1 := 21) (L1 := [some (.ref 153), some (.int x1), some (.int x2), none, none, none]) (st1 := [.int x1, .ref 153]) (fun _ _ => rfl) ?_
      obtain ⟨s8, e9, h⟩ := gb h
      refine gR_cvV (wX11_reaches_s e9) (Nat.le_of_ble_eq_true rfl) rfl rfl rfl rfl rfl ?_
      refine gR_go 1 (pc1 := 25) (L1 := [some (.ref 153), some (.int x1), some (.int x2), none, none, none]) (st1 := [.ref 153]) (fun _ _ => rfl) ?_
      obtain ⟨⟨t10, s11⟩, e12, h⟩ := gb h
      dsimp only at h
      refine gR_cvI (wX11_twelve_s e12) (Nat.le_of_ble_eq_true rfl) rfl rfl rfl rfl rfl ?_
      refine gR_go 5 (pc1 := 36) (L1 := [some (.ref 153), some (.int x1), some (.int x2), some (.int t10), some (.int ((Int8.ofInt (-2)).toInt32)), some (.int 0)]) (st1 := []) (fun _ _ => rfl) ?_
      obtain ⟨z23, ez23, h⟩ := gb h
      refine wX11_proof_t36 ?_  ez23
      · intro t24 w25 w26 w27 w28 hz
        replace hz := hz.symm
        subst hz
        refine gR_go 1 (pc1 := 86) (L1 := [some (.ref 153), some (.int w25), some (.int w26), some (.int w27), some (.int t24), some (.int w28)]) (st1 := [.int t24]) (fun _ _ => rfl) ?_
        obtain ⟨rfl, rfl⟩ := gi2 h
        exact gR_ri rfl rfl
noncomputable def wX11_byLaws_h47 (x1 : Int32) (x2 : Int32) (x3 : Int32) : Nat → Int32 → wS → Option (wS)
  | 0, _, _ => none
  | n + 1, x4, s => (wX11_worlds s).bind fun t13 => if x4 < t13 then ((wstI s 167 512 x4 0).bind fun s16 => wX11_byLaws_h47 x1 x2 x3 n (x4 + 1) s16) else (some s)
theorem wX11_byLaws_t47 {x1 : Int32} {x2 : Int32} {x3 : Int32} {x : wS} {r : ri_R} (he70 : ∀ (s : wS) (w4 : Int32) (w5 : Option Value) , x = s → gRun 5 252 70 [some (.ref 153), some (.int x1), some (.int x2), some (.int x3), some (.int w4), w5] [] (wmk s) r) : ∀ {n : Nat} {x4 : Int32} {s : wS} {w5 : Option Value} , wX11_byLaws_h47 x1 x2 x3 n x4 s = some x → gRun 5 252 47 [some (.ref 153), some (.int x1), some (.int x2), some (.int x3), some (.int x4), w5] [] (wmk s) r := by
  intro n
  induction n with
  | zero => intro x4 s w5 h; cases (show (none : Option (wS)) = some x from h)
  | succ n ih =>
    intro x4 s w5 h
    rw [wX11_byLaws_h47] at h
    refine gR_go 2 (pc1 := 50) (L1 := [some (.ref 153), some (.int x1), some (.int x2), some (.int x3), some (.int x4), w5]) (st1 := [.ref 153, .int x4]) (fun _ _ => rfl) ?_
    obtain ⟨t13, e14, h⟩ := gb h
    refine gR_cvI (wX11_worlds_s e14) (Nat.le_of_ble_eq_true rfl) rfl rfl rfl rfl rfl ?_
    rcases gif h with ⟨c15, h⟩ | ⟨c15, h⟩
    · refine gR_ic_ge_f rfl c15 ?_
      refine gR_go 1 (pc1 := 57) (L1 := [some (.ref 153), some (.int x1), some (.int x2), some (.int x3), some (.int x4), w5]) (st1 := [.ref 153]) (fun _ _ => rfl) ?_
      refine gR_gfR (k := 152) (k' := 167) rfl rfl rfl rfl ?_
      refine gR_go 2 (pc1 := 63) (L1 := [some (.ref 153), some (.int x1), some (.int x2), some (.int x3), some (.int x4), w5]) (st1 := [.int 0, .int x4, .ref 168]) (fun _ _ => rfl) ?_
      obtain ⟨s16, es16, h⟩ := gb h
      refine gR_ias (k := 167) rfl rfl rfl es16 ?_
      refine gR_go 2 (pc1 := 47) (L1 := [some (.ref 153), some (.int x1), some (.int x2), some (.int x3), some (.int (x4 + 1)), w5]) (st1 := []) (fun _ _ => rfl) ?_
      exact ih h
    · refine gR_ic_ge_j rfl c15 rfl ?_
      exact he70 _ _ _ (Option.some.inj h).symm
noncomputable def wX11_byLaws_j146 (qq : Int32 → wS → Option (wS)) (x1 : Int32) (x2 : Int32) (x3 : Int32) (x4 : Int32) (s : wS) : Option (wS) := qq (x4 + 1) s
theorem wX11_byLaws_u146 {x1 : Int32} {x2 : Int32} {x3 : Int32} {x4 : Int32} {s : wS} {w5 : Option Value} {qq : Int32 → wS → Option (wS)} {x : wS} {r : ri_R} (ih : ∀ {x4 : Int32} {s : wS} {w5 : Option Value} , qq x4 s = some x → gRun 5 252 73 [some (.ref 153), some (.int x1), some (.int x2), some (.int x3), some (.int x4), w5] [] (wmk s) r) (he152 : ∀ (s : wS) (w2 : Int32) (w4 : Int32) (w5 : Option Value) , x = s → gRun 5 252 152 [some (.ref 153), some (.int x1), some (.int w2), some (.int x3), some (.int w4), w5] [] (wmk s) r) (h : wX11_byLaws_j146 qq x1 x2 x3 x4 s = some x) : gRun 5 252 146 [some (.ref 153), some (.int x1), some (.int x2), some (.int x3), some (.int x4), w5] [] (wmk s) r := by
  unfold wX11_byLaws_j146 at h
  refine gR_go 2 (pc1 := 73) (L1 := [some (.ref 153), some (.int x1), some (.int x2), some (.int x3), some (.int (x4 + 1)), w5]) (st1 := []) (fun _ _ => rfl) ?_
  exact ih h
noncomputable def wX11_byLaws_j138 (qq : Int32 → wS → Option (wS)) (x1 : Int32) (x2 : Int32) (x3 : Int32) (x4 : Int32) (x5 : Int32) (y1 : Int32) (y2 : Int32) (y3 : Int32) (s : wS) : Option (wS) := (wstI s 167 512 y1 (y2 + y3)).bind fun s32 => qq (x5 + 1) s32
theorem wX11_byLaws_u138 {x1 : Int32} {x2 : Int32} {x3 : Int32} {x4 : Int32} {x5 : Int32} {y1 : Int32} {y2 : Int32} {y3 : Int32} {s : wS} {qq : Int32 → wS → Option (wS)} {x : wS} {r : ri_R} (ih : ∀ {x5 : Int32} {s : wS} , qq x5 s = some x → gRun 5 252 106 [some (.ref 153), some (.int x1), some (.int x2), some (.int x3), some (.int x4), some (.int x5)] [] (wmk s) r) (he146 : ∀ (s : wS) (w5 : Option Value) , x = s → gRun 5 252 146 [some (.ref 153), some (.int x1), some (.int x2), some (.int x3), some (.int x4), w5] [] (wmk s) r) (h : wX11_byLaws_j138 qq x1 x2 x3 x4 x5 y1 y2 y3 s = some x) : gRun 5 252 138 [some (.ref 153), some (.int x1), some (.int x2), some (.int x3), some (.int x4), some (.int x5)] [.int y3, .int y2, .int y1, .ref 168] (wmk s) r := by
  unfold wX11_byLaws_j138 at h
  refine gR_go 1 (pc1 := 139) (L1 := [some (.ref 153), some (.int x1), some (.int x2), some (.int x3), some (.int x4), some (.int x5)]) (st1 := [.int (y2 + y3), .int y1, .ref 168]) (fun _ _ => rfl) ?_
  obtain ⟨s32, es32, h⟩ := gb h
  refine gR_ias (k := 167) rfl rfl rfl es32 ?_
  refine gR_go 2 (pc1 := 106) (L1 := [some (.ref 153), some (.int x1), some (.int x2), some (.int x3), some (.int x4), some (.int (x5 + 1))]) (st1 := []) (fun _ _ => rfl) ?_
  exact ih h
noncomputable def wX11_byLaws_h106 (x1 : Int32) (x2 : Int32) (x3 : Int32) (x4 : Int32) : Nat → Int32 → wS → Option (wS)
  | 0, _, _ => none
  | n + 1, x5, s => (wX11_worlds s).bind fun t26 => if x5 < t26 then ((wldI s 167 512 x5).bind fun t29 => (wldI s 165 512 x5).bind fun t30 => if t30 = 0 then (wX11_byLaws_j138 (wX11_byLaws_h106 x1 x2 x3 x4 n) x1 x2 x3 x4 x5 x5 t29 0 s) else (wX11_byLaws_j138 (wX11_byLaws_h106 x1 x2 x3 x4 n) x1 x2 x3 x4 x5 x5 t29 1 s)) else (some s)
theorem wX11_byLaws_t106 {x1 : Int32} {x2 : Int32} {x3 : Int32} {x4 : Int32} {x : wS} {r : ri_R} (he146 : ∀ (s : wS) (w5 : Option Value) , x = s → gRun 5 252 146 [some (.ref 153), some (.int x1), some (.int x2), some (.int x3), some (.int x4), w5] [] (wmk s) r) : ∀ {n : Nat} {x5 : Int32} {s : wS} , wX11_byLaws_h106 x1 x2 x3 x4 n x5 s = some x → gRun 5 252 106 [some (.ref 153), some (.int x1), some (.int x2), some (.int x3), some (.int x4), some (.int x5)] [] (wmk s) r := by
  intro n
  induction n with
  | zero => intro x5 s h; cases (show (none : Option (wS)) = some x from h)
  | succ n ih =>
    intro x5 s h
    rw [wX11_byLaws_h106] at h
    refine gR_go 2 (pc1 := 109) (L1 := [some (.ref 153), some (.int x1), some (.int x2), some (.int x3), some (.int x4), some (.int x5)]) (st1 := [.ref 153, .int x5]) (fun _ _ => rfl) ?_
    obtain ⟨t26, e27, h⟩ := gb h
    refine gR_cvI (wX11_worlds_s e27) (Nat.le_of_ble_eq_true rfl) rfl rfl rfl rfl rfl ?_
    rcases gif h with ⟨c28, h⟩ | ⟨c28, h⟩
    · refine gR_ic_ge_f rfl c28 ?_
      refine gR_go 1 (pc1 := 116) (L1 := [some (.ref 153), some (.int x1), some (.int x2), some (.int x3), some (.int x4), some (.int x5)]) (st1 := [.ref 153]) (fun _ _ => rfl) ?_
      refine gR_gfR (k := 152) (k' := 167) rfl rfl rfl rfl ?_
      refine gR_go 2 (pc1 := 122) (L1 := [some (.ref 153), some (.int x1), some (.int x2), some (.int x3), some (.int x4), some (.int x5)]) (st1 := [.int x5, .ref 168, .int x5, .ref 168]) (fun _ _ => rfl) ?_
      obtain ⟨t29, et29, h⟩ := gb h
      refine gR_ial (k := 167) rfl rfl rfl et29 ?_
      refine gR_go 1 (pc1 := 124) (L1 := [some (.ref 153), some (.int x1), some (.int x2), some (.int x3), some (.int x4), some (.int x5)]) (st1 := [.ref 153, .int t29, .int x5, .ref 168]) (fun _ _ => rfl) ?_
      refine gR_gfR (k := 152) (k' := 165) rfl rfl rfl rfl ?_
      refine gR_go 1 (pc1 := 129) (L1 := [some (.ref 153), some (.int x1), some (.int x2), some (.int x3), some (.int x4), some (.int x5)]) (st1 := [.int x5, .ref 166, .int t29, .int x5, .ref 168]) (fun _ _ => rfl) ?_
      obtain ⟨t30, et30, h⟩ := gb h
      refine gR_zal (k := 165) rfl rfl rfl et30 ?_
      rcases gif h with ⟨c31, h⟩ | ⟨c31, h⟩
      · refine gR_iz_eq_j rfl c31 rfl ?_
        refine gR_go 1 (pc1 := 138) (L1 := [some (.ref 153), some (.int x1), some (.int x2), some (.int x3), some (.int x4), some (.int x5)]) (st1 := [.int 0, .int t29, .int x5, .ref 168]) (fun _ _ => rfl) ?_
        exact wX11_byLaws_u138 ih he146 h
      · refine gR_iz_eq_f rfl c31 ?_
        refine gR_go 2 (pc1 := 138) (L1 := [some (.ref 153), some (.int x1), some (.int x2), some (.int x3), some (.int x4), some (.int x5)]) (st1 := [.int 1, .int t29, .int x5, .ref 168]) (fun _ _ => rfl) ?_
        exact wX11_byLaws_u138 ih he146 h
    · refine gR_ic_ge_j rfl c28 rfl ?_
      exact he146 _ _ (Option.some.inj h).symm
noncomputable def wX11_byLaws_h73 (x1 : Int32) (x2 : Int32) (x3 : Int32) : Nat → Int32 → wS → Option (wS)
  | 0, _, _ => none
  | n + 1, x4, s => if x4 < (s.1 152 2) then (if ((x1 >>> (x4 &&& 31)) &&& 1) = 0 then (wX11_byLaws_j146 (wX11_byLaws_h73 x1 x2 x3 n) x1 x2 x3 x4 s) else ((wX11_keeps x4 x2 (-1) s).bind fun (t23, s24) => (wX11_byLaws_h106 x1 x2 x3 x4 wFuel 0 s24).bind fun s34 => wX11_byLaws_j146 (wX11_byLaws_h73 x1 x2 x3 n) x1 x2 x3 x4 s34)) else (some s)
theorem wX11_byLaws_t73 {x1 : Int32} {x2 : Int32} {x3 : Int32} {x : wS} {r : ri_R} (he152 : ∀ (s : wS) (w2 : Int32) (w4 : Int32) (w5 : Option Value) , x = s → gRun 5 252 152 [some (.ref 153), some (.int x1), some (.int w2), some (.int x3), some (.int w4), w5] [] (wmk s) r) : ∀ {n : Nat} {x4 : Int32} {s : wS} {w5 : Option Value} , wX11_byLaws_h73 x1 x2 x3 n x4 s = some x → gRun 5 252 73 [some (.ref 153), some (.int x1), some (.int x2), some (.int x3), some (.int x4), w5] [] (wmk s) r := by
  intro n
  induction n with
  | zero => intro x4 s w5 h; cases (show (none : Option (wS)) = some x from h)
  | succ n ih =>
    intro x4 s w5 h
    rw [wX11_byLaws_h73] at h
    refine gR_go 2 (pc1 := 76) (L1 := [some (.ref 153), some (.int x1), some (.int x2), some (.int x3), some (.int x4), w5]) (st1 := [.ref 153, .int x4]) (fun _ _ => rfl) ?_
    refine gR_gfI (k := 152) rfl rfl rfl ?_
    rcases gif h with ⟨c21, h⟩ | ⟨c21, h⟩
    · refine gR_ic_ge_f rfl c21 ?_
      refine gR_go 5 (pc1 := 88) (L1 := [some (.ref 153), some (.int x1), some (.int x2), some (.int x3), some (.int x4), w5]) (st1 := [.int ((x1 >>> (x4 &&& 31)) &&& 1)]) (fun _ _ => rfl) ?_
      rcases gif h with ⟨c22, h⟩ | ⟨c22, h⟩
      · refine gR_iz_ne_f rfl c22 ?_
        refine gR_go 1 (pc1 := 146) (L1 := [some (.ref 153), some (.int x1), some (.int x2), some (.int x3), some (.int x4), w5]) (st1 := []) (fun _ _ => rfl) ?_
        exact wX11_byLaws_u146 ih he152 h
      · refine gR_iz_ne_j rfl c22 rfl ?_
        refine gR_go 4 (pc1 := 99) (L1 := [some (.ref 153), some (.int x1), some (.int x2), some (.int x3), some (.int x4), w5]) (st1 := [.int (-1), .int x2, .int x4, .ref 153]) (fun _ _ => rfl) ?_
        obtain ⟨⟨t23, s24⟩, e25, h⟩ := gb h
        dsimp only at h
        refine gR_cvI (wX11_keeps_s e25) (Nat.le_of_ble_eq_true rfl) rfl rfl rfl rfl rfl ?_
        refine gR_go 3 (pc1 := 106) (L1 := [some (.ref 153), some (.int x1), some (.int x2), some (.int x3), some (.int x4), some (.int 0)]) (st1 := []) (fun _ _ => rfl) ?_
        obtain ⟨z33, ez33, h⟩ := gb h
        refine wX11_byLaws_t106 ?_  ez33
        · intro s34 w35 hz
          replace hz := hz.symm
          subst hz
          exact wX11_byLaws_u146 ih he152 h
    · refine gR_ic_ge_j rfl c21 rfl ?_
      exact he152 _ _ _ _ (Option.some.inj h).symm
noncomputable def wX11_byLaws_j197 (qq : Int32 → Int32 → Option (Int32)) (x1 : Int32) (x3 : Int32) (x5 : Int32) (y0 : Int32) (y1 : Int32) (s : wS) : Option (Int32) := qq (y0 + y1) (x5 + 1)
theorem wX11_byLaws_u197 {x1 : Int32} {x3 : Int32} {x5 : Int32} {y0 : Int32} {y1 : Int32} {s : wS} {w2 : Int32} {w4 : Int32} {qq : Int32 → Int32 → Option (Int32)} {x : Int32} {r : ri_R} (ih : ∀ {x4 : Int32} {x5 : Int32} {w2 : Int32} , qq x4 x5 = some x → gRun 5 252 158 [some (.ref 153), some (.int x1), some (.int w2), some (.int x3), some (.int x4), some (.int x5)] [] (wmk s) r) (he206 : ∀ (x4 : Int32) (w1 : Int32) (w2 : Int32) (w3 : Int32) (w5 : Int32) , x = x4 → gRun 5 252 206 [some (.ref 153), some (.int w1), some (.int w2), some (.int w3), some (.int x4), some (.int w5)] [] (wmk s) r) (h : wX11_byLaws_j197 qq x1 x3 x5 y0 y1 s = some x) : gRun 5 252 197 [some (.ref 153), some (.int x1), some (.int w2), some (.int x3), some (.int w4), some (.int x5)] [.int y1, .int y0] (wmk s) r := by
  unfold wX11_byLaws_j197 at h
  refine gR_go 4 (pc1 := 158) (L1 := [some (.ref 153), some (.int x1), some (.int w2), some (.int x3), some (.int (y0 + y1)), some (.int (x5 + 1))]) (st1 := []) (fun _ _ => rfl) ?_
  exact ih h
noncomputable def wX11_byLaws_j189 (qq : Int32 → Int32 → Option (Int32)) (x1 : Int32) (x3 : Int32) (x5 : Int32) (y0 : Int32) (y1 : Int32) (y2 : Int32) (s : wS) : Option (Int32) := if y1 < y2 then (wX11_byLaws_j197 qq x1 x3 x5 y0 0 s) else (wX11_byLaws_j197 qq x1 x3 x5 y0 1 s)
theorem wX11_byLaws_u189 {x1 : Int32} {x3 : Int32} {x5 : Int32} {y0 : Int32} {y1 : Int32} {y2 : Int32} {s : wS} {w2 : Int32} {w4 : Int32} {qq : Int32 → Int32 → Option (Int32)} {x : Int32} {r : ri_R} (ih : ∀ {x4 : Int32} {x5 : Int32} {w2 : Int32} , qq x4 x5 = some x → gRun 5 252 158 [some (.ref 153), some (.int x1), some (.int w2), some (.int x3), some (.int x4), some (.int x5)] [] (wmk s) r) (he206 : ∀ (x4 : Int32) (w1 : Int32) (w2 : Int32) (w3 : Int32) (w5 : Int32) , x = x4 → gRun 5 252 206 [some (.ref 153), some (.int w1), some (.int w2), some (.int w3), some (.int x4), some (.int w5)] [] (wmk s) r) (h : wX11_byLaws_j189 qq x1 x3 x5 y0 y1 y2 s = some x) : gRun 5 252 189 [some (.ref 153), some (.int x1), some (.int w2), some (.int x3), some (.int w4), some (.int x5)] [.int y2, .int y1, .int y0] (wmk s) r := by
  unfold wX11_byLaws_j189 at h
  rcases gif h with ⟨c48, h⟩ | ⟨c48, h⟩
  · refine gR_ic_lt_j rfl c48 rfl ?_
    refine gR_go 1 (pc1 := 197) (L1 := [some (.ref 153), some (.int x1), some (.int w2), some (.int x3), some (.int w4), some (.int x5)]) (st1 := [.int 0, .int y0]) (fun _ _ => rfl) ?_
    exact wX11_byLaws_u197 ih he206 h
  · refine gR_ic_lt_f rfl c48 ?_
    refine gR_go 2 (pc1 := 197) (L1 := [some (.ref 153), some (.int x1), some (.int w2), some (.int x3), some (.int w4), some (.int x5)]) (st1 := [.int 1, .int y0]) (fun _ _ => rfl) ?_
    exact wX11_byLaws_u197 ih he206 h
noncomputable def wX11_byLaws_h158 (x1 : Int32) (x3 : Int32) (s : wS) : Nat → Int32 → Int32 → Option (Int32)
  | 0, _, _ => none
  | n + 1, x4, x5 => (wX11_worlds s).bind fun t41 => if x5 < t41 then ((wldI s 167 512 x5).bind fun t44 => if x3 = 0 then ((wX11_bits ((x1 : Int32).toInt64) s).bind fun t46 => wX11_byLaws_j189 (wX11_byLaws_h158 x1 x3 s n) x1 x3 x5 x4 t44 t46 s) else (wX11_byLaws_j189 (wX11_byLaws_h158 x1 x3 s n) x1 x3 x5 x4 t44 1 s)) else (some x4)
theorem wX11_byLaws_t158 {x1 : Int32} {x3 : Int32} {s : wS} {x : Int32} {r : ri_R} (he206 : ∀ (x4 : Int32) (w1 : Int32) (w2 : Int32) (w3 : Int32) (w5 : Int32) , x = x4 → gRun 5 252 206 [some (.ref 153), some (.int w1), some (.int w2), some (.int w3), some (.int x4), some (.int w5)] [] (wmk s) r) : ∀ {n : Nat} {x4 : Int32} {x5 : Int32} {w2 : Int32} , wX11_byLaws_h158 x1 x3 s n x4 x5 = some x → gRun 5 252 158 [some (.ref 153), some (.int x1), some (.int w2), some (.int x3), some (.int x4), some (.int x5)] [] (wmk s) r := by
  intro n
  induction n with
  | zero => intro x4 x5 w2 h; cases (show (none : Option (Int32)) = some x from h)
  | succ n ih =>
    intro x4 x5 w2 h
    rw [wX11_byLaws_h158] at h
    refine gR_go 2 (pc1 := 161) (L1 := [some (.ref 153), some (.int x1), some (.int w2), some (.int x3), some (.int x4), some (.int x5)]) (st1 := [.ref 153, .int x5]) (fun _ _ => rfl) ?_
    obtain ⟨t41, e42, h⟩ := gb h
    refine gR_cvI (wX11_worlds_s e42) (Nat.le_of_ble_eq_true rfl) rfl rfl rfl rfl rfl ?_
    rcases gif h with ⟨c43, h⟩ | ⟨c43, h⟩
    · refine gR_ic_ge_f rfl c43 ?_
      refine gR_go 2 (pc1 := 170) (L1 := [some (.ref 153), some (.int x1), some (.int w2), some (.int x3), some (.int x4), some (.int x5)]) (st1 := [.ref 153, .int x4]) (fun _ _ => rfl) ?_
      refine gR_gfR (k := 152) (k' := 167) rfl rfl rfl rfl ?_
      refine gR_go 1 (pc1 := 175) (L1 := [some (.ref 153), some (.int x1), some (.int w2), some (.int x3), some (.int x4), some (.int x5)]) (st1 := [.int x5, .ref 168, .int x4]) (fun _ _ => rfl) ?_
      obtain ⟨t44, et44, h⟩ := gb h
      refine gR_ial (k := 167) rfl rfl rfl et44 ?_
      refine gR_go 1 (pc1 := 177) (L1 := [some (.ref 153), some (.int x1), some (.int w2), some (.int x3), some (.int x4), some (.int x5)]) (st1 := [.int x3, .int t44, .int x4]) (fun _ _ => rfl) ?_
      rcases gif h with ⟨c45, h⟩ | ⟨c45, h⟩
      · refine gR_iz_ne_f rfl c45 ?_
        refine gR_go 2 (pc1 := 182) (L1 := [some (.ref 153), some (.int x1), some (.int w2), some (.int x3), some (.int x4), some (.int x5)]) (st1 := [.long ((x1 : Int32).toInt64), .int t44, .int x4]) (fun _ _ => rfl) ?_
        obtain ⟨t46, e47, h⟩ := gb h
        refine gR_csI (wX11_bits_s e47) (Nat.le_of_ble_eq_true rfl) rfl rfl rfl rfl ?_
        refine gR_go 1 (pc1 := 189) (L1 := [some (.ref 153), some (.int x1), some (.int w2), some (.int x3), some (.int x4), some (.int x5)]) (st1 := [.int t46, .int t44, .int x4]) (fun _ _ => rfl) ?_
        exact wX11_byLaws_u189 ih he206 h
      · refine gR_iz_ne_j rfl c45 rfl ?_
        refine gR_go 1 (pc1 := 189) (L1 := [some (.ref 153), some (.int x1), some (.int w2), some (.int x3), some (.int x4), some (.int x5)]) (st1 := [.int 1, .int t44, .int x4]) (fun _ _ => rfl) ?_
        exact wX11_byLaws_u189 ih he206 h
    · refine gR_ic_ge_j rfl c43 rfl ?_
      exact he206 _ _ _ _ _ (Option.some.inj h).symm
noncomputable def wX11_byLaws (x1 : Int32) (x2 : Int32) (x3 : Int32) (s : wS) : Option (Int32 × wS) := (wX11_isCourt s).bind fun t1 => if t1 = 0 then (some ((-1), s)) else ((wX11_in ((x1 : Int32).toInt64) 1 ((((1 <<< ((s.1 152 2) &&& 31)) - 1) : Int32).toInt64) s).bind fun t4 => if t4 = 0 then (some ((-1), s)) else ((wX11_isMany x2 s).bind fun t7 => if t7 = 0 then (some ((-1), s)) else ((wX11_in ((x3 : Int32).toInt64) 0 1 s).bind fun t10 => if t10 = 0 then (some ((-1), s)) else ((wX11_byLaws_h47 x1 x2 x3 wFuel 0 s).bind fun s18 => (wX11_byLaws_h73 x1 x2 x3 wFuel 0 s18).bind fun s37 => (wX11_byLaws_h158 x1 x3 s37 wFuel 0 0).bind fun t50 => some (t50, s37)))))
theorem wX11_byLaws_s {x1 : Int32} {x2 : Int32} {x3 : Int32} {s : wS} {rv : Int32} {rs : wS} (h : wX11_byLaws x1 x2 x3 s = some (rv, rs)) : gEv 6 252 [.ref 153, .int x1, .int x2, .int x3] (wmk s) (some (.int rv), wmk rs, 0, 0) := by
  refine gEv_of (d := 5) (L := [some (.ref 153), some (.int x1), some (.int x2), some (.int x3), none, none]) rfl ?_
  unfold wX11_byLaws at h
  refine gR_go 1 (pc1 := 1) (L1 := [some (.ref 153), some (.int x1), some (.int x2), some (.int x3), none, none]) (st1 := [.ref 153]) (fun _ _ => rfl) ?_
  obtain ⟨t1, e2, h⟩ := gb h
  refine gR_cvI (wX11_isCourt_s e2) (Nat.le_of_ble_eq_true rfl) rfl rfl rfl rfl rfl ?_
  rcases gif h with ⟨c3, h⟩ | ⟨c3, h⟩
  · refine gR_iz_eq_j rfl c3 rfl ?_
    refine gR_go 1 (pc1 := 43) (L1 := [some (.ref 153), some (.int x1), some (.int x2), some (.int x3), none, none]) (st1 := [.int (-1)]) (fun _ _ => rfl) ?_
    obtain ⟨rfl, rfl⟩ := gi2 h
    exact gR_ri rfl rfl
  · refine gR_iz_eq_f rfl c3 ?_
    refine gR_go 5 (pc1 := 12) (L1 := [some (.ref 153), some (.int x1), some (.int x2), some (.int x3), none, none]) (st1 := [.ref 153, .int 1, .long 1, .long ((x1 : Int32).toInt64)]) (fun _ _ => rfl) ?_
    refine gR_gfI (k := 152) rfl rfl rfl ?_
    refine gR_go 4 (pc1 := 19) (L1 := [some (.ref 153), some (.int x1), some (.int x2), some (.int x3), none, none]) (st1 := [.long ((((1 <<< ((s.1 152 2) &&& 31)) - 1) : Int32).toInt64), .long 1, .long ((x1 : Int32).toInt64)]) (fun _ _ => rfl) ?_
    obtain ⟨t4, e5, h⟩ := gb h
    refine gR_csI (wX11_in_s e5) (Nat.le_of_ble_eq_true rfl) rfl rfl rfl rfl ?_
    rcases gif h with ⟨c6, h⟩ | ⟨c6, h⟩
    · refine gR_iz_eq_j rfl c6 rfl ?_
      refine gR_go 1 (pc1 := 43) (L1 := [some (.ref 153), some (.int x1), some (.int x2), some (.int x3), none, none]) (st1 := [.int (-1)]) (fun _ _ => rfl) ?_
      obtain ⟨rfl, rfl⟩ := gi2 h
      exact gR_ri rfl rfl
    · refine gR_iz_eq_f rfl c6 ?_
      refine gR_go 1 (pc1 := 26) (L1 := [some (.ref 153), some (.int x1), some (.int x2), some (.int x3), none, none]) (st1 := [.int x2]) (fun _ _ => rfl) ?_
      obtain ⟨t7, e8, h⟩ := gb h
      refine gR_csI (wX11_isMany_s e8) (Nat.le_of_ble_eq_true rfl) rfl rfl rfl rfl ?_
      rcases gif h with ⟨c9, h⟩ | ⟨c9, h⟩
      · refine gR_iz_eq_j rfl c9 rfl ?_
        refine gR_go 1 (pc1 := 43) (L1 := [some (.ref 153), some (.int x1), some (.int x2), some (.int x3), none, none]) (st1 := [.int (-1)]) (fun _ _ => rfl) ?_
        obtain ⟨rfl, rfl⟩ := gi2 h
        exact gR_ri rfl rfl
      · refine gR_iz_eq_f rfl c9 ?_
        refine gR_go 4 (pc1 := 36) (L1 := [some (.ref 153), some (.int x1), some (.int x2), some (.int x3), none, none]) (st1 := [.long 1, .long 0, .long ((x3 : Int32).toInt64)]) (fun _ _ => rfl) ?_
        obtain ⟨t10, e11, h⟩ := gb h
        refine gR_csI (wX11_in_s e11) (Nat.le_of_ble_eq_true rfl) rfl rfl rfl rfl ?_
        rcases gif h with ⟨c12, h⟩ | ⟨c12, h⟩
        · refine gR_iz_ne_f rfl c12 ?_
          refine gR_go 1 (pc1 := 43) (L1 := [some (.ref 153), some (.int x1), some (.int x2), some (.int x3), none, none]) (st1 := [.int (-1)]) (fun _ _ => rfl) ?_
          obtain ⟨rfl, rfl⟩ := gi2 h
          exact gR_ri rfl rfl
        · refine gR_iz_ne_j rfl c12 rfl ?_
          refine gR_go 2 (pc1 := 47) (L1 := [some (.ref 153), some (.int x1), some (.int x2), some (.int x3), some (.int 0), none]) (st1 := []) (fun _ _ => rfl) ?_
          obtain ⟨z17, ez17, h⟩ := gb h
          refine wX11_byLaws_t47 ?_  ez17
          · intro s18 w19 w20 hz
            replace hz := hz.symm
            subst hz
            refine gR_go 2 (pc1 := 73) (L1 := [some (.ref 153), some (.int x1), some (.int x2), some (.int x3), some (.int 0), w20]) (st1 := []) (fun _ _ => rfl) ?_
            obtain ⟨z36, ez36, h⟩ := gb h
            refine wX11_byLaws_t73 ?_  ez36
            · intro s37 w38 w39 w40 hz
              replace hz := hz.symm
              subst hz
              refine gR_go 4 (pc1 := 158) (L1 := [some (.ref 153), some (.int x1), some (.int w38), some (.int x3), some (.int 0), some (.int 0)]) (st1 := []) (fun _ _ => rfl) ?_
              obtain ⟨z49, ez49, h⟩ := gb h
              refine wX11_byLaws_t158 ?_  ez49
              · intro t50 w51 w52 w53 w54 hz
                replace hz := hz.symm
                subst hz
                refine gR_go 1 (pc1 := 208) (L1 := [some (.ref 153), some (.int w51), some (.int w52), some (.int w53), some (.int t50), some (.int w54)]) (st1 := [.int t50]) (fun _ _ => rfl) ?_
                obtain ⟨rfl, rfl⟩ := gi2 h
                exact gR_ri rfl rfl
noncomputable def wX11_looks_j75 (qq : Int32 → Int32 → Option (Int32)) (x3 : Int32) (x5 : Int32) (y0 : Int32) (y1 : Int32) (s : wS) : Option (Int32) := qq (y0 + y1) (x5 + 1)
theorem wX11_looks_u75 {x3 : Int32} {x5 : Int32} {y0 : Int32} {y1 : Int32} {s : wS} {w1 : Int32} {w2 : Int32} {w4 : Int32} {qq : Int32 → Int32 → Option (Int32)} {x : Int32} {r : ri_R} (ih : ∀ {x4 : Int32} {x5 : Int32} {w1 : Int32} {w2 : Int32} , qq x4 x5 = some x → gRun 5 253 39 [some (.ref 153), some (.int w1), some (.int w2), some (.int x3), some (.int x4), some (.int x5)] [] (wmk s) r) (he84 : ∀ (x4 : Int32) (w1 : Int32) (w2 : Int32) (w3 : Int32) (w5 : Int32) , x = x4 → gRun 5 253 84 [some (.ref 153), some (.int w1), some (.int w2), some (.int w3), some (.int x4), some (.int w5)] [] (wmk s) r) (h : wX11_looks_j75 qq x3 x5 y0 y1 s = some x) : gRun 5 253 75 [some (.ref 153), some (.int w1), some (.int w2), some (.int x3), some (.int w4), some (.int x5)] [.int y1, .int y0] (wmk s) r := by
  unfold wX11_looks_j75 at h
  refine gR_go 4 (pc1 := 39) (L1 := [some (.ref 153), some (.int w1), some (.int w2), some (.int x3), some (.int (y0 + y1)), some (.int (x5 + 1))]) (st1 := []) (fun _ _ => rfl) ?_
  exact ih h
noncomputable def wX11_looks_j74 (qq : Int32 → Int32 → Option (Int32)) (x3 : Int32) (x5 : Int32) (y0 : Int32) (s : wS) : Option (Int32) := wX11_looks_j75 qq x3 x5 y0 0 s
theorem wX11_looks_u74 {x3 : Int32} {x5 : Int32} {y0 : Int32} {s : wS} {w1 : Int32} {w2 : Int32} {w4 : Int32} {qq : Int32 → Int32 → Option (Int32)} {x : Int32} {r : ri_R} (ih : ∀ {x4 : Int32} {x5 : Int32} {w1 : Int32} {w2 : Int32} , qq x4 x5 = some x → gRun 5 253 39 [some (.ref 153), some (.int w1), some (.int w2), some (.int x3), some (.int x4), some (.int x5)] [] (wmk s) r) (he84 : ∀ (x4 : Int32) (w1 : Int32) (w2 : Int32) (w3 : Int32) (w5 : Int32) , x = x4 → gRun 5 253 84 [some (.ref 153), some (.int w1), some (.int w2), some (.int w3), some (.int x4), some (.int w5)] [] (wmk s) r) (h : wX11_looks_j74 qq x3 x5 y0 s = some x) : gRun 5 253 74 [some (.ref 153), some (.int w1), some (.int w2), some (.int x3), some (.int w4), some (.int x5)] [.int y0] (wmk s) r := by
  unfold wX11_looks_j74 at h
  refine gR_go 1 (pc1 := 75) (L1 := [some (.ref 153), some (.int w1), some (.int w2), some (.int x3), some (.int w4), some (.int x5)]) (st1 := [.int 0, .int y0]) (fun _ _ => rfl) ?_
  exact wX11_looks_u75 ih he84 h
noncomputable def wX11_looks_h39 (x3 : Int32) (s : wS) : Nat → Int32 → Int32 → Option (Int32)
  | 0, _, _ => none
  | n + 1, x4, x5 => (wX11_worlds s).bind fun t13 => if x5 < t13 then ((wldI s 165 512 x5).bind fun t16 => if t16 = 0 then (wX11_looks_j74 (wX11_looks_h39 x3 s n) x3 x5 x4 s) else ((wX11_isTrue x3 x5 s).bind fun t18 => if t18 = 0 then (wX11_looks_j75 (wX11_looks_h39 x3 s n) x3 x5 x4 1 s) else (wX11_looks_j74 (wX11_looks_h39 x3 s n) x3 x5 x4 s))) else (some x4)
theorem wX11_looks_t39 {x3 : Int32} {s : wS} {x : Int32} {r : ri_R} (he84 : ∀ (x4 : Int32) (w1 : Int32) (w2 : Int32) (w3 : Int32) (w5 : Int32) , x = x4 → gRun 5 253 84 [some (.ref 153), some (.int w1), some (.int w2), some (.int w3), some (.int x4), some (.int w5)] [] (wmk s) r) : ∀ {n : Nat} {x4 : Int32} {x5 : Int32} {w1 : Int32} {w2 : Int32} , wX11_looks_h39 x3 s n x4 x5 = some x → gRun 5 253 39 [some (.ref 153), some (.int w1), some (.int w2), some (.int x3), some (.int x4), some (.int x5)] [] (wmk s) r := by
  intro n
  induction n with
  | zero => intro x4 x5 w1 w2 h; cases (show (none : Option (Int32)) = some x from h)
  | succ n ih =>
    intro x4 x5 w1 w2 h
    rw [wX11_looks_h39] at h
    refine gR_go 2 (pc1 := 42) (L1 := [some (.ref 153), some (.int w1), some (.int w2), some (.int x3), some (.int x4), some (.int x5)]) (st1 := [.ref 153, .int x5]) (fun _ _ => rfl) ?_
    obtain ⟨t13, e14, h⟩ := gb h
    refine gR_cvI (wX11_worlds_s e14) (Nat.le_of_ble_eq_true rfl) rfl rfl rfl rfl rfl ?_
    rcases gif h with ⟨c15, h⟩ | ⟨c15, h⟩
    · refine gR_ic_ge_f rfl c15 ?_
      refine gR_go 2 (pc1 := 51) (L1 := [some (.ref 153), some (.int w1), some (.int w2), some (.int x3), some (.int x4), some (.int x5)]) (st1 := [.ref 153, .int x4]) (fun _ _ => rfl) ?_
      refine gR_gfR (k := 152) (k' := 165) rfl rfl rfl rfl ?_
      refine gR_go 1 (pc1 := 56) (L1 := [some (.ref 153), some (.int w1), some (.int w2), some (.int x3), some (.int x4), some (.int x5)]) (st1 := [.int x5, .ref 166, .int x4]) (fun _ _ => rfl) ?_
      obtain ⟨t16, et16, h⟩ := gb h
      refine gR_zal (k := 165) rfl rfl rfl et16 ?_
      rcases gif h with ⟨c17, h⟩ | ⟨c17, h⟩
      · refine gR_iz_eq_j rfl c17 rfl ?_
        exact wX11_looks_u74 ih he84 h
      · refine gR_iz_eq_f rfl c17 ?_
        refine gR_go 3 (pc1 := 64) (L1 := [some (.ref 153), some (.int w1), some (.int w2), some (.int x3), some (.int x4), some (.int x5)]) (st1 := [.int x5, .int x3, .ref 153, .int x4]) (fun _ _ => rfl) ?_
        obtain ⟨t18, e19, h⟩ := gb h
        refine gR_cvI (wX11_isTrue_s e19) (Nat.le_of_ble_eq_true rfl) rfl rfl rfl rfl rfl ?_
        rcases gif h with ⟨c20, h⟩ | ⟨c20, h⟩
        · refine gR_iz_ne_f rfl c20 ?_
          refine gR_go 2 (pc1 := 75) (L1 := [some (.ref 153), some (.int w1), some (.int w2), some (.int x3), some (.int x4), some (.int x5)]) (st1 := [.int 1, .int x4]) (fun _ _ => rfl) ?_
          exact wX11_looks_u75 ih he84 h
        · refine gR_iz_ne_j rfl c20 rfl ?_
          exact wX11_looks_u74 ih he84 h
    · refine gR_ic_ge_j rfl c15 rfl ?_
      exact he84 _ _ _ _ _ (Option.some.inj h).symm
noncomputable def wX11_looks (x1 : Int32) (x2 : Int32) (x3 : Int32) (s : wS) : Option (Int32 × wS) := (wX11_canAsk x1 s).bind fun t1 => if t1 = 0 then (some ((-1), s)) else ((wX11_isMany x2 s).bind fun t4 => if t4 = 0 then (some ((-1), s)) else ((wX11_isAnswer x3 s).bind fun t7 => if t7 = 0 then (some ((-1), s)) else ((wX11_keeps x1 x2 (-1) s).bind fun (t10, s11) => (wX11_looks_h39 x3 s11 wFuel 0 0).bind fun t22 => some (t22, s11))))
theorem wX11_looks_s {x1 : Int32} {x2 : Int32} {x3 : Int32} {s : wS} {rv : Int32} {rs : wS} (h : wX11_looks x1 x2 x3 s = some (rv, rs)) : gEv 6 253 [.ref 153, .int x1, .int x2, .int x3] (wmk s) (some (.int rv), wmk rs, 0, 0) := by
  refine gEv_of (d := 5) (L := [some (.ref 153), some (.int x1), some (.int x2), some (.int x3), none, none]) rfl ?_
  unfold wX11_looks at h
  refine gR_go 2 (pc1 := 2) (L1 := [some (.ref 153), some (.int x1), some (.int x2), some (.int x3), none, none]) (st1 := [.int x1, .ref 153]) (fun _ _ => rfl) ?_
  obtain ⟨t1, e2, h⟩ := gb h
  refine gR_cvI (wX11_canAsk_s e2) (Nat.le_of_ble_eq_true rfl) rfl rfl rfl rfl rfl ?_
  rcases gif h with ⟨c3, h⟩ | ⟨c3, h⟩
  · refine gR_iz_eq_j rfl c3 rfl ?_
    refine gR_go 1 (pc1 := 24) (L1 := [some (.ref 153), some (.int x1), some (.int x2), some (.int x3), none, none]) (st1 := [.int (-1)]) (fun _ _ => rfl) ?_
    obtain ⟨rfl, rfl⟩ := gi2 h
    exact gR_ri rfl rfl
  · refine gR_iz_eq_f rfl c3 ?_
    refine gR_go 1 (pc1 := 9) (L1 := [some (.ref 153), some (.int x1), some (.int x2), some (.int x3), none, none]) (st1 := [.int x2]) (fun _ _ => rfl) ?_
    obtain ⟨t4, e5, h⟩ := gb h
    refine gR_csI (wX11_isMany_s e5) (Nat.le_of_ble_eq_true rfl) rfl rfl rfl rfl ?_
    rcases gif h with ⟨c6, h⟩ | ⟨c6, h⟩
    · refine gR_iz_eq_j rfl c6 rfl ?_
      refine gR_go 1 (pc1 := 24) (L1 := [some (.ref 153), some (.int x1), some (.int x2), some (.int x3), none, none]) (st1 := [.int (-1)]) (fun _ _ => rfl) ?_
      obtain ⟨rfl, rfl⟩ := gi2 h
      exact gR_ri rfl rfl
    · refine gR_iz_eq_f rfl c6 ?_
      refine gR_go 2 (pc1 := 17) (L1 := [some (.ref 153), some (.int x1), some (.int x2), some (.int x3), none, none]) (st1 := [.int x3, .ref 153]) (fun _ _ => rfl) ?_
      obtain ⟨t7, e8, h⟩ := gb h
      refine gR_cvI (wX11_isAnswer_s e8) (Nat.le_of_ble_eq_true rfl) rfl rfl rfl rfl rfl ?_
      rcases gif h with ⟨c9, h⟩ | ⟨c9, h⟩
      · refine gR_iz_ne_f rfl c9 ?_
        refine gR_go 1 (pc1 := 24) (L1 := [some (.ref 153), some (.int x1), some (.int x2), some (.int x3), none, none]) (st1 := [.int (-1)]) (fun _ _ => rfl) ?_
        obtain ⟨rfl, rfl⟩ := gi2 h
        exact gR_ri rfl rfl
      · refine gR_iz_ne_j rfl c9 rfl ?_
        refine gR_go 4 (pc1 := 29) (L1 := [some (.ref 153), some (.int x1), some (.int x2), some (.int x3), none, none]) (st1 := [.int (-1), .int x2, .int x1, .ref 153]) (fun _ _ => rfl) ?_
        obtain ⟨⟨t10, s11⟩, e12, h⟩ := gb h
        dsimp only at h
        refine gR_cvI (wX11_keeps_s e12) (Nat.le_of_ble_eq_true rfl) rfl rfl rfl rfl rfl ?_
        refine gR_go 5 (pc1 := 39) (L1 := [some (.ref 153), some (.int x1), some (.int x2), some (.int x3), some (.int 0), some (.int 0)]) (st1 := []) (fun _ _ => rfl) ?_
        obtain ⟨z21, ez21, h⟩ := gb h
        refine wX11_looks_t39 ?_  ez21
        · intro t22 w23 w24 w25 w26 hz
          replace hz := hz.symm
          subst hz
          refine gR_go 1 (pc1 := 86) (L1 := [some (.ref 153), some (.int w23), some (.int w24), some (.int w25), some (.int t22), some (.int w26)]) (st1 := [.int t22]) (fun _ _ => rfl) ?_
          obtain ⟨rfl, rfl⟩ := gi2 h
          exact gR_ri rfl rfl
