section
/-! The methods as functions of the state, each with the proof that the interpreter runs so. -/
noncomputable def wX11_sure_h37 (x3 : Int32) (x4 : Int32) (s : wS) : Nat → Int32 → Option ((Unit) ⊕ (Int32))
  | 0, _ => none
  | n + 1, x5 => (wldI s 163 262 x3).bind fun t13 => if x5 < t13 then (if 0 < x4 then ((wX11_keptWith x3 x5 s).bind fun t16 => if t16 = x4 then (some (.inr x5)) else (wX11_sure_h37 x3 x4 s n (x5 + 1))) else (some (.inl ()))) else (some (.inl ()))
theorem wX11_sure_t37 {x3 : Int32} {x4 : Int32} {s : wS} {x : (Unit) ⊕ (Int32)} {r : ri_R} (he74 : ∀ (w1 : Int32) (w2 : Int32) (w3 : Int32) (w4 : Int32) (w5 : Int32) , x = .inl () → gRun 5 254 74 [some (.ref 153), some (.int w1), some (.int w2), some (.int w3), some (.int w4), some (.int w5)] [] (wmk s) r) (he65 : ∀ (x5 : Int32) (w1 : Int32) (w2 : Int32) (w3 : Int32) (w4 : Int32) , x = .inr x5 → gRun 5 254 65 [some (.ref 153), some (.int w1), some (.int w2), some (.int w3), some (.int w4), some (.int x5)] [] (wmk s) r) : ∀ {n : Nat} {x5 : Int32} {w1 : Int32} {w2 : Int32} , wX11_sure_h37 x3 x4 s n x5 = some x → gRun 5 254 37 [some (.ref 153), some (.int w1), some (.int w2), some (.int x3), some (.int x4), some (.int x5)] [] (wmk s) r := by
  intro n
  induction n with
  | zero => intro x5 w1 w2 h; cases (show (none : Option ((Unit) ⊕ (Int32))) = some x from h)
  | succ n ih =>
    intro x5 w1 w2 h
    rw [wX11_sure_h37] at h
    refine gR_go 2 (pc1 := 40) (L1 := [some (.ref 153), some (.int w1), some (.int w2), some (.int x3), some (.int x4), some (.int x5)]) (st1 := [.ref 153, .int x5]) (fun _ _ => rfl) ?_
    refine gR_gfR (k := 152) (k' := 163) rfl rfl rfl rfl ?_
    refine gR_go 1 (pc1 := 44) (L1 := [some (.ref 153), some (.int w1), some (.int w2), some (.int x3), some (.int x4), some (.int x5)]) (st1 := [.int x3, .ref 164, .int x5]) (fun _ _ => rfl) ?_
    obtain ⟨t13, et13, h⟩ := gb h
    refine gR_ial (k := 163) rfl rfl rfl et13 ?_
    rcases gif h with ⟨c14, h⟩ | ⟨c14, h⟩
    · refine gR_ic_ge_f rfl c14 ?_
      refine gR_go 1 (pc1 := 50) (L1 := [some (.ref 153), some (.int w1), some (.int w2), some (.int x3), some (.int x4), some (.int x5)]) (st1 := [.int x4]) (fun _ _ => rfl) ?_
      rcases gif h with ⟨c15, h⟩ | ⟨c15, h⟩
      · refine gR_iz_le_f rfl c15 ?_
        refine gR_go 3 (pc1 := 57) (L1 := [some (.ref 153), some (.int w1), some (.int w2), some (.int x3), some (.int x4), some (.int x5)]) (st1 := [.int x5, .int x3, .ref 153]) (fun _ _ => rfl) ?_
        obtain ⟨t16, e17, h⟩ := gb h
        refine gR_cvI (wX11_keptWith_s e17) (Nat.le_of_ble_eq_true rfl) rfl rfl rfl rfl rfl ?_
        refine gR_go 1 (pc1 := 62) (L1 := [some (.ref 153), some (.int w1), some (.int w2), some (.int x3), some (.int x4), some (.int x5)]) (st1 := [.int x4, .int t16]) (fun _ _ => rfl) ?_
        rcases gif h with ⟨c18, h⟩ | ⟨c18, h⟩
        · refine gR_ic_ne_f rfl c18 ?_
          exact he65 _ _ _ _ _ (Option.some.inj h).symm
        · refine gR_ic_ne_j rfl c18 rfl ?_
          refine gR_go 2 (pc1 := 37) (L1 := [some (.ref 153), some (.int w1), some (.int w2), some (.int x3), some (.int x4), some (.int (x5 + 1))]) (st1 := []) (fun _ _ => rfl) ?_
          exact ih h
      · refine gR_iz_le_j rfl c15 rfl ?_
        exact he74 _ _ _ _ _ (Option.some.inj h).symm
    · refine gR_ic_ge_j rfl c14 rfl ?_
      exact he74 _ _ _ _ _ (Option.some.inj h).symm
noncomputable def wX11_sure (x1 : Int32) (x2 : Int32) (x3 : Int32) (s : wS) : Option (Int32 × wS) := (wX11_canAsk x1 s).bind fun t1 => if t1 = 0 then (some ((-1), s)) else ((wX11_isMany x2 s).bind fun t4 => if t4 = 0 then (some ((-1), s)) else ((wX11_isKind x3 s).bind fun t7 => if t7 = 0 then (some ((-1), s)) else ((wX11_keeps x1 x2 (-1) s).bind fun (t10, s11) => (wX11_sure_h37 x3 t10 s11 wFuel 0).bind fun z19 => (match z19 with | .inl () => some (((Int8.ofInt (-2)).toInt32), s11) | .inr t25 => some (t25, s11)))))
theorem wX11_sure_s {x1 : Int32} {x2 : Int32} {x3 : Int32} {s : wS} {rv : Int32} {rs : wS} (h : wX11_sure x1 x2 x3 s = some (rv, rs)) : gEv 6 254 [.ref 153, .int x1, .int x2, .int x3] (wmk s) (some (.int rv), wmk rs, 0, 0) := by
  refine gEv_of (d := 5) (L := [some (.ref 153), some (.int x1), some (.int x2), some (.int x3), none, none]) rfl ?_
  unfold wX11_sure at h
  refine gR_go 2 (pc1 := 2) (L1 := [some (.ref 153), some (.int x1), some (.int x2), some (.int x3), none, none]) (st1 := [.int x1, .ref 153]) (fun _ _ => rfl) ?_
  obtain ⟨t1, e2, h⟩ := gb h
  refine gR_cvI (wX11_canAsk_s e2) (Nat.le_of_ble_eq_true rfl) rfl rfl rfl rfl rfl ?_
  rcases gif h with ⟨c3, h⟩ | ⟨c3, h⟩
  · refine gR_iz_eq_j rfl c3 rfl ?_
    refine gR_go 1 (pc1 := 24) (L1 := [some (.ref 153), some (.int x1), some (.int x2), some (.int x3), none, none]) (st1 := [.int (-1)]) (fun _ _ => rfl) ?_
    obtain ⟨rfl, rfl⟩ := gi2 h
    exact gR_ri rfl rfl
  · refine gR_iz_eq_f rfl c3 ?_
    refine gR_go 1 (pc1 := 9) (L1 := [some (.ref 153), some (.int x1), some (.int x2), some (.int x3), none, none]) (st1 := [.int x2]) (fun _ _ => rfl) ?_
    obtain ⟨t4, e5, h⟩ := gb h
    refine gR_csI (wX11_isMany_s e5) (Nat.le_of_ble_eq_true rfl) rfl rfl rfl rfl ?_
    rcases gif h with ⟨c6, h⟩ | ⟨c6, h⟩
    · refine gR_iz_eq_j rfl c6 rfl ?_
      refine gR_go 1 (pc1 := 24) (L1 := [some (.ref 153), some (.int x1), some (.int x2), some (.int x3), none, none]) (st1 := [.int (-1)]) (fun _ _ => rfl) ?_
      obtain ⟨rfl, rfl⟩ := gi2 h
      exact gR_ri rfl rfl
    · refine gR_iz_eq_f rfl c6 ?_
      refine gR_go 2 (pc1 := 17) (L1 := [some (.ref 153), some (.int x1), some (.int x2), some (.int x3), none, none]) (st1 := [.int x3, .ref 153]) (fun _ _ => rfl) ?_
      obtain ⟨t7, e8, h⟩ := gb h
      refine gR_cvI (wX11_isKind_s e8) (Nat.le_of_ble_eq_true rfl) rfl rfl rfl rfl rfl ?_
      rcases gif h with ⟨c9, h⟩ | ⟨c9, h⟩
      · refine gR_iz_ne_f rfl c9 ?_
        refine gR_go 1 (pc1 := 24) (L1 := [some (.ref 153), some (.int x1), some (.int x2), some (.int x3), none, none]) (st1 := [.int (-1)]) (fun _ _ => rfl) ?_
        obtain ⟨rfl, rfl⟩ := gi2 h
        exact gR_ri rfl rfl
      · refine gR_iz_ne_j rfl c9 rfl ?_
        refine gR_go 4 (pc1 := 29) (L1 := [some (.ref 153), some (.int x1), some (.int x2), some (.int x3), none, none]) (st1 := [.int (-1), .int x2, .int x1, .ref 153]) (fun _ _ => rfl) ?_
        obtain ⟨⟨t10, s11⟩, e12, h⟩ := gb h
        dsimp only at h
        refine gR_cvI (wX11_keeps_s e12) (Nat.le_of_ble_eq_true rfl) rfl rfl rfl rfl rfl ?_
        refine gR_go 3 (pc1 := 37) (L1 := [some (.ref 153), some (.int x1), some (.int x2), some (.int x3), some (.int t10), some (.int 0)]) (st1 := []) (fun _ _ => rfl) ?_
        obtain ⟨z19, ez19, h⟩ := gb h
        refine wX11_sure_t37 ?_ ?_  ez19
        · intro w20 w21 w22 w23 w24 hz
          replace hz := hz.symm
          subst hz
          dsimp only at h
          refine gR_go 1 (pc1 := 76) (L1 := [some (.ref 153), some (.int w20), some (.int w21), some (.int w22), some (.int w23), some (.int w24)]) (st1 := [.int ((Int8.ofInt (-2)).toInt32)]) (fun _ _ => rfl) ?_
          obtain ⟨rfl, rfl⟩ := gi2 h
          exact gR_ri rfl rfl
        · intro t25 w26 w27 w28 w29 hz
          replace hz := hz.symm
          subst hz
          dsimp only at h
          refine gR_go 1 (pc1 := 67) (L1 := [some (.ref 153), some (.int w26), some (.int w27), some (.int w28), some (.int w29), some (.int t25)]) (st1 := [.int t25]) (fun _ _ => rfl) ?_
          obtain ⟨rfl, rfl⟩ := gi2 h
          exact gR_ri rfl rfl
noncomputable def wX11_alone_j94 (qq : Int32 → Int32 → Option (Int32)) (x2 : Int32) (x3 : Int32) (x4 : Int32) (x6 : Int32) (y0 : Int32) (s : wS) : Option (Int32) := qq y0 (x6 + 1)
theorem wX11_alone_u94 {x2 : Int32} {x3 : Int32} {x4 : Int32} {x6 : Int32} {y0 : Int32} {s : wS} {w1 : Int32} {w5 : Int32} {qq : Int32 → Int32 → Option (Int32)} {x : Int32} {r : ri_R} (ih : ∀ {x5 : Int32} {x6 : Int32} {w1 : Int32} , qq x5 x6 = some x → gRun 4 255 42 [some (.ref 153), some (.int w1), some (.int x2), some (.int x3), some (.int x4), some (.int x5), some (.int x6)] [] (wmk s) r) (he102 : ∀ (x5 : Int32) (w1 : Int32) (w6 : Int32) , x = x5 → gRun 4 255 102 [some (.ref 153), some (.int w1), some (.int x2), some (.int x3), some (.int x4), some (.int x5), some (.int w6)] [] (wmk s) r) (h : wX11_alone_j94 qq x2 x3 x4 x6 y0 s = some x) : gRun 4 255 94 [some (.ref 153), some (.int w1), some (.int x2), some (.int x3), some (.int x4), some (.int w5), some (.int x6)] [.int y0] (wmk s) r := by
  unfold wX11_alone_j94 at h
  refine gR_go 3 (pc1 := 42) (L1 := [some (.ref 153), some (.int w1), some (.int x2), some (.int x3), some (.int x4), some (.int y0), some (.int (x6 + 1))]) (st1 := []) (fun _ _ => rfl) ?_
  exact ih h
noncomputable def wX11_alone_j89 (qq : Int32 → Int32 → Option (Int32)) (x2 : Int32) (x3 : Int32) (x4 : Int32) (x6 : Int32) (s : wS) : Option (Int32) := wX11_alone_j94 qq x2 x3 x4 x6 1 s
theorem wX11_alone_u89 {x2 : Int32} {x3 : Int32} {x4 : Int32} {x6 : Int32} {s : wS} {w1 : Int32} {w5 : Int32} {qq : Int32 → Int32 → Option (Int32)} {x : Int32} {r : ri_R} (ih : ∀ {x5 : Int32} {x6 : Int32} {w1 : Int32} , qq x5 x6 = some x → gRun 4 255 42 [some (.ref 153), some (.int w1), some (.int x2), some (.int x3), some (.int x4), some (.int x5), some (.int x6)] [] (wmk s) r) (he102 : ∀ (x5 : Int32) (w1 : Int32) (w6 : Int32) , x = x5 → gRun 4 255 102 [some (.ref 153), some (.int w1), some (.int x2), some (.int x3), some (.int x4), some (.int x5), some (.int w6)] [] (wmk s) r) (h : wX11_alone_j89 qq x2 x3 x4 x6 s = some x) : gRun 4 255 89 [some (.ref 153), some (.int w1), some (.int x2), some (.int x3), some (.int x4), some (.int w5), some (.int x6)] [] (wmk s) r := by
  unfold wX11_alone_j89 at h
  refine gR_go 2 (pc1 := 94) (L1 := [some (.ref 153), some (.int w1), some (.int x2), some (.int x3), some (.int x4), some (.int w5), some (.int x6)]) (st1 := [.int 1]) (fun _ _ => rfl) ?_
  exact wX11_alone_u94 ih he102 h
noncomputable def wX11_alone_h42 (x2 : Int32) (x3 : Int32) (x4 : Int32) (s : wS) : Nat → Int32 → Int32 → Option (Int32)
  | 0, _, _ => none
  | n + 1, x5, x6 => if x6 < (s.1 163 3) then (if x5 = 0 then (some x5) else ((wX11_answerOf x6 0 s).bind fun t16 => if t16 = x2 then ((wX11_isLookedAt x6 s).bind fun t19 => if t19 = 0 then (wX11_alone_j89 (wX11_alone_h42 x2 x3 x4 s n) x2 x3 x4 x6 s) else ((wX11_isTrue x6 x4 s).bind fun t22 => if t22 = 0 then (wX11_alone_j94 (wX11_alone_h42 x2 x3 x4 s n) x2 x3 x4 x6 0 s) else (wX11_alone_j89 (wX11_alone_h42 x2 x3 x4 s n) x2 x3 x4 x6 s))) else (wX11_alone_j89 (wX11_alone_h42 x2 x3 x4 s n) x2 x3 x4 x6 s))) else (some x5)
theorem wX11_alone_t42 {x2 : Int32} {x3 : Int32} {x4 : Int32} {s : wS} {x : Int32} {r : ri_R} (he102 : ∀ (x5 : Int32) (w1 : Int32) (w6 : Int32) , x = x5 → gRun 4 255 102 [some (.ref 153), some (.int w1), some (.int x2), some (.int x3), some (.int x4), some (.int x5), some (.int w6)] [] (wmk s) r) : ∀ {n : Nat} {x5 : Int32} {x6 : Int32} {w1 : Int32} , wX11_alone_h42 x2 x3 x4 s n x5 x6 = some x → gRun 4 255 42 [some (.ref 153), some (.int w1), some (.int x2), some (.int x3), some (.int x4), some (.int x5), some (.int x6)] [] (wmk s) r := by
  intro n
  induction n with
  | zero => intro x5 x6 w1 h; cases (show (none : Option (Int32)) = some x from h)
  | succ n ih =>
    intro x5 x6 w1 h
    rw [wX11_alone_h42] at h
    refine gR_go 2 (pc1 := 45) (L1 := [some (.ref 153), some (.int w1), some (.int x2), some (.int x3), some (.int x4), some (.int x5), some (.int x6)]) (st1 := [.ref 153, .int x6]) (fun _ _ => rfl) ?_
    refine gR_gfR (k := 152) (k' := 163) rfl rfl rfl rfl ?_
    refine gR_go 1 (pc1 := 49) (L1 := [some (.ref 153), some (.int w1), some (.int x2), some (.int x3), some (.int x4), some (.int x5), some (.int x6)]) (st1 := [.int 3, .ref 164, .int x6]) (fun _ _ => rfl) ?_
    refine gR_ialc (k := 163) (j := 3) rfl rfl rfl (by decide) rfl ?_
    rcases gif h with ⟨c14, h⟩ | ⟨c14, h⟩
    · refine gR_ic_ge_f rfl c14 ?_
      refine gR_go 1 (pc1 := 55) (L1 := [some (.ref 153), some (.int w1), some (.int x2), some (.int x3), some (.int x4), some (.int x5), some (.int x6)]) (st1 := [.int x5]) (fun _ _ => rfl) ?_
      rcases gif h with ⟨c15, h⟩ | ⟨c15, h⟩
      · refine gR_iz_eq_j rfl c15 rfl ?_
        exact he102 _ _ _ (Option.some.inj h).symm
      · refine gR_iz_eq_f rfl c15 ?_
        refine gR_go 3 (pc1 := 62) (L1 := [some (.ref 153), some (.int w1), some (.int x2), some (.int x3), some (.int x4), some (.int x5), some (.int x6)]) (st1 := [.int 0, .int x6, .ref 153]) (fun _ _ => rfl) ?_
        obtain ⟨t16, e17, h⟩ := gb h
        refine gR_cvI (wX11_answerOf_s e17) (Nat.le_of_ble_eq_true rfl) rfl rfl rfl rfl rfl ?_
        refine gR_go 1 (pc1 := 66) (L1 := [some (.ref 153), some (.int w1), some (.int x2), some (.int x3), some (.int x4), some (.int x5), some (.int x6)]) (st1 := [.int x2, .int t16]) (fun _ _ => rfl) ?_
        rcases gif h with ⟨c18, h⟩ | ⟨c18, h⟩
        · refine gR_ic_ne_f rfl c18 ?_
          refine gR_go 2 (pc1 := 72) (L1 := [some (.ref 153), some (.int w1), some (.int x2), some (.int x3), some (.int x4), some (.int x5), some (.int x6)]) (st1 := [.int x6, .ref 153]) (fun _ _ => rfl) ?_
          obtain ⟨t19, e20, h⟩ := gb h
          refine gR_cvI (wX11_isLookedAt_s e20) (Nat.le_of_ble_eq_true rfl) rfl rfl rfl rfl rfl ?_
          rcases gif h with ⟨c21, h⟩ | ⟨c21, h⟩
          · refine gR_iz_eq_j rfl c21 rfl ?_
            exact wX11_alone_u89 ih he102 h
          · refine gR_iz_eq_f rfl c21 ?_
            refine gR_go 3 (pc1 := 83) (L1 := [some (.ref 153), some (.int w1), some (.int x2), some (.int x3), some (.int x4), some (.int x5), some (.int x6)]) (st1 := [.int x4, .int x6, .ref 153]) (fun _ _ => rfl) ?_
            obtain ⟨t22, e23, h⟩ := gb h
            refine gR_cvI (wX11_isTrue_s e23) (Nat.le_of_ble_eq_true rfl) rfl rfl rfl rfl rfl ?_
            rcases gif h with ⟨c24, h⟩ | ⟨c24, h⟩
            · refine gR_iz_eq_j rfl c24 rfl ?_
              refine gR_go 1 (pc1 := 94) (L1 := [some (.ref 153), some (.int w1), some (.int x2), some (.int x3), some (.int x4), some (.int x5), some (.int x6)]) (st1 := [.int 0]) (fun _ _ => rfl) ?_
              exact wX11_alone_u94 ih he102 h
            · refine gR_iz_eq_f rfl c24 ?_
              exact wX11_alone_u89 ih he102 h
        · refine gR_ic_ne_j rfl c18 rfl ?_
          exact wX11_alone_u89 ih he102 h
    · refine gR_ic_ge_j rfl c14 rfl ?_
      exact he102 _ _ _ (Option.some.inj h).symm
noncomputable def wX11_alone_j113 (qq : Int32 → Int32 → Option (Int32)) (x2 : Int32) (x4 : Int32) (y0 : Int32) (y1 : Int32) (s : wS) : Option (Int32) := qq (y0 + y1) (x4 + 1)
theorem wX11_alone_u113 {x2 : Int32} {x4 : Int32} {y0 : Int32} {y1 : Int32} {s : wS} {w1 : Int32} {w3 : Int32} {w5 : Int32} {w6 : Int32} {qq : Int32 → Int32 → Option (Int32)} {x : Int32} {r : ri_R} (ih : ∀ {x3 : Int32} {x4 : Int32} {w1 : Int32} {w5 : Option Value} {w6 : Option Value} , qq x3 x4 = some x → gRun 4 255 27 [some (.ref 153), some (.int w1), some (.int x2), some (.int x3), some (.int x4), w5, w6] [] (wmk s) r) (he121 : ∀ (x3 : Int32) (w1 : Int32) (w2 : Int32) (w4 : Int32) (w5 : Option Value) (w6 : Option Value) , x = x3 → gRun 4 255 121 [some (.ref 153), some (.int w1), some (.int w2), some (.int x3), some (.int w4), w5, w6] [] (wmk s) r) (h : wX11_alone_j113 qq x2 x4 y0 y1 s = some x) : gRun 4 255 113 [some (.ref 153), some (.int w1), some (.int x2), some (.int w3), some (.int x4), some (.int w5), some (.int w6)] [.int y1, .int y0] (wmk s) r := by
  unfold wX11_alone_j113 at h
  refine gR_go 4 (pc1 := 27) (L1 := [some (.ref 153), some (.int w1), some (.int x2), some (.int (y0 + y1)), some (.int (x4 + 1)), some (.int w5), some (.int w6)]) (st1 := []) (fun _ _ => rfl) ?_
  exact ih h
noncomputable def wX11_alone_j102 (qq : Int32 → Int32 → Option (Int32)) (x2 : Int32) (x3 : Int32) (x4 : Int32) (x5 : Int32) (s : wS) : Option (Int32) := if x5 = 0 then (wX11_alone_j113 qq x2 x4 x3 0 s) else (wX11_alone_j113 qq x2 x4 x3 1 s)
theorem wX11_alone_u102 {x2 : Int32} {x3 : Int32} {x4 : Int32} {x5 : Int32} {s : wS} {w1 : Int32} {w6 : Int32} {qq : Int32 → Int32 → Option (Int32)} {x : Int32} {r : ri_R} (ih : ∀ {x3 : Int32} {x4 : Int32} {w1 : Int32} {w5 : Option Value} {w6 : Option Value} , qq x3 x4 = some x → gRun 4 255 27 [some (.ref 153), some (.int w1), some (.int x2), some (.int x3), some (.int x4), w5, w6] [] (wmk s) r) (he121 : ∀ (x3 : Int32) (w1 : Int32) (w2 : Int32) (w4 : Int32) (w5 : Option Value) (w6 : Option Value) , x = x3 → gRun 4 255 121 [some (.ref 153), some (.int w1), some (.int w2), some (.int x3), some (.int w4), w5, w6] [] (wmk s) r) (h : wX11_alone_j102 qq x2 x3 x4 x5 s = some x) : gRun 4 255 102 [some (.ref 153), some (.int w1), some (.int x2), some (.int x3), some (.int x4), some (.int x5), some (.int w6)] [] (wmk s) r := by
  unfold wX11_alone_j102 at h
  refine gR_go 2 (pc1 := 105) (L1 := [some (.ref 153), some (.int w1), some (.int x2), some (.int x3), some (.int x4), some (.int x5), some (.int w6)]) (st1 := [.int x5, .int x3]) (fun _ _ => rfl) ?_
  rcases gif h with ⟨c29, h⟩ | ⟨c29, h⟩
  · refine gR_iz_eq_j rfl c29 rfl ?_
    refine gR_go 1 (pc1 := 113) (L1 := [some (.ref 153), some (.int w1), some (.int x2), some (.int x3), some (.int x4), some (.int x5), some (.int w6)]) (st1 := [.int 0, .int x3]) (fun _ _ => rfl) ?_
    exact wX11_alone_u113 ih he121 h
  · refine gR_iz_eq_f rfl c29 ?_
    refine gR_go 2 (pc1 := 113) (L1 := [some (.ref 153), some (.int w1), some (.int x2), some (.int x3), some (.int x4), some (.int x5), some (.int w6)]) (st1 := [.int 1, .int x3]) (fun _ _ => rfl) ?_
    exact wX11_alone_u113 ih he121 h
noncomputable def wX11_alone_h27 (x2 : Int32) (s : wS) : Nat → Int32 → Int32 → Option (Int32)
  | 0, _, _ => none
  | n + 1, x3, x4 => (wX11_worlds s).bind fun t10 => if x4 < t10 then ((wX11_alone_h42 x2 x3 x4 s wFuel 1 0).bind fun t26 => wX11_alone_j102 (wX11_alone_h27 x2 s n) x2 x3 x4 t26 s) else (some x3)
theorem wX11_alone_t27 {x2 : Int32} {s : wS} {x : Int32} {r : ri_R} (he121 : ∀ (x3 : Int32) (w1 : Int32) (w2 : Int32) (w4 : Int32) (w5 : Option Value) (w6 : Option Value) , x = x3 → gRun 4 255 121 [some (.ref 153), some (.int w1), some (.int w2), some (.int x3), some (.int w4), w5, w6] [] (wmk s) r) : ∀ {n : Nat} {x3 : Int32} {x4 : Int32} {w1 : Int32} {w5 : Option Value} {w6 : Option Value} , wX11_alone_h27 x2 s n x3 x4 = some x → gRun 4 255 27 [some (.ref 153), some (.int w1), some (.int x2), some (.int x3), some (.int x4), w5, w6] [] (wmk s) r := by
  intro n
  induction n with
  | zero => intro x3 x4 w1 w5 w6 h; cases (show (none : Option (Int32)) = some x from h)
  | succ n ih =>
    intro x3 x4 w1 w5 w6 h
    rw [wX11_alone_h27] at h
    refine gR_go 2 (pc1 := 30) (L1 := [some (.ref 153), some (.int w1), some (.int x2), some (.int x3), some (.int x4), w5, w6]) (st1 := [.ref 153, .int x4]) (fun _ _ => rfl) ?_
    obtain ⟨t10, e11, h⟩ := gb h
    refine gR_cvI (wX11_worlds_s e11) (Nat.le_of_ble_eq_true rfl) rfl rfl rfl rfl rfl ?_
    rcases gif h with ⟨c12, h⟩ | ⟨c12, h⟩
    · refine gR_ic_ge_f rfl c12 ?_
      refine gR_go 4 (pc1 := 42) (L1 := [some (.ref 153), some (.int w1), some (.int x2), some (.int x3), some (.int x4), some (.int 1), some (.int 0)]) (st1 := []) (fun _ _ => rfl) ?_
      obtain ⟨z25, ez25, h⟩ := gb h
      refine wX11_alone_t42 ?_  ez25
      · intro t26 w27 w28 hz
        replace hz := hz.symm
        subst hz
        exact wX11_alone_u102 ih he121 h
    · refine gR_ic_ge_j rfl c12 rfl ?_
      exact he121 _ _ _ _ _ _ (Option.some.inj h).symm
noncomputable def wX11_alone (x1 : Int32) (x2 : Int32) (s : wS) : Option (Int32 × wS) := (wX11_canAsk x1 s).bind fun t1 => if t1 = 0 then (some ((-1), s)) else ((wX11_isWitness x2 s).bind fun t4 => if t4 = 0 then (some ((-1), s)) else ((wX11_reaches x1 s).bind fun s8 => (wX11_alone_h27 x2 s8 wFuel 0 0).bind fun t31 => some (t31, s8)))
theorem wX11_alone_s {x1 : Int32} {x2 : Int32} {s : wS} {rv : Int32} {rs : wS} (h : wX11_alone x1 x2 s = some (rv, rs)) : gEv 5 255 [.ref 153, .int x1, .int x2] (wmk s) (some (.int rv), wmk rs, 0, 0) := by
  refine gEv_of (d := 4) (L := [some (.ref 153), some (.int x1), some (.int x2), none, none, none, none]) rfl ?_
  unfold wX11_alone at h
  refine gR_go 2 (pc1 := 2) (L1 := [some (.ref 153), some (.int x1), some (.int x2), none, none, none, none]) (st1 := [.int x1, .ref 153]) (fun _ _ => rfl) ?_
  obtain ⟨t1, e2, h⟩ := gb h
  refine gR_cvI (wX11_canAsk_s e2) (Nat.le_of_ble_eq_true rfl) rfl rfl rfl rfl rfl ?_
  rcases gif h with ⟨c3, h⟩ | ⟨c3, h⟩
  · refine gR_iz_eq_j rfl c3 rfl ?_
    refine gR_go 1 (pc1 := 16) (L1 := [some (.ref 153), some (.int x1), some (.int x2), none, none, none, none]) (st1 := [.int (-1)]) (fun _ _ => rfl) ?_
    obtain ⟨rfl, rfl⟩ := gi2 h
    exact gR_ri rfl rfl
  · refine gR_iz_eq_f rfl c3 ?_
    refine gR_go 1 (pc1 := 9) (L1 := [some (.ref 153), some (.int x1), some (.int x2), none, none, none, none]) (st1 := [.int x2]) (fun _ _ => rfl) ?_
    obtain ⟨t4, e5, h⟩ := gb h
    refine gR_csI (wX11_isWitness_s e5) (Nat.le_of_ble_eq_true rfl) rfl rfl rfl rfl ?_
    rcases gif h with ⟨c6, h⟩ | ⟨c6, h⟩
    · refine gR_iz_ne_f rfl c6 ?_
      refine gR_go 1 (pc1 := 16) (L1 := [some (.ref 153), some (.int x1), some (.int x2), none, none, none, none]) (st1 := [.int (-1)]) (fun _ _ => rfl) ?_
      obtain ⟨rfl, rfl⟩ := gi2 h
      exact gR_ri rfl rfl
    · refine gR_iz_ne_j rfl c6 rfl ?_
      refine gR_go 2 (pc1 := 19) (L1 := [some (.ref 153), some (.int x1), some (.int x2), none, none, none, none]) (st1 := [.int x1, .ref 153]) (fun _ _ => rfl) ?_
      obtain ⟨s8, e9, h⟩ := gb h
      refine gR_cvV (wX11_reaches_s e9) (Nat.le_of_ble_eq_true rfl) rfl rfl rfl rfl rfl ?_
      refine gR_go 4 (pc1 := 27) (L1 := [some (.ref 153), some (.int x1), some (.int x2), some (.int 0), some (.int 0), none, none]) (st1 := []) (fun _ _ => rfl) ?_
      obtain ⟨z30, ez30, h⟩ := gb h
      refine wX11_alone_t27 ?_  ez30
      · intro t31 w32 w33 w34 w35 w36 hz
        replace hz := hz.symm
        subst hz
        refine gR_go 1 (pc1 := 122) (L1 := [some (.ref 153), some (.int w32), some (.int w33), some (.int t31), some (.int w34), w35, w36]) (st1 := [.int t31]) (fun _ _ => rfl) ?_
        obtain ⟨rfl, rfl⟩ := gi2 h
        exact gR_ri rfl rfl
noncomputable def wX11_mean_j86 (qq : Int32 → Int32 → Option (Int32)) (x3 : Int32) (x4 : Int32) (x6 : Int32) (y0 : Int32) (y1 : Int32) (s : wS) : Option (Int32) := qq (y0 + y1) (x6 + 1)
theorem wX11_mean_u86 {x3 : Int32} {x4 : Int32} {x6 : Int32} {y0 : Int32} {y1 : Int32} {s : wS} {w1 : Int32} {w2 : Int32} {w5 : Int32} {qq : Int32 → Int32 → Option (Int32)} {x : Int32} {r : ri_R} (ih : ∀ {x5 : Int32} {x6 : Int32} {w1 : Int32} {w2 : Int32} , qq x5 x6 = some x → gRun 5 256 42 [some (.ref 153), some (.int w1), some (.int w2), some (.int x3), some (.int x4), some (.int x5), some (.int x6)] [] (wmk s) r) (he95 : ∀ (x5 : Int32) (w1 : Int32) (w2 : Int32) (w3 : Int32) (w6 : Int32) , x = x5 → gRun 5 256 95 [some (.ref 153), some (.int w1), some (.int w2), some (.int w3), some (.int x4), some (.int x5), some (.int w6)] [] (wmk s) r) (h : wX11_mean_j86 qq x3 x4 x6 y0 y1 s = some x) : gRun 5 256 86 [some (.ref 153), some (.int w1), some (.int w2), some (.int x3), some (.int x4), some (.int w5), some (.int x6)] [.int y1, .int y0] (wmk s) r := by
  unfold wX11_mean_j86 at h
  refine gR_go 4 (pc1 := 42) (L1 := [some (.ref 153), some (.int w1), some (.int w2), some (.int x3), some (.int x4), some (.int (y0 + y1)), some (.int (x6 + 1))]) (st1 := []) (fun _ _ => rfl) ?_
  exact ih h
noncomputable def wX11_mean_h42 (x3 : Int32) (x4 : Int32) (s : wS) : Nat → Int32 → Int32 → Option (Int32)
  | 0, _, _ => none
  | n + 1, x5, x6 => (wX11_worlds s).bind fun t13 => if x6 < t13 then ((wldI s 165 512 x6).bind fun t16 => if t16 = 0 then (wX11_mean_j86 (wX11_mean_h42 x3 x4 s n) x3 x4 x6 x5 0 s) else ((wX11_thingOf x6 1 s).bind fun t18 => (wldI s 163 262 ((10 + (2 * t18)) + x3)).bind fun t20 => wX11_mean_j86 (wX11_mean_h42 x3 x4 s n) x3 x4 x6 x5 t20 s)) else (some x5)
theorem wX11_mean_t42 {x3 : Int32} {x4 : Int32} {s : wS} {x : Int32} {r : ri_R} (he95 : ∀ (x5 : Int32) (w1 : Int32) (w2 : Int32) (w3 : Int32) (w6 : Int32) , x = x5 → gRun 5 256 95 [some (.ref 153), some (.int w1), some (.int w2), some (.int w3), some (.int x4), some (.int x5), some (.int w6)] [] (wmk s) r) : ∀ {n : Nat} {x5 : Int32} {x6 : Int32} {w1 : Int32} {w2 : Int32} , wX11_mean_h42 x3 x4 s n x5 x6 = some x → gRun 5 256 42 [some (.ref 153), some (.int w1), some (.int w2), some (.int x3), some (.int x4), some (.int x5), some (.int x6)] [] (wmk s) r := by
  intro n
  induction n with
  | zero => intro x5 x6 w1 w2 h; cases (show (none : Option (Int32)) = some x from h)
  | succ n ih =>
    intro x5 x6 w1 w2 h
    rw [wX11_mean_h42] at h
    refine gR_go 2 (pc1 := 45) (L1 := [some (.ref 153), some (.int w1), some (.int w2), some (.int x3), some (.int x4), some (.int x5), some (.int x6)]) (st1 := [.ref 153, .int x6]) (fun _ _ => rfl) ?_
    obtain ⟨t13, e14, h⟩ := gb h
    refine gR_cvI (wX11_worlds_s e14) (Nat.le_of_ble_eq_true rfl) rfl rfl rfl rfl rfl ?_
    rcases gif h with ⟨c15, h⟩ | ⟨c15, h⟩
    · refine gR_ic_ge_f rfl c15 ?_
      refine gR_go 2 (pc1 := 54) (L1 := [some (.ref 153), some (.int w1), some (.int w2), some (.int x3), some (.int x4), some (.int x5), some (.int x6)]) (st1 := [.ref 153, .int x5]) (fun _ _ => rfl) ?_
      refine gR_gfR (k := 152) (k' := 165) rfl rfl rfl rfl ?_
      refine gR_go 1 (pc1 := 59) (L1 := [some (.ref 153), some (.int w1), some (.int w2), some (.int x3), some (.int x4), some (.int x5), some (.int x6)]) (st1 := [.int x6, .ref 166, .int x5]) (fun _ _ => rfl) ?_
      obtain ⟨t16, et16, h⟩ := gb h
      refine gR_zal (k := 165) rfl rfl rfl et16 ?_
      rcases gif h with ⟨c17, h⟩ | ⟨c17, h⟩
      · refine gR_iz_eq_j rfl c17 rfl ?_
        refine gR_go 1 (pc1 := 86) (L1 := [some (.ref 153), some (.int w1), some (.int w2), some (.int x3), some (.int x4), some (.int x5), some (.int x6)]) (st1 := [.int 0, .int x5]) (fun _ _ => rfl) ?_
        exact wX11_mean_u86 ih he95 h
      · refine gR_iz_eq_f rfl c17 ?_
        refine gR_go 1 (pc1 := 64) (L1 := [some (.ref 153), some (.int w1), some (.int w2), some (.int x3), some (.int x4), some (.int x5), some (.int x6)]) (st1 := [.ref 153, .int x5]) (fun _ _ => rfl) ?_
        refine gR_gfR (k := 152) (k' := 163) rfl rfl rfl rfl ?_
        refine gR_go 5 (pc1 := 74) (L1 := [some (.ref 153), some (.int w1), some (.int w2), some (.int x3), some (.int x4), some (.int x5), some (.int x6)]) (st1 := [.int 1, .int x6, .ref 153, .int 2, .int 10, .ref 164, .int x5]) (fun _ _ => rfl) ?_
        obtain ⟨t18, e19, h⟩ := gb h
        refine gR_cvI (wX11_thingOf_s e19) (Nat.le_of_ble_eq_true rfl) rfl rfl rfl rfl rfl ?_
        refine gR_go 4 (pc1 := 81) (L1 := [some (.ref 153), some (.int w1), some (.int w2), some (.int x3), some (.int x4), some (.int x5), some (.int x6)]) (st1 := [.int ((10 + (2 * t18)) + x3), .ref 164, .int x5]) (fun _ _ => rfl) ?_
        obtain ⟨t20, et20, h⟩ := gb h
        refine gR_ial (k := 163) rfl rfl rfl et20 ?_
        refine gR_go 1 (pc1 := 86) (L1 := [some (.ref 153), some (.int w1), some (.int w2), some (.int x3), some (.int x4), some (.int x5), some (.int x6)]) (st1 := [.int t20, .int x5]) (fun _ _ => rfl) ?_
        exact wX11_mean_u86 ih he95 h
    · refine gR_ic_ge_j rfl c15 rfl ?_
      exact he95 _ _ _ _ _ (Option.some.inj h).symm
noncomputable def wX11_mean (x1 : Int32) (x2 : Int32) (x3 : Int32) (s : wS) : Option (Int32 × wS) := (wX11_canAsk x1 s).bind fun t1 => if t1 = 0 then (some ((-1), s)) else ((wX11_isMany x2 s).bind fun t4 => if t4 = 0 then (some ((-1), s)) else ((wX11_in ((x3 : Int32).toInt64) 0 1 s).bind fun t7 => if t7 = 0 then (some ((-1), s)) else ((wX11_keeps x1 x2 (-1) s).bind fun (t10, s11) => (wX11_mean_h42 x3 t10 s11 wFuel 0 0).bind fun t22 => if t10 = 0 then (some (((Int8.ofInt (-2)).toInt32), s11)) else ((wdvI t22 t10).bind fun t28 => some (t28, s11)))))
theorem wX11_mean_s {x1 : Int32} {x2 : Int32} {x3 : Int32} {s : wS} {rv : Int32} {rs : wS} (h : wX11_mean x1 x2 x3 s = some (rv, rs)) : gEv 6 256 [.ref 153, .int x1, .int x2, .int x3] (wmk s) (some (.int rv), wmk rs, 0, 0) := by
  refine gEv_of (d := 5) (L := [some (.ref 153), some (.int x1), some (.int x2), some (.int x3), none, none, none]) rfl ?_
  unfold wX11_mean at h
  refine gR_go 2 (pc1 := 2) (L1 := [some (.ref 153), some (.int x1), some (.int x2), some (.int x3), none, none, none]) (st1 := [.int x1, .ref 153]) (fun _ _ => rfl) ?_
  obtain ⟨t1, e2, h⟩ := gb h
  refine gR_cvI (wX11_canAsk_s e2) (Nat.le_of_ble_eq_true rfl) rfl rfl rfl rfl rfl ?_
  rcases gif h with ⟨c3, h⟩ | ⟨c3, h⟩
  · refine gR_iz_eq_j rfl c3 rfl ?_
    refine gR_go 1 (pc1 := 26) (L1 := [some (.ref 153), some (.int x1), some (.int x2), some (.int x3), none, none, none]) (st1 := [.int (-1)]) (fun _ _ => rfl) ?_
    obtain ⟨rfl, rfl⟩ := gi2 h
    exact gR_ri rfl rfl
  · refine gR_iz_eq_f rfl c3 ?_
    refine gR_go 1 (pc1 := 9) (L1 := [some (.ref 153), some (.int x1), some (.int x2), some (.int x3), none, none, none]) (st1 := [.int x2]) (fun _ _ => rfl) ?_
    obtain ⟨t4, e5, h⟩ := gb h
    refine gR_csI (wX11_isMany_s e5) (Nat.le_of_ble_eq_true rfl) rfl rfl rfl rfl ?_
    rcases gif h with ⟨c6, h⟩ | ⟨c6, h⟩
    · refine gR_iz_eq_j rfl c6 rfl ?_
      refine gR_go 1 (pc1 := 26) (L1 := [some (.ref 153), some (.int x1), some (.int x2), some (.int x3), none, none, none]) (st1 := [.int (-1)]) (fun _ _ => rfl) ?_
      obtain ⟨rfl, rfl⟩ := gi2 h
      exact gR_ri rfl rfl
    · refine gR_iz_eq_f rfl c6 ?_
      refine gR_go 4 (pc1 := 19) (L1 := [some (.ref 153), some (.int x1), some (.int x2), some (.int x3), none, none, none]) (st1 := [.long 1, .long 0, .long ((x3 : Int32).toInt64)]) (fun _ _ => rfl) ?_
      obtain ⟨t7, e8, h⟩ := gb h
      refine gR_csI (wX11_in_s e8) (Nat.le_of_ble_eq_true rfl) rfl rfl rfl rfl ?_
      rcases gif h with ⟨c9, h⟩ | ⟨c9, h⟩
      · refine gR_iz_ne_f rfl c9 ?_
        refine gR_go 1 (pc1 := 26) (L1 := [some (.ref 153), some (.int x1), some (.int x2), some (.int x3), none, none, none]) (st1 := [.int (-1)]) (fun _ _ => rfl) ?_
        obtain ⟨rfl, rfl⟩ := gi2 h
        exact gR_ri rfl rfl
      · refine gR_iz_ne_j rfl c9 rfl ?_
        refine gR_go 4 (pc1 := 31) (L1 := [some (.ref 153), some (.int x1), some (.int x2), some (.int x3), none, none, none]) (st1 := [.int (-1), .int x2, .int x1, .ref 153]) (fun _ _ => rfl) ?_
        obtain ⟨⟨t10, s11⟩, e12, h⟩ := gb h
        dsimp only at h
        refine gR_cvI (wX11_keeps_s e12) (Nat.le_of_ble_eq_true rfl) rfl rfl rfl rfl rfl ?_
        refine gR_go 5 (pc1 := 42) (L1 := [some (.ref 153), some (.int x1), some (.int x2), some (.int x3), some (.int t10), some (.int 0), some (.int 0)]) (st1 := []) (fun _ _ => rfl) ?_
        obtain ⟨z21, ez21, h⟩ := gb h
        refine wX11_mean_t42 ?_  ez21
        · intro t22 w23 w24 w25 w26 hz
          replace hz := hz.symm
          subst hz
          refine gR_go 1 (pc1 := 97) (L1 := [some (.ref 153), some (.int w23), some (.int w24), some (.int w25), some (.int t10), some (.int t22), some (.int w26)]) (st1 := [.int t10]) (fun _ _ => rfl) ?_
          rcases gif h with ⟨c27, h⟩ | ⟨c27, h⟩
          · refine gR_iz_ne_f rfl c27 ?_
            refine gR_go 2 (pc1 := 110) (L1 := [some (.ref 153), some (.int w23), some (.int w24), some (.int w25), some (.int t10), some (.int t22), some (.int w26)]) (st1 := [.int ((Int8.ofInt (-2)).toInt32)]) (fun _ _ => rfl) ?_
            obtain ⟨rfl, rfl⟩ := gi2 h
            exact gR_ri rfl rfl
          · refine gR_iz_ne_j rfl c27 rfl ?_
            refine gR_go 2 (pc1 := 109) (L1 := [some (.ref 153), some (.int w23), some (.int w24), some (.int w25), some (.int t10), some (.int t22), some (.int w26)]) (st1 := [.int t10, .int t22]) (fun _ _ => rfl) ?_
            obtain ⟨t28, et28, h⟩ := gb h
            refine gR_dvI rfl et28 ?_
            obtain ⟨rfl, rfl⟩ := gi2 h
            exact gR_ri rfl rfl
noncomputable def wX11_gathers_h28 (x1 : Int32) (x2 : Int32) : Nat → Int32 → wS → Option (wS)
  | 0, _, _ => none
  | n + 1, x3, s => (wldI s 163 262 x1).bind fun t5 => if x3 < t5 then ((wstI s 168 252 (3 * (s.1 152 33)) x1).bind fun s7 => (wstI s7 168 252 ((3 * (s7.1 152 33)) + 1) x2).bind fun s8 => (wstI s8 168 252 ((3 * (s8.1 152 33)) + 2) x3).bind fun s9 => (wpfI s9 152 33 ((s9.1 152 33) + 1)).bind fun s10 => wX11_gathers_h28 x1 x2 n (x3 + 1) s10) else (some s)
theorem wX11_gathers_t28 {x1 : Int32} {x2 : Int32} {x : wS} {r : ri_R} (he94 : ∀ (s : wS) (w3 : Int32) , x = s → gRun 0 257 94 [some (.ref 153), some (.int x1), some (.int x2), some (.int w3)] [] (wmk s) r) : ∀ {n : Nat} {x3 : Int32} {s : wS} , wX11_gathers_h28 x1 x2 n x3 s = some x → gRun 0 257 28 [some (.ref 153), some (.int x1), some (.int x2), some (.int x3)] [] (wmk s) r := by
  intro n
  induction n with
  | zero => intro x3 s h; cases (show (none : Option (wS)) = some x from h)
  | succ n ih =>
    intro x3 s h
    rw [wX11_gathers_h28] at h
    refine gR_go 2 (pc1 := 30) (L1 := [some (.ref 153), some (.int x1), some (.int x2), some (.int x3)]) (st1 := [.ref 153, .int x3]) (fun _ _ => rfl) ?_
    refine gR_gfR (k := 152) (k' := 163) rfl rfl rfl rfl ?_
    refine gR_go 1 (pc1 := 34) (L1 := [some (.ref 153), some (.int x1), some (.int x2), some (.int x3)]) (st1 := [.int x1, .ref 164, .int x3]) (fun _ _ => rfl) ?_
    obtain ⟨t5, et5, h⟩ := gb h
    refine gR_ial (k := 163) rfl rfl rfl et5 ?_
    rcases gif h with ⟨c6, h⟩ | ⟨c6, h⟩
    · refine gR_ic_ge_f rfl c6 ?_
      refine gR_go 1 (pc1 := 39) (L1 := [some (.ref 153), some (.int x1), some (.int x2), some (.int x3)]) (st1 := [.ref 153]) (fun _ _ => rfl) ?_
      refine gR_gfR (k := 152) (k' := 168) rfl rfl rfl rfl ?_
      refine gR_go 2 (pc1 := 44) (L1 := [some (.ref 153), some (.int x1), some (.int x2), some (.int x3)]) (st1 := [.ref 153, .int 3, .ref 169]) (fun _ _ => rfl) ?_
      refine gR_gfI (k := 152) rfl rfl rfl ?_
      refine gR_go 2 (pc1 := 49) (L1 := [some (.ref 153), some (.int x1), some (.int x2), some (.int x3)]) (st1 := [.int x1, .int (3 * (s.1 152 33)), .ref 169]) (fun _ _ => rfl) ?_
      obtain ⟨s7, es7, h⟩ := gb h
      refine gR_ias (k := 168) rfl rfl rfl es7 ?_
      refine gR_go 1 (pc1 := 51) (L1 := [some (.ref 153), some (.int x1), some (.int x2), some (.int x3)]) (st1 := [.ref 153]) (fun _ _ => rfl) ?_
      refine gR_gfR (k := 152) (k' := 168) rfl rfl rfl rfl ?_
      refine gR_go 2 (pc1 := 56) (L1 := [some (.ref 153), some (.int x1), some (.int x2), some (.int x3)]) (st1 := [.ref 153, .int 3, .ref 169]) (fun _ _ => rfl) ?_
      refine gR_gfI (k := 152) rfl rfl rfl ?_
      refine gR_go 4 (pc1 := 63) (L1 := [some (.ref 153), some (.int x1), some (.int x2), some (.int x3)]) (st1 := [.int x2, .int ((3 * (s7.1 152 33)) + 1), .ref 169]) (fun _ _ => rfl) ?_
      obtain ⟨s8, es8, h⟩ := gb h
      refine gR_ias (k := 168) rfl rfl rfl es8 ?_
      refine gR_go 1 (pc1 := 65) (L1 := [some (.ref 153), some (.int x1), some (.int x2), some (.int x3)]) (st1 := [.ref 153]) (fun _ _ => rfl) ?_
      refine gR_gfR (k := 152) (k' := 168) rfl rfl rfl rfl ?_
      refine gR_go 2 (pc1 := 70) (L1 := [some (.ref 153), some (.int x1), some (.int x2), some (.int x3)]) (st1 := [.ref 153, .int 3, .ref 169]) (fun _ _ => rfl) ?_
      refine gR_gfI (k := 152) rfl rfl rfl ?_
      refine gR_go 4 (pc1 := 77) (L1 := [some (.ref 153), some (.int x1), some (.int x2), some (.int x3)]) (st1 := [.int x3, .int ((3 * (s8.1 152 33)) + 2), .ref 169]) (fun _ _ => rfl) ?_
      obtain ⟨s9, es9, h⟩ := gb h
      refine gR_ias (k := 168) rfl rfl rfl es9 ?_
      refine gR_go 2 (pc1 := 80) (L1 := [some (.ref 153), some (.int x1), some (.int x2), some (.int x3)]) (st1 := [.ref 153, .ref 153]) (fun _ _ => rfl) ?_
      refine gR_gfI (k := 152) rfl rfl rfl ?_
      refine gR_go 2 (pc1 := 85) (L1 := [some (.ref 153), some (.int x1), some (.int x2), some (.int x3)]) (st1 := [.int ((s9.1 152 33) + 1), .ref 153]) (fun _ _ => rfl) ?_
      obtain ⟨s10, es10, h⟩ := gb h
      refine gR_pfI (k := 152) rfl rfl rfl rfl es10 ?_
      refine gR_go 2 (pc1 := 28) (L1 := [some (.ref 153), some (.int x1), some (.int x2), some (.int (x3 + 1))]) (st1 := []) (fun _ _ => rfl) ?_
      exact ih h
    · refine gR_ic_ge_j rfl c6 rfl ?_
      exact he94 _ _ (Option.some.inj h).symm
noncomputable def wX11_gathers_h14 (x1 : Int32) : Nat → Int32 → wS → Option (wS)
  | 0, _, _ => none
  | n + 1, x2, s => (wldI s 163 262 x1).bind fun t3 => if x2 < t3 then ((wX11_gathers_h28 x1 x2 wFuel (x2 + 1) s).bind fun s12 => wX11_gathers_h14 x1 n (x2 + 1) s12) else (some s)
theorem wX11_gathers_t14 {x1 : Int32} {x : wS} {r : ri_R} (he100 : ∀ (s : wS) (w2 : Int32) (w3 : Option Value) , x = s → gRun 0 257 100 [some (.ref 153), some (.int x1), some (.int w2), w3] [] (wmk s) r) : ∀ {n : Nat} {x2 : Int32} {s : wS} {w3 : Option Value} , wX11_gathers_h14 x1 n x2 s = some x → gRun 0 257 14 [some (.ref 153), some (.int x1), some (.int x2), w3] [] (wmk s) r := by
  intro n
  induction n with
  | zero => intro x2 s w3 h; cases (show (none : Option (wS)) = some x from h)
  | succ n ih =>
    intro x2 s w3 h
    rw [wX11_gathers_h14] at h
    refine gR_go 2 (pc1 := 16) (L1 := [some (.ref 153), some (.int x1), some (.int x2), w3]) (st1 := [.ref 153, .int x2]) (fun _ _ => rfl) ?_
    refine gR_gfR (k := 152) (k' := 163) rfl rfl rfl rfl ?_
    refine gR_go 1 (pc1 := 20) (L1 := [some (.ref 153), some (.int x1), some (.int x2), w3]) (st1 := [.int x1, .ref 164, .int x2]) (fun _ _ => rfl) ?_
    obtain ⟨t3, et3, h⟩ := gb h
    refine gR_ial (k := 163) rfl rfl rfl et3 ?_
    rcases gif h with ⟨c4, h⟩ | ⟨c4, h⟩
    · refine gR_ic_ge_f rfl c4 ?_
      refine gR_go 4 (pc1 := 28) (L1 := [some (.ref 153), some (.int x1), some (.int x2), some (.int (x2 + 1))]) (st1 := []) (fun _ _ => rfl) ?_
      obtain ⟨z11, ez11, h⟩ := gb h
      refine wX11_gathers_t28 ?_  ez11
      · intro s12 w13 hz
        replace hz := hz.symm
        subst hz
        refine gR_go 2 (pc1 := 14) (L1 := [some (.ref 153), some (.int x1), some (.int (x2 + 1)), some (.int w13)]) (st1 := []) (fun _ _ => rfl) ?_
        exact ih h
    · refine gR_ic_ge_j rfl c4 rfl ?_
      exact he100 _ _ _ (Option.some.inj h).symm
noncomputable def wX11_gathers_h7 : Nat → Int32 → wS → Option (wS)
  | 0, _, _ => none
  | n + 1, x1, s => if x1 < 3 then ((wX11_gathers_h14 x1 wFuel 0 s).bind fun s15 => wX11_gathers_h7 n (x1 + 1) s15) else (some s)
theorem wX11_gathers_t7 {x : wS} {r : ri_R} (he106 : ∀ (s : wS) (w1 : Int32) (w2 : Option Value) (w3 : Option Value) , x = s → gRun 0 257 106 [some (.ref 153), some (.int w1), w2, w3] [] (wmk s) r) : ∀ {n : Nat} {x1 : Int32} {s : wS} {w2 : Option Value} {w3 : Option Value} , wX11_gathers_h7 n x1 s = some x → gRun 0 257 7 [some (.ref 153), some (.int x1), w2, w3] [] (wmk s) r := by
  intro n
  induction n with
  | zero => intro x1 s w2 w3 h; cases (show (none : Option (wS)) = some x from h)
  | succ n ih =>
    intro x1 s w2 w3 h
    rw [wX11_gathers_h7] at h
    refine gR_go 2 (pc1 := 9) (L1 := [some (.ref 153), some (.int x1), w2, w3]) (st1 := [.int 3, .int x1]) (fun _ _ => rfl) ?_
    rcases gif h with ⟨c2, h⟩ | ⟨c2, h⟩
    · refine gR_ic_ge_f rfl c2 ?_
      refine gR_go 2 (pc1 := 14) (L1 := [some (.ref 153), some (.int x1), some (.int 0), w3]) (st1 := []) (fun _ _ => rfl) ?_
      obtain ⟨z14, ez14, h⟩ := gb h
      refine wX11_gathers_t14 ?_  ez14
      · intro s15 w16 w17 hz
        replace hz := hz.symm
        subst hz
        refine gR_go 2 (pc1 := 7) (L1 := [some (.ref 153), some (.int (x1 + 1)), some (.int w16), w17]) (st1 := []) (fun _ _ => rfl) ?_
        exact ih h
    · refine gR_ic_ge_j rfl c2 rfl ?_
      exact he106 _ _ _ _ (Option.some.inj h).symm
noncomputable def wX11_gathers (s : wS) : Option (wS) := (wpfI s 152 33 0).bind fun s1 => (wX11_gathers_h7 wFuel 0 s1).bind fun s19 => some s19
theorem wX11_gathers_s {s : wS} {rs : wS} (h : wX11_gathers s = some rs) : gEv 1 257 [.ref 153] (wmk s) (none, wmk rs, 0, 0) := by
  refine gEv_of (d := 0) (L := [some (.ref 153), none, none, none]) rfl ?_
  unfold wX11_gathers at h
  refine gR_go 2 (pc1 := 2) (L1 := [some (.ref 153), none, none, none]) (st1 := [.int 0, .ref 153]) (fun _ _ => rfl) ?_
  obtain ⟨s1, es1, h⟩ := gb h
  refine gR_pfI (k := 152) rfl rfl rfl rfl es1 ?_
  refine gR_go 2 (pc1 := 7) (L1 := [some (.ref 153), some (.int 0), none, none]) (st1 := []) (fun _ _ => rfl) ?_
  obtain ⟨z18, ez18, h⟩ := gb h
  refine wX11_gathers_t7 ?_  ez18
  · intro s19 w20 w21 w22 hz
    replace hz := hz.symm
    subst hz
    obtain rfl := gi1 h
    exact gR_rv rfl rfl
noncomputable def wX11_leaves (x1 : Int32) (x2 : Int32) (x3 : Int32) (s : wS) : Option (Int32) := (wldI s 168 252 (3 * x1)).bind fun t1 => (wldI s 168 252 (((3 * x1) + 1) + x2)).bind fun t2 => (wldI s 168 252 (((3 * x1) + 2) - x2)).bind fun t3 => (wX11_isNearer t1 t2 t3 x3 s).bind fun t4 => wrtZ t4
theorem wX11_leaves_s {x1 : Int32} {x2 : Int32} {x3 : Int32} {s : wS} {rv : Int32} (h : wX11_leaves x1 x2 x3 s = some rv) : gEv 3 258 [.ref 153, .int x1, .int x2, .int x3] (wmk s) (some (.int rv), wmk s, 0, 0) := by
  refine gEv_of (d := 2) (L := [some (.ref 153), some (.int x1), some (.int x2), some (.int x3)]) rfl ?_
  unfold wX11_leaves at h
  refine gR_go 2 (pc1 := 2) (L1 := [some (.ref 153), some (.int x1), some (.int x2), some (.int x3)]) (st1 := [.ref 153, .ref 153]) (fun _ _ => rfl) ?_
  refine gR_gfR (k := 152) (k' := 168) rfl rfl rfl rfl ?_
  refine gR_go 3 (pc1 := 8) (L1 := [some (.ref 153), some (.int x1), some (.int x2), some (.int x3)]) (st1 := [.int (3 * x1), .ref 169, .ref 153]) (fun _ _ => rfl) ?_
  obtain ⟨t1, et1, h⟩ := gb h
  refine gR_ial (k := 168) rfl rfl rfl et1 ?_
  refine gR_go 1 (pc1 := 10) (L1 := [some (.ref 153), some (.int x1), some (.int x2), some (.int x3)]) (st1 := [.ref 153, .int t1, .ref 153]) (fun _ _ => rfl) ?_
  refine gR_gfR (k := 152) (k' := 168) rfl rfl rfl rfl ?_
  refine gR_go 7 (pc1 := 20) (L1 := [some (.ref 153), some (.int x1), some (.int x2), some (.int x3)]) (st1 := [.int (((3 * x1) + 1) + x2), .ref 169, .int t1, .ref 153]) (fun _ _ => rfl) ?_
  obtain ⟨t2, et2, h⟩ := gb h
  refine gR_ial (k := 168) rfl rfl rfl et2 ?_
  refine gR_go 1 (pc1 := 22) (L1 := [some (.ref 153), some (.int x1), some (.int x2), some (.int x3)]) (st1 := [.ref 153, .int t2, .int t1, .ref 153]) (fun _ _ => rfl) ?_
  refine gR_gfR (k := 152) (k' := 168) rfl rfl rfl rfl ?_
  refine gR_go 7 (pc1 := 32) (L1 := [some (.ref 153), some (.int x1), some (.int x2), some (.int x3)]) (st1 := [.int (((3 * x1) + 2) - x2), .ref 169, .int t2, .int t1, .ref 153]) (fun _ _ => rfl) ?_
  obtain ⟨t3, et3, h⟩ := gb h
  refine gR_ial (k := 168) rfl rfl rfl et3 ?_
  refine gR_go 1 (pc1 := 34) (L1 := [some (.ref 153), some (.int x1), some (.int x2), some (.int x3)]) (st1 := [.int x3, .int t3, .int t2, .int t1, .ref 153]) (fun _ _ => rfl) ?_
  obtain ⟨t4, e5, h⟩ := gb h
  refine gR_cvI (wX11_isNearer_s e5) (Nat.le_of_ble_eq_true rfl) rfl rfl rfl rfl rfl ?_
  exact gR_rz rfl rfl h
noncomputable def wX11_asks_j80 (qq : Int32 → wS → Option (wS)) (x1 : Int32) (x2 : Int32) (s : wS) : Option (wS) := qq (x2 + 1) s
theorem wX11_asks_u80 {x1 : Int32} {x2 : Int32} {s : wS} {qq : Int32 → wS → Option (wS)} {x : wS} {r : ri_R} (ih : ∀ {x2 : Int32} {s : wS} , qq x2 s = some x → gRun 3 259 12 [some (.ref 153), some (.int x1), some (.int x2)] [] (wmk s) r) (he86 : ∀ (s : wS) (w1 : Int32) (w2 : Int32) , x = s → gRun 3 259 86 [some (.ref 153), some (.int w1), some (.int w2)] [] (wmk s) r) (h : wX11_asks_j80 qq x1 x2 s = some x) : gRun 3 259 80 [some (.ref 153), some (.int x1), some (.int x2)] [] (wmk s) r := by
  unfold wX11_asks_j80 at h
  refine gR_go 2 (pc1 := 12) (L1 := [some (.ref 153), some (.int x1), some (.int (x2 + 1))]) (st1 := []) (fun _ _ => rfl) ?_
  exact ih h
noncomputable def wX11_asks_j76 (qq : Int32 → wS → Option (wS)) (x1 : Int32) (x2 : Int32) (y1 : Int32) (y2 : Int32) (s : wS) : Option (wS) := (wpfI s 152 35 (y1 + y2)).bind fun s15 => wX11_asks_j80 qq x1 x2 s15
theorem wX11_asks_u76 {x1 : Int32} {x2 : Int32} {y1 : Int32} {y2 : Int32} {s : wS} {qq : Int32 → wS → Option (wS)} {x : wS} {r : ri_R} (ih : ∀ {x2 : Int32} {s : wS} , qq x2 s = some x → gRun 3 259 12 [some (.ref 153), some (.int x1), some (.int x2)] [] (wmk s) r) (he86 : ∀ (s : wS) (w1 : Int32) (w2 : Int32) , x = s → gRun 3 259 86 [some (.ref 153), some (.int w1), some (.int w2)] [] (wmk s) r) (h : wX11_asks_j76 qq x1 x2 y1 y2 s = some x) : gRun 3 259 76 [some (.ref 153), some (.int x1), some (.int x2)] [.int y2, .int y1, .ref 153] (wmk s) r := by
  unfold wX11_asks_j76 at h
  refine gR_go 1 (pc1 := 77) (L1 := [some (.ref 153), some (.int x1), some (.int x2)]) (st1 := [.int (y1 + y2), .ref 153]) (fun _ _ => rfl) ?_
  obtain ⟨s15, es15, h⟩ := gb h
  refine gR_pfI (k := 152) rfl rfl rfl rfl es15 ?_
  exact wX11_asks_u80 ih he86 h
noncomputable def wX11_asks_j52 (qq : Int32 → wS → Option (wS)) (x1 : Int32) (x2 : Int32) (y1 : Int32) (y2 : Int32) (s : wS) : Option (wS) := (wpfI s 152 34 (y1 + y2)).bind fun s11 => (wX11_leaves x1 1 x2 s11).bind fun t12 => if t12 = 0 then (wX11_asks_j76 qq x1 x2 (s11.1 152 35) 0 s11) else (wX11_asks_j76 qq x1 x2 (s11.1 152 35) 1 s11)
theorem wX11_asks_u52 {x1 : Int32} {x2 : Int32} {y1 : Int32} {y2 : Int32} {s : wS} {qq : Int32 → wS → Option (wS)} {x : wS} {r : ri_R} (ih : ∀ {x2 : Int32} {s : wS} , qq x2 s = some x → gRun 3 259 12 [some (.ref 153), some (.int x1), some (.int x2)] [] (wmk s) r) (he86 : ∀ (s : wS) (w1 : Int32) (w2 : Int32) , x = s → gRun 3 259 86 [some (.ref 153), some (.int w1), some (.int w2)] [] (wmk s) r) (h : wX11_asks_j52 qq x1 x2 y1 y2 s = some x) : gRun 3 259 52 [some (.ref 153), some (.int x1), some (.int x2)] [.int y2, .int y1, .ref 153] (wmk s) r := by
  unfold wX11_asks_j52 at h
  refine gR_go 1 (pc1 := 53) (L1 := [some (.ref 153), some (.int x1), some (.int x2)]) (st1 := [.int (y1 + y2), .ref 153]) (fun _ _ => rfl) ?_
  obtain ⟨s11, es11, h⟩ := gb h
  refine gR_pfI (k := 152) rfl rfl rfl rfl es11 ?_
  refine gR_go 2 (pc1 := 58) (L1 := [some (.ref 153), some (.int x1), some (.int x2)]) (st1 := [.ref 153, .ref 153]) (fun _ _ => rfl) ?_
  refine gR_gfI (k := 152) rfl rfl rfl ?_
  refine gR_go 4 (pc1 := 65) (L1 := [some (.ref 153), some (.int x1), some (.int x2)]) (st1 := [.int x2, .int 1, .int x1, .ref 153, .int (s11.1 152 35), .ref 153]) (fun _ _ => rfl) ?_
  obtain ⟨t12, e13, h⟩ := gb h
  refine gR_cvI (wX11_leaves_s e13) (Nat.le_of_ble_eq_true rfl) rfl rfl rfl rfl rfl ?_
  rcases gif h with ⟨c14, h⟩ | ⟨c14, h⟩
  · refine gR_iz_eq_j rfl c14 rfl ?_
    refine gR_go 1 (pc1 := 76) (L1 := [some (.ref 153), some (.int x1), some (.int x2)]) (st1 := [.int 0, .int (s11.1 152 35), .ref 153]) (fun _ _ => rfl) ?_
    exact wX11_asks_u76 ih he86 h
  · refine gR_iz_eq_f rfl c14 ?_
    refine gR_go 2 (pc1 := 76) (L1 := [some (.ref 153), some (.int x1), some (.int x2)]) (st1 := [.int 1, .int (s11.1 152 35), .ref 153]) (fun _ _ => rfl) ?_
    exact wX11_asks_u76 ih he86 h
noncomputable def wX11_asks_h12 (x1 : Int32) : Nat → Int32 → wS → Option (wS)
  | 0, _, _ => none
  | n + 1, x2, s => (wX11_worlds s).bind fun t3 => if x2 < t3 then ((wldI s 165 512 x2).bind fun t6 => if t6 = 0 then (wX11_asks_j80 (wX11_asks_h12 x1 n) x1 x2 s) else ((wX11_leaves x1 0 x2 s).bind fun t8 => if t8 = 0 then (wX11_asks_j52 (wX11_asks_h12 x1 n) x1 x2 (s.1 152 34) 0 s) else (wX11_asks_j52 (wX11_asks_h12 x1 n) x1 x2 (s.1 152 34) 1 s))) else (some s)
theorem wX11_asks_t12 {x1 : Int32} {x : wS} {r : ri_R} (he86 : ∀ (s : wS) (w1 : Int32) (w2 : Int32) , x = s → gRun 3 259 86 [some (.ref 153), some (.int w1), some (.int w2)] [] (wmk s) r) : ∀ {n : Nat} {x2 : Int32} {s : wS} , wX11_asks_h12 x1 n x2 s = some x → gRun 3 259 12 [some (.ref 153), some (.int x1), some (.int x2)] [] (wmk s) r := by
  intro n
  induction n with
  | zero => intro x2 s h; cases (show (none : Option (wS)) = some x from h)
  | succ n ih =>
    intro x2 s h
    rw [wX11_asks_h12] at h
    refine gR_go 2 (pc1 := 14) (L1 := [some (.ref 153), some (.int x1), some (.int x2)]) (st1 := [.ref 153, .int x2]) (fun _ _ => rfl) ?_
    obtain ⟨t3, e4, h⟩ := gb h
    refine gR_cvI (wX11_worlds_s e4) (Nat.le_of_ble_eq_true rfl) rfl rfl rfl rfl rfl ?_
    rcases gif h with ⟨c5, h⟩ | ⟨c5, h⟩
    · refine gR_ic_ge_f rfl c5 ?_
      refine gR_go 1 (pc1 := 21) (L1 := [some (.ref 153), some (.int x1), some (.int x2)]) (st1 := [.ref 153]) (fun _ _ => rfl) ?_
      refine gR_gfR (k := 152) (k' := 165) rfl rfl rfl rfl ?_
      refine gR_go 1 (pc1 := 25) (L1 := [some (.ref 153), some (.int x1), some (.int x2)]) (st1 := [.int x2, .ref 166]) (fun _ _ => rfl) ?_
      obtain ⟨t6, et6, h⟩ := gb h
      refine gR_zal (k := 165) rfl rfl rfl et6 ?_
      rcases gif h with ⟨c7, h⟩ | ⟨c7, h⟩
      · refine gR_iz_ne_f rfl c7 ?_
        refine gR_go 1 (pc1 := 80) (L1 := [some (.ref 153), some (.int x1), some (.int x2)]) (st1 := []) (fun _ _ => rfl) ?_
        exact wX11_asks_u80 ih he86 h
      · refine gR_iz_ne_j rfl c7 rfl ?_
        refine gR_go 2 (pc1 := 34) (L1 := [some (.ref 153), some (.int x1), some (.int x2)]) (st1 := [.ref 153, .ref 153]) (fun _ _ => rfl) ?_
        refine gR_gfI (k := 152) rfl rfl rfl ?_
        refine gR_go 4 (pc1 := 41) (L1 := [some (.ref 153), some (.int x1), some (.int x2)]) (st1 := [.int x2, .int 0, .int x1, .ref 153, .int (s.1 152 34), .ref 153]) (fun _ _ => rfl) ?_
        obtain ⟨t8, e9, h⟩ := gb h
        refine gR_cvI (wX11_leaves_s e9) (Nat.le_of_ble_eq_true rfl) rfl rfl rfl rfl rfl ?_
        rcases gif h with ⟨c10, h⟩ | ⟨c10, h⟩
        · refine gR_iz_eq_j rfl c10 rfl ?_
          refine gR_go 1 (pc1 := 52) (L1 := [some (.ref 153), some (.int x1), some (.int x2)]) (st1 := [.int 0, .int (s.1 152 34), .ref 153]) (fun _ _ => rfl) ?_
          exact wX11_asks_u52 ih he86 h
        · refine gR_iz_eq_f rfl c10 ?_
          refine gR_go 2 (pc1 := 52) (L1 := [some (.ref 153), some (.int x1), some (.int x2)]) (st1 := [.int 1, .int (s.1 152 34), .ref 153]) (fun _ _ => rfl) ?_
          exact wX11_asks_u52 ih he86 h
    · refine gR_ic_ge_j rfl c5 rfl ?_
      exact he86 _ _ _ (Option.some.inj h).symm
noncomputable def wX11_asks (x1 : Int32) (s : wS) : Option (wS) := (wpfI s 152 34 0).bind fun s1 => (wpfI s1 152 35 0).bind fun s2 => (wX11_asks_h12 x1 wFuel 0 s2).bind fun s17 => some s17
theorem wX11_asks_s {x1 : Int32} {s : wS} {rs : wS} (h : wX11_asks x1 s = some rs) : gEv 4 259 [.ref 153, .int x1] (wmk s) (none, wmk rs, 0, 0) := by
  refine gEv_of (d := 3) (L := [some (.ref 153), some (.int x1), none]) rfl ?_
  unfold wX11_asks at h
  refine gR_go 2 (pc1 := 2) (L1 := [some (.ref 153), some (.int x1), none]) (st1 := [.int 0, .ref 153]) (fun _ _ => rfl) ?_
  obtain ⟨s1, es1, h⟩ := gb h
  refine gR_pfI (k := 152) rfl rfl rfl rfl es1 ?_
  refine gR_go 2 (pc1 := 7) (L1 := [some (.ref 153), some (.int x1), none]) (st1 := [.int 0, .ref 153]) (fun _ _ => rfl) ?_
  obtain ⟨s2, es2, h⟩ := gb h
  refine gR_pfI (k := 152) rfl rfl rfl rfl es2 ?_
  refine gR_go 2 (pc1 := 12) (L1 := [some (.ref 153), some (.int x1), some (.int 0)]) (st1 := []) (fun _ _ => rfl) ?_
  obtain ⟨z16, ez16, h⟩ := gb h
  refine wX11_asks_t12 ?_  ez16
  · intro s17 w18 w19 hz
    replace hz := hz.symm
    subst hz
    obtain rfl := gi1 h
    exact gR_rv rfl rfl
noncomputable def wX11_greater (x0 : Int32) (x1 : Int32) (s : wS) : Option (Int32) := if x1 < x0 then (some x0) else (some x1)
theorem wX11_greater_s {x0 : Int32} {x1 : Int32} {s : wS} {rv : Int32} (h : wX11_greater x0 x1 s = some rv) : gEv 1 260 [.int x0, .int x1] (wmk s) (some (.int rv), wmk s, 0, 0) := by
  refine gEv_of (d := 0) (L := [some (.int x0), some (.int x1)]) rfl ?_
  unfold wX11_greater at h
  refine gR_go 2 (pc1 := 2) (L1 := [some (.int x0), some (.int x1)]) (st1 := [.int x1, .int x0]) (fun _ _ => rfl) ?_
  rcases gif h with ⟨c1, h⟩ | ⟨c1, h⟩
  · refine gR_ic_le_f rfl c1 ?_
    refine gR_go 2 (pc1 := 10) (L1 := [some (.int x0), some (.int x1)]) (st1 := [.int x0]) (fun _ _ => rfl) ?_
    obtain rfl := gi1 h
    exact gR_ri rfl rfl
  · refine gR_ic_le_j rfl c1 rfl ?_
    refine gR_go 1 (pc1 := 10) (L1 := [some (.int x0), some (.int x1)]) (st1 := [.int x1]) (fun _ _ => rfl) ?_
    obtain rfl := gi1 h
    exact gR_ri rfl rfl
noncomputable def wX11_asksNext_j90 (qq : Int32 → Int64 → Int32 → wS → Option (Int32 × wS)) (x1 : Int32) (x2 : Int32) (x3 : Int64) (x5 : Int32) (s : wS) : Option (Int32 × wS) := qq x2 x3 (x5 + 1) s
theorem wX11_asksNext_u90 {x1 : Int32} {x2 : Int32} {x3 : Int64} {x5 : Int32} {s : wS} {w6 : Int64} {qq : Int32 → Int64 → Int32 → wS → Option (Int32 × wS)} {x : Int32 × wS} {r : ri_R} (ih : ∀ {x2 : Int32} {x3 : Int64} {x5 : Int32} {s : wS} {w6 : Option Value} {w7 : Option Value} , qq x2 x3 x5 s = some x → gRun 4 261 11 [some (.ref 153), some (.int x1), some (.int x2), some (.long x3), none, some (.int x5), w6, w7] [] (wmk s) r) (he96 : ∀ (x2 : Int32) (s : wS) (w1 : Int32) (w3 : Int64) (w5 : Int32) (w6 : Option Value) (w7 : Option Value) , x = (x2, s) → gRun 4 261 96 [some (.ref 153), some (.int w1), some (.int x2), some (.long w3), none, some (.int w5), w6, w7] [] (wmk s) r) (h : wX11_asksNext_j90 qq x1 x2 x3 x5 s = some x) : gRun 4 261 90 [some (.ref 153), some (.int x1), some (.int x2), some (.long x3), none, some (.int x5), some (.long w6), none] [] (wmk s) r := by
  unfold wX11_asksNext_j90 at h
  refine gR_go 2 (pc1 := 11) (L1 := [some (.ref 153), some (.int x1), some (.int x2), some (.long x3), none, some (.int (x5 + 1)), some (.long w6), none]) (st1 := []) (fun _ _ => rfl) ?_
  exact ih h
noncomputable def wX11_asksNext_j84 (qq : Int32 → Int64 → Int32 → wS → Option (Int32 × wS)) (x1 : Int32) (x5 : Int32) (x6 : Int64) (s : wS) : Option (Int32 × wS) := wX11_asksNext_j90 qq x1 x5 x6 x5 s
theorem wX11_asksNext_u84 {x1 : Int32} {x5 : Int32} {x6 : Int64} {s : wS} {w2 : Int32} {w3 : Int64} {qq : Int32 → Int64 → Int32 → wS → Option (Int32 × wS)} {x : Int32 × wS} {r : ri_R} (ih : ∀ {x2 : Int32} {x3 : Int64} {x5 : Int32} {s : wS} {w6 : Option Value} {w7 : Option Value} , qq x2 x3 x5 s = some x → gRun 4 261 11 [some (.ref 153), some (.int x1), some (.int x2), some (.long x3), none, some (.int x5), w6, w7] [] (wmk s) r) (he96 : ∀ (x2 : Int32) (s : wS) (w1 : Int32) (w3 : Int64) (w5 : Int32) (w6 : Option Value) (w7 : Option Value) , x = (x2, s) → gRun 4 261 96 [some (.ref 153), some (.int w1), some (.int x2), some (.long w3), none, some (.int w5), w6, w7] [] (wmk s) r) (h : wX11_asksNext_j84 qq x1 x5 x6 s = some x) : gRun 4 261 84 [some (.ref 153), some (.int x1), some (.int w2), some (.long w3), none, some (.int x5), some (.long x6), none] [] (wmk s) r := by
  unfold wX11_asksNext_j84 at h
  refine gR_go 4 (pc1 := 90) (L1 := [some (.ref 153), some (.int x1), some (.int x5), some (.long x6), none, some (.int x5), some (.long x6), none]) (st1 := []) (fun _ _ => rfl) ?_
  exact wX11_asksNext_u90 ih he96 h
noncomputable def wX11_asksNext_j68 (qq : Int32 → Int64 → Int32 → wS → Option (Int32 × wS)) (x1 : Int32) (x2 : Int32) (x3 : Int64) (x5 : Int32) (y0 : Int64) (s : wS) : Option (Int32 × wS) := if x2 < 0 then (wX11_asksNext_j84 qq x1 x5 y0 s) else (if y0 < x3 then (wX11_asksNext_j84 qq x1 x5 y0 s) else (wX11_asksNext_j90 qq x1 x2 x3 x5 s))
theorem wX11_asksNext_u68 {x1 : Int32} {x2 : Int32} {x3 : Int64} {x5 : Int32} {y0 : Int64} {s : wS} {w6 : Option Value} {w7 : Option Value} {qq : Int32 → Int64 → Int32 → wS → Option (Int32 × wS)} {x : Int32 × wS} {r : ri_R} (ih : ∀ {x2 : Int32} {x3 : Int64} {x5 : Int32} {s : wS} {w6 : Option Value} {w7 : Option Value} , qq x2 x3 x5 s = some x → gRun 4 261 11 [some (.ref 153), some (.int x1), some (.int x2), some (.long x3), none, some (.int x5), w6, w7] [] (wmk s) r) (he96 : ∀ (x2 : Int32) (s : wS) (w1 : Int32) (w3 : Int64) (w5 : Int32) (w6 : Option Value) (w7 : Option Value) , x = (x2, s) → gRun 4 261 96 [some (.ref 153), some (.int w1), some (.int x2), some (.long w3), none, some (.int w5), w6, w7] [] (wmk s) r) (h : wX11_asksNext_j68 qq x1 x2 x3 x5 y0 s = some x) : gRun 4 261 68 [some (.ref 153), some (.int x1), some (.int x2), some (.long x3), none, some (.int x5), w6, w7] [.long y0] (wmk s) r := by
  unfold wX11_asksNext_j68 at h
  refine gR_go 2 (pc1 := 71) (L1 := [some (.ref 153), some (.int x1), some (.int x2), some (.long x3), none, some (.int x5), some (.long y0), none]) (st1 := [.int x2]) (fun _ _ => rfl) ?_
  rcases gif h with ⟨c11, h⟩ | ⟨c11, h⟩
  · refine gR_iz_lt_j rfl c11 rfl ?_
    exact wX11_asksNext_u84 ih he96 h
  · refine gR_iz_lt_f rfl c11 ?_
    refine gR_go 3 (pc1 := 78) (L1 := [some (.ref 153), some (.int x1), some (.int x2), some (.long x3), none, some (.int x5), some (.long y0), none]) (st1 := [.int (lg_cmp y0 x3)]) (fun _ _ => rfl) ?_
    rcases gif h with ⟨c12, h⟩ | ⟨c12, h⟩
    · refine gR_lc_lt_j rfl c12 rfl ?_
      exact wX11_asksNext_u84 ih he96 h
    · refine gR_lc_lt_f rfl c12 ?_
      refine gR_go 1 (pc1 := 90) (L1 := [some (.ref 153), some (.int x1), some (.int x2), some (.long x3), none, some (.int x5), some (.long y0), none]) (st1 := []) (fun _ _ => rfl) ?_
      exact wX11_asksNext_u90 ih he96 h
noncomputable def wX11_asksNext_h11 (x1 : Int32) : Nat → Int32 → Int64 → Int32 → wS → Option (Int32 × wS)
  | 0, _, _, _, _ => none
  | n + 1, x2, x3, x5, s => if x5 < (s.1 152 33) then ((wX11_asks x5 s).bind fun s6 => if x1 = 0 then ((wX11_greater (s6.1 152 34) (s6.1 152 35) s6).bind fun t9 => wX11_asksNext_j68 (wX11_asksNext_h11 x1 n) x1 x2 x3 x5 ((t9 : Int32).toInt64) s6) else (wX11_asksNext_j68 (wX11_asksNext_h11 x1 n) x1 x2 x3 x5 (((((s6.1 152 34) : Int32).toInt64) * (((s6.1 152 34) : Int32).toInt64)) + ((((s6.1 152 35) : Int32).toInt64) * (((s6.1 152 35) : Int32).toInt64))) s6)) else (some (x2, s))
theorem wX11_asksNext_t11 {x1 : Int32} {x : Int32 × wS} {r : ri_R} (he96 : ∀ (x2 : Int32) (s : wS) (w1 : Int32) (w3 : Int64) (w5 : Int32) (w6 : Option Value) (w7 : Option Value) , x = (x2, s) → gRun 4 261 96 [some (.ref 153), some (.int w1), some (.int x2), some (.long w3), none, some (.int w5), w6, w7] [] (wmk s) r) : ∀ {n : Nat} {x2 : Int32} {x3 : Int64} {x5 : Int32} {s : wS} {w6 : Option Value} {w7 : Option Value} , wX11_asksNext_h11 x1 n x2 x3 x5 s = some x → gRun 4 261 11 [some (.ref 153), some (.int x1), some (.int x2), some (.long x3), none, some (.int x5), w6, w7] [] (wmk s) r := by
  intro n
  induction n with
  | zero => intro x2 x3 x5 s w6 w7 h; cases (show (none : Option (Int32 × wS)) = some x from h)
  | succ n ih =>
    intro x2 x3 x5 s w6 w7 h
    rw [wX11_asksNext_h11] at h
    refine gR_go 2 (pc1 := 14) (L1 := [some (.ref 153), some (.int x1), some (.int x2), some (.long x3), none, some (.int x5), w6, w7]) (st1 := [.ref 153, .int x5]) (fun _ _ => rfl) ?_
    refine gR_gfI (k := 152) rfl rfl rfl ?_
    rcases gif h with ⟨c4, h⟩ | ⟨c4, h⟩
    · refine gR_ic_ge_f rfl c4 ?_
      refine gR_go 2 (pc1 := 23) (L1 := [some (.ref 153), some (.int x1), some (.int x2), some (.long x3), none, some (.int x5), w6, w7]) (st1 := [.int x5, .ref 153]) (fun _ _ => rfl) ?_
      obtain ⟨s6, e7, h⟩ := gb h
      refine gR_cvV (wX11_asks_s e7) (Nat.le_of_ble_eq_true rfl) rfl rfl rfl rfl rfl ?_
      refine gR_go 1 (pc1 := 27) (L1 := [some (.ref 153), some (.int x1), some (.int x2), some (.long x3), none, some (.int x5), w6, w7]) (st1 := [.int x1]) (fun _ _ => rfl) ?_
      rcases gif h with ⟨c8, h⟩ | ⟨c8, h⟩
      · refine gR_iz_eq_j rfl c8 rfl ?_
        refine gR_go 1 (pc1 := 57) (L1 := [some (.ref 153), some (.int x1), some (.int x2), some (.long x3), none, some (.int x5), w6, w7]) (st1 := [.ref 153]) (fun _ _ => rfl) ?_
        refine gR_gfI (k := 152) rfl rfl rfl ?_
        refine gR_go 1 (pc1 := 61) (L1 := [some (.ref 153), some (.int x1), some (.int x2), some (.long x3), none, some (.int x5), w6, w7]) (st1 := [.ref 153, .int (s6.1 152 34)]) (fun _ _ => rfl) ?_
        refine gR_gfI (k := 152) rfl rfl rfl ?_
        obtain ⟨t9, e10, h⟩ := gb h
        refine gR_csI (wX11_greater_s e10) (Nat.le_of_ble_eq_true rfl) rfl rfl rfl rfl ?_
        refine gR_go 1 (pc1 := 68) (L1 := [some (.ref 153), some (.int x1), some (.int x2), some (.long x3), none, some (.int x5), w6, w7]) (st1 := [.long ((t9 : Int32).toInt64)]) (fun _ _ => rfl) ?_
        exact wX11_asksNext_u68 ih he96 h
      · refine gR_iz_eq_f rfl c8 ?_
        refine gR_go 1 (pc1 := 31) (L1 := [some (.ref 153), some (.int x1), some (.int x2), some (.long x3), none, some (.int x5), w6, w7]) (st1 := [.ref 153]) (fun _ _ => rfl) ?_
        refine gR_gfI (k := 152) rfl rfl rfl ?_
        refine gR_go 2 (pc1 := 36) (L1 := [some (.ref 153), some (.int x1), some (.int x2), some (.long x3), none, some (.int x5), w6, w7]) (st1 := [.ref 153, .long (((s6.1 152 34) : Int32).toInt64)]) (fun _ _ => rfl) ?_
        refine gR_gfI (k := 152) rfl rfl rfl ?_
        refine gR_go 3 (pc1 := 42) (L1 := [some (.ref 153), some (.int x1), some (.int x2), some (.long x3), none, some (.int x5), w6, w7]) (st1 := [.ref 153, .long ((((s6.1 152 34) : Int32).toInt64) * (((s6.1 152 34) : Int32).toInt64))]) (fun _ _ => rfl) ?_
        refine gR_gfI (k := 152) rfl rfl rfl ?_
        refine gR_go 2 (pc1 := 47) (L1 := [some (.ref 153), some (.int x1), some (.int x2), some (.long x3), none, some (.int x5), w6, w7]) (st1 := [.ref 153, .long (((s6.1 152 35) : Int32).toInt64), .long ((((s6.1 152 34) : Int32).toInt64) * (((s6.1 152 34) : Int32).toInt64))]) (fun _ _ => rfl) ?_
        refine gR_gfI (k := 152) rfl rfl rfl ?_
        refine gR_go 4 (pc1 := 68) (L1 := [some (.ref 153), some (.int x1), some (.int x2), some (.long x3), none, some (.int x5), w6, w7]) (st1 := [.long (((((s6.1 152 34) : Int32).toInt64) * (((s6.1 152 34) : Int32).toInt64)) + ((((s6.1 152 35) : Int32).toInt64) * (((s6.1 152 35) : Int32).toInt64)))]) (fun _ _ => rfl) ?_
        exact wX11_asksNext_u68 ih he96 h
    · refine gR_ic_ge_j rfl c4 rfl ?_
      exact he96 _ _ _ _ _ _ _ (Option.some.inj h).symm
noncomputable def wX11_asksNext (x1 : Int32) (s : wS) : Option (Int32 × wS) := (wX11_gathers s).bind fun s2 => (wX11_asksNext_h11 x1 wFuel (-1) 0 0 s2).bind fun (t14, s15) => if t14 < 0 then (some (t14, s15)) else ((wX11_asks t14 s15).bind fun s23 => some (t14, s23))
theorem wX11_asksNext_s {x1 : Int32} {s : wS} {rv : Int32} {rs : wS} (h : wX11_asksNext x1 s = some (rv, rs)) : gEv 5 261 [.ref 153, .int x1] (wmk s) (some (.int rv), wmk rs, 0, 0) := by
  refine gEv_of (d := 4) (L := [some (.ref 153), some (.int x1), none, none, none, none, none, none]) rfl ?_
  unfold wX11_asksNext at h
  refine gR_go 1 (pc1 := 1) (L1 := [some (.ref 153), some (.int x1), none, none, none, none, none, none]) (st1 := [.ref 153]) (fun _ _ => rfl) ?_
  obtain ⟨s2, e3, h⟩ := gb h
  refine gR_cvV (wX11_gathers_s e3) (Nat.le_of_ble_eq_true rfl) rfl rfl rfl rfl rfl ?_
  refine gR_go 6 (pc1 := 11) (L1 := [some (.ref 153), some (.int x1), some (.int (-1)), some (.long 0), none, some (.int 0), none, none]) (st1 := []) (fun _ _ => rfl) ?_
  obtain ⟨z13, ez13, h⟩ := gb h
  refine wX11_asksNext_t11 ?_  ez13
  · intro t14 s15 w16 w17 w18 w19 w20 hz
    replace hz := hz.symm
    subst hz
    dsimp only at h
    refine gR_go 1 (pc1 := 97) (L1 := [some (.ref 153), some (.int w16), some (.int t14), some (.long w17), none, some (.int w18), w19, w20]) (st1 := [.int t14]) (fun _ _ => rfl) ?_
    rcases gif h with ⟨c21, h⟩ | ⟨c21, h⟩
    · refine gR_iz_lt_j rfl c21 rfl ?_
      refine gR_go 1 (pc1 := 106) (L1 := [some (.ref 153), some (.int w16), some (.int t14), some (.long w17), none, some (.int w18), w19, w20]) (st1 := [.int t14]) (fun _ _ => rfl) ?_
      obtain ⟨rfl, rfl⟩ := gi2 h
      exact gR_ri rfl rfl
    · refine gR_iz_lt_f rfl c21 ?_
      refine gR_go 2 (pc1 := 102) (L1 := [some (.ref 153), some (.int w16), some (.int t14), some (.long w17), none, some (.int w18), w19, w20]) (st1 := [.int t14, .ref 153]) (fun _ _ => rfl) ?_
      obtain ⟨s23, e24, h⟩ := gb h
      refine gR_cvV (wX11_asks_s e24) (Nat.le_of_ble_eq_true rfl) rfl rfl rfl rfl rfl ?_
      refine gR_go 1 (pc1 := 106) (L1 := [some (.ref 153), some (.int w16), some (.int t14), some (.long w17), none, some (.int w18), w19, w20]) (st1 := [.int t14]) (fun _ _ => rfl) ?_
      obtain ⟨rfl, rfl⟩ := gi2 h
      exact gR_ri rfl rfl
noncomputable def wX11_useful_h44 (x4 : Int32) (s : wS) : Nat → Int32 → Option (Int32)
  | 0, _ => none
  | n + 1, x5 => if 0 < x4 then (if (1 <<< (x5 &&& 31)) < x4 then (wX11_useful_h44 x4 s n (x5 + 1)) else (some x5)) else (some x5)
theorem wX11_useful_t44 {x4 : Int32} {s : wS} {x : Int32} {r : ri_R} (he64 : ∀ (x5 : Int32) (w1 : Int32) (w2 : Int32) (w3 : Int32) (w4 : Int32) (w6 : Option Value) , x = x5 → gRun 5 262 64 [some (.ref 153), some (.int w1), some (.int w2), some (.int w3), some (.int w4), some (.int x5), w6] [] (wmk s) r) : ∀ {n : Nat} {x5 : Int32} {w1 : Int32} {w2 : Int32} {w3 : Int32} {w6 : Option Value} , wX11_useful_h44 x4 s n x5 = some x → gRun 5 262 44 [some (.ref 153), some (.int w1), some (.int w2), some (.int w3), some (.int x4), some (.int x5), w6] [] (wmk s) r := by
  intro n
  induction n with
  | zero => intro x5 w1 w2 w3 w6 h; cases (show (none : Option (Int32)) = some x from h)
  | succ n ih =>
    intro x5 w1 w2 w3 w6 h
    rw [wX11_useful_h44] at h
    refine gR_go 1 (pc1 := 46) (L1 := [some (.ref 153), some (.int w1), some (.int w2), some (.int w3), some (.int x4), some (.int x5), w6]) (st1 := [.int x4]) (fun _ _ => rfl) ?_
    rcases gif h with ⟨c14, h⟩ | ⟨c14, h⟩
    · refine gR_iz_le_f rfl c14 ?_
      refine gR_go 4 (pc1 := 55) (L1 := [some (.ref 153), some (.int w1), some (.int w2), some (.int w3), some (.int x4), some (.int x5), w6]) (st1 := [.int x4, .int (1 <<< (x5 &&& 31))]) (fun _ _ => rfl) ?_
      rcases gif h with ⟨c15, h⟩ | ⟨c15, h⟩
      · refine gR_ic_ge_f rfl c15 ?_
        refine gR_go 2 (pc1 := 44) (L1 := [some (.ref 153), some (.int w1), some (.int w2), some (.int w3), some (.int x4), some (.int (x5 + 1)), w6]) (st1 := []) (fun _ _ => rfl) ?_
        exact ih h
      · refine gR_ic_ge_j rfl c15 rfl ?_
        exact he64 _ _ _ _ _ _ (Option.some.inj h).symm
    · refine gR_iz_le_j rfl c14 rfl ?_
      exact he64 _ _ _ _ _ _ (Option.some.inj h).symm
noncomputable def wX11_useful_j112 (qq : Int32 → Int32 → wS → Option (Int32 × wS)) (x4 : Int32) (x6 : Int32) (y0 : Int32) (y1 : Int32) (s : wS) : Option (Int32 × wS) := qq (y0 + y1) (x6 + 1) s
theorem wX11_useful_u112 {x4 : Int32} {x6 : Int32} {y0 : Int32} {y1 : Int32} {s : wS} {w1 : Int32} {w2 : Int32} {w3 : Int32} {w5 : Int32} {qq : Int32 → Int32 → wS → Option (Int32 × wS)} {x : Int32 × wS} {r : ri_R} (ih : ∀ {x5 : Int32} {x6 : Int32} {s : wS} {w1 : Int32} {w2 : Int32} {w3 : Int32} , qq x5 x6 s = some x → gRun 5 262 74 [some (.ref 153), some (.int w1), some (.int w2), some (.int w3), some (.int x4), some (.int x5), some (.int x6)] [] (wmk s) r) (he121 : ∀ (x5 : Int32) (s : wS) (w1 : Int32) (w2 : Int32) (w3 : Int32) (w4 : Int32) (w6 : Int32) , x = (x5, s) → gRun 5 262 121 [some (.ref 153), some (.int w1), some (.int w2), some (.int w3), some (.int w4), some (.int x5), some (.int w6)] [] (wmk s) r) (h : wX11_useful_j112 qq x4 x6 y0 y1 s = some x) : gRun 5 262 112 [some (.ref 153), some (.int w1), some (.int w2), some (.int w3), some (.int x4), some (.int w5), some (.int x6)] [.int y1, .int y0] (wmk s) r := by
  unfold wX11_useful_j112 at h
  refine gR_go 4 (pc1 := 74) (L1 := [some (.ref 153), some (.int w1), some (.int w2), some (.int w3), some (.int x4), some (.int (y0 + y1)), some (.int (x6 + 1))]) (st1 := []) (fun _ _ => rfl) ?_
  exact ih h
noncomputable def wX11_useful_h74 (x4 : Int32) : Nat → Int32 → Int32 → wS → Option (Int32 × wS)
  | 0, _, _, _ => none
  | n + 1, x5, x6, s => if x6 < (s.1 152 33) then ((wX11_asks x6 s).bind fun s28 => (wX11_greater (s28.1 152 34) (s28.1 152 35) s28).bind fun t30 => if t30 < x4 then (wX11_useful_j112 (wX11_useful_h74 x4 n) x4 x6 x5 1 s28) else (wX11_useful_j112 (wX11_useful_h74 x4 n) x4 x6 x5 0 s28)) else (some (x5, s))
theorem wX11_useful_t74 {x4 : Int32} {x : Int32 × wS} {r : ri_R} (he121 : ∀ (x5 : Int32) (s : wS) (w1 : Int32) (w2 : Int32) (w3 : Int32) (w4 : Int32) (w6 : Int32) , x = (x5, s) → gRun 5 262 121 [some (.ref 153), some (.int w1), some (.int w2), some (.int w3), some (.int w4), some (.int x5), some (.int w6)] [] (wmk s) r) : ∀ {n : Nat} {x5 : Int32} {x6 : Int32} {s : wS} {w1 : Int32} {w2 : Int32} {w3 : Int32} , wX11_useful_h74 x4 n x5 x6 s = some x → gRun 5 262 74 [some (.ref 153), some (.int w1), some (.int w2), some (.int w3), some (.int x4), some (.int x5), some (.int x6)] [] (wmk s) r := by
  intro n
  induction n with
  | zero => intro x5 x6 s w1 w2 w3 h; cases (show (none : Option (Int32 × wS)) = some x from h)
  | succ n ih =>
    intro x5 x6 s w1 w2 w3 h
    rw [wX11_useful_h74] at h
    refine gR_go 2 (pc1 := 77) (L1 := [some (.ref 153), some (.int w1), some (.int w2), some (.int w3), some (.int x4), some (.int x5), some (.int x6)]) (st1 := [.ref 153, .int x6]) (fun _ _ => rfl) ?_
    refine gR_gfI (k := 152) rfl rfl rfl ?_
    rcases gif h with ⟨c26, h⟩ | ⟨c26, h⟩
    · refine gR_ic_ge_f rfl c26 ?_
      refine gR_go 2 (pc1 := 86) (L1 := [some (.ref 153), some (.int w1), some (.int w2), some (.int w3), some (.int x4), some (.int x5), some (.int x6)]) (st1 := [.int x6, .ref 153]) (fun _ _ => rfl) ?_
      obtain ⟨s28, e29, h⟩ := gb h
      refine gR_cvV (wX11_asks_s e29) (Nat.le_of_ble_eq_true rfl) rfl rfl rfl rfl rfl ?_
      refine gR_go 2 (pc1 := 92) (L1 := [some (.ref 153), some (.int w1), some (.int w2), some (.int w3), some (.int x4), some (.int x5), some (.int x6)]) (st1 := [.ref 153, .int x5]) (fun _ _ => rfl) ?_
      refine gR_gfI (k := 152) rfl rfl rfl ?_
      refine gR_go 1 (pc1 := 96) (L1 := [some (.ref 153), some (.int w1), some (.int w2), some (.int w3), some (.int x4), some (.int x5), some (.int x6)]) (st1 := [.ref 153, .int (s28.1 152 34), .int x5]) (fun _ _ => rfl) ?_
      refine gR_gfI (k := 152) rfl rfl rfl ?_
      obtain ⟨t30, e31, h⟩ := gb h
      refine gR_csI (wX11_greater_s e31) (Nat.le_of_ble_eq_true rfl) rfl rfl rfl rfl ?_
      refine gR_go 1 (pc1 := 104) (L1 := [some (.ref 153), some (.int w1), some (.int w2), some (.int w3), some (.int x4), some (.int x5), some (.int x6)]) (st1 := [.int x4, .int t30, .int x5]) (fun _ _ => rfl) ?_
      rcases gif h with ⟨c32, h⟩ | ⟨c32, h⟩
      · refine gR_ic_ge_f rfl c32 ?_
        refine gR_go 2 (pc1 := 112) (L1 := [some (.ref 153), some (.int w1), some (.int w2), some (.int w3), some (.int x4), some (.int x5), some (.int x6)]) (st1 := [.int 1, .int x5]) (fun _ _ => rfl) ?_
        exact wX11_useful_u112 ih he121 h
      · refine gR_ic_ge_j rfl c32 rfl ?_
        refine gR_go 1 (pc1 := 112) (L1 := [some (.ref 153), some (.int w1), some (.int w2), some (.int w3), some (.int x4), some (.int x5), some (.int x6)]) (st1 := [.int 0, .int x5]) (fun _ _ => rfl) ?_
        exact wX11_useful_u112 ih he121 h
    · refine gR_ic_ge_j rfl c26 rfl ?_
      exact he121 _ _ _ _ _ _ _ (Option.some.inj h).symm
noncomputable def wX11_useful (x1 : Int32) (x2 : Int32) (x3 : Int32) (s : wS) : Option (Int32 × wS) := (wX11_canAsk x1 s).bind fun t1 => if t1 = 0 then (some ((-1), s)) else ((wX11_isMany x2 s).bind fun t4 => if t4 = 0 then (some ((-1), s)) else ((wX11_in ((x3 : Int32).toInt64) 0 1 s).bind fun t7 => if t7 = 0 then (some ((-1), s)) else ((wX11_keeps x1 x2 (-1) s).bind fun (t10, s11) => if x3 = 1 then ((wX11_useful_h44 t10 s11 wFuel 0).bind fun t17 => some (t17, s11)) else ((wX11_gathers s11).bind fun s24 => (wX11_useful_h74 t10 wFuel 0 0 s24).bind fun (t34, s35) => some (t34, s35)))))
theorem wX11_useful_s {x1 : Int32} {x2 : Int32} {x3 : Int32} {s : wS} {rv : Int32} {rs : wS} (h : wX11_useful x1 x2 x3 s = some (rv, rs)) : gEv 6 262 [.ref 153, .int x1, .int x2, .int x3] (wmk s) (some (.int rv), wmk rs, 0, 0) := by
  refine gEv_of (d := 5) (L := [some (.ref 153), some (.int x1), some (.int x2), some (.int x3), none, none, none]) rfl ?_
  unfold wX11_useful at h
  refine gR_go 2 (pc1 := 2) (L1 := [some (.ref 153), some (.int x1), some (.int x2), some (.int x3), none, none, none]) (st1 := [.int x1, .ref 153]) (fun _ _ => rfl) ?_
  obtain ⟨t1, e2, h⟩ := gb h
  refine gR_cvI (wX11_canAsk_s e2) (Nat.le_of_ble_eq_true rfl) rfl rfl rfl rfl rfl ?_
  rcases gif h with ⟨c3, h⟩ | ⟨c3, h⟩
  · refine gR_iz_eq_j rfl c3 rfl ?_
    refine gR_go 1 (pc1 := 26) (L1 := [some (.ref 153), some (.int x1), some (.int x2), some (.int x3), none, none, none]) (st1 := [.int (-1)]) (fun _ _ => rfl) ?_
    obtain ⟨rfl, rfl⟩ := gi2 h
    exact gR_ri rfl rfl
  · refine gR_iz_eq_f rfl c3 ?_
    refine gR_go 1 (pc1 := 9) (L1 := [some (.ref 153), some (.int x1), some (.int x2), some (.int x3), none, none, none]) (st1 := [.int x2]) (fun _ _ => rfl) ?_
    obtain ⟨t4, e5, h⟩ := gb h
    refine gR_csI (wX11_isMany_s e5) (Nat.le_of_ble_eq_true rfl) rfl rfl rfl rfl ?_
    rcases gif h with ⟨c6, h⟩ | ⟨c6, h⟩
    · refine gR_iz_eq_j rfl c6 rfl ?_
      refine gR_go 1 (pc1 := 26) (L1 := [some (.ref 153), some (.int x1), some (.int x2), some (.int x3), none, none, none]) (st1 := [.int (-1)]) (fun _ _ => rfl) ?_
      obtain ⟨rfl, rfl⟩ := gi2 h
      exact gR_ri rfl rfl
    · refine gR_iz_eq_f rfl c6 ?_
      refine gR_go 4 (pc1 := 19) (L1 := [some (.ref 153), some (.int x1), some (.int x2), some (.int x3), none, none, none]) (st1 := [.long 1, .long 0, .long ((x3 : Int32).toInt64)]) (fun _ _ => rfl) ?_
      obtain ⟨t7, e8, h⟩ := gb h
      refine gR_csI (wX11_in_s e8) (Nat.le_of_ble_eq_true rfl) rfl rfl rfl rfl ?_
      rcases gif h with ⟨c9, h⟩ | ⟨c9, h⟩
      · refine gR_iz_ne_f rfl c9 ?_
        refine gR_go 1 (pc1 := 26) (L1 := [some (.ref 153), some (.int x1), some (.int x2), some (.int x3), none, none, none]) (st1 := [.int (-1)]) (fun _ _ => rfl) ?_
        obtain ⟨rfl, rfl⟩ := gi2 h
        exact gR_ri rfl rfl
      · refine gR_iz_ne_j rfl c9 rfl ?_
        refine gR_go 4 (pc1 := 31) (L1 := [some (.ref 153), some (.int x1), some (.int x2), some (.int x3), none, none, none]) (st1 := [.int (-1), .int x2, .int x1, .ref 153]) (fun _ _ => rfl) ?_
        obtain ⟨⟨t10, s11⟩, e12, h⟩ := gb h
        dsimp only at h
        refine gR_cvI (wX11_keeps_s e12) (Nat.le_of_ble_eq_true rfl) rfl rfl rfl rfl rfl ?_
        refine gR_go 5 (pc1 := 41) (L1 := [some (.ref 153), some (.int x1), some (.int x2), some (.int x3), some (.int t10), some (.int 0), none]) (st1 := [.int 1, .int x3]) (fun _ _ => rfl) ?_
        rcases gif h with ⟨c13, h⟩ | ⟨c13, h⟩
        · refine gR_ic_ne_f rfl c13 ?_
          obtain ⟨z16, ez16, h⟩ := gb h
          refine wX11_useful_t44 ?_  ez16
          · intro t17 w18 w19 w20 w21 w22 hz
            replace hz := hz.symm
            subst hz
            refine gR_go 1 (pc1 := 66) (L1 := [some (.ref 153), some (.int w18), some (.int w19), some (.int w20), some (.int w21), some (.int t17), w22]) (st1 := [.int t17]) (fun _ _ => rfl) ?_
            obtain ⟨rfl, rfl⟩ := gi2 h
            exact gR_ri rfl rfl
        · refine gR_ic_ne_j rfl c13 rfl ?_
          refine gR_go 1 (pc1 := 68) (L1 := [some (.ref 153), some (.int x1), some (.int x2), some (.int x3), some (.int t10), some (.int 0), none]) (st1 := [.ref 153]) (fun _ _ => rfl) ?_
          obtain ⟨s24, e25, h⟩ := gb h
          refine gR_cvV (wX11_gathers_s e25) (Nat.le_of_ble_eq_true rfl) rfl rfl rfl rfl rfl ?_
          refine gR_go 2 (pc1 := 74) (L1 := [some (.ref 153), some (.int x1), some (.int x2), some (.int x3), some (.int t10), some (.int 0), some (.int 0)]) (st1 := []) (fun _ _ => rfl) ?_
          obtain ⟨z33, ez33, h⟩ := gb h
          refine wX11_useful_t74 ?_  ez33
          · intro t34 s35 w36 w37 w38 w39 w40 hz
            replace hz := hz.symm
            subst hz
            dsimp only at h
            refine gR_go 1 (pc1 := 123) (L1 := [some (.ref 153), some (.int w36), some (.int w37), some (.int w38), some (.int w39), some (.int t34), some (.int w40)]) (st1 := [.int t34]) (fun _ _ => rfl) ?_
            obtain ⟨rfl, rfl⟩ := gi2 h
            exact gR_ri rfl rfl
noncomputable def wX11_filled_j131 (qq : Int32 → Int32 → Option (Int32)) (x4 : Int32) (x5 : Int32) (x6 : Int32) (x7 : Int32) (x9 : Int32) (y0 : Int32) (s : wS) : Option (Int32) := qq y0 (x9 + 1)
theorem wX11_filled_u131 {x4 : Int32} {x5 : Int32} {x6 : Int32} {x7 : Int32} {x9 : Int32} {y0 : Int32} {s : wS} {w1 : Int32} {w2 : Int32} {w3 : Int32} {w8 : Int32} {qq : Int32 → Int32 → Option (Int32)} {x : Int32} {r : ri_R} (ih : ∀ {x8 : Int32} {x9 : Int32} {w1 : Int32} {w2 : Int32} {w3 : Int32} , qq x8 x9 = some x → gRun 5 263 80 [some (.ref 153), some (.int w1), some (.int w2), some (.int w3), some (.int x4), some (.int x5), some (.int x6), some (.int x7), some (.int x8), some (.int x9)] [] (wmk s) r) (he139 : ∀ (x8 : Int32) (w1 : Int32) (w2 : Int32) (w3 : Int32) (w9 : Int32) , x = x8 → gRun 5 263 139 [some (.ref 153), some (.int w1), some (.int w2), some (.int w3), some (.int x4), some (.int x5), some (.int x6), some (.int x7), some (.int x8), some (.int w9)] [] (wmk s) r) (h : wX11_filled_j131 qq x4 x5 x6 x7 x9 y0 s = some x) : gRun 5 263 131 [some (.ref 153), some (.int w1), some (.int w2), some (.int w3), some (.int x4), some (.int x5), some (.int x6), some (.int x7), some (.int w8), some (.int x9)] [.int y0] (wmk s) r := by
  unfold wX11_filled_j131 at h
  refine gR_go 3 (pc1 := 80) (L1 := [some (.ref 153), some (.int w1), some (.int w2), some (.int w3), some (.int x4), some (.int x5), some (.int x6), some (.int x7), some (.int y0), some (.int (x9 + 1))]) (st1 := []) (fun _ _ => rfl) ?_
  exact ih h
noncomputable def wX11_filled_j130 (qq : Int32 → Int32 → Option (Int32)) (x4 : Int32) (x5 : Int32) (x6 : Int32) (x7 : Int32) (x9 : Int32) (s : wS) : Option (Int32) := wX11_filled_j131 qq x4 x5 x6 x7 x9 0 s
theorem wX11_filled_u130 {x4 : Int32} {x5 : Int32} {x6 : Int32} {x7 : Int32} {x9 : Int32} {s : wS} {w1 : Int32} {w2 : Int32} {w3 : Int32} {w8 : Int32} {qq : Int32 → Int32 → Option (Int32)} {x : Int32} {r : ri_R} (ih : ∀ {x8 : Int32} {x9 : Int32} {w1 : Int32} {w2 : Int32} {w3 : Int32} , qq x8 x9 = some x → gRun 5 263 80 [some (.ref 153), some (.int w1), some (.int w2), some (.int w3), some (.int x4), some (.int x5), some (.int x6), some (.int x7), some (.int x8), some (.int x9)] [] (wmk s) r) (he139 : ∀ (x8 : Int32) (w1 : Int32) (w2 : Int32) (w3 : Int32) (w9 : Int32) , x = x8 → gRun 5 263 139 [some (.ref 153), some (.int w1), some (.int w2), some (.int w3), some (.int x4), some (.int x5), some (.int x6), some (.int x7), some (.int x8), some (.int w9)] [] (wmk s) r) (h : wX11_filled_j130 qq x4 x5 x6 x7 x9 s = some x) : gRun 5 263 130 [some (.ref 153), some (.int w1), some (.int w2), some (.int w3), some (.int x4), some (.int x5), some (.int x6), some (.int x7), some (.int w8), some (.int x9)] [] (wmk s) r := by
  unfold wX11_filled_j130 at h
  refine gR_go 1 (pc1 := 131) (L1 := [some (.ref 153), some (.int w1), some (.int w2), some (.int w3), some (.int x4), some (.int x5), some (.int x6), some (.int x7), some (.int w8), some (.int x9)]) (st1 := [.int 0]) (fun _ _ => rfl) ?_
  exact wX11_filled_u131 ih he139 h
noncomputable def wX11_filled_h80 (x4 : Int32) (x5 : Int32) (x6 : Int32) (x7 : Int32) (s : wS) : Nat → Int32 → Int32 → Option (Int32)
  | 0, _, _ => none
  | n + 1, x8, x9 => (wX11_worlds s).bind fun t19 => if x9 < t19 then (if x6 = x7 then (some x8) else (if x8 = 0 then ((wldI s 165 512 x9).bind fun t24 => if t24 = 0 then (wX11_filled_j130 (wX11_filled_h80 x4 x5 x6 x7 s n) x4 x5 x6 x7 x9 s) else ((wX11_isNearer x4 x6 x7 x9 s).bind fun t26 => if t26 = 0 then (wX11_filled_j130 (wX11_filled_h80 x4 x5 x6 x7 s n) x4 x5 x6 x7 x9 s) else (wX11_filled_j131 (wX11_filled_h80 x4 x5 x6 x7 s n) x4 x5 x6 x7 x9 1 s))) else (some x8))) else (some x8)
theorem wX11_filled_t80 {x4 : Int32} {x5 : Int32} {x6 : Int32} {x7 : Int32} {s : wS} {x : Int32} {r : ri_R} (he139 : ∀ (x8 : Int32) (w1 : Int32) (w2 : Int32) (w3 : Int32) (w9 : Int32) , x = x8 → gRun 5 263 139 [some (.ref 153), some (.int w1), some (.int w2), some (.int w3), some (.int x4), some (.int x5), some (.int x6), some (.int x7), some (.int x8), some (.int w9)] [] (wmk s) r) : ∀ {n : Nat} {x8 : Int32} {x9 : Int32} {w1 : Int32} {w2 : Int32} {w3 : Int32} , wX11_filled_h80 x4 x5 x6 x7 s n x8 x9 = some x → gRun 5 263 80 [some (.ref 153), some (.int w1), some (.int w2), some (.int w3), some (.int x4), some (.int x5), some (.int x6), some (.int x7), some (.int x8), some (.int x9)] [] (wmk s) r := by
  intro n
  induction n with
  | zero => intro x8 x9 w1 w2 w3 h; cases (show (none : Option (Int32)) = some x from h)
  | succ n ih =>
    intro x8 x9 w1 w2 w3 h
    rw [wX11_filled_h80] at h
    refine gR_go 2 (pc1 := 83) (L1 := [some (.ref 153), some (.int w1), some (.int w2), some (.int w3), some (.int x4), some (.int x5), some (.int x6), some (.int x7), some (.int x8), some (.int x9)]) (st1 := [.ref 153, .int x9]) (fun _ _ => rfl) ?_
    obtain ⟨t19, e20, h⟩ := gb h
    refine gR_cvI (wX11_worlds_s e20) (Nat.le_of_ble_eq_true rfl) rfl rfl rfl rfl rfl ?_
    rcases gif h with ⟨c21, h⟩ | ⟨c21, h⟩
    · refine gR_ic_ge_f rfl c21 ?_
      refine gR_go 2 (pc1 := 93) (L1 := [some (.ref 153), some (.int w1), some (.int w2), some (.int w3), some (.int x4), some (.int x5), some (.int x6), some (.int x7), some (.int x8), some (.int x9)]) (st1 := [.int x7, .int x6]) (fun _ _ => rfl) ?_
      rcases gif h with ⟨c22, h⟩ | ⟨c22, h⟩
      · refine gR_ic_eq_j rfl c22 rfl ?_
        exact he139 _ _ _ _ _ (Option.some.inj h).symm
      · refine gR_ic_eq_f rfl c22 ?_
        refine gR_go 1 (pc1 := 98) (L1 := [some (.ref 153), some (.int w1), some (.int w2), some (.int w3), some (.int x4), some (.int x5), some (.int x6), some (.int x7), some (.int x8), some (.int x9)]) (st1 := [.int x8]) (fun _ _ => rfl) ?_
        rcases gif h with ⟨c23, h⟩ | ⟨c23, h⟩
        · refine gR_iz_ne_f rfl c23 ?_
          refine gR_go 1 (pc1 := 102) (L1 := [some (.ref 153), some (.int w1), some (.int w2), some (.int w3), some (.int x4), some (.int x5), some (.int x6), some (.int x7), some (.int x8), some (.int x9)]) (st1 := [.ref 153]) (fun _ _ => rfl) ?_
          refine gR_gfR (k := 152) (k' := 165) rfl rfl rfl rfl ?_
          refine gR_go 1 (pc1 := 107) (L1 := [some (.ref 153), some (.int w1), some (.int w2), some (.int w3), some (.int x4), some (.int x5), some (.int x6), some (.int x7), some (.int x8), some (.int x9)]) (st1 := [.int x9, .ref 166]) (fun _ _ => rfl) ?_
          obtain ⟨t24, et24, h⟩ := gb h
          refine gR_zal (k := 165) rfl rfl rfl et24 ?_
          rcases gif h with ⟨c25, h⟩ | ⟨c25, h⟩
          · refine gR_iz_eq_j rfl c25 rfl ?_
            exact wX11_filled_u130 ih he139 h
          · refine gR_iz_eq_f rfl c25 ?_
            refine gR_go 5 (pc1 := 120) (L1 := [some (.ref 153), some (.int w1), some (.int w2), some (.int w3), some (.int x4), some (.int x5), some (.int x6), some (.int x7), some (.int x8), some (.int x9)]) (st1 := [.int x9, .int x7, .int x6, .int x4, .ref 153]) (fun _ _ => rfl) ?_
            obtain ⟨t26, e27, h⟩ := gb h
            refine gR_cvI (wX11_isNearer_s e27) (Nat.le_of_ble_eq_true rfl) rfl rfl rfl rfl rfl ?_
            rcases gif h with ⟨c28, h⟩ | ⟨c28, h⟩
            · refine gR_iz_eq_j rfl c28 rfl ?_
              exact wX11_filled_u130 ih he139 h
            · refine gR_iz_eq_f rfl c28 ?_
              refine gR_go 2 (pc1 := 131) (L1 := [some (.ref 153), some (.int w1), some (.int w2), some (.int w3), some (.int x4), some (.int x5), some (.int x6), some (.int x7), some (.int x8), some (.int x9)]) (st1 := [.int 1]) (fun _ _ => rfl) ?_
              exact wX11_filled_u131 ih he139 h
        · refine gR_iz_ne_j rfl c23 rfl ?_
          exact he139 _ _ _ _ _ (Option.some.inj h).symm
    · refine gR_ic_ge_j rfl c21 rfl ?_
      exact he139 _ _ _ _ _ (Option.some.inj h).symm
noncomputable def wX11_filled_j151 (qq : Int32 → Int32 → Option (Int32)) (x4 : Int32) (x6 : Int32) (x7 : Int32) (y0 : Int32) (y1 : Int32) (s : wS) : Option (Int32) := qq (y0 + y1) (x7 + 1)
theorem wX11_filled_u151 {x4 : Int32} {x6 : Int32} {x7 : Int32} {y0 : Int32} {y1 : Int32} {s : wS} {w1 : Int32} {w2 : Int32} {w3 : Int32} {w5 : Int32} {w8 : Int32} {w9 : Int32} {qq : Int32 → Int32 → Option (Int32)} {x : Int32} {r : ri_R} (ih : ∀ {x5 : Int32} {x7 : Int32} {w1 : Int32} {w2 : Int32} {w3 : Int32} {w8 : Option Value} {w9 : Option Value} , qq x5 x7 = some x → gRun 5 263 62 [some (.ref 153), some (.int w1), some (.int w2), some (.int w3), some (.int x4), some (.int x5), some (.int x6), some (.int x7), w8, w9] [] (wmk s) r) (he160 : ∀ (x5 : Int32) (w1 : Int32) (w2 : Int32) (w3 : Int32) (w7 : Int32) (w8 : Option Value) (w9 : Option Value) , x = x5 → gRun 5 263 160 [some (.ref 153), some (.int w1), some (.int w2), some (.int w3), some (.int x4), some (.int x5), some (.int x6), some (.int w7), w8, w9] [] (wmk s) r) (h : wX11_filled_j151 qq x4 x6 x7 y0 y1 s = some x) : gRun 5 263 151 [some (.ref 153), some (.int w1), some (.int w2), some (.int w3), some (.int x4), some (.int w5), some (.int x6), some (.int x7), some (.int w8), some (.int w9)] [.int y1, .int y0] (wmk s) r := by
  unfold wX11_filled_j151 at h
  refine gR_go 4 (pc1 := 62) (L1 := [some (.ref 153), some (.int w1), some (.int w2), some (.int w3), some (.int x4), some (.int (y0 + y1)), some (.int x6), some (.int (x7 + 1)), some (.int w8), some (.int w9)]) (st1 := []) (fun _ _ => rfl) ?_
  exact ih h
noncomputable def wX11_filled_j139 (qq : Int32 → Int32 → Option (Int32)) (x4 : Int32) (x5 : Int32) (x6 : Int32) (x7 : Int32) (x8 : Int32) (s : wS) : Option (Int32) := if x8 = 0 then (wX11_filled_j151 qq x4 x6 x7 x5 0 s) else (wX11_filled_j151 qq x4 x6 x7 x5 1 s)
theorem wX11_filled_u139 {x4 : Int32} {x5 : Int32} {x6 : Int32} {x7 : Int32} {x8 : Int32} {s : wS} {w1 : Int32} {w2 : Int32} {w3 : Int32} {w9 : Int32} {qq : Int32 → Int32 → Option (Int32)} {x : Int32} {r : ri_R} (ih : ∀ {x5 : Int32} {x7 : Int32} {w1 : Int32} {w2 : Int32} {w3 : Int32} {w8 : Option Value} {w9 : Option Value} , qq x5 x7 = some x → gRun 5 263 62 [some (.ref 153), some (.int w1), some (.int w2), some (.int w3), some (.int x4), some (.int x5), some (.int x6), some (.int x7), w8, w9] [] (wmk s) r) (he160 : ∀ (x5 : Int32) (w1 : Int32) (w2 : Int32) (w3 : Int32) (w7 : Int32) (w8 : Option Value) (w9 : Option Value) , x = x5 → gRun 5 263 160 [some (.ref 153), some (.int w1), some (.int w2), some (.int w3), some (.int x4), some (.int x5), some (.int x6), some (.int w7), w8, w9] [] (wmk s) r) (h : wX11_filled_j139 qq x4 x5 x6 x7 x8 s = some x) : gRun 5 263 139 [some (.ref 153), some (.int w1), some (.int w2), some (.int w3), some (.int x4), some (.int x5), some (.int x6), some (.int x7), some (.int x8), some (.int w9)] [] (wmk s) r := by
  unfold wX11_filled_j139 at h
  refine gR_go 2 (pc1 := 143) (L1 := [some (.ref 153), some (.int w1), some (.int w2), some (.int w3), some (.int x4), some (.int x5), some (.int x6), some (.int x7), some (.int x8), some (.int w9)]) (st1 := [.int x8, .int x5]) (fun _ _ => rfl) ?_
  rcases gif h with ⟨c35, h⟩ | ⟨c35, h⟩
  · refine gR_iz_eq_j rfl c35 rfl ?_
    refine gR_go 1 (pc1 := 151) (L1 := [some (.ref 153), some (.int w1), some (.int w2), some (.int w3), some (.int x4), some (.int x5), some (.int x6), some (.int x7), some (.int x8), some (.int w9)]) (st1 := [.int 0, .int x5]) (fun _ _ => rfl) ?_
    exact wX11_filled_u151 ih he160 h
  · refine gR_iz_eq_f rfl c35 ?_
    refine gR_go 2 (pc1 := 151) (L1 := [some (.ref 153), some (.int w1), some (.int w2), some (.int w3), some (.int x4), some (.int x5), some (.int x6), some (.int x7), some (.int x8), some (.int w9)]) (st1 := [.int 1, .int x5]) (fun _ _ => rfl) ?_
    exact wX11_filled_u151 ih he160 h
noncomputable def wX11_filled_h62 (x4 : Int32) (x6 : Int32) (s : wS) : Nat → Int32 → Int32 → Option (Int32)
  | 0, _, _ => none
  | n + 1, x5, x7 => (wldI s 163 262 x4).bind fun t17 => if x7 < t17 then ((wX11_filled_h80 x4 x5 x6 x7 s wFuel 0 0).bind fun t30 => wX11_filled_j139 (wX11_filled_h62 x4 x6 s n) x4 x5 x6 x7 t30 s) else (some x5)
theorem wX11_filled_t62 {x4 : Int32} {x6 : Int32} {s : wS} {x : Int32} {r : ri_R} (he160 : ∀ (x5 : Int32) (w1 : Int32) (w2 : Int32) (w3 : Int32) (w7 : Int32) (w8 : Option Value) (w9 : Option Value) , x = x5 → gRun 5 263 160 [some (.ref 153), some (.int w1), some (.int w2), some (.int w3), some (.int x4), some (.int x5), some (.int x6), some (.int w7), w8, w9] [] (wmk s) r) : ∀ {n : Nat} {x5 : Int32} {x7 : Int32} {w1 : Int32} {w2 : Int32} {w3 : Int32} {w8 : Option Value} {w9 : Option Value} , wX11_filled_h62 x4 x6 s n x5 x7 = some x → gRun 5 263 62 [some (.ref 153), some (.int w1), some (.int w2), some (.int w3), some (.int x4), some (.int x5), some (.int x6), some (.int x7), w8, w9] [] (wmk s) r := by
  intro n
  induction n with
  | zero => intro x5 x7 w1 w2 w3 w8 w9 h; cases (show (none : Option (Int32)) = some x from h)
  | succ n ih =>
    intro x5 x7 w1 w2 w3 w8 w9 h
    rw [wX11_filled_h62] at h
    refine gR_go 2 (pc1 := 65) (L1 := [some (.ref 153), some (.int w1), some (.int w2), some (.int w3), some (.int x4), some (.int x5), some (.int x6), some (.int x7), w8, w9]) (st1 := [.ref 153, .int x7]) (fun _ _ => rfl) ?_
    refine gR_gfR (k := 152) (k' := 163) rfl rfl rfl rfl ?_
    refine gR_go 1 (pc1 := 70) (L1 := [some (.ref 153), some (.int w1), some (.int w2), some (.int w3), some (.int x4), some (.int x5), some (.int x6), some (.int x7), w8, w9]) (st1 := [.int x4, .ref 164, .int x7]) (fun _ _ => rfl) ?_
    obtain ⟨t17, et17, h⟩ := gb h
    refine gR_ial (k := 163) rfl rfl rfl et17 ?_
    rcases gif h with ⟨c18, h⟩ | ⟨c18, h⟩
    · refine gR_ic_ge_f rfl c18 ?_
      refine gR_go 4 (pc1 := 80) (L1 := [some (.ref 153), some (.int w1), some (.int w2), some (.int w3), some (.int x4), some (.int x5), some (.int x6), some (.int x7), some (.int 0), some (.int 0)]) (st1 := []) (fun _ _ => rfl) ?_
      obtain ⟨z29, ez29, h⟩ := gb h
      refine wX11_filled_t80 ?_  ez29
      · intro t30 w31 w32 w33 w34 hz
        replace hz := hz.symm
        subst hz
        exact wX11_filled_u139 ih he160 h
    · refine gR_ic_ge_j rfl c18 rfl ?_
      exact he160 _ _ _ _ _ _ _ (Option.some.inj h).symm
noncomputable def wX11_filled_h47 (x4 : Int32) (s : wS) : Nat → Int32 → Int32 → Option (Int32)
  | 0, _, _ => none
  | n + 1, x5, x6 => (wldI s 163 262 x4).bind fun t15 => if x6 < t15 then ((wX11_filled_h62 x4 x6 s wFuel x5 0).bind fun t37 => wX11_filled_h47 x4 s n t37 (x6 + 1)) else (some x5)
theorem wX11_filled_t47 {x4 : Int32} {s : wS} {x : Int32} {r : ri_R} (he166 : ∀ (x5 : Int32) (w1 : Int32) (w2 : Int32) (w3 : Int32) (w4 : Int32) (w6 : Int32) (w7 : Option Value) (w8 : Option Value) (w9 : Option Value) , x = x5 → gRun 5 263 166 [some (.ref 153), some (.int w1), some (.int w2), some (.int w3), some (.int w4), some (.int x5), some (.int w6), w7, w8, w9] [] (wmk s) r) : ∀ {n : Nat} {x5 : Int32} {x6 : Int32} {w1 : Int32} {w2 : Int32} {w3 : Int32} {w7 : Option Value} {w8 : Option Value} {w9 : Option Value} , wX11_filled_h47 x4 s n x5 x6 = some x → gRun 5 263 47 [some (.ref 153), some (.int w1), some (.int w2), some (.int w3), some (.int x4), some (.int x5), some (.int x6), w7, w8, w9] [] (wmk s) r := by
  intro n
  induction n with
  | zero => intro x5 x6 w1 w2 w3 w7 w8 w9 h; cases (show (none : Option (Int32)) = some x from h)
  | succ n ih =>
    intro x5 x6 w1 w2 w3 w7 w8 w9 h
    rw [wX11_filled_h47] at h
    refine gR_go 2 (pc1 := 50) (L1 := [some (.ref 153), some (.int w1), some (.int w2), some (.int w3), some (.int x4), some (.int x5), some (.int x6), w7, w8, w9]) (st1 := [.ref 153, .int x6]) (fun _ _ => rfl) ?_
    refine gR_gfR (k := 152) (k' := 163) rfl rfl rfl rfl ?_
    refine gR_go 1 (pc1 := 55) (L1 := [some (.ref 153), some (.int w1), some (.int w2), some (.int w3), some (.int x4), some (.int x5), some (.int x6), w7, w8, w9]) (st1 := [.int x4, .ref 164, .int x6]) (fun _ _ => rfl) ?_
    obtain ⟨t15, et15, h⟩ := gb h
    refine gR_ial (k := 163) rfl rfl rfl et15 ?_
    rcases gif h with ⟨c16, h⟩ | ⟨c16, h⟩
    · refine gR_ic_ge_f rfl c16 ?_
      refine gR_go 2 (pc1 := 62) (L1 := [some (.ref 153), some (.int w1), some (.int w2), some (.int w3), some (.int x4), some (.int x5), some (.int x6), some (.int 0), w8, w9]) (st1 := []) (fun _ _ => rfl) ?_
      obtain ⟨z36, ez36, h⟩ := gb h
      refine wX11_filled_t62 ?_  ez36
      · intro t37 w38 w39 w40 w41 w42 w43 hz
        replace hz := hz.symm
        subst hz
        refine gR_go 2 (pc1 := 47) (L1 := [some (.ref 153), some (.int w38), some (.int w39), some (.int w40), some (.int x4), some (.int t37), some (.int (x6 + 1)), some (.int w41), w42, w43]) (st1 := []) (fun _ _ => rfl) ?_
        exact ih h
    · refine gR_ic_ge_j rfl c16 rfl ?_
      exact he166 _ _ _ _ _ _ _ _ _ (Option.some.inj h).symm
noncomputable def wX11_filled (x1 : Int32) (x2 : Int32) (x3 : Int32) (s : wS) : Option (Int32 × wS) := (wX11_canAsk x1 s).bind fun t1 => if t1 = 0 then (some ((-1), s)) else ((wX11_isMany x2 s).bind fun t4 => if t4 = 0 then (some ((-1), s)) else ((wX11_isAnswer x3 s).bind fun t7 => if t7 = 0 then (some ((-1), s)) else ((wX11_keeps x1 x2 x3 s).bind fun (t10, s11) => (wX11_answerOf x3 1 s11).bind fun t13 => (wX11_filled_h47 t13 s11 wFuel 0 0).bind fun t45 => some (t45, s11))))
theorem wX11_filled_s {x1 : Int32} {x2 : Int32} {x3 : Int32} {s : wS} {rv : Int32} {rs : wS} (h : wX11_filled x1 x2 x3 s = some (rv, rs)) : gEv 6 263 [.ref 153, .int x1, .int x2, .int x3] (wmk s) (some (.int rv), wmk rs, 0, 0) := by
  refine gEv_of (d := 5) (L := [some (.ref 153), some (.int x1), some (.int x2), some (.int x3), none, none, none, none, none, none]) rfl ?_
  unfold wX11_filled at h
  refine gR_go 2 (pc1 := 2) (L1 := [some (.ref 153), some (.int x1), some (.int x2), some (.int x3), none, none, none, none, none, none]) (st1 := [.int x1, .ref 153]) (fun _ _ => rfl) ?_
  obtain ⟨t1, e2, h⟩ := gb h
  refine gR_cvI (wX11_canAsk_s e2) (Nat.le_of_ble_eq_true rfl) rfl rfl rfl rfl rfl ?_
  rcases gif h with ⟨c3, h⟩ | ⟨c3, h⟩
  · refine gR_iz_eq_j rfl c3 rfl ?_
    refine gR_go 1 (pc1 := 24) (L1 := [some (.ref 153), some (.int x1), some (.int x2), some (.int x3), none, none, none, none, none, none]) (st1 := [.int (-1)]) (fun _ _ => rfl) ?_
    obtain ⟨rfl, rfl⟩ := gi2 h
    exact gR_ri rfl rfl
  · refine gR_iz_eq_f rfl c3 ?_
    refine gR_go 1 (pc1 := 9) (L1 := [some (.ref 153), some (.int x1), some (.int x2), some (.int x3), none, none, none, none, none, none]) (st1 := [.int x2]) (fun _ _ => rfl) ?_
    obtain ⟨t4, e5, h⟩ := gb h
    refine gR_csI (wX11_isMany_s e5) (Nat.le_of_ble_eq_true rfl) rfl rfl rfl rfl ?_
    rcases gif h with ⟨c6, h⟩ | ⟨c6, h⟩
    · refine gR_iz_eq_j rfl c6 rfl ?_
      refine gR_go 1 (pc1 := 24) (L1 := [some (.ref 153), some (.int x1), some (.int x2), some (.int x3), none, none, none, none, none, none]) (st1 := [.int (-1)]) (fun _ _ => rfl) ?_
      obtain ⟨rfl, rfl⟩ := gi2 h
      exact gR_ri rfl rfl
    · refine gR_iz_eq_f rfl c6 ?_
      refine gR_go 2 (pc1 := 17) (L1 := [some (.ref 153), some (.int x1), some (.int x2), some (.int x3), none, none, none, none, none, none]) (st1 := [.int x3, .ref 153]) (fun _ _ => rfl) ?_
      obtain ⟨t7, e8, h⟩ := gb h
      refine gR_cvI (wX11_isAnswer_s e8) (Nat.le_of_ble_eq_true rfl) rfl rfl rfl rfl rfl ?_
      rcases gif h with ⟨c9, h⟩ | ⟨c9, h⟩
      · refine gR_iz_ne_f rfl c9 ?_
        refine gR_go 1 (pc1 := 24) (L1 := [some (.ref 153), some (.int x1), some (.int x2), some (.int x3), none, none, none, none, none, none]) (st1 := [.int (-1)]) (fun _ _ => rfl) ?_
        obtain ⟨rfl, rfl⟩ := gi2 h
        exact gR_ri rfl rfl
      · refine gR_iz_ne_j rfl c9 rfl ?_
        refine gR_go 4 (pc1 := 29) (L1 := [some (.ref 153), some (.int x1), some (.int x2), some (.int x3), none, none, none, none, none, none]) (st1 := [.int x3, .int x2, .int x1, .ref 153]) (fun _ _ => rfl) ?_
        obtain ⟨⟨t10, s11⟩, e12, h⟩ := gb h
        dsimp only at h
        refine gR_cvI (wX11_keeps_s e12) (Nat.le_of_ble_eq_true rfl) rfl rfl rfl rfl rfl ?_
        refine gR_go 4 (pc1 := 36) (L1 := [some (.ref 153), some (.int x1), some (.int x2), some (.int x3), none, none, none, none, none, none]) (st1 := [.int 1, .int x3, .ref 153]) (fun _ _ => rfl) ?_
        obtain ⟨t13, e14, h⟩ := gb h
        refine gR_cvI (wX11_answerOf_s e14) (Nat.le_of_ble_eq_true rfl) rfl rfl rfl rfl rfl ?_
        refine gR_go 5 (pc1 := 47) (L1 := [some (.ref 153), some (.int x1), some (.int x2), some (.int x3), some (.int t13), some (.int 0), some (.int 0), none, none, none]) (st1 := []) (fun _ _ => rfl) ?_
        obtain ⟨z44, ez44, h⟩ := gb h
        refine wX11_filled_t47 ?_  ez44
        · intro t45 w46 w47 w48 w49 w50 w51 w52 w53 hz
          replace hz := hz.symm
          subst hz
          refine gR_go 1 (pc1 := 168) (L1 := [some (.ref 153), some (.int w46), some (.int w47), some (.int w48), some (.int w49), some (.int t45), some (.int w50), w51, w52, w53]) (st1 := [.int t45]) (fun _ _ => rfl) ?_
          obtain ⟨rfl, rfl⟩ := gi2 h
          exact gR_ri rfl rfl
noncomputable def wX11_next_j59 (x4 : Int32) (y1 : Int32) (s : wS) : Option (Int32 × wS) := (wX11_asksNext y1 s).bind fun (t17, s18) => if t17 < 0 then (some (((Int8.ofInt (-2)).toInt32), s18)) else (if x4 < 3 then ((wldI s18 168 252 ((3 * t17) + x4)).bind fun t22 => some (t22, s18)) else ((wX11_greater (s18.1 152 34) (s18.1 152 35) s18).bind fun t23 => if x4 = 3 then (some (t23, s18)) else (some ((((s18.1 152 34) + (s18.1 152 35)) - t23), s18))))
theorem wX11_next_u59 {x4 : Int32} {y1 : Int32} {s : wS} {w1 : Int32} {w2 : Int32} {w3 : Int32} {w5 : Option Value} {w6 : Option Value} {rv : Int32} {rs : wS} (h : wX11_next_j59 x4 y1 s = some (rv, rs)) : gRun 5 264 59 [some (.ref 153), some (.int w1), some (.int w2), some (.int w3), some (.int x4), w5, w6] [.int y1, .ref 153] (wmk s) (some (.int rv), wmk rs, 0, 0) := by
  unfold wX11_next_j59 at h
  obtain ⟨⟨t17, s18⟩, e19, h⟩ := gb h
  dsimp only at h
  refine gR_cvI (wX11_asksNext_s e19) (Nat.le_of_ble_eq_true rfl) rfl rfl rfl rfl rfl ?_
  refine gR_go 2 (pc1 := 66) (L1 := [some (.ref 153), some (.int w1), some (.int w2), some (.int w3), some (.int x4), some (.int t17), w6]) (st1 := [.int t17]) (fun _ _ => rfl) ?_
  rcases gif h with ⟨c20, h⟩ | ⟨c20, h⟩
  · refine gR_iz_ge_f rfl c20 ?_
    refine gR_go 1 (pc1 := 71) (L1 := [some (.ref 153), some (.int w1), some (.int w2), some (.int w3), some (.int x4), some (.int t17), w6]) (st1 := [.int ((Int8.ofInt (-2)).toInt32)]) (fun _ _ => rfl) ?_
    obtain ⟨rfl, rfl⟩ := gi2 h
    exact gR_ri rfl rfl
  · refine gR_iz_ge_j rfl c20 rfl ?_
    refine gR_go 2 (pc1 := 75) (L1 := [some (.ref 153), some (.int w1), some (.int w2), some (.int w3), some (.int x4), some (.int t17), w6]) (st1 := [.int 3, .int x4]) (fun _ _ => rfl) ?_
    rcases gif h with ⟨c21, h⟩ | ⟨c21, h⟩
    · refine gR_ic_ge_f rfl c21 ?_
      refine gR_go 1 (pc1 := 79) (L1 := [some (.ref 153), some (.int w1), some (.int w2), some (.int w3), some (.int x4), some (.int t17), w6]) (st1 := [.ref 153]) (fun _ _ => rfl) ?_
      refine gR_gfR (k := 152) (k' := 168) rfl rfl rfl rfl ?_
      refine gR_go 5 (pc1 := 89) (L1 := [some (.ref 153), some (.int w1), some (.int w2), some (.int w3), some (.int x4), some (.int t17), w6]) (st1 := [.int ((3 * t17) + x4), .ref 169]) (fun _ _ => rfl) ?_
      obtain ⟨t22, et22, h⟩ := gb h
      refine gR_ial (k := 168) rfl rfl rfl et22 ?_
      obtain ⟨rfl, rfl⟩ := gi2 h
      exact gR_ri rfl rfl
    · refine gR_ic_ge_j rfl c21 rfl ?_
      refine gR_go 1 (pc1 := 92) (L1 := [some (.ref 153), some (.int w1), some (.int w2), some (.int w3), some (.int x4), some (.int t17), w6]) (st1 := [.ref 153]) (fun _ _ => rfl) ?_
      refine gR_gfI (k := 152) rfl rfl rfl ?_
      refine gR_go 1 (pc1 := 96) (L1 := [some (.ref 153), some (.int w1), some (.int w2), some (.int w3), some (.int x4), some (.int t17), w6]) (st1 := [.ref 153, .int (s18.1 152 34)]) (fun _ _ => rfl) ?_
      refine gR_gfI (k := 152) rfl rfl rfl ?_
      obtain ⟨t23, e24, h⟩ := gb h
      refine gR_csI (wX11_greater_s e24) (Nat.le_of_ble_eq_true rfl) rfl rfl rfl rfl ?_
      refine gR_go 3 (pc1 := 107) (L1 := [some (.ref 153), some (.int w1), some (.int w2), some (.int w3), some (.int x4), some (.int t17), some (.int t23)]) (st1 := [.int 3, .int x4]) (fun _ _ => rfl) ?_
      rcases gif h with ⟨c25, h⟩ | ⟨c25, h⟩
      · refine gR_ic_ne_f rfl c25 ?_
        refine gR_go 2 (pc1 := 127) (L1 := [some (.ref 153), some (.int w1), some (.int w2), some (.int w3), some (.int x4), some (.int t17), some (.int t23)]) (st1 := [.int t23]) (fun _ _ => rfl) ?_
        obtain ⟨rfl, rfl⟩ := gi2 h
        exact gR_ri rfl rfl
      · refine gR_ic_ne_j rfl c25 rfl ?_
        refine gR_go 1 (pc1 := 116) (L1 := [some (.ref 153), some (.int w1), some (.int w2), some (.int w3), some (.int x4), some (.int t17), some (.int t23)]) (st1 := [.ref 153]) (fun _ _ => rfl) ?_
        refine gR_gfI (k := 152) rfl rfl rfl ?_
        refine gR_go 1 (pc1 := 120) (L1 := [some (.ref 153), some (.int w1), some (.int w2), some (.int w3), some (.int x4), some (.int t17), some (.int t23)]) (st1 := [.ref 153, .int (s18.1 152 34)]) (fun _ _ => rfl) ?_
        refine gR_gfI (k := 152) rfl rfl rfl ?_
        refine gR_go 3 (pc1 := 127) (L1 := [some (.ref 153), some (.int w1), some (.int w2), some (.int w3), some (.int x4), some (.int t17), some (.int t23)]) (st1 := [.int (((s18.1 152 34) + (s18.1 152 35)) - t23)]) (fun _ _ => rfl) ?_
        obtain ⟨rfl, rfl⟩ := gi2 h
        exact gR_ri rfl rfl
noncomputable def wX11_next (x1 : Int32) (x2 : Int32) (x3 : Int32) (x4 : Int32) (s : wS) : Option (Int32 × wS) := (wX11_canAsk x1 s).bind fun t1 => if t1 = 0 then (some ((-1), s)) else ((wX11_isMany x2 s).bind fun t4 => if t4 = 0 then (some ((-1), s)) else ((wX11_in ((x3 : Int32).toInt64) 0 1 s).bind fun t7 => if t7 = 0 then (some ((-1), s)) else ((wX11_in ((x4 : Int32).toInt64) 0 4 s).bind fun t10 => if t10 = 0 then (some ((-1), s)) else ((wX11_keeps x1 x2 (-1) s).bind fun (t13, s14) => if x3 = 1 then (wX11_next_j59 x4 1 s14) else (wX11_next_j59 x4 0 s14)))))
theorem wX11_next_s {x1 : Int32} {x2 : Int32} {x3 : Int32} {x4 : Int32} {s : wS} {rv : Int32} {rs : wS} (h : wX11_next x1 x2 x3 x4 s = some (rv, rs)) : gEv 6 264 [.ref 153, .int x1, .int x2, .int x3, .int x4] (wmk s) (some (.int rv), wmk rs, 0, 0) := by
  refine gEv_of (d := 5) (L := [some (.ref 153), some (.int x1), some (.int x2), some (.int x3), some (.int x4), none, none]) rfl ?_
  unfold wX11_next at h
  refine gR_go 2 (pc1 := 2) (L1 := [some (.ref 153), some (.int x1), some (.int x2), some (.int x3), some (.int x4), none, none]) (st1 := [.int x1, .ref 153]) (fun _ _ => rfl) ?_
  obtain ⟨t1, e2, h⟩ := gb h
  refine gR_cvI (wX11_canAsk_s e2) (Nat.le_of_ble_eq_true rfl) rfl rfl rfl rfl rfl ?_
  rcases gif h with ⟨c3, h⟩ | ⟨c3, h⟩
  · refine gR_iz_eq_j rfl c3 rfl ?_
    refine gR_go 1 (pc1 := 39) (L1 := [some (.ref 153), some (.int x1), some (.int x2), some (.int x3), some (.int x4), none, none]) (st1 := [.int (-1)]) (fun _ _ => rfl) ?_
    obtain ⟨rfl, rfl⟩ := gi2 h
    exact gR_ri rfl rfl
  · refine gR_iz_eq_f rfl c3 ?_
    refine gR_go 1 (pc1 := 9) (L1 := [some (.ref 153), some (.int x1), some (.int x2), some (.int x3), some (.int x4), none, none]) (st1 := [.int x2]) (fun _ _ => rfl) ?_
    obtain ⟨t4, e5, h⟩ := gb h
    refine gR_csI (wX11_isMany_s e5) (Nat.le_of_ble_eq_true rfl) rfl rfl rfl rfl ?_
    rcases gif h with ⟨c6, h⟩ | ⟨c6, h⟩
    · refine gR_iz_eq_j rfl c6 rfl ?_
      refine gR_go 1 (pc1 := 39) (L1 := [some (.ref 153), some (.int x1), some (.int x2), some (.int x3), some (.int x4), none, none]) (st1 := [.int (-1)]) (fun _ _ => rfl) ?_
      obtain ⟨rfl, rfl⟩ := gi2 h
      exact gR_ri rfl rfl
    · refine gR_iz_eq_f rfl c6 ?_
      refine gR_go 4 (pc1 := 19) (L1 := [some (.ref 153), some (.int x1), some (.int x2), some (.int x3), some (.int x4), none, none]) (st1 := [.long 1, .long 0, .long ((x3 : Int32).toInt64)]) (fun _ _ => rfl) ?_
      obtain ⟨t7, e8, h⟩ := gb h
      refine gR_csI (wX11_in_s e8) (Nat.le_of_ble_eq_true rfl) rfl rfl rfl rfl ?_
      rcases gif h with ⟨c9, h⟩ | ⟨c9, h⟩
      · refine gR_iz_eq_j rfl c9 rfl ?_
        refine gR_go 1 (pc1 := 39) (L1 := [some (.ref 153), some (.int x1), some (.int x2), some (.int x3), some (.int x4), none, none]) (st1 := [.int (-1)]) (fun _ _ => rfl) ?_
        obtain ⟨rfl, rfl⟩ := gi2 h
        exact gR_ri rfl rfl
      · refine gR_iz_eq_f rfl c9 ?_
        refine gR_go 4 (pc1 := 32) (L1 := [some (.ref 153), some (.int x1), some (.int x2), some (.int x3), some (.int x4), none, none]) (st1 := [.long 4, .long 0, .long ((x4 : Int32).toInt64)]) (fun _ _ => rfl) ?_
        obtain ⟨t10, e11, h⟩ := gb h
        refine gR_csI (wX11_in_s e11) (Nat.le_of_ble_eq_true rfl) rfl rfl rfl rfl ?_
        rcases gif h with ⟨c12, h⟩ | ⟨c12, h⟩
        · refine gR_iz_ne_f rfl c12 ?_
          refine gR_go 1 (pc1 := 39) (L1 := [some (.ref 153), some (.int x1), some (.int x2), some (.int x3), some (.int x4), none, none]) (st1 := [.int (-1)]) (fun _ _ => rfl) ?_
          obtain ⟨rfl, rfl⟩ := gi2 h
          exact gR_ri rfl rfl
        · refine gR_iz_ne_j rfl c12 rfl ?_
          refine gR_go 4 (pc1 := 44) (L1 := [some (.ref 153), some (.int x1), some (.int x2), some (.int x3), some (.int x4), none, none]) (st1 := [.int (-1), .int x2, .int x1, .ref 153]) (fun _ _ => rfl) ?_
          obtain ⟨⟨t13, s14⟩, e15, h⟩ := gb h
          dsimp only at h
          refine gR_cvI (wX11_keeps_s e15) (Nat.le_of_ble_eq_true rfl) rfl rfl rfl rfl rfl ?_
          refine gR_go 4 (pc1 := 51) (L1 := [some (.ref 153), some (.int x1), some (.int x2), some (.int x3), some (.int x4), none, none]) (st1 := [.int 1, .int x3, .ref 153]) (fun _ _ => rfl) ?_
          rcases gif h with ⟨c16, h⟩ | ⟨c16, h⟩
          · refine gR_ic_ne_f rfl c16 ?_
            refine gR_go 2 (pc1 := 59) (L1 := [some (.ref 153), some (.int x1), some (.int x2), some (.int x3), some (.int x4), none, none]) (st1 := [.int 1, .ref 153]) (fun _ _ => rfl) ?_
            exact wX11_next_u59 h
          · refine gR_ic_ne_j rfl c16 rfl ?_
            refine gR_go 1 (pc1 := 59) (L1 := [some (.ref 153), some (.int x1), some (.int x2), some (.int x3), some (.int x4), none, none]) (st1 := [.int 0, .ref 153]) (fun _ _ => rfl) ?_
            exact wX11_next_u59 h
noncomputable def wX11_isOne (x1 : Int64) (s : wS) : Option (Int32) := if (x1 &&& (x1 - 1)) = 0 then (some 1) else (some 0)
theorem wX11_isOne_s {x1 : Int64} {s : wS} {rv : Int32} (h : wX11_isOne x1 s = some rv) : gEv 1 265 [.ref 153, .long x1] (wmk s) (some (.int rv), wmk s, 0, 0) := by
  refine gEv_of (d := 0) (L := [some (.ref 153), some (.long x1), none]) rfl ?_
  unfold wX11_isOne at h
  refine gR_go 7 (pc1 := 7) (L1 := [some (.ref 153), some (.long x1), none]) (st1 := [.int (lg_cmp (x1 &&& (x1 - 1)) 0)]) (fun _ _ => rfl) ?_
  rcases gif h with ⟨c1, h⟩ | ⟨c1, h⟩
  · refine gR_lc_ne_f rfl c1 ?_
    refine gR_go 2 (pc1 := 15) (L1 := [some (.ref 153), some (.long x1), none]) (st1 := [.int 1]) (fun _ _ => rfl) ?_
    obtain rfl := gi1 h
    exact gR_rzc rfl rfl rfl
  · refine gR_lc_ne_j rfl c1 rfl ?_
    refine gR_go 1 (pc1 := 15) (L1 := [some (.ref 153), some (.long x1), none]) (st1 := [.int 0]) (fun _ _ => rfl) ?_
    obtain rfl := gi1 h
    exact gR_rzc rfl rfl rfl
noncomputable def wX11_doesOne_j58 (qq : Int32 → Option ((Unit) ⊕ (Unit))) (x1 : Int64) (x3 : Int32) (s : wS) : Option ((Unit) ⊕ (Unit)) := qq (x3 + 1)
theorem wX11_doesOne_u58 {x1 : Int64} {x3 : Int32} {s : wS} {qq : Int32 → Option ((Unit) ⊕ (Unit))} {x : (Unit) ⊕ (Unit)} {r : ri_R} (ih : ∀ {x3 : Int32} , qq x3 = some x → gRun 1 266 12 [some (.ref 153), some (.long x1), none, some (.int x3)] [] (wmk s) r) (he64 : ∀ (w1 : Int64) (w3 : Int32) , x = .inl () → gRun 1 266 64 [some (.ref 153), some (.long w1), none, some (.int w3)] [] (wmk s) r) (he56 : ∀ (w1 : Int64) (w3 : Int32) , x = .inr () → gRun 1 266 56 [some (.ref 153), some (.long w1), none, some (.int w3)] [] (wmk s) r) (h : wX11_doesOne_j58 qq x1 x3 s = some x) : gRun 1 266 58 [some (.ref 153), some (.long x1), none, some (.int x3)] [] (wmk s) r := by
  unfold wX11_doesOne_j58 at h
  refine gR_go 2 (pc1 := 12) (L1 := [some (.ref 153), some (.long x1), none, some (.int (x3 + 1))]) (st1 := []) (fun _ _ => rfl) ?_
  exact ih h
noncomputable def wX11_doesOne_h12 (x1 : Int64) (s : wS) : Nat → Int32 → Option ((Unit) ⊕ (Unit))
  | 0, _ => none
  | n + 1, x3 => if x3 < (s.1 152 33) then ((wldL s 169 168 (2 * x3)).bind fun t5 => (wX11_isOne (x1 &&& t5) s).bind fun t6 => if t6 = 0 then (wX11_doesOne_j58 (wX11_doesOne_h12 x1 s n) x1 x3 s) else ((wldL s 169 168 ((2 * x3) + 1)).bind fun t9 => (wX11_isOne (x1 &&& t9) s).bind fun t10 => if t10 = 0 then (wX11_doesOne_j58 (wX11_doesOne_h12 x1 s n) x1 x3 s) else (some (.inr ())))) else (some (.inl ()))
theorem wX11_doesOne_t12 {x1 : Int64} {s : wS} {x : (Unit) ⊕ (Unit)} {r : ri_R} (he64 : ∀ (w1 : Int64) (w3 : Int32) , x = .inl () → gRun 1 266 64 [some (.ref 153), some (.long w1), none, some (.int w3)] [] (wmk s) r) (he56 : ∀ (w1 : Int64) (w3 : Int32) , x = .inr () → gRun 1 266 56 [some (.ref 153), some (.long w1), none, some (.int w3)] [] (wmk s) r) : ∀ {n : Nat} {x3 : Int32} , wX11_doesOne_h12 x1 s n x3 = some x → gRun 1 266 12 [some (.ref 153), some (.long x1), none, some (.int x3)] [] (wmk s) r := by
  intro n
  induction n with
  | zero => intro x3 h; cases (show (none : Option ((Unit) ⊕ (Unit))) = some x from h)
  | succ n ih =>
    intro x3 h
    rw [wX11_doesOne_h12] at h
    refine gR_go 2 (pc1 := 14) (L1 := [some (.ref 153), some (.long x1), none, some (.int x3)]) (st1 := [.ref 153, .int x3]) (fun _ _ => rfl) ?_
    refine gR_gfI (k := 152) rfl rfl rfl ?_
    rcases gif h with ⟨c4, h⟩ | ⟨c4, h⟩
    · refine gR_ic_ge_f rfl c4 ?_
      refine gR_go 3 (pc1 := 23) (L1 := [some (.ref 153), some (.long x1), none, some (.int x3)]) (st1 := [.ref 153, .long x1, .ref 153]) (fun _ _ => rfl) ?_
      refine gR_gfR (k := 152) (k' := 169) rfl rfl rfl rfl ?_
      refine gR_go 3 (pc1 := 29) (L1 := [some (.ref 153), some (.long x1), none, some (.int x3)]) (st1 := [.int (2 * x3), .ref 170, .long x1, .ref 153]) (fun _ _ => rfl) ?_
      obtain ⟨t5, et5, h⟩ := gb h
      refine gR_lal (k := 169) rfl rfl rfl et5 ?_
      refine gR_go 1 (pc1 := 31) (L1 := [some (.ref 153), some (.long x1), none, some (.int x3)]) (st1 := [.long (x1 &&& t5), .ref 153]) (fun _ _ => rfl) ?_
      obtain ⟨t6, e7, h⟩ := gb h
      refine gR_cvI (wX11_isOne_s e7) (Nat.le_of_ble_eq_true rfl) rfl rfl rfl rfl rfl ?_
      rcases gif h with ⟨c8, h⟩ | ⟨c8, h⟩
      · refine gR_iz_eq_j rfl c8 rfl ?_
        exact wX11_doesOne_u58 ih he64 he56 h
      · refine gR_iz_eq_f rfl c8 ?_
        refine gR_go 3 (pc1 := 40) (L1 := [some (.ref 153), some (.long x1), none, some (.int x3)]) (st1 := [.ref 153, .long x1, .ref 153]) (fun _ _ => rfl) ?_
        refine gR_gfR (k := 152) (k' := 169) rfl rfl rfl rfl ?_
        refine gR_go 5 (pc1 := 48) (L1 := [some (.ref 153), some (.long x1), none, some (.int x3)]) (st1 := [.int ((2 * x3) + 1), .ref 170, .long x1, .ref 153]) (fun _ _ => rfl) ?_
        obtain ⟨t9, et9, h⟩ := gb h
        refine gR_lal (k := 169) rfl rfl rfl et9 ?_
        refine gR_go 1 (pc1 := 50) (L1 := [some (.ref 153), some (.long x1), none, some (.int x3)]) (st1 := [.long (x1 &&& t9), .ref 153]) (fun _ _ => rfl) ?_
        obtain ⟨t10, e11, h⟩ := gb h
        refine gR_cvI (wX11_isOne_s e11) (Nat.le_of_ble_eq_true rfl) rfl rfl rfl rfl rfl ?_
        rcases gif h with ⟨c12, h⟩ | ⟨c12, h⟩
        · refine gR_iz_eq_j rfl c12 rfl ?_
          exact wX11_doesOne_u58 ih he64 he56 h
        · refine gR_iz_eq_f rfl c12 ?_
          exact he56 _ _ (Option.some.inj h).symm
    · refine gR_ic_ge_j rfl c4 rfl ?_
      exact he64 _ _ (Option.some.inj h).symm
noncomputable def wX11_doesOne (x1 : Int64) (s : wS) : Option (Int32) := (wX11_isOne x1 s).bind fun t1 => if t1 = 0 then ((wX11_doesOne_h12 x1 s wFuel 0).bind fun z13 => (match z13 with | .inl () => some 0 | .inr () => some 1)) else (some 1)
theorem wX11_doesOne_s {x1 : Int64} {s : wS} {rv : Int32} (h : wX11_doesOne x1 s = some rv) : gEv 2 266 [.ref 153, .long x1] (wmk s) (some (.int rv), wmk s, 0, 0) := by
  refine gEv_of (d := 1) (L := [some (.ref 153), some (.long x1), none, none]) rfl ?_
  unfold wX11_doesOne at h
  refine gR_go 2 (pc1 := 2) (L1 := [some (.ref 153), some (.long x1), none, none]) (st1 := [.long x1, .ref 153]) (fun _ _ => rfl) ?_
  obtain ⟨t1, e2, h⟩ := gb h
  refine gR_cvI (wX11_isOne_s e2) (Nat.le_of_ble_eq_true rfl) rfl rfl rfl rfl rfl ?_
  rcases gif h with ⟨c3, h⟩ | ⟨c3, h⟩
  · refine gR_iz_eq_j rfl c3 rfl ?_
    refine gR_go 2 (pc1 := 12) (L1 := [some (.ref 153), some (.long x1), none, some (.int 0)]) (st1 := []) (fun _ _ => rfl) ?_
    obtain ⟨z13, ez13, h⟩ := gb h
    refine wX11_doesOne_t12 ?_ ?_  ez13
    · intro w14 w15 hz
      replace hz := hz.symm
      subst hz
      dsimp only at h
      refine gR_go 1 (pc1 := 65) (L1 := [some (.ref 153), some (.long w14), none, some (.int w15)]) (st1 := [.int 0]) (fun _ _ => rfl) ?_
      obtain rfl := gi1 h
      exact gR_rzc rfl rfl rfl
    · intro w16 w17 hz
      replace hz := hz.symm
      subst hz
      dsimp only at h
      refine gR_go 1 (pc1 := 57) (L1 := [some (.ref 153), some (.long w16), none, some (.int w17)]) (st1 := [.int 1]) (fun _ _ => rfl) ?_
      obtain rfl := gi1 h
      exact gR_rzc rfl rfl rfl
  · refine gR_iz_eq_f rfl c3 ?_
    refine gR_go 1 (pc1 := 9) (L1 := [some (.ref 153), some (.long x1), none, none]) (st1 := [.int 1]) (fun _ _ => rfl) ?_
    obtain rfl := gi1 h
    exact gR_rzc rfl rfl rfl
noncomputable def wX11_doesTwo_j58 (qq : Int32 → Option ((Unit) ⊕ (Unit))) (x1 : Int64) (x3 : Int32) (s : wS) : Option ((Unit) ⊕ (Unit)) := qq (x3 + 1)
theorem wX11_doesTwo_u58 {x1 : Int64} {x3 : Int32} {s : wS} {qq : Int32 → Option ((Unit) ⊕ (Unit))} {x : (Unit) ⊕ (Unit)} {r : ri_R} (ih : ∀ {x3 : Int32} , qq x3 = some x → gRun 2 267 12 [some (.ref 153), some (.long x1), none, some (.int x3)] [] (wmk s) r) (he64 : ∀ (w1 : Int64) (w3 : Int32) , x = .inl () → gRun 2 267 64 [some (.ref 153), some (.long w1), none, some (.int w3)] [] (wmk s) r) (he56 : ∀ (w1 : Int64) (w3 : Int32) , x = .inr () → gRun 2 267 56 [some (.ref 153), some (.long w1), none, some (.int w3)] [] (wmk s) r) (h : wX11_doesTwo_j58 qq x1 x3 s = some x) : gRun 2 267 58 [some (.ref 153), some (.long x1), none, some (.int x3)] [] (wmk s) r := by
  unfold wX11_doesTwo_j58 at h
  refine gR_go 2 (pc1 := 12) (L1 := [some (.ref 153), some (.long x1), none, some (.int (x3 + 1))]) (st1 := []) (fun _ _ => rfl) ?_
  exact ih h
noncomputable def wX11_doesTwo_h12 (x1 : Int64) (s : wS) : Nat → Int32 → Option ((Unit) ⊕ (Unit))
  | 0, _ => none
  | n + 1, x3 => if x3 < (s.1 152 33) then ((wldL s 169 168 (2 * x3)).bind fun t5 => (wX11_doesOne (x1 &&& t5) s).bind fun t6 => if t6 = 0 then (wX11_doesTwo_j58 (wX11_doesTwo_h12 x1 s n) x1 x3 s) else ((wldL s 169 168 ((2 * x3) + 1)).bind fun t9 => (wX11_doesOne (x1 &&& t9) s).bind fun t10 => if t10 = 0 then (wX11_doesTwo_j58 (wX11_doesTwo_h12 x1 s n) x1 x3 s) else (some (.inr ())))) else (some (.inl ()))
theorem wX11_doesTwo_t12 {x1 : Int64} {s : wS} {x : (Unit) ⊕ (Unit)} {r : ri_R} (he64 : ∀ (w1 : Int64) (w3 : Int32) , x = .inl () → gRun 2 267 64 [some (.ref 153), some (.long w1), none, some (.int w3)] [] (wmk s) r) (he56 : ∀ (w1 : Int64) (w3 : Int32) , x = .inr () → gRun 2 267 56 [some (.ref 153), some (.long w1), none, some (.int w3)] [] (wmk s) r) : ∀ {n : Nat} {x3 : Int32} , wX11_doesTwo_h12 x1 s n x3 = some x → gRun 2 267 12 [some (.ref 153), some (.long x1), none, some (.int x3)] [] (wmk s) r := by
  intro n
  induction n with
  | zero => intro x3 h; cases (show (none : Option ((Unit) ⊕ (Unit))) = some x from h)
  | succ n ih =>
    intro x3 h
    rw [wX11_doesTwo_h12] at h
    refine gR_go 2 (pc1 := 14) (L1 := [some (.ref 153), some (.long x1), none, some (.int x3)]) (st1 := [.ref 153, .int x3]) (fun _ _ => rfl) ?_
    refine gR_gfI (k := 152) rfl rfl rfl ?_
    rcases gif h with ⟨c4, h⟩ | ⟨c4, h⟩
    · refine gR_ic_ge_f rfl c4 ?_
      refine gR_go 3 (pc1 := 23) (L1 := [some (.ref 153), some (.long x1), none, some (.int x3)]) (st1 := [.ref 153, .long x1, .ref 153]) (fun _ _ => rfl) ?_
      refine gR_gfR (k := 152) (k' := 169) rfl rfl rfl rfl ?_
      refine gR_go 3 (pc1 := 29) (L1 := [some (.ref 153), some (.long x1), none, some (.int x3)]) (st1 := [.int (2 * x3), .ref 170, .long x1, .ref 153]) (fun _ _ => rfl) ?_
      obtain ⟨t5, et5, h⟩ := gb h
      refine gR_lal (k := 169) rfl rfl rfl et5 ?_
      refine gR_go 1 (pc1 := 31) (L1 := [some (.ref 153), some (.long x1), none, some (.int x3)]) (st1 := [.long (x1 &&& t5), .ref 153]) (fun _ _ => rfl) ?_
      obtain ⟨t6, e7, h⟩ := gb h
      refine gR_cvI (wX11_doesOne_s e7) (Nat.le_of_ble_eq_true rfl) rfl rfl rfl rfl rfl ?_
      rcases gif h with ⟨c8, h⟩ | ⟨c8, h⟩
      · refine gR_iz_eq_j rfl c8 rfl ?_
        exact wX11_doesTwo_u58 ih he64 he56 h
      · refine gR_iz_eq_f rfl c8 ?_
        refine gR_go 3 (pc1 := 40) (L1 := [some (.ref 153), some (.long x1), none, some (.int x3)]) (st1 := [.ref 153, .long x1, .ref 153]) (fun _ _ => rfl) ?_
        refine gR_gfR (k := 152) (k' := 169) rfl rfl rfl rfl ?_
        refine gR_go 5 (pc1 := 48) (L1 := [some (.ref 153), some (.long x1), none, some (.int x3)]) (st1 := [.int ((2 * x3) + 1), .ref 170, .long x1, .ref 153]) (fun _ _ => rfl) ?_
        obtain ⟨t9, et9, h⟩ := gb h
        refine gR_lal (k := 169) rfl rfl rfl et9 ?_
        refine gR_go 1 (pc1 := 50) (L1 := [some (.ref 153), some (.long x1), none, some (.int x3)]) (st1 := [.long (x1 &&& t9), .ref 153]) (fun _ _ => rfl) ?_
        obtain ⟨t10, e11, h⟩ := gb h
        refine gR_cvI (wX11_doesOne_s e11) (Nat.le_of_ble_eq_true rfl) rfl rfl rfl rfl rfl ?_
        rcases gif h with ⟨c12, h⟩ | ⟨c12, h⟩
        · refine gR_iz_eq_j rfl c12 rfl ?_
          exact wX11_doesTwo_u58 ih he64 he56 h
        · refine gR_iz_eq_f rfl c12 ?_
          exact he56 _ _ (Option.some.inj h).symm
    · refine gR_ic_ge_j rfl c4 rfl ?_
      exact he64 _ _ (Option.some.inj h).symm
noncomputable def wX11_doesTwo (x1 : Int64) (s : wS) : Option (Int32) := (wX11_isOne x1 s).bind fun t1 => if t1 = 0 then ((wX11_doesTwo_h12 x1 s wFuel 0).bind fun z13 => (match z13 with | .inl () => some 0 | .inr () => some 1)) else (some 1)
theorem wX11_doesTwo_s {x1 : Int64} {s : wS} {rv : Int32} (h : wX11_doesTwo x1 s = some rv) : gEv 3 267 [.ref 153, .long x1] (wmk s) (some (.int rv), wmk s, 0, 0) := by
  refine gEv_of (d := 2) (L := [some (.ref 153), some (.long x1), none, none]) rfl ?_
  unfold wX11_doesTwo at h
  refine gR_go 2 (pc1 := 2) (L1 := [some (.ref 153), some (.long x1), none, none]) (st1 := [.long x1, .ref 153]) (fun _ _ => rfl) ?_
  obtain ⟨t1, e2, h⟩ := gb h
  refine gR_cvI (wX11_isOne_s e2) (Nat.le_of_ble_eq_true rfl) rfl rfl rfl rfl rfl ?_
  rcases gif h with ⟨c3, h⟩ | ⟨c3, h⟩
  · refine gR_iz_eq_j rfl c3 rfl ?_
    refine gR_go 2 (pc1 := 12) (L1 := [some (.ref 153), some (.long x1), none, some (.int 0)]) (st1 := []) (fun _ _ => rfl) ?_
    obtain ⟨z13, ez13, h⟩ := gb h
    refine wX11_doesTwo_t12 ?_ ?_  ez13
    · intro w14 w15 hz
      replace hz := hz.symm
      subst hz
      dsimp only at h
      refine gR_go 1 (pc1 := 65) (L1 := [some (.ref 153), some (.long w14), none, some (.int w15)]) (st1 := [.int 0]) (fun _ _ => rfl) ?_
      obtain rfl := gi1 h
      exact gR_rzc rfl rfl rfl
    · intro w16 w17 hz
      replace hz := hz.symm
      subst hz
      dsimp only at h
      refine gR_go 1 (pc1 := 57) (L1 := [some (.ref 153), some (.long w16), none, some (.int w17)]) (st1 := [.int 1]) (fun _ _ => rfl) ?_
      obtain rfl := gi1 h
      exact gR_rzc rfl rfl rfl
  · refine gR_iz_eq_f rfl c3 ?_
    refine gR_go 1 (pc1 := 9) (L1 := [some (.ref 153), some (.long x1), none, none]) (st1 := [.int 1]) (fun _ _ => rfl) ?_
    obtain rfl := gi1 h
    exact gR_rzc rfl rfl rfl
noncomputable def wX11_doesThree_j48 (qq : Int32 → Option ((Unit) ⊕ (Unit))) (x1 : Int64) (x3 : Int32) (s : wS) : Option ((Unit) ⊕ (Unit)) := qq (x3 + 1)
theorem wX11_doesThree_u48 {x1 : Int64} {x3 : Int32} {s : wS} {qq : Int32 → Option ((Unit) ⊕ (Unit))} {x : (Unit) ⊕ (Unit)} {r : ri_R} (ih : ∀ {x3 : Int32} , qq x3 = some x → gRun 3 268 2 [some (.ref 153), some (.long x1), none, some (.int x3)] [] (wmk s) r) (he54 : ∀ (w1 : Int64) (w3 : Int32) , x = .inl () → gRun 3 268 54 [some (.ref 153), some (.long w1), none, some (.int w3)] [] (wmk s) r) (he46 : ∀ (w1 : Int64) (w3 : Int32) , x = .inr () → gRun 3 268 46 [some (.ref 153), some (.long w1), none, some (.int w3)] [] (wmk s) r) (h : wX11_doesThree_j48 qq x1 x3 s = some x) : gRun 3 268 48 [some (.ref 153), some (.long x1), none, some (.int x3)] [] (wmk s) r := by
  unfold wX11_doesThree_j48 at h
  refine gR_go 2 (pc1 := 2) (L1 := [some (.ref 153), some (.long x1), none, some (.int (x3 + 1))]) (st1 := []) (fun _ _ => rfl) ?_
  exact ih h
noncomputable def wX11_doesThree_h2 (x1 : Int64) (s : wS) : Nat → Int32 → Option ((Unit) ⊕ (Unit))
  | 0, _ => none
  | n + 1, x3 => if x3 < (s.1 152 33) then ((wldL s 169 168 (2 * x3)).bind fun t2 => (wX11_doesTwo (x1 &&& t2) s).bind fun t3 => if t3 = 0 then (wX11_doesThree_j48 (wX11_doesThree_h2 x1 s n) x1 x3 s) else ((wldL s 169 168 ((2 * x3) + 1)).bind fun t6 => (wX11_doesTwo (x1 &&& t6) s).bind fun t7 => if t7 = 0 then (wX11_doesThree_j48 (wX11_doesThree_h2 x1 s n) x1 x3 s) else (some (.inr ())))) else (some (.inl ()))
theorem wX11_doesThree_t2 {x1 : Int64} {s : wS} {x : (Unit) ⊕ (Unit)} {r : ri_R} (he54 : ∀ (w1 : Int64) (w3 : Int32) , x = .inl () → gRun 3 268 54 [some (.ref 153), some (.long w1), none, some (.int w3)] [] (wmk s) r) (he46 : ∀ (w1 : Int64) (w3 : Int32) , x = .inr () → gRun 3 268 46 [some (.ref 153), some (.long w1), none, some (.int w3)] [] (wmk s) r) : ∀ {n : Nat} {x3 : Int32} , wX11_doesThree_h2 x1 s n x3 = some x → gRun 3 268 2 [some (.ref 153), some (.long x1), none, some (.int x3)] [] (wmk s) r := by
  intro n
  induction n with
  | zero => intro x3 h; cases (show (none : Option ((Unit) ⊕ (Unit))) = some x from h)
  | succ n ih =>
    intro x3 h
    rw [wX11_doesThree_h2] at h
    refine gR_go 2 (pc1 := 4) (L1 := [some (.ref 153), some (.long x1), none, some (.int x3)]) (st1 := [.ref 153, .int x3]) (fun _ _ => rfl) ?_
    refine gR_gfI (k := 152) rfl rfl rfl ?_
    rcases gif h with ⟨c1, h⟩ | ⟨c1, h⟩
    · refine gR_ic_ge_f rfl c1 ?_
      refine gR_go 3 (pc1 := 13) (L1 := [some (.ref 153), some (.long x1), none, some (.int x3)]) (st1 := [.ref 153, .long x1, .ref 153]) (fun _ _ => rfl) ?_
      refine gR_gfR (k := 152) (k' := 169) rfl rfl rfl rfl ?_
      refine gR_go 3 (pc1 := 19) (L1 := [some (.ref 153), some (.long x1), none, some (.int x3)]) (st1 := [.int (2 * x3), .ref 170, .long x1, .ref 153]) (fun _ _ => rfl) ?_
      obtain ⟨t2, et2, h⟩ := gb h
      refine gR_lal (k := 169) rfl rfl rfl et2 ?_
      refine gR_go 1 (pc1 := 21) (L1 := [some (.ref 153), some (.long x1), none, some (.int x3)]) (st1 := [.long (x1 &&& t2), .ref 153]) (fun _ _ => rfl) ?_
      obtain ⟨t3, e4, h⟩ := gb h
      refine gR_cvI (wX11_doesTwo_s e4) (Nat.le_of_ble_eq_true rfl) rfl rfl rfl rfl rfl ?_
      rcases gif h with ⟨c5, h⟩ | ⟨c5, h⟩
      · refine gR_iz_eq_j rfl c5 rfl ?_
        exact wX11_doesThree_u48 ih he54 he46 h
      · refine gR_iz_eq_f rfl c5 ?_
        refine gR_go 3 (pc1 := 30) (L1 := [some (.ref 153), some (.long x1), none, some (.int x3)]) (st1 := [.ref 153, .long x1, .ref 153]) (fun _ _ => rfl) ?_
        refine gR_gfR (k := 152) (k' := 169) rfl rfl rfl rfl ?_
        refine gR_go 5 (pc1 := 38) (L1 := [some (.ref 153), some (.long x1), none, some (.int x3)]) (st1 := [.int ((2 * x3) + 1), .ref 170, .long x1, .ref 153]) (fun _ _ => rfl) ?_
        obtain ⟨t6, et6, h⟩ := gb h
        refine gR_lal (k := 169) rfl rfl rfl et6 ?_
        refine gR_go 1 (pc1 := 40) (L1 := [some (.ref 153), some (.long x1), none, some (.int x3)]) (st1 := [.long (x1 &&& t6), .ref 153]) (fun _ _ => rfl) ?_
        obtain ⟨t7, e8, h⟩ := gb h
        refine gR_cvI (wX11_doesTwo_s e8) (Nat.le_of_ble_eq_true rfl) rfl rfl rfl rfl rfl ?_
        rcases gif h with ⟨c9, h⟩ | ⟨c9, h⟩
        · refine gR_iz_eq_j rfl c9 rfl ?_
          exact wX11_doesThree_u48 ih he54 he46 h
        · refine gR_iz_eq_f rfl c9 ?_
          exact he46 _ _ (Option.some.inj h).symm
    · refine gR_ic_ge_j rfl c1 rfl ?_
      exact he54 _ _ (Option.some.inj h).symm
noncomputable def wX11_doesThree (x1 : Int64) (s : wS) : Option (Int32) := (wX11_doesThree_h2 x1 s wFuel 0).bind fun z10 => (match z10 with | .inl () => some 0 | .inr () => some 1)
theorem wX11_doesThree_s {x1 : Int64} {s : wS} {rv : Int32} (h : wX11_doesThree x1 s = some rv) : gEv 4 268 [.ref 153, .long x1] (wmk s) (some (.int rv), wmk s, 0, 0) := by
  refine gEv_of (d := 3) (L := [some (.ref 153), some (.long x1), none, none]) rfl ?_
  unfold wX11_doesThree at h
  refine gR_go 2 (pc1 := 2) (L1 := [some (.ref 153), some (.long x1), none, some (.int 0)]) (st1 := []) (fun _ _ => rfl) ?_
  obtain ⟨z10, ez10, h⟩ := gb h
  refine wX11_doesThree_t2 ?_ ?_  ez10
  · intro w11 w12 hz
    replace hz := hz.symm
    subst hz
    dsimp only at h
    refine gR_go 1 (pc1 := 55) (L1 := [some (.ref 153), some (.long w11), none, some (.int w12)]) (st1 := [.int 0]) (fun _ _ => rfl) ?_
    obtain rfl := gi1 h
    exact gR_rzc rfl rfl rfl
  · intro w13 w14 hz
    replace hz := hz.symm
    subst hz
    dsimp only at h
    refine gR_go 1 (pc1 := 47) (L1 := [some (.ref 153), some (.long w13), none, some (.int w14)]) (st1 := [.int 1]) (fun _ _ => rfl) ?_
    obtain rfl := gi1 h
    exact gR_rzc rfl rfl rfl
noncomputable def wX11_needed_j125 (qq : Int32 → Int32 → wS → Option (wS)) (x3 : Int32) (x4 : Int32) (x5 : Int32) (x6 : Int32) (s : wS) : Option (wS) := qq x5 (x6 + 1) s
theorem wX11_needed_u125 {x3 : Int32} {x4 : Int32} {x5 : Int32} {x6 : Int32} {s : wS} {w1 : Int32} {w2 : Int32} {qq : Int32 → Int32 → wS → Option (wS)} {x : wS} {r : ri_R} (ih : ∀ {x5 : Int32} {x6 : Int32} {s : wS} {w1 : Int32} {w2 : Int32} , qq x5 x6 s = some x → gRun 5 269 65 [some (.ref 153), some (.int w1), some (.int w2), some (.int x3), some (.int x4), some (.int x5), some (.int x6)] [] (wmk s) r) (he131 : ∀ (s : wS) (w1 : Int32) (w2 : Int32) (w5 : Int32) (w6 : Int32) , x = s → gRun 5 269 131 [some (.ref 153), some (.int w1), some (.int w2), some (.int x3), some (.int x4), some (.int w5), some (.int w6)] [] (wmk s) r) (h : wX11_needed_j125 qq x3 x4 x5 x6 s = some x) : gRun 5 269 125 [some (.ref 153), some (.int w1), some (.int w2), some (.int x3), some (.int x4), some (.int x5), some (.int x6)] [] (wmk s) r := by
  unfold wX11_needed_j125 at h
  refine gR_go 2 (pc1 := 65) (L1 := [some (.ref 153), some (.int w1), some (.int w2), some (.int x3), some (.int x4), some (.int x5), some (.int (x6 + 1))]) (st1 := []) (fun _ _ => rfl) ?_
  exact ih h
noncomputable def wX11_needed_j120 (qq : Int32 → Int32 → wS → Option (wS)) (x3 : Int32) (x4 : Int32) (x5 : Int32) (x6 : Int32) (y1 : Int32) (y2 : Int64) (y3 : Int64) (s : wS) : Option (wS) := (wstL s 169 168 y1 (y2 ||| y3)).bind fun s25 => wX11_needed_j125 qq x3 x4 (x5 + 1) x6 s25
theorem wX11_needed_u120 {x3 : Int32} {x4 : Int32} {x5 : Int32} {x6 : Int32} {y1 : Int32} {y2 : Int64} {y3 : Int64} {s : wS} {w1 : Int32} {w2 : Int32} {qq : Int32 → Int32 → wS → Option (wS)} {x : wS} {r : ri_R} (ih : ∀ {x5 : Int32} {x6 : Int32} {s : wS} {w1 : Int32} {w2 : Int32} , qq x5 x6 s = some x → gRun 5 269 65 [some (.ref 153), some (.int w1), some (.int w2), some (.int x3), some (.int x4), some (.int x5), some (.int x6)] [] (wmk s) r) (he131 : ∀ (s : wS) (w1 : Int32) (w2 : Int32) (w5 : Int32) (w6 : Int32) , x = s → gRun 5 269 131 [some (.ref 153), some (.int w1), some (.int w2), some (.int x3), some (.int x4), some (.int w5), some (.int w6)] [] (wmk s) r) (h : wX11_needed_j120 qq x3 x4 x5 x6 y1 y2 y3 s = some x) : gRun 5 269 120 [some (.ref 153), some (.int w1), some (.int w2), some (.int x3), some (.int x4), some (.int x5), some (.int x6)] [.long y3, .long y2, .int y1, .ref 170] (wmk s) r := by
  unfold wX11_needed_j120 at h
  refine gR_go 1 (pc1 := 121) (L1 := [some (.ref 153), some (.int w1), some (.int w2), some (.int x3), some (.int x4), some (.int x5), some (.int x6)]) (st1 := [.long (y2 ||| y3), .int y1, .ref 170]) (fun _ _ => rfl) ?_
  obtain ⟨s25, es25, h⟩ := gb h
  refine gR_las (k := 169) rfl rfl rfl es25 ?_
  refine gR_go 1 (pc1 := 125) (L1 := [some (.ref 153), some (.int w1), some (.int w2), some (.int x3), some (.int x4), some (.int (x5 + 1)), some (.int x6)]) (st1 := []) (fun _ _ => rfl) ?_
  exact wX11_needed_u125 ih he131 h
noncomputable def wX11_needed_h65 (x3 : Int32) (x4 : Int32) : Nat → Int32 → Int32 → wS → Option (wS)
  | 0, _, _, _ => none
  | n + 1, x5, x6, s => (wX11_worlds s).bind fun t16 => if x6 < t16 then ((wldI s 165 512 x6).bind fun t19 => if t19 = 0 then (wX11_needed_j125 (wX11_needed_h65 x3 x4 n) x3 x4 x5 x6 s) else ((wldL s 169 168 x4).bind fun t21 => (wX11_leaves (x4 / 2) (x4 - x4 / 2 * 2) x6 s).bind fun t22 => if t22 = 0 then (wX11_needed_j120 (wX11_needed_h65 x3 x4 n) x3 x4 x5 x6 x4 t21 0 s) else (wX11_needed_j120 (wX11_needed_h65 x3 x4 n) x3 x4 x5 x6 x4 t21 (1 <<< ((x5 : Int32).toInt64 &&& 63)) s))) else (some s)
theorem wX11_needed_t65 {x3 : Int32} {x4 : Int32} {x : wS} {r : ri_R} (he131 : ∀ (s : wS) (w1 : Int32) (w2 : Int32) (w5 : Int32) (w6 : Int32) , x = s → gRun 5 269 131 [some (.ref 153), some (.int w1), some (.int w2), some (.int x3), some (.int x4), some (.int w5), some (.int w6)] [] (wmk s) r) : ∀ {n : Nat} {x5 : Int32} {x6 : Int32} {s : wS} {w1 : Int32} {w2 : Int32} , wX11_needed_h65 x3 x4 n x5 x6 s = some x → gRun 5 269 65 [some (.ref 153), some (.int w1), some (.int w2), some (.int x3), some (.int x4), some (.int x5), some (.int x6)] [] (wmk s) r := by
  intro n
  induction n with
  | zero => intro x5 x6 s w1 w2 h; cases (show (none : Option (wS)) = some x from h)
  | succ n ih =>
    intro x5 x6 s w1 w2 h
    rw [wX11_needed_h65] at h
    refine gR_go 2 (pc1 := 68) (L1 := [some (.ref 153), some (.int w1), some (.int w2), some (.int x3), some (.int x4), some (.int x5), some (.int x6)]) (st1 := [.ref 153, .int x6]) (fun _ _ => rfl) ?_
    obtain ⟨t16, e17, h⟩ := gb h
    refine gR_cvI (wX11_worlds_s e17) (Nat.le_of_ble_eq_true rfl) rfl rfl rfl rfl rfl ?_
    rcases gif h with ⟨c18, h⟩ | ⟨c18, h⟩
    · refine gR_ic_ge_f rfl c18 ?_
      refine gR_go 1 (pc1 := 75) (L1 := [some (.ref 153), some (.int w1), some (.int w2), some (.int x3), some (.int x4), some (.int x5), some (.int x6)]) (st1 := [.ref 153]) (fun _ _ => rfl) ?_
      refine gR_gfR (k := 152) (k' := 165) rfl rfl rfl rfl ?_
      refine gR_go 1 (pc1 := 80) (L1 := [some (.ref 153), some (.int w1), some (.int w2), some (.int x3), some (.int x4), some (.int x5), some (.int x6)]) (st1 := [.int x6, .ref 166]) (fun _ _ => rfl) ?_
      obtain ⟨t19, et19, h⟩ := gb h
      refine gR_zal (k := 165) rfl rfl rfl et19 ?_
      rcases gif h with ⟨c20, h⟩ | ⟨c20, h⟩
      · refine gR_iz_ne_f rfl c20 ?_
        refine gR_go 1 (pc1 := 125) (L1 := [some (.ref 153), some (.int w1), some (.int w2), some (.int x3), some (.int x4), some (.int x5), some (.int x6)]) (st1 := []) (fun _ _ => rfl) ?_
        exact wX11_needed_u125 ih he131 h
      · refine gR_iz_ne_j rfl c20 rfl ?_
        refine gR_go 1 (pc1 := 88) (L1 := [some (.ref 153), some (.int w1), some (.int w2), some (.int x3), some (.int x4), some (.int x5), some (.int x6)]) (st1 := [.ref 153]) (fun _ _ => rfl) ?_
        refine gR_gfR (k := 152) (k' := 169) rfl rfl rfl rfl ?_
        refine gR_go 2 (pc1 := 94) (L1 := [some (.ref 153), some (.int w1), some (.int w2), some (.int x3), some (.int x4), some (.int x5), some (.int x6)]) (st1 := [.int x4, .ref 170, .int x4, .ref 170]) (fun _ _ => rfl) ?_
        obtain ⟨t21, et21, h⟩ := gb h
        refine gR_lal (k := 169) rfl rfl rfl et21 ?_
        refine gR_go 3 (pc1 := 99) (L1 := [some (.ref 153), some (.int w1), some (.int w2), some (.int x3), some (.int x4), some (.int x5), some (.int x6)]) (st1 := [.int 2, .int x4, .ref 153, .long t21, .int x4, .ref 170]) (fun _ _ => rfl) ?_
        refine gR_dvIc rfl (by decide) ?_
        refine gR_go 2 (pc1 := 103) (L1 := [some (.ref 153), some (.int w1), some (.int w2), some (.int x3), some (.int x4), some (.int x5), some (.int x6)]) (st1 := [.int 2, .int x4, .int (x4 / 2), .ref 153, .long t21, .int x4, .ref 170]) (fun _ _ => rfl) ?_
        refine gR_rmIc rfl (by decide) ?_
        refine gR_go 1 (pc1 := 106) (L1 := [some (.ref 153), some (.int w1), some (.int w2), some (.int x3), some (.int x4), some (.int x5), some (.int x6)]) (st1 := [.int x6, .int (x4 - x4 / 2 * 2), .int (x4 / 2), .ref 153, .long t21, .int x4, .ref 170]) (fun _ _ => rfl) ?_
        obtain ⟨t22, e23, h⟩ := gb h
        refine gR_cvI (wX11_leaves_s e23) (Nat.le_of_ble_eq_true rfl) rfl rfl rfl rfl rfl ?_
        rcases gif h with ⟨c24, h⟩ | ⟨c24, h⟩
        · refine gR_iz_eq_j rfl c24 rfl ?_
          refine gR_go 1 (pc1 := 120) (L1 := [some (.ref 153), some (.int w1), some (.int w2), some (.int x3), some (.int x4), some (.int x5), some (.int x6)]) (st1 := [.long 0, .long t21, .int x4, .ref 170]) (fun _ _ => rfl) ?_
          exact wX11_needed_u120 ih he131 h
        · refine gR_iz_eq_f rfl c24 ?_
          refine gR_go 4 (pc1 := 120) (L1 := [some (.ref 153), some (.int w1), some (.int w2), some (.int x3), some (.int x4), some (.int x5), some (.int x6)]) (st1 := [.long (1 <<< ((x5 : Int32).toInt64 &&& 63)), .long t21, .int x4, .ref 170]) (fun _ _ => rfl) ?_
          exact wX11_needed_u120 ih he131 h
    · refine gR_ic_ge_j rfl c18 rfl ?_
      exact he131 _ _ _ _ _ (Option.some.inj h).symm
noncomputable def wX11_needed_h40 (x3 : Int32) : Nat → Int32 → wS → Option (wS)
  | 0, _, _ => none
  | n + 1, x4, s => if x4 < (2 * (s.1 152 33)) then ((wstL s 169 168 x4 0).bind fun s15 => (wX11_needed_h65 x3 x4 wFuel 0 0 s15).bind fun s27 => wX11_needed_h40 x3 n (x4 + 1) s27) else (some s)
theorem wX11_needed_t40 {x3 : Int32} {x : wS} {r : ri_R} (he137 : ∀ (s : wS) (w1 : Int32) (w2 : Int32) (w4 : Int32) (w5 : Option Value) (w6 : Option Value) , x = s → gRun 5 269 137 [some (.ref 153), some (.int w1), some (.int w2), some (.int x3), some (.int w4), w5, w6] [] (wmk s) r) : ∀ {n : Nat} {x4 : Int32} {s : wS} {w1 : Int32} {w2 : Int32} {w5 : Option Value} {w6 : Option Value} , wX11_needed_h40 x3 n x4 s = some x → gRun 5 269 40 [some (.ref 153), some (.int w1), some (.int w2), some (.int x3), some (.int x4), w5, w6] [] (wmk s) r := by
  intro n
  induction n with
  | zero => intro x4 s w1 w2 w5 w6 h; cases (show (none : Option (wS)) = some x from h)
  | succ n ih =>
    intro x4 s w1 w2 w5 w6 h
    rw [wX11_needed_h40] at h
    refine gR_go 3 (pc1 := 44) (L1 := [some (.ref 153), some (.int w1), some (.int w2), some (.int x3), some (.int x4), w5, w6]) (st1 := [.ref 153, .int 2, .int x4]) (fun _ _ => rfl) ?_
    refine gR_gfI (k := 152) rfl rfl rfl ?_
    refine gR_go 1 (pc1 := 48) (L1 := [some (.ref 153), some (.int w1), some (.int w2), some (.int x3), some (.int x4), w5, w6]) (st1 := [.int (2 * (s.1 152 33)), .int x4]) (fun _ _ => rfl) ?_
    rcases gif h with ⟨c14, h⟩ | ⟨c14, h⟩
    · refine gR_ic_ge_f rfl c14 ?_
      refine gR_go 1 (pc1 := 52) (L1 := [some (.ref 153), some (.int w1), some (.int w2), some (.int x3), some (.int x4), w5, w6]) (st1 := [.ref 153]) (fun _ _ => rfl) ?_
      refine gR_gfR (k := 152) (k' := 169) rfl rfl rfl rfl ?_
      refine gR_go 2 (pc1 := 58) (L1 := [some (.ref 153), some (.int w1), some (.int w2), some (.int x3), some (.int x4), w5, w6]) (st1 := [.long 0, .int x4, .ref 170]) (fun _ _ => rfl) ?_
      obtain ⟨s15, es15, h⟩ := gb h
      refine gR_las (k := 169) rfl rfl rfl es15 ?_
      refine gR_go 4 (pc1 := 65) (L1 := [some (.ref 153), some (.int w1), some (.int w2), some (.int x3), some (.int x4), some (.int 0), some (.int 0)]) (st1 := []) (fun _ _ => rfl) ?_
      obtain ⟨z26, ez26, h⟩ := gb h
      refine wX11_needed_t65 ?_  ez26
      · intro s27 w28 w29 w30 w31 hz
        replace hz := hz.symm
        subst hz
        refine gR_go 2 (pc1 := 40) (L1 := [some (.ref 153), some (.int w28), some (.int w29), some (.int x3), some (.int (x4 + 1)), some (.int w30), some (.int w31)]) (st1 := []) (fun _ _ => rfl) ?_
        exact ih h
    · refine gR_ic_ge_j rfl c14 rfl ?_
      exact he137 _ _ _ _ _ _ (Option.some.inj h).symm
noncomputable def wX11_needed_j154 (y0 : Int64) (s : wS) : Option (Int32 × wS) := (wX11_isOne y0 s).bind fun t40 => if t40 = 0 then ((wX11_doesOne y0 s).bind fun t43 => if t43 = 0 then ((wX11_doesTwo y0 s).bind fun t46 => if t46 = 0 then ((wX11_doesThree y0 s).bind fun t49 => if t49 = 0 then (some (((Int8.ofInt (-2)).toInt32), s)) else (some (3, s))) else (some (2, s))) else (some (1, s))) else (some (0, s))
theorem wX11_needed_u154 {y0 : Int64} {s : wS} {w1 : Int32} {w2 : Int32} {w3 : Int32} {w4 : Int32} {w5 : Option Value} {w6 : Option Value} {rv : Int32} {rs : wS} (h : wX11_needed_j154 y0 s = some (rv, rs)) : gRun 5 269 154 [some (.ref 153), some (.int w1), some (.int w2), some (.int w3), some (.int w4), w5, w6] [.long y0] (wmk s) (some (.int rv), wmk rs, 0, 0) := by
  unfold wX11_needed_j154 at h
  refine gR_go 3 (pc1 := 159) (L1 := [some (.ref 153), some (.int w1), some (.int w2), some (.int w3), some (.long y0), none, w6]) (st1 := [.long y0, .ref 153]) (fun _ _ => rfl) ?_
  obtain ⟨t40, e41, h⟩ := gb h
  refine gR_cvI (wX11_isOne_s e41) (Nat.le_of_ble_eq_true rfl) rfl rfl rfl rfl rfl ?_
  rcases gif h with ⟨c42, h⟩ | ⟨c42, h⟩
  · refine gR_iz_eq_j rfl c42 rfl ?_
    refine gR_go 2 (pc1 := 170) (L1 := [some (.ref 153), some (.int w1), some (.int w2), some (.int w3), some (.long y0), none, w6]) (st1 := [.long y0, .ref 153]) (fun _ _ => rfl) ?_
    obtain ⟨t43, e44, h⟩ := gb h
    refine gR_cvI (wX11_doesOne_s e44) (Nat.le_of_ble_eq_true rfl) rfl rfl rfl rfl rfl ?_
    rcases gif h with ⟨c45, h⟩ | ⟨c45, h⟩
    · refine gR_iz_eq_j rfl c45 rfl ?_
      refine gR_go 2 (pc1 := 183) (L1 := [some (.ref 153), some (.int w1), some (.int w2), some (.int w3), some (.long y0), none, w6]) (st1 := [.long y0, .ref 153]) (fun _ _ => rfl) ?_
      obtain ⟨t46, e47, h⟩ := gb h
      refine gR_cvI (wX11_doesTwo_s e47) (Nat.le_of_ble_eq_true rfl) rfl rfl rfl rfl rfl ?_
      rcases gif h with ⟨c48, h⟩ | ⟨c48, h⟩
      · refine gR_iz_eq_j rfl c48 rfl ?_
        refine gR_go 2 (pc1 := 196) (L1 := [some (.ref 153), some (.int w1), some (.int w2), some (.int w3), some (.long y0), none, w6]) (st1 := [.long y0, .ref 153]) (fun _ _ => rfl) ?_
        obtain ⟨t49, e50, h⟩ := gb h
        refine gR_cvI (wX11_doesThree_s e50) (Nat.le_of_ble_eq_true rfl) rfl rfl rfl rfl rfl ?_
        rcases gif h with ⟨c51, h⟩ | ⟨c51, h⟩
        · refine gR_iz_eq_j rfl c51 rfl ?_
          refine gR_go 1 (pc1 := 208) (L1 := [some (.ref 153), some (.int w1), some (.int w2), some (.int w3), some (.long y0), none, w6]) (st1 := [.int ((Int8.ofInt (-2)).toInt32)]) (fun _ _ => rfl) ?_
          obtain ⟨rfl, rfl⟩ := gi2 h
          exact gR_ri rfl rfl
        · refine gR_iz_eq_f rfl c51 ?_
          refine gR_go 2 (pc1 := 208) (L1 := [some (.ref 153), some (.int w1), some (.int w2), some (.int w3), some (.long y0), none, w6]) (st1 := [.int 3]) (fun _ _ => rfl) ?_
          obtain ⟨rfl, rfl⟩ := gi2 h
          exact gR_ri rfl rfl
      · refine gR_iz_eq_f rfl c48 ?_
        refine gR_go 2 (pc1 := 208) (L1 := [some (.ref 153), some (.int w1), some (.int w2), some (.int w3), some (.long y0), none, w6]) (st1 := [.int 2]) (fun _ _ => rfl) ?_
        obtain ⟨rfl, rfl⟩ := gi2 h
        exact gR_ri rfl rfl
    · refine gR_iz_eq_f rfl c45 ?_
      refine gR_go 2 (pc1 := 208) (L1 := [some (.ref 153), some (.int w1), some (.int w2), some (.int w3), some (.long y0), none, w6]) (st1 := [.int 1]) (fun _ _ => rfl) ?_
      obtain ⟨rfl, rfl⟩ := gi2 h
      exact gR_ri rfl rfl
  · refine gR_iz_eq_f rfl c42 ?_
    refine gR_go 1 (pc1 := 166) (L1 := [some (.ref 153), some (.int w1), some (.int w2), some (.int w3), some (.long y0), none, w6]) (st1 := [.int 0]) (fun _ _ => rfl) ?_
    obtain ⟨rfl, rfl⟩ := gi2 h
    exact gR_ri rfl rfl
noncomputable def wX11_needed (x1 : Int32) (x2 : Int32) (s : wS) : Option (Int32 × wS) := (wX11_canAsk x1 s).bind fun t1 => if t1 = 0 then (some ((-1), s)) else ((wX11_isMany x2 s).bind fun t4 => if t4 = 0 then (some ((-1), s)) else ((wX11_keeps x1 x2 (-1) s).bind fun (t7, s8) => if 64 < t7 then (some ((-1), s8)) else ((wX11_gathers s8).bind fun s12 => (wX11_needed_h40 t7 wFuel 0 s12).bind fun s33 => if t7 = 64 then (wX11_needed_j154 (-1) s33) else (wX11_needed_j154 ((1 <<< ((t7 : Int32).toInt64 &&& 63)) - 1) s33))))
theorem wX11_needed_s {x1 : Int32} {x2 : Int32} {s : wS} {rv : Int32} {rs : wS} (h : wX11_needed x1 x2 s = some (rv, rs)) : gEv 6 269 [.ref 153, .int x1, .int x2] (wmk s) (some (.int rv), wmk rs, 0, 0) := by
  refine gEv_of (d := 5) (L := [some (.ref 153), some (.int x1), some (.int x2), none, none, none, none]) rfl ?_
  unfold wX11_needed at h
  refine gR_go 2 (pc1 := 2) (L1 := [some (.ref 153), some (.int x1), some (.int x2), none, none, none, none]) (st1 := [.int x1, .ref 153]) (fun _ _ => rfl) ?_
  obtain ⟨t1, e2, h⟩ := gb h
  refine gR_cvI (wX11_canAsk_s e2) (Nat.le_of_ble_eq_true rfl) rfl rfl rfl rfl rfl ?_
  rcases gif h with ⟨c3, h⟩ | ⟨c3, h⟩
  · refine gR_iz_eq_j rfl c3 rfl ?_
    refine gR_go 1 (pc1 := 16) (L1 := [some (.ref 153), some (.int x1), some (.int x2), none, none, none, none]) (st1 := [.int (-1)]) (fun _ _ => rfl) ?_
    obtain ⟨rfl, rfl⟩ := gi2 h
    exact gR_ri rfl rfl
  · refine gR_iz_eq_f rfl c3 ?_
    refine gR_go 1 (pc1 := 9) (L1 := [some (.ref 153), some (.int x1), some (.int x2), none, none, none, none]) (st1 := [.int x2]) (fun _ _ => rfl) ?_
    obtain ⟨t4, e5, h⟩ := gb h
    refine gR_csI (wX11_isMany_s e5) (Nat.le_of_ble_eq_true rfl) rfl rfl rfl rfl ?_
    rcases gif h with ⟨c6, h⟩ | ⟨c6, h⟩
    · refine gR_iz_ne_f rfl c6 ?_
      refine gR_go 1 (pc1 := 16) (L1 := [some (.ref 153), some (.int x1), some (.int x2), none, none, none, none]) (st1 := [.int (-1)]) (fun _ _ => rfl) ?_
      obtain ⟨rfl, rfl⟩ := gi2 h
      exact gR_ri rfl rfl
    · refine gR_iz_ne_j rfl c6 rfl ?_
      refine gR_go 4 (pc1 := 21) (L1 := [some (.ref 153), some (.int x1), some (.int x2), none, none, none, none]) (st1 := [.int (-1), .int x2, .int x1, .ref 153]) (fun _ _ => rfl) ?_
      obtain ⟨⟨t7, s8⟩, e9, h⟩ := gb h
      dsimp only at h
      refine gR_cvI (wX11_keeps_s e9) (Nat.le_of_ble_eq_true rfl) rfl rfl rfl rfl rfl ?_
      refine gR_go 3 (pc1 := 28) (L1 := [some (.ref 153), some (.int x1), some (.int x2), some (.int t7), none, none, none]) (st1 := [.int 64, .int t7]) (fun _ _ => rfl) ?_
      rcases gif h with ⟨c10, h⟩ | ⟨c10, h⟩
      · refine gR_ic_le_f rfl c10 ?_
        refine gR_go 1 (pc1 := 32) (L1 := [some (.ref 153), some (.int x1), some (.int x2), some (.int t7), none, none, none]) (st1 := [.int (-1)]) (fun _ _ => rfl) ?_
        obtain ⟨rfl, rfl⟩ := gi2 h
        exact gR_ri rfl rfl
      · refine gR_ic_le_j rfl c10 rfl ?_
        refine gR_go 1 (pc1 := 34) (L1 := [some (.ref 153), some (.int x1), some (.int x2), some (.int t7), none, none, none]) (st1 := [.ref 153]) (fun _ _ => rfl) ?_
        obtain ⟨s12, e13, h⟩ := gb h
        refine gR_cvV (wX11_gathers_s e13) (Nat.le_of_ble_eq_true rfl) rfl rfl rfl rfl rfl ?_
        refine gR_go 2 (pc1 := 40) (L1 := [some (.ref 153), some (.int x1), some (.int x2), some (.int t7), some (.int 0), none, none]) (st1 := []) (fun _ _ => rfl) ?_
        obtain ⟨z32, ez32, h⟩ := gb h
        refine wX11_needed_t40 ?_  ez32
        · intro s33 w34 w35 w36 w37 w38 hz
          replace hz := hz.symm
          subst hz
          refine gR_go 2 (pc1 := 140) (L1 := [some (.ref 153), some (.int w34), some (.int w35), some (.int t7), some (.int w36), w37, w38]) (st1 := [.int 64, .int t7]) (fun _ _ => rfl) ?_
          rcases gif h with ⟨c39, h⟩ | ⟨c39, h⟩
          · refine gR_ic_ne_f rfl c39 ?_
            refine gR_go 2 (pc1 := 154) (L1 := [some (.ref 153), some (.int w34), some (.int w35), some (.int t7), some (.int w36), w37, w38]) (st1 := [.long (-1)]) (fun _ _ => rfl) ?_
            exact wX11_needed_u154 h
          · refine gR_ic_ne_j rfl c39 rfl ?_
            refine gR_go 5 (pc1 := 154) (L1 := [some (.ref 153), some (.int w34), some (.int w35), some (.int t7), some (.int w36), w37, w38]) (st1 := [.long ((1 <<< ((t7 : Int32).toInt64 &&& 63)) - 1)]) (fun _ _ => rfl) ?_
            exact wX11_needed_u154 h
noncomputable def wX11_steered_j169 (qq : Int32 → Int32 → Int32 → Option (Int32 × Int32)) (x3 : Int32) (x4 : Int32) (x5 : Int32) (x6 : Int32) (x7 : Int32) (x8 : Int32) (x9 : Int32) (x10 : Int32) (x11 : Int32) (x12 : Int32) (x13 : Int32) (s : wS) : Option (Int32 × Int32) := qq x11 x12 (x13 + 1)
theorem wX11_steered_u169 {x3 : Int32} {x4 : Int32} {x5 : Int32} {x6 : Int32} {x7 : Int32} {x8 : Int32} {x9 : Int32} {x10 : Int32} {x11 : Int32} {x12 : Int32} {x13 : Int32} {s : wS} {w1 : Int32} {w2 : Int32} {qq : Int32 → Int32 → Int32 → Option (Int32 × Int32)} {x : Int32 × Int32} {r : ri_R} (ih : ∀ {x11 : Int32} {x12 : Int32} {x13 : Int32} {w1 : Int32} {w2 : Int32} , qq x11 x12 x13 = some x → gRun 5 270 109 [some (.ref 153), some (.int w1), some (.int w2), some (.int x3), some (.int x4), some (.int x5), some (.int x6), some (.int x7), some (.int x8), some (.int x9), some (.int x10), some (.int x11), some (.int x12), some (.int x13)] [] (wmk s) r) (he175 : ∀ (x11 : Int32) (x12 : Int32) (w1 : Int32) (w2 : Int32) (w10 : Int32) (w13 : Int32) , x = (x11, x12) → gRun 5 270 175 [some (.ref 153), some (.int w1), some (.int w2), some (.int x3), some (.int x4), some (.int x5), some (.int x6), some (.int x7), some (.int x8), some (.int x9), some (.int w10), some (.int x11), some (.int x12), some (.int w13)] [] (wmk s) r) (h : wX11_steered_j169 qq x3 x4 x5 x6 x7 x8 x9 x10 x11 x12 x13 s = some x) : gRun 5 270 169 [some (.ref 153), some (.int w1), some (.int w2), some (.int x3), some (.int x4), some (.int x5), some (.int x6), some (.int x7), some (.int x8), some (.int x9), some (.int x10), some (.int x11), some (.int x12), some (.int x13)] [] (wmk s) r := by
  unfold wX11_steered_j169 at h
  refine gR_go 2 (pc1 := 109) (L1 := [some (.ref 153), some (.int w1), some (.int w2), some (.int x3), some (.int x4), some (.int x5), some (.int x6), some (.int x7), some (.int x8), some (.int x9), some (.int x10), some (.int x11), some (.int x12), some (.int (x13 + 1))]) (st1 := []) (fun _ _ => rfl) ?_
  exact ih h
noncomputable def wX11_steered_j166 (qq : Int32 → Int32 → Int32 → Option (Int32 × Int32)) (x3 : Int32) (x4 : Int32) (x5 : Int32) (x6 : Int32) (x7 : Int32) (x8 : Int32) (x9 : Int32) (x10 : Int32) (x12 : Int32) (x13 : Int32) (y0 : Int32) (y1 : Int32) (s : wS) : Option (Int32 × Int32) := wX11_steered_j169 qq x3 x4 x5 x6 x7 x8 x9 x10 (y0 + y1) x12 x13 s
theorem wX11_steered_u166 {x3 : Int32} {x4 : Int32} {x5 : Int32} {x6 : Int32} {x7 : Int32} {x8 : Int32} {x9 : Int32} {x10 : Int32} {x12 : Int32} {x13 : Int32} {y0 : Int32} {y1 : Int32} {s : wS} {w1 : Int32} {w2 : Int32} {w11 : Int32} {qq : Int32 → Int32 → Int32 → Option (Int32 × Int32)} {x : Int32 × Int32} {r : ri_R} (ih : ∀ {x11 : Int32} {x12 : Int32} {x13 : Int32} {w1 : Int32} {w2 : Int32} , qq x11 x12 x13 = some x → gRun 5 270 109 [some (.ref 153), some (.int w1), some (.int w2), some (.int x3), some (.int x4), some (.int x5), some (.int x6), some (.int x7), some (.int x8), some (.int x9), some (.int x10), some (.int x11), some (.int x12), some (.int x13)] [] (wmk s) r) (he175 : ∀ (x11 : Int32) (x12 : Int32) (w1 : Int32) (w2 : Int32) (w10 : Int32) (w13 : Int32) , x = (x11, x12) → gRun 5 270 175 [some (.ref 153), some (.int w1), some (.int w2), some (.int x3), some (.int x4), some (.int x5), some (.int x6), some (.int x7), some (.int x8), some (.int x9), some (.int w10), some (.int x11), some (.int x12), some (.int w13)] [] (wmk s) r) (h : wX11_steered_j166 qq x3 x4 x5 x6 x7 x8 x9 x10 x12 x13 y0 y1 s = some x) : gRun 5 270 166 [some (.ref 153), some (.int w1), some (.int w2), some (.int x3), some (.int x4), some (.int x5), some (.int x6), some (.int x7), some (.int x8), some (.int x9), some (.int x10), some (.int w11), some (.int x12), some (.int x13)] [.int y1, .int y0] (wmk s) r := by
  unfold wX11_steered_j166 at h
  refine gR_go 2 (pc1 := 169) (L1 := [some (.ref 153), some (.int w1), some (.int w2), some (.int x3), some (.int x4), some (.int x5), some (.int x6), some (.int x7), some (.int x8), some (.int x9), some (.int x10), some (.int (y0 + y1)), some (.int x12), some (.int x13)]) (st1 := []) (fun _ _ => rfl) ?_
  exact wX11_steered_u169 ih he175 h
noncomputable def wX11_steered_h109 (x3 : Int32) (x4 : Int32) (x5 : Int32) (x6 : Int32) (x7 : Int32) (x8 : Int32) (x9 : Int32) (x10 : Int32) (s : wS) : Nat → Int32 → Int32 → Int32 → Option (Int32 × Int32)
  | 0, _, _, _ => none
  | n + 1, x11, x12, x13 => (wX11_worlds s).bind fun t26 => if x13 < t26 then ((wldI s 165 512 x13).bind fun t29 => if t29 = 0 then (wX11_steered_j169 (wX11_steered_h109 x3 x4 x5 x6 x7 x8 x9 x10 s n) x3 x4 x5 x6 x7 x8 x9 x10 x11 x12 x13 s) else ((wX11_leaves x9 x10 x13 s).bind fun t31 => if t31 = 0 then (wX11_steered_j169 (wX11_steered_h109 x3 x4 x5 x6 x7 x8 x9 x10 s n) x3 x4 x5 x6 x7 x8 x9 x10 x11 x12 x13 s) else ((wX11_thingOf x13 2 s).bind fun t34 => if t34 = x4 then (wX11_steered_j166 (wX11_steered_h109 x3 x4 x5 x6 x7 x8 x9 x10 s n) x3 x4 x5 x6 x7 x8 x9 x10 (x12 + 1) x13 x11 1 s) else (wX11_steered_j166 (wX11_steered_h109 x3 x4 x5 x6 x7 x8 x9 x10 s n) x3 x4 x5 x6 x7 x8 x9 x10 (x12 + 1) x13 x11 0 s)))) else (some (x11, x12))
theorem wX11_steered_t109 {x3 : Int32} {x4 : Int32} {x5 : Int32} {x6 : Int32} {x7 : Int32} {x8 : Int32} {x9 : Int32} {x10 : Int32} {s : wS} {x : Int32 × Int32} {r : ri_R} (he175 : ∀ (x11 : Int32) (x12 : Int32) (w1 : Int32) (w2 : Int32) (w10 : Int32) (w13 : Int32) , x = (x11, x12) → gRun 5 270 175 [some (.ref 153), some (.int w1), some (.int w2), some (.int x3), some (.int x4), some (.int x5), some (.int x6), some (.int x7), some (.int x8), some (.int x9), some (.int w10), some (.int x11), some (.int x12), some (.int w13)] [] (wmk s) r) : ∀ {n : Nat} {x11 : Int32} {x12 : Int32} {x13 : Int32} {w1 : Int32} {w2 : Int32} , wX11_steered_h109 x3 x4 x5 x6 x7 x8 x9 x10 s n x11 x12 x13 = some x → gRun 5 270 109 [some (.ref 153), some (.int w1), some (.int w2), some (.int x3), some (.int x4), some (.int x5), some (.int x6), some (.int x7), some (.int x8), some (.int x9), some (.int x10), some (.int x11), some (.int x12), some (.int x13)] [] (wmk s) r := by
  intro n
  induction n with
  | zero => intro x11 x12 x13 w1 w2 h; cases (show (none : Option (Int32 × Int32)) = some x from h)
  | succ n ih =>
    intro x11 x12 x13 w1 w2 h
    rw [wX11_steered_h109] at h
    refine gR_go 2 (pc1 := 112) (L1 := [some (.ref 153), some (.int w1), some (.int w2), some (.int x3), some (.int x4), some (.int x5), some (.int x6), some (.int x7), some (.int x8), some (.int x9), some (.int x10), some (.int x11), some (.int x12), some (.int x13)]) (st1 := [.ref 153, .int x13]) (fun _ _ => rfl) ?_
    obtain ⟨t26, e27, h⟩ := gb h
    refine gR_cvI (wX11_worlds_s e27) (Nat.le_of_ble_eq_true rfl) rfl rfl rfl rfl rfl ?_
    rcases gif h with ⟨c28, h⟩ | ⟨c28, h⟩
    · refine gR_ic_ge_f rfl c28 ?_
      refine gR_go 1 (pc1 := 119) (L1 := [some (.ref 153), some (.int w1), some (.int w2), some (.int x3), some (.int x4), some (.int x5), some (.int x6), some (.int x7), some (.int x8), some (.int x9), some (.int x10), some (.int x11), some (.int x12), some (.int x13)]) (st1 := [.ref 153]) (fun _ _ => rfl) ?_
      refine gR_gfR (k := 152) (k' := 165) rfl rfl rfl rfl ?_
      refine gR_go 1 (pc1 := 124) (L1 := [some (.ref 153), some (.int w1), some (.int w2), some (.int x3), some (.int x4), some (.int x5), some (.int x6), some (.int x7), some (.int x8), some (.int x9), some (.int x10), some (.int x11), some (.int x12), some (.int x13)]) (st1 := [.int x13, .ref 166]) (fun _ _ => rfl) ?_
      obtain ⟨t29, et29, h⟩ := gb h
      refine gR_zal (k := 165) rfl rfl rfl et29 ?_
      rcases gif h with ⟨c30, h⟩ | ⟨c30, h⟩
      · refine gR_iz_eq_j rfl c30 rfl ?_
        exact wX11_steered_u169 ih he175 h
      · refine gR_iz_eq_f rfl c30 ?_
        refine gR_go 4 (pc1 := 135) (L1 := [some (.ref 153), some (.int w1), some (.int w2), some (.int x3), some (.int x4), some (.int x5), some (.int x6), some (.int x7), some (.int x8), some (.int x9), some (.int x10), some (.int x11), some (.int x12), some (.int x13)]) (st1 := [.int x13, .int x10, .int x9, .ref 153]) (fun _ _ => rfl) ?_
        obtain ⟨t31, e32, h⟩ := gb h
        refine gR_cvI (wX11_leaves_s e32) (Nat.le_of_ble_eq_true rfl) rfl rfl rfl rfl rfl ?_
        rcases gif h with ⟨c33, h⟩ | ⟨c33, h⟩
        · refine gR_iz_ne_f rfl c33 ?_
          refine gR_go 1 (pc1 := 169) (L1 := [some (.ref 153), some (.int w1), some (.int w2), some (.int x3), some (.int x4), some (.int x5), some (.int x6), some (.int x7), some (.int x8), some (.int x9), some (.int x10), some (.int x11), some (.int x12), some (.int x13)]) (st1 := []) (fun _ _ => rfl) ?_
          exact wX11_steered_u169 ih he175 h
        · refine gR_iz_ne_j rfl c33 rfl ?_
          refine gR_go 5 (pc1 := 153) (L1 := [some (.ref 153), some (.int w1), some (.int w2), some (.int x3), some (.int x4), some (.int x5), some (.int x6), some (.int x7), some (.int x8), some (.int x9), some (.int x10), some (.int x11), some (.int (x12 + 1)), some (.int x13)]) (st1 := [.int 2, .int x13, .ref 153, .int x11]) (fun _ _ => rfl) ?_
          obtain ⟨t34, e35, h⟩ := gb h
          refine gR_cvI (wX11_thingOf_s e35) (Nat.le_of_ble_eq_true rfl) rfl rfl rfl rfl rfl ?_
          refine gR_go 1 (pc1 := 158) (L1 := [some (.ref 153), some (.int w1), some (.int w2), some (.int x3), some (.int x4), some (.int x5), some (.int x6), some (.int x7), some (.int x8), some (.int x9), some (.int x10), some (.int x11), some (.int (x12 + 1)), some (.int x13)]) (st1 := [.int x4, .int t34, .int x11]) (fun _ _ => rfl) ?_
          rcases gif h with ⟨c36, h⟩ | ⟨c36, h⟩
          · refine gR_ic_ne_f rfl c36 ?_
            refine gR_go 2 (pc1 := 166) (L1 := [some (.ref 153), some (.int w1), some (.int w2), some (.int x3), some (.int x4), some (.int x5), some (.int x6), some (.int x7), some (.int x8), some (.int x9), some (.int x10), some (.int x11), some (.int (x12 + 1)), some (.int x13)]) (st1 := [.int 1, .int x11]) (fun _ _ => rfl) ?_
            exact wX11_steered_u166 ih he175 h
          · refine gR_ic_ne_j rfl c36 rfl ?_
            refine gR_go 1 (pc1 := 166) (L1 := [some (.ref 153), some (.int w1), some (.int w2), some (.int x3), some (.int x4), some (.int x5), some (.int x6), some (.int x7), some (.int x8), some (.int x9), some (.int x10), some (.int x11), some (.int (x12 + 1)), some (.int x13)]) (st1 := [.int 0, .int x11]) (fun _ _ => rfl) ?_
            exact wX11_steered_u166 ih he175 h
    · refine gR_ic_ge_j rfl c28 rfl ?_
      exact he175 _ _ _ _ _ _ (Option.some.inj h).symm
noncomputable def wX11_steered_j213 (qq : Int32 → Int32 → Int32 → Int32 → Option (Int32 × Int32 × Int32)) (x3 : Int32) (x4 : Int32) (x5 : Int32) (x6 : Int32) (x7 : Int32) (x8 : Int32) (x9 : Int32) (s : wS) : Option (Int32 × Int32 × Int32) := qq x6 x7 x8 (x9 + 1)
theorem wX11_steered_u213 {x3 : Int32} {x4 : Int32} {x5 : Int32} {x6 : Int32} {x7 : Int32} {x8 : Int32} {x9 : Int32} {s : wS} {w1 : Int32} {w2 : Int32} {w10 : Int32} {w11 : Int32} {w12 : Int32} {w13 : Int32} {qq : Int32 → Int32 → Int32 → Int32 → Option (Int32 × Int32 × Int32)} {x : Int32 × Int32 × Int32} {r : ri_R} (ih : ∀ {x6 : Int32} {x7 : Int32} {x8 : Int32} {x9 : Int32} {w1 : Int32} {w2 : Int32} {w10 : Option Value} {w11 : Option Value} {w12 : Option Value} {w13 : Option Value} , qq x6 x7 x8 x9 = some x → gRun 5 270 73 [some (.ref 153), some (.int w1), some (.int w2), some (.int x3), some (.int x4), some (.int x5), some (.int x6), some (.int x7), some (.int x8), some (.int x9), w10, w11, w12, w13] [] (wmk s) r) (he219 : ∀ (x6 : Int32) (x7 : Int32) (x8 : Int32) (w1 : Int32) (w2 : Int32) (w3 : Int32) (w4 : Int32) (w9 : Int32) (w10 : Option Value) (w11 : Option Value) (w12 : Option Value) (w13 : Option Value) , x = (x6, x7, x8) → gRun 5 270 219 [some (.ref 153), some (.int w1), some (.int w2), some (.int w3), some (.int w4), some (.int x5), some (.int x6), some (.int x7), some (.int x8), some (.int w9), w10, w11, w12, w13] [] (wmk s) r) (h : wX11_steered_j213 qq x3 x4 x5 x6 x7 x8 x9 s = some x) : gRun 5 270 213 [some (.ref 153), some (.int w1), some (.int w2), some (.int x3), some (.int x4), some (.int x5), some (.int x6), some (.int x7), some (.int x8), some (.int x9), some (.int w10), some (.int w11), some (.int w12), some (.int w13)] [] (wmk s) r := by
  unfold wX11_steered_j213 at h
  refine gR_go 2 (pc1 := 73) (L1 := [some (.ref 153), some (.int w1), some (.int w2), some (.int x3), some (.int x4), some (.int x5), some (.int x6), some (.int x7), some (.int x8), some (.int (x9 + 1)), some (.int w10), some (.int w11), some (.int w12), some (.int w13)]) (st1 := []) (fun _ _ => rfl) ?_
  exact ih h
noncomputable def wX11_steered_j201 (qq : Int32 → Int32 → Int32 → Int32 → Option (Int32 × Int32 × Int32)) (x3 : Int32) (x4 : Int32) (x5 : Int32) (x9 : Int32) (x11 : Int32) (x12 : Int32) (s : wS) : Option (Int32 × Int32 × Int32) := wX11_steered_j213 qq x3 x4 x5 x9 x11 x12 x9 s
theorem wX11_steered_u201 {x3 : Int32} {x4 : Int32} {x5 : Int32} {x9 : Int32} {x11 : Int32} {x12 : Int32} {s : wS} {w1 : Int32} {w2 : Int32} {w6 : Int32} {w7 : Int32} {w8 : Int32} {w10 : Int32} {w13 : Int32} {qq : Int32 → Int32 → Int32 → Int32 → Option (Int32 × Int32 × Int32)} {x : Int32 × Int32 × Int32} {r : ri_R} (ih : ∀ {x6 : Int32} {x7 : Int32} {x8 : Int32} {x9 : Int32} {w1 : Int32} {w2 : Int32} {w10 : Option Value} {w11 : Option Value} {w12 : Option Value} {w13 : Option Value} , qq x6 x7 x8 x9 = some x → gRun 5 270 73 [some (.ref 153), some (.int w1), some (.int w2), some (.int x3), some (.int x4), some (.int x5), some (.int x6), some (.int x7), some (.int x8), some (.int x9), w10, w11, w12, w13] [] (wmk s) r) (he219 : ∀ (x6 : Int32) (x7 : Int32) (x8 : Int32) (w1 : Int32) (w2 : Int32) (w3 : Int32) (w4 : Int32) (w9 : Int32) (w10 : Option Value) (w11 : Option Value) (w12 : Option Value) (w13 : Option Value) , x = (x6, x7, x8) → gRun 5 270 219 [some (.ref 153), some (.int w1), some (.int w2), some (.int w3), some (.int w4), some (.int x5), some (.int x6), some (.int x7), some (.int x8), some (.int w9), w10, w11, w12, w13] [] (wmk s) r) (h : wX11_steered_j201 qq x3 x4 x5 x9 x11 x12 s = some x) : gRun 5 270 201 [some (.ref 153), some (.int w1), some (.int w2), some (.int x3), some (.int x4), some (.int x5), some (.int w6), some (.int w7), some (.int w8), some (.int x9), some (.int w10), some (.int x11), some (.int x12), some (.int w13)] [] (wmk s) r := by
  unfold wX11_steered_j201 at h
  refine gR_go 6 (pc1 := 213) (L1 := [some (.ref 153), some (.int w1), some (.int w2), some (.int x3), some (.int x4), some (.int x5), some (.int x9), some (.int x11), some (.int x12), some (.int x9), some (.int w10), some (.int x11), some (.int x12), some (.int w13)]) (st1 := []) (fun _ _ => rfl) ?_
  exact wX11_steered_u213 ih he219 h
noncomputable def wX11_steered_j98 (qq : Int32 → Int32 → Int32 → Int32 → Option (Int32 × Int32 × Int32)) (x3 : Int32) (x4 : Int32) (x5 : Int32) (x6 : Int32) (x7 : Int32) (x8 : Int32) (x9 : Int32) (y0 : Int32) (s : wS) : Option (Int32 × Int32 × Int32) := (wX11_steered_h109 x3 x4 x5 x6 x7 x8 x9 y0 s wFuel 0 0 0).bind fun (t38, t39) => if t39 = 0 then (wX11_steered_j213 qq x3 x4 x5 x6 x7 x8 x9 s) else (if x6 < 0 then (wX11_steered_j201 qq x3 x4 x5 x9 t38 t39 s) else (if (x7 * t39) < (t38 * x8) then (wX11_steered_j201 qq x3 x4 x5 x9 t38 t39 s) else (wX11_steered_j213 qq x3 x4 x5 x6 x7 x8 x9 s)))
theorem wX11_steered_u98 {x3 : Int32} {x4 : Int32} {x5 : Int32} {x6 : Int32} {x7 : Int32} {x8 : Int32} {x9 : Int32} {y0 : Int32} {s : wS} {w1 : Int32} {w2 : Int32} {w10 : Option Value} {w11 : Option Value} {w12 : Option Value} {w13 : Option Value} {qq : Int32 → Int32 → Int32 → Int32 → Option (Int32 × Int32 × Int32)} {x : Int32 × Int32 × Int32} {r : ri_R} (ih : ∀ {x6 : Int32} {x7 : Int32} {x8 : Int32} {x9 : Int32} {w1 : Int32} {w2 : Int32} {w10 : Option Value} {w11 : Option Value} {w12 : Option Value} {w13 : Option Value} , qq x6 x7 x8 x9 = some x → gRun 5 270 73 [some (.ref 153), some (.int w1), some (.int w2), some (.int x3), some (.int x4), some (.int x5), some (.int x6), some (.int x7), some (.int x8), some (.int x9), w10, w11, w12, w13] [] (wmk s) r) (he219 : ∀ (x6 : Int32) (x7 : Int32) (x8 : Int32) (w1 : Int32) (w2 : Int32) (w3 : Int32) (w4 : Int32) (w9 : Int32) (w10 : Option Value) (w11 : Option Value) (w12 : Option Value) (w13 : Option Value) , x = (x6, x7, x8) → gRun 5 270 219 [some (.ref 153), some (.int w1), some (.int w2), some (.int w3), some (.int w4), some (.int x5), some (.int x6), some (.int x7), some (.int x8), some (.int w9), w10, w11, w12, w13] [] (wmk s) r) (h : wX11_steered_j98 qq x3 x4 x5 x6 x7 x8 x9 y0 s = some x) : gRun 5 270 98 [some (.ref 153), some (.int w1), some (.int w2), some (.int x3), some (.int x4), some (.int x5), some (.int x6), some (.int x7), some (.int x8), some (.int x9), w10, w11, w12, w13] [.int y0] (wmk s) r := by
  unfold wX11_steered_j98 at h
  refine gR_go 7 (pc1 := 109) (L1 := [some (.ref 153), some (.int w1), some (.int w2), some (.int x3), some (.int x4), some (.int x5), some (.int x6), some (.int x7), some (.int x8), some (.int x9), some (.int y0), some (.int 0), some (.int 0), some (.int 0)]) (st1 := []) (fun _ _ => rfl) ?_
  obtain ⟨z37, ez37, h⟩ := gb h
  refine wX11_steered_t109 ?_  ez37
  · intro t38 t39 w40 w41 w42 w43 hz
    replace hz := hz.symm
    subst hz
    dsimp only at h
    refine gR_go 1 (pc1 := 177) (L1 := [some (.ref 153), some (.int w40), some (.int w41), some (.int x3), some (.int x4), some (.int x5), some (.int x6), some (.int x7), some (.int x8), some (.int x9), some (.int w42), some (.int t38), some (.int t39), some (.int w43)]) (st1 := [.int t39]) (fun _ _ => rfl) ?_
    rcases gif h with ⟨c44, h⟩ | ⟨c44, h⟩
    · refine gR_iz_eq_j rfl c44 rfl ?_
      exact wX11_steered_u213 ih he219 h
    · refine gR_iz_eq_f rfl c44 ?_
      refine gR_go 1 (pc1 := 182) (L1 := [some (.ref 153), some (.int w40), some (.int w41), some (.int x3), some (.int x4), some (.int x5), some (.int x6), some (.int x7), some (.int x8), some (.int x9), some (.int w42), some (.int t38), some (.int t39), some (.int w43)]) (st1 := [.int x6]) (fun _ _ => rfl) ?_
      rcases gif h with ⟨c45, h⟩ | ⟨c45, h⟩
      · refine gR_iz_lt_j rfl c45 rfl ?_
        exact wX11_steered_u201 ih he219 h
      · refine gR_iz_lt_f rfl c45 ?_
        refine gR_go 6 (pc1 := 195) (L1 := [some (.ref 153), some (.int w40), some (.int w41), some (.int x3), some (.int x4), some (.int x5), some (.int x6), some (.int x7), some (.int x8), some (.int x9), some (.int w42), some (.int t38), some (.int t39), some (.int w43)]) (st1 := [.int (x7 * t39), .int (t38 * x8)]) (fun _ _ => rfl) ?_
        rcases gif h with ⟨c46, h⟩ | ⟨c46, h⟩
        · refine gR_ic_gt_j rfl c46 rfl ?_
          exact wX11_steered_u201 ih he219 h
        · refine gR_ic_gt_f rfl c46 ?_
          refine gR_go 1 (pc1 := 213) (L1 := [some (.ref 153), some (.int w40), some (.int w41), some (.int x3), some (.int x4), some (.int x5), some (.int x6), some (.int x7), some (.int x8), some (.int x9), some (.int w42), some (.int t38), some (.int t39), some (.int w43)]) (st1 := []) (fun _ _ => rfl) ?_
          exact wX11_steered_u213 ih he219 h
noncomputable def wX11_steered_h73 (x3 : Int32) (x4 : Int32) (x5 : Int32) (s : wS) : Nat → Int32 → Int32 → Int32 → Int32 → Option (Int32 × Int32 × Int32)
  | 0, _, _, _, _ => none
  | n + 1, x6, x7, x8, x9 => if x9 < (s.1 152 33) then ((wX11_leaves x9 0 x3 s).bind fun t23 => if t23 = 0 then (wX11_steered_j98 (wX11_steered_h73 x3 x4 x5 s n) x3 x4 x5 x6 x7 x8 x9 1 s) else (wX11_steered_j98 (wX11_steered_h73 x3 x4 x5 s n) x3 x4 x5 x6 x7 x8 x9 0 s)) else (some (x6, x7, x8))
theorem wX11_steered_t73 {x3 : Int32} {x4 : Int32} {x5 : Int32} {s : wS} {x : Int32 × Int32 × Int32} {r : ri_R} (he219 : ∀ (x6 : Int32) (x7 : Int32) (x8 : Int32) (w1 : Int32) (w2 : Int32) (w3 : Int32) (w4 : Int32) (w9 : Int32) (w10 : Option Value) (w11 : Option Value) (w12 : Option Value) (w13 : Option Value) , x = (x6, x7, x8) → gRun 5 270 219 [some (.ref 153), some (.int w1), some (.int w2), some (.int w3), some (.int w4), some (.int x5), some (.int x6), some (.int x7), some (.int x8), some (.int w9), w10, w11, w12, w13] [] (wmk s) r) : ∀ {n : Nat} {x6 : Int32} {x7 : Int32} {x8 : Int32} {x9 : Int32} {w1 : Int32} {w2 : Int32} {w10 : Option Value} {w11 : Option Value} {w12 : Option Value} {w13 : Option Value} , wX11_steered_h73 x3 x4 x5 s n x6 x7 x8 x9 = some x → gRun 5 270 73 [some (.ref 153), some (.int w1), some (.int w2), some (.int x3), some (.int x4), some (.int x5), some (.int x6), some (.int x7), some (.int x8), some (.int x9), w10, w11, w12, w13] [] (wmk s) r := by
  intro n
  induction n with
  | zero => intro x6 x7 x8 x9 w1 w2 w10 w11 w12 w13 h; cases (show (none : Option (Int32 × Int32 × Int32)) = some x from h)
  | succ n ih =>
    intro x6 x7 x8 x9 w1 w2 w10 w11 w12 w13 h
    rw [wX11_steered_h73] at h
    refine gR_go 2 (pc1 := 76) (L1 := [some (.ref 153), some (.int w1), some (.int w2), some (.int x3), some (.int x4), some (.int x5), some (.int x6), some (.int x7), some (.int x8), some (.int x9), w10, w11, w12, w13]) (st1 := [.ref 153, .int x9]) (fun _ _ => rfl) ?_
    refine gR_gfI (k := 152) rfl rfl rfl ?_
    rcases gif h with ⟨c22, h⟩ | ⟨c22, h⟩
    · refine gR_ic_ge_f rfl c22 ?_
      refine gR_go 4 (pc1 := 87) (L1 := [some (.ref 153), some (.int w1), some (.int w2), some (.int x3), some (.int x4), some (.int x5), some (.int x6), some (.int x7), some (.int x8), some (.int x9), w10, w11, w12, w13]) (st1 := [.int x3, .int 0, .int x9, .ref 153]) (fun _ _ => rfl) ?_
      obtain ⟨t23, e24, h⟩ := gb h
      refine gR_cvI (wX11_leaves_s e24) (Nat.le_of_ble_eq_true rfl) rfl rfl rfl rfl rfl ?_
      rcases gif h with ⟨c25, h⟩ | ⟨c25, h⟩
      · refine gR_iz_eq_j rfl c25 rfl ?_
        refine gR_go 1 (pc1 := 98) (L1 := [some (.ref 153), some (.int w1), some (.int w2), some (.int x3), some (.int x4), some (.int x5), some (.int x6), some (.int x7), some (.int x8), some (.int x9), w10, w11, w12, w13]) (st1 := [.int 1]) (fun _ _ => rfl) ?_
        exact wX11_steered_u98 ih he219 h
      · refine gR_iz_eq_f rfl c25 ?_
        refine gR_go 2 (pc1 := 98) (L1 := [some (.ref 153), some (.int w1), some (.int w2), some (.int x3), some (.int x4), some (.int x5), some (.int x6), some (.int x7), some (.int x8), some (.int x9), w10, w11, w12, w13]) (st1 := [.int 0]) (fun _ _ => rfl) ?_
        exact wX11_steered_u98 ih he219 h
    · refine gR_ic_ge_j rfl c22 rfl ?_
      exact he219 _ _ _ _ _ _ _ _ _ _ _ _ (Option.some.inj h).symm
noncomputable def wX11_steered (x1 : Int32) (x2 : Int32) (x3 : Int32) (x4 : Int32) (x5 : Int32) (s : wS) : Option (Int32 × wS) := (wX11_canAsk x1 s).bind fun t1 => if t1 = 0 then (some ((-1), s)) else ((wX11_isMany x2 s).bind fun t4 => if t4 = 0 then (some ((-1), s)) else ((wX11_isWorld x3 s).bind fun t7 => if t7 = 0 then (some ((-1), s)) else ((wX11_isThing 2 x4 s).bind fun t10 => if t10 = 0 then (some ((-1), s)) else ((wX11_in ((x5 : Int32).toInt64) 0 4 s).bind fun t13 => if t13 = 0 then (some ((-1), s)) else ((wX11_keeps x1 x2 (-1) s).bind fun (t16, s17) => (wX11_gathers s17).bind fun s20 => (wX11_steered_h73 x3 x4 x5 s20 wFuel ((Int8.ofInt (-2)).toInt32) 0 1 0).bind fun (t48, t49, t50) => if t48 < 0 then (some (((Int8.ofInt (-2)).toInt32), s20)) else (if x5 < 3 then ((wldI s20 168 252 ((3 * t48) + x5)).bind fun t62 => some (t62, s20)) else (if x5 = 3 then (some (t49, s20)) else (some (t50, s20)))))))))
theorem wX11_steered_s {x1 : Int32} {x2 : Int32} {x3 : Int32} {x4 : Int32} {x5 : Int32} {s : wS} {rv : Int32} {rs : wS} (h : wX11_steered x1 x2 x3 x4 x5 s = some (rv, rs)) : gEv 6 270 [.ref 153, .int x1, .int x2, .int x3, .int x4, .int x5] (wmk s) (some (.int rv), wmk rs, 0, 0) := by
  refine gEv_of (d := 5) (L := [some (.ref 153), some (.int x1), some (.int x2), some (.int x3), some (.int x4), some (.int x5), none, none, none, none, none, none, none, none]) rfl ?_
  unfold wX11_steered at h
  refine gR_go 2 (pc1 := 2) (L1 := [some (.ref 153), some (.int x1), some (.int x2), some (.int x3), some (.int x4), some (.int x5), none, none, none, none, none, none, none, none]) (st1 := [.int x1, .ref 153]) (fun _ _ => rfl) ?_
  obtain ⟨t1, e2, h⟩ := gb h
  refine gR_cvI (wX11_canAsk_s e2) (Nat.le_of_ble_eq_true rfl) rfl rfl rfl rfl rfl ?_
  rcases gif h with ⟨c3, h⟩ | ⟨c3, h⟩
  · refine gR_iz_eq_j rfl c3 rfl ?_
    refine gR_go 1 (pc1 := 47) (L1 := [some (.ref 153), some (.int x1), some (.int x2), some (.int x3), some (.int x4), some (.int x5), none, none, none, none, none, none, none, none]) (st1 := [.int (-1)]) (fun _ _ => rfl) ?_
    obtain ⟨rfl, rfl⟩ := gi2 h
    exact gR_ri rfl rfl
  · refine gR_iz_eq_f rfl c3 ?_
    refine gR_go 1 (pc1 := 9) (L1 := [some (.ref 153), some (.int x1), some (.int x2), some (.int x3), some (.int x4), some (.int x5), none, none, none, none, none, none, none, none]) (st1 := [.int x2]) (fun _ _ => rfl) ?_
    obtain ⟨t4, e5, h⟩ := gb h
    refine gR_csI (wX11_isMany_s e5) (Nat.le_of_ble_eq_true rfl) rfl rfl rfl rfl ?_
    rcases gif h with ⟨c6, h⟩ | ⟨c6, h⟩
    · refine gR_iz_eq_j rfl c6 rfl ?_
      refine gR_go 1 (pc1 := 47) (L1 := [some (.ref 153), some (.int x1), some (.int x2), some (.int x3), some (.int x4), some (.int x5), none, none, none, none, none, none, none, none]) (st1 := [.int (-1)]) (fun _ _ => rfl) ?_
      obtain ⟨rfl, rfl⟩ := gi2 h
      exact gR_ri rfl rfl
    · refine gR_iz_eq_f rfl c6 ?_
      refine gR_go 2 (pc1 := 17) (L1 := [some (.ref 153), some (.int x1), some (.int x2), some (.int x3), some (.int x4), some (.int x5), none, none, none, none, none, none, none, none]) (st1 := [.int x3, .ref 153]) (fun _ _ => rfl) ?_
      obtain ⟨t7, e8, h⟩ := gb h
      refine gR_cvI (wX11_isWorld_s e8) (Nat.le_of_ble_eq_true rfl) rfl rfl rfl rfl rfl ?_
      rcases gif h with ⟨c9, h⟩ | ⟨c9, h⟩
      · refine gR_iz_eq_j rfl c9 rfl ?_
        refine gR_go 1 (pc1 := 47) (L1 := [some (.ref 153), some (.int x1), some (.int x2), some (.int x3), some (.int x4), some (.int x5), none, none, none, none, none, none, none, none]) (st1 := [.int (-1)]) (fun _ _ => rfl) ?_
        obtain ⟨rfl, rfl⟩ := gi2 h
        exact gR_ri rfl rfl
      · refine gR_iz_eq_f rfl c9 ?_
        refine gR_go 3 (pc1 := 27) (L1 := [some (.ref 153), some (.int x1), some (.int x2), some (.int x3), some (.int x4), some (.int x5), none, none, none, none, none, none, none, none]) (st1 := [.int x4, .int 2, .ref 153]) (fun _ _ => rfl) ?_
        obtain ⟨t10, e11, h⟩ := gb h
        refine gR_cvI (wX11_isThing_s e11) (Nat.le_of_ble_eq_true rfl) rfl rfl rfl rfl rfl ?_
        rcases gif h with ⟨c12, h⟩ | ⟨c12, h⟩
        · refine gR_iz_eq_j rfl c12 rfl ?_
          refine gR_go 1 (pc1 := 47) (L1 := [some (.ref 153), some (.int x1), some (.int x2), some (.int x3), some (.int x4), some (.int x5), none, none, none, none, none, none, none, none]) (st1 := [.int (-1)]) (fun _ _ => rfl) ?_
          obtain ⟨rfl, rfl⟩ := gi2 h
          exact gR_ri rfl rfl
        · refine gR_iz_eq_f rfl c12 ?_
          refine gR_go 4 (pc1 := 40) (L1 := [some (.ref 153), some (.int x1), some (.int x2), some (.int x3), some (.int x4), some (.int x5), none, none, none, none, none, none, none, none]) (st1 := [.long 4, .long 0, .long ((x5 : Int32).toInt64)]) (fun _ _ => rfl) ?_
          obtain ⟨t13, e14, h⟩ := gb h
          refine gR_csI (wX11_in_s e14) (Nat.le_of_ble_eq_true rfl) rfl rfl rfl rfl ?_
          rcases gif h with ⟨c15, h⟩ | ⟨c15, h⟩
          · refine gR_iz_ne_f rfl c15 ?_
            refine gR_go 1 (pc1 := 47) (L1 := [some (.ref 153), some (.int x1), some (.int x2), some (.int x3), some (.int x4), some (.int x5), none, none, none, none, none, none, none, none]) (st1 := [.int (-1)]) (fun _ _ => rfl) ?_
            obtain ⟨rfl, rfl⟩ := gi2 h
            exact gR_ri rfl rfl
          · refine gR_iz_ne_j rfl c15 rfl ?_
            refine gR_go 4 (pc1 := 52) (L1 := [some (.ref 153), some (.int x1), some (.int x2), some (.int x3), some (.int x4), some (.int x5), none, none, none, none, none, none, none, none]) (st1 := [.int (-1), .int x2, .int x1, .ref 153]) (fun _ _ => rfl) ?_
            obtain ⟨⟨t16, s17⟩, e18, h⟩ := gb h
            dsimp only at h
            refine gR_cvI (wX11_keeps_s e18) (Nat.le_of_ble_eq_true rfl) rfl rfl rfl rfl rfl ?_
            refine gR_go 2 (pc1 := 57) (L1 := [some (.ref 153), some (.int x1), some (.int x2), some (.int x3), some (.int x4), some (.int x5), none, none, none, none, none, none, none, none]) (st1 := [.ref 153]) (fun _ _ => rfl) ?_
            obtain ⟨s20, e21, h⟩ := gb h
            refine gR_cvV (wX11_gathers_s e21) (Nat.le_of_ble_eq_true rfl) rfl rfl rfl rfl rfl ?_
            refine gR_go 8 (pc1 := 73) (L1 := [some (.ref 153), some (.int x1), some (.int x2), some (.int x3), some (.int x4), some (.int x5), some (.int ((Int8.ofInt (-2)).toInt32)), some (.int 0), some (.int 1), some (.int 0), none, none, none, none]) (st1 := []) (fun _ _ => rfl) ?_
            obtain ⟨z47, ez47, h⟩ := gb h
            refine wX11_steered_t73 ?_  ez47
            · intro t48 t49 t50 w51 w52 w53 w54 w55 w56 w57 w58 w59 hz
              replace hz := hz.symm
              subst hz
              dsimp only at h
              refine gR_go 1 (pc1 := 221) (L1 := [some (.ref 153), some (.int w51), some (.int w52), some (.int w53), some (.int w54), some (.int x5), some (.int t48), some (.int t49), some (.int t50), some (.int w55), w56, w57, w58, w59]) (st1 := [.int t48]) (fun _ _ => rfl) ?_
              rcases gif h with ⟨c60, h⟩ | ⟨c60, h⟩
              · refine gR_iz_ge_f rfl c60 ?_
                refine gR_go 1 (pc1 := 226) (L1 := [some (.ref 153), some (.int w51), some (.int w52), some (.int w53), some (.int w54), some (.int x5), some (.int t48), some (.int t49), some (.int t50), some (.int w55), w56, w57, w58, w59]) (st1 := [.int ((Int8.ofInt (-2)).toInt32)]) (fun _ _ => rfl) ?_
                obtain ⟨rfl, rfl⟩ := gi2 h
                exact gR_ri rfl rfl
              · refine gR_iz_ge_j rfl c60 rfl ?_
                refine gR_go 2 (pc1 := 230) (L1 := [some (.ref 153), some (.int w51), some (.int w52), some (.int w53), some (.int w54), some (.int x5), some (.int t48), some (.int t49), some (.int t50), some (.int w55), w56, w57, w58, w59]) (st1 := [.int 3, .int x5]) (fun _ _ => rfl) ?_
                rcases gif h with ⟨c61, h⟩ | ⟨c61, h⟩
                · refine gR_ic_ge_f rfl c61 ?_
                  refine gR_go 1 (pc1 := 234) (L1 := [some (.ref 153), some (.int w51), some (.int w52), some (.int w53), some (.int w54), some (.int x5), some (.int t48), some (.int t49), some (.int t50), some (.int w55), w56, w57, w58, w59]) (st1 := [.ref 153]) (fun _ _ => rfl) ?_
                  refine gR_gfR (k := 152) (k' := 168) rfl rfl rfl rfl ?_
                  refine gR_go 5 (pc1 := 244) (L1 := [some (.ref 153), some (.int w51), some (.int w52), some (.int w53), some (.int w54), some (.int x5), some (.int t48), some (.int t49), some (.int t50), some (.int w55), w56, w57, w58, w59]) (st1 := [.int ((3 * t48) + x5), .ref 169]) (fun _ _ => rfl) ?_
                  obtain ⟨t62, et62, h⟩ := gb h
                  refine gR_ial (k := 168) rfl rfl rfl et62 ?_
                  refine gR_go 1 (pc1 := 261) (L1 := [some (.ref 153), some (.int w51), some (.int w52), some (.int w53), some (.int w54), some (.int x5), some (.int t48), some (.int t49), some (.int t50), some (.int w55), w56, w57, w58, w59]) (st1 := [.int t62]) (fun _ _ => rfl) ?_
                  obtain ⟨rfl, rfl⟩ := gi2 h
                  exact gR_ri rfl rfl
                · refine gR_ic_ge_j rfl c61 rfl ?_
                  refine gR_go 2 (pc1 := 251) (L1 := [some (.ref 153), some (.int w51), some (.int w52), some (.int w53), some (.int w54), some (.int x5), some (.int t48), some (.int t49), some (.int t50), some (.int w55), w56, w57, w58, w59]) (st1 := [.int 3, .int x5]) (fun _ _ => rfl) ?_
                  rcases gif h with ⟨c63, h⟩ | ⟨c63, h⟩
                  · refine gR_ic_ne_f rfl c63 ?_
                    refine gR_go 2 (pc1 := 261) (L1 := [some (.ref 153), some (.int w51), some (.int w52), some (.int w53), some (.int w54), some (.int x5), some (.int t48), some (.int t49), some (.int t50), some (.int w55), w56, w57, w58, w59]) (st1 := [.int t49]) (fun _ _ => rfl) ?_
                    obtain ⟨rfl, rfl⟩ := gi2 h
                    exact gR_ri rfl rfl
                  · refine gR_ic_ne_j rfl c63 rfl ?_
                    refine gR_go 1 (pc1 := 261) (L1 := [some (.ref 153), some (.int w51), some (.int w52), some (.int w53), some (.int w54), some (.int x5), some (.int t48), some (.int t49), some (.int t50), some (.int w55), w56, w57, w58, w59]) (st1 := [.int t50]) (fun _ _ => rfl) ?_
                    obtain ⟨rfl, rfl⟩ := gi2 h
                    exact gR_ri rfl rfl
noncomputable def wX11_spare (x1 : Int32) (s : wS) : Option (Int32) := (wX11_isWitness x1 s).bind fun t1 => if t1 = 0 then (some (-1)) else ((wX11_answersBy x1 s).bind fun t4 => some (9 - t4))
theorem wX11_spare_s {x1 : Int32} {s : wS} {rv : Int32} (h : wX11_spare x1 s = some rv) : gEv 3 271 [.ref 153, .int x1] (wmk s) (some (.int rv), wmk s, 0, 0) := by
  refine gEv_of (d := 2) (L := [some (.ref 153), some (.int x1)]) rfl ?_
  unfold wX11_spare at h
  refine gR_go 1 (pc1 := 1) (L1 := [some (.ref 153), some (.int x1)]) (st1 := [.int x1]) (fun _ _ => rfl) ?_
  obtain ⟨t1, e2, h⟩ := gb h
  refine gR_csI (wX11_isWitness_s e2) (Nat.le_of_ble_eq_true rfl) rfl rfl rfl rfl ?_
  rcases gif h with ⟨c3, h⟩ | ⟨c3, h⟩
  · refine gR_iz_eq_j rfl c3 rfl ?_
    refine gR_go 1 (pc1 := 19) (L1 := [some (.ref 153), some (.int x1)]) (st1 := [.int (-1)]) (fun _ _ => rfl) ?_
    obtain rfl := gi1 h
    exact gR_ri rfl rfl
  · refine gR_iz_eq_f rfl c3 ?_
    refine gR_go 3 (pc1 := 11) (L1 := [some (.ref 153), some (.int x1)]) (st1 := [.int x1, .ref 153, .int 9]) (fun _ _ => rfl) ?_
    obtain ⟨t4, e5, h⟩ := gb h
    refine gR_cvI (wX11_answersBy_s e5) (Nat.le_of_ble_eq_true rfl) rfl rfl rfl rfl rfl ?_
    refine gR_go 2 (pc1 := 19) (L1 := [some (.ref 153), some (.int x1)]) (st1 := [.int (9 - t4)]) (fun _ _ => rfl) ?_
    obtain rfl := gi1 h
    exact gR_ri rfl rfl
noncomputable def wX11_seed (x1 : Int32) (s : wS) : Option (Int32 × wS) := if x1 < 0 then (some ((-1), s)) else ((wstI s 163 262 6 x1).bind fun s3 => some ((s.1 163 6), s3))
theorem wX11_seed_s {x1 : Int32} {s : wS} {rv : Int32} {rs : wS} (h : wX11_seed x1 s = some (rv, rs)) : gEv 1 272 [.ref 153, .int x1] (wmk s) (some (.int rv), wmk rs, 0, 0) := by
  refine gEv_of (d := 0) (L := [some (.ref 153), some (.int x1), none]) rfl ?_
  unfold wX11_seed at h
  refine gR_go 1 (pc1 := 1) (L1 := [some (.ref 153), some (.int x1), none]) (st1 := [.int x1]) (fun _ _ => rfl) ?_
  rcases gif h with ⟨c1, h⟩ | ⟨c1, h⟩
  · refine gR_iz_ge_f rfl c1 ?_
    refine gR_go 1 (pc1 := 5) (L1 := [some (.ref 153), some (.int x1), none]) (st1 := [.int (-1)]) (fun _ _ => rfl) ?_
    obtain ⟨rfl, rfl⟩ := gi2 h
    exact gR_ri rfl rfl
  · refine gR_iz_ge_j rfl c1 rfl ?_
    refine gR_go 1 (pc1 := 7) (L1 := [some (.ref 153), some (.int x1), none]) (st1 := [.ref 153]) (fun _ _ => rfl) ?_
    refine gR_gfR (k := 152) (k' := 163) rfl rfl rfl rfl ?_
    refine gR_go 1 (pc1 := 12) (L1 := [some (.ref 153), some (.int x1), none]) (st1 := [.int 6, .ref 164]) (fun _ _ => rfl) ?_
    refine gR_ialc (k := 163) (j := 6) rfl rfl rfl (by decide) rfl ?_
    refine gR_go 2 (pc1 := 15) (L1 := [some (.ref 153), some (.int x1), some (.int (s.1 163 6))]) (st1 := [.ref 153]) (fun _ _ => rfl) ?_
    refine gR_gfR (k := 152) (k' := 163) rfl rfl rfl rfl ?_
    refine gR_go 2 (pc1 := 21) (L1 := [some (.ref 153), some (.int x1), some (.int (s.1 163 6))]) (st1 := [.int x1, .int 6, .ref 164]) (fun _ _ => rfl) ?_
    obtain ⟨s3, es3, h⟩ := gb h
    refine gR_ias (k := 163) rfl rfl rfl es3 ?_
    refine gR_go 1 (pc1 := 23) (L1 := [some (.ref 153), some (.int x1), some (.int (s.1 163 6))]) (st1 := [.int (s.1 163 6)]) (fun _ _ => rfl) ?_
    obtain ⟨rfl, rfl⟩ := gi2 h
    exact gR_ri rfl rfl
noncomputable def wX11_trials_h101 (x2 : Int32) (x3 : Int32) (x4 : Int64) (x6 : Int32) (x7 : Int32) (x8 : Int32) (x9 : Int32) (x10 : Int32) : Nat → Int32 → wS → Option (wS)
  | 0, _, _ => none
  | n + 1, x11, s => (wX11_worlds s).bind fun t20 => if x11 < t20 then ((wstZ s 165 512 x11 1).bind fun s23 => wX11_trials_h101 x2 x3 x4 x6 x7 x8 x9 x10 n (x11 + 1) s23) else (some s)
theorem wX11_trials_t101 {x2 : Int32} {x3 : Int32} {x4 : Int64} {x6 : Int32} {x7 : Int32} {x8 : Int32} {x9 : Int32} {x10 : Int32} {x : wS} {r : ri_R} (he124 : ∀ (s : wS) (w1 : Int32) (w11 : Int32) (w12 : Option Value) (w13 : Option Value) (w14 : Option Value) (w15 : Option Value) (w16 : Option Value) , x = s → gRun 5 273 124 [some (.ref 153), some (.int w1), some (.int x2), some (.int x3), some (.long x4), none, some (.int x6), some (.int x7), some (.int x8), some (.int x9), some (.int x10), some (.int w11), w12, w13, w14, w15, w16] [] (wmk s) r) : ∀ {n : Nat} {x11 : Int32} {s : wS} {w1 : Int32} {w12 : Option Value} {w13 : Option Value} {w14 : Option Value} {w15 : Option Value} {w16 : Option Value} , wX11_trials_h101 x2 x3 x4 x6 x7 x8 x9 x10 n x11 s = some x → gRun 5 273 101 [some (.ref 153), some (.int w1), some (.int x2), some (.int x3), some (.long x4), none, some (.int x6), some (.int x7), some (.int x8), some (.int x9), some (.int x10), some (.int x11), w12, w13, w14, w15, w16] [] (wmk s) r := by
  intro n
  induction n with
  | zero => intro x11 s w1 w12 w13 w14 w15 w16 h; cases (show (none : Option (wS)) = some x from h)
  | succ n ih =>
    intro x11 s w1 w12 w13 w14 w15 w16 h
    rw [wX11_trials_h101] at h
    refine gR_go 2 (pc1 := 104) (L1 := [some (.ref 153), some (.int w1), some (.int x2), some (.int x3), some (.long x4), none, some (.int x6), some (.int x7), some (.int x8), some (.int x9), some (.int x10), some (.int x11), w12, w13, w14, w15, w16]) (st1 := [.ref 153, .int x11]) (fun _ _ => rfl) ?_
    obtain ⟨t20, e21, h⟩ := gb h
    refine gR_cvI (wX11_worlds_s e21) (Nat.le_of_ble_eq_true rfl) rfl rfl rfl rfl rfl ?_
    rcases gif h with ⟨c22, h⟩ | ⟨c22, h⟩
    · refine gR_ic_ge_f rfl c22 ?_
      refine gR_go 1 (pc1 := 111) (L1 := [some (.ref 153), some (.int w1), some (.int x2), some (.int x3), some (.long x4), none, some (.int x6), some (.int x7), some (.int x8), some (.int x9), some (.int x10), some (.int x11), w12, w13, w14, w15, w16]) (st1 := [.ref 153]) (fun _ _ => rfl) ?_
      refine gR_gfR (k := 152) (k' := 165) rfl rfl rfl rfl ?_
      refine gR_go 2 (pc1 := 117) (L1 := [some (.ref 153), some (.int w1), some (.int x2), some (.int x3), some (.long x4), none, some (.int x6), some (.int x7), some (.int x8), some (.int x9), some (.int x10), some (.int x11), w12, w13, w14, w15, w16]) (st1 := [.int 1, .int x11, .ref 166]) (fun _ _ => rfl) ?_
      obtain ⟨s23, es23, h⟩ := gb h
      refine gR_zas (k := 165) rfl rfl rfl es23 ?_
      refine gR_go 2 (pc1 := 101) (L1 := [some (.ref 153), some (.int w1), some (.int x2), some (.int x3), some (.long x4), none, some (.int x6), some (.int x7), some (.int x8), some (.int x9), some (.int x10), some (.int (x11 + 1)), w12, w13, w14, w15, w16]) (st1 := []) (fun _ _ => rfl) ?_
      exact ih h
    · refine gR_ic_ge_j rfl c22 rfl ?_
      exact he124 _ _ _ _ _ _ _ _ (Option.some.inj h).symm
noncomputable def wX11_trials_h237 (x2 : Int32) (x3 : Int32) (x4 : Int64) (x6 : Int32) (x7 : Int32) (x8 : Int32) (x9 : Int32) (x10 : Int32) (x11 : Int32) (x12 : Int32) (x13 : Int32) (x14 : Int32) (x15 : Int32) : Nat → Int32 → wS → Option (wS)
  | 0, _, _ => none
  | n + 1, x16, s => (wX11_worlds s).bind fun t47 => if x16 < t47 then ((wldI s 165 512 x16).bind fun t50 => (wX11_leaves x14 x15 x16 s).bind fun t51 => (wstZ s 165 512 x16 (t50 &&& t51)).bind fun s53 => wX11_trials_h237 x2 x3 x4 x6 x7 x8 x9 x10 x11 x12 x13 x14 x15 n (x16 + 1) s53) else (some s)
theorem wX11_trials_t237 {x2 : Int32} {x3 : Int32} {x4 : Int64} {x6 : Int32} {x7 : Int32} {x8 : Int32} {x9 : Int32} {x10 : Int32} {x11 : Int32} {x12 : Int32} {x13 : Int32} {x14 : Int32} {x15 : Int32} {x : wS} {r : ri_R} (he272 : ∀ (s : wS) (w1 : Int32) (w14 : Int32) (w15 : Int32) (w16 : Int32) , x = s → gRun 5 273 272 [some (.ref 153), some (.int w1), some (.int x2), some (.int x3), some (.long x4), none, some (.int x6), some (.int x7), some (.int x8), some (.int x9), some (.int x10), some (.int x11), some (.int x12), some (.int x13), some (.int w14), some (.int w15), some (.int w16)] [] (wmk s) r) : ∀ {n : Nat} {x16 : Int32} {s : wS} {w1 : Int32} , wX11_trials_h237 x2 x3 x4 x6 x7 x8 x9 x10 x11 x12 x13 x14 x15 n x16 s = some x → gRun 5 273 237 [some (.ref 153), some (.int w1), some (.int x2), some (.int x3), some (.long x4), none, some (.int x6), some (.int x7), some (.int x8), some (.int x9), some (.int x10), some (.int x11), some (.int x12), some (.int x13), some (.int x14), some (.int x15), some (.int x16)] [] (wmk s) r := by
  intro n
  induction n with
  | zero => intro x16 s w1 h; cases (show (none : Option (wS)) = some x from h)
  | succ n ih =>
    intro x16 s w1 h
    rw [wX11_trials_h237] at h
    refine gR_go 2 (pc1 := 240) (L1 := [some (.ref 153), some (.int w1), some (.int x2), some (.int x3), some (.long x4), none, some (.int x6), some (.int x7), some (.int x8), some (.int x9), some (.int x10), some (.int x11), some (.int x12), some (.int x13), some (.int x14), some (.int x15), some (.int x16)]) (st1 := [.ref 153, .int x16]) (fun _ _ => rfl) ?_
    obtain ⟨t47, e48, h⟩ := gb h
    refine gR_cvI (wX11_worlds_s e48) (Nat.le_of_ble_eq_true rfl) rfl rfl rfl rfl rfl ?_
    rcases gif h with ⟨c49, h⟩ | ⟨c49, h⟩
    · refine gR_ic_ge_f rfl c49 ?_
      refine gR_go 1 (pc1 := 247) (L1 := [some (.ref 153), some (.int w1), some (.int x2), some (.int x3), some (.long x4), none, some (.int x6), some (.int x7), some (.int x8), some (.int x9), some (.int x10), some (.int x11), some (.int x12), some (.int x13), some (.int x14), some (.int x15), some (.int x16)]) (st1 := [.ref 153]) (fun _ _ => rfl) ?_
      refine gR_gfR (k := 152) (k' := 165) rfl rfl rfl rfl ?_
      refine gR_go 2 (pc1 := 253) (L1 := [some (.ref 153), some (.int w1), some (.int x2), some (.int x3), some (.long x4), none, some (.int x6), some (.int x7), some (.int x8), some (.int x9), some (.int x10), some (.int x11), some (.int x12), some (.int x13), some (.int x14), some (.int x15), some (.int x16)]) (st1 := [.int x16, .ref 166, .int x16, .ref 166]) (fun _ _ => rfl) ?_
      obtain ⟨t50, et50, h⟩ := gb h
      refine gR_zal (k := 165) rfl rfl rfl et50 ?_
      refine gR_go 4 (pc1 := 261) (L1 := [some (.ref 153), some (.int w1), some (.int x2), some (.int x3), some (.long x4), none, some (.int x6), some (.int x7), some (.int x8), some (.int x9), some (.int x10), some (.int x11), some (.int x12), some (.int x13), some (.int x14), some (.int x15), some (.int x16)]) (st1 := [.int x16, .int x15, .int x14, .ref 153, .int t50, .int x16, .ref 166]) (fun _ _ => rfl) ?_
      obtain ⟨t51, e52, h⟩ := gb h
      refine gR_cvI (wX11_leaves_s e52) (Nat.le_of_ble_eq_true rfl) rfl rfl rfl rfl rfl ?_
      refine gR_go 1 (pc1 := 265) (L1 := [some (.ref 153), some (.int w1), some (.int x2), some (.int x3), some (.long x4), none, some (.int x6), some (.int x7), some (.int x8), some (.int x9), some (.int x10), some (.int x11), some (.int x12), some (.int x13), some (.int x14), some (.int x15), some (.int x16)]) (st1 := [.int (t50 &&& t51), .int x16, .ref 166]) (fun _ _ => rfl) ?_
      obtain ⟨s53, es53, h⟩ := gb h
      refine gR_zas (k := 165) rfl rfl rfl es53 ?_
      refine gR_go 2 (pc1 := 237) (L1 := [some (.ref 153), some (.int w1), some (.int x2), some (.int x3), some (.long x4), none, some (.int x6), some (.int x7), some (.int x8), some (.int x9), some (.int x10), some (.int x11), some (.int x12), some (.int x13), some (.int x14), some (.int x15), some (.int (x16 + 1))]) (st1 := []) (fun _ _ => rfl) ?_
      exact ih h
    · refine gR_ic_ge_j rfl c49 rfl ?_
      exact he272 _ _ _ _ _ (Option.some.inj h).symm
noncomputable def wX11_trials_j232 (qq : Int32 → Int32 → Int32 → wS → Option (Int32 × Int32 × wS)) (x2 : Int32) (x3 : Int32) (x4 : Int64) (x6 : Int32) (x7 : Int32) (x8 : Int32) (x9 : Int32) (x10 : Int32) (x12 : Int32) (x13 : Int32) (x14 : Int32) (x15 : Int32) (y0 : Int32) (s : wS) : Option (Int32 × Int32 × wS) := (wX11_trials_h237 x2 x3 x4 x6 x7 x8 x9 x10 y0 x12 x13 x14 x15 wFuel 0 s).bind fun s55 => qq y0 (x12 + 1) x13 s55
theorem wX11_trials_u232 {x2 : Int32} {x3 : Int32} {x4 : Int64} {x6 : Int32} {x7 : Int32} {x8 : Int32} {x9 : Int32} {x10 : Int32} {x12 : Int32} {x13 : Int32} {x14 : Int32} {x15 : Int32} {y0 : Int32} {s : wS} {w1 : Int32} {w11 : Int32} {w16 : Option Value} {qq : Int32 → Int32 → Int32 → wS → Option (Int32 × Int32 × wS)} {x : Int32 × Int32 × wS} {r : ri_R} (ih : ∀ {x11 : Int32} {x12 : Int32} {x13 : Int32} {s : wS} {w1 : Int32} {w14 : Option Value} {w15 : Option Value} {w16 : Option Value} , qq x11 x12 x13 s = some x → gRun 5 273 136 [some (.ref 153), some (.int w1), some (.int x2), some (.int x3), some (.long x4), none, some (.int x6), some (.int x7), some (.int x8), some (.int x9), some (.int x10), some (.int x11), some (.int x12), some (.int x13), w14, w15, w16] [] (wmk s) r) (he278 : ∀ (x11 : Int32) (x12 : Int32) (s : wS) (w1 : Int32) (w10 : Int32) (w13 : Int32) (w14 : Option Value) (w15 : Option Value) (w16 : Option Value) , x = (x11, x12, s) → gRun 5 273 278 [some (.ref 153), some (.int w1), some (.int x2), some (.int x3), some (.long x4), none, some (.int x6), some (.int x7), some (.int x8), some (.int x9), some (.int w10), some (.int x11), some (.int x12), some (.int w13), w14, w15, w16] [] (wmk s) r) (h : wX11_trials_j232 qq x2 x3 x4 x6 x7 x8 x9 x10 x12 x13 x14 x15 y0 s = some x) : gRun 5 273 232 [some (.ref 153), some (.int w1), some (.int x2), some (.int x3), some (.long x4), none, some (.int x6), some (.int x7), some (.int x8), some (.int x9), some (.int x10), some (.int w11), some (.int x12), some (.int x13), some (.int x14), some (.int x15), w16] [.int y0] (wmk s) r := by
  unfold wX11_trials_j232 at h
  refine gR_go 3 (pc1 := 237) (L1 := [some (.ref 153), some (.int w1), some (.int x2), some (.int x3), some (.long x4), none, some (.int x6), some (.int x7), some (.int x8), some (.int x9), some (.int x10), some (.int y0), some (.int x12), some (.int x13), some (.int x14), some (.int x15), some (.int 0)]) (st1 := []) (fun _ _ => rfl) ?_
  obtain ⟨z54, ez54, h⟩ := gb h
  refine wX11_trials_t237 ?_  ez54
  · intro s55 w56 w57 w58 w59 hz
    replace hz := hz.symm
    subst hz
    refine gR_go 2 (pc1 := 136) (L1 := [some (.ref 153), some (.int w56), some (.int x2), some (.int x3), some (.long x4), none, some (.int x6), some (.int x7), some (.int x8), some (.int x9), some (.int x10), some (.int y0), some (.int (x12 + 1)), some (.int x13), some (.int w57), some (.int w58), some (.int w59)]) (st1 := []) (fun _ _ => rfl) ?_
    exact ih h
noncomputable def wX11_trials_j214 (qq : Int32 → Int32 → Int32 → wS → Option (Int32 × Int32 × wS)) (x2 : Int32) (x3 : Int32) (x4 : Int64) (x6 : Int32) (x7 : Int32) (x8 : Int32) (x9 : Int32) (x10 : Int32) (x12 : Int32) (x13 : Int32) (x14 : Int32) (y0 : Int32) (s : wS) : Option (Int32 × Int32 × wS) := if y0 = 0 then (wX11_trials_j232 qq x2 x3 x4 x6 x7 x8 x9 x10 x12 x13 x14 y0 (s.1 152 34) s) else (wX11_trials_j232 qq x2 x3 x4 x6 x7 x8 x9 x10 x12 x13 x14 y0 (s.1 152 35) s)
theorem wX11_trials_u214 {x2 : Int32} {x3 : Int32} {x4 : Int64} {x6 : Int32} {x7 : Int32} {x8 : Int32} {x9 : Int32} {x10 : Int32} {x12 : Int32} {x13 : Int32} {x14 : Int32} {y0 : Int32} {s : wS} {w1 : Int32} {w11 : Int32} {w15 : Option Value} {w16 : Option Value} {qq : Int32 → Int32 → Int32 → wS → Option (Int32 × Int32 × wS)} {x : Int32 × Int32 × wS} {r : ri_R} (ih : ∀ {x11 : Int32} {x12 : Int32} {x13 : Int32} {s : wS} {w1 : Int32} {w14 : Option Value} {w15 : Option Value} {w16 : Option Value} , qq x11 x12 x13 s = some x → gRun 5 273 136 [some (.ref 153), some (.int w1), some (.int x2), some (.int x3), some (.long x4), none, some (.int x6), some (.int x7), some (.int x8), some (.int x9), some (.int x10), some (.int x11), some (.int x12), some (.int x13), w14, w15, w16] [] (wmk s) r) (he278 : ∀ (x11 : Int32) (x12 : Int32) (s : wS) (w1 : Int32) (w10 : Int32) (w13 : Int32) (w14 : Option Value) (w15 : Option Value) (w16 : Option Value) , x = (x11, x12, s) → gRun 5 273 278 [some (.ref 153), some (.int w1), some (.int x2), some (.int x3), some (.long x4), none, some (.int x6), some (.int x7), some (.int x8), some (.int x9), some (.int w10), some (.int x11), some (.int x12), some (.int w13), w14, w15, w16] [] (wmk s) r) (h : wX11_trials_j214 qq x2 x3 x4 x6 x7 x8 x9 x10 x12 x13 x14 y0 s = some x) : gRun 5 273 214 [some (.ref 153), some (.int w1), some (.int x2), some (.int x3), some (.long x4), none, some (.int x6), some (.int x7), some (.int x8), some (.int x9), some (.int x10), some (.int w11), some (.int x12), some (.int x13), some (.int x14), w15, w16] [.int y0] (wmk s) r := by
  unfold wX11_trials_j214 at h
  refine gR_go 2 (pc1 := 218) (L1 := [some (.ref 153), some (.int w1), some (.int x2), some (.int x3), some (.long x4), none, some (.int x6), some (.int x7), some (.int x8), some (.int x9), some (.int x10), some (.int w11), some (.int x12), some (.int x13), some (.int x14), some (.int y0), w16]) (st1 := [.int y0]) (fun _ _ => rfl) ?_
  rcases gif h with ⟨c46, h⟩ | ⟨c46, h⟩
  · refine gR_iz_ne_f rfl c46 ?_
    refine gR_go 1 (pc1 := 222) (L1 := [some (.ref 153), some (.int w1), some (.int x2), some (.int x3), some (.long x4), none, some (.int x6), some (.int x7), some (.int x8), some (.int x9), some (.int x10), some (.int w11), some (.int x12), some (.int x13), some (.int x14), some (.int y0), w16]) (st1 := [.ref 153]) (fun _ _ => rfl) ?_
    refine gR_gfI (k := 152) rfl rfl rfl ?_
    refine gR_go 1 (pc1 := 232) (L1 := [some (.ref 153), some (.int w1), some (.int x2), some (.int x3), some (.long x4), none, some (.int x6), some (.int x7), some (.int x8), some (.int x9), some (.int x10), some (.int w11), some (.int x12), some (.int x13), some (.int x14), some (.int y0), w16]) (st1 := [.int (s.1 152 34)]) (fun _ _ => rfl) ?_
    exact wX11_trials_u232 ih he278 h
  · refine gR_iz_ne_j rfl c46 rfl ?_
    refine gR_go 1 (pc1 := 229) (L1 := [some (.ref 153), some (.int w1), some (.int x2), some (.int x3), some (.long x4), none, some (.int x6), some (.int x7), some (.int x8), some (.int x9), some (.int x10), some (.int w11), some (.int x12), some (.int x13), some (.int x14), some (.int y0), w16]) (st1 := [.ref 153]) (fun _ _ => rfl) ?_
    refine gR_gfI (k := 152) rfl rfl rfl ?_
    exact wX11_trials_u232 ih he278 h
noncomputable def wX11_trials_j187 (qq : Int32 → Int32 → Int32 → wS → Option (Int32 × Int32 × wS)) (x2 : Int32) (x3 : Int32) (x4 : Int64) (x6 : Int32) (x7 : Int32) (x8 : Int32) (x9 : Int32) (x10 : Int32) (x11 : Int32) (x12 : Int32) (x14 : Int32) (y0 : Int32) (s : wS) : Option (Int32 × Int32 × wS) := if y0 = 0 then (qq x11 x12 y0 s) else ((wX11_leaves x14 0 x10 s).bind fun t43 => if t43 = 0 then (wX11_trials_j214 qq x2 x3 x4 x6 x7 x8 x9 x10 x12 y0 x14 1 s) else (wX11_trials_j214 qq x2 x3 x4 x6 x7 x8 x9 x10 x12 y0 x14 0 s))
theorem wX11_trials_u187 {x2 : Int32} {x3 : Int32} {x4 : Int64} {x6 : Int32} {x7 : Int32} {x8 : Int32} {x9 : Int32} {x10 : Int32} {x11 : Int32} {x12 : Int32} {x14 : Int32} {y0 : Int32} {s : wS} {w1 : Int32} {w13 : Int32} {w15 : Option Value} {w16 : Option Value} {qq : Int32 → Int32 → Int32 → wS → Option (Int32 × Int32 × wS)} {x : Int32 × Int32 × wS} {r : ri_R} (ih : ∀ {x11 : Int32} {x12 : Int32} {x13 : Int32} {s : wS} {w1 : Int32} {w14 : Option Value} {w15 : Option Value} {w16 : Option Value} , qq x11 x12 x13 s = some x → gRun 5 273 136 [some (.ref 153), some (.int w1), some (.int x2), some (.int x3), some (.long x4), none, some (.int x6), some (.int x7), some (.int x8), some (.int x9), some (.int x10), some (.int x11), some (.int x12), some (.int x13), w14, w15, w16] [] (wmk s) r) (he278 : ∀ (x11 : Int32) (x12 : Int32) (s : wS) (w1 : Int32) (w10 : Int32) (w13 : Int32) (w14 : Option Value) (w15 : Option Value) (w16 : Option Value) , x = (x11, x12, s) → gRun 5 273 278 [some (.ref 153), some (.int w1), some (.int x2), some (.int x3), some (.long x4), none, some (.int x6), some (.int x7), some (.int x8), some (.int x9), some (.int w10), some (.int x11), some (.int x12), some (.int w13), w14, w15, w16] [] (wmk s) r) (h : wX11_trials_j187 qq x2 x3 x4 x6 x7 x8 x9 x10 x11 x12 x14 y0 s = some x) : gRun 5 273 187 [some (.ref 153), some (.int w1), some (.int x2), some (.int x3), some (.long x4), none, some (.int x6), some (.int x7), some (.int x8), some (.int x9), some (.int x10), some (.int x11), some (.int x12), some (.int w13), some (.int x14), w15, w16] [.int y0] (wmk s) r := by
  unfold wX11_trials_j187 at h
  refine gR_go 2 (pc1 := 191) (L1 := [some (.ref 153), some (.int w1), some (.int x2), some (.int x3), some (.long x4), none, some (.int x6), some (.int x7), some (.int x8), some (.int x9), some (.int x10), some (.int x11), some (.int x12), some (.int y0), some (.int x14), w15, w16]) (st1 := [.int y0]) (fun _ _ => rfl) ?_
  rcases gif h with ⟨c42, h⟩ | ⟨c42, h⟩
  · refine gR_iz_ne_f rfl c42 ?_
    refine gR_go 1 (pc1 := 136) (L1 := [some (.ref 153), some (.int w1), some (.int x2), some (.int x3), some (.long x4), none, some (.int x6), some (.int x7), some (.int x8), some (.int x9), some (.int x10), some (.int x11), some (.int x12), some (.int y0), some (.int x14), w15, w16]) (st1 := []) (fun _ _ => rfl) ?_
    exact ih h
  · refine gR_iz_ne_j rfl c42 rfl ?_
    refine gR_go 4 (pc1 := 203) (L1 := [some (.ref 153), some (.int w1), some (.int x2), some (.int x3), some (.long x4), none, some (.int x6), some (.int x7), some (.int x8), some (.int x9), some (.int x10), some (.int x11), some (.int x12), some (.int y0), some (.int x14), w15, w16]) (st1 := [.int x10, .int 0, .int x14, .ref 153]) (fun _ _ => rfl) ?_
    obtain ⟨t43, e44, h⟩ := gb h
    refine gR_cvI (wX11_leaves_s e44) (Nat.le_of_ble_eq_true rfl) rfl rfl rfl rfl rfl ?_
    rcases gif h with ⟨c45, h⟩ | ⟨c45, h⟩
    · refine gR_iz_eq_j rfl c45 rfl ?_
      refine gR_go 1 (pc1 := 214) (L1 := [some (.ref 153), some (.int w1), some (.int x2), some (.int x3), some (.long x4), none, some (.int x6), some (.int x7), some (.int x8), some (.int x9), some (.int x10), some (.int x11), some (.int x12), some (.int y0), some (.int x14), w15, w16]) (st1 := [.int 1]) (fun _ _ => rfl) ?_
      exact wX11_trials_u214 ih he278 h
    · refine gR_iz_eq_f rfl c45 ?_
      refine gR_go 2 (pc1 := 214) (L1 := [some (.ref 153), some (.int w1), some (.int x2), some (.int x3), some (.long x4), none, some (.int x6), some (.int x7), some (.int x8), some (.int x9), some (.int x10), some (.int x11), some (.int x12), some (.int y0), some (.int x14), w15, w16]) (st1 := [.int 0]) (fun _ _ => rfl) ?_
      exact wX11_trials_u214 ih he278 h
noncomputable def wX11_trials_j186 (qq : Int32 → Int32 → Int32 → wS → Option (Int32 × Int32 × wS)) (x2 : Int32) (x3 : Int32) (x4 : Int64) (x6 : Int32) (x7 : Int32) (x8 : Int32) (x9 : Int32) (x10 : Int32) (x11 : Int32) (x12 : Int32) (x14 : Int32) (s : wS) : Option (Int32 × Int32 × wS) := wX11_trials_j187 qq x2 x3 x4 x6 x7 x8 x9 x10 x11 x12 x14 0 s
theorem wX11_trials_u186 {x2 : Int32} {x3 : Int32} {x4 : Int64} {x6 : Int32} {x7 : Int32} {x8 : Int32} {x9 : Int32} {x10 : Int32} {x11 : Int32} {x12 : Int32} {x14 : Int32} {s : wS} {w1 : Int32} {w13 : Int32} {w15 : Option Value} {w16 : Option Value} {qq : Int32 → Int32 → Int32 → wS → Option (Int32 × Int32 × wS)} {x : Int32 × Int32 × wS} {r : ri_R} (ih : ∀ {x11 : Int32} {x12 : Int32} {x13 : Int32} {s : wS} {w1 : Int32} {w14 : Option Value} {w15 : Option Value} {w16 : Option Value} , qq x11 x12 x13 s = some x → gRun 5 273 136 [some (.ref 153), some (.int w1), some (.int x2), some (.int x3), some (.long x4), none, some (.int x6), some (.int x7), some (.int x8), some (.int x9), some (.int x10), some (.int x11), some (.int x12), some (.int x13), w14, w15, w16] [] (wmk s) r) (he278 : ∀ (x11 : Int32) (x12 : Int32) (s : wS) (w1 : Int32) (w10 : Int32) (w13 : Int32) (w14 : Option Value) (w15 : Option Value) (w16 : Option Value) , x = (x11, x12, s) → gRun 5 273 278 [some (.ref 153), some (.int w1), some (.int x2), some (.int x3), some (.long x4), none, some (.int x6), some (.int x7), some (.int x8), some (.int x9), some (.int w10), some (.int x11), some (.int x12), some (.int w13), w14, w15, w16] [] (wmk s) r) (h : wX11_trials_j186 qq x2 x3 x4 x6 x7 x8 x9 x10 x11 x12 x14 s = some x) : gRun 5 273 186 [some (.ref 153), some (.int w1), some (.int x2), some (.int x3), some (.long x4), none, some (.int x6), some (.int x7), some (.int x8), some (.int x9), some (.int x10), some (.int x11), some (.int x12), some (.int w13), some (.int x14), w15, w16] [] (wmk s) r := by
  unfold wX11_trials_j186 at h
  refine gR_go 1 (pc1 := 187) (L1 := [some (.ref 153), some (.int w1), some (.int x2), some (.int x3), some (.long x4), none, some (.int x6), some (.int x7), some (.int x8), some (.int x9), some (.int x10), some (.int x11), some (.int x12), some (.int w13), some (.int x14), w15, w16]) (st1 := [.int 0]) (fun _ _ => rfl) ?_
  exact wX11_trials_u187 ih he278 h
noncomputable def wX11_trials_h136 (x2 : Int32) (x3 : Int32) (x4 : Int64) (x6 : Int32) (x7 : Int32) (x8 : Int32) (x9 : Int32) (x10 : Int32) : Nat → Int32 → Int32 → Int32 → wS → Option (Int32 × Int32 × wS)
  | 0, _, _, _, _ => none
  | n + 1, x11, x12, x13, s => if x13 = 0 then (some (x11, x12, s)) else (if 1 < x11 then (if x12 < 9 then ((wX11_asksNext 0 s).bind fun (t38, s39) => if t38 < 0 then (wX11_trials_j186 (wX11_trials_h136 x2 x3 x4 x6 x7 x8 x9 x10 n) x2 x3 x4 x6 x7 x8 x9 x10 x11 x12 t38 s39) else ((wX11_greater (s39.1 152 34) (s39.1 152 35) s39).bind fun t60 => if t60 < x11 then (wX11_trials_j187 (wX11_trials_h136 x2 x3 x4 x6 x7 x8 x9 x10 n) x2 x3 x4 x6 x7 x8 x9 x10 x11 x12 t38 1 s39) else (wX11_trials_j186 (wX11_trials_h136 x2 x3 x4 x6 x7 x8 x9 x10 n) x2 x3 x4 x6 x7 x8 x9 x10 x11 x12 t38 s39))) else (some (x11, x12, s))) else (some (x11, x12, s)))
theorem wX11_trials_t136 {x2 : Int32} {x3 : Int32} {x4 : Int64} {x6 : Int32} {x7 : Int32} {x8 : Int32} {x9 : Int32} {x10 : Int32} {x : Int32 × Int32 × wS} {r : ri_R} (he278 : ∀ (x11 : Int32) (x12 : Int32) (s : wS) (w1 : Int32) (w10 : Int32) (w13 : Int32) (w14 : Option Value) (w15 : Option Value) (w16 : Option Value) , x = (x11, x12, s) → gRun 5 273 278 [some (.ref 153), some (.int w1), some (.int x2), some (.int x3), some (.long x4), none, some (.int x6), some (.int x7), some (.int x8), some (.int x9), some (.int w10), some (.int x11), some (.int x12), some (.int w13), w14, w15, w16] [] (wmk s) r) : ∀ {n : Nat} {x11 : Int32} {x12 : Int32} {x13 : Int32} {s : wS} {w1 : Int32} {w14 : Option Value} {w15 : Option Value} {w16 : Option Value} , wX11_trials_h136 x2 x3 x4 x6 x7 x8 x9 x10 n x11 x12 x13 s = some x → gRun 5 273 136 [some (.ref 153), some (.int w1), some (.int x2), some (.int x3), some (.long x4), none, some (.int x6), some (.int x7), some (.int x8), some (.int x9), some (.int x10), some (.int x11), some (.int x12), some (.int x13), w14, w15, w16] [] (wmk s) r := by
  intro n
  induction n with
  | zero => intro x11 x12 x13 s w1 w14 w15 w16 h; cases (show (none : Option (Int32 × Int32 × wS)) = some x from h)
  | succ n ih =>
    intro x11 x12 x13 s w1 w14 w15 w16 h
    rw [wX11_trials_h136] at h
    refine gR_go 1 (pc1 := 138) (L1 := [some (.ref 153), some (.int w1), some (.int x2), some (.int x3), some (.long x4), none, some (.int x6), some (.int x7), some (.int x8), some (.int x9), some (.int x10), some (.int x11), some (.int x12), some (.int x13), w14, w15, w16]) (st1 := [.int x13]) (fun _ _ => rfl) ?_
    rcases gif h with ⟨c35, h⟩ | ⟨c35, h⟩
    · refine gR_iz_eq_j rfl c35 rfl ?_
      exact he278 _ _ _ _ _ _ _ _ _ (Option.some.inj h).symm
    · refine gR_iz_eq_f rfl c35 ?_
      refine gR_go 2 (pc1 := 144) (L1 := [some (.ref 153), some (.int w1), some (.int x2), some (.int x3), some (.long x4), none, some (.int x6), some (.int x7), some (.int x8), some (.int x9), some (.int x10), some (.int x11), some (.int x12), some (.int x13), w14, w15, w16]) (st1 := [.int 1, .int x11]) (fun _ _ => rfl) ?_
      rcases gif h with ⟨c36, h⟩ | ⟨c36, h⟩
      · refine gR_ic_le_f rfl c36 ?_
        refine gR_go 2 (pc1 := 151) (L1 := [some (.ref 153), some (.int w1), some (.int x2), some (.int x3), some (.long x4), none, some (.int x6), some (.int x7), some (.int x8), some (.int x9), some (.int x10), some (.int x11), some (.int x12), some (.int x13), w14, w15, w16]) (st1 := [.int 9, .int x12]) (fun _ _ => rfl) ?_
        rcases gif h with ⟨c37, h⟩ | ⟨c37, h⟩
        · refine gR_ic_ge_f rfl c37 ?_
          refine gR_go 2 (pc1 := 156) (L1 := [some (.ref 153), some (.int w1), some (.int x2), some (.int x3), some (.long x4), none, some (.int x6), some (.int x7), some (.int x8), some (.int x9), some (.int x10), some (.int x11), some (.int x12), some (.int x13), w14, w15, w16]) (st1 := [.int 0, .ref 153]) (fun _ _ => rfl) ?_
          obtain ⟨⟨t38, s39⟩, e40, h⟩ := gb h
          dsimp only at h
          refine gR_cvI (wX11_asksNext_s e40) (Nat.le_of_ble_eq_true rfl) rfl rfl rfl rfl rfl ?_
          refine gR_go 2 (pc1 := 163) (L1 := [some (.ref 153), some (.int w1), some (.int x2), some (.int x3), some (.long x4), none, some (.int x6), some (.int x7), some (.int x8), some (.int x9), some (.int x10), some (.int x11), some (.int x12), some (.int x13), some (.int t38), w15, w16]) (st1 := [.int t38]) (fun _ _ => rfl) ?_
          rcases gif h with ⟨c41, h⟩ | ⟨c41, h⟩
          · refine gR_iz_lt_j rfl c41 rfl ?_
            exact wX11_trials_u186 ih he278 h
          · refine gR_iz_lt_f rfl c41 ?_
            refine gR_go 1 (pc1 := 167) (L1 := [some (.ref 153), some (.int w1), some (.int x2), some (.int x3), some (.long x4), none, some (.int x6), some (.int x7), some (.int x8), some (.int x9), some (.int x10), some (.int x11), some (.int x12), some (.int x13), some (.int t38), w15, w16]) (st1 := [.ref 153]) (fun _ _ => rfl) ?_
            refine gR_gfI (k := 152) rfl rfl rfl ?_
            refine gR_go 1 (pc1 := 171) (L1 := [some (.ref 153), some (.int w1), some (.int x2), some (.int x3), some (.long x4), none, some (.int x6), some (.int x7), some (.int x8), some (.int x9), some (.int x10), some (.int x11), some (.int x12), some (.int x13), some (.int t38), w15, w16]) (st1 := [.ref 153, .int (s39.1 152 34)]) (fun _ _ => rfl) ?_
            refine gR_gfI (k := 152) rfl rfl rfl ?_
            obtain ⟨t60, e61, h⟩ := gb h
            refine gR_csI (wX11_greater_s e61) (Nat.le_of_ble_eq_true rfl) rfl rfl rfl rfl ?_
            refine gR_go 1 (pc1 := 179) (L1 := [some (.ref 153), some (.int w1), some (.int x2), some (.int x3), some (.long x4), none, some (.int x6), some (.int x7), some (.int x8), some (.int x9), some (.int x10), some (.int x11), some (.int x12), some (.int x13), some (.int t38), w15, w16]) (st1 := [.int x11, .int t60]) (fun _ _ => rfl) ?_
            rcases gif h with ⟨c62, h⟩ | ⟨c62, h⟩
            · refine gR_ic_ge_f rfl c62 ?_
              refine gR_go 2 (pc1 := 187) (L1 := [some (.ref 153), some (.int w1), some (.int x2), some (.int x3), some (.long x4), none, some (.int x6), some (.int x7), some (.int x8), some (.int x9), some (.int x10), some (.int x11), some (.int x12), some (.int x13), some (.int t38), w15, w16]) (st1 := [.int 1]) (fun _ _ => rfl) ?_
              exact wX11_trials_u187 ih he278 h
            · refine gR_ic_ge_j rfl c62 rfl ?_
              exact wX11_trials_u186 ih he278 h
        · refine gR_ic_ge_j rfl c37 rfl ?_
          exact he278 _ _ _ _ _ _ _ _ _ (Option.some.inj h).symm
      · refine gR_ic_le_j rfl c36 rfl ?_
        exact he278 _ _ _ _ _ _ _ _ _ (Option.some.inj h).symm
noncomputable def wX11_trials_j298 (qq : Int64 → Int32 → Int32 → Int32 → Int32 → wS → Option (Int32 × Int32 × Int32 × wS)) (x2 : Int32) (x3 : Int32) (x4 : Int64) (x6 : Int32) (x8 : Int32) (x9 : Int32) (x11 : Int32) (y0 : Int32) (y1 : Int32) (s : wS) : Option (Int32 × Int32 × Int32 × wS) := qq x4 x6 (y0 + y1) (x8 + x11) (x9 + 1) s
theorem wX11_trials_u298 {x2 : Int32} {x3 : Int32} {x4 : Int64} {x6 : Int32} {x8 : Int32} {x9 : Int32} {x11 : Int32} {y0 : Int32} {y1 : Int32} {s : wS} {w1 : Int32} {w7 : Int32} {w10 : Int32} {w12 : Int32} {w13 : Int32} {w14 : Option Value} {w15 : Option Value} {w16 : Option Value} {qq : Int64 → Int32 → Int32 → Int32 → Int32 → wS → Option (Int32 × Int32 × Int32 × wS)} {x : Int32 × Int32 × Int32 × wS} {r : ri_R} (ih : ∀ {x4 : Int64} {x6 : Int32} {x7 : Int32} {x8 : Int32} {x9 : Int32} {s : wS} {w1 : Int32} {w10 : Option Value} {w11 : Option Value} {w12 : Option Value} {w13 : Option Value} {w14 : Option Value} {w15 : Option Value} {w16 : Option Value} , qq x4 x6 x7 x8 x9 s = some x → gRun 5 273 61 [some (.ref 153), some (.int w1), some (.int x2), some (.int x3), some (.long x4), none, some (.int x6), some (.int x7), some (.int x8), some (.int x9), w10, w11, w12, w13, w14, w15, w16] [] (wmk s) r) (he314 : ∀ (x6 : Int32) (x7 : Int32) (x8 : Int32) (s : wS) (w1 : Int32) (w2 : Int32) (w4 : Int64) (w9 : Int32) (w10 : Option Value) (w11 : Option Value) (w12 : Option Value) (w13 : Option Value) (w14 : Option Value) (w15 : Option Value) (w16 : Option Value) , x = (x6, x7, x8, s) → gRun 5 273 314 [some (.ref 153), some (.int w1), some (.int w2), some (.int x3), some (.long w4), none, some (.int x6), some (.int x7), some (.int x8), some (.int w9), w10, w11, w12, w13, w14, w15, w16] [] (wmk s) r) (h : wX11_trials_j298 qq x2 x3 x4 x6 x8 x9 x11 y0 y1 s = some x) : gRun 5 273 298 [some (.ref 153), some (.int w1), some (.int x2), some (.int x3), some (.long x4), none, some (.int x6), some (.int w7), some (.int x8), some (.int x9), some (.int w10), some (.int x11), some (.int w12), some (.int w13), w14, w15, w16] [.int y1, .int y0] (wmk s) r := by
  unfold wX11_trials_j298 at h
  refine gR_go 8 (pc1 := 61) (L1 := [some (.ref 153), some (.int w1), some (.int x2), some (.int x3), some (.long x4), none, some (.int x6), some (.int (y0 + y1)), some (.int (x8 + x11)), some (.int (x9 + 1)), some (.int w10), some (.int x11), some (.int w12), some (.int w13), w14, w15, w16]) (st1 := []) (fun _ _ => rfl) ?_
  exact ih h
noncomputable def wX11_trials_j278 (qq : Int64 → Int32 → Int32 → Int32 → Int32 → wS → Option (Int32 × Int32 × Int32 × wS)) (x2 : Int32) (x3 : Int32) (x4 : Int64) (x6 : Int32) (x7 : Int32) (x8 : Int32) (x9 : Int32) (x11 : Int32) (x12 : Int32) (s : wS) : Option (Int32 × Int32 × Int32 × wS) := if x11 = 1 then (wX11_trials_j298 qq x2 x3 x4 (x6 + x12) x8 x9 x11 x7 1 s) else (wX11_trials_j298 qq x2 x3 x4 (x6 + x12) x8 x9 x11 x7 0 s)
theorem wX11_trials_u278 {x2 : Int32} {x3 : Int32} {x4 : Int64} {x6 : Int32} {x7 : Int32} {x8 : Int32} {x9 : Int32} {x11 : Int32} {x12 : Int32} {s : wS} {w1 : Int32} {w10 : Int32} {w13 : Int32} {w14 : Option Value} {w15 : Option Value} {w16 : Option Value} {qq : Int64 → Int32 → Int32 → Int32 → Int32 → wS → Option (Int32 × Int32 × Int32 × wS)} {x : Int32 × Int32 × Int32 × wS} {r : ri_R} (ih : ∀ {x4 : Int64} {x6 : Int32} {x7 : Int32} {x8 : Int32} {x9 : Int32} {s : wS} {w1 : Int32} {w10 : Option Value} {w11 : Option Value} {w12 : Option Value} {w13 : Option Value} {w14 : Option Value} {w15 : Option Value} {w16 : Option Value} , qq x4 x6 x7 x8 x9 s = some x → gRun 5 273 61 [some (.ref 153), some (.int w1), some (.int x2), some (.int x3), some (.long x4), none, some (.int x6), some (.int x7), some (.int x8), some (.int x9), w10, w11, w12, w13, w14, w15, w16] [] (wmk s) r) (he314 : ∀ (x6 : Int32) (x7 : Int32) (x8 : Int32) (s : wS) (w1 : Int32) (w2 : Int32) (w4 : Int64) (w9 : Int32) (w10 : Option Value) (w11 : Option Value) (w12 : Option Value) (w13 : Option Value) (w14 : Option Value) (w15 : Option Value) (w16 : Option Value) , x = (x6, x7, x8, s) → gRun 5 273 314 [some (.ref 153), some (.int w1), some (.int w2), some (.int x3), some (.long w4), none, some (.int x6), some (.int x7), some (.int x8), some (.int w9), w10, w11, w12, w13, w14, w15, w16] [] (wmk s) r) (h : wX11_trials_j278 qq x2 x3 x4 x6 x7 x8 x9 x11 x12 s = some x) : gRun 5 273 278 [some (.ref 153), some (.int w1), some (.int x2), some (.int x3), some (.long x4), none, some (.int x6), some (.int x7), some (.int x8), some (.int x9), some (.int w10), some (.int x11), some (.int x12), some (.int w13), w14, w15, w16] [] (wmk s) r := by
  unfold wX11_trials_j278 at h
  refine gR_go 7 (pc1 := 290) (L1 := [some (.ref 153), some (.int w1), some (.int x2), some (.int x3), some (.long x4), none, some (.int (x6 + x12)), some (.int x7), some (.int x8), some (.int x9), some (.int w10), some (.int x11), some (.int x12), some (.int w13), w14, w15, w16]) (st1 := [.int 1, .int x11, .int x7]) (fun _ _ => rfl) ?_
  rcases gif h with ⟨c73, h⟩ | ⟨c73, h⟩
  · refine gR_ic_ne_f rfl c73 ?_
    refine gR_go 2 (pc1 := 298) (L1 := [some (.ref 153), some (.int w1), some (.int x2), some (.int x3), some (.long x4), none, some (.int (x6 + x12)), some (.int x7), some (.int x8), some (.int x9), some (.int w10), some (.int x11), some (.int x12), some (.int w13), w14, w15, w16]) (st1 := [.int 1, .int x7]) (fun _ _ => rfl) ?_
    exact wX11_trials_u298 ih he314 h
  · refine gR_ic_ne_j rfl c73 rfl ?_
    refine gR_go 1 (pc1 := 298) (L1 := [some (.ref 153), some (.int w1), some (.int x2), some (.int x3), some (.long x4), none, some (.int (x6 + x12)), some (.int x7), some (.int x8), some (.int x9), some (.int w10), some (.int x11), some (.int x12), some (.int w13), w14, w15, w16]) (st1 := [.int 0, .int x7]) (fun _ _ => rfl) ?_
    exact wX11_trials_u298 ih he314 h
noncomputable def wX11_trials_h61 (x2 : Int32) (x3 : Int32) : Nat → Int64 → Int32 → Int32 → Int32 → Int32 → wS → Option (Int32 × Int32 × Int32 × wS)
  | 0, _, _, _, _, _, _ => none
  | n + 1, x4, x6, x7, x8, x9, s => if x9 < x2 then ((wrmL ((x4 * 1103515245) + 12345) 2147483648).bind fun t15 => (wdvL t15 65536).bind fun t16 => (wX11_worlds s).bind fun t17 => (wrmL t16 ((t17 : Int32).toInt64)).bind fun t19 => (wX11_trials_h101 x2 x3 t15 x6 x7 x8 x9 ((t19 : Int64).toInt32) wFuel 0 s).bind fun s25 => (wX11_worlds s25).bind fun t33 => (wX11_trials_h136 x2 x3 t15 x6 x7 x8 x9 ((t19 : Int64).toInt32) wFuel t33 0 1 s25).bind fun (t64, t65, s66) => wX11_trials_j278 (wX11_trials_h61 x2 x3 n) x2 x3 t15 x6 x7 x8 x9 t64 t65 s66) else (some (x6, x7, x8, s))
theorem wX11_trials_t61 {x2 : Int32} {x3 : Int32} {x : Int32 × Int32 × Int32 × wS} {r : ri_R} (he314 : ∀ (x6 : Int32) (x7 : Int32) (x8 : Int32) (s : wS) (w1 : Int32) (w2 : Int32) (w4 : Int64) (w9 : Int32) (w10 : Option Value) (w11 : Option Value) (w12 : Option Value) (w13 : Option Value) (w14 : Option Value) (w15 : Option Value) (w16 : Option Value) , x = (x6, x7, x8, s) → gRun 5 273 314 [some (.ref 153), some (.int w1), some (.int w2), some (.int x3), some (.long w4), none, some (.int x6), some (.int x7), some (.int x8), some (.int w9), w10, w11, w12, w13, w14, w15, w16] [] (wmk s) r) : ∀ {n : Nat} {x4 : Int64} {x6 : Int32} {x7 : Int32} {x8 : Int32} {x9 : Int32} {s : wS} {w1 : Int32} {w10 : Option Value} {w11 : Option Value} {w12 : Option Value} {w13 : Option Value} {w14 : Option Value} {w15 : Option Value} {w16 : Option Value} , wX11_trials_h61 x2 x3 n x4 x6 x7 x8 x9 s = some x → gRun 5 273 61 [some (.ref 153), some (.int w1), some (.int x2), some (.int x3), some (.long x4), none, some (.int x6), some (.int x7), some (.int x8), some (.int x9), w10, w11, w12, w13, w14, w15, w16] [] (wmk s) r := by
  intro n
  induction n with
  | zero => intro x4 x6 x7 x8 x9 s w1 w10 w11 w12 w13 w14 w15 w16 h; cases (show (none : Option (Int32 × Int32 × Int32 × wS)) = some x from h)
  | succ n ih =>
    intro x4 x6 x7 x8 x9 s w1 w10 w11 w12 w13 w14 w15 w16 h
    rw [wX11_trials_h61] at h
    refine gR_go 2 (pc1 := 64) (L1 := [some (.ref 153), some (.int w1), some (.int x2), some (.int x3), some (.long x4), none, some (.int x6), some (.int x7), some (.int x8), some (.int x9), w10, w11, w12, w13, w14, w15, w16]) (st1 := [.int x2, .int x9]) (fun _ _ => rfl) ?_
    rcases gif h with ⟨c14, h⟩ | ⟨c14, h⟩
    · refine gR_ic_ge_f rfl c14 ?_
      refine gR_go 6 (pc1 := 80) (L1 := [some (.ref 153), some (.int w1), some (.int x2), some (.int x3), some (.long x4), none, some (.int x6), some (.int x7), some (.int x8), some (.int x9), w10, w11, w12, w13, w14, w15, w16]) (st1 := [.long 2147483648, .long ((x4 * 1103515245) + 12345)]) (fun _ _ => rfl) ?_
      obtain ⟨t15, et15, h⟩ := gb h
      refine gR_rmL rfl et15 ?_
      refine gR_go 3 (pc1 := 88) (L1 := [some (.ref 153), some (.int w1), some (.int x2), some (.int x3), some (.long t15), none, some (.int x6), some (.int x7), some (.int x8), some (.int x9), w10, w11, w12, w13, w14, w15, w16]) (st1 := [.long 65536, .long t15]) (fun _ _ => rfl) ?_
      obtain ⟨t16, et16, h⟩ := gb h
      refine gR_dvL rfl et16 ?_
      refine gR_go 1 (pc1 := 90) (L1 := [some (.ref 153), some (.int w1), some (.int x2), some (.int x3), some (.long t15), none, some (.int x6), some (.int x7), some (.int x8), some (.int x9), w10, w11, w12, w13, w14, w15, w16]) (st1 := [.ref 153, .long t16]) (fun _ _ => rfl) ?_
      obtain ⟨t17, e18, h⟩ := gb h
      refine gR_cvI (wX11_worlds_s e18) (Nat.le_of_ble_eq_true rfl) rfl rfl rfl rfl rfl ?_
      refine gR_go 1 (pc1 := 94) (L1 := [some (.ref 153), some (.int w1), some (.int x2), some (.int x3), some (.long t15), none, some (.int x6), some (.int x7), some (.int x8), some (.int x9), w10, w11, w12, w13, w14, w15, w16]) (st1 := [.long ((t17 : Int32).toInt64), .long t16]) (fun _ _ => rfl) ?_
      obtain ⟨t19, et19, h⟩ := gb h
      refine gR_rmL rfl et19 ?_
      refine gR_go 4 (pc1 := 101) (L1 := [some (.ref 153), some (.int w1), some (.int x2), some (.int x3), some (.long t15), none, some (.int x6), some (.int x7), some (.int x8), some (.int x9), some (.int ((t19 : Int64).toInt32)), some (.int 0), w12, w13, w14, w15, w16]) (st1 := []) (fun _ _ => rfl) ?_
      obtain ⟨z24, ez24, h⟩ := gb h
      refine wX11_trials_t101 ?_  ez24
      · intro s25 w26 w27 w28 w29 w30 w31 w32 hz
        replace hz := hz.symm
        subst hz
        refine gR_go 1 (pc1 := 125) (L1 := [some (.ref 153), some (.int w26), some (.int x2), some (.int x3), some (.long t15), none, some (.int x6), some (.int x7), some (.int x8), some (.int x9), some (.int ((t19 : Int64).toInt32)), some (.int w27), w28, w29, w30, w31, w32]) (st1 := [.ref 153]) (fun _ _ => rfl) ?_
        obtain ⟨t33, e34, h⟩ := gb h
        refine gR_cvI (wX11_worlds_s e34) (Nat.le_of_ble_eq_true rfl) rfl rfl rfl rfl rfl ?_
        refine gR_go 5 (pc1 := 136) (L1 := [some (.ref 153), some (.int w26), some (.int x2), some (.int x3), some (.long t15), none, some (.int x6), some (.int x7), some (.int x8), some (.int x9), some (.int ((t19 : Int64).toInt32)), some (.int t33), some (.int 0), some (.int 1), w30, w31, w32]) (st1 := []) (fun _ _ => rfl) ?_
        obtain ⟨z63, ez63, h⟩ := gb h
        refine wX11_trials_t136 ?_  ez63
        · intro t64 t65 s66 w67 w68 w69 w70 w71 w72 hz
          replace hz := hz.symm
          subst hz
          dsimp only at h
          exact wX11_trials_u278 ih he314 h
    · refine gR_ic_ge_j rfl c14 rfl ?_
      exact he314 _ _ _ _ _ _ _ _ _ _ _ _ _ _ _ (Option.some.inj h).symm
noncomputable def wX11_trials (x1 : Int32) (x2 : Int32) (x3 : Int32) (s : wS) : Option (Int32 × wS) := (wX11_canAsk x1 s).bind fun t1 => if t1 = 0 then (some ((-1), s)) else ((wX11_in ((x2 : Int32).toInt64) 1 20 s).bind fun t4 => if t4 = 0 then (some ((-1), s)) else ((wX11_in ((x3 : Int32).toInt64) 0 2 s).bind fun t7 => if t7 = 0 then (some ((-1), s)) else ((wX11_reaches x1 s).bind fun s11 => (wX11_trials_h61 x2 x3 wFuel (((s11.1 163 6) : Int32).toInt64) 0 0 0 0 s11).bind fun (t75, t76, t77, s78) => if x3 = 0 then (some (t75, s78)) else (if x3 = 1 then (some (t76, s78)) else (some (t77, s78))))))
theorem wX11_trials_s {x1 : Int32} {x2 : Int32} {x3 : Int32} {s : wS} {rv : Int32} {rs : wS} (h : wX11_trials x1 x2 x3 s = some (rv, rs)) : gEv 6 273 [.ref 153, .int x1, .int x2, .int x3] (wmk s) (some (.int rv), wmk rs, 0, 0) := by
  refine gEv_of (d := 5) (L := [some (.ref 153), some (.int x1), some (.int x2), some (.int x3), none, none, none, none, none, none, none, none, none, none, none, none, none]) rfl ?_
  unfold wX11_trials at h
  refine gR_go 2 (pc1 := 2) (L1 := [some (.ref 153), some (.int x1), some (.int x2), some (.int x3), none, none, none, none, none, none, none, none, none, none, none, none, none]) (st1 := [.int x1, .ref 153]) (fun _ _ => rfl) ?_
  obtain ⟨t1, e2, h⟩ := gb h
  refine gR_cvI (wX11_canAsk_s e2) (Nat.le_of_ble_eq_true rfl) rfl rfl rfl rfl rfl ?_
  rcases gif h with ⟨c3, h⟩ | ⟨c3, h⟩
  · refine gR_iz_eq_j rfl c3 rfl ?_
    refine gR_go 1 (pc1 := 33) (L1 := [some (.ref 153), some (.int x1), some (.int x2), some (.int x3), none, none, none, none, none, none, none, none, none, none, none, none, none]) (st1 := [.int (-1)]) (fun _ _ => rfl) ?_
    obtain ⟨rfl, rfl⟩ := gi2 h
    exact gR_ri rfl rfl
  · refine gR_iz_eq_f rfl c3 ?_
    refine gR_go 4 (pc1 := 14) (L1 := [some (.ref 153), some (.int x1), some (.int x2), some (.int x3), none, none, none, none, none, none, none, none, none, none, none, none, none]) (st1 := [.long 20, .long 1, .long ((x2 : Int32).toInt64)]) (fun _ _ => rfl) ?_
    obtain ⟨t4, e5, h⟩ := gb h
    refine gR_csI (wX11_in_s e5) (Nat.le_of_ble_eq_true rfl) rfl rfl rfl rfl ?_
    rcases gif h with ⟨c6, h⟩ | ⟨c6, h⟩
    · refine gR_iz_eq_j rfl c6 rfl ?_
      refine gR_go 1 (pc1 := 33) (L1 := [some (.ref 153), some (.int x1), some (.int x2), some (.int x3), none, none, none, none, none, none, none, none, none, none, none, none, none]) (st1 := [.int (-1)]) (fun _ _ => rfl) ?_
      obtain ⟨rfl, rfl⟩ := gi2 h
      exact gR_ri rfl rfl
    · refine gR_iz_eq_f rfl c6 ?_
      refine gR_go 4 (pc1 := 26) (L1 := [some (.ref 153), some (.int x1), some (.int x2), some (.int x3), none, none, none, none, none, none, none, none, none, none, none, none, none]) (st1 := [.long 2, .long 0, .long ((x3 : Int32).toInt64)]) (fun _ _ => rfl) ?_
      obtain ⟨t7, e8, h⟩ := gb h
      refine gR_csI (wX11_in_s e8) (Nat.le_of_ble_eq_true rfl) rfl rfl rfl rfl ?_
      rcases gif h with ⟨c9, h⟩ | ⟨c9, h⟩
      · refine gR_iz_ne_f rfl c9 ?_
        refine gR_go 1 (pc1 := 33) (L1 := [some (.ref 153), some (.int x1), some (.int x2), some (.int x3), none, none, none, none, none, none, none, none, none, none, none, none, none]) (st1 := [.int (-1)]) (fun _ _ => rfl) ?_
        obtain ⟨rfl, rfl⟩ := gi2 h
        exact gR_ri rfl rfl
      · refine gR_iz_ne_j rfl c9 rfl ?_
        refine gR_go 2 (pc1 := 36) (L1 := [some (.ref 153), some (.int x1), some (.int x2), some (.int x3), none, none, none, none, none, none, none, none, none, none, none, none, none]) (st1 := [.int x1, .ref 153]) (fun _ _ => rfl) ?_
        obtain ⟨s11, e12, h⟩ := gb h
        refine gR_cvV (wX11_reaches_s e12) (Nat.le_of_ble_eq_true rfl) rfl rfl rfl rfl rfl ?_
        refine gR_go 1 (pc1 := 40) (L1 := [some (.ref 153), some (.int x1), some (.int x2), some (.int x3), none, none, none, none, none, none, none, none, none, none, none, none, none]) (st1 := [.ref 153]) (fun _ _ => rfl) ?_
        refine gR_gfR (k := 152) (k' := 163) rfl rfl rfl rfl ?_
        refine gR_go 1 (pc1 := 45) (L1 := [some (.ref 153), some (.int x1), some (.int x2), some (.int x3), none, none, none, none, none, none, none, none, none, none, none, none, none]) (st1 := [.int 6, .ref 164]) (fun _ _ => rfl) ?_
        refine gR_ialc (k := 163) (j := 6) rfl rfl rfl (by decide) rfl ?_
        refine gR_go 10 (pc1 := 61) (L1 := [some (.ref 153), some (.int x1), some (.int x2), some (.int x3), some (.long (((s11.1 163 6) : Int32).toInt64)), none, some (.int 0), some (.int 0), some (.int 0), some (.int 0), none, none, none, none, none, none, none]) (st1 := []) (fun _ _ => rfl) ?_
        obtain ⟨z74, ez74, h⟩ := gb h
        refine wX11_trials_t61 ?_  ez74
        · intro t75 t76 t77 s78 w79 w80 w81 w82 w83 w84 w85 w86 w87 w88 w89 hz
          replace hz := hz.symm
          subst hz
          dsimp only at h
          refine gR_go 1 (pc1 := 315) (L1 := [some (.ref 153), some (.int w79), some (.int w80), some (.int x3), some (.long w81), none, some (.int t75), some (.int t76), some (.int t77), some (.int w82), w83, w84, w85, w86, w87, w88, w89]) (st1 := [.int x3]) (fun _ _ => rfl) ?_
          rcases gif h with ⟨c90, h⟩ | ⟨c90, h⟩
          · refine gR_iz_ne_f rfl c90 ?_
            refine gR_go 2 (pc1 := 335) (L1 := [some (.ref 153), some (.int w79), some (.int w80), some (.int x3), some (.long w81), none, some (.int t75), some (.int t76), some (.int t77), some (.int w82), w83, w84, w85, w86, w87, w88, w89]) (st1 := [.int t75]) (fun _ _ => rfl) ?_
            obtain ⟨rfl, rfl⟩ := gi2 h
            exact gR_ri rfl rfl
          · refine gR_iz_ne_j rfl c90 rfl ?_
            refine gR_go 2 (pc1 := 325) (L1 := [some (.ref 153), some (.int w79), some (.int w80), some (.int x3), some (.long w81), none, some (.int t75), some (.int t76), some (.int t77), some (.int w82), w83, w84, w85, w86, w87, w88, w89]) (st1 := [.int 1, .int x3]) (fun _ _ => rfl) ?_
            rcases gif h with ⟨c91, h⟩ | ⟨c91, h⟩
            · refine gR_ic_ne_f rfl c91 ?_
              refine gR_go 2 (pc1 := 335) (L1 := [some (.ref 153), some (.int w79), some (.int w80), some (.int x3), some (.long w81), none, some (.int t75), some (.int t76), some (.int t77), some (.int w82), w83, w84, w85, w86, w87, w88, w89]) (st1 := [.int t76]) (fun _ _ => rfl) ?_
              obtain ⟨rfl, rfl⟩ := gi2 h
              exact gR_ri rfl rfl
            · refine gR_ic_ne_j rfl c91 rfl ?_
              refine gR_go 1 (pc1 := 335) (L1 := [some (.ref 153), some (.int w79), some (.int w80), some (.int x3), some (.long w81), none, some (.int t75), some (.int t76), some (.int t77), some (.int w82), w83, w84, w85, w86, w87, w88, w89]) (st1 := [.int t77]) (fun _ _ => rfl) ?_
              obtain ⟨rfl, rfl⟩ := gi2 h
              exact gR_ri rfl rfl
end
section
/-! The methods as functions of the state, each with the proof that the interpreter runs so. -/
noncomputable def wX11_verdict (x1 : Int32) (s : wS) : Option (Int32 × wS) := if x1 = (-1) then ((wstI s 163 262 5 0).bind fun s2 => some (0, s2)) else ((wX11_isWorld x1 s).bind fun t3 => if t3 = 0 then (some (((Int8.ofInt (-2)).toInt32), s)) else (if (s.1 163 5) = 10 then (some (((Int8.ofInt (-2)).toInt32), s)) else ((wstI s 163 262 (242 + (2 * (s.1 163 5))) x1).bind fun s9 => (wstI s9 163 262 ((242 + (2 * (s9.1 163 5))) + 1) (s9.1 163 3)).bind fun s12 => (wstI s12 163 262 5 ((s12.1 163 5) + 1)).bind fun s14 => some ((s14.1 163 5), s14))))
theorem wX11_verdict_s {x1 : Int32} {s : wS} {rv : Int32} {rs : wS} (h : wX11_verdict x1 s = some (rv, rs)) : gEv 3 274 [.ref 153, .int x1] (wmk s) (some (.int rv), wmk rs, 0, 0) := by
  refine gEv_of (d := 2) (L := [some (.ref 153), some (.int x1)]) rfl ?_
  unfold wX11_verdict at h
  refine gR_go 2 (pc1 := 2) (L1 := [some (.ref 153), some (.int x1)]) (st1 := [.int (-1), .int x1]) (fun _ _ => rfl) ?_
  rcases gif h with ⟨c1, h⟩ | ⟨c1, h⟩
  · refine gR_ic_ne_f rfl c1 ?_
    refine gR_go 1 (pc1 := 6) (L1 := [some (.ref 153), some (.int x1)]) (st1 := [.ref 153]) (fun _ _ => rfl) ?_
    refine gR_gfR (k := 152) (k' := 163) rfl rfl rfl rfl ?_
    refine gR_go 2 (pc1 := 11) (L1 := [some (.ref 153), some (.int x1)]) (st1 := [.int 0, .int 5, .ref 164]) (fun _ _ => rfl) ?_
    obtain ⟨s2, es2, h⟩ := gb h
    refine gR_ias (k := 163) rfl rfl rfl es2 ?_
    refine gR_go 1 (pc1 := 13) (L1 := [some (.ref 153), some (.int x1)]) (st1 := [.int 0]) (fun _ _ => rfl) ?_
    obtain ⟨rfl, rfl⟩ := gi2 h
    exact gR_ri rfl rfl
  · refine gR_ic_ne_j rfl c1 rfl ?_
    refine gR_go 2 (pc1 := 16) (L1 := [some (.ref 153), some (.int x1)]) (st1 := [.int x1, .ref 153]) (fun _ _ => rfl) ?_
    obtain ⟨t3, e4, h⟩ := gb h
    refine gR_cvI (wX11_isWorld_s e4) (Nat.le_of_ble_eq_true rfl) rfl rfl rfl rfl rfl ?_
    rcases gif h with ⟨c5, h⟩ | ⟨c5, h⟩
    · refine gR_iz_eq_j rfl c5 rfl ?_
      refine gR_go 1 (pc1 := 35) (L1 := [some (.ref 153), some (.int x1)]) (st1 := [.int ((Int8.ofInt (-2)).toInt32)]) (fun _ _ => rfl) ?_
      obtain ⟨rfl, rfl⟩ := gi2 h
      exact gR_ri rfl rfl
    · refine gR_iz_eq_f rfl c5 ?_
      refine gR_go 1 (pc1 := 23) (L1 := [some (.ref 153), some (.int x1)]) (st1 := [.ref 153]) (fun _ _ => rfl) ?_
      refine gR_gfR (k := 152) (k' := 163) rfl rfl rfl rfl ?_
      refine gR_go 1 (pc1 := 27) (L1 := [some (.ref 153), some (.int x1)]) (st1 := [.int 5, .ref 164]) (fun _ _ => rfl) ?_
      refine gR_ialc (k := 163) (j := 5) rfl rfl rfl (by decide) rfl ?_
      refine gR_go 1 (pc1 := 30) (L1 := [some (.ref 153), some (.int x1)]) (st1 := [.int 10, .int (s.1 163 5)]) (fun _ _ => rfl) ?_
      rcases gif h with ⟨c7, h⟩ | ⟨c7, h⟩
      · refine gR_ic_ne_f rfl c7 ?_
        refine gR_go 1 (pc1 := 35) (L1 := [some (.ref 153), some (.int x1)]) (st1 := [.int ((Int8.ofInt (-2)).toInt32)]) (fun _ _ => rfl) ?_
        obtain ⟨rfl, rfl⟩ := gi2 h
        exact gR_ri rfl rfl
      · refine gR_ic_ne_j rfl c7 rfl ?_
        refine gR_go 1 (pc1 := 37) (L1 := [some (.ref 153), some (.int x1)]) (st1 := [.ref 153]) (fun _ _ => rfl) ?_
        refine gR_gfR (k := 152) (k' := 163) rfl rfl rfl rfl ?_
        refine gR_go 3 (pc1 := 45) (L1 := [some (.ref 153), some (.int x1)]) (st1 := [.ref 153, .int 2, .int 242, .ref 164]) (fun _ _ => rfl) ?_
        refine gR_gfR (k := 152) (k' := 163) rfl rfl rfl rfl ?_
        refine gR_go 1 (pc1 := 49) (L1 := [some (.ref 153), some (.int x1)]) (st1 := [.int 5, .ref 164, .int 2, .int 242, .ref 164]) (fun _ _ => rfl) ?_
        refine gR_ialc (k := 163) (j := 5) rfl rfl rfl (by decide) rfl ?_
        refine gR_go 3 (pc1 := 53) (L1 := [some (.ref 153), some (.int x1)]) (st1 := [.int x1, .int (242 + (2 * (s.1 163 5))), .ref 164]) (fun _ _ => rfl) ?_
        obtain ⟨s9, es9, h⟩ := gb h
        refine gR_ias (k := 163) rfl rfl rfl es9 ?_
        refine gR_go 1 (pc1 := 55) (L1 := [some (.ref 153), some (.int x1)]) (st1 := [.ref 153]) (fun _ _ => rfl) ?_
        refine gR_gfR (k := 152) (k' := 163) rfl rfl rfl rfl ?_
        refine gR_go 3 (pc1 := 63) (L1 := [some (.ref 153), some (.int x1)]) (st1 := [.ref 153, .int 2, .int 242, .ref 164]) (fun _ _ => rfl) ?_
        refine gR_gfR (k := 152) (k' := 163) rfl rfl rfl rfl ?_
        refine gR_go 1 (pc1 := 67) (L1 := [some (.ref 153), some (.int x1)]) (st1 := [.int 5, .ref 164, .int 2, .int 242, .ref 164]) (fun _ _ => rfl) ?_
        refine gR_ialc (k := 163) (j := 5) rfl rfl rfl (by decide) rfl ?_
        refine gR_go 5 (pc1 := 73) (L1 := [some (.ref 153), some (.int x1)]) (st1 := [.ref 153, .int ((242 + (2 * (s9.1 163 5))) + 1), .ref 164]) (fun _ _ => rfl) ?_
        refine gR_gfR (k := 152) (k' := 163) rfl rfl rfl rfl ?_
        refine gR_go 1 (pc1 := 77) (L1 := [some (.ref 153), some (.int x1)]) (st1 := [.int 3, .ref 164, .int ((242 + (2 * (s9.1 163 5))) + 1), .ref 164]) (fun _ _ => rfl) ?_
        refine gR_ialc (k := 163) (j := 3) rfl rfl rfl (by decide) rfl ?_
        obtain ⟨s12, es12, h⟩ := gb h
        refine gR_ias (k := 163) rfl rfl rfl es12 ?_
        refine gR_go 1 (pc1 := 80) (L1 := [some (.ref 153), some (.int x1)]) (st1 := [.ref 153]) (fun _ _ => rfl) ?_
        refine gR_gfR (k := 152) (k' := 163) rfl rfl rfl rfl ?_
        refine gR_go 2 (pc1 := 85) (L1 := [some (.ref 153), some (.int x1)]) (st1 := [.int 5, .ref 164, .int 5, .ref 164]) (fun _ _ => rfl) ?_
        refine gR_ialc (k := 163) (j := 5) rfl rfl rfl (by decide) rfl ?_
        refine gR_go 2 (pc1 := 88) (L1 := [some (.ref 153), some (.int x1)]) (st1 := [.int ((s12.1 163 5) + 1), .int 5, .ref 164]) (fun _ _ => rfl) ?_
        obtain ⟨s14, es14, h⟩ := gb h
        refine gR_ias (k := 163) rfl rfl rfl es14 ?_
        refine gR_go 1 (pc1 := 90) (L1 := [some (.ref 153), some (.int x1)]) (st1 := [.ref 153]) (fun _ _ => rfl) ?_
        refine gR_gfR (k := 152) (k' := 163) rfl rfl rfl rfl ?_
        refine gR_go 1 (pc1 := 94) (L1 := [some (.ref 153), some (.int x1)]) (st1 := [.int 5, .ref 164]) (fun _ _ => rfl) ?_
        refine gR_ialc (k := 163) (j := 5) rfl rfl rfl (by decide) rfl ?_
        obtain ⟨rfl, rfl⟩ := gi2 h
        exact gR_ri rfl rfl
noncomputable def wX11_old_j151 (qq : Int32 → Int32 → Option (Int32)) (x2 : Int32) (x4 : Int32) (x5 : Int32) (x6 : Int32) (x7 : Int32) (x8 : Int32) (x9 : Int32) (x11 : Int32) (y0 : Int32) (y1 : Int32) (s : wS) : Option (Int32) := qq (y0 + y1) (x11 + 1)
theorem wX11_old_u151 {x2 : Int32} {x4 : Int32} {x5 : Int32} {x6 : Int32} {x7 : Int32} {x8 : Int32} {x9 : Int32} {x11 : Int32} {y0 : Int32} {y1 : Int32} {s : wS} {w1 : Int32} {w3 : Int32} {w10 : Int32} {qq : Int32 → Int32 → Option (Int32)} {x : Int32} {r : ri_R} (ih : ∀ {x10 : Int32} {x11 : Int32} {w1 : Int32} {w3 : Int32} , qq x10 x11 = some x → gRun 4 275 116 [some (.ref 153), some (.int w1), some (.int x2), some (.int w3), some (.int x4), some (.int x5), some (.int x6), some (.int x7), some (.int x8), some (.int x9), some (.int x10), some (.int x11)] [] (wmk s) r) (he160 : ∀ (x10 : Int32) (w1 : Int32) (w3 : Int32) (w11 : Int32) , x = x10 → gRun 4 275 160 [some (.ref 153), some (.int w1), some (.int x2), some (.int w3), some (.int x4), some (.int x5), some (.int x6), some (.int x7), some (.int x8), some (.int x9), some (.int x10), some (.int w11)] [] (wmk s) r) (h : wX11_old_j151 qq x2 x4 x5 x6 x7 x8 x9 x11 y0 y1 s = some x) : gRun 4 275 151 [some (.ref 153), some (.int w1), some (.int x2), some (.int w3), some (.int x4), some (.int x5), some (.int x6), some (.int x7), some (.int x8), some (.int x9), some (.int w10), some (.int x11)] [.int y1, .int y0] (wmk s) r := by
  unfold wX11_old_j151 at h
  refine gR_go 4 (pc1 := 116) (L1 := [some (.ref 153), some (.int w1), some (.int x2), some (.int w3), some (.int x4), some (.int x5), some (.int x6), some (.int x7), some (.int x8), some (.int x9), some (.int (y0 + y1)), some (.int (x11 + 1))]) (st1 := []) (fun _ _ => rfl) ?_
  exact ih h
noncomputable def wX11_old_j150 (qq : Int32 → Int32 → Option (Int32)) (x2 : Int32) (x4 : Int32) (x5 : Int32) (x6 : Int32) (x7 : Int32) (x8 : Int32) (x9 : Int32) (x11 : Int32) (y0 : Int32) (s : wS) : Option (Int32) := wX11_old_j151 qq x2 x4 x5 x6 x7 x8 x9 x11 y0 0 s
theorem wX11_old_u150 {x2 : Int32} {x4 : Int32} {x5 : Int32} {x6 : Int32} {x7 : Int32} {x8 : Int32} {x9 : Int32} {x11 : Int32} {y0 : Int32} {s : wS} {w1 : Int32} {w3 : Int32} {w10 : Int32} {qq : Int32 → Int32 → Option (Int32)} {x : Int32} {r : ri_R} (ih : ∀ {x10 : Int32} {x11 : Int32} {w1 : Int32} {w3 : Int32} , qq x10 x11 = some x → gRun 4 275 116 [some (.ref 153), some (.int w1), some (.int x2), some (.int w3), some (.int x4), some (.int x5), some (.int x6), some (.int x7), some (.int x8), some (.int x9), some (.int x10), some (.int x11)] [] (wmk s) r) (he160 : ∀ (x10 : Int32) (w1 : Int32) (w3 : Int32) (w11 : Int32) , x = x10 → gRun 4 275 160 [some (.ref 153), some (.int w1), some (.int x2), some (.int w3), some (.int x4), some (.int x5), some (.int x6), some (.int x7), some (.int x8), some (.int x9), some (.int x10), some (.int w11)] [] (wmk s) r) (h : wX11_old_j150 qq x2 x4 x5 x6 x7 x8 x9 x11 y0 s = some x) : gRun 4 275 150 [some (.ref 153), some (.int w1), some (.int x2), some (.int w3), some (.int x4), some (.int x5), some (.int x6), some (.int x7), some (.int x8), some (.int x9), some (.int w10), some (.int x11)] [.int y0] (wmk s) r := by
  unfold wX11_old_j150 at h
  refine gR_go 1 (pc1 := 151) (L1 := [some (.ref 153), some (.int w1), some (.int x2), some (.int w3), some (.int x4), some (.int x5), some (.int x6), some (.int x7), some (.int x8), some (.int x9), some (.int w10), some (.int x11)]) (st1 := [.int 0, .int y0]) (fun _ _ => rfl) ?_
  exact wX11_old_u151 ih he160 h
noncomputable def wX11_old_h116 (x2 : Int32) (x4 : Int32) (x5 : Int32) (x6 : Int32) (x7 : Int32) (x8 : Int32) (x9 : Int32) (s : wS) : Nat → Int32 → Int32 → Option (Int32)
  | 0, _, _ => none
  | n + 1, x10, x11 => if x11 < x5 then ((wX11_answerOf x11 4 s).bind fun t24 => if t24 = 0 then ((wX11_isTrue x11 x9 s).bind fun t27 => if t27 = 0 then (wX11_old_j151 (wX11_old_h116 x2 x4 x5 x6 x7 x8 x9 s n) x2 x4 x5 x6 x7 x8 x9 x11 x10 1 s) else (wX11_old_j150 (wX11_old_h116 x2 x4 x5 x6 x7 x8 x9 s n) x2 x4 x5 x6 x7 x8 x9 x11 x10 s)) else (wX11_old_j150 (wX11_old_h116 x2 x4 x5 x6 x7 x8 x9 s n) x2 x4 x5 x6 x7 x8 x9 x11 x10 s)) else (some x10)
theorem wX11_old_t116 {x2 : Int32} {x4 : Int32} {x5 : Int32} {x6 : Int32} {x7 : Int32} {x8 : Int32} {x9 : Int32} {s : wS} {x : Int32} {r : ri_R} (he160 : ∀ (x10 : Int32) (w1 : Int32) (w3 : Int32) (w11 : Int32) , x = x10 → gRun 4 275 160 [some (.ref 153), some (.int w1), some (.int x2), some (.int w3), some (.int x4), some (.int x5), some (.int x6), some (.int x7), some (.int x8), some (.int x9), some (.int x10), some (.int w11)] [] (wmk s) r) : ∀ {n : Nat} {x10 : Int32} {x11 : Int32} {w1 : Int32} {w3 : Int32} , wX11_old_h116 x2 x4 x5 x6 x7 x8 x9 s n x10 x11 = some x → gRun 4 275 116 [some (.ref 153), some (.int w1), some (.int x2), some (.int w3), some (.int x4), some (.int x5), some (.int x6), some (.int x7), some (.int x8), some (.int x9), some (.int x10), some (.int x11)] [] (wmk s) r := by
  intro n
  induction n with
  | zero => intro x10 x11 w1 w3 h; cases (show (none : Option (Int32)) = some x from h)
  | succ n ih =>
    intro x10 x11 w1 w3 h
    rw [wX11_old_h116] at h
    refine gR_go 2 (pc1 := 120) (L1 := [some (.ref 153), some (.int w1), some (.int x2), some (.int w3), some (.int x4), some (.int x5), some (.int x6), some (.int x7), some (.int x8), some (.int x9), some (.int x10), some (.int x11)]) (st1 := [.int x5, .int x11]) (fun _ _ => rfl) ?_
    rcases gif h with ⟨c23, h⟩ | ⟨c23, h⟩
    · refine gR_ic_ge_f rfl c23 ?_
      refine gR_go 4 (pc1 := 129) (L1 := [some (.ref 153), some (.int w1), some (.int x2), some (.int w3), some (.int x4), some (.int x5), some (.int x6), some (.int x7), some (.int x8), some (.int x9), some (.int x10), some (.int x11)]) (st1 := [.int 4, .int x11, .ref 153, .int x10]) (fun _ _ => rfl) ?_
      obtain ⟨t24, e25, h⟩ := gb h
      refine gR_cvI (wX11_answerOf_s e25) (Nat.le_of_ble_eq_true rfl) rfl rfl rfl rfl rfl ?_
      rcases gif h with ⟨c26, h⟩ | ⟨c26, h⟩
      · refine gR_iz_ne_f rfl c26 ?_
        refine gR_go 3 (pc1 := 140) (L1 := [some (.ref 153), some (.int w1), some (.int x2), some (.int w3), some (.int x4), some (.int x5), some (.int x6), some (.int x7), some (.int x8), some (.int x9), some (.int x10), some (.int x11)]) (st1 := [.int x9, .int x11, .ref 153, .int x10]) (fun _ _ => rfl) ?_
        obtain ⟨t27, e28, h⟩ := gb h
        refine gR_cvI (wX11_isTrue_s e28) (Nat.le_of_ble_eq_true rfl) rfl rfl rfl rfl rfl ?_
        rcases gif h with ⟨c29, h⟩ | ⟨c29, h⟩
        · refine gR_iz_ne_f rfl c29 ?_
          refine gR_go 2 (pc1 := 151) (L1 := [some (.ref 153), some (.int w1), some (.int x2), some (.int w3), some (.int x4), some (.int x5), some (.int x6), some (.int x7), some (.int x8), some (.int x9), some (.int x10), some (.int x11)]) (st1 := [.int 1, .int x10]) (fun _ _ => rfl) ?_
          exact wX11_old_u151 ih he160 h
        · refine gR_iz_ne_j rfl c29 rfl ?_
          exact wX11_old_u150 ih he160 h
      · refine gR_iz_ne_j rfl c26 rfl ?_
        exact wX11_old_u150 ih he160 h
    · refine gR_ic_ge_j rfl c23 rfl ?_
      exact he160 _ _ _ _ (Option.some.inj h).symm
noncomputable def wX11_old_j203 (qq : Int32 → Int32 → Int32 → Option (Int32 × Int32)) (x2 : Int32) (x4 : Int32) (x5 : Int32) (x6 : Int32) (x7 : Int32) (x8 : Int32) (x9 : Int32) (s : wS) : Option (Int32 × Int32) := qq x7 x8 (x9 + 1)
theorem wX11_old_u203 {x2 : Int32} {x4 : Int32} {x5 : Int32} {x6 : Int32} {x7 : Int32} {x8 : Int32} {x9 : Int32} {s : wS} {w1 : Int32} {w3 : Int32} {w10 : Int32} {w11 : Int32} {qq : Int32 → Int32 → Int32 → Option (Int32 × Int32)} {x : Int32 × Int32} {r : ri_R} (ih : ∀ {x7 : Int32} {x8 : Int32} {x9 : Int32} {w1 : Int32} {w3 : Int32} {w10 : Option Value} {w11 : Option Value} , qq x7 x8 x9 = some x → gRun 4 275 101 [some (.ref 153), some (.int w1), some (.int x2), some (.int w3), some (.int x4), some (.int x5), some (.int x6), some (.int x7), some (.int x8), some (.int x9), w10, w11] [] (wmk s) r) (he209 : ∀ (x7 : Int32) (x8 : Int32) (w1 : Int32) (w2 : Int32) (w3 : Int32) (w5 : Int32) (w6 : Int32) (w9 : Int32) (w10 : Option Value) (w11 : Option Value) , x = (x7, x8) → gRun 4 275 209 [some (.ref 153), some (.int w1), some (.int w2), some (.int w3), some (.int x4), some (.int w5), some (.int w6), some (.int x7), some (.int x8), some (.int w9), w10, w11] [] (wmk s) r) (h : wX11_old_j203 qq x2 x4 x5 x6 x7 x8 x9 s = some x) : gRun 4 275 203 [some (.ref 153), some (.int w1), some (.int x2), some (.int w3), some (.int x4), some (.int x5), some (.int x6), some (.int x7), some (.int x8), some (.int x9), some (.int w10), some (.int w11)] [] (wmk s) r := by
  unfold wX11_old_j203 at h
  refine gR_go 2 (pc1 := 101) (L1 := [some (.ref 153), some (.int w1), some (.int x2), some (.int w3), some (.int x4), some (.int x5), some (.int x6), some (.int x7), some (.int x8), some (.int (x9 + 1)), some (.int w10), some (.int w11)]) (st1 := []) (fun _ _ => rfl) ?_
  exact ih h
noncomputable def wX11_old_j200 (qq : Int32 → Int32 → Int32 → Option (Int32 × Int32)) (x2 : Int32) (x4 : Int32) (x5 : Int32) (x6 : Int32) (x8 : Int32) (x9 : Int32) (y0 : Int32) (y1 : Int32) (s : wS) : Option (Int32 × Int32) := wX11_old_j203 qq x2 x4 x5 x6 (y0 + y1) x8 x9 s
theorem wX11_old_u200 {x2 : Int32} {x4 : Int32} {x5 : Int32} {x6 : Int32} {x8 : Int32} {x9 : Int32} {y0 : Int32} {y1 : Int32} {s : wS} {w1 : Int32} {w3 : Int32} {w7 : Int32} {w10 : Int32} {w11 : Int32} {qq : Int32 → Int32 → Int32 → Option (Int32 × Int32)} {x : Int32 × Int32} {r : ri_R} (ih : ∀ {x7 : Int32} {x8 : Int32} {x9 : Int32} {w1 : Int32} {w3 : Int32} {w10 : Option Value} {w11 : Option Value} , qq x7 x8 x9 = some x → gRun 4 275 101 [some (.ref 153), some (.int w1), some (.int x2), some (.int w3), some (.int x4), some (.int x5), some (.int x6), some (.int x7), some (.int x8), some (.int x9), w10, w11] [] (wmk s) r) (he209 : ∀ (x7 : Int32) (x8 : Int32) (w1 : Int32) (w2 : Int32) (w3 : Int32) (w5 : Int32) (w6 : Int32) (w9 : Int32) (w10 : Option Value) (w11 : Option Value) , x = (x7, x8) → gRun 4 275 209 [some (.ref 153), some (.int w1), some (.int w2), some (.int w3), some (.int x4), some (.int w5), some (.int w6), some (.int x7), some (.int x8), some (.int w9), w10, w11] [] (wmk s) r) (h : wX11_old_j200 qq x2 x4 x5 x6 x8 x9 y0 y1 s = some x) : gRun 4 275 200 [some (.ref 153), some (.int w1), some (.int x2), some (.int w3), some (.int x4), some (.int x5), some (.int x6), some (.int w7), some (.int x8), some (.int x9), some (.int w10), some (.int w11)] [.int y1, .int y0] (wmk s) r := by
  unfold wX11_old_j200 at h
  refine gR_go 2 (pc1 := 203) (L1 := [some (.ref 153), some (.int w1), some (.int x2), some (.int w3), some (.int x4), some (.int x5), some (.int x6), some (.int (y0 + y1)), some (.int x8), some (.int x9), some (.int w10), some (.int w11)]) (st1 := []) (fun _ _ => rfl) ?_
  exact wX11_old_u203 ih he209 h
noncomputable def wX11_old_j183 (qq : Int32 → Int32 → Int32 → Option (Int32 × Int32)) (x2 : Int32) (x4 : Int32) (x5 : Int32) (x6 : Int32) (x7 : Int32) (x9 : Int32) (y0 : Int32) (y1 : Int32) (s : wS) : Option (Int32 × Int32) := if x9 = x6 then (wX11_old_j200 qq x2 x4 x5 x6 (y0 + y1) x9 x7 0 s) else (wX11_old_j200 qq x2 x4 x5 x6 (y0 + y1) x9 x7 1 s)
theorem wX11_old_u183 {x2 : Int32} {x4 : Int32} {x5 : Int32} {x6 : Int32} {x7 : Int32} {x9 : Int32} {y0 : Int32} {y1 : Int32} {s : wS} {w1 : Int32} {w3 : Int32} {w8 : Int32} {w10 : Int32} {w11 : Int32} {qq : Int32 → Int32 → Int32 → Option (Int32 × Int32)} {x : Int32 × Int32} {r : ri_R} (ih : ∀ {x7 : Int32} {x8 : Int32} {x9 : Int32} {w1 : Int32} {w3 : Int32} {w10 : Option Value} {w11 : Option Value} , qq x7 x8 x9 = some x → gRun 4 275 101 [some (.ref 153), some (.int w1), some (.int x2), some (.int w3), some (.int x4), some (.int x5), some (.int x6), some (.int x7), some (.int x8), some (.int x9), w10, w11] [] (wmk s) r) (he209 : ∀ (x7 : Int32) (x8 : Int32) (w1 : Int32) (w2 : Int32) (w3 : Int32) (w5 : Int32) (w6 : Int32) (w9 : Int32) (w10 : Option Value) (w11 : Option Value) , x = (x7, x8) → gRun 4 275 209 [some (.ref 153), some (.int w1), some (.int w2), some (.int w3), some (.int x4), some (.int w5), some (.int w6), some (.int x7), some (.int x8), some (.int w9), w10, w11] [] (wmk s) r) (h : wX11_old_j183 qq x2 x4 x5 x6 x7 x9 y0 y1 s = some x) : gRun 4 275 183 [some (.ref 153), some (.int w1), some (.int x2), some (.int w3), some (.int x4), some (.int x5), some (.int x6), some (.int x7), some (.int w8), some (.int x9), some (.int w10), some (.int w11)] [.int y1, .int y0] (wmk s) r := by
  unfold wX11_old_j183 at h
  refine gR_go 5 (pc1 := 192) (L1 := [some (.ref 153), some (.int w1), some (.int x2), some (.int w3), some (.int x4), some (.int x5), some (.int x6), some (.int x7), some (.int (y0 + y1)), some (.int x9), some (.int w10), some (.int w11)]) (st1 := [.int x6, .int x9, .int x7]) (fun _ _ => rfl) ?_
  rcases gif h with ⟨c37, h⟩ | ⟨c37, h⟩
  · refine gR_ic_ne_f rfl c37 ?_
    refine gR_go 2 (pc1 := 200) (L1 := [some (.ref 153), some (.int w1), some (.int x2), some (.int w3), some (.int x4), some (.int x5), some (.int x6), some (.int x7), some (.int (y0 + y1)), some (.int x9), some (.int w10), some (.int w11)]) (st1 := [.int 0, .int x7]) (fun _ _ => rfl) ?_
    exact wX11_old_u200 ih he209 h
  · refine gR_ic_ne_j rfl c37 rfl ?_
    refine gR_go 1 (pc1 := 200) (L1 := [some (.ref 153), some (.int w1), some (.int x2), some (.int w3), some (.int x4), some (.int x5), some (.int x6), some (.int x7), some (.int (y0 + y1)), some (.int x9), some (.int w10), some (.int w11)]) (st1 := [.int 1, .int x7]) (fun _ _ => rfl) ?_
    exact wX11_old_u200 ih he209 h
noncomputable def wX11_old_h101 (x2 : Int32) (x4 : Int32) (x5 : Int32) (x6 : Int32) (s : wS) : Nat → Int32 → Int32 → Int32 → Option (Int32 × Int32)
  | 0, _, _, _ => none
  | n + 1, x7, x8, x9 => (wX11_worlds s).bind fun t20 => if x9 < t20 then ((wX11_old_h116 x2 x4 x5 x6 x7 x8 x9 s wFuel 0 0).bind fun t31 => if x2 < t31 then (wX11_old_j203 (wX11_old_h101 x2 x4 x5 x6 s n) x2 x4 x5 x6 x7 x8 x9 s) else (if x9 = x6 then (wX11_old_j183 (wX11_old_h101 x2 x4 x5 x6 s n) x2 x4 x5 x6 x7 x9 x8 1 s) else (wX11_old_j183 (wX11_old_h101 x2 x4 x5 x6 s n) x2 x4 x5 x6 x7 x9 x8 0 s))) else (some (x7, x8))
theorem wX11_old_t101 {x2 : Int32} {x4 : Int32} {x5 : Int32} {x6 : Int32} {s : wS} {x : Int32 × Int32} {r : ri_R} (he209 : ∀ (x7 : Int32) (x8 : Int32) (w1 : Int32) (w2 : Int32) (w3 : Int32) (w5 : Int32) (w6 : Int32) (w9 : Int32) (w10 : Option Value) (w11 : Option Value) , x = (x7, x8) → gRun 4 275 209 [some (.ref 153), some (.int w1), some (.int w2), some (.int w3), some (.int x4), some (.int w5), some (.int w6), some (.int x7), some (.int x8), some (.int w9), w10, w11] [] (wmk s) r) : ∀ {n : Nat} {x7 : Int32} {x8 : Int32} {x9 : Int32} {w1 : Int32} {w3 : Int32} {w10 : Option Value} {w11 : Option Value} , wX11_old_h101 x2 x4 x5 x6 s n x7 x8 x9 = some x → gRun 4 275 101 [some (.ref 153), some (.int w1), some (.int x2), some (.int w3), some (.int x4), some (.int x5), some (.int x6), some (.int x7), some (.int x8), some (.int x9), w10, w11] [] (wmk s) r := by
  intro n
  induction n with
  | zero => intro x7 x8 x9 w1 w3 w10 w11 h; cases (show (none : Option (Int32 × Int32)) = some x from h)
  | succ n ih =>
    intro x7 x8 x9 w1 w3 w10 w11 h
    rw [wX11_old_h101] at h
    refine gR_go 2 (pc1 := 104) (L1 := [some (.ref 153), some (.int w1), some (.int x2), some (.int w3), some (.int x4), some (.int x5), some (.int x6), some (.int x7), some (.int x8), some (.int x9), w10, w11]) (st1 := [.ref 153, .int x9]) (fun _ _ => rfl) ?_
    obtain ⟨t20, e21, h⟩ := gb h
    refine gR_cvI (wX11_worlds_s e21) (Nat.le_of_ble_eq_true rfl) rfl rfl rfl rfl rfl ?_
    rcases gif h with ⟨c22, h⟩ | ⟨c22, h⟩
    · refine gR_ic_ge_f rfl c22 ?_
      refine gR_go 4 (pc1 := 116) (L1 := [some (.ref 153), some (.int w1), some (.int x2), some (.int w3), some (.int x4), some (.int x5), some (.int x6), some (.int x7), some (.int x8), some (.int x9), some (.int 0), some (.int 0)]) (st1 := []) (fun _ _ => rfl) ?_
      obtain ⟨z30, ez30, h⟩ := gb h
      refine wX11_old_t116 ?_  ez30
      · intro t31 w32 w33 w34 hz
        replace hz := hz.symm
        subst hz
        refine gR_go 2 (pc1 := 163) (L1 := [some (.ref 153), some (.int w32), some (.int x2), some (.int w33), some (.int x4), some (.int x5), some (.int x6), some (.int x7), some (.int x8), some (.int x9), some (.int t31), some (.int w34)]) (st1 := [.int x2, .int t31]) (fun _ _ => rfl) ?_
        rcases gif h with ⟨c35, h⟩ | ⟨c35, h⟩
        · refine gR_ic_le_f rfl c35 ?_
          refine gR_go 1 (pc1 := 203) (L1 := [some (.ref 153), some (.int w32), some (.int x2), some (.int w33), some (.int x4), some (.int x5), some (.int x6), some (.int x7), some (.int x8), some (.int x9), some (.int t31), some (.int w34)]) (st1 := []) (fun _ _ => rfl) ?_
          exact wX11_old_u203 ih he209 h
        · refine gR_ic_le_j rfl c35 rfl ?_
          refine gR_go 3 (pc1 := 175) (L1 := [some (.ref 153), some (.int w32), some (.int x2), some (.int w33), some (.int x4), some (.int x5), some (.int x6), some (.int x7), some (.int x8), some (.int x9), some (.int t31), some (.int w34)]) (st1 := [.int x6, .int x9, .int x8]) (fun _ _ => rfl) ?_
          rcases gif h with ⟨c36, h⟩ | ⟨c36, h⟩
          · refine gR_ic_ne_f rfl c36 ?_
            refine gR_go 2 (pc1 := 183) (L1 := [some (.ref 153), some (.int w32), some (.int x2), some (.int w33), some (.int x4), some (.int x5), some (.int x6), some (.int x7), some (.int x8), some (.int x9), some (.int t31), some (.int w34)]) (st1 := [.int 1, .int x8]) (fun _ _ => rfl) ?_
            exact wX11_old_u183 ih he209 h
          · refine gR_ic_ne_j rfl c36 rfl ?_
            refine gR_go 1 (pc1 := 183) (L1 := [some (.ref 153), some (.int w32), some (.int x2), some (.int w33), some (.int x4), some (.int x5), some (.int x6), some (.int x7), some (.int x8), some (.int x9), some (.int t31), some (.int w34)]) (st1 := [.int 0, .int x8]) (fun _ _ => rfl) ?_
            exact wX11_old_u183 ih he209 h
    · refine gR_ic_ge_j rfl c22 rfl ?_
      exact he209 _ _ _ _ _ _ _ _ _ _ (Option.some.inj h).symm
noncomputable def wX11_old (x1 : Int32) (x2 : Int32) (x3 : Int32) (x4 : Int32) (s : wS) : Option (Int32 × wS) := (wX11_canAsk x1 s).bind fun t1 => if t1 = 0 then (some ((-1), s)) else ((wX11_isMany x2 s).bind fun t4 => if t4 = 0 then (some ((-1), s)) else ((wX11_in ((x3 : Int32).toInt64) 0 ((((s.1 163 5) - 1) : Int32).toInt64) s).bind fun t8 => if t8 = 0 then (some ((-1), s)) else ((wX11_in ((x4 : Int32).toInt64) 0 2 s).bind fun t11 => if t11 = 0 then (some ((-1), s)) else ((wX11_reaches x1 s).bind fun s15 => (wldI s15 163 262 ((242 + (2 * x3)) + 1)).bind fun t17 => (wldI s15 163 262 (242 + (2 * x3))).bind fun t18 => if x4 = 2 then (some (t17, s15)) else ((wX11_old_h101 x2 x4 t17 t18 s15 wFuel 0 0 0).bind fun (t39, t40) => if x4 = 0 then (some (t40, s15)) else (some (t39, s15)))))))
theorem wX11_old_s {x1 : Int32} {x2 : Int32} {x3 : Int32} {x4 : Int32} {s : wS} {rv : Int32} {rs : wS} (h : wX11_old x1 x2 x3 x4 s = some (rv, rs)) : gEv 5 275 [.ref 153, .int x1, .int x2, .int x3, .int x4] (wmk s) (some (.int rv), wmk rs, 0, 0) := by
  refine gEv_of (d := 4) (L := [some (.ref 153), some (.int x1), some (.int x2), some (.int x3), some (.int x4), none, none, none, none, none, none, none]) rfl ?_
  unfold wX11_old at h
  refine gR_go 2 (pc1 := 2) (L1 := [some (.ref 153), some (.int x1), some (.int x2), some (.int x3), some (.int x4), none, none, none, none, none, none, none]) (st1 := [.int x1, .ref 153]) (fun _ _ => rfl) ?_
  obtain ⟨t1, e2, h⟩ := gb h
  refine gR_cvI (wX11_canAsk_s e2) (Nat.le_of_ble_eq_true rfl) rfl rfl rfl rfl rfl ?_
  rcases gif h with ⟨c3, h⟩ | ⟨c3, h⟩
  · refine gR_iz_eq_j rfl c3 rfl ?_
    refine gR_go 1 (pc1 := 47) (L1 := [some (.ref 153), some (.int x1), some (.int x2), some (.int x3), some (.int x4), none, none, none, none, none, none, none]) (st1 := [.int (-1)]) (fun _ _ => rfl) ?_
    obtain ⟨rfl, rfl⟩ := gi2 h
    exact gR_ri rfl rfl
  · refine gR_iz_eq_f rfl c3 ?_
    refine gR_go 1 (pc1 := 9) (L1 := [some (.ref 153), some (.int x1), some (.int x2), some (.int x3), some (.int x4), none, none, none, none, none, none, none]) (st1 := [.int x2]) (fun _ _ => rfl) ?_
    obtain ⟨t4, e5, h⟩ := gb h
    refine gR_csI (wX11_isMany_s e5) (Nat.le_of_ble_eq_true rfl) rfl rfl rfl rfl ?_
    rcases gif h with ⟨c6, h⟩ | ⟨c6, h⟩
    · refine gR_iz_eq_j rfl c6 rfl ?_
      refine gR_go 1 (pc1 := 47) (L1 := [some (.ref 153), some (.int x1), some (.int x2), some (.int x3), some (.int x4), none, none, none, none, none, none, none]) (st1 := [.int (-1)]) (fun _ _ => rfl) ?_
      obtain ⟨rfl, rfl⟩ := gi2 h
      exact gR_ri rfl rfl
    · refine gR_iz_eq_f rfl c6 ?_
      refine gR_go 4 (pc1 := 19) (L1 := [some (.ref 153), some (.int x1), some (.int x2), some (.int x3), some (.int x4), none, none, none, none, none, none, none]) (st1 := [.ref 153, .long 0, .long ((x3 : Int32).toInt64)]) (fun _ _ => rfl) ?_
      refine gR_gfR (k := 152) (k' := 163) rfl rfl rfl rfl ?_
      refine gR_go 1 (pc1 := 23) (L1 := [some (.ref 153), some (.int x1), some (.int x2), some (.int x3), some (.int x4), none, none, none, none, none, none, none]) (st1 := [.int 5, .ref 164, .long 0, .long ((x3 : Int32).toInt64)]) (fun _ _ => rfl) ?_
      refine gR_ialc (k := 163) (j := 5) rfl rfl rfl (by decide) rfl ?_
      refine gR_go 3 (pc1 := 27) (L1 := [some (.ref 153), some (.int x1), some (.int x2), some (.int x3), some (.int x4), none, none, none, none, none, none, none]) (st1 := [.long ((((s.1 163 5) - 1) : Int32).toInt64), .long 0, .long ((x3 : Int32).toInt64)]) (fun _ _ => rfl) ?_
      obtain ⟨t8, e9, h⟩ := gb h
      refine gR_csI (wX11_in_s e9) (Nat.le_of_ble_eq_true rfl) rfl rfl rfl rfl ?_
      rcases gif h with ⟨c10, h⟩ | ⟨c10, h⟩
      · refine gR_iz_eq_j rfl c10 rfl ?_
        refine gR_go 1 (pc1 := 47) (L1 := [some (.ref 153), some (.int x1), some (.int x2), some (.int x3), some (.int x4), none, none, none, none, none, none, none]) (st1 := [.int (-1)]) (fun _ _ => rfl) ?_
        obtain ⟨rfl, rfl⟩ := gi2 h
        exact gR_ri rfl rfl
      · refine gR_iz_eq_f rfl c10 ?_
        refine gR_go 4 (pc1 := 40) (L1 := [some (.ref 153), some (.int x1), some (.int x2), some (.int x3), some (.int x4), none, none, none, none, none, none, none]) (st1 := [.long 2, .long 0, .long ((x4 : Int32).toInt64)]) (fun _ _ => rfl) ?_
        obtain ⟨t11, e12, h⟩ := gb h
        refine gR_csI (wX11_in_s e12) (Nat.le_of_ble_eq_true rfl) rfl rfl rfl rfl ?_
        rcases gif h with ⟨c13, h⟩ | ⟨c13, h⟩
        · refine gR_iz_ne_f rfl c13 ?_
          refine gR_go 1 (pc1 := 47) (L1 := [some (.ref 153), some (.int x1), some (.int x2), some (.int x3), some (.int x4), none, none, none, none, none, none, none]) (st1 := [.int (-1)]) (fun _ _ => rfl) ?_
          obtain ⟨rfl, rfl⟩ := gi2 h
          exact gR_ri rfl rfl
        · refine gR_iz_ne_j rfl c13 rfl ?_
          refine gR_go 2 (pc1 := 50) (L1 := [some (.ref 153), some (.int x1), some (.int x2), some (.int x3), some (.int x4), none, none, none, none, none, none, none]) (st1 := [.int x1, .ref 153]) (fun _ _ => rfl) ?_
          obtain ⟨s15, e16, h⟩ := gb h
          refine gR_cvV (wX11_reaches_s e16) (Nat.le_of_ble_eq_true rfl) rfl rfl rfl rfl rfl ?_
          refine gR_go 1 (pc1 := 54) (L1 := [some (.ref 153), some (.int x1), some (.int x2), some (.int x3), some (.int x4), none, none, none, none, none, none, none]) (st1 := [.ref 153]) (fun _ _ => rfl) ?_
          refine gR_gfR (k := 152) (k' := 163) rfl rfl rfl rfl ?_
          refine gR_go 7 (pc1 := 66) (L1 := [some (.ref 153), some (.int x1), some (.int x2), some (.int x3), some (.int x4), none, none, none, none, none, none, none]) (st1 := [.int ((242 + (2 * x3)) + 1), .ref 164]) (fun _ _ => rfl) ?_
          obtain ⟨t17, et17, h⟩ := gb h
          refine gR_ial (k := 163) rfl rfl rfl et17 ?_
          refine gR_go 2 (pc1 := 70) (L1 := [some (.ref 153), some (.int x1), some (.int x2), some (.int x3), some (.int x4), some (.int t17), none, none, none, none, none, none]) (st1 := [.ref 153]) (fun _ _ => rfl) ?_
          refine gR_gfR (k := 152) (k' := 163) rfl rfl rfl rfl ?_
          refine gR_go 5 (pc1 := 80) (L1 := [some (.ref 153), some (.int x1), some (.int x2), some (.int x3), some (.int x4), some (.int t17), none, none, none, none, none, none]) (st1 := [.int (242 + (2 * x3)), .ref 164]) (fun _ _ => rfl) ?_
          obtain ⟨t18, et18, h⟩ := gb h
          refine gR_ial (k := 163) rfl rfl rfl et18 ?_
          refine gR_go 3 (pc1 := 86) (L1 := [some (.ref 153), some (.int x1), some (.int x2), some (.int x3), some (.int x4), some (.int t17), some (.int t18), none, none, none, none, none]) (st1 := [.int 2, .int x4]) (fun _ _ => rfl) ?_
          rcases gif h with ⟨c19, h⟩ | ⟨c19, h⟩
          · refine gR_ic_ne_f rfl c19 ?_
            refine gR_go 1 (pc1 := 91) (L1 := [some (.ref 153), some (.int x1), some (.int x2), some (.int x3), some (.int x4), some (.int t17), some (.int t18), none, none, none, none, none]) (st1 := [.int t17]) (fun _ _ => rfl) ?_
            obtain ⟨rfl, rfl⟩ := gi2 h
            exact gR_ri rfl rfl
          · refine gR_ic_ne_j rfl c19 rfl ?_
            refine gR_go 6 (pc1 := 101) (L1 := [some (.ref 153), some (.int x1), some (.int x2), some (.int x3), some (.int x4), some (.int t17), some (.int t18), some (.int 0), some (.int 0), some (.int 0), none, none]) (st1 := []) (fun _ _ => rfl) ?_
            obtain ⟨z38, ez38, h⟩ := gb h
            refine wX11_old_t101 ?_  ez38
            · intro t39 t40 w41 w42 w43 w44 w45 w46 w47 w48 hz
              replace hz := hz.symm
              subst hz
              dsimp only at h
              refine gR_go 1 (pc1 := 211) (L1 := [some (.ref 153), some (.int w41), some (.int w42), some (.int w43), some (.int x4), some (.int w44), some (.int w45), some (.int t39), some (.int t40), some (.int w46), w47, w48]) (st1 := [.int x4]) (fun _ _ => rfl) ?_
              rcases gif h with ⟨c49, h⟩ | ⟨c49, h⟩
              · refine gR_iz_ne_f rfl c49 ?_
                refine gR_go 2 (pc1 := 221) (L1 := [some (.ref 153), some (.int w41), some (.int w42), some (.int w43), some (.int x4), some (.int w44), some (.int w45), some (.int t39), some (.int t40), some (.int w46), w47, w48]) (st1 := [.int t40]) (fun _ _ => rfl) ?_
                obtain ⟨rfl, rfl⟩ := gi2 h
                exact gR_ri rfl rfl
              · refine gR_iz_ne_j rfl c49 rfl ?_
                refine gR_go 1 (pc1 := 221) (L1 := [some (.ref 153), some (.int w41), some (.int w42), some (.int w43), some (.int x4), some (.int w44), some (.int w45), some (.int t39), some (.int t40), some (.int w46), w47, w48]) (st1 := [.int t39]) (fun _ _ => rfl) ?_
                obtain ⟨rfl, rfl⟩ := gi2 h
                exact gR_ri rfl rfl
noncomputable def wX11_count_j56 (x1 : Int32) (s : wS) : Option (Int32) := (wldI s 163 262 x1).bind fun t2 => some t2
theorem wX11_count_u56 {x1 : Int32} {s : wS} {w2 : Int32} {w3 : Option Value} {rv : Int32} (h : wX11_count_j56 x1 s = some rv) : gRun 2 276 56 [some (.ref 153), some (.int x1), some (.int w2), w3] [] (wmk s) (some (.int rv), wmk s, 0, 0) := by
  unfold wX11_count_j56 at h
  refine gR_go 1 (pc1 := 57) (L1 := [some (.ref 153), some (.int x1), some (.int w2), w3]) (st1 := [.ref 153]) (fun _ _ => rfl) ?_
  refine gR_gfR (k := 152) (k' := 163) rfl rfl rfl rfl ?_
  refine gR_go 1 (pc1 := 61) (L1 := [some (.ref 153), some (.int x1), some (.int w2), w3]) (st1 := [.int x1, .ref 164]) (fun _ _ => rfl) ?_
  obtain ⟨t2, et2, h⟩ := gb h
  refine gR_ial (k := 163) rfl rfl rfl et2 ?_
  obtain rfl := gi1 h
  exact gR_ri rfl rfl
noncomputable def wX11_count_h77 (s : wS) : Nat → Int32 → Int32 → Option (Int32)
  | 0, _, _ => none
  | n + 1, x2, x3 => if x3 < (s.1 163 3) then ((wX11_answerOf x3 4 s).bind fun t11 => wX11_count_h77 s n (x2 + t11) (x3 + 1)) else (some x2)
theorem wX11_count_t77 {s : wS} {x : Int32} {r : ri_R} (he102 : ∀ (x2 : Int32) (w1 : Int32) (w3 : Int32) , x = x2 → gRun 2 276 102 [some (.ref 153), some (.int w1), some (.int x2), some (.int w3)] [] (wmk s) r) : ∀ {n : Nat} {x2 : Int32} {x3 : Int32} {w1 : Int32} , wX11_count_h77 s n x2 x3 = some x → gRun 2 276 77 [some (.ref 153), some (.int w1), some (.int x2), some (.int x3)] [] (wmk s) r := by
  intro n
  induction n with
  | zero => intro x2 x3 w1 h; cases (show (none : Option (Int32)) = some x from h)
  | succ n ih =>
    intro x2 x3 w1 h
    rw [wX11_count_h77] at h
    refine gR_go 2 (pc1 := 79) (L1 := [some (.ref 153), some (.int w1), some (.int x2), some (.int x3)]) (st1 := [.ref 153, .int x3]) (fun _ _ => rfl) ?_
    refine gR_gfR (k := 152) (k' := 163) rfl rfl rfl rfl ?_
    refine gR_go 1 (pc1 := 83) (L1 := [some (.ref 153), some (.int w1), some (.int x2), some (.int x3)]) (st1 := [.int 3, .ref 164, .int x3]) (fun _ _ => rfl) ?_
    refine gR_ialc (k := 163) (j := 3) rfl rfl rfl (by decide) rfl ?_
    rcases gif h with ⟨c10, h⟩ | ⟨c10, h⟩
    · refine gR_ic_ge_f rfl c10 ?_
      refine gR_go 4 (pc1 := 91) (L1 := [some (.ref 153), some (.int w1), some (.int x2), some (.int x3)]) (st1 := [.int 4, .int x3, .ref 153, .int x2]) (fun _ _ => rfl) ?_
      obtain ⟨t11, e12, h⟩ := gb h
      refine gR_cvI (wX11_answerOf_s e12) (Nat.le_of_ble_eq_true rfl) rfl rfl rfl rfl rfl ?_
      refine gR_go 4 (pc1 := 77) (L1 := [some (.ref 153), some (.int w1), some (.int (x2 + t11)), some (.int (x3 + 1))]) (st1 := []) (fun _ _ => rfl) ?_
      exact ih h
    · refine gR_ic_ge_j rfl c10 rfl ?_
      exact he102 _ _ _ (Option.some.inj h).symm
noncomputable def wX11_count_j130 (qq : Int32 → Int32 → Option (Int32)) (x3 : Int32) (y0 : Int32) (y1 : Int32) (s : wS) : Option (Int32) := qq (y0 + y1) (x3 + 1)
theorem wX11_count_u130 {x3 : Int32} {y0 : Int32} {y1 : Int32} {s : wS} {w1 : Int32} {w2 : Int32} {qq : Int32 → Int32 → Option (Int32)} {x : Int32} {r : ri_R} (ih : ∀ {x2 : Int32} {x3 : Int32} {w1 : Int32} , qq x2 x3 = some x → gRun 2 276 106 [some (.ref 153), some (.int w1), some (.int x2), some (.int x3)] [] (wmk s) r) (he138 : ∀ (x2 : Int32) (w1 : Int32) (w3 : Int32) , x = x2 → gRun 2 276 138 [some (.ref 153), some (.int w1), some (.int x2), some (.int w3)] [] (wmk s) r) (h : wX11_count_j130 qq x3 y0 y1 s = some x) : gRun 2 276 130 [some (.ref 153), some (.int w1), some (.int w2), some (.int x3)] [.int y1, .int y0] (wmk s) r := by
  unfold wX11_count_j130 at h
  refine gR_go 4 (pc1 := 106) (L1 := [some (.ref 153), some (.int w1), some (.int (y0 + y1)), some (.int (x3 + 1))]) (st1 := []) (fun _ _ => rfl) ?_
  exact ih h
noncomputable def wX11_count_h106 (s : wS) : Nat → Int32 → Int32 → Option (Int32)
  | 0, _, _ => none
  | n + 1, x2, x3 => if x3 < (s.1 163 3) then ((wX11_isLookedAt x3 s).bind fun t20 => if t20 = 0 then (wX11_count_j130 (wX11_count_h106 s n) x3 x2 0 s) else (wX11_count_j130 (wX11_count_h106 s n) x3 x2 1 s)) else (some x2)
theorem wX11_count_t106 {s : wS} {x : Int32} {r : ri_R} (he138 : ∀ (x2 : Int32) (w1 : Int32) (w3 : Int32) , x = x2 → gRun 2 276 138 [some (.ref 153), some (.int w1), some (.int x2), some (.int w3)] [] (wmk s) r) : ∀ {n : Nat} {x2 : Int32} {x3 : Int32} {w1 : Int32} , wX11_count_h106 s n x2 x3 = some x → gRun 2 276 106 [some (.ref 153), some (.int w1), some (.int x2), some (.int x3)] [] (wmk s) r := by
  intro n
  induction n with
  | zero => intro x2 x3 w1 h; cases (show (none : Option (Int32)) = some x from h)
  | succ n ih =>
    intro x2 x3 w1 h
    rw [wX11_count_h106] at h
    refine gR_go 2 (pc1 := 108) (L1 := [some (.ref 153), some (.int w1), some (.int x2), some (.int x3)]) (st1 := [.ref 153, .int x3]) (fun _ _ => rfl) ?_
    refine gR_gfR (k := 152) (k' := 163) rfl rfl rfl rfl ?_
    refine gR_go 1 (pc1 := 112) (L1 := [some (.ref 153), some (.int w1), some (.int x2), some (.int x3)]) (st1 := [.int 3, .ref 164, .int x3]) (fun _ _ => rfl) ?_
    refine gR_ialc (k := 163) (j := 3) rfl rfl rfl (by decide) rfl ?_
    rcases gif h with ⟨c19, h⟩ | ⟨c19, h⟩
    · refine gR_ic_ge_f rfl c19 ?_
      refine gR_go 3 (pc1 := 119) (L1 := [some (.ref 153), some (.int w1), some (.int x2), some (.int x3)]) (st1 := [.int x3, .ref 153, .int x2]) (fun _ _ => rfl) ?_
      obtain ⟨t20, e21, h⟩ := gb h
      refine gR_cvI (wX11_isLookedAt_s e21) (Nat.le_of_ble_eq_true rfl) rfl rfl rfl rfl rfl ?_
      rcases gif h with ⟨c22, h⟩ | ⟨c22, h⟩
      · refine gR_iz_eq_j rfl c22 rfl ?_
        refine gR_go 1 (pc1 := 130) (L1 := [some (.ref 153), some (.int w1), some (.int x2), some (.int x3)]) (st1 := [.int 0, .int x2]) (fun _ _ => rfl) ?_
        exact wX11_count_u130 ih he138 h
      · refine gR_iz_eq_f rfl c22 ?_
        refine gR_go 2 (pc1 := 130) (L1 := [some (.ref 153), some (.int w1), some (.int x2), some (.int x3)]) (st1 := [.int 1, .int x2]) (fun _ _ => rfl) ?_
        exact wX11_count_u130 ih he138 h
    · refine gR_ic_ge_j rfl c19 rfl ?_
      exact he138 _ _ _ (Option.some.inj h).symm
noncomputable def wX11_count (x1 : Int32) (s : wS) : Option (Int32) := if x1 = 0 then (wX11_count_j56 x1 s) else if x1 = 1 then (wX11_count_j56 x1 s) else if x1 = 2 then (wX11_count_j56 x1 s) else if x1 = 3 then (some (s.1 152 2)) else if x1 = 4 then (some (s.1 163 3)) else if x1 = 5 then ((wX11_count_h77 s wFuel 0 0).bind fun t14 => some t14) else if x1 = 6 then ((wX11_count_h106 s wFuel 0 0).bind fun t24 => some t24) else if x1 = 7 then (some (s.1 163 5)) else if x1 = 8 then (some (s.1 163 6)) else if x1 = 9 then (some (s.1 152 1)) else (some (-1))
theorem wX11_count_s {x1 : Int32} {s : wS} {rv : Int32} (h : wX11_count x1 s = some rv) : gEv 3 276 [.ref 153, .int x1] (wmk s) (some (.int rv), wmk s, 0, 0) := by
  refine gEv_of (d := 2) (L := [some (.ref 153), some (.int x1), none, none]) rfl ?_
  unfold wX11_count at h
  refine gR_go 3 (pc1 := 3) (L1 := [some (.ref 153), some (.int x1), some (.int 0), none]) (st1 := [.int x1]) (fun _ _ => rfl) ?_
  rcases gif h with ⟨c1, h⟩ | ⟨c1, h⟩
  · refine gR_sw_k rfl c1 rfl rfl ?_
    exact wX11_count_u56 h
  · rcases gif h with ⟨c3, h⟩ | ⟨c3, h⟩
    · refine gR_sw_k rfl c3 rfl rfl ?_
      exact wX11_count_u56 h
    · rcases gif h with ⟨c4, h⟩ | ⟨c4, h⟩
      · refine gR_sw_k rfl c4 rfl rfl ?_
        exact wX11_count_u56 h
      · rcases gif h with ⟨c5, h⟩ | ⟨c5, h⟩
        · refine gR_sw_k rfl c5 rfl rfl ?_
          refine gR_go 1 (pc1 := 64) (L1 := [some (.ref 153), some (.int x1), some (.int 0), none]) (st1 := [.ref 153]) (fun _ _ => rfl) ?_
          refine gR_gfI (k := 152) rfl rfl rfl ?_
          obtain rfl := gi1 h
          exact gR_ri rfl rfl
        · rcases gif h with ⟨c6, h⟩ | ⟨c6, h⟩
          · refine gR_sw_k rfl c6 rfl rfl ?_
            refine gR_go 1 (pc1 := 69) (L1 := [some (.ref 153), some (.int x1), some (.int 0), none]) (st1 := [.ref 153]) (fun _ _ => rfl) ?_
            refine gR_gfR (k := 152) (k' := 163) rfl rfl rfl rfl ?_
            refine gR_go 1 (pc1 := 73) (L1 := [some (.ref 153), some (.int x1), some (.int 0), none]) (st1 := [.int 3, .ref 164]) (fun _ _ => rfl) ?_
            refine gR_ialc (k := 163) (j := 3) rfl rfl rfl (by decide) rfl ?_
            obtain rfl := gi1 h
            exact gR_ri rfl rfl
          · rcases gif h with ⟨c8, h⟩ | ⟨c8, h⟩
            · refine gR_sw_k rfl c8 rfl rfl ?_
              refine gR_go 2 (pc1 := 77) (L1 := [some (.ref 153), some (.int x1), some (.int 0), some (.int 0)]) (st1 := []) (fun _ _ => rfl) ?_
              obtain ⟨z13, ez13, h⟩ := gb h
              refine wX11_count_t77 ?_  ez13
              · intro t14 w15 w16 hz
                replace hz := hz.symm
                subst hz
                refine gR_go 1 (pc1 := 103) (L1 := [some (.ref 153), some (.int w15), some (.int t14), some (.int w16)]) (st1 := [.int t14]) (fun _ _ => rfl) ?_
                obtain rfl := gi1 h
                exact gR_ri rfl rfl
            · rcases gif h with ⟨c17, h⟩ | ⟨c17, h⟩
              · refine gR_sw_k rfl c17 rfl rfl ?_
                refine gR_go 2 (pc1 := 106) (L1 := [some (.ref 153), some (.int x1), some (.int 0), some (.int 0)]) (st1 := []) (fun _ _ => rfl) ?_
                obtain ⟨z23, ez23, h⟩ := gb h
                refine wX11_count_t106 ?_  ez23
                · intro t24 w25 w26 hz
                  replace hz := hz.symm
                  subst hz
                  refine gR_go 1 (pc1 := 139) (L1 := [some (.ref 153), some (.int w25), some (.int t24), some (.int w26)]) (st1 := [.int t24]) (fun _ _ => rfl) ?_
                  obtain rfl := gi1 h
                  exact gR_ri rfl rfl
              · rcases gif h with ⟨c27, h⟩ | ⟨c27, h⟩
                · refine gR_sw_k rfl c27 rfl rfl ?_
                  refine gR_go 1 (pc1 := 141) (L1 := [some (.ref 153), some (.int x1), some (.int 0), none]) (st1 := [.ref 153]) (fun _ _ => rfl) ?_
                  refine gR_gfR (k := 152) (k' := 163) rfl rfl rfl rfl ?_
                  refine gR_go 1 (pc1 := 145) (L1 := [some (.ref 153), some (.int x1), some (.int 0), none]) (st1 := [.int 5, .ref 164]) (fun _ _ => rfl) ?_
                  refine gR_ialc (k := 163) (j := 5) rfl rfl rfl (by decide) rfl ?_
                  obtain rfl := gi1 h
                  exact gR_ri rfl rfl
                · rcases gif h with ⟨c29, h⟩ | ⟨c29, h⟩
                  · refine gR_sw_k rfl c29 rfl rfl ?_
                    refine gR_go 1 (pc1 := 148) (L1 := [some (.ref 153), some (.int x1), some (.int 0), none]) (st1 := [.ref 153]) (fun _ _ => rfl) ?_
                    refine gR_gfR (k := 152) (k' := 163) rfl rfl rfl rfl ?_
                    refine gR_go 1 (pc1 := 153) (L1 := [some (.ref 153), some (.int x1), some (.int 0), none]) (st1 := [.int 6, .ref 164]) (fun _ _ => rfl) ?_
                    refine gR_ialc (k := 163) (j := 6) rfl rfl rfl (by decide) rfl ?_
                    obtain rfl := gi1 h
                    exact gR_ri rfl rfl
                  · rcases gif h with ⟨c31, h⟩ | ⟨c31, h⟩
                    · refine gR_sw_k rfl c31 rfl rfl ?_
                      refine gR_go 1 (pc1 := 156) (L1 := [some (.ref 153), some (.int x1), some (.int 0), none]) (st1 := [.ref 153]) (fun _ _ => rfl) ?_
                      refine gR_gfI (k := 152) rfl rfl rfl ?_
                      obtain rfl := gi1 h
                      exact gR_ri rfl rfl
                    · refine gR_sw_d [0, 1, 2, 3, 4, 5, 6, 7, 8, 9] rfl (gl1 c1 (gl1 c3 (gl1 c4 (gl1 c5 (gl1 c6 (gl1 c8 (gl1 c17 (gl1 c27 (gl1 c29 (gl1 c31 gl0)))))))))) (by decide) (by decide) rfl ?_
                      refine gR_go 1 (pc1 := 161) (L1 := [some (.ref 153), some (.int x1), some (.int 0), none]) (st1 := [.int (-1)]) (fun _ _ => rfl) ?_
                      obtain rfl := gi1 h
                      exact gR_ri rfl rfl
noncomputable def wX11_image_h23 (x1 : Int32) : Nat → Int32 → wS → Option (wS)
  | 0, _, _ => none
  | n + 1, x2, s => if x2 < 262 then ((wldI s 163 262 x2).bind fun t6 => (wstI s 170 1048 ((262 * x1) + x2) t6).bind fun s7 => wX11_image_h23 x1 n (x2 + 1) s7) else (some s)
theorem wX11_image_t23 {x1 : Int32} {x : wS} {r : ri_R} (he54 : ∀ (s : wS) (w1 : Int32) (w2 : Int32) , x = s → gRun 1 277 54 [some (.ref 153), some (.int w1), some (.int w2)] [] (wmk s) r) : ∀ {n : Nat} {x2 : Int32} {s : wS} , wX11_image_h23 x1 n x2 s = some x → gRun 1 277 23 [some (.ref 153), some (.int x1), some (.int x2)] [] (wmk s) r := by
  intro n
  induction n with
  | zero => intro x2 s h; cases (show (none : Option (wS)) = some x from h)
  | succ n ih =>
    intro x2 s h
    rw [wX11_image_h23] at h
    refine gR_go 2 (pc1 := 27) (L1 := [some (.ref 153), some (.int x1), some (.int x2)]) (st1 := [.int 262, .int x2]) (fun _ _ => rfl) ?_
    rcases gif h with ⟨c5, h⟩ | ⟨c5, h⟩
    · refine gR_ic_ge_f rfl c5 ?_
      refine gR_go 1 (pc1 := 31) (L1 := [some (.ref 153), some (.int x1), some (.int x2)]) (st1 := [.ref 153]) (fun _ _ => rfl) ?_
      refine gR_gfR (k := 152) (k' := 170) rfl rfl rfl rfl ?_
      refine gR_go 6 (pc1 := 42) (L1 := [some (.ref 153), some (.int x1), some (.int x2)]) (st1 := [.ref 153, .int ((262 * x1) + x2), .ref 171]) (fun _ _ => rfl) ?_
      refine gR_gfR (k := 152) (k' := 163) rfl rfl rfl rfl ?_
      refine gR_go 1 (pc1 := 46) (L1 := [some (.ref 153), some (.int x1), some (.int x2)]) (st1 := [.int x2, .ref 164, .int ((262 * x1) + x2), .ref 171]) (fun _ _ => rfl) ?_
      obtain ⟨t6, et6, h⟩ := gb h
      refine gR_ial (k := 163) rfl rfl rfl et6 ?_
      obtain ⟨s7, es7, h⟩ := gb h
      refine gR_ias (k := 170) rfl rfl rfl es7 ?_
      refine gR_go 2 (pc1 := 23) (L1 := [some (.ref 153), some (.int x1), some (.int (x2 + 1))]) (st1 := []) (fun _ _ => rfl) ?_
      exact ih h
    · refine gR_ic_ge_j rfl c5 rfl ?_
      exact he54 _ _ _ (Option.some.inj h).symm
noncomputable def wX11_image (x1 : Int32) (s : wS) : Option (Int32 × wS) := (wX11_in ((x1 : Int32).toInt64) 0 3 s).bind fun t1 => if t1 = 0 then (some ((-1), s)) else ((wstZ s 171 4 x1 1).bind fun s4 => (wX11_image_h23 x1 wFuel 0 s4).bind fun s9 => some ((s9.1 163 3), s9))
theorem wX11_image_s {x1 : Int32} {s : wS} {rv : Int32} {rs : wS} (h : wX11_image x1 s = some (rv, rs)) : gEv 2 277 [.ref 153, .int x1] (wmk s) (some (.int rv), wmk rs, 0, 0) := by
  refine gEv_of (d := 1) (L := [some (.ref 153), some (.int x1), none]) rfl ?_
  unfold wX11_image at h
  refine gR_go 4 (pc1 := 6) (L1 := [some (.ref 153), some (.int x1), none]) (st1 := [.long 3, .long 0, .long ((x1 : Int32).toInt64)]) (fun _ _ => rfl) ?_
  obtain ⟨t1, e2, h⟩ := gb h
  refine gR_csI (wX11_in_s e2) (Nat.le_of_ble_eq_true rfl) rfl rfl rfl rfl ?_
  rcases gif h with ⟨c3, h⟩ | ⟨c3, h⟩
  · refine gR_iz_ne_f rfl c3 ?_
    refine gR_go 1 (pc1 := 13) (L1 := [some (.ref 153), some (.int x1), none]) (st1 := [.int (-1)]) (fun _ _ => rfl) ?_
    obtain ⟨rfl, rfl⟩ := gi2 h
    exact gR_ri rfl rfl
  · refine gR_iz_ne_j rfl c3 rfl ?_
    refine gR_go 1 (pc1 := 15) (L1 := [some (.ref 153), some (.int x1), none]) (st1 := [.ref 153]) (fun _ _ => rfl) ?_
    refine gR_gfR (k := 152) (k' := 171) rfl rfl rfl rfl ?_
    refine gR_go 2 (pc1 := 20) (L1 := [some (.ref 153), some (.int x1), none]) (st1 := [.int 1, .int x1, .ref 172]) (fun _ _ => rfl) ?_
    obtain ⟨s4, es4, h⟩ := gb h
    refine gR_zas (k := 171) rfl rfl rfl es4 ?_
    refine gR_go 2 (pc1 := 23) (L1 := [some (.ref 153), some (.int x1), some (.int 0)]) (st1 := []) (fun _ _ => rfl) ?_
    obtain ⟨z8, ez8, h⟩ := gb h
    refine wX11_image_t23 ?_  ez8
    · intro s9 w10 w11 hz
      replace hz := hz.symm
      subst hz
      refine gR_go 1 (pc1 := 55) (L1 := [some (.ref 153), some (.int w10), some (.int w11)]) (st1 := [.ref 153]) (fun _ _ => rfl) ?_
      refine gR_gfR (k := 152) (k' := 163) rfl rfl rfl rfl ?_
      refine gR_go 1 (pc1 := 59) (L1 := [some (.ref 153), some (.int w10), some (.int w11)]) (st1 := [.int 3, .ref 164]) (fun _ _ => rfl) ?_
      refine gR_ialc (k := 163) (j := 3) rfl rfl rfl (by decide) rfl ?_
      obtain ⟨rfl, rfl⟩ := gi2 h
      exact gR_ri rfl rfl
noncomputable def wX11_back_h25 (x1 : Int32) : Nat → Int32 → wS → Option (wS)
  | 0, _, _ => none
  | n + 1, x2, s => if x2 < 262 then ((wldI s 170 1048 ((262 * x1) + x2)).bind fun t7 => (wstI s 163 262 x2 t7).bind fun s8 => wX11_back_h25 x1 n (x2 + 1) s8) else (some s)
theorem wX11_back_t25 {x1 : Int32} {x : wS} {r : ri_R} (he56 : ∀ (s : wS) (w1 : Int32) (w2 : Int32) , x = s → gRun 1 278 56 [some (.ref 153), some (.int w1), some (.int w2)] [] (wmk s) r) : ∀ {n : Nat} {x2 : Int32} {s : wS} , wX11_back_h25 x1 n x2 s = some x → gRun 1 278 25 [some (.ref 153), some (.int x1), some (.int x2)] [] (wmk s) r := by
  intro n
  induction n with
  | zero => intro x2 s h; cases (show (none : Option (wS)) = some x from h)
  | succ n ih =>
    intro x2 s h
    rw [wX11_back_h25] at h
    refine gR_go 2 (pc1 := 29) (L1 := [some (.ref 153), some (.int x1), some (.int x2)]) (st1 := [.int 262, .int x2]) (fun _ _ => rfl) ?_
    rcases gif h with ⟨c6, h⟩ | ⟨c6, h⟩
    · refine gR_ic_ge_f rfl c6 ?_
      refine gR_go 1 (pc1 := 33) (L1 := [some (.ref 153), some (.int x1), some (.int x2)]) (st1 := [.ref 153]) (fun _ _ => rfl) ?_
      refine gR_gfR (k := 152) (k' := 163) rfl rfl rfl rfl ?_
      refine gR_go 2 (pc1 := 38) (L1 := [some (.ref 153), some (.int x1), some (.int x2)]) (st1 := [.ref 153, .int x2, .ref 164]) (fun _ _ => rfl) ?_
      refine gR_gfR (k := 152) (k' := 170) rfl rfl rfl rfl ?_
      refine gR_go 5 (pc1 := 48) (L1 := [some (.ref 153), some (.int x1), some (.int x2)]) (st1 := [.int ((262 * x1) + x2), .ref 171, .int x2, .ref 164]) (fun _ _ => rfl) ?_
      obtain ⟨t7, et7, h⟩ := gb h
      refine gR_ial (k := 170) rfl rfl rfl et7 ?_
      obtain ⟨s8, es8, h⟩ := gb h
      refine gR_ias (k := 163) rfl rfl rfl es8 ?_
      refine gR_go 2 (pc1 := 25) (L1 := [some (.ref 153), some (.int x1), some (.int (x2 + 1))]) (st1 := []) (fun _ _ => rfl) ?_
      exact ih h
    · refine gR_ic_ge_j rfl c6 rfl ?_
      exact he56 _ _ _ (Option.some.inj h).symm
noncomputable def wX11_back (x1 : Int32) (s : wS) : Option (Int32 × wS) := (wX11_in ((x1 : Int32).toInt64) 0 3 s).bind fun t1 => if t1 = 0 then (some ((-1), s)) else ((wldI s 171 4 x1).bind fun t4 => if t4 = 0 then (some ((-1), s)) else ((wX11_back_h25 x1 wFuel 0 s).bind fun s10 => some ((s10.1 163 3), s10)))
theorem wX11_back_s {x1 : Int32} {s : wS} {rv : Int32} {rs : wS} (h : wX11_back x1 s = some (rv, rs)) : gEv 2 278 [.ref 153, .int x1] (wmk s) (some (.int rv), wmk rs, 0, 0) := by
  refine gEv_of (d := 1) (L := [some (.ref 153), some (.int x1), none]) rfl ?_
  unfold wX11_back at h
  refine gR_go 4 (pc1 := 6) (L1 := [some (.ref 153), some (.int x1), none]) (st1 := [.long 3, .long 0, .long ((x1 : Int32).toInt64)]) (fun _ _ => rfl) ?_
  obtain ⟨t1, e2, h⟩ := gb h
  refine gR_csI (wX11_in_s e2) (Nat.le_of_ble_eq_true rfl) rfl rfl rfl rfl ?_
  rcases gif h with ⟨c3, h⟩ | ⟨c3, h⟩
  · refine gR_iz_eq_j rfl c3 rfl ?_
    refine gR_go 1 (pc1 := 22) (L1 := [some (.ref 153), some (.int x1), none]) (st1 := [.int (-1)]) (fun _ _ => rfl) ?_
    obtain ⟨rfl, rfl⟩ := gi2 h
    exact gR_ri rfl rfl
  · refine gR_iz_eq_f rfl c3 ?_
    refine gR_go 1 (pc1 := 13) (L1 := [some (.ref 153), some (.int x1), none]) (st1 := [.ref 153]) (fun _ _ => rfl) ?_
    refine gR_gfR (k := 152) (k' := 171) rfl rfl rfl rfl ?_
    refine gR_go 1 (pc1 := 17) (L1 := [some (.ref 153), some (.int x1), none]) (st1 := [.int x1, .ref 172]) (fun _ _ => rfl) ?_
    obtain ⟨t4, et4, h⟩ := gb h
    refine gR_zal (k := 171) rfl rfl rfl et4 ?_
    rcases gif h with ⟨c5, h⟩ | ⟨c5, h⟩
    · refine gR_iz_ne_f rfl c5 ?_
      refine gR_go 1 (pc1 := 22) (L1 := [some (.ref 153), some (.int x1), none]) (st1 := [.int (-1)]) (fun _ _ => rfl) ?_
      obtain ⟨rfl, rfl⟩ := gi2 h
      exact gR_ri rfl rfl
    · refine gR_iz_ne_j rfl c5 rfl ?_
      refine gR_go 2 (pc1 := 25) (L1 := [some (.ref 153), some (.int x1), some (.int 0)]) (st1 := []) (fun _ _ => rfl) ?_
      obtain ⟨z9, ez9, h⟩ := gb h
      refine wX11_back_t25 ?_  ez9
      · intro s10 w11 w12 hz
        replace hz := hz.symm
        subst hz
        refine gR_go 1 (pc1 := 57) (L1 := [some (.ref 153), some (.int w11), some (.int w12)]) (st1 := [.ref 153]) (fun _ _ => rfl) ?_
        refine gR_gfR (k := 152) (k' := 163) rfl rfl rfl rfl ?_
        refine gR_go 1 (pc1 := 61) (L1 := [some (.ref 153), some (.int w11), some (.int w12)]) (st1 := [.int 3, .ref 164]) (fun _ _ => rfl) ?_
        refine gR_ialc (k := 163) (j := 3) rfl rfl rfl (by decide) rfl ?_
        obtain ⟨rfl, rfl⟩ := gi2 h
        exact gR_ri rfl rfl
end
