/-! The methods as functions of the state, each with the proof that the interpreter runs so. -/
noncomputable def wX11_verdict (x1 : Int32) (s : wS) : Option (Int32 × wS) := if x1 = (-1) then ((wstI s 163 262 5 0).bind fun s2 => some (0, s2)) else ((wX11_isWorld x1 s).bind fun t3 => if t3 = 0 then (some (((Int8.ofInt (-2)).toInt32), s)) else (if (s.1 163 5) = 10 then (some (((Int8.ofInt (-2)).toInt32), s)) else ((wstI s 163 262 (242 + (2 * (s.1 163 5))) x1).bind fun s9 => (wstI s9 163 262 ((242 + (2 * (s9.1 163 5))) + 1) (s9.1 163 3)).bind fun s12 => (wstI s12 163 262 5 ((s12.1 163 5) + 1)).bind fun s14 => some ((s14.1 163 5), s14))))
theorem wX11_verdict_s {x1 : Int32} {s : wS} {rv : Int32} {rs : wS} (h : wX11_verdict x1 s = some (rv, rs)) : gEv 3 274 [.ref 153, .int x1] (wmk s) (some (.int rv), wmk rs, 0, 0) := by
  refine gEv_of (d := 2) (L := [some (.ref 153), some (.int x1)]) rfl ?_
  unfold wX11_verdict at h
  refine gR_go 2 (pc1 := 2) (L1 := [some (.ref 153), some (.int x1)]) (st1 := [.int (-1), .int x1]) (fun _ _ => rfl) ?_
  rcases gif h with ⟨c1, h⟩ | ⟨c1, h⟩
  · refine gR_ic_ne_f rfl c1 ?_
    refine gR_go 1 (pc1 := 6) (L1 := [some (.ref 153), some (.int x1)]) (st1 := [.ref 153]) (fun _ _ => rfl) ?_
    refine gR_gfR (k := 152) (k' := 163) rfl rfl rfl rfl ?_
    refine gR_go 2 (pc1 := 11) (L1 := [some (.ref 153), some (.int x1)]) (st1 := [.int 0, .int 5, .ref 164]) (fun _ _ => rfl) ?_
    obtain ⟨s2, es2, h⟩ := gb h
    refine gR_ias (k := 163) rfl rfl rfl es2 ?_
    refine gR_go 1 (pc1 := 13) (L1 := [some (.ref 153), some (.int x1)]) (st1 := [.int 0]) (fun _ _ => rfl) ?_
    obtain ⟨rfl, rfl⟩ := gi2 h
    exact gR_ri rfl rfl
  · refine gR_ic_ne_j rfl c1 rfl ?_
    refine gR_go 2 (pc1 := 16) (L1 := [some (.ref 153), some (.int x1)]) (st1 := [.int x1, .ref 153]) (fun _ _ => rfl) ?_
    obtain ⟨t3, e4, h⟩ := gb h
    refine gR_cvI (wX11_isWorld_s e4) (Nat.le_of_ble_eq_true rfl) rfl rfl rfl rfl rfl ?_
    rcases gif h with ⟨c5, h⟩ | ⟨c5, h⟩
    · refine gR_iz_eq_j rfl c5 rfl ?_
      refine gR_go 1 (pc1 := 35) (L1 := [some (.ref 153), some (.int x1)]) (st1 := [.int ((Int8.ofInt (-2)).toInt32)]) (fun _ _ => rfl) ?_
      obtain ⟨rfl, rfl⟩ := gi2 h
      exact gR_ri rfl rfl
    · refine gR_iz_eq_f rfl c5 ?_
      refine gR_go 1 (pc1 := 23) (L1 := [some (.ref 153), some (.int x1)]) (st1 := [.ref 153]) (fun _ _ => rfl) ?_
      refine gR_gfR (k := 152) (k' := 163) rfl rfl rfl rfl ?_
      refine gR_go 1 (pc1 := 27) (L1 := [some (.ref 153), some (.int x1)]) (st1 := [.int 5, .ref 164]) (fun _ _ => rfl) ?_
      refine gR_ialc (k := 163) (j := 5) rfl rfl rfl (by decide) rfl ?_
      refine gR_go 1 (pc1 := 30) (L1 := [some (.ref 153), some (.int x1)]) (st1 := [.int 10, .int (s.1 163 5)]) (fun _ _ => rfl) ?_
      rcases gif h with ⟨c7, h⟩ | ⟨c7, h⟩
      · refine gR_ic_ne_f rfl c7 ?_
        refine gR_go 1 (pc1 := 35) (L1 := [some (.ref 153), some (.int x1)]) (st1 := [.int ((Int8.ofInt (-2)).toInt32)]) (fun _ _ => rfl) ?_
        obtain ⟨rfl, rfl⟩ := gi2 h
        exact gR_ri rfl rfl
      · refine gR_ic_ne_j rfl c7 rfl ?_
        refine gR_go 1 (pc1 := 37) (L1 := [some (.ref 153), some (.int x1)]) (st1 := [.ref 153]) (fun _ _ => rfl) ?_
        refine gR_gfR (k := 152) (k' := 163) rfl rfl rfl rfl ?_
        refine gR_go 3 (pc1 := 45) (L1 := [some (.ref 153), some (.int x1)]) (st1 := [.ref 153, .int 2, .int 242, .ref 164]) (fun _ _ => rfl) ?_
        refine gR_gfR (k := 152) (k' := 163) rfl rfl rfl rfl ?_
        refine gR_go 1 (pc1 := 49) (L1 := [some (.ref 153), some (.int x1)]) (st1 := [.int 5, .ref 164, .int 2, .int 242, .ref 164]) (fun _ _ => rfl) ?_
        refine gR_ialc (k := 163) (j := 5) rfl rfl rfl (by decide) rfl ?_
        refine gR_go 3 (pc1 := 53) (L1 := [some (.ref 153), some (.int x1)]) (st1 := [.int x1, .int (242 + (2 * (s.1 163 5))), .ref 164]) (fun _ _ => rfl) ?_
        obtain ⟨s9, es9, h⟩ := gb h
        refine gR_ias (k := 163) rfl rfl rfl es9 ?_
        refine gR_go 1 (pc1 := 55) (L1 := [some (.ref 153), some (.int x1)]) (st1 := [.ref 153]) (fun _ _ => rfl) ?_
        refine gR_gfR (k := 152) (k' := 163) rfl rfl rfl rfl ?_
        refine gR_go 3 (pc1 := 63) (L1 := [some (.ref 153), some (.int x1)]) (st1 := [.ref 153, .int 2, .int 242, .ref 164]) (fun _ _ => rfl) ?_
        refine gR_gfR (k := 152) (k' := 163) rfl rfl rfl rfl ?_
        refine gR_go 1 (pc1 := 67) (L1 := [some (.ref 153), some (.int x1)]) (st1 := [.int 5, .ref 164, .int 2, .int 242, .ref 164]) (fun _ _ => rfl) ?_
        refine gR_ialc (k := 163) (j := 5) rfl rfl rfl (by decide) rfl ?_
        refine gR_go 5 (pc1 := 73) (L1 := [some (.ref 153), some (.int x1)]) (st1 := [.ref 153, .int ((242 + (2 * (s9.1 163 5))) + 1), .ref 164]) (fun _ _ => rfl) ?_
        refine gR_gfR (k := 152) (k' := 163) rfl rfl rfl rfl ?_
        refine gR_go 1 (pc1 := 77) (L1 := [some (.ref 153), some (.int x1)]) (st1 := [.int 3, .ref 164, .int ((242 + (2 * (s9.1 163 5))) + 1), .ref 164]) (fun _ _ => rfl) ?_
        refine gR_ialc (k := 163) (j := 3) rfl rfl rfl (by decide) rfl ?_
        obtain ⟨s12, es12, h⟩ := gb h
        refine gR_ias (k := 163) rfl rfl rfl es12 ?_
        refine gR_go 1 (pc1 := 80) (L1 := [some (.ref 153), some (.int x1)]) (st1 := [.ref 153]) (fun _ _ => rfl) ?_
        refine gR_gfR (k := 152) (k' := 163) rfl rfl rfl rfl ?_
        refine gR_go 2 (pc1 := 85) (L1 := [some (.ref 153), some (.int x1)]) (st1 := [.int 5, .ref 164, .int 5, .ref 164]) (fun _ _ => rfl) ?_
        refine gR_ialc (k := 163) (j := 5) rfl rfl rfl (by decide) rfl ?_
        refine gR_go 2 (pc1 := 88) (L1 := [some (.ref 153), some (.int x1)]) (st1 := [.int ((s12.1 163 5) + 1), .int 5, .ref 164]) (fun _ _ => rfl) ?_
        obtain ⟨s14, es14, h⟩ := gb h
        refine gR_ias (k := 163) rfl rfl rfl es14 ?_
        refine gR_go 1 (pc1 := 90) (L1 := [some (.ref 153), some (.int x1)]) (st1 := [.ref 153]) (fun _ _ => rfl) ?_
        refine gR_gfR (k := 152) (k' := 163) rfl rfl rfl rfl ?_
        refine gR_go 1 (pc1 := 94) (L1 := [some (.ref 153), some (.int x1)]) (st1 := [.int 5, .ref 164]) (fun _ _ => rfl) ?_
        refine gR_ialc (k := 163) (j := 5) rfl rfl rfl (by decide) rfl ?_
        obtain ⟨rfl, rfl⟩ := gi2 h
        exact gR_ri rfl rfl
noncomputable def wX11_old_j151 (qq : Int32 → Int32 → Option (Int32)) (x2 : Int32) (x4 : Int32) (x5 : Int32) (x6 : Int32) (x7 : Int32) (x8 : Int32) (x9 : Int32) (x11 : Int32) (y0 : Int32) (y1 : Int32) (s : wS) : Option (Int32) := qq (y0 + y1) (x11 + 1)
theorem wX11_old_u151 {x2 : Int32} {x4 : Int32} {x5 : Int32} {x6 : Int32} {x7 : Int32} {x8 : Int32} {x9 : Int32} {x11 : Int32} {y0 : Int32} {y1 : Int32} {s : wS} {w1 : Int32} {w3 : Int32} {w10 : Int32} {qq : Int32 → Int32 → Option (Int32)} {x : Int32} {r : ri_R} (ih : ∀ {x10 : Int32} {x11 : Int32} {w1 : Int32} {w3 : Int32} , qq x10 x11 = some x → gRun 4 275 116 [some (.ref 153), some (.int w1), some (.int x2), some (.int w3), some (.int x4), some (.int x5), some (.int x6), some (.int x7), some (.int x8), some (.int x9), some (.int x10), some (.int x11)] [] (wmk s) r) (he160 : ∀ (x10 : Int32) (w1 : Int32) (w3 : Int32) (w11 : Int32) , x = x10 → gRun 4 275 160 [some (.ref 153), some (.int w1), some (.int x2), some (.int w3), some (.int x4), some (.int x5), some (.int x6), some (.int x7), some (.int x8), some (.int x9), some (.int x10), some (.int w11)] [] (wmk s) r) (h : wX11_old_j151 qq x2 x4 x5 x6 x7 x8 x9 x11 y0 y1 s = some x) : gRun 4 275 151 [some (.ref 153), some (.int w1), some (.int x2), some (.int w3), some (.int x4), some (.int x5), some (.int x6), some (.int x7), some (.int x8), some (.int x9), some (.int w10), some (.int x11)] [.int y1, .int y0] (wmk s) r := by
  unfold wX11_old_j151 at h
  refine gR_go 4 (pc1 := 116) (L1 := [some (.ref 153), some (.int w1), some (.int x2), some (.int w3), some (.int x4), some (.int x5), some (.int x6), some (.int x7), some (.int x8), some (.int x9), some (.int (y0 + y1)), some (.int (x11 + 1))]) (st1 := []) (fun _ _ => rfl) ?_
  exact ih h
noncomputable def wX11_old_j150 (qq : Int32 → Int32 → Option (Int32)) (x2 : Int32) (x4 : Int32) (x5 : Int32) (x6 : Int32) (x7 : Int32) (x8 : Int32) (x9 : Int32) (x11 : Int32) (y0 : Int32) (s : wS) : Option (Int32) := wX11_old_j151 qq x2 x4 x5 x6 x7 x8 x9 x11 y0 0 s
theorem wX11_old_u150 {x2 : Int32} {x4 : Int32} {x5 : Int32} {x6 : Int32} {x7 : Int32} {x8 : Int32} {x9 : Int32} {x11 : Int32} {y0 : Int32} {s : wS} {w1 : Int32} {w3 : Int32} {w10 : Int32} {qq : Int32 → Int32 → Option (Int32)} {x : Int32} {r : ri_R} (ih : ∀ {x10 : Int32} {x11 : Int32} {w1 : Int32} {w3 : Int32} , qq x10 x11 = some x → gRun 4 275 116 [some (.ref 153), some (.int w1), some (.int x2), some (.int w3), some (.int x4), some (.int x5), some (.int x6), some (.int x7), some (.int x8), some (.int x9), some (.int x10), some (.int x11)] [] (wmk s) r) (he160 : ∀ (x10 : Int32) (w1 : Int32) (w3 : Int32) (w11 : Int32) , x = x10 → gRun 4 275 160 [some (.ref 153), some (.int w1), some (.int x2), some (.int w3), some (.int x4), some (.int x5), some (.int x6), some (.int x7), some (.int x8), some (.int x9), some (.int x10), some (.int w11)] [] (wmk s) r) (h : wX11_old_j150 qq x2 x4 x5 x6 x7 x8 x9 x11 y0 s = some x) : gRun 4 275 150 [some (.ref 153), some (.int w1), some (.int x2), some (.int w3), some (.int x4), some (.int x5), some (.int x6), some (.int x7), some (.int x8), some (.int x9), some (.int w10), some (.int x11)] [.int y0] (wmk s) r := by
  unfold wX11_old_j150 at h
  refine gR_go 1 (pc1 := 151) (L1 := [some (.ref 153), some (.int w1), some (.int x2), some (.int w3), some (.int x4), some (.int x5), some (.int x6), some (.int x7), some (.int x8), some (.int x9), some (.int w10), some (.int x11)]) (st1 := [.int 0, .int y0]) (fun _ _ => rfl) ?_
  exact wX11_old_u151 ih he160 h
noncomputable def wX11_old_h116 (x2 : Int32) (x4 : Int32) (x5 : Int32) (x6 : Int32) (x7 : Int32) (x8 : Int32) (x9 : Int32) (s : wS) : Nat → Int32 → Int32 → Option (Int32)
  | 0, _, _ => none
  | n + 1, x10, x11 => if x11 < x5 then ((wX11_answerOf x11 4 s).bind fun t24 => if t24 = 0 then ((wX11_isTrue x11 x9 s).bind fun t27 => if t27 = 0 then (wX11_old_j151 (wX11_old_h116 x2 x4 x5 x6 x7 x8 x9 s n) x2 x4 x5 x6 x7 x8 x9 x11 x10 1 s) else (wX11_old_j150 (wX11_old_h116 x2 x4 x5 x6 x7 x8 x9 s n) x2 x4 x5 x6 x7 x8 x9 x11 x10 s)) else (wX11_old_j150 (wX11_old_h116 x2 x4 x5 x6 x7 x8 x9 s n) x2 x4 x5 x6 x7 x8 x9 x11 x10 s)) else (some x10)
theorem wX11_old_t116 {x2 : Int32} {x4 : Int32} {x5 : Int32} {x6 : Int32} {x7 : Int32} {x8 : Int32} {x9 : Int32} {s : wS} {x : Int32} {r : ri_R} (he160 : ∀ (x10 : Int32) (w1 : Int32) (w3 : Int32) (w11 : Int32) , x = x10 → gRun 4 275 160 [some (.ref 153), some (.int w1), some (.int x2), some (.int w3), some (.int x4), some (.int x5), some (.int x6), some (.int x7), some (.int x8), some (.int x9), some (.int x10), some (.int w11)] [] (wmk s) r) : ∀ {n : Nat} {x10 : Int32} {x11 : Int32} {w1 : Int32} {w3 : Int32} , wX11_old_h116 x2 x4 x5 x6 x7 x8 x9 s n x10 x11 = some x → gRun 4 275 116 [some (.ref 153), some (.int w1), some (.int x2), some (.int w3), some (.int x4), some (.int x5), some (.int x6), some (.int x7), some (.int x8), some (.int x9), some (.int x10), some (.int x11)] [] (wmk s) r := by
  intro n
  induction n with
  | zero => intro x10 x11 w1 w3 h; cases (show (none : Option (Int32)) = some x from h)
  | succ n ih =>
    intro x10 x11 w1 w3 h
    rw [wX11_old_h116] at h
    refine gR_go 2 (pc1 := 120) (L1 := [some (.ref 153), some (.int w1), some (.int x2), some (.int w3), some (.int x4), some (.int x5), some (.int x6), some (.int x7), some (.int x8), some (.int x9), some (.int x10), some (.int x11)]) (st1 := [.int x5, .int x11]) (fun _ _ => rfl) ?_
    rcases gif h with ⟨c23, h⟩ | ⟨c23, h⟩
    · refine gR_ic_ge_f rfl c23 ?_
      refine gR_go 4 (pc1 := 129) (L1 := [some (.ref 153), some (.int w1), some (.int x2), some (.int w3), some (.int x4), some (.int x5), some (.int x6), some (.int x7), some (.int x8), some (.int x9), some (.int x10), some (.int x11)]) (st1 := [.int 4, .int x11, .ref 153, .int x10]) (fun _ _ => rfl) ?_
      obtain ⟨t24, e25, h⟩ := gb h
      refine gR_cvI (wX11_answerOf_s e25) (Nat.le_of_ble_eq_true rfl) rfl rfl rfl rfl rfl ?_
      rcases gif h with ⟨c26, h⟩ | ⟨c26, h⟩
      · refine gR_iz_ne_f rfl c26 ?_
        refine gR_go 3 (pc1 := 140) (L1 := [some (.ref 153), some (.int w1), some (.int x2), some (.int w3), some (.int x4), some (.int x5), some (.int x6), some (.int x7), some (.int x8), some (.int x9), some (.int x10), some (.int x11)]) (st1 := [.int x9, .int x11, .ref 153, .int x10]) (fun _ _ => rfl) ?_
        obtain ⟨t27, e28, h⟩ := gb h
        refine gR_cvI (wX11_isTrue_s e28) (Nat.le_of_ble_eq_true rfl) rfl rfl rfl rfl rfl ?_
        rcases gif h with ⟨c29, h⟩ | ⟨c29, h⟩
        · refine gR_iz_ne_f rfl c29 ?_
          refine gR_go 2 (pc1 := 151) (L1 := [some (.ref 153), some (.int w1), some (.int x2), some (.int w3), some (.int x4), some (.int x5), some (.int x6), some (.int x7), some (.int x8), some (.int x9), some (.int x10), some (.int x11)]) (st1 := [.int 1, .int x10]) (fun _ _ => rfl) ?_
          exact wX11_old_u151 ih he160 h
        · refine gR_iz_ne_j rfl c29 rfl ?_
          exact wX11_old_u150 ih he160 h
      · refine gR_iz_ne_j rfl c26 rfl ?_
        exact wX11_old_u150 ih he160 h
    · refine gR_ic_ge_j rfl c23 rfl ?_
      exact he160 _ _ _ _ (Option.some.inj h).symm
noncomputable def wX11_old_j203 (qq : Int32 → Int32 → Int32 → Option (Int32 × Int32)) (x2 : Int32) (x4 : Int32) (x5 : Int32) (x6 : Int32) (x7 : Int32) (x8 : Int32) (x9 : Int32) (s : wS) : Option (Int32 × Int32) := qq x7 x8 (x9 + 1)
theorem wX11_old_u203 {x2 : Int32} {x4 : Int32} {x5 : Int32} {x6 : Int32} {x7 : Int32} {x8 : Int32} {x9 : Int32} {s : wS} {w1 : Int32} {w3 : Int32} {w10 : Int32} {w11 : Int32} {qq : Int32 → Int32 → Int32 → Option (Int32 × Int32)} {x : Int32 × Int32} {r : ri_R} (ih : ∀ {x7 : Int32} {x8 : Int32} {x9 : Int32} {w1 : Int32} {w3 : Int32} {w10 : Option Value} {w11 : Option Value} , qq x7 x8 x9 = some x → gRun 4 275 101 [some (.ref 153), some (.int w1), some (.int x2), some (.int w3), some (.int x4), some (.int x5), some (.int x6), some (.int x7), some (.int x8), some (.int x9), w10, w11] [] (wmk s) r) (he209 : ∀ (x7 : Int32) (x8 : Int32) (w1 : Int32) (w2 : Int32) (w3 : Int32) (w5 : Int32) (w6 : Int32) (w9 : Int32) (w10 : Option Value) (w11 : Option Value) , x = (x7, x8) → gRun 4 275 209 [some (.ref 153), some (.int w1), some (.int w2), some (.int w3), some (.int x4), some (.int w5), some (.int w6), some (.int x7), some (.int x8), some (.int w9), w10, w11] [] (wmk s) r) (h : wX11_old_j203 qq x2 x4 x5 x6 x7 x8 x9 s = some x) : gRun 4 275 203 [some (.ref 153), some (.int w1), some (.int x2), some (.int w3), some (.int x4), some (.int x5), some (.int x6), some (.int x7), some (.int x8), some (.int x9), some (.int w10), some (.int w11)] [] (wmk s) r := by
  unfold wX11_old_j203 at h
  refine gR_go 2 (pc1 := 101) (L1 := [some (.ref 153), some (.int w1), some (.int x2), some (.int w3), some (.int x4), some (.int x5), some (.int x6), some (.int x7), some (.int x8), some (.int (x9 + 1)), some (.int w10), some (.int w11)]) (st1 := []) (fun _ _ => rfl) ?_
  exact ih h
noncomputable def wX11_old_j200 (qq : Int32 → Int32 → Int32 → Option (Int32 × Int32)) (x2 : Int32) (x4 : Int32) (x5 : Int32) (x6 : Int32) (x8 : Int32) (x9 : Int32) (y0 : Int32) (y1 : Int32) (s : wS) : Option (Int32 × Int32) := wX11_old_j203 qq x2 x4 x5 x6 (y0 + y1) x8 x9 s
theorem wX11_old_u200 {x2 : Int32} {x4 : Int32} {x5 : Int32} {x6 : Int32} {x8 : Int32} {x9 : Int32} {y0 : Int32} {y1 : Int32} {s : wS} {w1 : Int32} {w3 : Int32} {w7 : Int32} {w10 : Int32} {w11 : Int32} {qq : Int32 → Int32 → Int32 → Option (Int32 × Int32)} {x : Int32 × Int32} {r : ri_R} (ih : ∀ {x7 : Int32} {x8 : Int32} {x9 : Int32} {w1 : Int32} {w3 : Int32} {w10 : Option Value} {w11 : Option Value} , qq x7 x8 x9 = some x → gRun 4 275 101 [some (.ref 153), some (.int w1), some (.int x2), some (.int w3), some (.int x4), some (.int x5), some (.int x6), some (.int x7), some (.int x8), some (.int x9), w10, w11] [] (wmk s) r) (he209 : ∀ (x7 : Int32) (x8 : Int32) (w1 : Int32) (w2 : Int32) (w3 : Int32) (w5 : Int32) (w6 : Int32) (w9 : Int32) (w10 : Option Value) (w11 : Option Value) , x = (x7, x8) → gRun 4 275 209 [some (.ref 153), some (.int w1), some (.int w2), some (.int w3), some (.int x4), some (.int w5), some (.int w6), some (.int x7), some (.int x8), some (.int w9), w10, w11] [] (wmk s) r) (h : wX11_old_j200 qq x2 x4 x5 x6 x8 x9 y0 y1 s = some x) : gRun 4 275 200 [some (.ref 153), some (.int w1), some (.int x2), some (.int w3), some (.int x4), some (.int x5), some (.int x6), some (.int w7), some (.int x8), some (.int x9), some (.int w10), some (.int w11)] [.int y1, .int y0] (wmk s) r := by
  unfold wX11_old_j200 at h
  refine gR_go 2 (pc1 := 203) (L1 := [some (.ref 153), some (.int w1), some (.int x2), some (.int w3), some (.int x4), some (.int x5), some (.int x6), some (.int (y0 + y1)), some (.int x8), some (.int x9), some (.int w10), some (.int w11)]) (st1 := []) (fun _ _ => rfl) ?_
  exact wX11_old_u203 ih he209 h
noncomputable def wX11_old_j183 (qq : Int32 → Int32 → Int32 → Option (Int32 × Int32)) (x2 : Int32) (x4 : Int32) (x5 : Int32) (x6 : Int32) (x7 : Int32) (x9 : Int32) (y0 : Int32) (y1 : Int32) (s : wS) : Option (Int32 × Int32) := if x9 = x6 then (wX11_old_j200 qq x2 x4 x5 x6 (y0 + y1) x9 x7 0 s) else (wX11_old_j200 qq x2 x4 x5 x6 (y0 + y1) x9 x7 1 s)
theorem wX11_old_u183 {x2 : Int32} {x4 : Int32} {x5 : Int32} {x6 : Int32} {x7 : Int32} {x9 : Int32} {y0 : Int32} {y1 : Int32} {s : wS} {w1 : Int32} {w3 : Int32} {w8 : Int32} {w10 : Int32} {w11 : Int32} {qq : Int32 → Int32 → Int32 → Option (Int32 × Int32)} {x : Int32 × Int32} {r : ri_R} (ih : ∀ {x7 : Int32} {x8 : Int32} {x9 : Int32} {w1 : Int32} {w3 : Int32} {w10 : Option Value} {w11 : Option Value} , qq x7 x8 x9 = some x → gRun 4 275 101 [some (.ref 153), some (.int w1), some (.int x2), some (.int w3), some (.int x4), some (.int x5), some (.int x6), some (.int x7), some (.int x8), some (.int x9), w10, w11] [] (wmk s) r) (he209 : ∀ (x7 : Int32) (x8 : Int32) (w1 : Int32) (w2 : Int32) (w3 : Int32) (w5 : Int32) (w6 : Int32) (w9 : Int32) (w10 : Option Value) (w11 : Option Value) , x = (x7, x8) → gRun 4 275 209 [some (.ref 153), some (.int w1), some (.int w2), some (.int w3), some (.int x4), some (.int w5), some (.int w6), some (.int x7), some (.int x8), some (.int w9), w10, w11] [] (wmk s) r) (h : wX11_old_j183 qq x2 x4 x5 x6 x7 x9 y0 y1 s = some x) : gRun 4 275 183 [some (.ref 153), some (.int w1), some (.int x2), some (.int w3), some (.int x4), some (.int x5), some (.int x6), some (.int x7), some (.int w8), some (.int x9), some (.int w10), some (.int w11)] [.int y1, .int y0] (wmk s) r := by
  unfold wX11_old_j183 at h
  refine gR_go 5 (pc1 := 192) (L1 := [some (.ref 153), some (.int w1), some (.int x2), some (.int w3), some (.int x4), some (.int x5), some (.int x6), some (.int x7), some (.int (y0 + y1)), some (.int x9), some (.int w10), some (.int w11)]) (st1 := [.int x6, .int x9, .int x7]) (fun _ _ => rfl) ?_
  rcases gif h with ⟨c37, h⟩ | ⟨c37, h⟩
  · refine gR_ic_ne_f rfl c37 ?_
    refine gR_go 2 (pc1 := 200) (L1 := [some (.ref 153), some (.int w1), some (.int x2), some (.int w3), some (.int x4), some (.int x5), some (.int x6), some (.int x7), some (.int (y0 + y1)), some (.int x9), some (.int w10), some (.int w11)]) (st1 := [.int 0, .int x7]) (fun _ _ => rfl) ?_
    exact wX11_old_u200 ih he209 h
  · refine gR_ic_ne_j rfl c37 rfl ?_
    refine gR_go 1 (pc1 := 200) (L1 := [some (.ref 153), some (.int w1), some (.int x2), some (.int w3), some (.int x4), some (.int x5), some (.int x6), some (.int x7), some (.int (y0 + y1)), some (.int x9), some (.int w10), some (.int w11)]) (st1 := [.int 1, .int x7]) (fun _ _ => rfl) ?_
    exact wX11_old_u200 ih he209 h
noncomputable def wX11_old_h101 (x2 : Int32) (x4 : Int32) (x5 : Int32) (x6 : Int32) (s : wS) : Nat → Int32 → Int32 → Int32 → Option (Int32 × Int32)
  | 0, _, _, _ => none
  | n + 1, x7, x8, x9 => (wX11_worlds s).bind fun t20 => if x9 < t20 then ((wX11_old_h116 x2 x4 x5 x6 x7 x8 x9 s wFuel 0 0).bind fun t31 => if x2 < t31 then (wX11_old_j203 (wX11_old_h101 x2 x4 x5 x6 s n) x2 x4 x5 x6 x7 x8 x9 s) else (if x9 = x6 then (wX11_old_j183 (wX11_old_h101 x2 x4 x5 x6 s n) x2 x4 x5 x6 x7 x9 x8 1 s) else (wX11_old_j183 (wX11_old_h101 x2 x4 x5 x6 s n) x2 x4 x5 x6 x7 x9 x8 0 s))) else (some (x7, x8))
theorem wX11_old_t101 {x2 : Int32} {x4 : Int32} {x5 : Int32} {x6 : Int32} {s : wS} {x : Int32 × Int32} {r : ri_R} (he209 : ∀ (x7 : Int32) (x8 : Int32) (w1 : Int32) (w2 : Int32) (w3 : Int32) (w5 : Int32) (w6 : Int32) (w9 : Int32) (w10 : Option Value) (w11 : Option Value) , x = (x7, x8) → gRun 4 275 209 [some (.ref 153), some (.int w1), some (.int w2), some (.int w3), some (.int x4), some (.int w5), some (.int w6), some (.int x7), some (.int x8), some (.int w9), w10, w11] [] (wmk s) r) : ∀ {n : Nat} {x7 : Int32} {x8 : Int32} {x9 : Int32} {w1 : Int32} {w3 : Int32} {w10 : Option Value} {w11 : Option Value} , wX11_old_h101 x2 x4 x5 x6 s n x7 x8 x9 = some x → gRun 4 275 101 [some (.ref 153), some (.int w1), some (.int x2), some (.int w3), some (.int x4), some (.int x5), some (.int x6), some (.int x7), some (.int x8), some (.int x9), w10, w11] [] (wmk s) r := by
  intro n
  induction n with
  | zero => intro x7 x8 x9 w1 w3 w10 w11 h; cases (show (none : Option (Int32 × Int32)) = some x from h)
  | succ n ih =>
    intro x7 x8 x9 w1 w3 w10 w11 h
    rw [wX11_old_h101] at h
    refine gR_go 2 (pc1 := 104) (L1 := [some (.ref 153), some (.int w1), some (.int x2), some (.int w3), some (.int x4), some (.int x5), some (.int x6), some (.int x7), some (.int x8), some (.int x9), w10, w11]) (st1 := [.ref 153, .int x9]) (fun _ _ => rfl) ?_
    obtain ⟨t20, e21, h⟩ := gb h
    refine gR_cvI (wX11_worlds_s e21) (Nat.le_of_ble_eq_true rfl) rfl rfl rfl rfl rfl ?_
    rcases gif h with ⟨c22, h⟩ | ⟨c22, h⟩
    · refine gR_ic_ge_f rfl c22 ?_
      refine gR_go 4 (pc1 := 116) (L1 := [some (.ref 153), some (.int w1), some (.int x2), some (.int w3), some (.int x4), some (.int x5), some (.int x6), some (.int x7), some (.int x8), some (.int x9), some (.int 0), some (.int 0)]) (st1 := []) (fun _ _ => rfl) ?_
      obtain ⟨z30, ez30, h⟩ := gb h
      refine wX11_old_t116 ?_  ez30
      · intro t31 w32 w33 w34 hz
        replace hz := hz.symm
        subst hz
        refine gR_go 2 (pc1 := 163) (L1 := [some (.ref 153), some (.int w32), some (.int x2), some (.int w33), some (.int x4), some (.int x5), some (.int x6), some (.int x7), some (.int x8), some (.int x9), some (.int t31), some (.int w34)]) (st1 := [.int x2, .int t31]) (fun _ _ => rfl) ?_
        rcases gif h with ⟨c35, h⟩ | ⟨c35, h⟩
        · refine gR_ic_le_f rfl c35 ?_
          refine gR_go 1 (pc1 := 203) (L1 := [some (.ref 153), some (.int w32), some (.int x2), some (.int w33), some (.int x4), some (.int x5), some (.int x6), some (.int x7), some (.int x8), some (.int x9), some (.int t31), some (.int w34)]) (st1 := []) (fun _ _ => rfl) ?_
          exact wX11_old_u203 ih he209 h
        · refine gR_ic_le_j rfl c35 rfl ?_
          refine gR_go 3 (pc1 := 175) (L1 := [some (.ref 153), some (.int w32), some (.int x2), some (.int w33), some (.int x4), some (.int x5), some (.int x6), some (.int x7), some (.int x8), some (.int x9), some (.int t31), some (.int w34)]) (st1 := [.int x6, .int x9, .int x8]) (fun _ _ => rfl) ?_
          rcases gif h with ⟨c36, h⟩ | ⟨c36, h⟩
          · refine gR_ic_ne_f rfl c36 ?_
            refine gR_go 2 (pc1 := 183) (L1 := [some (.ref 153), some (.int w32), some (.int x2), some (.int w33), some (.int x4), some (.int x5), some (.int x6), some (.int x7), some (.int x8), some (.int x9), some (.int t31), some (.int w34)]) (st1 := [.int 1, .int x8]) (fun _ _ => rfl) ?_
            exact wX11_old_u183 ih he209 h
          · refine gR_ic_ne_j rfl c36 rfl ?_
            refine gR_go 1 (pc1 := 183) (L1 := [some (.ref 153), some (.int w32), some (.int x2), some (.int w33), some (.int x4), some (.int x5), some (.int x6), some (.int x7), some (.int x8), some (.int x9), some (.int t31), some (.int w34)]) (st1 := [.int 0, .int x8]) (fun _ _ => rfl) ?_
            exact wX11_old_u183 ih he209 h
    · refine gR_ic_ge_j rfl c22 rfl ?_
      exact he209 _ _ _ _ _ _ _ _ _ _ (Option.some.inj h).symm
noncomputable def wX11_old (x1 : Int32) (x2 : Int32) (x3 : Int32) (x4 : Int32) (s : wS) : Option (Int32 × wS) := (wX11_canAsk x1 s).bind fun t1 => if t1 = 0 then (some ((-1), s)) else ((wX11_isMany x2 s).bind fun t4 => if t4 = 0 then (some ((-1), s)) else ((wX11_in ((x3 : Int32).toInt64) 0 ((((s.1 163 5) - 1) : Int32).toInt64) s).bind fun t8 => if t8 = 0 then (some ((-1), s)) else ((wX11_in ((x4 : Int32).toInt64) 0 2 s).bind fun t11 => if t11 = 0 then (some ((-1), s)) else ((wX11_reaches x1 s).bind fun s15 => (wldI s15 163 262 ((242 + (2 * x3)) + 1)).bind fun t17 => (wldI s15 163 262 (242 + (2 * x3))).bind fun t18 => if x4 = 2 then (some (t17, s15)) else ((wX11_old_h101 x2 x4 t17 t18 s15 wFuel 0 0 0).bind fun (t39, t40) => if x4 = 0 then (some (t40, s15)) else (some (t39, s15)))))))
theorem wX11_old_s {x1 : Int32} {x2 : Int32} {x3 : Int32} {x4 : Int32} {s : wS} {rv : Int32} {rs : wS} (h : wX11_old x1 x2 x3 x4 s = some (rv, rs)) : gEv 5 275 [.ref 153, .int x1, .int x2, .int x3, .int x4] (wmk s) (some (.int rv), wmk rs, 0, 0) := by
  refine gEv_of (d := 4) (L := [some (.ref 153), some (.int x1), some (.int x2), some (.int x3), some (.int x4), none, none, none, none, none, none, none]) rfl ?_
  unfold wX11_old at h
  refine gR_go 2 (pc1 := 2) (L1 := [some (.ref 153), some (.int x1), some (.int x2), some (.int x3), some (.int x4), none, none, none, none, none, none, none]) (st1 := [.int x1, .ref 153]) (fun _ _ => rfl) ?_
  obtain ⟨t1, e2, h⟩ := gb h
  refine gR_cvI (wX11_canAsk_s e2) (Nat.le_of_ble_eq_true rfl) rfl rfl rfl rfl rfl ?_
  rcases gif h with ⟨c3, h⟩ | ⟨c3, h⟩
  · refine gR_iz_eq_j rfl c3 rfl ?_
    refine gR_go 1 (pc1 := 47) (L1 := [some (.ref 153), some (.int x1), some (.int x2), some (.int x3), some (.int x4), none, none, none, none, none, none, none]) (st1 := [.int (-1)]) (fun _ _ => rfl) ?_
    obtain ⟨rfl, rfl⟩ := gi2 h
    exact gR_ri rfl rfl
  · refine gR_iz_eq_f rfl c3 ?_
    refine gR_go 1 (pc1 := 9) (L1 := [some (.ref 153), some (.int x1), some (.int x2), some (.int x3), some (.int x4), none, none, none, none, none, none, none]) (st1 := [.int x2]) (fun _ _ => rfl) ?_
    obtain ⟨t4, e5, h⟩ := gb h
    refine gR_csI (wX11_isMany_s e5) (Nat.le_of_ble_eq_true rfl) rfl rfl rfl rfl ?_
    rcases gif h with ⟨c6, h⟩ | ⟨c6, h⟩
    · refine gR_iz_eq_j rfl c6 rfl ?_
      refine gR_go 1 (pc1 := 47) (L1 := [some (.ref 153), some (.int x1), some (.int x2), some (.int x3), some (.int x4), none, none, none, none, none, none, none]) (st1 := [.int (-1)]) (fun _ _ => rfl) ?_
      obtain ⟨rfl, rfl⟩ := gi2 h
      exact gR_ri rfl rfl
    · refine gR_iz_eq_f rfl c6 ?_
      refine gR_go 4 (pc1 := 19) (L1 := [some (.ref 153), some (.int x1), some (.int x2), some (.int x3), some (.int x4), none, none, none, none, none, none, none]) (st1 := [.ref 153, .long 0, .long ((x3 : Int32).toInt64)]) (fun _ _ => rfl) ?_
      refine gR_gfR (k := 152) (k' := 163) rfl rfl rfl rfl ?_
      refine gR_go 1 (pc1 := 23) (L1 := [some (.ref 153), some (.int x1), some (.int x2), some (.int x3), some (.int x4), none, none, none, none, none, none, none]) (st1 := [.int 5, .ref 164, .long 0, .long ((x3 : Int32).toInt64)]) (fun _ _ => rfl) ?_
      refine gR_ialc (k := 163) (j := 5) rfl rfl rfl (by decide) rfl ?_
      refine gR_go 3 (pc1 := 27) (L1 := [some (.ref 153), some (.int x1), some (.int x2), some (.int x3), some (.int x4), none, none, none, none, none, none, none]) (st1 := [.long ((((s.1 163 5) - 1) : Int32).toInt64), .long 0, .long ((x3 : Int32).toInt64)]) (fun _ _ => rfl) ?_
      obtain ⟨t8, e9, h⟩ := gb h
      refine gR_csI (wX11_in_s e9) (Nat.le_of_ble_eq_true rfl) rfl rfl rfl rfl ?_
      rcases gif h with ⟨c10, h⟩ | ⟨c10, h⟩
      · refine gR_iz_eq_j rfl c10 rfl ?_
        refine gR_go 1 (pc1 := 47) (L1 := [some (.ref 153), some (.int x1), some (.int x2), some (.int x3), some (.int x4), none, none, none, none, none, none, none]) (st1 := [.int (-1)]) (fun _ _ => rfl) ?_
        obtain ⟨rfl, rfl⟩ := gi2 h
        exact gR_ri rfl rfl
      · refine gR_iz_eq_f rfl c10 ?_
        refine gR_go 4 (pc1 := 40) (L1 := [some (.ref 153), some (.int x1), some (.int x2), some (.int x3), some (.int x4), none, none, none, none, none, none, none]) (st1 := [.long 2, .long 0, .long ((x4 : Int32).toInt64)]) (fun _ _ => rfl) ?_
        obtain ⟨t11, e12, h⟩ := gb h
        refine gR_csI (wX11_in_s e12) (Nat.le_of_ble_eq_true rfl) rfl rfl rfl rfl ?_
        rcases gif h with ⟨c13, h⟩ | ⟨c13, h⟩
        · refine gR_iz_ne_f rfl c13 ?_
          refine gR_go 1 (pc1 := 47) (L1 := [some (.ref 153), some (.int x1), some (.int x2), some (.int x3), some (.int x4), none, none, none, none, none, none, none]) (st1 := [.int (-1)]) (fun _ _ => rfl) ?_
          obtain ⟨rfl, rfl⟩ := gi2 h
          exact gR_ri rfl rfl
        · refine gR_iz_ne_j rfl c13 rfl ?_
          refine gR_go 2 (pc1 := 50) (L1 := [some (.ref 153), some (.int x1), some (.int x2), some (.int x3), some (.int x4), none, none, none, none, none, none, none]) (st1 := [.int x1, .ref 153]) (fun _ _ => rfl) ?_
          obtain ⟨s15, e16, h⟩ := gb h
          refine gR_cvV (wX11_reaches_s e16) (Nat.le_of_ble_eq_true rfl) rfl rfl rfl rfl rfl ?_
          refine gR_go 1 (pc1 := 54) (L1 := [some (.ref 153), some (.int x1), some (.int x2), some (.int x3), some (.int x4), none, none, none, none, none, none, none]) (st1 := [.ref 153]) (fun _ _ => rfl) ?_
          refine gR_gfR (k := 152) (k' := 163) rfl rfl rfl rfl ?_
          refine gR_go 7 (pc1 := 66) (L1 := [some (.ref 153), some (.int x1), some (.int x2), some (.int x3), some (.int x4), none, none, none, none, none, none, none]) (st1 := [.int ((242 + (2 * x3)) + 1), .ref 164]) (fun _ _ => rfl) ?_
          obtain ⟨t17, et17, h⟩ := gb h
          refine gR_ial (k := 163) rfl rfl rfl et17 ?_
          refine gR_go 2 (pc1 := 70) (L1 := [some (.ref 153), some (.int x1), some (.int x2), some (.int x3), some (.int x4), some (.int t17), none, none, none, none, none, none]) (st1 := [.ref 153]) (fun _ _ => rfl) ?_
          refine gR_gfR (k := 152) (k' := 163) rfl rfl rfl rfl ?_
          refine gR_go 5 (pc1 := 80) (L1 := [some (.ref 153), some (.int x1), some (.int x2), some (.int x3), some (.int x4), some (.int t17), none, none, none, none, none, none]) (st1 := [.int (242 + (2 * x3)), .ref 164]) (fun _ _ => rfl) ?_
          obtain ⟨t18, et18, h⟩ := gb h
          refine gR_ial (k := 163) rfl rfl rfl et18 ?_
          refine gR_go 3 (pc1 := 86) (L1 := [some (.ref 153), some (.int x1), some (.int x2), some (.int x3), some (.int x4), some (.int t17), some (.int t18), none, none, none, none, none]) (st1 := [.int 2, .int x4]) (fun _ _ => rfl) ?_
          rcases gif h with ⟨c19, h⟩ | ⟨c19, h⟩
          · refine gR_ic_ne_f rfl c19 ?_
            refine gR_go 1 (pc1 := 91) (L1 := [some (.ref 153), some (.int x1), some (.int x2), some (.int x3), some (.int x4), some (.int t17), some (.int t18), none, none, none, none, none]) (st1 := [.int t17]) (fun _ _ => rfl) ?_
            obtain ⟨rfl, rfl⟩ := gi2 h
            exact gR_ri rfl rfl
          · refine gR_ic_ne_j rfl c19 rfl ?_
            refine gR_go 6 (pc1 := 101) (L1 := [some (.ref 153), some (.int x1), some (.int x2), some (.int x3), some (.int x4), some (.int t17), some (.int t18), some (.int 0), some (.int 0), some (.int 0), none, none]) (st1 := []) (fun _ _ => rfl) ?_
            obtain ⟨z38, ez38, h⟩ := gb h
            refine wX11_old_t101 ?_  ez38
            · intro t39 t40 w41 w42 w43 w44 w45 w46 w47 w48 hz
              replace hz := hz.symm
              subst hz
              dsimp only at h
              refine gR_go 1 (pc1 := 211) (L1 := [some (.ref 153), some (.int w41), some (.int w42), some (.int w43), some (.int x4), some (.int w44), some (.int w45), some (.int t39), some (.int t40), some (.int w46), w47, w48]) (st1 := [.int x4]) (fun _ _ => rfl) ?_
              rcases gif h with ⟨c49, h⟩ | ⟨c49, h⟩
              · refine gR_iz_ne_f rfl c49 ?_
                refine gR_go 2 (pc1 := 221) (L1 := [some (.ref 153), some (.int w41), some (.int w42), some (.int w43), some (.int x4), some (.int w44), some (.int w45), some (.int t39), some (.int t40), some (.int w46), w47, w48]) (st1 := [.int t40]) (fun _ _ => rfl) ?_
                obtain ⟨rfl, rfl⟩ := gi2 h
                exact gR_ri rfl rfl
              · refine gR_iz_ne_j rfl c49 rfl ?_
                refine gR_go 1 (pc1 := 221) (L1 := [some (.ref 153), some (.int w41), some (.int w42), some (.int w43), some (.int x4), some (.int w44), some (.int w45), some (.int t39), some (.int t40), some (.int w46), w47, w48]) (st1 := [.int t39]) (fun _ _ => rfl) ?_
                obtain ⟨rfl, rfl⟩ := gi2 h
                exact gR_ri rfl rfl
noncomputable def wX11_count_j56 (x1 : Int32) (s : wS) : Option (Int32) := (wldI s 163 262 x1).bind fun t2 => some t2
theorem wX11_count_u56 {x1 : Int32} {s : wS} {w2 : Int32} {w3 : Option Value} {rv : Int32} (h : wX11_count_j56 x1 s = some rv) : gRun 2 276 56 [some (.ref 153), some (.int x1), some (.int w2), w3] [] (wmk s) (some (.int rv), wmk s, 0, 0) := by
  unfold wX11_count_j56 at h
  refine gR_go 1 (pc1 := 57) (L1 := [some (.ref 153), some (.int x1), some (.int w2), w3]) (st1 := [.ref 153]) (fun _ _ => rfl) ?_
  refine gR_gfR (k := 152) (k' := 163) rfl rfl rfl rfl ?_
  refine gR_go 1 (pc1 := 61) (L1 := [some (.ref 153), some (.int x1), some (.int w2), w3]) (st1 := [.int x1, .ref 164]) (fun _ _ => rfl) ?_
  obtain ⟨t2, et2, h⟩ := gb h
  refine gR_ial (k := 163) rfl rfl rfl et2 ?_
  obtain rfl := gi1 h
  exact gR_ri rfl rfl
noncomputable def wX11_count_h77 (s : wS) : Nat → Int32 → Int32 → Option (Int32)
  | 0, _, _ => none
  | n + 1, x2, x3 => if x3 < (s.1 163 3) then ((wX11_answerOf x3 4 s).bind fun t11 => wX11_count_h77 s n (x2 + t11) (x3 + 1)) else (some x2)
theorem wX11_count_t77 {s : wS} {x : Int32} {r : ri_R} (he102 : ∀ (x2 : Int32) (w1 : Int32) (w3 : Int32) , x = x2 → gRun 2 276 102 [some (.ref 153), some (.int w1), some (.int x2), some (.int w3)] [] (wmk s) r) : ∀ {n : Nat} {x2 : Int32} {x3 : Int32} {w1 : Int32} , wX11_count_h77 s n x2 x3 = some x → gRun 2 276 77 [some (.ref 153), some (.int w1), some (.int x2), some (.int x3)] [] (wmk s) r := by
  intro n
  induction n with
  | zero => intro x2 x3 w1 h; cases (show (none : Option (Int32)) = some x from h)
  | succ n ih =>
    intro x2 x3 w1 h
    rw [wX11_count_h77] at h
    refine gR_go 2 (pc1 := 79) (L1 := [some (.ref 153), some (.int w1), some (.int x2), some (.int x3)]) (st1 := [.ref 153, .int x3]) (fun _ _ => rfl) ?_
    refine gR_gfR (k := 152) (k' := 163) rfl rfl rfl rfl ?_
    refine gR_go 1 (pc1 := 83) (L1 := [some (.ref 153), some (.int w1), some (.int x2), some (.int x3)]) (st1 := [.int 3, .ref 164, .int x3]) (fun _ _ => rfl) ?_
    refine gR_ialc (k := 163) (j := 3) rfl rfl rfl (by decide) rfl ?_
    rcases gif h with ⟨c10, h⟩ | ⟨c10, h⟩
    · refine gR_ic_ge_f rfl c10 ?_
      refine gR_go 4 (pc1 := 91) (L1 := [some (.ref 153), some (.int w1), some (.int x2), some (.int x3)]) (st1 := [.int 4, .int x3, .ref 153, .int x2]) (fun _ _ => rfl) ?_
      obtain ⟨t11, e12, h⟩ := gb h
      refine gR_cvI (wX11_answerOf_s e12) (Nat.le_of_ble_eq_true rfl) rfl rfl rfl rfl rfl ?_
      refine gR_go 4 (pc1 := 77) (L1 := [some (.ref 153), some (.int w1), some (.int (x2 + t11)), some (.int (x3 + 1))]) (st1 := []) (fun _ _ => rfl) ?_
      exact ih h
    · refine gR_ic_ge_j rfl c10 rfl ?_
      exact he102 _ _ _ (Option.some.inj h).symm
noncomputable def wX11_count_j130 (qq : Int32 → Int32 → Option (Int32)) (x3 : Int32) (y0 : Int32) (y1 : Int32) (s : wS) : Option (Int32) := qq (y0 + y1) (x3 + 1)
theorem wX11_count_u130 {x3 : Int32} {y0 : Int32} {y1 : Int32} {s : wS} {w1 : Int32} {w2 : Int32} {qq : Int32 → Int32 → Option (Int32)} {x : Int32} {r : ri_R} (ih : ∀ {x2 : Int32} {x3 : Int32} {w1 : Int32} , qq x2 x3 = some x → gRun 2 276 106 [some (.ref 153), some (.int w1), some (.int x2), some (.int x3)] [] (wmk s) r) (he138 : ∀ (x2 : Int32) (w1 : Int32) (w3 : Int32) , x = x2 → gRun 2 276 138 [some (.ref 153), some (.int w1), some (.int x2), some (.int w3)] [] (wmk s) r) (h : wX11_count_j130 qq x3 y0 y1 s = some x) : gRun 2 276 130 [some (.ref 153), some (.int w1), some (.int w2), some (.int x3)] [.int y1, .int y0] (wmk s) r := by
  unfold wX11_count_j130 at h
  refine gR_go 4 (pc1 := 106) (L1 := [some (.ref 153), some (.int w1), some (.int (y0 + y1)), some (.int (x3 + 1))]) (st1 := []) (fun _ _ => rfl) ?_
  exact ih h
noncomputable def wX11_count_h106 (s : wS) : Nat → Int32 → Int32 → Option (Int32)
  | 0, _, _ => none
  | n + 1, x2, x3 => if x3 < (s.1 163 3) then ((wX11_isLookedAt x3 s).bind fun t20 => if t20 = 0 then (wX11_count_j130 (wX11_count_h106 s n) x3 x2 0 s) else (wX11_count_j130 (wX11_count_h106 s n) x3 x2 1 s)) else (some x2)
theorem wX11_count_t106 {s : wS} {x : Int32} {r : ri_R} (he138 : ∀ (x2 : Int32) (w1 : Int32) (w3 : Int32) , x = x2 → gRun 2 276 138 [some (.ref 153), some (.int w1), some (.int x2), some (.int w3)] [] (wmk s) r) : ∀ {n : Nat} {x2 : Int32} {x3 : Int32} {w1 : Int32} , wX11_count_h106 s n x2 x3 = some x → gRun 2 276 106 [some (.ref 153), some (.int w1), some (.int x2), some (.int x3)] [] (wmk s) r := by
  intro n
  induction n with
  | zero => intro x2 x3 w1 h; cases (show (none : Option (Int32)) = some x from h)
  | succ n ih =>
    intro x2 x3 w1 h
    rw [wX11_count_h106] at h
    refine gR_go 2 (pc1 := 108) (L1 := [some (.ref 153), some (.int w1), some (.int x2), some (.int x3)]) (st1 := [.ref 153, .int x3]) (fun _ _ => rfl) ?_
    refine gR_gfR (k := 152) (k' := 163) rfl rfl rfl rfl ?_
    refine gR_go 1 (pc1 := 112) (L1 := [some (.ref 153), some (.int w1), some (.int x2), some (.int x3)]) (st1 := [.int 3, .ref 164, .int x3]) (fun _ _ => rfl) ?_
    refine gR_ialc (k := 163) (j := 3) rfl rfl rfl (by decide) rfl ?_
    rcases gif h with ⟨c19, h⟩ | ⟨c19, h⟩
    · refine gR_ic_ge_f rfl c19 ?_
      refine gR_go 3 (pc1 := 119) (L1 := [some (.ref 153), some (.int w1), some (.int x2), some (.int x3)]) (st1 := [.int x3, .ref 153, .int x2]) (fun _ _ => rfl) ?_
      obtain ⟨t20, e21, h⟩ := gb h
      refine gR_cvI (wX11_isLookedAt_s e21) (Nat.le_of_ble_eq_true rfl) rfl rfl rfl rfl rfl ?_
      rcases gif h with ⟨c22, h⟩ | ⟨c22, h⟩
      · refine gR_iz_eq_j rfl c22 rfl ?_
        refine gR_go 1 (pc1 := 130) (L1 := [some (.ref 153), some (.int w1), some (.int x2), some (.int x3)]) (st1 := [.int 0, .int x2]) (fun _ _ => rfl) ?_
        exact wX11_count_u130 ih he138 h
      · refine gR_iz_eq_f rfl c22 ?_
        refine gR_go 2 (pc1 := 130) (L1 := [some (.ref 153), some (.int w1), some (.int x2), some (.int x3)]) (st1 := [.int 1, .int x2]) (fun _ _ => rfl) ?_
        exact wX11_count_u130 ih he138 h
    · refine gR_ic_ge_j rfl c19 rfl ?_
      exact he138 _ _ _ (Option.some.inj h).symm
noncomputable def wX11_count (x1 : Int32) (s : wS) : Option (Int32) := if x1 = 0 then (wX11_count_j56 x1 s) else if x1 = 1 then (wX11_count_j56 x1 s) else if x1 = 2 then (wX11_count_j56 x1 s) else if x1 = 3 then (some (s.1 152 2)) else if x1 = 4 then (some (s.1 163 3)) else if x1 = 5 then ((wX11_count_h77 s wFuel 0 0).bind fun t14 => some t14) else if x1 = 6 then ((wX11_count_h106 s wFuel 0 0).bind fun t24 => some t24) else if x1 = 7 then (some (s.1 163 5)) else if x1 = 8 then (some (s.1 163 6)) else if x1 = 9 then (some (s.1 152 1)) else (some (-1))
theorem wX11_count_s {x1 : Int32} {s : wS} {rv : Int32} (h : wX11_count x1 s = some rv) : gEv 3 276 [.ref 153, .int x1] (wmk s) (some (.int rv), wmk s, 0, 0) := by
  refine gEv_of (d := 2) (L := [some (.ref 153), some (.int x1), none, none]) rfl ?_
  unfold wX11_count at h
  refine gR_go 3 (pc1 := 3) (L1 := [some (.ref 153), some (.int x1), some (.int 0), none]) (st1 := [.int x1]) (fun _ _ => rfl) ?_
  rcases gif h with ⟨c1, h⟩ | ⟨c1, h⟩
  · refine gR_sw_k rfl c1 rfl rfl ?_
    exact wX11_count_u56 h
  · rcases gif h with ⟨c3, h⟩ | ⟨c3, h⟩
    · refine gR_sw_k rfl c3 rfl rfl ?_
      exact wX11_count_u56 h
    · rcases gif h with ⟨c4, h⟩ | ⟨c4, h⟩
      · refine gR_sw_k rfl c4 rfl rfl ?_
        exact wX11_count_u56 h
      · rcases gif h with ⟨c5, h⟩ | ⟨c5, h⟩
        · refine gR_sw_k rfl c5 rfl rfl ?_
          refine gR_go 1 (pc1 := 64) (L1 := [some (.ref 153), some (.int x1), some (.int 0), none]) (st1 := [.ref 153]) (fun _ _ => rfl) ?_
          refine gR_gfI (k := 152) rfl rfl rfl ?_
          obtain rfl := gi1 h
          exact gR_ri rfl rfl
        · rcases gif h with ⟨c6, h⟩ | ⟨c6, h⟩
          · refine gR_sw_k rfl c6 rfl rfl ?_
            refine gR_go 1 (pc1 := 69) (L1 := [some (.ref 153), some (.int x1), some (.int 0), none]) (st1 := [.ref 153]) (fun _ _ => rfl) ?_
            refine gR_gfR (k := 152) (k' := 163) rfl rfl rfl rfl ?_
            refine gR_go 1 (pc1 := 73) (L1 := [some (.ref 153), some (.int x1), some (.int 0), none]) (st1 := [.int 3, .ref 164]) (fun _ _ => rfl) ?_
            refine gR_ialc (k := 163) (j := 3) rfl rfl rfl (by decide) rfl ?_
            obtain rfl := gi1 h
            exact gR_ri rfl rfl
          · rcases gif h with ⟨c8, h⟩ | ⟨c8, h⟩
            · refine gR_sw_k rfl c8 rfl rfl ?_
              refine gR_go 2 (pc1 := 77) (L1 := [some (.ref 153), some (.int x1), some (.int 0), some (.int 0)]) (st1 := []) (fun _ _ => rfl) ?_
              obtain ⟨z13, ez13, h⟩ := gb h
              refine wX11_count_t77 ?_  ez13
              · intro t14 w15 w16 hz
                replace hz := hz.symm
                subst hz
                refine gR_go 1 (pc1 := 103) (L1 := [some (.ref 153), some (.int w15), some (.int t14), some (.int w16)]) (st1 := [.int t14]) (fun _ _ => rfl) ?_
                obtain rfl := gi1 h
                exact gR_ri rfl rfl
            · rcases gif h with ⟨c17, h⟩ | ⟨c17, h⟩
              · refine gR_sw_k rfl c17 rfl rfl ?_
                refine gR_go 2 (pc1 := 106) (L1 := [some (.ref 153), some (.int x1), some (.int 0), some (.int 0)]) (st1 := []) (fun _ _ => rfl) ?_
                obtain ⟨z23, ez23, h⟩ := gb h
                refine wX11_count_t106 ?_  ez23
                · intro t24 w25 w26 hz
                  replace hz := hz.symm
                  subst hz
                  refine gR_go 1 (pc1 := 139) (L1 := [some (.ref 153), some (.int w25), some (.int t24), some (.int w26)]) (st1 := [.int t24]) (fun _ _ => rfl) ?_
                  obtain rfl := gi1 h
                  exact gR_ri rfl rfl
              · rcases gif h with ⟨c27, h⟩ | ⟨c27, h⟩
                · refine gR_sw_k rfl c27 rfl rfl ?_
                  refine gR_go 1 (pc1 := 141) (L1 := [some (.ref 153), some (.int x1), some (.int 0), none]) (st1 := [.ref 153]) (fun _ _ => rfl) ?_
                  refine gR_gfR (k := 152) (k' := 163) rfl rfl rfl rfl ?_
                  refine gR_go 1 (pc1 := 145) (L1 := [some (.ref 153), some (.int x1), some (.int 0), none]) (st1 := [.int 5, .ref 164]) (fun _ _ => rfl) ?_
                  refine gR_ialc (k := 163) (j := 5) rfl rfl rfl (by decide) rfl ?_
                  obtain rfl := gi1 h
                  exact gR_ri rfl rfl
                · rcases gif h with ⟨c29, h⟩ | ⟨c29, h⟩
                  · refine gR_sw_k rfl c29 rfl rfl ?_
                    refine gR_go 1 (pc1 := 148) (L1 := [some (.ref 153), some (.int x1), some (.int 0), none]) (st1 := [.ref 153]) (fun _ _ => rfl) ?_
                    refine gR_gfR (k := 152) (k' := 163) rfl rfl rfl rfl ?_
                    refine gR_go 1 (pc1 := 153) (L1 := [some (.ref 153), some (.int x1), some (.int 0), none]) (st1 := [.int 6, .ref 164]) (fun _ _ => rfl) ?_
                    refine gR_ialc (k := 163) (j := 6) rfl rfl rfl (by decide) rfl ?_
                    obtain rfl := gi1 h
                    exact gR_ri rfl rfl
                  · rcases gif h with ⟨c31, h⟩ | ⟨c31, h⟩
                    · refine gR_sw_k rfl c31 rfl rfl ?_
                      refine gR_go 1 (pc1 := 156) (L1 := [some (.ref 153), some (.int x1), some (.int 0), none]) (st1 := [.ref 153]) (fun _ _ => rfl) ?_
                      refine gR_gfI (k := 152) rfl rfl rfl ?_
                      obtain rfl := gi1 h
                      exact gR_ri rfl rfl
                    · refine gR_sw_d [0, 1, 2, 3, 4, 5, 6, 7, 8, 9] rfl (gl1 c1 (gl1 c3 (gl1 c4 (gl1 c5 (gl1 c6 (gl1 c8 (gl1 c17 (gl1 c27 (gl1 c29 (gl1 c31 gl0)))))))))) (by decide) (by decide) rfl ?_
                      refine gR_go 1 (pc1 := 161) (L1 := [some (.ref 153), some (.int x1), some (.int 0), none]) (st1 := [.int (-1)]) (fun _ _ => rfl) ?_
                      obtain rfl := gi1 h
                      exact gR_ri rfl rfl
noncomputable def wX11_image_h23 (x1 : Int32) : Nat → Int32 → wS → Option (wS)
  | 0, _, _ => none
  | n + 1, x2, s => if x2 < 262 then ((wldI s 163 262 x2).bind fun t6 => (wstI s 170 1048 ((262 * x1) + x2) t6).bind fun s7 => wX11_image_h23 x1 n (x2 + 1) s7) else (some s)
theorem wX11_image_t23 {x1 : Int32} {x : wS} {r : ri_R} (he54 : ∀ (s : wS) (w1 : Int32) (w2 : Int32) , x = s → gRun 1 277 54 [some (.ref 153), some (.int w1), some (.int w2)] [] (wmk s) r) : ∀ {n : Nat} {x2 : Int32} {s : wS} , wX11_image_h23 x1 n x2 s = some x → gRun 1 277 23 [some (.ref 153), some (.int x1), some (.int x2)] [] (wmk s) r := by
  intro n
  induction n with
  | zero => intro x2 s h; cases (show (none : Option (wS)) = some x from h)
  | succ n ih =>
    intro x2 s h
    rw [wX11_image_h23] at h
    refine gR_go 2 (pc1 := 27) (L1 := [some (.ref 153), some (.int x1), some (.int x2)]) (st1 := [.int 262, .int x2]) (fun _ _ => rfl) ?_
    rcases gif h with ⟨c5, h⟩ | ⟨c5, h⟩
    · refine gR_ic_ge_f rfl c5 ?_
      refine gR_go 1 (pc1 := 31) (L1 := [some (.ref 153), some (.int x1), some (.int x2)]) (st1 := [.ref 153]) (fun _ _ => rfl) ?_
      refine gR_gfR (k := 152) (k' := 170) rfl rfl rfl rfl ?_
      refine gR_go 6 (pc1 := 42) (L1 := [some (.ref 153), some (.int x1), some (.int x2)]) (st1 := [.ref 153, .int ((262 * x1) + x2), .ref 171]) (fun _ _ => rfl) ?_
      refine gR_gfR (k := 152) (k' := 163) rfl rfl rfl rfl ?_
      refine gR_go 1 (pc1 := 46) (L1 := [some (.ref 153), some (.int x1), some (.int x2)]) (st1 := [.int x2, .ref 164, .int ((262 * x1) + x2), .ref 171]) (fun _ _ => rfl) ?_
      obtain ⟨t6, et6, h⟩ := gb h
      refine gR_ial (k := 163) rfl rfl rfl et6 ?_
      obtain ⟨s7, es7, h⟩ := gb h
      refine gR_ias (k := 170) rfl rfl rfl es7 ?_
      refine gR_go 2 (pc1 := 23) (L1 := [some (.ref 153), some (.int x1), some (.int (x2 + 1))]) (st1 := []) (fun _ _ => rfl) ?_
      exact ih h
    · refine gR_ic_ge_j rfl c5 rfl ?_
      exact he54 _ _ _ (Option.some.inj h).symm
noncomputable def wX11_image (x1 : Int32) (s : wS) : Option (Int32 × wS) := (wX11_in ((x1 : Int32).toInt64) 0 3 s).bind fun t1 => if t1 = 0 then (some ((-1), s)) else ((wstZ s 171 4 x1 1).bind fun s4 => (wX11_image_h23 x1 wFuel 0 s4).bind fun s9 => some ((s9.1 163 3), s9))
theorem wX11_image_s {x1 : Int32} {s : wS} {rv : Int32} {rs : wS} (h : wX11_image x1 s = some (rv, rs)) : gEv 2 277 [.ref 153, .int x1] (wmk s) (some (.int rv), wmk rs, 0, 0) := by
  refine gEv_of (d := 1) (L := [some (.ref 153), some (.int x1), none]) rfl ?_
  unfold wX11_image at h
  refine gR_go 4 (pc1 := 6) (L1 := [some (.ref 153), some (.int x1), none]) (st1 := [.long 3, .long 0, .long ((x1 : Int32).toInt64)]) (fun _ _ => rfl) ?_
  obtain ⟨t1, e2, h⟩ := gb h
  refine gR_csI (wX11_in_s e2) (Nat.le_of_ble_eq_true rfl) rfl rfl rfl rfl ?_
  rcases gif h with ⟨c3, h⟩ | ⟨c3, h⟩
  · refine gR_iz_ne_f rfl c3 ?_
    refine gR_go 1 (pc1 := 13) (L1 := [some (.ref 153), some (.int x1), none]) (st1 := [.int (-1)]) (fun _ _ => rfl) ?_
    obtain ⟨rfl, rfl⟩ := gi2 h
    exact gR_ri rfl rfl
  · refine gR_iz_ne_j rfl c3 rfl ?_
    refine gR_go 1 (pc1 := 15) (L1 := [some (.ref 153), some (.int x1), none]) (st1 := [.ref 153]) (fun _ _ => rfl) ?_
    refine gR_gfR (k := 152) (k' := 171) rfl rfl rfl rfl ?_
    refine gR_go 2 (pc1 := 20) (L1 := [some (.ref 153), some (.int x1), none]) (st1 := [.int 1, .int x1, .ref 172]) (fun _ _ => rfl) ?_
    obtain ⟨s4, es4, h⟩ := gb h
    refine gR_zas (k := 171) rfl rfl rfl es4 ?_
    refine gR_go 2 (pc1 := 23) (L1 := [some (.ref 153), some (.int x1), some (.int 0)]) (st1 := []) (fun _ _ => rfl) ?_
    obtain ⟨z8, ez8, h⟩ := gb h
    refine wX11_image_t23 ?_  ez8
    · intro s9 w10 w11 hz
      replace hz := hz.symm
      subst hz
      refine gR_go 1 (pc1 := 55) (L1 := [some (.ref 153), some (.int w10), some (.int w11)]) (st1 := [.ref 153]) (fun _ _ => rfl) ?_
      refine gR_gfR (k := 152) (k' := 163) rfl rfl rfl rfl ?_
      refine gR_go 1 (pc1 := 59) (L1 := [some (.ref 153), some (.int w10), some (.int w11)]) (st1 := [.int 3, .ref 164]) (fun _ _ => rfl) ?_
      refine gR_ialc (k := 163) (j := 3) rfl rfl rfl (by decide) rfl ?_
      obtain ⟨rfl, rfl⟩ := gi2 h
      exact gR_ri rfl rfl
noncomputable def wX11_back_h25 (x1 : Int32) : Nat → Int32 → wS → Option (wS)
  | 0, _, _ => none
  | n + 1, x2, s => if x2 < 262 then ((wldI s 170 1048 ((262 * x1) + x2)).bind fun t7 => (wstI s 163 262 x2 t7).bind fun s8 => wX11_back_h25 x1 n (x2 + 1) s8) else (some s)
theorem wX11_back_t25 {x1 : Int32} {x : wS} {r : ri_R} (he56 : ∀ (s : wS) (w1 : Int32) (w2 : Int32) , x = s → gRun 1 278 56 [some (.ref 153), some (.int w1), some (.int w2)] [] (wmk s) r) : ∀ {n : Nat} {x2 : Int32} {s : wS} , wX11_back_h25 x1 n x2 s = some x → gRun 1 278 25 [some (.ref 153), some (.int x1), some (.int x2)] [] (wmk s) r := by
  intro n
  induction n with
  | zero => intro x2 s h; cases (show (none : Option (wS)) = some x from h)
  | succ n ih =>
    intro x2 s h
    rw [wX11_back_h25] at h
    refine gR_go 2 (pc1 := 29) (L1 := [some (.ref 153), some (.int x1), some (.int x2)]) (st1 := [.int 262, .int x2]) (fun _ _ => rfl) ?_
    rcases gif h with ⟨c6, h⟩ | ⟨c6, h⟩
    · refine gR_ic_ge_f rfl c6 ?_
      refine gR_go 1 (pc1 := 33) (L1 := [some (.ref 153), some (.int x1), some (.int x2)]) (st1 := [.ref 153]) (fun _ _ => rfl) ?_
      refine gR_gfR (k := 152) (k' := 163) rfl rfl rfl rfl ?_
      refine gR_go 2 (pc1 := 38) (L1 := [some (.ref 153), some (.int x1), some (.int x2)]) (st1 := [.ref 153, .int x2, .ref 164]) (fun _ _ => rfl) ?_
      refine gR_gfR (k := 152) (k' := 170) rfl rfl rfl rfl ?_
      refine gR_go 5 (pc1 := 48) (L1 := [some (.ref 153), some (.int x1), some (.int x2)]) (st1 := [.int ((262 * x1) + x2), .ref 171, .int x2, .ref 164]) (fun _ _ => rfl) ?_
      obtain ⟨t7, et7, h⟩ := gb h
      refine gR_ial (k := 170) rfl rfl rfl et7 ?_
      obtain ⟨s8, es8, h⟩ := gb h
      refine gR_ias (k := 163) rfl rfl rfl es8 ?_
      refine gR_go 2 (pc1 := 25) (L1 := [some (.ref 153), some (.int x1), some (.int (x2 + 1))]) (st1 := []) (fun _ _ => rfl) ?_
      exact ih h
    · refine gR_ic_ge_j rfl c6 rfl ?_
      exact he56 _ _ _ (Option.some.inj h).symm
noncomputable def wX11_back (x1 : Int32) (s : wS) : Option (Int32 × wS) := (wX11_in ((x1 : Int32).toInt64) 0 3 s).bind fun t1 => if t1 = 0 then (some ((-1), s)) else ((wldI s 171 4 x1).bind fun t4 => if t4 = 0 then (some ((-1), s)) else ((wX11_back_h25 x1 wFuel 0 s).bind fun s10 => some ((s10.1 163 3), s10)))
theorem wX11_back_s {x1 : Int32} {s : wS} {rv : Int32} {rs : wS} (h : wX11_back x1 s = some (rv, rs)) : gEv 2 278 [.ref 153, .int x1] (wmk s) (some (.int rv), wmk rs, 0, 0) := by
  refine gEv_of (d := 1) (L := [some (.ref 153), some (.int x1), none]) rfl ?_
  unfold wX11_back at h
  refine gR_go 4 (pc1 := 6) (L1 := [some (.ref 153), some (.int x1), none]) (st1 := [.long 3, .long 0, .long ((x1 : Int32).toInt64)]) (fun _ _ => rfl) ?_
  obtain ⟨t1, e2, h⟩ := gb h
  refine gR_csI (wX11_in_s e2) (Nat.le_of_ble_eq_true rfl) rfl rfl rfl rfl ?_
  rcases gif h with ⟨c3, h⟩ | ⟨c3, h⟩
  · refine gR_iz_eq_j rfl c3 rfl ?_
    refine gR_go 1 (pc1 := 22) (L1 := [some (.ref 153), some (.int x1), none]) (st1 := [.int (-1)]) (fun _ _ => rfl) ?_
    obtain ⟨rfl, rfl⟩ := gi2 h
    exact gR_ri rfl rfl
  · refine gR_iz_eq_f rfl c3 ?_
    refine gR_go 1 (pc1 := 13) (L1 := [some (.ref 153), some (.int x1), none]) (st1 := [.ref 153]) (fun _ _ => rfl) ?_
    refine gR_gfR (k := 152) (k' := 171) rfl rfl rfl rfl ?_
    refine gR_go 1 (pc1 := 17) (L1 := [some (.ref 153), some (.int x1), none]) (st1 := [.int x1, .ref 172]) (fun _ _ => rfl) ?_
    obtain ⟨t4, et4, h⟩ := gb h
    refine gR_zal (k := 171) rfl rfl rfl et4 ?_
    rcases gif h with ⟨c5, h⟩ | ⟨c5, h⟩
    · refine gR_iz_ne_f rfl c5 ?_
      refine gR_go 1 (pc1 := 22) (L1 := [some (.ref 153), some (.int x1), none]) (st1 := [.int (-1)]) (fun _ _ => rfl) ?_
      obtain ⟨rfl, rfl⟩ := gi2 h
      exact gR_ri rfl rfl
    · refine gR_iz_ne_j rfl c5 rfl ?_
      refine gR_go 2 (pc1 := 25) (L1 := [some (.ref 153), some (.int x1), some (.int 0)]) (st1 := []) (fun _ _ => rfl) ?_
      obtain ⟨z9, ez9, h⟩ := gb h
      refine wX11_back_t25 ?_  ez9
      · intro s10 w11 w12 hz
        replace hz := hz.symm
        subst hz
        refine gR_go 1 (pc1 := 57) (L1 := [some (.ref 153), some (.int w11), some (.int w12)]) (st1 := [.ref 153]) (fun _ _ => rfl) ?_
        refine gR_gfR (k := 152) (k' := 163) rfl rfl rfl rfl ?_
        refine gR_go 1 (pc1 := 61) (L1 := [some (.ref 153), some (.int w11), some (.int w12)]) (st1 := [.int 3, .ref 164]) (fun _ _ => rfl) ?_
        refine gR_ialc (k := 163) (j := 3) rfl rfl rfl (by decide) rfl ?_
        obtain ⟨rfl, rfl⟩ := gi2 h
        exact gR_ri rfl rfl
