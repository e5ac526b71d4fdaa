/-! The law's own frame. -/
noncomputable abbrev hL (n : Nat) (xs : Nat → Int32) : hM := (some (n, xs), ri_law, some .boolean, RL, "law", code, 4)
/-- from there the law answers 1 -/
noncomputable def LK (n : Nat) (xs : Nat → Int32) (i : Int32) (pc : Nat) (s : wS) : Prop := ∃ r, hRun 60 (hL n xs) pc [some (.ref 0), some (.ref 1), some (.ref 153), some (.int i)] [] (wmk s) (some (.int 1), wmk r)
section LAW
variable {d pc len a b c n : Nat} {xs : Nat → Int32} {L : ri_L} {rr : List Value} {M : ri_M} {r : Option Value × ri_M}
theorem hR_ialX {i : Int32} (hc : ri_law pc = some (.iaload, len, a, b, c)) (hi : ¬ (i < 0 ∨ n ≤ i.toNatClampNeg)) (g : hRun d (hL n xs) (pc + 1) L (.int (xs i.toNatClampNeg) :: rr) M r) : hRun d (hL n xs) pc L (.int i :: .ref 0 :: rr) M r := hR_st (μ := hL n xs) hc (fun call => by
  show (if i < 0 ∨ n ≤ i.toNatClampNeg then none else some (Sum.inl (pc + 1, L, Value.int (xs i.toNatClampNeg) :: rr, M, 0, 0))) = _
  rw [if_neg hi]) g
theorem hR_pop2 {x : Int64} (hd : decode code pc = .ok (.pop2, 1)) (g : hRun d (hL n xs) (pc + 1) L rr M r) : hRun d (hL n xs) pc L (.long x :: rr) M r := by
  intro TB hck p l e R s m args below meth c' H locs Q A D dA dT cc sc ls Fx hS hT hR hr hend hAt
  obtain ⟨hx, hb, hml, hown, hts, hnm, hA⟩ := id Fx
  exact lv_pop2_2 hx hb hd rfl (g TB hck p l e R s m args below meth c' H locs Q A D dA dT cc sc ls Fx hS hT hR hr hend hAt)
theorem lx {i c : Int32} {m : Int} (hi : 0 ≤ i.toInt) (hc : c.toInt = m) (h0 : 0 ≤ m) (h1 : i.toInt + m < n) (hn2 : n ≤ 3072 := by assumption) (h5 : m ≤ 5 := by decide) : ¬ ((i + c) < 0 ∨ n ≤ (i + c).toNatClampNeg) := by
  have e := t_pl (x := i) hc h0 (by omega) hi (by omega)
  exact t_ix (by omega) (by omega)
theorem lo_0 {i : Int32} {s : wS} (hi : 0 ≤ i.toInt) (hn : i.toInt + 6 ≤ n) (hn2 : n ≤ 3072) (g : JB s) (K : ∀ s2, JB s2 → LK n xs i 1617 s2) : LK n xs i 204 s := by
  obtain ⟨v, s1, v2, s2, e1, e2, hvv, g2⟩ := op_feed_B (x1 := xs (i + 1).toNatClampNeg) (x2 := xs (i + 2).toNatClampNeg) (x3 := xs (i + 3).toNatClampNeg) (x4 := xs (i + 4).toNatClampNeg) (x5 := xs (i + 5).toNatClampNeg) g
  obtain ⟨rr, hr⟩ := K s2 g2
  refine ⟨rr, ?_⟩
  refine hR_go 5 (pc1 := 209) (L1 := [some (.ref 0), some (.ref 1), some (.ref 153), some (.int i)]) (st1 := [.int (i + 1), .ref 0, .ref 1]) rfl ?_
  refine hR_ialX rfl (lx hi (c := 1) (m := 1) rfl (by omega) (by omega)) ?_
  refine hR_go 4 (pc1 := 214) (L1 := [some (.ref 0), some (.ref 1), some (.ref 153), some (.int i)]) (st1 := [.int (i + 2), .ref 0, .int (xs (i + 1).toNatClampNeg), .ref 1]) rfl ?_
  refine hR_ialX rfl (lx hi (c := 2) (m := 2) rfl (by omega) (by omega)) ?_
  refine hR_go 4 (pc1 := 219) (L1 := [some (.ref 0), some (.ref 1), some (.ref 153), some (.int i)]) (st1 := [.int (i + 3), .ref 0, .int (xs (i + 2).toNatClampNeg), .int (xs (i + 1).toNatClampNeg), .ref 1]) rfl ?_
  refine hR_ialX rfl (lx hi (c := 3) (m := 3) rfl (by omega) (by omega)) ?_
  refine hR_go 4 (pc1 := 224) (L1 := [some (.ref 0), some (.ref 1), some (.ref 153), some (.int i)]) (st1 := [.int (i + 4), .ref 0, .int (xs (i + 3).toNatClampNeg), .int (xs (i + 2).toNatClampNeg), .int (xs (i + 1).toNatClampNeg), .ref 1]) rfl ?_
  refine hR_ialX rfl (lx hi (c := 4) (m := 4) rfl (by omega) (by omega)) ?_
  refine hR_go 4 (pc1 := 229) (L1 := [some (.ref 0), some (.ref 1), some (.ref 153), some (.int i)]) (st1 := [.int (i + 5), .ref 0, .int (xs (i + 4).toNatClampNeg), .int (xs (i + 3).toNatClampNeg), .int (xs (i + 2).toNatClampNeg), .int (xs (i + 1).toNatClampNeg), .ref 1]) rfl ?_
  refine hR_ialX rfl (lx hi (c := 5) (m := 5) rfl (by omega) (by omega)) ?_
  refine hR_cvI (wX10_feed_s e1) (Nat.le_of_ble_eq_true rfl) rfl rfl rfl rfl rfl ?_
  refine hR_go 6 (pc1 := 239) (L1 := [some (.ref 0), some (.ref 1), some (.ref 153), some (.int i)]) (st1 := [.int (i + 1), .ref 0, .ref 153]) rfl ?_
  refine hR_ialX rfl (lx hi (c := 1) (m := 1) rfl (by omega) (by omega)) ?_
  refine hR_go 4 (pc1 := 244) (L1 := [some (.ref 0), some (.ref 1), some (.ref 153), some (.int i)]) (st1 := [.int (i + 2), .ref 0, .int (xs (i + 1).toNatClampNeg), .ref 153]) rfl ?_
  refine hR_ialX rfl (lx hi (c := 2) (m := 2) rfl (by omega) (by omega)) ?_
  refine hR_go 4 (pc1 := 249) (L1 := [some (.ref 0), some (.ref 1), some (.ref 153), some (.int i)]) (st1 := [.int (i + 3), .ref 0, .int (xs (i + 2).toNatClampNeg), .int (xs (i + 1).toNatClampNeg), .ref 153]) rfl ?_
  refine hR_ialX rfl (lx hi (c := 3) (m := 3) rfl (by omega) (by omega)) ?_
  refine hR_go 4 (pc1 := 254) (L1 := [some (.ref 0), some (.ref 1), some (.ref 153), some (.int i)]) (st1 := [.int (i + 4), .ref 0, .int (xs (i + 3).toNatClampNeg), .int (xs (i + 2).toNatClampNeg), .int (xs (i + 1).toNatClampNeg), .ref 153]) rfl ?_
  refine hR_ialX rfl (lx hi (c := 4) (m := 4) rfl (by omega) (by omega)) ?_
  refine hR_go 4 (pc1 := 259) (L1 := [some (.ref 0), some (.ref 1), some (.ref 153), some (.int i)]) (st1 := [.int (i + 5), .ref 0, .int (xs (i + 4).toNatClampNeg), .int (xs (i + 3).toNatClampNeg), .int (xs (i + 2).toNatClampNeg), .int (xs (i + 1).toNatClampNeg), .ref 153]) rfl ?_
  refine hR_ialX rfl (lx hi (c := 5) (m := 5) rfl (by omega) (by omega)) ?_
  refine hR_cvI (wX11_feed_s e2) (Nat.le_of_ble_eq_true rfl) rfl rfl rfl rfl rfl ?_
  exact hR_go 2 (pc1 := 1617) (L1 := [some (.ref 0), some (.ref 1), some (.ref 153), some (.int i)]) (st1 := []) rfl hr
theorem lo_1 {i : Int32} {s : wS} (hi : 0 ≤ i.toInt) (hn : i.toInt + 6 ≤ n) (hn2 : n ≤ 3072) (g : JB s) (K : ∀ s2, JB s2 → LK n xs i 1617 s2) : LK n xs i 267 s := by
  obtain ⟨v, s1, v2, s2, e1, e2, hvv, g2⟩ := op_end_B (x1 := xs (i + 1).toNatClampNeg) g
  obtain ⟨rr, hr⟩ := K s2 g2
  refine ⟨rr, ?_⟩
  refine hR_go 5 (pc1 := 272) (L1 := [some (.ref 0), some (.ref 1), some (.ref 153), some (.int i)]) (st1 := [.int (i + 1), .ref 0, .ref 1]) rfl ?_
  refine hR_ialX rfl (lx hi (c := 1) (m := 1) rfl (by omega) (by omega)) ?_
  refine hR_cvI (wX10_end_s e1) (Nat.le_of_ble_eq_true rfl) rfl rfl rfl rfl rfl ?_
  refine hR_go 6 (pc1 := 282) (L1 := [some (.ref 0), some (.ref 1), some (.ref 153), some (.int i)]) (st1 := [.int (i + 1), .ref 0, .ref 153]) rfl ?_
  refine hR_ialX rfl (lx hi (c := 1) (m := 1) rfl (by omega) (by omega)) ?_
  refine hR_cvI (wX11_end_s e2) (Nat.le_of_ble_eq_true rfl) rfl rfl rfl rfl rfl ?_
  exact hR_go 2 (pc1 := 1617) (L1 := [some (.ref 0), some (.ref 1), some (.ref 153), some (.int i)]) (st1 := []) rfl hr
theorem lo_2 {i : Int32} {s : wS} (hi : 0 ≤ i.toInt) (hn : i.toInt + 6 ≤ n) (hn2 : n ≤ 3072) (g : JB s) (K : ∀ s2, JB s2 → LK n xs i 1617 s2) : LK n xs i 290 s := by
  obtain ⟨v, s1, v2, s2, e1, e2, hvv, g2⟩ := op_court_B g
  obtain ⟨rr, hr⟩ := K s2 g2
  refine ⟨rr, ?_⟩
  refine hR_go 1 (pc1 := 291) (L1 := [some (.ref 0), some (.ref 1), some (.ref 153), some (.int i)]) (st1 := [.ref 1]) rfl ?_
  refine hR_hcvI (wX10_court_s e1) (Nat.le_of_ble_eq_true rfl) rfl rfl rfl rfl rfl ?_
  refine hR_go 2 (pc1 := 296) (L1 := [some (.ref 0), some (.ref 1), some (.ref 153), some (.int i)]) (st1 := [.ref 153]) rfl ?_
  refine hR_cvI (wX11_court_s e2) (Nat.le_of_ble_eq_true rfl) rfl rfl rfl rfl rfl ?_
  exact hR_go 2 (pc1 := 1617) (L1 := [some (.ref 0), some (.ref 1), some (.ref 153), some (.int i)]) (st1 := []) rfl hr
theorem lo_3 {i : Int32} {s : wS} (hi : 0 ≤ i.toInt) (hn : i.toInt + 6 ≤ n) (hn2 : n ≤ 3072) (g : JB s) (K : ∀ s2, JB s2 → LK n xs i 1617 s2) : LK n xs i 303 s := by
  obtain ⟨v, s1, v2, s2, e1, e2, hvv, g2⟩ := op_law_B g
  obtain ⟨rr, hr⟩ := K s2 g2
  refine ⟨rr, ?_⟩
  refine hR_go 1 (pc1 := 304) (L1 := [some (.ref 0), some (.ref 1), some (.ref 153), some (.int i)]) (st1 := [.ref 1]) rfl ?_
  refine hR_hcvI (wX10_law_s e1) (Nat.le_of_ble_eq_true rfl) rfl rfl rfl rfl rfl ?_
  refine hR_go 2 (pc1 := 309) (L1 := [some (.ref 0), some (.ref 1), some (.ref 153), some (.int i)]) (st1 := [.ref 153]) rfl ?_
  refine hR_cvI (wX11_law_s e2) (Nat.le_of_ble_eq_true rfl) rfl rfl rfl rfl rfl ?_
  exact hR_go 2 (pc1 := 1617) (L1 := [some (.ref 0), some (.ref 1), some (.ref 153), some (.int i)]) (st1 := []) rfl hr
theorem lo_4 {i : Int32} {s : wS} (hi : 0 ≤ i.toInt) (hn : i.toInt + 6 ≤ n) (hn2 : n ≤ 3072) (g : JB s) (K : ∀ s2, JB s2 → LK n xs i 1617 s2) : LK n xs i 316 s := by
  obtain ⟨v, e1, e2⟩ := op_thing (x1 := xs (i + 1).toNatClampNeg) (x2 := xs (i + 2).toNatClampNeg) (x3 := xs (i + 3).toNatClampNeg) g.1
  have g2 : JB s := g
  obtain ⟨rr, hr⟩ := K s g2
  refine ⟨rr, ?_⟩
  refine hR_go 5 (pc1 := 321) (L1 := [some (.ref 0), some (.ref 1), some (.ref 153), some (.int i)]) (st1 := [.int (i + 1), .ref 0, .ref 1]) rfl ?_
  refine hR_ialX rfl (lx hi (c := 1) (m := 1) rfl (by omega) (by omega)) ?_
  refine hR_go 4 (pc1 := 326) (L1 := [some (.ref 0), some (.ref 1), some (.ref 153), some (.int i)]) (st1 := [.int (i + 2), .ref 0, .int (xs (i + 1).toNatClampNeg), .ref 1]) rfl ?_
  refine hR_ialX rfl (lx hi (c := 2) (m := 2) rfl (by omega) (by omega)) ?_
  refine hR_go 4 (pc1 := 331) (L1 := [some (.ref 0), some (.ref 1), some (.ref 153), some (.int i)]) (st1 := [.int (i + 3), .ref 0, .int (xs (i + 2).toNatClampNeg), .int (xs (i + 1).toNatClampNeg), .ref 1]) rfl ?_
  refine hR_ialX rfl (lx hi (c := 3) (m := 3) rfl (by omega) (by omega)) ?_
  refine hR_cvI (wX10_thing_s e1) (Nat.le_of_ble_eq_true rfl) rfl rfl rfl rfl rfl ?_
  refine hR_go 6 (pc1 := 341) (L1 := [some (.ref 0), some (.ref 1), some (.ref 153), some (.int i)]) (st1 := [.int (i + 1), .ref 0, .ref 153]) rfl ?_
  refine hR_ialX rfl (lx hi (c := 1) (m := 1) rfl (by omega) (by omega)) ?_
  refine hR_go 4 (pc1 := 346) (L1 := [some (.ref 0), some (.ref 1), some (.ref 153), some (.int i)]) (st1 := [.int (i + 2), .ref 0, .int (xs (i + 1).toNatClampNeg), .ref 153]) rfl ?_
  refine hR_ialX rfl (lx hi (c := 2) (m := 2) rfl (by omega) (by omega)) ?_
  refine hR_go 4 (pc1 := 351) (L1 := [some (.ref 0), some (.ref 1), some (.ref 153), some (.int i)]) (st1 := [.int (i + 3), .ref 0, .int (xs (i + 2).toNatClampNeg), .int (xs (i + 1).toNatClampNeg), .ref 153]) rfl ?_
  refine hR_ialX rfl (lx hi (c := 3) (m := 3) rfl (by omega) (by omega)) ?_
  refine hR_cvI (wX11_thing_s e2) (Nat.le_of_ble_eq_true rfl) rfl rfl rfl rfl rfl ?_
  exact hR_go 2 (pc1 := 1617) (L1 := [some (.ref 0), some (.ref 1), some (.ref 153), some (.int i)]) (st1 := []) rfl hr
theorem lo_5 {i : Int32} {s : wS} (hi : 0 ≤ i.toInt) (hn : i.toInt + 6 ≤ n) (hn2 : n ≤ 3072) (g : JB s) (K : ∀ s2, JB s2 → LK n xs i 1617 s2) : LK n xs i 359 s := by
  obtain ⟨⟨v, s1⟩, e1, p1⟩ := wX10_far_T (x1 := xs (i + 1).toNatClampNeg) (x2 := xs (i + 2).toNatClampNeg) (x3 := xs (i + 3).toNatClampNeg) (x4 := xs (i + 4).toNatClampNeg) (s := s)
  dsimp only at *
  have g1 : JB s1 := (wX10_far_J g).get e1
  obtain ⟨⟨v2, s2⟩, e2, p2⟩ := wX11_far_T (x1 := xs (i + 1).toNatClampNeg) (x2 := xs (i + 2).toNatClampNeg) (x3 := xs (i + 3).toNatClampNeg) (x4 := xs (i + 4).toNatClampNeg) (s := s1) g1.1.inv.rq
  dsimp only at *
  have g2 : JB s2 := (wX11_far_J g1).get e2
  obtain ⟨rr, hr⟩ := K s2 g2
  refine ⟨rr, ?_⟩
  refine hR_go 5 (pc1 := 364) (L1 := [some (.ref 0), some (.ref 1), some (.ref 153), some (.int i)]) (st1 := [.int (i + 1), .ref 0, .ref 1]) rfl ?_
  refine hR_ialX rfl (lx hi (c := 1) (m := 1) rfl (by omega) (by omega)) ?_
  refine hR_go 4 (pc1 := 369) (L1 := [some (.ref 0), some (.ref 1), some (.ref 153), some (.int i)]) (st1 := [.int (i + 2), .ref 0, .int (xs (i + 1).toNatClampNeg), .ref 1]) rfl ?_
  refine hR_ialX rfl (lx hi (c := 2) (m := 2) rfl (by omega) (by omega)) ?_
  refine hR_go 4 (pc1 := 374) (L1 := [some (.ref 0), some (.ref 1), some (.ref 153), some (.int i)]) (st1 := [.int (i + 3), .ref 0, .int (xs (i + 2).toNatClampNeg), .int (xs (i + 1).toNatClampNeg), .ref 1]) rfl ?_
  refine hR_ialX rfl (lx hi (c := 3) (m := 3) rfl (by omega) (by omega)) ?_
  refine hR_go 4 (pc1 := 379) (L1 := [some (.ref 0), some (.ref 1), some (.ref 153), some (.int i)]) (st1 := [.int (i + 4), .ref 0, .int (xs (i + 3).toNatClampNeg), .int (xs (i + 2).toNatClampNeg), .int (xs (i + 1).toNatClampNeg), .ref 1]) rfl ?_
  refine hR_ialX rfl (lx hi (c := 4) (m := 4) rfl (by omega) (by omega)) ?_
  refine hR_cvL (wX10_far_s e1) (Nat.le_of_ble_eq_true rfl) rfl rfl rfl rfl rfl ?_
  refine hR_pop2 (by decide +kernel) ?_
  refine hR_go 5 (pc1 := 389) (L1 := [some (.ref 0), some (.ref 1), some (.ref 153), some (.int i)]) (st1 := [.int (i + 1), .ref 0, .ref 153]) rfl ?_
  refine hR_ialX rfl (lx hi (c := 1) (m := 1) rfl (by omega) (by omega)) ?_
  refine hR_go 4 (pc1 := 394) (L1 := [some (.ref 0), some (.ref 1), some (.ref 153), some (.int i)]) (st1 := [.int (i + 2), .ref 0, .int (xs (i + 1).toNatClampNeg), .ref 153]) rfl ?_
  refine hR_ialX rfl (lx hi (c := 2) (m := 2) rfl (by omega) (by omega)) ?_
  refine hR_go 4 (pc1 := 399) (L1 := [some (.ref 0), some (.ref 1), some (.ref 153), some (.int i)]) (st1 := [.int (i + 3), .ref 0, .int (xs (i + 2).toNatClampNeg), .int (xs (i + 1).toNatClampNeg), .ref 153]) rfl ?_
  refine hR_ialX rfl (lx hi (c := 3) (m := 3) rfl (by omega) (by omega)) ?_
  refine hR_go 4 (pc1 := 404) (L1 := [some (.ref 0), some (.ref 1), some (.ref 153), some (.int i)]) (st1 := [.int (i + 4), .ref 0, .int (xs (i + 3).toNatClampNeg), .int (xs (i + 2).toNatClampNeg), .int (xs (i + 1).toNatClampNeg), .ref 153]) rfl ?_
  refine hR_ialX rfl (lx hi (c := 4) (m := 4) rfl (by omega) (by omega)) ?_
  refine hR_cvL (wX11_far_s e2) (Nat.le_of_ble_eq_true rfl) rfl rfl rfl rfl rfl ?_
  refine hR_pop2 (by decide +kernel) ?_
  exact hR_go 1 (pc1 := 1617) (L1 := [some (.ref 0), some (.ref 1), some (.ref 153), some (.int i)]) (st1 := []) rfl hr
theorem lo_6 {i : Int32} {s : wS} (hi : 0 ≤ i.toInt) (hn : i.toInt + 6 ≤ n) (hn2 : n ≤ 3072) (g : JB s) (K : ∀ s2, JB s2 → LK n xs i 1617 s2) : LK n xs i 412 s := by
  obtain ⟨v, s1, v2, s2, e1, e2, hvv, g2⟩ := op_answer_B (x1 := xs (i + 1).toNatClampNeg) (x2 := xs (i + 2).toNatClampNeg) (x3 := xs (i + 3).toNatClampNeg) (x4 := xs (i + 4).toNatClampNeg) g
  obtain ⟨rr, hr⟩ := K s2 g2
  refine ⟨rr, ?_⟩
  refine hR_go 5 (pc1 := 417) (L1 := [some (.ref 0), some (.ref 1), some (.ref 153), some (.int i)]) (st1 := [.int (i + 1), .ref 0, .ref 1]) rfl ?_
  refine hR_ialX rfl (lx hi (c := 1) (m := 1) rfl (by omega) (by omega)) ?_
  refine hR_go 4 (pc1 := 422) (L1 := [some (.ref 0), some (.ref 1), some (.ref 153), some (.int i)]) (st1 := [.int (i + 2), .ref 0, .int (xs (i + 1).toNatClampNeg), .ref 1]) rfl ?_
  refine hR_ialX rfl (lx hi (c := 2) (m := 2) rfl (by omega) (by omega)) ?_
  refine hR_go 4 (pc1 := 427) (L1 := [some (.ref 0), some (.ref 1), some (.ref 153), some (.int i)]) (st1 := [.int (i + 3), .ref 0, .int (xs (i + 2).toNatClampNeg), .int (xs (i + 1).toNatClampNeg), .ref 1]) rfl ?_
  refine hR_ialX rfl (lx hi (c := 3) (m := 3) rfl (by omega) (by omega)) ?_
  refine hR_go 4 (pc1 := 432) (L1 := [some (.ref 0), some (.ref 1), some (.ref 153), some (.int i)]) (st1 := [.int (i + 4), .ref 0, .int (xs (i + 3).toNatClampNeg), .int (xs (i + 2).toNatClampNeg), .int (xs (i + 1).toNatClampNeg), .ref 1]) rfl ?_
  refine hR_ialX rfl (lx hi (c := 4) (m := 4) rfl (by omega) (by omega)) ?_
  refine hR_cvI (wX10_answer_s e1) (Nat.le_of_ble_eq_true rfl) rfl rfl rfl rfl rfl ?_
  refine hR_go 6 (pc1 := 442) (L1 := [some (.ref 0), some (.ref 1), some (.ref 153), some (.int i)]) (st1 := [.int (i + 1), .ref 0, .ref 153]) rfl ?_
  refine hR_ialX rfl (lx hi (c := 1) (m := 1) rfl (by omega) (by omega)) ?_
  refine hR_go 4 (pc1 := 447) (L1 := [some (.ref 0), some (.ref 1), some (.ref 153), some (.int i)]) (st1 := [.int (i + 2), .ref 0, .int (xs (i + 1).toNatClampNeg), .ref 153]) rfl ?_
  refine hR_ialX rfl (lx hi (c := 2) (m := 2) rfl (by omega) (by omega)) ?_
  refine hR_go 4 (pc1 := 452) (L1 := [some (.ref 0), some (.ref 1), some (.ref 153), some (.int i)]) (st1 := [.int (i + 3), .ref 0, .int (xs (i + 2).toNatClampNeg), .int (xs (i + 1).toNatClampNeg), .ref 153]) rfl ?_
  refine hR_ialX rfl (lx hi (c := 3) (m := 3) rfl (by omega) (by omega)) ?_
  refine hR_go 4 (pc1 := 457) (L1 := [some (.ref 0), some (.ref 1), some (.ref 153), some (.int i)]) (st1 := [.int (i + 4), .ref 0, .int (xs (i + 3).toNatClampNeg), .int (xs (i + 2).toNatClampNeg), .int (xs (i + 1).toNatClampNeg), .ref 153]) rfl ?_
  refine hR_ialX rfl (lx hi (c := 4) (m := 4) rfl (by omega) (by omega)) ?_
  refine hR_cvI (wX11_answer_s e2) (Nat.le_of_ble_eq_true rfl) rfl rfl rfl rfl rfl ?_
  exact hR_go 2 (pc1 := 1617) (L1 := [some (.ref 0), some (.ref 1), some (.ref 153), some (.int i)]) (st1 := []) rfl hr
theorem lo_7 {i : Int32} {s : wS} (hi : 0 ≤ i.toInt) (hn : i.toInt + 6 ≤ n) (hn2 : n ≤ 3072) (g : JB s) (K : ∀ s2, JB s2 → LK n xs i 1617 s2) : LK n xs i 465 s := by
  obtain ⟨v, e1, e2⟩ := op_answers (x1 := xs (i + 1).toNatClampNeg) (x2 := xs (i + 2).toNatClampNeg) g.1
  have g2 : JB s := g
  obtain ⟨rr, hr⟩ := K s g2
  refine ⟨rr, ?_⟩
  refine hR_go 5 (pc1 := 470) (L1 := [some (.ref 0), some (.ref 1), some (.ref 153), some (.int i)]) (st1 := [.int (i + 1), .ref 0, .ref 1]) rfl ?_
  refine hR_ialX rfl (lx hi (c := 1) (m := 1) rfl (by omega) (by omega)) ?_
  refine hR_go 4 (pc1 := 475) (L1 := [some (.ref 0), some (.ref 1), some (.ref 153), some (.int i)]) (st1 := [.int (i + 2), .ref 0, .int (xs (i + 1).toNatClampNeg), .ref 1]) rfl ?_
  refine hR_ialX rfl (lx hi (c := 2) (m := 2) rfl (by omega) (by omega)) ?_
  refine hR_cvI (wX10_answers_s e1) (Nat.le_of_ble_eq_true rfl) rfl rfl rfl rfl rfl ?_
  refine hR_go 6 (pc1 := 485) (L1 := [some (.ref 0), some (.ref 1), some (.ref 153), some (.int i)]) (st1 := [.int (i + 1), .ref 0, .ref 153]) rfl ?_
  refine hR_ialX rfl (lx hi (c := 1) (m := 1) rfl (by omega) (by omega)) ?_
  refine hR_go 4 (pc1 := 490) (L1 := [some (.ref 0), some (.ref 1), some (.ref 153), some (.int i)]) (st1 := [.int (i + 2), .ref 0, .int (xs (i + 1).toNatClampNeg), .ref 153]) rfl ?_
  refine hR_ialX rfl (lx hi (c := 2) (m := 2) rfl (by omega) (by omega)) ?_
  refine hR_cvI (wX11_answers_s e2) (Nat.le_of_ble_eq_true rfl) rfl rfl rfl rfl rfl ?_
  exact hR_go 2 (pc1 := 1617) (L1 := [some (.ref 0), some (.ref 1), some (.ref 153), some (.int i)]) (st1 := []) rfl hr
theorem lo_8 {i : Int32} {s : wS} (hi : 0 ≤ i.toInt) (hn : i.toInt + 6 ≤ n) (hn2 : n ≤ 3072) (g : JB s) (K : ∀ s2, JB s2 → LK n xs i 1617 s2) : LK n xs i 498 s := by
  by_cases hz : xs (i + 2).toNatClampNeg = 0
  · obtain ⟨v, s1, v2, s2, e1, e2, hvv, g2⟩ := op_strike_B (x1 := xs (i + 1).toNatClampNeg) (x2 := 0) g (Or.inl rfl)
    obtain ⟨rr, hr⟩ := K s2 g2
    refine ⟨rr, ?_⟩
    refine hR_go 5 (pc1 := 503) (L1 := [some (.ref 0), some (.ref 1), some (.ref 153), some (.int i)]) (st1 := [.int (i + 1), .ref 0, .ref 1]) rfl ?_
    refine hR_ialX rfl (lx hi (c := 1) (m := 1) rfl (by omega) (by omega)) ?_
    refine hR_go 4 (pc1 := 508) (L1 := [some (.ref 0), some (.ref 1), some (.ref 153), some (.int i)]) (st1 := [.int (i + 2), .ref 0, .int (xs (i + 1).toNatClampNeg), .ref 1]) rfl ?_
    refine hR_ialX rfl (lx hi (c := 2) (m := 2) rfl (by omega) (by omega)) ?_
    refine hR_iz_eq_j (t := 516) rfl hz rfl ?_
    refine hR_go 1 (pc1 := 517) (L1 := [some (.ref 0), some (.ref 1), some (.ref 153), some (.int i)]) (st1 := [.int 0, .int (xs (i + 1).toNatClampNeg), .ref 1]) rfl ?_
    refine hR_cvI (wX10_strike_s e1) (Nat.le_of_ble_eq_true rfl) rfl rfl rfl rfl rfl ?_
    refine hR_go 6 (pc1 := 526) (L1 := [some (.ref 0), some (.ref 1), some (.ref 153), some (.int i)]) (st1 := [.int (i + 1), .ref 0, .ref 153]) rfl ?_
    refine hR_ialX rfl (lx hi (c := 1) (m := 1) rfl (by omega) (by omega)) ?_
    refine hR_go 4 (pc1 := 531) (L1 := [some (.ref 0), some (.ref 1), some (.ref 153), some (.int i)]) (st1 := [.int (i + 2), .ref 0, .int (xs (i + 1).toNatClampNeg), .ref 153]) rfl ?_
    refine hR_ialX rfl (lx hi (c := 2) (m := 2) rfl (by omega) (by omega)) ?_
    refine hR_iz_eq_j (t := 539) rfl hz rfl ?_
    refine hR_go 1 (pc1 := 540) (L1 := [some (.ref 0), some (.ref 1), some (.ref 153), some (.int i)]) (st1 := [.int 0, .int (xs (i + 1).toNatClampNeg), .ref 153]) rfl ?_
    refine hR_cvI (wX11_strike_s e2) (Nat.le_of_ble_eq_true rfl) rfl rfl rfl rfl rfl ?_
    exact hR_go 2 (pc1 := 1617) (L1 := [some (.ref 0), some (.ref 1), some (.ref 153), some (.int i)]) (st1 := []) rfl hr
  · obtain ⟨v, s1, v2, s2, e1, e2, hvv, g2⟩ := op_strike_B (x1 := xs (i + 1).toNatClampNeg) (x2 := 1) g (Or.inr rfl)
    obtain ⟨rr, hr⟩ := K s2 g2
    refine ⟨rr, ?_⟩
    refine hR_go 5 (pc1 := 503) (L1 := [some (.ref 0), some (.ref 1), some (.ref 153), some (.int i)]) (st1 := [.int (i + 1), .ref 0, .ref 1]) rfl ?_
    refine hR_ialX rfl (lx hi (c := 1) (m := 1) rfl (by omega) (by omega)) ?_
    refine hR_go 4 (pc1 := 508) (L1 := [some (.ref 0), some (.ref 1), some (.ref 153), some (.int i)]) (st1 := [.int (i + 2), .ref 0, .int (xs (i + 1).toNatClampNeg), .ref 1]) rfl ?_
    refine hR_ialX rfl (lx hi (c := 2) (m := 2) rfl (by omega) (by omega)) ?_
    refine hR_iz_eq_f rfl hz ?_
    refine hR_go 2 (pc1 := 517) (L1 := [some (.ref 0), some (.ref 1), some (.ref 153), some (.int i)]) (st1 := [.int 1, .int (xs (i + 1).toNatClampNeg), .ref 1]) rfl ?_
    refine hR_cvI (wX10_strike_s e1) (Nat.le_of_ble_eq_true rfl) rfl rfl rfl rfl rfl ?_
    refine hR_go 6 (pc1 := 526) (L1 := [some (.ref 0), some (.ref 1), some (.ref 153), some (.int i)]) (st1 := [.int (i + 1), .ref 0, .ref 153]) rfl ?_
    refine hR_ialX rfl (lx hi (c := 1) (m := 1) rfl (by omega) (by omega)) ?_
    refine hR_go 4 (pc1 := 531) (L1 := [some (.ref 0), some (.ref 1), some (.ref 153), some (.int i)]) (st1 := [.int (i + 2), .ref 0, .int (xs (i + 1).toNatClampNeg), .ref 153]) rfl ?_
    refine hR_ialX rfl (lx hi (c := 2) (m := 2) rfl (by omega) (by omega)) ?_
    refine hR_iz_eq_f rfl hz ?_
    refine hR_go 2 (pc1 := 540) (L1 := [some (.ref 0), some (.ref 1), some (.ref 153), some (.int i)]) (st1 := [.int 1, .int (xs (i + 1).toNatClampNeg), .ref 153]) rfl ?_
    refine hR_cvI (wX11_strike_s e2) (Nat.le_of_ble_eq_true rfl) rfl rfl rfl rfl rfl ?_
    exact hR_go 2 (pc1 := 1617) (L1 := [some (.ref 0), some (.ref 1), some (.ref 153), some (.int i)]) (st1 := []) rfl hr
theorem lo_9 {i : Int32} {s : wS} (hi : 0 ≤ i.toInt) (hn : i.toInt + 6 ≤ n) (hn2 : n ≤ 3072) (g : JB s) (K : ∀ s2, JB s2 → LK n xs i 1617 s2) : LK n xs i 547 s := by
  obtain ⟨v, s1, v2, s2, e1, e2, hvv, g2⟩ := op_only_B (x1 := xs (i + 1).toNatClampNeg) g
  obtain ⟨rr, hr⟩ := K s2 g2
  refine ⟨rr, ?_⟩
  refine hR_go 5 (pc1 := 552) (L1 := [some (.ref 0), some (.ref 1), some (.ref 153), some (.int i)]) (st1 := [.int (i + 1), .ref 0, .ref 1]) rfl ?_
  refine hR_ialX rfl (lx hi (c := 1) (m := 1) rfl (by omega) (by omega)) ?_
  refine hR_cvI (wX10_only_s e1) (Nat.le_of_ble_eq_true rfl) rfl rfl rfl rfl rfl ?_
  refine hR_go 6 (pc1 := 562) (L1 := [some (.ref 0), some (.ref 1), some (.ref 153), some (.int i)]) (st1 := [.int (i + 1), .ref 0, .ref 153]) rfl ?_
  refine hR_ialX rfl (lx hi (c := 1) (m := 1) rfl (by omega) (by omega)) ?_
  refine hR_cvI (wX11_only_s e2) (Nat.le_of_ble_eq_true rfl) rfl rfl rfl rfl rfl ?_
  exact hR_go 2 (pc1 := 1617) (L1 := [some (.ref 0), some (.ref 1), some (.ref 153), some (.int i)]) (st1 := []) rfl hr
theorem lo_10 {i : Int32} {s : wS} (hi : 0 ≤ i.toInt) (hn : i.toInt + 6 ≤ n) (hn2 : n ≤ 3072) (g : JB s) (K : ∀ s2, JB s2 → LK n xs i 1617 s2) : LK n xs i 570 s := by
  obtain ⟨⟨v, s1⟩, e1, p1⟩ := wX10_holds_T (x1 := xs (i + 1).toNatClampNeg) (x2 := xs (i + 2).toNatClampNeg) (x3 := xs (i + 3).toNatClampNeg) (s := s)
  dsimp only at *
  have g1 : JB s1 := (wX10_holds_J g).get e1
  obtain ⟨⟨v2, s2⟩, e2, p2⟩ := wX11_holds_T (x1 := xs (i + 1).toNatClampNeg) (x2 := xs (i + 2).toNatClampNeg) (x3 := xs (i + 3).toNatClampNeg) (s := s1) g1.1.inv.rq
  dsimp only at *
  have g2 : JB s2 := (wX11_holds_J g1).get e2
  obtain ⟨rr, hr⟩ := K s2 g2
  refine ⟨rr, ?_⟩
  refine hR_go 5 (pc1 := 575) (L1 := [some (.ref 0), some (.ref 1), some (.ref 153), some (.int i)]) (st1 := [.int (i + 1), .ref 0, .ref 1]) rfl ?_
  refine hR_ialX rfl (lx hi (c := 1) (m := 1) rfl (by omega) (by omega)) ?_
  refine hR_go 4 (pc1 := 580) (L1 := [some (.ref 0), some (.ref 1), some (.ref 153), some (.int i)]) (st1 := [.int (i + 2), .ref 0, .int (xs (i + 1).toNatClampNeg), .ref 1]) rfl ?_
  refine hR_ialX rfl (lx hi (c := 2) (m := 2) rfl (by omega) (by omega)) ?_
  refine hR_go 4 (pc1 := 585) (L1 := [some (.ref 0), some (.ref 1), some (.ref 153), some (.int i)]) (st1 := [.int (i + 3), .ref 0, .int (xs (i + 2).toNatClampNeg), .int (xs (i + 1).toNatClampNeg), .ref 1]) rfl ?_
  refine hR_ialX rfl (lx hi (c := 3) (m := 3) rfl (by omega) (by omega)) ?_
  refine hR_cvI (wX10_holds_s e1) (Nat.le_of_ble_eq_true rfl) rfl rfl rfl rfl rfl ?_
  refine hR_go 6 (pc1 := 595) (L1 := [some (.ref 0), some (.ref 1), some (.ref 153), some (.int i)]) (st1 := [.int (i + 1), .ref 0, .ref 153]) rfl ?_
  refine hR_ialX rfl (lx hi (c := 1) (m := 1) rfl (by omega) (by omega)) ?_
  refine hR_go 4 (pc1 := 600) (L1 := [some (.ref 0), some (.ref 1), some (.ref 153), some (.int i)]) (st1 := [.int (i + 2), .ref 0, .int (xs (i + 1).toNatClampNeg), .ref 153]) rfl ?_
  refine hR_ialX rfl (lx hi (c := 2) (m := 2) rfl (by omega) (by omega)) ?_
  refine hR_go 4 (pc1 := 605) (L1 := [some (.ref 0), some (.ref 1), some (.ref 153), some (.int i)]) (st1 := [.int (i + 3), .ref 0, .int (xs (i + 2).toNatClampNeg), .int (xs (i + 1).toNatClampNeg), .ref 153]) rfl ?_
  refine hR_ialX rfl (lx hi (c := 3) (m := 3) rfl (by omega) (by omega)) ?_
  refine hR_cvI (wX11_holds_s e2) (Nat.le_of_ble_eq_true rfl) rfl rfl rfl rfl rfl ?_
  exact hR_go 2 (pc1 := 1617) (L1 := [some (.ref 0), some (.ref 1), some (.ref 153), some (.int i)]) (st1 := []) rfl hr
theorem lo_11 {i : Int32} {s : wS} (hi : 0 ≤ i.toInt) (hn : i.toInt + 6 ≤ n) (hn2 : n ≤ 3072) (g : JB s) (K : ∀ s2, JB s2 → LK n xs i 1617 s2) : LK n xs i 613 s := by
  obtain ⟨⟨v, s1⟩, e1, p1⟩ := wX10_wrong_T (x1 := xs (i + 1).toNatClampNeg) (x2 := xs (i + 2).toNatClampNeg) (s := s)
  dsimp only at *
  have g1 : JB s1 := (wX10_wrong_J g).get e1
  obtain ⟨⟨v2, s2⟩, e2, p2⟩ := wX11_wrong_T (x1 := xs (i + 1).toNatClampNeg) (x2 := xs (i + 2).toNatClampNeg) (s := s1) g1.1.inv.rq
  dsimp only at *
  have g2 : JB s2 := (wX11_wrong_J g1).get e2
  obtain ⟨rr, hr⟩ := K s2 g2
  refine ⟨rr, ?_⟩
  refine hR_go 5 (pc1 := 618) (L1 := [some (.ref 0), some (.ref 1), some (.ref 153), some (.int i)]) (st1 := [.int (i + 1), .ref 0, .ref 1]) rfl ?_
  refine hR_ialX rfl (lx hi (c := 1) (m := 1) rfl (by omega) (by omega)) ?_
  refine hR_go 4 (pc1 := 623) (L1 := [some (.ref 0), some (.ref 1), some (.ref 153), some (.int i)]) (st1 := [.int (i + 2), .ref 0, .int (xs (i + 1).toNatClampNeg), .ref 1]) rfl ?_
  refine hR_ialX rfl (lx hi (c := 2) (m := 2) rfl (by omega) (by omega)) ?_
  refine hR_cvI (wX10_wrong_s e1) (Nat.le_of_ble_eq_true rfl) rfl rfl rfl rfl rfl ?_
  refine hR_go 6 (pc1 := 633) (L1 := [some (.ref 0), some (.ref 1), some (.ref 153), some (.int i)]) (st1 := [.int (i + 1), .ref 0, .ref 153]) rfl ?_
  refine hR_ialX rfl (lx hi (c := 1) (m := 1) rfl (by omega) (by omega)) ?_
  refine hR_go 4 (pc1 := 638) (L1 := [some (.ref 0), some (.ref 1), some (.ref 153), some (.int i)]) (st1 := [.int (i + 2), .ref 0, .int (xs (i + 1).toNatClampNeg), .ref 153]) rfl ?_
  refine hR_ialX rfl (lx hi (c := 2) (m := 2) rfl (by omega) (by omega)) ?_
  refine hR_cvI (wX11_wrong_s e2) (Nat.le_of_ble_eq_true rfl) rfl rfl rfl rfl rfl ?_
  exact hR_go 2 (pc1 := 1617) (L1 := [some (.ref 0), some (.ref 1), some (.ref 153), some (.int i)]) (st1 := []) rfl hr
theorem lo_12 {i : Int32} {s : wS} (hi : 0 ≤ i.toInt) (hn : i.toInt + 6 ≤ n) (hn2 : n ≤ 3072) (g : JB s) (K : ∀ s2, JB s2 → LK n xs i 1617 s2) : LK n xs i 646 s := by
  obtain ⟨⟨v, s1⟩, e1, p1⟩ := wX10_kept_T (x1 := xs (i + 1).toNatClampNeg) (x2 := xs (i + 2).toNatClampNeg) (s := s)
  dsimp only at *
  have g1 : JB s1 := (wX10_kept_J g).get e1
  obtain ⟨⟨v2, s2⟩, e2, p2⟩ := wX11_kept_T (x1 := xs (i + 1).toNatClampNeg) (x2 := xs (i + 2).toNatClampNeg) (s := s1) g1.1.inv.rq
  dsimp only at *
  have g2 : JB s2 := (wX11_kept_J g1).get e2
  obtain ⟨rr, hr⟩ := K s2 g2
  refine ⟨rr, ?_⟩
  refine hR_go 5 (pc1 := 651) (L1 := [some (.ref 0), some (.ref 1), some (.ref 153), some (.int i)]) (st1 := [.int (i + 1), .ref 0, .ref 1]) rfl ?_
  refine hR_ialX rfl (lx hi (c := 1) (m := 1) rfl (by omega) (by omega)) ?_
  refine hR_go 4 (pc1 := 656) (L1 := [some (.ref 0), some (.ref 1), some (.ref 153), some (.int i)]) (st1 := [.int (i + 2), .ref 0, .int (xs (i + 1).toNatClampNeg), .ref 1]) rfl ?_
  refine hR_ialX rfl (lx hi (c := 2) (m := 2) rfl (by omega) (by omega)) ?_
  refine hR_cvI (wX10_kept_s e1) (Nat.le_of_ble_eq_true rfl) rfl rfl rfl rfl rfl ?_
  refine hR_go 6 (pc1 := 666) (L1 := [some (.ref 0), some (.ref 1), some (.ref 153), some (.int i)]) (st1 := [.int (i + 1), .ref 0, .ref 153]) rfl ?_
  refine hR_ialX rfl (lx hi (c := 1) (m := 1) rfl (by omega) (by omega)) ?_
  refine hR_go 4 (pc1 := 671) (L1 := [some (.ref 0), some (.ref 1), some (.ref 153), some (.int i)]) (st1 := [.int (i + 2), .ref 0, .int (xs (i + 1).toNatClampNeg), .ref 153]) rfl ?_
  refine hR_ialX rfl (lx hi (c := 2) (m := 2) rfl (by omega) (by omega)) ?_
  refine hR_cvI (wX11_kept_s e2) (Nat.le_of_ble_eq_true rfl) rfl rfl rfl rfl rfl ?_
  exact hR_go 2 (pc1 := 1617) (L1 := [some (.ref 0), some (.ref 1), some (.ref 153), some (.int i)]) (st1 := []) rfl hr
theorem lo_13 {i : Int32} {s : wS} (hi : 0 ≤ i.toInt) (hn : i.toInt + 6 ≤ n) (hn2 : n ≤ 3072) (g : JB s) (K : ∀ s2, JB s2 → LK n xs i 1617 s2) : LK n xs i 679 s := by
  obtain ⟨⟨v, s1⟩, e1, p1⟩ := wX10_world_T (x1 := xs (i + 1).toNatClampNeg) (x2 := xs (i + 2).toNatClampNeg) (x3 := xs (i + 3).toNatClampNeg) (s := s)
  dsimp only at *
  have g1 : JB s1 := (wX10_world_J g).get e1
  obtain ⟨⟨v2, s2⟩, e2, p2⟩ := wX11_world_T (x1 := xs (i + 1).toNatClampNeg) (x2 := xs (i + 2).toNatClampNeg) (x3 := xs (i + 3).toNatClampNeg) (s := s1) g1.1.inv.rq
  dsimp only at *
  have g2 : JB s2 := (wX11_world_J g1).get e2
  obtain ⟨rr, hr⟩ := K s2 g2
  refine ⟨rr, ?_⟩
  refine hR_go 5 (pc1 := 684) (L1 := [some (.ref 0), some (.ref 1), some (.ref 153), some (.int i)]) (st1 := [.int (i + 1), .ref 0, .ref 1]) rfl ?_
  refine hR_ialX rfl (lx hi (c := 1) (m := 1) rfl (by omega) (by omega)) ?_
  refine hR_go 4 (pc1 := 689) (L1 := [some (.ref 0), some (.ref 1), some (.ref 153), some (.int i)]) (st1 := [.int (i + 2), .ref 0, .int (xs (i + 1).toNatClampNeg), .ref 1]) rfl ?_
  refine hR_ialX rfl (lx hi (c := 2) (m := 2) rfl (by omega) (by omega)) ?_
  refine hR_go 4 (pc1 := 694) (L1 := [some (.ref 0), some (.ref 1), some (.ref 153), some (.int i)]) (st1 := [.int (i + 3), .ref 0, .int (xs (i + 2).toNatClampNeg), .int (xs (i + 1).toNatClampNeg), .ref 1]) rfl ?_
  refine hR_ialX rfl (lx hi (c := 3) (m := 3) rfl (by omega) (by omega)) ?_
  refine hR_cvI (wX10_world_s e1) (Nat.le_of_ble_eq_true rfl) rfl rfl rfl rfl rfl ?_
  refine hR_go 6 (pc1 := 704) (L1 := [some (.ref 0), some (.ref 1), some (.ref 153), some (.int i)]) (st1 := [.int (i + 1), .ref 0, .ref 153]) rfl ?_
  refine hR_ialX rfl (lx hi (c := 1) (m := 1) rfl (by omega) (by omega)) ?_
  refine hR_go 4 (pc1 := 709) (L1 := [some (.ref 0), some (.ref 1), some (.ref 153), some (.int i)]) (st1 := [.int (i + 2), .ref 0, .int (xs (i + 1).toNatClampNeg), .ref 153]) rfl ?_
  refine hR_ialX rfl (lx hi (c := 2) (m := 2) rfl (by omega) (by omega)) ?_
  refine hR_go 4 (pc1 := 714) (L1 := [some (.ref 0), some (.ref 1), some (.ref 153), some (.int i)]) (st1 := [.int (i + 3), .ref 0, .int (xs (i + 2).toNatClampNeg), .int (xs (i + 1).toNatClampNeg), .ref 153]) rfl ?_
  refine hR_ialX rfl (lx hi (c := 3) (m := 3) rfl (by omega) (by omega)) ?_
  refine hR_cvI (wX11_world_s e2) (Nat.le_of_ble_eq_true rfl) rfl rfl rfl rfl rfl ?_
  exact hR_go 2 (pc1 := 1617) (L1 := [some (.ref 0), some (.ref 1), some (.ref 153), some (.int i)]) (st1 := []) rfl hr
theorem lo_14 {i : Int32} {s : wS} (hi : 0 ≤ i.toInt) (hn : i.toInt + 6 ≤ n) (hn2 : n ≤ 3072) (g : JB s) (K : ∀ s2, JB s2 → LK n xs i 1617 s2) : LK n xs i 722 s := by
  obtain ⟨⟨v, s1⟩, e1, p1⟩ := wX10_may_T (x1 := xs (i + 1).toNatClampNeg) (x2 := xs (i + 2).toNatClampNeg) (x3 := xs (i + 3).toNatClampNeg) (x4 := xs (i + 4).toNatClampNeg) (s := s)
  dsimp only at *
  have g1 : JB s1 := (wX10_may_J g).get e1
  obtain ⟨⟨v2, s2⟩, e2, p2⟩ := wX11_may_T (x1 := xs (i + 1).toNatClampNeg) (x2 := xs (i + 2).toNatClampNeg) (x3 := xs (i + 3).toNatClampNeg) (x4 := xs (i + 4).toNatClampNeg) (s := s1) g1.1.inv.rq
  dsimp only at *
  have g2 : JB s2 := (wX11_may_J g1).get e2
  obtain ⟨rr, hr⟩ := K s2 g2
  refine ⟨rr, ?_⟩
  refine hR_go 5 (pc1 := 727) (L1 := [some (.ref 0), some (.ref 1), some (.ref 153), some (.int i)]) (st1 := [.int (i + 1), .ref 0, .ref 1]) rfl ?_
  refine hR_ialX rfl (lx hi (c := 1) (m := 1) rfl (by omega) (by omega)) ?_
  refine hR_go 4 (pc1 := 732) (L1 := [some (.ref 0), some (.ref 1), some (.ref 153), some (.int i)]) (st1 := [.int (i + 2), .ref 0, .int (xs (i + 1).toNatClampNeg), .ref 1]) rfl ?_
  refine hR_ialX rfl (lx hi (c := 2) (m := 2) rfl (by omega) (by omega)) ?_
  refine hR_go 4 (pc1 := 737) (L1 := [some (.ref 0), some (.ref 1), some (.ref 153), some (.int i)]) (st1 := [.int (i + 3), .ref 0, .int (xs (i + 2).toNatClampNeg), .int (xs (i + 1).toNatClampNeg), .ref 1]) rfl ?_
  refine hR_ialX rfl (lx hi (c := 3) (m := 3) rfl (by omega) (by omega)) ?_
  refine hR_go 4 (pc1 := 742) (L1 := [some (.ref 0), some (.ref 1), some (.ref 153), some (.int i)]) (st1 := [.int (i + 4), .ref 0, .int (xs (i + 3).toNatClampNeg), .int (xs (i + 2).toNatClampNeg), .int (xs (i + 1).toNatClampNeg), .ref 1]) rfl ?_
  refine hR_ialX rfl (lx hi (c := 4) (m := 4) rfl (by omega) (by omega)) ?_
  refine hR_cvI (wX10_may_s e1) (Nat.le_of_ble_eq_true rfl) rfl rfl rfl rfl rfl ?_
  refine hR_go 6 (pc1 := 752) (L1 := [some (.ref 0), some (.ref 1), some (.ref 153), some (.int i)]) (st1 := [.int (i + 1), .ref 0, .ref 153]) rfl ?_
  refine hR_ialX rfl (lx hi (c := 1) (m := 1) rfl (by omega) (by omega)) ?_
  refine hR_go 4 (pc1 := 757) (L1 := [some (.ref 0), some (.ref 1), some (.ref 153), some (.int i)]) (st1 := [.int (i + 2), .ref 0, .int (xs (i + 1).toNatClampNeg), .ref 153]) rfl ?_
  refine hR_ialX rfl (lx hi (c := 2) (m := 2) rfl (by omega) (by omega)) ?_
  refine hR_go 4 (pc1 := 762) (L1 := [some (.ref 0), some (.ref 1), some (.ref 153), some (.int i)]) (st1 := [.int (i + 3), .ref 0, .int (xs (i + 2).toNatClampNeg), .int (xs (i + 1).toNatClampNeg), .ref 153]) rfl ?_
  refine hR_ialX rfl (lx hi (c := 3) (m := 3) rfl (by omega) (by omega)) ?_
  refine hR_go 4 (pc1 := 767) (L1 := [some (.ref 0), some (.ref 1), some (.ref 153), some (.int i)]) (st1 := [.int (i + 4), .ref 0, .int (xs (i + 3).toNatClampNeg), .int (xs (i + 2).toNatClampNeg), .int (xs (i + 1).toNatClampNeg), .ref 153]) rfl ?_
  refine hR_ialX rfl (lx hi (c := 4) (m := 4) rfl (by omega) (by omega)) ?_
  refine hR_cvI (wX11_may_s e2) (Nat.le_of_ble_eq_true rfl) rfl rfl rfl rfl rfl ?_
  exact hR_go 2 (pc1 := 1617) (L1 := [some (.ref 0), some (.ref 1), some (.ref 153), some (.int i)]) (st1 := []) rfl hr
theorem lo_15 {i : Int32} {s : wS} (hi : 0 ≤ i.toInt) (hn : i.toInt + 6 ≤ n) (hn2 : n ≤ 3072) (g : JB s) (K : ∀ s2, JB s2 → LK n xs i 1617 s2) : LK n xs i 775 s := by
  obtain ⟨⟨v, s1⟩, e1, p1⟩ := wX10_cleared_T (x1 := xs (i + 1).toNatClampNeg) (x2 := xs (i + 2).toNatClampNeg) (s := s)
  dsimp only at *
  have g1 : JB s1 := (wX10_cleared_J g).get e1
  obtain ⟨⟨v2, s2⟩, e2, p2⟩ := wX11_cleared_T (x1 := xs (i + 1).toNatClampNeg) (x2 := xs (i + 2).toNatClampNeg) (s := s1) g1.1.inv.rq
  dsimp only at *
  have g2 : JB s2 := (wX11_cleared_J g1).get e2
  obtain ⟨rr, hr⟩ := K s2 g2
  refine ⟨rr, ?_⟩
  refine hR_go 5 (pc1 := 780) (L1 := [some (.ref 0), some (.ref 1), some (.ref 153), some (.int i)]) (st1 := [.int (i + 1), .ref 0, .ref 1]) rfl ?_
  refine hR_ialX rfl (lx hi (c := 1) (m := 1) rfl (by omega) (by omega)) ?_
  refine hR_go 4 (pc1 := 785) (L1 := [some (.ref 0), some (.ref 1), some (.ref 153), some (.int i)]) (st1 := [.int (i + 2), .ref 0, .int (xs (i + 1).toNatClampNeg), .ref 1]) rfl ?_
  refine hR_ialX rfl (lx hi (c := 2) (m := 2) rfl (by omega) (by omega)) ?_
  refine hR_cvI (wX10_cleared_s e1) (Nat.le_of_ble_eq_true rfl) rfl rfl rfl rfl rfl ?_
  refine hR_go 6 (pc1 := 795) (L1 := [some (.ref 0), some (.ref 1), some (.ref 153), some (.int i)]) (st1 := [.int (i + 1), .ref 0, .ref 153]) rfl ?_
  refine hR_ialX rfl (lx hi (c := 1) (m := 1) rfl (by omega) (by omega)) ?_
  refine hR_go 4 (pc1 := 800) (L1 := [some (.ref 0), some (.ref 1), some (.ref 153), some (.int i)]) (st1 := [.int (i + 2), .ref 0, .int (xs (i + 1).toNatClampNeg), .ref 153]) rfl ?_
  refine hR_ialX rfl (lx hi (c := 2) (m := 2) rfl (by omega) (by omega)) ?_
  refine hR_cvI (wX11_cleared_s e2) (Nat.le_of_ble_eq_true rfl) rfl rfl rfl rfl rfl ?_
  exact hR_go 2 (pc1 := 1617) (L1 := [some (.ref 0), some (.ref 1), some (.ref 153), some (.int i)]) (st1 := []) rfl hr
theorem lo_16 {i : Int32} {s : wS} (hi : 0 ≤ i.toInt) (hn : i.toInt + 6 ≤ n) (hn2 : n ≤ 3072) (g : JB s) (K : ∀ s2, JB s2 → LK n xs i 1617 s2) : LK n xs i 808 s := by
  obtain ⟨⟨v, s1⟩, e1, p1⟩ := wX10_fewest_T (x1 := xs (i + 1).toNatClampNeg) (x2 := xs (i + 2).toNatClampNeg) (s := s)
  dsimp only at *
  have g1 : JB s1 := (wX10_fewest_J g).get e1
  obtain ⟨⟨v2, s2⟩, e2, p2⟩ := wX11_fewest_T (x1 := xs (i + 1).toNatClampNeg) (x2 := xs (i + 2).toNatClampNeg) (s := s1) g1.1.inv.rq
  dsimp only at *
  have g2 : JB s2 := (wX11_fewest_J g1).get e2
  obtain ⟨rr, hr⟩ := K s2 g2
  refine ⟨rr, ?_⟩
  refine hR_go 5 (pc1 := 813) (L1 := [some (.ref 0), some (.ref 1), some (.ref 153), some (.int i)]) (st1 := [.int (i + 1), .ref 0, .ref 1]) rfl ?_
  refine hR_ialX rfl (lx hi (c := 1) (m := 1) rfl (by omega) (by omega)) ?_
  refine hR_go 4 (pc1 := 818) (L1 := [some (.ref 0), some (.ref 1), some (.ref 153), some (.int i)]) (st1 := [.int (i + 2), .ref 0, .int (xs (i + 1).toNatClampNeg), .ref 1]) rfl ?_
  refine hR_ialX rfl (lx hi (c := 2) (m := 2) rfl (by omega) (by omega)) ?_
  refine hR_cvI (wX10_fewest_s e1) (Nat.le_of_ble_eq_true rfl) rfl rfl rfl rfl rfl ?_
  refine hR_go 6 (pc1 := 828) (L1 := [some (.ref 0), some (.ref 1), some (.ref 153), some (.int i)]) (st1 := [.int (i + 1), .ref 0, .ref 153]) rfl ?_
  refine hR_ialX rfl (lx hi (c := 1) (m := 1) rfl (by omega) (by omega)) ?_
  refine hR_go 4 (pc1 := 833) (L1 := [some (.ref 0), some (.ref 1), some (.ref 153), some (.int i)]) (st1 := [.int (i + 2), .ref 0, .int (xs (i + 1).toNatClampNeg), .ref 153]) rfl ?_
  refine hR_ialX rfl (lx hi (c := 2) (m := 2) rfl (by omega) (by omega)) ?_
  refine hR_cvI (wX11_fewest_s e2) (Nat.le_of_ble_eq_true rfl) rfl rfl rfl rfl rfl ?_
  exact hR_go 2 (pc1 := 1617) (L1 := [some (.ref 0), some (.ref 1), some (.ref 153), some (.int i)]) (st1 := []) rfl hr
theorem lo_17 {i : Int32} {s : wS} (hi : 0 ≤ i.toInt) (hn : i.toInt + 6 ≤ n) (hn2 : n ≤ 3072) (g : JB s) (K : ∀ s2, JB s2 → LK n xs i 1617 s2) : LK n xs i 841 s := by
  obtain ⟨⟨v, s1⟩, e1, p1⟩ := wX10_falseOnes_T (x1 := xs (i + 1).toNatClampNeg) (s := s)
  dsimp only at *
  have g1 : JB s1 := (wX10_falseOnes_J g).get e1
  obtain ⟨⟨v2, s2⟩, e2, p2⟩ := wX11_falseOnes_T (x1 := xs (i + 1).toNatClampNeg) (s := s1) g1.1.inv.rq
  dsimp only at *
  have g2 : JB s2 := (wX11_falseOnes_J g1).get e2
  obtain ⟨rr, hr⟩ := K s2 g2
  refine ⟨rr, ?_⟩
  refine hR_go 5 (pc1 := 846) (L1 := [some (.ref 0), some (.ref 1), some (.ref 153), some (.int i)]) (st1 := [.int (i + 1), .ref 0, .ref 1]) rfl ?_
  refine hR_ialX rfl (lx hi (c := 1) (m := 1) rfl (by omega) (by omega)) ?_
  refine hR_cvL (wX10_falseOnes_s e1) (Nat.le_of_ble_eq_true rfl) rfl rfl rfl rfl rfl ?_
  refine hR_pop2 (by decide +kernel) ?_
  refine hR_go 5 (pc1 := 856) (L1 := [some (.ref 0), some (.ref 1), some (.ref 153), some (.int i)]) (st1 := [.int (i + 1), .ref 0, .ref 153]) rfl ?_
  refine hR_ialX rfl (lx hi (c := 1) (m := 1) rfl (by omega) (by omega)) ?_
  refine hR_cvL (wX11_falseOnes_s e2) (Nat.le_of_ble_eq_true rfl) rfl rfl rfl rfl rfl ?_
  refine hR_pop2 (by decide +kernel) ?_
  exact hR_go 1 (pc1 := 1617) (L1 := [some (.ref 0), some (.ref 1), some (.ref 153), some (.int i)]) (st1 := []) rfl hr
theorem lo_18 {i : Int32} {s : wS} (hi : 0 ≤ i.toInt) (hn : i.toInt + 6 ≤ n) (hn2 : n ≤ 3072) (g : JB s) (K : ∀ s2, JB s2 → LK n xs i 1617 s2) : LK n xs i 864 s := by
  obtain ⟨⟨v, s1⟩, e1, p1⟩ := wX10_liars_T (x1 := xs (i + 1).toNatClampNeg) (s := s)
  dsimp only at *
  have g1 : JB s1 := (wX10_liars_J g).get e1
  obtain ⟨⟨v2, s2⟩, e2, p2⟩ := wX11_liars_T (x1 := xs (i + 1).toNatClampNeg) (s := s1) g1.1.inv.rq
  dsimp only at *
  have g2 : JB s2 := (wX11_liars_J g1).get e2
  obtain ⟨rr, hr⟩ := K s2 g2
  refine ⟨rr, ?_⟩
  refine hR_go 5 (pc1 := 869) (L1 := [some (.ref 0), some (.ref 1), some (.ref 153), some (.int i)]) (st1 := [.int (i + 1), .ref 0, .ref 1]) rfl ?_
  refine hR_ialX rfl (lx hi (c := 1) (m := 1) rfl (by omega) (by omega)) ?_
  refine hR_cvI (wX10_liars_s e1) (Nat.le_of_ble_eq_true rfl) rfl rfl rfl rfl rfl ?_
  refine hR_go 6 (pc1 := 879) (L1 := [some (.ref 0), some (.ref 1), some (.ref 153), some (.int i)]) (st1 := [.int (i + 1), .ref 0, .ref 153]) rfl ?_
  refine hR_ialX rfl (lx hi (c := 1) (m := 1) rfl (by omega) (by omega)) ?_
  refine hR_cvI (wX11_liars_s e2) (Nat.le_of_ble_eq_true rfl) rfl rfl rfl rfl rfl ?_
  exact hR_go 2 (pc1 := 1617) (L1 := [some (.ref 0), some (.ref 1), some (.ref 153), some (.int i)]) (st1 := []) rfl hr
theorem lo_19 {i : Int32} {s : wS} (hi : 0 ≤ i.toInt) (hn : i.toInt + 6 ≤ n) (hn2 : n ≤ 3072) (g : JB s) (K : ∀ s2, JB s2 → LK n xs i 1617 s2) : LK n xs i 887 s := by
  obtain ⟨⟨v, s1⟩, e1, p1⟩ := wX10_quarrel_T (x1 := xs (i + 1).toNatClampNeg) (s := s)
  dsimp only at *
  have g1 : JB s1 := (wX10_quarrel_J g).get e1
  obtain ⟨⟨v2, s2⟩, e2, p2⟩ := wX11_quarrel_T (x1 := xs (i + 1).toNatClampNeg) (s := s1) g1.1.inv.rq
  dsimp only at *
  have g2 : JB s2 := (wX11_quarrel_J g1).get e2
  obtain ⟨rr, hr⟩ := K s2 g2
  refine ⟨rr, ?_⟩
  refine hR_go 5 (pc1 := 892) (L1 := [some (.ref 0), some (.ref 1), some (.ref 153), some (.int i)]) (st1 := [.int (i + 1), .ref 0, .ref 1]) rfl ?_
  refine hR_ialX rfl (lx hi (c := 1) (m := 1) rfl (by omega) (by omega)) ?_
  refine hR_cvI (wX10_quarrel_s e1) (Nat.le_of_ble_eq_true rfl) rfl rfl rfl rfl rfl ?_
  refine hR_go 6 (pc1 := 902) (L1 := [some (.ref 0), some (.ref 1), some (.ref 153), some (.int i)]) (st1 := [.int (i + 1), .ref 0, .ref 153]) rfl ?_
  refine hR_ialX rfl (lx hi (c := 1) (m := 1) rfl (by omega) (by omega)) ?_
  refine hR_cvI (wX11_quarrel_s e2) (Nat.le_of_ble_eq_true rfl) rfl rfl rfl rfl rfl ?_
  exact hR_go 2 (pc1 := 1617) (L1 := [some (.ref 0), some (.ref 1), some (.ref 153), some (.int i)]) (st1 := []) rfl hr
theorem lo_20 {i : Int32} {s : wS} (hi : 0 ≤ i.toInt) (hn : i.toInt + 6 ≤ n) (hn2 : n ≤ 3072) (g : JB s) (K : ∀ s2, JB s2 → LK n xs i 1617 s2) : LK n xs i 910 s := by
  obtain ⟨v, s1, v2, s2, e1, e2, hvv⟩ := op_proof (x1 := xs (i + 1).toNatClampNeg) (x2 := xs (i + 2).toNatClampNeg) g
  have g1 : JB s1 := (wX10_proof_J g).get e1
  have g2 : JB s2 := (wX11_proof_J g1).get e2
  obtain ⟨rr, hr⟩ := K s2 g2
  refine ⟨rr, ?_⟩
  refine hR_go 5 (pc1 := 915) (L1 := [some (.ref 0), some (.ref 1), some (.ref 153), some (.int i)]) (st1 := [.int (i + 1), .ref 0, .ref 1]) rfl ?_
  refine hR_ialX rfl (lx hi (c := 1) (m := 1) rfl (by omega) (by omega)) ?_
  refine hR_go 4 (pc1 := 920) (L1 := [some (.ref 0), some (.ref 1), some (.ref 153), some (.int i)]) (st1 := [.int (i + 2), .ref 0, .int (xs (i + 1).toNatClampNeg), .ref 1]) rfl ?_
  refine hR_ialX rfl (lx hi (c := 2) (m := 2) rfl (by omega) (by omega)) ?_
  refine hR_cvI (wX10_proof_s e1) (Nat.le_of_ble_eq_true rfl) rfl rfl rfl rfl rfl ?_
  refine hR_go 5 (pc1 := 929) (L1 := [some (.ref 0), some (.ref 1), some (.ref 153), some (.int i)]) (st1 := [.int (i + 1), .ref 0, .ref 153, .int v]) rfl ?_
  refine hR_ialX rfl (lx hi (c := 1) (m := 1) rfl (by omega) (by omega)) ?_
  refine hR_go 4 (pc1 := 934) (L1 := [some (.ref 0), some (.ref 1), some (.ref 153), some (.int i)]) (st1 := [.int (i + 2), .ref 0, .int (xs (i + 1).toNatClampNeg), .ref 153, .int v]) rfl ?_
  refine hR_ialX rfl (lx hi (c := 2) (m := 2) rfl (by omega) (by omega)) ?_
  refine hR_cvI (wX11_proof_s e2) (Nat.le_of_ble_eq_true rfl) rfl rfl rfl rfl rfl ?_
  exact hR_ic_eq_j (t := 1617) rfl hvv rfl hr
theorem lo_21 {i : Int32} {s : wS} (hi : 0 ≤ i.toInt) (hn : i.toInt + 6 ≤ n) (hn2 : n ≤ 3072) (g : JB s) (K : ∀ s2, JB s2 → LK n xs i 1617 s2) : LK n xs i 943 s := by
  obtain ⟨⟨v, s1⟩, e1, p1⟩ := wX10_byLaws_T (x1 := xs (i + 1).toNatClampNeg) (x2 := xs (i + 2).toNatClampNeg) (x3 := xs (i + 3).toNatClampNeg) (s := s)
  dsimp only at *
  have g1 : JB s1 := (wX10_byLaws_J g).get e1
  obtain ⟨⟨v2, s2⟩, e2, p2⟩ := wX11_byLaws_T (x1 := xs (i + 1).toNatClampNeg) (x2 := xs (i + 2).toNatClampNeg) (x3 := xs (i + 3).toNatClampNeg) (s := s1) g1.1.inv.rq
  dsimp only at *
  have g2 : JB s2 := (wX11_byLaws_J g1).get e2
  obtain ⟨rr, hr⟩ := K s2 g2
  refine ⟨rr, ?_⟩
  refine hR_go 5 (pc1 := 948) (L1 := [some (.ref 0), some (.ref 1), some (.ref 153), some (.int i)]) (st1 := [.int (i + 1), .ref 0, .ref 1]) rfl ?_
  refine hR_ialX rfl (lx hi (c := 1) (m := 1) rfl (by omega) (by omega)) ?_
  refine hR_go 4 (pc1 := 953) (L1 := [some (.ref 0), some (.ref 1), some (.ref 153), some (.int i)]) (st1 := [.int (i + 2), .ref 0, .int (xs (i + 1).toNatClampNeg), .ref 1]) rfl ?_
  refine hR_ialX rfl (lx hi (c := 2) (m := 2) rfl (by omega) (by omega)) ?_
  refine hR_go 4 (pc1 := 958) (L1 := [some (.ref 0), some (.ref 1), some (.ref 153), some (.int i)]) (st1 := [.int (i + 3), .ref 0, .int (xs (i + 2).toNatClampNeg), .int (xs (i + 1).toNatClampNeg), .ref 1]) rfl ?_
  refine hR_ialX rfl (lx hi (c := 3) (m := 3) rfl (by omega) (by omega)) ?_
  refine hR_cvI (wX10_byLaws_s e1) (Nat.le_of_ble_eq_true rfl) rfl rfl rfl rfl rfl ?_
  refine hR_go 6 (pc1 := 968) (L1 := [some (.ref 0), some (.ref 1), some (.ref 153), some (.int i)]) (st1 := [.int (i + 1), .ref 0, .ref 153]) rfl ?_
  refine hR_ialX rfl (lx hi (c := 1) (m := 1) rfl (by omega) (by omega)) ?_
  refine hR_go 4 (pc1 := 973) (L1 := [some (.ref 0), some (.ref 1), some (.ref 153), some (.int i)]) (st1 := [.int (i + 2), .ref 0, .int (xs (i + 1).toNatClampNeg), .ref 153]) rfl ?_
  refine hR_ialX rfl (lx hi (c := 2) (m := 2) rfl (by omega) (by omega)) ?_
  refine hR_go 4 (pc1 := 978) (L1 := [some (.ref 0), some (.ref 1), some (.ref 153), some (.int i)]) (st1 := [.int (i + 3), .ref 0, .int (xs (i + 2).toNatClampNeg), .int (xs (i + 1).toNatClampNeg), .ref 153]) rfl ?_
  refine hR_ialX rfl (lx hi (c := 3) (m := 3) rfl (by omega) (by omega)) ?_
  refine hR_cvI (wX11_byLaws_s e2) (Nat.le_of_ble_eq_true rfl) rfl rfl rfl rfl rfl ?_
  exact hR_go 2 (pc1 := 1617) (L1 := [some (.ref 0), some (.ref 1), some (.ref 153), some (.int i)]) (st1 := []) rfl hr
theorem lo_22 {i : Int32} {s : wS} (hi : 0 ≤ i.toInt) (hn : i.toInt + 6 ≤ n) (hn2 : n ≤ 3072) (g : JB s) (K : ∀ s2, JB s2 → LK n xs i 1617 s2) : LK n xs i 986 s := by
  obtain ⟨⟨v, s1⟩, e1, p1⟩ := wX10_looks_T (x1 := xs (i + 1).toNatClampNeg) (x2 := xs (i + 2).toNatClampNeg) (x3 := xs (i + 3).toNatClampNeg) (s := s)
  dsimp only at *
  have g1 : JB s1 := (wX10_looks_J g).get e1
  obtain ⟨⟨v2, s2⟩, e2, p2⟩ := wX11_looks_T (x1 := xs (i + 1).toNatClampNeg) (x2 := xs (i + 2).toNatClampNeg) (x3 := xs (i + 3).toNatClampNeg) (s := s1) g1.1.inv.rq
  dsimp only at *
  have g2 : JB s2 := (wX11_looks_J g1).get e2
  obtain ⟨rr, hr⟩ := K s2 g2
  refine ⟨rr, ?_⟩
  refine hR_go 5 (pc1 := 991) (L1 := [some (.ref 0), some (.ref 1), some (.ref 153), some (.int i)]) (st1 := [.int (i + 1), .ref 0, .ref 1]) rfl ?_
  refine hR_ialX rfl (lx hi (c := 1) (m := 1) rfl (by omega) (by omega)) ?_
  refine hR_go 4 (pc1 := 996) (L1 := [some (.ref 0), some (.ref 1), some (.ref 153), some (.int i)]) (st1 := [.int (i + 2), .ref 0, .int (xs (i + 1).toNatClampNeg), .ref 1]) rfl ?_
  refine hR_ialX rfl (lx hi (c := 2) (m := 2) rfl (by omega) (by omega)) ?_
  refine hR_go 4 (pc1 := 1001) (L1 := [some (.ref 0), some (.ref 1), some (.ref 153), some (.int i)]) (st1 := [.int (i + 3), .ref 0, .int (xs (i + 2).toNatClampNeg), .int (xs (i + 1).toNatClampNeg), .ref 1]) rfl ?_
  refine hR_ialX rfl (lx hi (c := 3) (m := 3) rfl (by omega) (by omega)) ?_
  refine hR_cvI (wX10_looks_s e1) (Nat.le_of_ble_eq_true rfl) rfl rfl rfl rfl rfl ?_
  refine hR_go 6 (pc1 := 1011) (L1 := [some (.ref 0), some (.ref 1), some (.ref 153), some (.int i)]) (st1 := [.int (i + 1), .ref 0, .ref 153]) rfl ?_
  refine hR_ialX rfl (lx hi (c := 1) (m := 1) rfl (by omega) (by omega)) ?_
  refine hR_go 4 (pc1 := 1016) (L1 := [some (.ref 0), some (.ref 1), some (.ref 153), some (.int i)]) (st1 := [.int (i + 2), .ref 0, .int (xs (i + 1).toNatClampNeg), .ref 153]) rfl ?_
  refine hR_ialX rfl (lx hi (c := 2) (m := 2) rfl (by omega) (by omega)) ?_
  refine hR_go 4 (pc1 := 1021) (L1 := [some (.ref 0), some (.ref 1), some (.ref 153), some (.int i)]) (st1 := [.int (i + 3), .ref 0, .int (xs (i + 2).toNatClampNeg), .int (xs (i + 1).toNatClampNeg), .ref 153]) rfl ?_
  refine hR_ialX rfl (lx hi (c := 3) (m := 3) rfl (by omega) (by omega)) ?_
  refine hR_cvI (wX11_looks_s e2) (Nat.le_of_ble_eq_true rfl) rfl rfl rfl rfl rfl ?_
  exact hR_go 2 (pc1 := 1617) (L1 := [some (.ref 0), some (.ref 1), some (.ref 153), some (.int i)]) (st1 := []) rfl hr
theorem lo_23 {i : Int32} {s : wS} (hi : 0 ≤ i.toInt) (hn : i.toInt + 6 ≤ n) (hn2 : n ≤ 3072) (g : JB s) (K : ∀ s2, JB s2 → LK n xs i 1617 s2) : LK n xs i 1029 s := by
  obtain ⟨⟨v, s1⟩, e1, p1⟩ := wX10_sure_T (x1 := xs (i + 1).toNatClampNeg) (x2 := xs (i + 2).toNatClampNeg) (x3 := xs (i + 3).toNatClampNeg) (s := s)
  dsimp only at *
  have g1 : JB s1 := (wX10_sure_J g).get e1
  obtain ⟨⟨v2, s2⟩, e2, p2⟩ := wX11_sure_T (x1 := xs (i + 1).toNatClampNeg) (x2 := xs (i + 2).toNatClampNeg) (x3 := xs (i + 3).toNatClampNeg) (s := s1) g1.1.inv.rq
  dsimp only at *
  have g2 : JB s2 := (wX11_sure_J g1).get e2
  obtain ⟨rr, hr⟩ := K s2 g2
  refine ⟨rr, ?_⟩
  refine hR_go 5 (pc1 := 1034) (L1 := [some (.ref 0), some (.ref 1), some (.ref 153), some (.int i)]) (st1 := [.int (i + 1), .ref 0, .ref 1]) rfl ?_
  refine hR_ialX rfl (lx hi (c := 1) (m := 1) rfl (by omega) (by omega)) ?_
  refine hR_go 4 (pc1 := 1039) (L1 := [some (.ref 0), some (.ref 1), some (.ref 153), some (.int i)]) (st1 := [.int (i + 2), .ref 0, .int (xs (i + 1).toNatClampNeg), .ref 1]) rfl ?_
  refine hR_ialX rfl (lx hi (c := 2) (m := 2) rfl (by omega) (by omega)) ?_
  refine hR_go 4 (pc1 := 1044) (L1 := [some (.ref 0), some (.ref 1), some (.ref 153), some (.int i)]) (st1 := [.int (i + 3), .ref 0, .int (xs (i + 2).toNatClampNeg), .int (xs (i + 1).toNatClampNeg), .ref 1]) rfl ?_
  refine hR_ialX rfl (lx hi (c := 3) (m := 3) rfl (by omega) (by omega)) ?_
  refine hR_cvI (wX10_sure_s e1) (Nat.le_of_ble_eq_true rfl) rfl rfl rfl rfl rfl ?_
  refine hR_go 6 (pc1 := 1054) (L1 := [some (.ref 0), some (.ref 1), some (.ref 153), some (.int i)]) (st1 := [.int (i + 1), .ref 0, .ref 153]) rfl ?_
  refine hR_ialX rfl (lx hi (c := 1) (m := 1) rfl (by omega) (by omega)) ?_
  refine hR_go 4 (pc1 := 1059) (L1 := [some (.ref 0), some (.ref 1), some (.ref 153), some (.int i)]) (st1 := [.int (i + 2), .ref 0, .int (xs (i + 1).toNatClampNeg), .ref 153]) rfl ?_
  refine hR_ialX rfl (lx hi (c := 2) (m := 2) rfl (by omega) (by omega)) ?_
  refine hR_go 4 (pc1 := 1064) (L1 := [some (.ref 0), some (.ref 1), some (.ref 153), some (.int i)]) (st1 := [.int (i + 3), .ref 0, .int (xs (i + 2).toNatClampNeg), .int (xs (i + 1).toNatClampNeg), .ref 153]) rfl ?_
  refine hR_ialX rfl (lx hi (c := 3) (m := 3) rfl (by omega) (by omega)) ?_
  refine hR_cvI (wX11_sure_s e2) (Nat.le_of_ble_eq_true rfl) rfl rfl rfl rfl rfl ?_
  exact hR_go 2 (pc1 := 1617) (L1 := [some (.ref 0), some (.ref 1), some (.ref 153), some (.int i)]) (st1 := []) rfl hr
theorem lo_24 {i : Int32} {s : wS} (hi : 0 ≤ i.toInt) (hn : i.toInt + 6 ≤ n) (hn2 : n ≤ 3072) (g : JB s) (K : ∀ s2, JB s2 → LK n xs i 1617 s2) : LK n xs i 1072 s := by
  obtain ⟨⟨v, s1⟩, e1, p1⟩ := wX10_alone_T (x1 := xs (i + 1).toNatClampNeg) (x2 := xs (i + 2).toNatClampNeg) (s := s)
  dsimp only at *
  have g1 : JB s1 := (wX10_alone_J g).get e1
  obtain ⟨⟨v2, s2⟩, e2, p2⟩ := wX11_alone_T (x1 := xs (i + 1).toNatClampNeg) (x2 := xs (i + 2).toNatClampNeg) (s := s1) g1.1.inv.rq
  dsimp only at *
  have g2 : JB s2 := (wX11_alone_J g1).get e2
  obtain ⟨rr, hr⟩ := K s2 g2
  refine ⟨rr, ?_⟩
  refine hR_go 5 (pc1 := 1077) (L1 := [some (.ref 0), some (.ref 1), some (.ref 153), some (.int i)]) (st1 := [.int (i + 1), .ref 0, .ref 1]) rfl ?_
  refine hR_ialX rfl (lx hi (c := 1) (m := 1) rfl (by omega) (by omega)) ?_
  refine hR_go 4 (pc1 := 1082) (L1 := [some (.ref 0), some (.ref 1), some (.ref 153), some (.int i)]) (st1 := [.int (i + 2), .ref 0, .int (xs (i + 1).toNatClampNeg), .ref 1]) rfl ?_
  refine hR_ialX rfl (lx hi (c := 2) (m := 2) rfl (by omega) (by omega)) ?_
  refine hR_cvI (wX10_alone_s e1) (Nat.le_of_ble_eq_true rfl) rfl rfl rfl rfl rfl ?_
  refine hR_go 6 (pc1 := 1092) (L1 := [some (.ref 0), some (.ref 1), some (.ref 153), some (.int i)]) (st1 := [.int (i + 1), .ref 0, .ref 153]) rfl ?_
  refine hR_ialX rfl (lx hi (c := 1) (m := 1) rfl (by omega) (by omega)) ?_
  refine hR_go 4 (pc1 := 1097) (L1 := [some (.ref 0), some (.ref 1), some (.ref 153), some (.int i)]) (st1 := [.int (i + 2), .ref 0, .int (xs (i + 1).toNatClampNeg), .ref 153]) rfl ?_
  refine hR_ialX rfl (lx hi (c := 2) (m := 2) rfl (by omega) (by omega)) ?_
  refine hR_cvI (wX11_alone_s e2) (Nat.le_of_ble_eq_true rfl) rfl rfl rfl rfl rfl ?_
  exact hR_go 2 (pc1 := 1617) (L1 := [some (.ref 0), some (.ref 1), some (.ref 153), some (.int i)]) (st1 := []) rfl hr
theorem lo_25 {i : Int32} {s : wS} (hi : 0 ≤ i.toInt) (hn : i.toInt + 6 ≤ n) (hn2 : n ≤ 3072) (g : JB s) (K : ∀ s2, JB s2 → LK n xs i 1617 s2) : LK n xs i 1105 s := by
  obtain ⟨⟨v, s1⟩, e1, p1⟩ := wX10_mean_T (x1 := xs (i + 1).toNatClampNeg) (x2 := xs (i + 2).toNatClampNeg) (x3 := xs (i + 3).toNatClampNeg) (s := s)
  dsimp only at *
  have g1 : JB s1 := (wX10_mean_J g).get e1
  obtain ⟨⟨v2, s2⟩, e2, p2⟩ := wX11_mean_T (x1 := xs (i + 1).toNatClampNeg) (x2 := xs (i + 2).toNatClampNeg) (x3 := xs (i + 3).toNatClampNeg) (s := s1) g1.1.inv.rq
  dsimp only at *
  have g2 : JB s2 := (wX11_mean_J g1).get e2
  obtain ⟨rr, hr⟩ := K s2 g2
  refine ⟨rr, ?_⟩
  refine hR_go 5 (pc1 := 1110) (L1 := [some (.ref 0), some (.ref 1), some (.ref 153), some (.int i)]) (st1 := [.int (i + 1), .ref 0, .ref 1]) rfl ?_
  refine hR_ialX rfl (lx hi (c := 1) (m := 1) rfl (by omega) (by omega)) ?_
  refine hR_go 4 (pc1 := 1115) (L1 := [some (.ref 0), some (.ref 1), some (.ref 153), some (.int i)]) (st1 := [.int (i + 2), .ref 0, .int (xs (i + 1).toNatClampNeg), .ref 1]) rfl ?_
  refine hR_ialX rfl (lx hi (c := 2) (m := 2) rfl (by omega) (by omega)) ?_
  refine hR_go 4 (pc1 := 1120) (L1 := [some (.ref 0), some (.ref 1), some (.ref 153), some (.int i)]) (st1 := [.int (i + 3), .ref 0, .int (xs (i + 2).toNatClampNeg), .int (xs (i + 1).toNatClampNeg), .ref 1]) rfl ?_
  refine hR_ialX rfl (lx hi (c := 3) (m := 3) rfl (by omega) (by omega)) ?_
  refine hR_cvI (wX10_mean_s e1) (Nat.le_of_ble_eq_true rfl) rfl rfl rfl rfl rfl ?_
  refine hR_go 6 (pc1 := 1130) (L1 := [some (.ref 0), some (.ref 1), some (.ref 153), some (.int i)]) (st1 := [.int (i + 1), .ref 0, .ref 153]) rfl ?_
  refine hR_ialX rfl (lx hi (c := 1) (m := 1) rfl (by omega) (by omega)) ?_
  refine hR_go 4 (pc1 := 1135) (L1 := [some (.ref 0), some (.ref 1), some (.ref 153), some (.int i)]) (st1 := [.int (i + 2), .ref 0, .int (xs (i + 1).toNatClampNeg), .ref 153]) rfl ?_
  refine hR_ialX rfl (lx hi (c := 2) (m := 2) rfl (by omega) (by omega)) ?_
  refine hR_go 4 (pc1 := 1140) (L1 := [some (.ref 0), some (.ref 1), some (.ref 153), some (.int i)]) (st1 := [.int (i + 3), .ref 0, .int (xs (i + 2).toNatClampNeg), .int (xs (i + 1).toNatClampNeg), .ref 153]) rfl ?_
  refine hR_ialX rfl (lx hi (c := 3) (m := 3) rfl (by omega) (by omega)) ?_
  refine hR_cvI (wX11_mean_s e2) (Nat.le_of_ble_eq_true rfl) rfl rfl rfl rfl rfl ?_
  exact hR_go 2 (pc1 := 1617) (L1 := [some (.ref 0), some (.ref 1), some (.ref 153), some (.int i)]) (st1 := []) rfl hr
theorem lo_26 {i : Int32} {s : wS} (hi : 0 ≤ i.toInt) (hn : i.toInt + 6 ≤ n) (hn2 : n ≤ 3072) (g : JB s) (K : ∀ s2, JB s2 → LK n xs i 1617 s2) : LK n xs i 1148 s := by
  obtain ⟨⟨v, s1⟩, e1, p1⟩ := wX10_useful_T (x1 := xs (i + 1).toNatClampNeg) (x2 := xs (i + 2).toNatClampNeg) (x3 := xs (i + 3).toNatClampNeg) (s := s)
  dsimp only at *
  have g1 : JB s1 := (wX10_useful_J g).get e1
  obtain ⟨⟨v2, s2⟩, e2, p2⟩ := wX11_useful_T (x1 := xs (i + 1).toNatClampNeg) (x2 := xs (i + 2).toNatClampNeg) (x3 := xs (i + 3).toNatClampNeg) (s := s1) g1.1.inv.rq
  dsimp only at *
  have g2 : JB s2 := (wX11_useful_J g1).get e2
  obtain ⟨rr, hr⟩ := K s2 g2
  refine ⟨rr, ?_⟩
  refine hR_go 5 (pc1 := 1153) (L1 := [some (.ref 0), some (.ref 1), some (.ref 153), some (.int i)]) (st1 := [.int (i + 1), .ref 0, .ref 1]) rfl ?_
  refine hR_ialX rfl (lx hi (c := 1) (m := 1) rfl (by omega) (by omega)) ?_
  refine hR_go 4 (pc1 := 1158) (L1 := [some (.ref 0), some (.ref 1), some (.ref 153), some (.int i)]) (st1 := [.int (i + 2), .ref 0, .int (xs (i + 1).toNatClampNeg), .ref 1]) rfl ?_
  refine hR_ialX rfl (lx hi (c := 2) (m := 2) rfl (by omega) (by omega)) ?_
  refine hR_go 4 (pc1 := 1163) (L1 := [some (.ref 0), some (.ref 1), some (.ref 153), some (.int i)]) (st1 := [.int (i + 3), .ref 0, .int (xs (i + 2).toNatClampNeg), .int (xs (i + 1).toNatClampNeg), .ref 1]) rfl ?_
  refine hR_ialX rfl (lx hi (c := 3) (m := 3) rfl (by omega) (by omega)) ?_
  refine hR_cvI (wX10_useful_s e1) (Nat.le_of_ble_eq_true rfl) rfl rfl rfl rfl rfl ?_
  refine hR_go 6 (pc1 := 1173) (L1 := [some (.ref 0), some (.ref 1), some (.ref 153), some (.int i)]) (st1 := [.int (i + 1), .ref 0, .ref 153]) rfl ?_
  refine hR_ialX rfl (lx hi (c := 1) (m := 1) rfl (by omega) (by omega)) ?_
  refine hR_go 4 (pc1 := 1178) (L1 := [some (.ref 0), some (.ref 1), some (.ref 153), some (.int i)]) (st1 := [.int (i + 2), .ref 0, .int (xs (i + 1).toNatClampNeg), .ref 153]) rfl ?_
  refine hR_ialX rfl (lx hi (c := 2) (m := 2) rfl (by omega) (by omega)) ?_
  refine hR_go 4 (pc1 := 1183) (L1 := [some (.ref 0), some (.ref 1), some (.ref 153), some (.int i)]) (st1 := [.int (i + 3), .ref 0, .int (xs (i + 2).toNatClampNeg), .int (xs (i + 1).toNatClampNeg), .ref 153]) rfl ?_
  refine hR_ialX rfl (lx hi (c := 3) (m := 3) rfl (by omega) (by omega)) ?_
  refine hR_cvI (wX11_useful_s e2) (Nat.le_of_ble_eq_true rfl) rfl rfl rfl rfl rfl ?_
  exact hR_go 2 (pc1 := 1617) (L1 := [some (.ref 0), some (.ref 1), some (.ref 153), some (.int i)]) (st1 := []) rfl hr
theorem lo_27 {i : Int32} {s : wS} (hi : 0 ≤ i.toInt) (hn : i.toInt + 6 ≤ n) (hn2 : n ≤ 3072) (g : JB s) (K : ∀ s2, JB s2 → LK n xs i 1617 s2) : LK n xs i 1191 s := by
  obtain ⟨⟨v, s1⟩, e1, p1⟩ := wX10_filled_T (x1 := xs (i + 1).toNatClampNeg) (x2 := xs (i + 2).toNatClampNeg) (x3 := xs (i + 3).toNatClampNeg) (s := s)
  dsimp only at *
  have g1 : JB s1 := (wX10_filled_J g).get e1
  obtain ⟨⟨v2, s2⟩, e2, p2⟩ := wX11_filled_T (x1 := xs (i + 1).toNatClampNeg) (x2 := xs (i + 2).toNatClampNeg) (x3 := xs (i + 3).toNatClampNeg) (s := s1) g1.1.inv.rq
  dsimp only at *
  have g2 : JB s2 := (wX11_filled_J g1).get e2
  obtain ⟨rr, hr⟩ := K s2 g2
  refine ⟨rr, ?_⟩
  refine hR_go 5 (pc1 := 1196) (L1 := [some (.ref 0), some (.ref 1), some (.ref 153), some (.int i)]) (st1 := [.int (i + 1), .ref 0, .ref 1]) rfl ?_
  refine hR_ialX rfl (lx hi (c := 1) (m := 1) rfl (by omega) (by omega)) ?_
  refine hR_go 4 (pc1 := 1201) (L1 := [some (.ref 0), some (.ref 1), some (.ref 153), some (.int i)]) (st1 := [.int (i + 2), .ref 0, .int (xs (i + 1).toNatClampNeg), .ref 1]) rfl ?_
  refine hR_ialX rfl (lx hi (c := 2) (m := 2) rfl (by omega) (by omega)) ?_
  refine hR_go 4 (pc1 := 1206) (L1 := [some (.ref 0), some (.ref 1), some (.ref 153), some (.int i)]) (st1 := [.int (i + 3), .ref 0, .int (xs (i + 2).toNatClampNeg), .int (xs (i + 1).toNatClampNeg), .ref 1]) rfl ?_
  refine hR_ialX rfl (lx hi (c := 3) (m := 3) rfl (by omega) (by omega)) ?_
  refine hR_cvI (wX10_filled_s e1) (Nat.le_of_ble_eq_true rfl) rfl rfl rfl rfl rfl ?_
  refine hR_go 6 (pc1 := 1216) (L1 := [some (.ref 0), some (.ref 1), some (.ref 153), some (.int i)]) (st1 := [.int (i + 1), .ref 0, .ref 153]) rfl ?_
  refine hR_ialX rfl (lx hi (c := 1) (m := 1) rfl (by omega) (by omega)) ?_
  refine hR_go 4 (pc1 := 1221) (L1 := [some (.ref 0), some (.ref 1), some (.ref 153), some (.int i)]) (st1 := [.int (i + 2), .ref 0, .int (xs (i + 1).toNatClampNeg), .ref 153]) rfl ?_
  refine hR_ialX rfl (lx hi (c := 2) (m := 2) rfl (by omega) (by omega)) ?_
  refine hR_go 4 (pc1 := 1226) (L1 := [some (.ref 0), some (.ref 1), some (.ref 153), some (.int i)]) (st1 := [.int (i + 3), .ref 0, .int (xs (i + 2).toNatClampNeg), .int (xs (i + 1).toNatClampNeg), .ref 153]) rfl ?_
  refine hR_ialX rfl (lx hi (c := 3) (m := 3) rfl (by omega) (by omega)) ?_
  refine hR_cvI (wX11_filled_s e2) (Nat.le_of_ble_eq_true rfl) rfl rfl rfl rfl rfl ?_
  exact hR_go 2 (pc1 := 1617) (L1 := [some (.ref 0), some (.ref 1), some (.ref 153), some (.int i)]) (st1 := []) rfl hr
theorem lo_28 {i : Int32} {s : wS} (hi : 0 ≤ i.toInt) (hn : i.toInt + 6 ≤ n) (hn2 : n ≤ 3072) (g : JB s) (K : ∀ s2, JB s2 → LK n xs i 1617 s2) : LK n xs i 1234 s := by
  obtain ⟨⟨v, s1⟩, e1, p1⟩ := wX10_next_T (x1 := xs (i + 1).toNatClampNeg) (x2 := xs (i + 2).toNatClampNeg) (x3 := xs (i + 3).toNatClampNeg) (x4 := xs (i + 4).toNatClampNeg) (s := s)
  dsimp only at *
  have g1 : JB s1 := (wX10_next_J g).get e1
  obtain ⟨⟨v2, s2⟩, e2, p2⟩ := wX11_next_T (x1 := xs (i + 1).toNatClampNeg) (x2 := xs (i + 2).toNatClampNeg) (x3 := xs (i + 3).toNatClampNeg) (x4 := xs (i + 4).toNatClampNeg) (s := s1) g1.1.inv.rq
  dsimp only at *
  have g2 : JB s2 := (wX11_next_J g1).get e2
  obtain ⟨rr, hr⟩ := K s2 g2
  refine ⟨rr, ?_⟩
  refine hR_go 5 (pc1 := 1239) (L1 := [some (.ref 0), some (.ref 1), some (.ref 153), some (.int i)]) (st1 := [.int (i + 1), .ref 0, .ref 1]) rfl ?_
  refine hR_ialX rfl (lx hi (c := 1) (m := 1) rfl (by omega) (by omega)) ?_
  refine hR_go 4 (pc1 := 1244) (L1 := [some (.ref 0), some (.ref 1), some (.ref 153), some (.int i)]) (st1 := [.int (i + 2), .ref 0, .int (xs (i + 1).toNatClampNeg), .ref 1]) rfl ?_
  refine hR_ialX rfl (lx hi (c := 2) (m := 2) rfl (by omega) (by omega)) ?_
  refine hR_go 4 (pc1 := 1249) (L1 := [some (.ref 0), some (.ref 1), some (.ref 153), some (.int i)]) (st1 := [.int (i + 3), .ref 0, .int (xs (i + 2).toNatClampNeg), .int (xs (i + 1).toNatClampNeg), .ref 1]) rfl ?_
  refine hR_ialX rfl (lx hi (c := 3) (m := 3) rfl (by omega) (by omega)) ?_
  refine hR_go 4 (pc1 := 1254) (L1 := [some (.ref 0), some (.ref 1), some (.ref 153), some (.int i)]) (st1 := [.int (i + 4), .ref 0, .int (xs (i + 3).toNatClampNeg), .int (xs (i + 2).toNatClampNeg), .int (xs (i + 1).toNatClampNeg), .ref 1]) rfl ?_
  refine hR_ialX rfl (lx hi (c := 4) (m := 4) rfl (by omega) (by omega)) ?_
  refine hR_cvI (wX10_next_s e1) (Nat.le_of_ble_eq_true rfl) rfl rfl rfl rfl rfl ?_
  refine hR_go 6 (pc1 := 1264) (L1 := [some (.ref 0), some (.ref 1), some (.ref 153), some (.int i)]) (st1 := [.int (i + 1), .ref 0, .ref 153]) rfl ?_
  refine hR_ialX rfl (lx hi (c := 1) (m := 1) rfl (by omega) (by omega)) ?_
  refine hR_go 4 (pc1 := 1269) (L1 := [some (.ref 0), some (.ref 1), some (.ref 153), some (.int i)]) (st1 := [.int (i + 2), .ref 0, .int (xs (i + 1).toNatClampNeg), .ref 153]) rfl ?_
  refine hR_ialX rfl (lx hi (c := 2) (m := 2) rfl (by omega) (by omega)) ?_
  refine hR_go 4 (pc1 := 1274) (L1 := [some (.ref 0), some (.ref 1), some (.ref 153), some (.int i)]) (st1 := [.int (i + 3), .ref 0, .int (xs (i + 2).toNatClampNeg), .int (xs (i + 1).toNatClampNeg), .ref 153]) rfl ?_
  refine hR_ialX rfl (lx hi (c := 3) (m := 3) rfl (by omega) (by omega)) ?_
  refine hR_go 4 (pc1 := 1279) (L1 := [some (.ref 0), some (.ref 1), some (.ref 153), some (.int i)]) (st1 := [.int (i + 4), .ref 0, .int (xs (i + 3).toNatClampNeg), .int (xs (i + 2).toNatClampNeg), .int (xs (i + 1).toNatClampNeg), .ref 153]) rfl ?_
  refine hR_ialX rfl (lx hi (c := 4) (m := 4) rfl (by omega) (by omega)) ?_
  refine hR_cvI (wX11_next_s e2) (Nat.le_of_ble_eq_true rfl) rfl rfl rfl rfl rfl ?_
  exact hR_go 2 (pc1 := 1617) (L1 := [some (.ref 0), some (.ref 1), some (.ref 153), some (.int i)]) (st1 := []) rfl hr
theorem lo_29 {i : Int32} {s : wS} (hi : 0 ≤ i.toInt) (hn : i.toInt + 6 ≤ n) (hn2 : n ≤ 3072) (g : JB s) (K : ∀ s2, JB s2 → LK n xs i 1617 s2) : LK n xs i 1287 s := by
  obtain ⟨⟨v, s1⟩, e1, p1⟩ := wX10_needed_T (x1 := xs (i + 1).toNatClampNeg) (x2 := xs (i + 2).toNatClampNeg) (s := s)
  dsimp only at *
  have g1 : JB s1 := (wX10_needed_J g).get e1
  obtain ⟨⟨v2, s2⟩, e2, p2⟩ := wX11_needed_T (x1 := xs (i + 1).toNatClampNeg) (x2 := xs (i + 2).toNatClampNeg) (s := s1) g1.1.inv.rq
  dsimp only at *
  have g2 : JB s2 := (wX11_needed_J g1).get e2
  obtain ⟨rr, hr⟩ := K s2 g2
  refine ⟨rr, ?_⟩
  refine hR_go 5 (pc1 := 1292) (L1 := [some (.ref 0), some (.ref 1), some (.ref 153), some (.int i)]) (st1 := [.int (i + 1), .ref 0, .ref 1]) rfl ?_
  refine hR_ialX rfl (lx hi (c := 1) (m := 1) rfl (by omega) (by omega)) ?_
  refine hR_go 4 (pc1 := 1297) (L1 := [some (.ref 0), some (.ref 1), some (.ref 153), some (.int i)]) (st1 := [.int (i + 2), .ref 0, .int (xs (i + 1).toNatClampNeg), .ref 1]) rfl ?_
  refine hR_ialX rfl (lx hi (c := 2) (m := 2) rfl (by omega) (by omega)) ?_
  refine hR_cvI (wX10_needed_s e1) (Nat.le_of_ble_eq_true rfl) rfl rfl rfl rfl rfl ?_
  refine hR_go 6 (pc1 := 1307) (L1 := [some (.ref 0), some (.ref 1), some (.ref 153), some (.int i)]) (st1 := [.int (i + 1), .ref 0, .ref 153]) rfl ?_
  refine hR_ialX rfl (lx hi (c := 1) (m := 1) rfl (by omega) (by omega)) ?_
  refine hR_go 4 (pc1 := 1312) (L1 := [some (.ref 0), some (.ref 1), some (.ref 153), some (.int i)]) (st1 := [.int (i + 2), .ref 0, .int (xs (i + 1).toNatClampNeg), .ref 153]) rfl ?_
  refine hR_ialX rfl (lx hi (c := 2) (m := 2) rfl (by omega) (by omega)) ?_
  refine hR_cvI (wX11_needed_s e2) (Nat.le_of_ble_eq_true rfl) rfl rfl rfl rfl rfl ?_
  exact hR_go 2 (pc1 := 1617) (L1 := [some (.ref 0), some (.ref 1), some (.ref 153), some (.int i)]) (st1 := []) rfl hr
theorem lo_30 {i : Int32} {s : wS} (hi : 0 ≤ i.toInt) (hn : i.toInt + 6 ≤ n) (hn2 : n ≤ 3072) (g : JB s) (K : ∀ s2, JB s2 → LK n xs i 1617 s2) : LK n xs i 1320 s := by
  obtain ⟨⟨v, s1⟩, e1, p1⟩ := wX10_steered_T (x1 := xs (i + 1).toNatClampNeg) (x2 := xs (i + 2).toNatClampNeg) (x3 := xs (i + 3).toNatClampNeg) (x4 := xs (i + 4).toNatClampNeg) (x5 := xs (i + 5).toNatClampNeg) (s := s)
  dsimp only at *
  have g1 : JB s1 := (wX10_steered_J g).get e1
  obtain ⟨⟨v2, s2⟩, e2, p2⟩ := wX11_steered_T (x1 := xs (i + 1).toNatClampNeg) (x2 := xs (i + 2).toNatClampNeg) (x3 := xs (i + 3).toNatClampNeg) (x4 := xs (i + 4).toNatClampNeg) (x5 := xs (i + 5).toNatClampNeg) (s := s1) g1.1.inv.rq
  dsimp only at *
  have g2 : JB s2 := (wX11_steered_J g1).get e2
  obtain ⟨rr, hr⟩ := K s2 g2
  refine ⟨rr, ?_⟩
  refine hR_go 5 (pc1 := 1325) (L1 := [some (.ref 0), some (.ref 1), some (.ref 153), some (.int i)]) (st1 := [.int (i + 1), .ref 0, .ref 1]) rfl ?_
  refine hR_ialX rfl (lx hi (c := 1) (m := 1) rfl (by omega) (by omega)) ?_
  refine hR_go 4 (pc1 := 1330) (L1 := [some (.ref 0), some (.ref 1), some (.ref 153), some (.int i)]) (st1 := [.int (i + 2), .ref 0, .int (xs (i + 1).toNatClampNeg), .ref 1]) rfl ?_
  refine hR_ialX rfl (lx hi (c := 2) (m := 2) rfl (by omega) (by omega)) ?_
  refine hR_go 4 (pc1 := 1335) (L1 := [some (.ref 0), some (.ref 1), some (.ref 153), some (.int i)]) (st1 := [.int (i + 3), .ref 0, .int (xs (i + 2).toNatClampNeg), .int (xs (i + 1).toNatClampNeg), .ref 1]) rfl ?_
  refine hR_ialX rfl (lx hi (c := 3) (m := 3) rfl (by omega) (by omega)) ?_
  refine hR_go 4 (pc1 := 1340) (L1 := [some (.ref 0), some (.ref 1), some (.ref 153), some (.int i)]) (st1 := [.int (i + 4), .ref 0, .int (xs (i + 3).toNatClampNeg), .int (xs (i + 2).toNatClampNeg), .int (xs (i + 1).toNatClampNeg), .ref 1]) rfl ?_
  refine hR_ialX rfl (lx hi (c := 4) (m := 4) rfl (by omega) (by omega)) ?_
  refine hR_go 4 (pc1 := 1345) (L1 := [some (.ref 0), some (.ref 1), some (.ref 153), some (.int i)]) (st1 := [.int (i + 5), .ref 0, .int (xs (i + 4).toNatClampNeg), .int (xs (i + 3).toNatClampNeg), .int (xs (i + 2).toNatClampNeg), .int (xs (i + 1).toNatClampNeg), .ref 1]) rfl ?_
  refine hR_ialX rfl (lx hi (c := 5) (m := 5) rfl (by omega) (by omega)) ?_
  refine hR_cvI (wX10_steered_s e1) (Nat.le_of_ble_eq_true rfl) rfl rfl rfl rfl rfl ?_
  refine hR_go 6 (pc1 := 1355) (L1 := [some (.ref 0), some (.ref 1), some (.ref 153), some (.int i)]) (st1 := [.int (i + 1), .ref 0, .ref 153]) rfl ?_
  refine hR_ialX rfl (lx hi (c := 1) (m := 1) rfl (by omega) (by omega)) ?_
  refine hR_go 4 (pc1 := 1360) (L1 := [some (.ref 0), some (.ref 1), some (.ref 153), some (.int i)]) (st1 := [.int (i + 2), .ref 0, .int (xs (i + 1).toNatClampNeg), .ref 153]) rfl ?_
  refine hR_ialX rfl (lx hi (c := 2) (m := 2) rfl (by omega) (by omega)) ?_
  refine hR_go 4 (pc1 := 1365) (L1 := [some (.ref 0), some (.ref 1), some (.ref 153), some (.int i)]) (st1 := [.int (i + 3), .ref 0, .int (xs (i + 2).toNatClampNeg), .int (xs (i + 1).toNatClampNeg), .ref 153]) rfl ?_
  refine hR_ialX rfl (lx hi (c := 3) (m := 3) rfl (by omega) (by omega)) ?_
  refine hR_go 4 (pc1 := 1370) (L1 := [some (.ref 0), some (.ref 1), some (.ref 153), some (.int i)]) (st1 := [.int (i + 4), .ref 0, .int (xs (i + 3).toNatClampNeg), .int (xs (i + 2).toNatClampNeg), .int (xs (i + 1).toNatClampNeg), .ref 153]) rfl ?_
  refine hR_ialX rfl (lx hi (c := 4) (m := 4) rfl (by omega) (by omega)) ?_
  refine hR_go 4 (pc1 := 1375) (L1 := [some (.ref 0), some (.ref 1), some (.ref 153), some (.int i)]) (st1 := [.int (i + 5), .ref 0, .int (xs (i + 4).toNatClampNeg), .int (xs (i + 3).toNatClampNeg), .int (xs (i + 2).toNatClampNeg), .int (xs (i + 1).toNatClampNeg), .ref 153]) rfl ?_
  refine hR_ialX rfl (lx hi (c := 5) (m := 5) rfl (by omega) (by omega)) ?_
  refine hR_cvI (wX11_steered_s e2) (Nat.le_of_ble_eq_true rfl) rfl rfl rfl rfl rfl ?_
  exact hR_go 2 (pc1 := 1617) (L1 := [some (.ref 0), some (.ref 1), some (.ref 153), some (.int i)]) (st1 := []) rfl hr
theorem lo_31 {i : Int32} {s : wS} (hi : 0 ≤ i.toInt) (hn : i.toInt + 6 ≤ n) (hn2 : n ≤ 3072) (g : JB s) (K : ∀ s2, JB s2 → LK n xs i 1617 s2) : LK n xs i 1383 s := by
  obtain ⟨v, e1, -⟩ := wX10_spare_T (x1 := xs (i + 1).toNatClampNeg) (s := s)
  have g1 : JB s := g
  obtain ⟨v2, e2, -⟩ := wX11_spare_T (x1 := xs (i + 1).toNatClampNeg) (s := s) g1.1.inv.rq
  have g2 : JB s := g1
  obtain ⟨rr, hr⟩ := K s g2
  refine ⟨rr, ?_⟩
  refine hR_go 5 (pc1 := 1388) (L1 := [some (.ref 0), some (.ref 1), some (.ref 153), some (.int i)]) (st1 := [.int (i + 1), .ref 0, .ref 1]) rfl ?_
  refine hR_ialX rfl (lx hi (c := 1) (m := 1) rfl (by omega) (by omega)) ?_
  refine hR_cvI (wX10_spare_s e1) (Nat.le_of_ble_eq_true rfl) rfl rfl rfl rfl rfl ?_
  refine hR_go 6 (pc1 := 1398) (L1 := [some (.ref 0), some (.ref 1), some (.ref 153), some (.int i)]) (st1 := [.int (i + 1), .ref 0, .ref 153]) rfl ?_
  refine hR_ialX rfl (lx hi (c := 1) (m := 1) rfl (by omega) (by omega)) ?_
  refine hR_cvI (wX11_spare_s e2) (Nat.le_of_ble_eq_true rfl) rfl rfl rfl rfl rfl ?_
  exact hR_go 2 (pc1 := 1617) (L1 := [some (.ref 0), some (.ref 1), some (.ref 153), some (.int i)]) (st1 := []) rfl hr
theorem lo_32 {i : Int32} {s : wS} (hi : 0 ≤ i.toInt) (hn : i.toInt + 6 ≤ n) (hn2 : n ≤ 3072) (g : JB s) (K : ∀ s2, JB s2 → LK n xs i 1617 s2) : LK n xs i 1406 s := by
  obtain ⟨v, s1, v2, s2, e1, e2, hvv, g2⟩ := op_seed_B (x1 := xs (i + 1).toNatClampNeg) g
  obtain ⟨rr, hr⟩ := K s2 g2
  refine ⟨rr, ?_⟩
  refine hR_go 5 (pc1 := 1411) (L1 := [some (.ref 0), some (.ref 1), some (.ref 153), some (.int i)]) (st1 := [.int (i + 1), .ref 0, .ref 1]) rfl ?_
  refine hR_ialX rfl (lx hi (c := 1) (m := 1) rfl (by omega) (by omega)) ?_
  refine hR_cvI (wX10_seed_s e1) (Nat.le_of_ble_eq_true rfl) rfl rfl rfl rfl rfl ?_
  refine hR_go 6 (pc1 := 1421) (L1 := [some (.ref 0), some (.ref 1), some (.ref 153), some (.int i)]) (st1 := [.int (i + 1), .ref 0, .ref 153]) rfl ?_
  refine hR_ialX rfl (lx hi (c := 1) (m := 1) rfl (by omega) (by omega)) ?_
  refine hR_cvI (wX11_seed_s e2) (Nat.le_of_ble_eq_true rfl) rfl rfl rfl rfl rfl ?_
  exact hR_go 2 (pc1 := 1617) (L1 := [some (.ref 0), some (.ref 1), some (.ref 153), some (.int i)]) (st1 := []) rfl hr
theorem lo_33 {i : Int32} {s : wS} (hi : 0 ≤ i.toInt) (hn : i.toInt + 6 ≤ n) (hn2 : n ≤ 3072) (g : JB s) (K : ∀ s2, JB s2 → LK n xs i 1617 s2) : LK n xs i 1429 s := by
  obtain ⟨⟨v, s1⟩, e1, p1⟩ := wX10_trials_T (x1 := xs (i + 1).toNatClampNeg) (x2 := xs (i + 2).toNatClampNeg) (x3 := xs (i + 3).toNatClampNeg) (s := s)
  dsimp only at *
  have g1 : JB s1 := (wX10_trials_J g).get e1
  obtain ⟨⟨v2, s2⟩, e2, p2⟩ := wX11_trials_T (x1 := xs (i + 1).toNatClampNeg) (x2 := xs (i + 2).toNatClampNeg) (x3 := xs (i + 3).toNatClampNeg) (s := s1) g1.1.inv.rq
  dsimp only at *
  have g2 : JB s2 := (wX11_trials_J g1).get e2
  obtain ⟨rr, hr⟩ := K s2 g2
  refine ⟨rr, ?_⟩
  refine hR_go 5 (pc1 := 1434) (L1 := [some (.ref 0), some (.ref 1), some (.ref 153), some (.int i)]) (st1 := [.int (i + 1), .ref 0, .ref 1]) rfl ?_
  refine hR_ialX rfl (lx hi (c := 1) (m := 1) rfl (by omega) (by omega)) ?_
  refine hR_go 4 (pc1 := 1439) (L1 := [some (.ref 0), some (.ref 1), some (.ref 153), some (.int i)]) (st1 := [.int (i + 2), .ref 0, .int (xs (i + 1).toNatClampNeg), .ref 1]) rfl ?_
  refine hR_ialX rfl (lx hi (c := 2) (m := 2) rfl (by omega) (by omega)) ?_
  refine hR_go 4 (pc1 := 1444) (L1 := [some (.ref 0), some (.ref 1), some (.ref 153), some (.int i)]) (st1 := [.int (i + 3), .ref 0, .int (xs (i + 2).toNatClampNeg), .int (xs (i + 1).toNatClampNeg), .ref 1]) rfl ?_
  refine hR_ialX rfl (lx hi (c := 3) (m := 3) rfl (by omega) (by omega)) ?_
  refine hR_cvI (wX10_trials_s e1) (Nat.le_of_ble_eq_true rfl) rfl rfl rfl rfl rfl ?_
  refine hR_go 6 (pc1 := 1454) (L1 := [some (.ref 0), some (.ref 1), some (.ref 153), some (.int i)]) (st1 := [.int (i + 1), .ref 0, .ref 153]) rfl ?_
  refine hR_ialX rfl (lx hi (c := 1) (m := 1) rfl (by omega) (by omega)) ?_
  refine hR_go 4 (pc1 := 1459) (L1 := [some (.ref 0), some (.ref 1), some (.ref 153), some (.int i)]) (st1 := [.int (i + 2), .ref 0, .int (xs (i + 1).toNatClampNeg), .ref 153]) rfl ?_
  refine hR_ialX rfl (lx hi (c := 2) (m := 2) rfl (by omega) (by omega)) ?_
  refine hR_go 4 (pc1 := 1464) (L1 := [some (.ref 0), some (.ref 1), some (.ref 153), some (.int i)]) (st1 := [.int (i + 3), .ref 0, .int (xs (i + 2).toNatClampNeg), .int (xs (i + 1).toNatClampNeg), .ref 153]) rfl ?_
  refine hR_ialX rfl (lx hi (c := 3) (m := 3) rfl (by omega) (by omega)) ?_
  refine hR_cvI (wX11_trials_s e2) (Nat.le_of_ble_eq_true rfl) rfl rfl rfl rfl rfl ?_
  exact hR_go 2 (pc1 := 1617) (L1 := [some (.ref 0), some (.ref 1), some (.ref 153), some (.int i)]) (st1 := []) rfl hr
theorem lo_34 {i : Int32} {s : wS} (hi : 0 ≤ i.toInt) (hn : i.toInt + 6 ≤ n) (hn2 : n ≤ 3072) (g : JB s) (K : ∀ s2, JB s2 → LK n xs i 1617 s2) : LK n xs i 1472 s := by
  obtain ⟨v, s1, v2, s2, e1, e2, hvv, g2⟩ := op_verdict_B (x1 := xs (i + 1).toNatClampNeg) g
  obtain ⟨rr, hr⟩ := K s2 g2
  refine ⟨rr, ?_⟩
  refine hR_go 5 (pc1 := 1477) (L1 := [some (.ref 0), some (.ref 1), some (.ref 153), some (.int i)]) (st1 := [.int (i + 1), .ref 0, .ref 1]) rfl ?_
  refine hR_ialX rfl (lx hi (c := 1) (m := 1) rfl (by omega) (by omega)) ?_
  refine hR_cvI (wX10_verdict_s e1) (Nat.le_of_ble_eq_true rfl) rfl rfl rfl rfl rfl ?_
  refine hR_go 6 (pc1 := 1487) (L1 := [some (.ref 0), some (.ref 1), some (.ref 153), some (.int i)]) (st1 := [.int (i + 1), .ref 0, .ref 153]) rfl ?_
  refine hR_ialX rfl (lx hi (c := 1) (m := 1) rfl (by omega) (by omega)) ?_
  refine hR_cvI (wX11_verdict_s e2) (Nat.le_of_ble_eq_true rfl) rfl rfl rfl rfl rfl ?_
  exact hR_go 2 (pc1 := 1617) (L1 := [some (.ref 0), some (.ref 1), some (.ref 153), some (.int i)]) (st1 := []) rfl hr
theorem lo_35 {i : Int32} {s : wS} (hi : 0 ≤ i.toInt) (hn : i.toInt + 6 ≤ n) (hn2 : n ≤ 3072) (g : JB s) (K : ∀ s2, JB s2 → LK n xs i 1617 s2) : LK n xs i 1495 s := by
  obtain ⟨⟨v, s1⟩, e1, p1⟩ := wX10_old_T (x1 := xs (i + 1).toNatClampNeg) (x2 := xs (i + 2).toNatClampNeg) (x3 := xs (i + 3).toNatClampNeg) (x4 := xs (i + 4).toNatClampNeg) (s := s)
  dsimp only at *
  have g1 : JB s1 := (wX10_old_J g).get e1
  obtain ⟨⟨v2, s2⟩, e2, p2⟩ := wX11_old_T (x1 := xs (i + 1).toNatClampNeg) (x2 := xs (i + 2).toNatClampNeg) (x3 := xs (i + 3).toNatClampNeg) (x4 := xs (i + 4).toNatClampNeg) (s := s1) g1.1.inv.rq
  dsimp only at *
  have g2 : JB s2 := (wX11_old_J g1).get e2
  obtain ⟨rr, hr⟩ := K s2 g2
  refine ⟨rr, ?_⟩
  refine hR_go 5 (pc1 := 1500) (L1 := [some (.ref 0), some (.ref 1), some (.ref 153), some (.int i)]) (st1 := [.int (i + 1), .ref 0, .ref 1]) rfl ?_
  refine hR_ialX rfl (lx hi (c := 1) (m := 1) rfl (by omega) (by omega)) ?_
  refine hR_go 4 (pc1 := 1505) (L1 := [some (.ref 0), some (.ref 1), some (.ref 153), some (.int i)]) (st1 := [.int (i + 2), .ref 0, .int (xs (i + 1).toNatClampNeg), .ref 1]) rfl ?_
  refine hR_ialX rfl (lx hi (c := 2) (m := 2) rfl (by omega) (by omega)) ?_
  refine hR_go 4 (pc1 := 1510) (L1 := [some (.ref 0), some (.ref 1), some (.ref 153), some (.int i)]) (st1 := [.int (i + 3), .ref 0, .int (xs (i + 2).toNatClampNeg), .int (xs (i + 1).toNatClampNeg), .ref 1]) rfl ?_
  refine hR_ialX rfl (lx hi (c := 3) (m := 3) rfl (by omega) (by omega)) ?_
  refine hR_go 4 (pc1 := 1515) (L1 := [some (.ref 0), some (.ref 1), some (.ref 153), some (.int i)]) (st1 := [.int (i + 4), .ref 0, .int (xs (i + 3).toNatClampNeg), .int (xs (i + 2).toNatClampNeg), .int (xs (i + 1).toNatClampNeg), .ref 1]) rfl ?_
  refine hR_ialX rfl (lx hi (c := 4) (m := 4) rfl (by omega) (by omega)) ?_
  refine hR_cvI (wX10_old_s e1) (Nat.le_of_ble_eq_true rfl) rfl rfl rfl rfl rfl ?_
  refine hR_go 6 (pc1 := 1525) (L1 := [some (.ref 0), some (.ref 1), some (.ref 153), some (.int i)]) (st1 := [.int (i + 1), .ref 0, .ref 153]) rfl ?_
  refine hR_ialX rfl (lx hi (c := 1) (m := 1) rfl (by omega) (by omega)) ?_
  refine hR_go 4 (pc1 := 1530) (L1 := [some (.ref 0), some (.ref 1), some (.ref 153), some (.int i)]) (st1 := [.int (i + 2), .ref 0, .int (xs (i + 1).toNatClampNeg), .ref 153]) rfl ?_
  refine hR_ialX rfl (lx hi (c := 2) (m := 2) rfl (by omega) (by omega)) ?_
  refine hR_go 4 (pc1 := 1535) (L1 := [some (.ref 0), some (.ref 1), some (.ref 153), some (.int i)]) (st1 := [.int (i + 3), .ref 0, .int (xs (i + 2).toNatClampNeg), .int (xs (i + 1).toNatClampNeg), .ref 153]) rfl ?_
  refine hR_ialX rfl (lx hi (c := 3) (m := 3) rfl (by omega) (by omega)) ?_
  refine hR_go 4 (pc1 := 1540) (L1 := [some (.ref 0), some (.ref 1), some (.ref 153), some (.int i)]) (st1 := [.int (i + 4), .ref 0, .int (xs (i + 3).toNatClampNeg), .int (xs (i + 2).toNatClampNeg), .int (xs (i + 1).toNatClampNeg), .ref 153]) rfl ?_
  refine hR_ialX rfl (lx hi (c := 4) (m := 4) rfl (by omega) (by omega)) ?_
  refine hR_cvI (wX11_old_s e2) (Nat.le_of_ble_eq_true rfl) rfl rfl rfl rfl rfl ?_
  exact hR_go 2 (pc1 := 1617) (L1 := [some (.ref 0), some (.ref 1), some (.ref 153), some (.int i)]) (st1 := []) rfl hr
theorem lo_36 {i : Int32} {s : wS} (hi : 0 ≤ i.toInt) (hn : i.toInt + 6 ≤ n) (hn2 : n ≤ 3072) (g : JB s) (K : ∀ s2, JB s2 → LK n xs i 1617 s2) : LK n xs i 1548 s := by
  obtain ⟨v, e1, e2⟩ := op_count (x1 := xs (i + 1).toNatClampNeg) g.1
  have g2 : JB s := g
  obtain ⟨rr, hr⟩ := K s g2
  refine ⟨rr, ?_⟩
  refine hR_go 5 (pc1 := 1553) (L1 := [some (.ref 0), some (.ref 1), some (.ref 153), some (.int i)]) (st1 := [.int (i + 1), .ref 0, .ref 1]) rfl ?_
  refine hR_ialX rfl (lx hi (c := 1) (m := 1) rfl (by omega) (by omega)) ?_
  refine hR_cvI (wX10_count_s e1) (Nat.le_of_ble_eq_true rfl) rfl rfl rfl rfl rfl ?_
  refine hR_go 6 (pc1 := 1563) (L1 := [some (.ref 0), some (.ref 1), some (.ref 153), some (.int i)]) (st1 := [.int (i + 1), .ref 0, .ref 153]) rfl ?_
  refine hR_ialX rfl (lx hi (c := 1) (m := 1) rfl (by omega) (by omega)) ?_
  refine hR_cvI (wX11_count_s e2) (Nat.le_of_ble_eq_true rfl) rfl rfl rfl rfl rfl ?_
  exact hR_go 2 (pc1 := 1617) (L1 := [some (.ref 0), some (.ref 1), some (.ref 153), some (.int i)]) (st1 := []) rfl hr
theorem lo_37 {i : Int32} {s : wS} (hi : 0 ≤ i.toInt) (hn : i.toInt + 6 ≤ n) (hn2 : n ≤ 3072) (g : JB s) (K : ∀ s2, JB s2 → LK n xs i 1617 s2) : LK n xs i 1571 s := by
  obtain ⟨v, s1, v2, s2, e1, e2, hvv, g2⟩ := op_image_B (x1 := xs (i + 1).toNatClampNeg) g
  obtain ⟨rr, hr⟩ := K s2 g2
  refine ⟨rr, ?_⟩
  refine hR_go 5 (pc1 := 1576) (L1 := [some (.ref 0), some (.ref 1), some (.ref 153), some (.int i)]) (st1 := [.int (i + 1), .ref 0, .ref 1]) rfl ?_
  refine hR_ialX rfl (lx hi (c := 1) (m := 1) rfl (by omega) (by omega)) ?_
  refine hR_cvI (wX10_image_s e1) (Nat.le_of_ble_eq_true rfl) rfl rfl rfl rfl rfl ?_
  refine hR_go 6 (pc1 := 1586) (L1 := [some (.ref 0), some (.ref 1), some (.ref 153), some (.int i)]) (st1 := [.int (i + 1), .ref 0, .ref 153]) rfl ?_
  refine hR_ialX rfl (lx hi (c := 1) (m := 1) rfl (by omega) (by omega)) ?_
  refine hR_cvI (wX11_image_s e2) (Nat.le_of_ble_eq_true rfl) rfl rfl rfl rfl rfl ?_
  exact hR_go 2 (pc1 := 1617) (L1 := [some (.ref 0), some (.ref 1), some (.ref 153), some (.int i)]) (st1 := []) rfl hr
theorem lo_38 {i : Int32} {s : wS} (hi : 0 ≤ i.toInt) (hn : i.toInt + 6 ≤ n) (hn2 : n ≤ 3072) (g : JB s) (K : ∀ s2, JB s2 → LK n xs i 1617 s2) : LK n xs i 1594 s := by
  obtain ⟨v, s1, v2, s2, e1, e2, hvv, g2⟩ := op_back_B (x1 := xs (i + 1).toNatClampNeg) g
  obtain ⟨rr, hr⟩ := K s2 g2
  refine ⟨rr, ?_⟩
  refine hR_go 5 (pc1 := 1599) (L1 := [some (.ref 0), some (.ref 1), some (.ref 153), some (.int i)]) (st1 := [.int (i + 1), .ref 0, .ref 1]) rfl ?_
  refine hR_ialX rfl (lx hi (c := 1) (m := 1) rfl (by omega) (by omega)) ?_
  refine hR_cvI (wX10_back_s e1) (Nat.le_of_ble_eq_true rfl) rfl rfl rfl rfl rfl ?_
  refine hR_go 6 (pc1 := 1609) (L1 := [some (.ref 0), some (.ref 1), some (.ref 153), some (.int i)]) (st1 := [.int (i + 1), .ref 0, .ref 153]) rfl ?_
  refine hR_ialX rfl (lx hi (c := 1) (m := 1) rfl (by omega) (by omega)) ?_
  refine hR_cvI (wX11_back_s e2) (Nat.le_of_ble_eq_true rfl) rfl rfl rfl rfl rfl ?_
  exact hR_go 2 (pc1 := 1617) (L1 := [some (.ref 0), some (.ref 1), some (.ref 153), some (.int i)]) (st1 := []) rfl hr
end LAW
