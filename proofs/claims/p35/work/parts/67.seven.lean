/-! The seven methods that know the texts. -/
noncomputable def wX8_spells_h15 (x1 : Int32) (z3 : Nat) (s : wS) : Nat → Int32 → Option ((Unit) ⊕ (Unit))
  | 0, _ => none
  | n + 1, x4 => if x4 < (ri_sln z3) then ((wX8_byteAt (x1 + x4) s).bind fun t3 => (wsch z3 x4).bind fun t5 => if t3 = t5 then (wX8_spells_h15 x1 z3 s n (x4 + 1)) else (some (.inr ()))) else (some (.inl ()))
theorem wX8_spells_t15 {x1 : Int32} {z3 : Nat} {s : wS} {x : (Unit) ⊕ (Unit)} {r : Option Value × ri_M} (hz : z3 < 16) (he49 : ∀ (w1 : Int32) (w2 : Int32) (w3 : Nat) (w4 : Int32) , x = .inl () → hRun 3 (hm 86) 49 [some (.ref 2), some (.int w1), some (.int w2), some (.ref (2000 + w3)), some (.int w4)] [] (wmk s) r) (he41 : ∀ (w1 : Int32) (w2 : Int32) (w3 : Nat) (w4 : Int32) , x = .inr () → hRun 3 (hm 86) 41 [some (.ref 2), some (.int w1), some (.int w2), some (.ref (2000 + w3)), some (.int w4)] [] (wmk s) r) : ∀ {n : Nat} {x4 : Int32} {w2 : Int32} , wX8_spells_h15 x1 z3 s n x4 = some x → hRun 3 (hm 86) 15 [some (.ref 2), some (.int x1), some (.int w2), some (.ref (2000 + z3)), some (.int x4)] [] (wmk s) r := by
  intro n
  induction n with
  | zero => intro x4 w2 h; cases (show (none : Option ((Unit) ⊕ (Unit))) = some x from h)
  | succ n ih =>
    intro x4 w2 h
    rw [wX8_spells_h15] at h
    refine hR_go 2 (pc1 := 18) (L1 := [some (.ref 2), some (.int x1), some (.int w2), some (.ref (2000 + z3)), some (.int x4)]) (st1 := [.ref (2000 + z3), .int x4]) rfl ?_
    refine hR_slen hz rfl (by decide) (by decide +kernel) rfl ?_
    rcases gif h with ⟨c2, h⟩ | ⟨c2, h⟩
    · refine hR_ic_ge_f rfl c2 ?_
      refine hR_go 4 (pc1 := 29) (L1 := [some (.ref 2), some (.int x1), some (.int w2), some (.ref (2000 + z3)), some (.int x4)]) (st1 := [.int (x1 + x4), .ref 2]) rfl ?_
      obtain ⟨t3, e4, h⟩ := gb h
      refine hR_cvI (wX8_byteAt_s e4) (Nat.le_of_ble_eq_true rfl) rfl rfl rfl rfl rfl ?_
      refine hR_go 2 (pc1 := 35) (L1 := [some (.ref 2), some (.int x1), some (.int w2), some (.ref (2000 + z3)), some (.int x4)]) (st1 := [.int x4, .ref (2000 + z3), .int t3]) rfl ?_
      obtain ⟨t5, et5, h⟩ := gb h
      obtain ⟨⟨b1, b2, b3⟩, rfl⟩ := wsch_ok hz et5
      refine hR_schr hz b1 b2 b3 rfl (by decide) (by decide +kernel) rfl ?_
      rcases gif h with ⟨c6, h⟩ | ⟨c6, h⟩
      · refine hR_ic_eq_j rfl c6 rfl ?_
        refine hR_go 2 (pc1 := 15) (L1 := [some (.ref 2), some (.int x1), some (.int w2), some (.ref (2000 + z3)), some (.int (x4 + 1))]) (st1 := []) rfl ?_
        exact ih h
      · refine hR_ic_eq_f rfl c6 ?_
        exact he41 _ _ _ _ (Option.some.inj h).symm
    · refine hR_ic_ge_j rfl c2 rfl ?_
      exact he49 _ _ _ _ (Option.some.inj h).symm
noncomputable def wX8_spells (x1 : Int32) (x2 : Int32) (z3 : Nat) (s : wS) : Option (Int32) := if (x2 - x1) = (ri_sln z3) then ((wX8_spells_h15 x1 z3 s wFuel 0).bind fun z7 => (match z7 with | .inl () => some 1 | .inr () => some 0)) else (some 0)
theorem wX8_spells_s {x1 : Int32} {x2 : Int32} {z3 : Nat} {s : wS} {rv : Int32} (hz : z3 < 16) (h : wX8_spells x1 x2 z3 s = some rv) : hEv 4 86 [.ref 2, .int x1, .int x2, .ref (2000 + z3)] (wmk s) (some (.int rv), wmk s) := by
  refine hEv_w (d := 3) (L := [some (.ref 2), some (.int x1), some (.int x2), some (.ref (2000 + z3)), none]) (by decide) rfl ?_
  unfold wX8_spells at h
  refine hR_go 4 (pc1 := 4) (L1 := [some (.ref 2), some (.int x1), some (.int x2), some (.ref (2000 + z3)), none]) (st1 := [.ref (2000 + z3), .int (x2 - x1)]) rfl ?_
  refine hR_slen hz rfl (by decide) (by decide +kernel) rfl ?_
  rcases gif h with ⟨c1, h⟩ | ⟨c1, h⟩
  · refine hR_ic_eq_j rfl c1 rfl ?_
    refine hR_go 2 (pc1 := 15) (L1 := [some (.ref 2), some (.int x1), some (.int x2), some (.ref (2000 + z3)), some (.int 0)]) (st1 := []) rfl ?_
    obtain ⟨z7, ez7, h⟩ := gb h
    refine wX8_spells_t15 hz ?_ ?_ ez7
    · intro w8 w9 w10 w11 hq
      replace hq := hq.symm
      subst hq
      dsimp only at h
      refine hR_go 1 (pc1 := 50) (L1 := [some (.ref 2), some (.int w8), some (.int w9), some (.ref (2000 + w10)), some (.int w11)]) (st1 := [.int 1]) rfl ?_
      obtain rfl := gi1 h
      exact hR_rzc rfl rfl rfl
    · intro w12 w13 w14 w15 hq
      replace hq := hq.symm
      subst hq
      dsimp only at h
      refine hR_go 1 (pc1 := 42) (L1 := [some (.ref 2), some (.int w12), some (.int w13), some (.ref (2000 + w14)), some (.int w15)]) (st1 := [.int 0]) rfl ?_
      obtain rfl := gi1 h
      exact hR_rzc rfl rfl rfl
  · refine hR_ic_eq_f rfl c1 ?_
    refine hR_go 1 (pc1 := 11) (L1 := [some (.ref 2), some (.int x1), some (.int x2), some (.ref (2000 + z3)), none]) (st1 := [.int 0]) rfl ?_
    obtain rfl := gi1 h
    exact hR_rzc rfl rfl rfl
noncomputable def wX9_valueWordSign (x1 : Int32) (x2 : Int32) (s : wS) : Option (Int32) := (wX8_spells x1 x2 8 s).bind fun t1 => if t1 = 0 then ((wX8_spells x1 x2 9 s).bind fun t4 => if t4 = 0 then ((wX8_spells x1 x2 10 s).bind fun t7 => if t7 = 0 then ((wX8_spells x1 x2 11 s).bind fun t10 => if t10 = 0 then ((wX8_spells x1 x2 12 s).bind fun t13 => if t13 = 0 then ((wX8_spells x1 x2 13 s).bind fun t16 => if t16 = 0 then ((wX8_spells x1 x2 14 s).bind fun t19 => if t19 = 0 then ((wX8_spells x1 x2 15 s).bind fun t22 => if t22 = 0 then (some 1) else (some 30)) else (some 29)) else (some 28)) else (some 27)) else (some 26)) else (some 25)) else (some 24)) else (some 23)
theorem wX9_valueWordSign_s {x1 : Int32} {x2 : Int32} {s : wS} {rv : Int32} (h : wX9_valueWordSign x1 x2 s = some rv) : hEv 5 95 [.ref 2, .int x1, .int x2] (wmk s) (some (.int rv), wmk s) := by
  refine hEv_w (d := 4) (L := [some (.ref 2), some (.int x1), some (.int x2)]) (by decide) rfl ?_
  unfold wX9_valueWordSign at h
  refine hR_go 3 (pc1 := 3) (L1 := [some (.ref 2), some (.int x1), some (.int x2)]) (st1 := [.int x2, .int x1, .ref 2]) rfl ?_
  refine hR_ldcS (i := 8) (by decide) rfl (by decide +kernel) ?_
  obtain ⟨t1, e2, h⟩ := gb h
  refine hR_hcvI (wX8_spells_s (by decide) e2) (Nat.le_of_ble_eq_true rfl) rfl rfl rfl rfl rfl ?_
  rcases gif h with ⟨c3, h⟩ | ⟨c3, h⟩
  · refine hR_iz_eq_j rfl c3 rfl ?_
    refine hR_go 3 (pc1 := 17) (L1 := [some (.ref 2), some (.int x1), some (.int x2)]) (st1 := [.int x2, .int x1, .ref 2]) rfl ?_
    refine hR_ldcS (i := 9) (by decide) rfl (by decide +kernel) ?_
    obtain ⟨t4, e5, h⟩ := gb h
    refine hR_hcvI (wX8_spells_s (by decide) e5) (Nat.le_of_ble_eq_true rfl) rfl rfl rfl rfl rfl ?_
    rcases gif h with ⟨c6, h⟩ | ⟨c6, h⟩
    · refine hR_iz_eq_j rfl c6 rfl ?_
      refine hR_go 3 (pc1 := 31) (L1 := [some (.ref 2), some (.int x1), some (.int x2)]) (st1 := [.int x2, .int x1, .ref 2]) rfl ?_
      refine hR_ldcS (i := 10) (by decide) rfl (by decide +kernel) ?_
      obtain ⟨t7, e8, h⟩ := gb h
      refine hR_hcvI (wX8_spells_s (by decide) e8) (Nat.le_of_ble_eq_true rfl) rfl rfl rfl rfl rfl ?_
      rcases gif h with ⟨c9, h⟩ | ⟨c9, h⟩
      · refine hR_iz_eq_j rfl c9 rfl ?_
        refine hR_go 3 (pc1 := 45) (L1 := [some (.ref 2), some (.int x1), some (.int x2)]) (st1 := [.int x2, .int x1, .ref 2]) rfl ?_
        refine hR_ldcS (i := 11) (by decide) rfl (by decide +kernel) ?_
        obtain ⟨t10, e11, h⟩ := gb h
        refine hR_hcvI (wX8_spells_s (by decide) e11) (Nat.le_of_ble_eq_true rfl) rfl rfl rfl rfl rfl ?_
        rcases gif h with ⟨c12, h⟩ | ⟨c12, h⟩
        · refine hR_iz_eq_j rfl c12 rfl ?_
          refine hR_go 3 (pc1 := 59) (L1 := [some (.ref 2), some (.int x1), some (.int x2)]) (st1 := [.int x2, .int x1, .ref 2]) rfl ?_
          refine hR_ldcS (i := 12) (by decide) rfl (by decide +kernel) ?_
          obtain ⟨t13, e14, h⟩ := gb h
          refine hR_hcvI (wX8_spells_s (by decide) e14) (Nat.le_of_ble_eq_true rfl) rfl rfl rfl rfl rfl ?_
          rcases gif h with ⟨c15, h⟩ | ⟨c15, h⟩
          · refine hR_iz_eq_j rfl c15 rfl ?_
            refine hR_go 3 (pc1 := 73) (L1 := [some (.ref 2), some (.int x1), some (.int x2)]) (st1 := [.int x2, .int x1, .ref 2]) rfl ?_
            refine hR_ldcS (i := 13) (by decide) rfl (by decide +kernel) ?_
            obtain ⟨t16, e17, h⟩ := gb h
            refine hR_hcvI (wX8_spells_s (by decide) e17) (Nat.le_of_ble_eq_true rfl) rfl rfl rfl rfl rfl ?_
            rcases gif h with ⟨c18, h⟩ | ⟨c18, h⟩
            · refine hR_iz_eq_j rfl c18 rfl ?_
              refine hR_go 3 (pc1 := 87) (L1 := [some (.ref 2), some (.int x1), some (.int x2)]) (st1 := [.int x2, .int x1, .ref 2]) rfl ?_
              refine hR_ldcS (i := 14) (by decide) rfl (by decide +kernel) ?_
              obtain ⟨t19, e20, h⟩ := gb h
              refine hR_hcvI (wX8_spells_s (by decide) e20) (Nat.le_of_ble_eq_true rfl) rfl rfl rfl rfl rfl ?_
              rcases gif h with ⟨c21, h⟩ | ⟨c21, h⟩
              · refine hR_iz_eq_j rfl c21 rfl ?_
                refine hR_go 3 (pc1 := 101) (L1 := [some (.ref 2), some (.int x1), some (.int x2)]) (st1 := [.int x2, .int x1, .ref 2]) rfl ?_
                refine hR_ldcS (i := 15) (by decide) rfl (by decide +kernel) ?_
                obtain ⟨t22, e23, h⟩ := gb h
                refine hR_hcvI (wX8_spells_s (by decide) e23) (Nat.le_of_ble_eq_true rfl) rfl rfl rfl rfl rfl ?_
                rcases gif h with ⟨c24, h⟩ | ⟨c24, h⟩
                · refine hR_iz_eq_j rfl c24 rfl ?_
                  refine hR_go 1 (pc1 := 113) (L1 := [some (.ref 2), some (.int x1), some (.int x2)]) (st1 := [.int 1]) rfl ?_
                  obtain rfl := gi1 h
                  exact hR_ri rfl rfl
                · refine hR_iz_eq_f rfl c24 ?_
                  refine hR_go 1 (pc1 := 111) (L1 := [some (.ref 2), some (.int x1), some (.int x2)]) (st1 := [.int 30]) rfl ?_
                  obtain rfl := gi1 h
                  exact hR_ri rfl rfl
              · refine hR_iz_eq_f rfl c21 ?_
                refine hR_go 1 (pc1 := 97) (L1 := [some (.ref 2), some (.int x1), some (.int x2)]) (st1 := [.int 29]) rfl ?_
                obtain rfl := gi1 h
                exact hR_ri rfl rfl
            · refine hR_iz_eq_f rfl c18 ?_
              refine hR_go 1 (pc1 := 83) (L1 := [some (.ref 2), some (.int x1), some (.int x2)]) (st1 := [.int 28]) rfl ?_
              obtain rfl := gi1 h
              exact hR_ri rfl rfl
          · refine hR_iz_eq_f rfl c15 ?_
            refine hR_go 1 (pc1 := 69) (L1 := [some (.ref 2), some (.int x1), some (.int x2)]) (st1 := [.int 27]) rfl ?_
            obtain rfl := gi1 h
            exact hR_ri rfl rfl
        · refine hR_iz_eq_f rfl c12 ?_
          refine hR_go 1 (pc1 := 55) (L1 := [some (.ref 2), some (.int x1), some (.int x2)]) (st1 := [.int 26]) rfl ?_
          obtain rfl := gi1 h
          exact hR_ri rfl rfl
      · refine hR_iz_eq_f rfl c9 ?_
        refine hR_go 1 (pc1 := 41) (L1 := [some (.ref 2), some (.int x1), some (.int x2)]) (st1 := [.int 25]) rfl ?_
        obtain rfl := gi1 h
        exact hR_ri rfl rfl
    · refine hR_iz_eq_f rfl c6 ?_
      refine hR_go 1 (pc1 := 27) (L1 := [some (.ref 2), some (.int x1), some (.int x2)]) (st1 := [.int 24]) rfl ?_
      obtain rfl := gi1 h
      exact hR_ri rfl rfl
  · refine hR_iz_eq_f rfl c3 ?_
    refine hR_go 1 (pc1 := 13) (L1 := [some (.ref 2), some (.int x1), some (.int x2)]) (st1 := [.int 23]) rfl ?_
    obtain rfl := gi1 h
    exact hR_ri rfl rfl
noncomputable def wX9_wordSign (x1 : Int32) (x2 : Int32) (s : wS) : Option (Int32) := (wX8_spells x1 x2 0 s).bind fun t1 => if t1 = 0 then ((wX8_spells x1 x2 1 s).bind fun t4 => if t4 = 0 then ((wX8_spells x1 x2 2 s).bind fun t7 => if t7 = 0 then ((wX8_spells x1 x2 3 s).bind fun t10 => if t10 = 0 then ((wX8_spells x1 x2 4 s).bind fun t13 => if t13 = 0 then ((wX8_spells x1 x2 5 s).bind fun t16 => if t16 = 0 then ((wX8_spells x1 x2 6 s).bind fun t19 => if t19 = 0 then ((wX8_spells x1 x2 7 s).bind fun t22 => if t22 = 0 then ((wX9_valueWordSign x1 x2 s).bind fun t25 => some t25) else (some 22)) else (some 21)) else (some 20)) else (some 19)) else (some 18)) else (some 17)) else (some 16)) else (some 15)
theorem wX9_wordSign_s {x1 : Int32} {x2 : Int32} {s : wS} {rv : Int32} (h : wX9_wordSign x1 x2 s = some rv) : hEv 6 94 [.ref 2, .int x1, .int x2] (wmk s) (some (.int rv), wmk s) := by
  refine hEv_w (d := 5) (L := [some (.ref 2), some (.int x1), some (.int x2)]) (by decide) rfl ?_
  unfold wX9_wordSign at h
  refine hR_go 3 (pc1 := 3) (L1 := [some (.ref 2), some (.int x1), some (.int x2)]) (st1 := [.int x2, .int x1, .ref 2]) rfl ?_
  refine hR_ldcS (i := 0) (by decide) rfl (by decide +kernel) ?_
  obtain ⟨t1, e2, h⟩ := gb h
  refine hR_hcvI (wX8_spells_s (by decide) e2) (Nat.le_of_ble_eq_true rfl) rfl rfl rfl rfl rfl ?_
  rcases gif h with ⟨c3, h⟩ | ⟨c3, h⟩
  · refine hR_iz_eq_j rfl c3 rfl ?_
    refine hR_go 3 (pc1 := 17) (L1 := [some (.ref 2), some (.int x1), some (.int x2)]) (st1 := [.int x2, .int x1, .ref 2]) rfl ?_
    refine hR_ldcS (i := 1) (by decide) rfl (by decide +kernel) ?_
    obtain ⟨t4, e5, h⟩ := gb h
    refine hR_hcvI (wX8_spells_s (by decide) e5) (Nat.le_of_ble_eq_true rfl) rfl rfl rfl rfl rfl ?_
    rcases gif h with ⟨c6, h⟩ | ⟨c6, h⟩
    · refine hR_iz_eq_j rfl c6 rfl ?_
      refine hR_go 3 (pc1 := 31) (L1 := [some (.ref 2), some (.int x1), some (.int x2)]) (st1 := [.int x2, .int x1, .ref 2]) rfl ?_
      refine hR_ldcS (i := 2) (by decide) rfl (by decide +kernel) ?_
      obtain ⟨t7, e8, h⟩ := gb h
      refine hR_hcvI (wX8_spells_s (by decide) e8) (Nat.le_of_ble_eq_true rfl) rfl rfl rfl rfl rfl ?_
      rcases gif h with ⟨c9, h⟩ | ⟨c9, h⟩
      · refine hR_iz_eq_j rfl c9 rfl ?_
        refine hR_go 3 (pc1 := 45) (L1 := [some (.ref 2), some (.int x1), some (.int x2)]) (st1 := [.int x2, .int x1, .ref 2]) rfl ?_
        refine hR_ldcS (i := 3) (by decide) rfl (by decide +kernel) ?_
        obtain ⟨t10, e11, h⟩ := gb h
        refine hR_hcvI (wX8_spells_s (by decide) e11) (Nat.le_of_ble_eq_true rfl) rfl rfl rfl rfl rfl ?_
        rcases gif h with ⟨c12, h⟩ | ⟨c12, h⟩
        · refine hR_iz_eq_j rfl c12 rfl ?_
          refine hR_go 3 (pc1 := 59) (L1 := [some (.ref 2), some (.int x1), some (.int x2)]) (st1 := [.int x2, .int x1, .ref 2]) rfl ?_
          refine hR_ldcS (i := 4) (by decide) rfl (by decide +kernel) ?_
          obtain ⟨t13, e14, h⟩ := gb h
          refine hR_hcvI (wX8_spells_s (by decide) e14) (Nat.le_of_ble_eq_true rfl) rfl rfl rfl rfl rfl ?_
          rcases gif h with ⟨c15, h⟩ | ⟨c15, h⟩
          · refine hR_iz_eq_j rfl c15 rfl ?_
            refine hR_go 3 (pc1 := 73) (L1 := [some (.ref 2), some (.int x1), some (.int x2)]) (st1 := [.int x2, .int x1, .ref 2]) rfl ?_
            refine hR_ldcS (i := 5) (by decide) rfl (by decide +kernel) ?_
            obtain ⟨t16, e17, h⟩ := gb h
            refine hR_hcvI (wX8_spells_s (by decide) e17) (Nat.le_of_ble_eq_true rfl) rfl rfl rfl rfl rfl ?_
            rcases gif h with ⟨c18, h⟩ | ⟨c18, h⟩
            · refine hR_iz_eq_j rfl c18 rfl ?_
              refine hR_go 3 (pc1 := 87) (L1 := [some (.ref 2), some (.int x1), some (.int x2)]) (st1 := [.int x2, .int x1, .ref 2]) rfl ?_
              refine hR_ldcS (i := 6) (by decide) rfl (by decide +kernel) ?_
              obtain ⟨t19, e20, h⟩ := gb h
              refine hR_hcvI (wX8_spells_s (by decide) e20) (Nat.le_of_ble_eq_true rfl) rfl rfl rfl rfl rfl ?_
              rcases gif h with ⟨c21, h⟩ | ⟨c21, h⟩
              · refine hR_iz_eq_j rfl c21 rfl ?_
                refine hR_go 3 (pc1 := 101) (L1 := [some (.ref 2), some (.int x1), some (.int x2)]) (st1 := [.int x2, .int x1, .ref 2]) rfl ?_
                refine hR_ldcS (i := 7) (by decide) rfl (by decide +kernel) ?_
                obtain ⟨t22, e23, h⟩ := gb h
                refine hR_hcvI (wX8_spells_s (by decide) e23) (Nat.le_of_ble_eq_true rfl) rfl rfl rfl rfl rfl ?_
                rcases gif h with ⟨c24, h⟩ | ⟨c24, h⟩
                · refine hR_iz_eq_j rfl c24 rfl ?_
                  refine hR_go 3 (pc1 := 115) (L1 := [some (.ref 2), some (.int x1), some (.int x2)]) (st1 := [.int x2, .int x1, .ref 2]) rfl ?_
                  obtain ⟨t25, e26, h⟩ := gb h
                  refine hR_hcsI (wX9_valueWordSign_s e26) (Nat.le_of_ble_eq_true rfl) rfl rfl rfl rfl ?_
                  obtain rfl := gi1 h
                  exact hR_ri rfl rfl
                · refine hR_iz_eq_f rfl c24 ?_
                  refine hR_go 1 (pc1 := 111) (L1 := [some (.ref 2), some (.int x1), some (.int x2)]) (st1 := [.int 22]) rfl ?_
                  obtain rfl := gi1 h
                  exact hR_ri rfl rfl
              · refine hR_iz_eq_f rfl c21 ?_
                refine hR_go 1 (pc1 := 97) (L1 := [some (.ref 2), some (.int x1), some (.int x2)]) (st1 := [.int 21]) rfl ?_
                obtain rfl := gi1 h
                exact hR_ri rfl rfl
            · refine hR_iz_eq_f rfl c18 ?_
              refine hR_go 1 (pc1 := 83) (L1 := [some (.ref 2), some (.int x1), some (.int x2)]) (st1 := [.int 20]) rfl ?_
              obtain rfl := gi1 h
              exact hR_ri rfl rfl
          · refine hR_iz_eq_f rfl c15 ?_
            refine hR_go 1 (pc1 := 69) (L1 := [some (.ref 2), some (.int x1), some (.int x2)]) (st1 := [.int 19]) rfl ?_
            obtain rfl := gi1 h
            exact hR_ri rfl rfl
        · refine hR_iz_eq_f rfl c12 ?_
          refine hR_go 1 (pc1 := 55) (L1 := [some (.ref 2), some (.int x1), some (.int x2)]) (st1 := [.int 18]) rfl ?_
          obtain rfl := gi1 h
          exact hR_ri rfl rfl
      · refine hR_iz_eq_f rfl c9 ?_
        refine hR_go 1 (pc1 := 41) (L1 := [some (.ref 2), some (.int x1), some (.int x2)]) (st1 := [.int 17]) rfl ?_
        obtain rfl := gi1 h
        exact hR_ri rfl rfl
    · refine hR_iz_eq_f rfl c6 ?_
      refine hR_go 1 (pc1 := 27) (L1 := [some (.ref 2), some (.int x1), some (.int x2)]) (st1 := [.int 16]) rfl ?_
      obtain rfl := gi1 h
      exact hR_ri rfl rfl
  · refine hR_iz_eq_f rfl c3 ?_
    refine hR_go 1 (pc1 := 13) (L1 := [some (.ref 2), some (.int x1), some (.int x2)]) (st1 := [.int 15]) rfl ?_
    obtain rfl := gi1 h
    exact hR_ri rfl rfl
noncomputable def wX9_cutOne_j131 (x2 : Int32) (s : wS) : Option (Int32 × wS) := some ((x2 + 2), s)
theorem wX9_cutOne_u131 {x2 : Int32} {s : wS} {w3 : Int32} {rv : Int32} {rs : wS} (h : wX9_cutOne_j131 x2 s = some (rv, rs)) : hRun 6 (hm 90) 131 [some (.ref 4), some (.ref 2), some (.int x2), some (.int w3)] [] (wmk s) (some (.int rv), wmk rs) := by
  unfold wX9_cutOne_j131 at h
  refine hR_go 4 (pc1 := 140) (L1 := [some (.ref 4), some (.ref 2), some (.int x2), some (.int w3)]) (st1 := [.int (x2 + 2)]) rfl ?_
  obtain ⟨rfl, rfl⟩ := gi2 h
  exact hR_ri rfl rfl
noncomputable def wX9_cutOne_j108 (x2 : Int32) (y0 : Int32) (y1 : Int32) (s : wS) : Option (Int32 × wS) := (wX9_byteSign y0 y1 s).bind fun t15 => (wX9_put t15 x2 0 s).bind fun s18 => if t15 = 11 then (wX9_cutOne_j131 x2 s18) else (if t15 = 13 then (wX9_cutOne_j131 x2 s18) else (some ((x2 + 1), s18)))
theorem wX9_cutOne_u108 {x2 : Int32} {y0 : Int32} {y1 : Int32} {s : wS} {w3 : Option Value} {rv : Int32} {rs : wS} (h : wX9_cutOne_j108 x2 y0 y1 s = some (rv, rs)) : hRun 6 (hm 90) 108 [some (.ref 4), some (.ref 2), some (.int x2), w3] [.int y1, .int y0] (wmk s) (some (.int rv), wmk rs) := by
  unfold wX9_cutOne_j108 at h
  obtain ⟨t15, e16, h⟩ := gb h
  refine hR_csI (wX9_byteSign_s e16) (Nat.le_of_ble_eq_true rfl) rfl rfl rfl rfl ?_
  refine hR_go 5 (pc1 := 116) (L1 := [some (.ref 4), some (.ref 2), some (.int x2), some (.int t15)]) (st1 := [.int 0, .int x2, .int t15, .ref 4]) rfl ?_
  obtain ⟨s18, e19, h⟩ := gb h
  refine hR_cvV (wX9_put_s e19) (Nat.le_of_ble_eq_true rfl) rfl rfl rfl rfl rfl ?_
  refine hR_go 2 (pc1 := 122) (L1 := [some (.ref 4), some (.ref 2), some (.int x2), some (.int t15)]) (st1 := [.int 11, .int t15]) rfl ?_
  rcases gif h with ⟨c20, h⟩ | ⟨c20, h⟩
  · refine hR_ic_eq_j rfl c20 rfl ?_
    exact wX9_cutOne_u131 h
  · refine hR_ic_eq_f rfl c20 ?_
    refine hR_go 2 (pc1 := 128) (L1 := [some (.ref 4), some (.ref 2), some (.int x2), some (.int t15)]) (st1 := [.int 13, .int t15]) rfl ?_
    rcases gif h with ⟨c21, h⟩ | ⟨c21, h⟩
    · refine hR_ic_ne_f rfl c21 ?_
      exact wX9_cutOne_u131 h
    · refine hR_ic_ne_j rfl c21 rfl ?_
      refine hR_go 3 (pc1 := 140) (L1 := [some (.ref 4), some (.ref 2), some (.int x2), some (.int t15)]) (st1 := [.int (x2 + 1)]) rfl ?_
      obtain ⟨rfl, rfl⟩ := gi2 h
      exact hR_ri rfl rfl
noncomputable def wX9_cutOne (x2 : Int32) (s : wS) : Option (Int32 × wS) := (wX8_byteAt x2 s).bind fun t1 => if t1 = 32 then (some ((x2 + 1), s)) else ((wX8_isBetween x2 97 122 s).bind fun t4 => if t4 = 0 then ((wX8_isBetween x2 48 57 s).bind fun t7 => if t7 = 0 then ((wX8_byteAt x2 s).bind fun t10 => (wX8_byteAt (x2 + 1) s).bind fun t12 => if t12 = 61 then (wX9_cutOne_j108 x2 t10 1 s) else (wX9_cutOne_j108 x2 t10 0 s)) else ((wX9_endOf x2 48 57 s).bind fun t22 => (wX9_numberAt x2 t22 s).bind fun t24 => (wX9_put 2 x2 t24 s).bind fun s27 => some (t22, s27))) else ((wX9_endOf x2 97 122 s).bind fun t29 => (wX9_wordSign x2 t29 s).bind fun t31 => (wX9_put t31 x2 0 s).bind fun s34 => some (t29, s34)))
theorem wX9_cutOne_s {x2 : Int32} {s : wS} {rv : Int32} {rs : wS} (h : wX9_cutOne x2 s = some (rv, rs)) : hEv 7 90 [.ref 4, .ref 2, .int x2] (wmk s) (some (.int rv), wmk rs) := by
  refine hEv_w (d := 6) (L := [some (.ref 4), some (.ref 2), some (.int x2), none]) (by decide) rfl ?_
  unfold wX9_cutOne at h
  refine hR_go 2 (pc1 := 2) (L1 := [some (.ref 4), some (.ref 2), some (.int x2), none]) (st1 := [.int x2, .ref 2]) rfl ?_
  obtain ⟨t1, e2, h⟩ := gb h
  refine hR_cvI (wX8_byteAt_s e2) (Nat.le_of_ble_eq_true rfl) rfl rfl rfl rfl rfl ?_
  refine hR_go 1 (pc1 := 7) (L1 := [some (.ref 4), some (.ref 2), some (.int x2), none]) (st1 := [.int 32, .int t1]) rfl ?_
  rcases gif h with ⟨c3, h⟩ | ⟨c3, h⟩
  · refine hR_ic_ne_f rfl c3 ?_
    refine hR_go 3 (pc1 := 13) (L1 := [some (.ref 4), some (.ref 2), some (.int x2), none]) (st1 := [.int (x2 + 1)]) rfl ?_
    obtain ⟨rfl, rfl⟩ := gi2 h
    exact hR_ri rfl rfl
  · refine hR_ic_ne_j rfl c3 rfl ?_
    refine hR_go 4 (pc1 := 20) (L1 := [some (.ref 4), some (.ref 2), some (.int x2), none]) (st1 := [.int 122, .int 97, .int x2, .ref 2]) rfl ?_
    obtain ⟨t4, e5, h⟩ := gb h
    refine hR_cvI (wX8_isBetween_s e5) (Nat.le_of_ble_eq_true rfl) rfl rfl rfl rfl rfl ?_
    rcases gif h with ⟨c6, h⟩ | ⟨c6, h⟩
    · refine hR_iz_eq_j rfl c6 rfl ?_
      refine hR_go 4 (pc1 := 56) (L1 := [some (.ref 4), some (.ref 2), some (.int x2), none]) (st1 := [.int 57, .int 48, .int x2, .ref 2]) rfl ?_
      obtain ⟨t7, e8, h⟩ := gb h
      refine hR_cvI (wX8_isBetween_s e8) (Nat.le_of_ble_eq_true rfl) rfl rfl rfl rfl rfl ?_
      rcases gif h with ⟨c9, h⟩ | ⟨c9, h⟩
      · refine hR_iz_eq_j rfl c9 rfl ?_
        refine hR_go 2 (pc1 := 88) (L1 := [some (.ref 4), some (.ref 2), some (.int x2), none]) (st1 := [.int x2, .ref 2]) rfl ?_
        obtain ⟨t10, e11, h⟩ := gb h
        refine hR_cvI (wX8_byteAt_s e11) (Nat.le_of_ble_eq_true rfl) rfl rfl rfl rfl rfl ?_
        refine hR_go 4 (pc1 := 95) (L1 := [some (.ref 4), some (.ref 2), some (.int x2), none]) (st1 := [.int (x2 + 1), .ref 2, .int t10]) rfl ?_
        obtain ⟨t12, e13, h⟩ := gb h
        refine hR_cvI (wX8_byteAt_s e13) (Nat.le_of_ble_eq_true rfl) rfl rfl rfl rfl rfl ?_
        refine hR_go 1 (pc1 := 100) (L1 := [some (.ref 4), some (.ref 2), some (.int x2), none]) (st1 := [.int 61, .int t12, .int t10]) rfl ?_
        rcases gif h with ⟨c14, h⟩ | ⟨c14, h⟩
        · refine hR_ic_ne_f rfl c14 ?_
          refine hR_go 2 (pc1 := 108) (L1 := [some (.ref 4), some (.ref 2), some (.int x2), none]) (st1 := [.int 1, .int t10]) rfl ?_
          exact wX9_cutOne_u108 h
        · refine hR_ic_ne_j rfl c14 rfl ?_
          refine hR_go 1 (pc1 := 108) (L1 := [some (.ref 4), some (.ref 2), some (.int x2), none]) (st1 := [.int 0, .int t10]) rfl ?_
          exact wX9_cutOne_u108 h
      · refine hR_iz_eq_f rfl c9 ?_
        refine hR_go 4 (pc1 := 68) (L1 := [some (.ref 4), some (.ref 2), some (.int x2), none]) (st1 := [.int 57, .int 48, .int x2, .ref 2]) rfl ?_
        obtain ⟨t22, e23, h⟩ := gb h
        refine hR_csI (wX9_endOf_s e23) (Nat.le_of_ble_eq_true rfl) rfl rfl rfl rfl ?_
        refine hR_go 7 (pc1 := 78) (L1 := [some (.ref 4), some (.ref 2), some (.int x2), some (.int t22)]) (st1 := [.int t22, .int x2, .ref 2, .int x2, .int 2, .ref 4]) rfl ?_
        obtain ⟨t24, e25, h⟩ := gb h
        refine hR_csI (wX9_numberAt_s e25) (Nat.le_of_ble_eq_true rfl) rfl rfl rfl rfl ?_
        obtain ⟨s27, e28, h⟩ := gb h
        refine hR_cvV (wX9_put_s e28) (Nat.le_of_ble_eq_true rfl) rfl rfl rfl rfl rfl ?_
        refine hR_go 1 (pc1 := 85) (L1 := [some (.ref 4), some (.ref 2), some (.int x2), some (.int t22)]) (st1 := [.int t22]) rfl ?_
        obtain ⟨rfl, rfl⟩ := gi2 h
        exact hR_ri rfl rfl
    · refine hR_iz_eq_f rfl c6 ?_
      refine hR_go 4 (pc1 := 32) (L1 := [some (.ref 4), some (.ref 2), some (.int x2), none]) (st1 := [.int 122, .int 97, .int x2, .ref 2]) rfl ?_
      obtain ⟨t29, e30, h⟩ := gb h
      refine hR_csI (wX9_endOf_s e30) (Nat.le_of_ble_eq_true rfl) rfl rfl rfl rfl ?_
      refine hR_go 5 (pc1 := 40) (L1 := [some (.ref 4), some (.ref 2), some (.int x2), some (.int t29)]) (st1 := [.int t29, .int x2, .ref 2, .ref 4]) rfl ?_
      obtain ⟨t31, e32, h⟩ := gb h
      refine hR_hcsI (wX9_wordSign_s e32) (Nat.le_of_ble_eq_true rfl) rfl rfl rfl rfl ?_
      refine hR_go 2 (pc1 := 45) (L1 := [some (.ref 4), some (.ref 2), some (.int x2), some (.int t29)]) (st1 := [.int 0, .int x2, .int t31, .ref 4]) rfl ?_
      obtain ⟨s34, e35, h⟩ := gb h
      refine hR_cvV (wX9_put_s e35) (Nat.le_of_ble_eq_true rfl) rfl rfl rfl rfl rfl ?_
      refine hR_go 1 (pc1 := 49) (L1 := [some (.ref 4), some (.ref 2), some (.int x2), some (.int t29)]) (st1 := [.int t29]) rfl ?_
      obtain ⟨rfl, rfl⟩ := gi2 h
      exact hR_ri rfl rfl
noncomputable def wX9_cut_h19 : Nat → Int32 → Int32 → wS → Option (wS)
  | 0, _, _, _ => none
  | n + 1, x2, x3, s => if x3 < 400 then (if x2 < (s.1 1 1) then ((wX9_cutOne x2 s).bind fun (t6, s7) => wX9_cut_h19 n t6 (x3 + 1) s7) else (some s)) else (some s)
theorem wX9_cut_t19 {x : wS} {r : Option Value × ri_M} (he47 : ∀ (s : wS) (w2 : Int32) (w3 : Int32) , x = s → hRun 7 (hm 88) 47 [some (.ref 4), some (.ref 2), some (.int w2), some (.int w3)] [] (wmk s) r) : ∀ {n : Nat} {x2 : Int32} {x3 : Int32} {s : wS} , wX9_cut_h19 n x2 x3 s = some x → hRun 7 (hm 88) 19 [some (.ref 4), some (.ref 2), some (.int x2), some (.int x3)] [] (wmk s) r := by
  intro n
  induction n with
  | zero => intro x2 x3 s h; cases (show (none : Option (wS)) = some x from h)
  | succ n ih =>
    intro x2 x3 s h
    rw [wX9_cut_h19] at h
    refine hR_go 2 (pc1 := 23) (L1 := [some (.ref 4), some (.ref 2), some (.int x2), some (.int x3)]) (st1 := [.int 400, .int x3]) rfl ?_
    rcases gif h with ⟨c4, h⟩ | ⟨c4, h⟩
    · refine hR_ic_ge_f rfl c4 ?_
      refine hR_go 2 (pc1 := 28) (L1 := [some (.ref 4), some (.ref 2), some (.int x2), some (.int x3)]) (st1 := [.ref 2, .int x2]) rfl ?_
      refine hR_gfI (k := 1) rfl rfl rfl ?_
      rcases gif h with ⟨c5, h⟩ | ⟨c5, h⟩
      · refine hR_ic_ge_f rfl c5 ?_
        refine hR_go 3 (pc1 := 37) (L1 := [some (.ref 4), some (.ref 2), some (.int x2), some (.int x3)]) (st1 := [.int x2, .ref 2, .ref 4]) rfl ?_
        obtain ⟨⟨t6, s7⟩, e8, h⟩ := gb h
        dsimp only at h
        refine hR_hcvI (wX9_cutOne_s e8) (Nat.le_of_ble_eq_true rfl) rfl rfl rfl rfl rfl ?_
        refine hR_go 3 (pc1 := 19) (L1 := [some (.ref 4), some (.ref 2), some (.int t6), some (.int (x3 + 1))]) (st1 := []) rfl ?_
        exact ih h
      · refine hR_ic_ge_j rfl c5 rfl ?_
        exact he47 _ _ _ (Option.some.inj h).symm
    · refine hR_ic_ge_j rfl c4 rfl ?_
      exact he47 _ _ _ (Option.some.inj h).symm
noncomputable def wX9_cut_j47 (s : wS) : Option (wS) := (wX9_put 0 (s.1 1 1) 0 s).bind fun s14 => some s14
theorem wX9_cut_u47 {s : wS} {w2 : Int32} {w3 : Int32} {rs : wS} (h : wX9_cut_j47 s = some rs) : hRun 7 (hm 88) 47 [some (.ref 4), some (.ref 2), some (.int w2), some (.int w3)] [] (wmk s) (none, wmk rs) := by
  unfold wX9_cut_j47 at h
  refine hR_go 3 (pc1 := 50) (L1 := [some (.ref 4), some (.ref 2), some (.int w2), some (.int w3)]) (st1 := [.ref 2, .int 0, .ref 4]) rfl ?_
  refine hR_gfI (k := 1) rfl rfl rfl ?_
  refine hR_go 1 (pc1 := 54) (L1 := [some (.ref 4), some (.ref 2), some (.int w2), some (.int w3)]) (st1 := [.int 0, .int (s.1 1 1), .int 0, .ref 4]) rfl ?_
  obtain ⟨s14, e15, h⟩ := gb h
  refine hR_cvV (wX9_put_s e15) (Nat.le_of_ble_eq_true rfl) rfl rfl rfl rfl rfl ?_
  obtain rfl := gi1 h
  exact hR_rv rfl rfl
noncomputable def wX9_cut (s : wS) : Option (wS) := (wpfI s 3 3 0).bind fun s1 => (wpfI s1 3 4 0).bind fun s2 => (wpfI s2 3 5 0).bind fun s3 => (wX9_cut_h19 wFuel 0 0 s3).bind fun s10 => wX9_cut_j47 s10
theorem wX9_cut_s {s : wS} {rs : wS} (h : wX9_cut s = some rs) : hEv 8 88 [.ref 4, .ref 2] (wmk s) (none, wmk rs) := by
  refine hEv_w (d := 7) (L := [some (.ref 4), some (.ref 2), none, none]) (by decide) rfl ?_
  unfold wX9_cut at h
  refine hR_go 2 (pc1 := 2) (L1 := [some (.ref 4), some (.ref 2), none, none]) (st1 := [.int 0, .ref 4]) rfl ?_
  obtain ⟨s1, es1, h⟩ := gb h
  refine hR_pfI (k := 3) rfl rfl rfl rfl es1 ?_
  refine hR_go 2 (pc1 := 7) (L1 := [some (.ref 4), some (.ref 2), none, none]) (st1 := [.int 0, .ref 4]) rfl ?_
  obtain ⟨s2, es2, h⟩ := gb h
  refine hR_pfI (k := 3) rfl rfl rfl rfl es2 ?_
  refine hR_go 2 (pc1 := 12) (L1 := [some (.ref 4), some (.ref 2), none, none]) (st1 := [.int 0, .ref 4]) rfl ?_
  obtain ⟨s3, es3, h⟩ := gb h
  refine hR_pfI (k := 3) rfl rfl rfl rfl es3 ?_
  refine hR_go 4 (pc1 := 19) (L1 := [some (.ref 4), some (.ref 2), some (.int 0), some (.int 0)]) (st1 := []) rfl ?_
  obtain ⟨z9, ez9, h⟩ := gb h
  refine wX9_cut_t19 ?_  ez9
  · intro s10 w11 w12 hz
    replace hz := hz.symm
    subst hz
    exact wX9_cut_u47 h
noncomputable def wX10_court (s : wS) : Option (Int32 × wS) := (wX9_cut s).bind fun s2 => (wpfI s2 1 1 0).bind fun s4 => (wX1_read 9 s4).bind fun s6 => if (s6.1 3 5) = 0 then ((wX2_open 14 9 s6).bind fun s10 => (wX10_courtIsAnother s10).bind fun s13 => (wX0_worlds 15 s13).bind fun t15 => some (t15, s13)) else (some ((((Int8.ofInt (-2)).toInt32) - (s6.1 3 5)), s6))
theorem wX10_court_s {s : wS} {rv : Int32} {rs : wS} (h : wX10_court s = some (rv, rs)) : hEv 9 105 [.ref 1] (wmk s) (some (.int rv), wmk rs) := by
  refine hEv_w (d := 8) (L := [some (.ref 1)]) (by decide) rfl ?_
  unfold wX10_court at h
  refine hR_go 1 (pc1 := 1) (L1 := [some (.ref 1)]) (st1 := [.ref 1]) rfl ?_
  refine hR_gfR (k := 0) (k' := 3) rfl rfl rfl rfl ?_
  refine hR_go 1 (pc1 := 5) (L1 := [some (.ref 1)]) (st1 := [.ref 1, .ref 4]) rfl ?_
  refine hR_gfR (k := 0) (k' := 1) rfl rfl rfl rfl ?_
  obtain ⟨s2, e3, h⟩ := gb h
  refine hR_hcvV (wX9_cut_s e3) (Nat.le_of_ble_eq_true rfl) rfl rfl rfl rfl rfl ?_
  refine hR_go 1 (pc1 := 12) (L1 := [some (.ref 1)]) (st1 := [.ref 1]) rfl ?_
  refine hR_gfR (k := 0) (k' := 1) rfl rfl rfl rfl ?_
  refine hR_go 1 (pc1 := 16) (L1 := [some (.ref 1)]) (st1 := [.int 0, .ref 2]) rfl ?_
  obtain ⟨s4, es4, h⟩ := gb h
  refine hR_pfI (k := 1) rfl rfl rfl rfl es4 ?_
  refine hR_go 1 (pc1 := 20) (L1 := [some (.ref 1)]) (st1 := [.ref 1]) rfl ?_
  refine hR_gfR (k := 0) (k' := 7) rfl rfl rfl rfl ?_
  refine hR_go 1 (pc1 := 24) (L1 := [some (.ref 1)]) (st1 := [.ref 1, .ref 8]) rfl ?_
  refine hR_gfR (k := 0) (k' := 3) rfl rfl rfl rfl ?_
  refine hR_go 1 (pc1 := 28) (L1 := [some (.ref 1)]) (st1 := [.ref 1, .ref 4, .ref 8]) rfl ?_
  refine hR_gfR (k := 0) (k' := 9) rfl rfl rfl rfl ?_
  obtain ⟨s6, e7, h⟩ := gb h
  refine hR_cvV (wX1_read_s rfl e7) (Nat.le_of_ble_eq_true rfl) rfl rfl rfl rfl rfl ?_
  refine hR_go 1 (pc1 := 35) (L1 := [some (.ref 1)]) (st1 := [.ref 1]) rfl ?_
  refine hR_gfR (k := 0) (k' := 3) rfl rfl rfl rfl ?_
  refine hR_gfI (k := 3) rfl rfl rfl ?_
  rcases gif h with ⟨c8, h⟩ | ⟨c8, h⟩
  · refine hR_iz_eq_j rfl c8 rfl ?_
    refine hR_go 1 (pc1 := 56) (L1 := [some (.ref 1)]) (st1 := [.ref 1]) rfl ?_
    refine hR_gfR (k := 0) (k' := 14) rfl rfl rfl rfl ?_
    refine hR_go 1 (pc1 := 60) (L1 := [some (.ref 1)]) (st1 := [.ref 1, .ref 15]) rfl ?_
    refine hR_gfR (k := 0) (k' := 9) rfl rfl rfl rfl ?_
    obtain ⟨s10, e11, h⟩ := gb h
    refine hR_cvV (wX2_open_s rfl rfl e11) (Nat.le_of_ble_eq_true rfl) rfl rfl rfl rfl rfl ?_
    refine hR_go 1 (pc1 := 67) (L1 := [some (.ref 1)]) (st1 := [.ref 1]) rfl ?_
    obtain ⟨s13, e14, h⟩ := gb h
    refine hR_cvV (wX10_courtIsAnother_s e14) (Nat.le_of_ble_eq_true rfl) rfl rfl rfl rfl rfl ?_
    refine hR_go 1 (pc1 := 71) (L1 := [some (.ref 1)]) (st1 := [.ref 1]) rfl ?_
    refine hR_gfR (k := 0) (k' := 14) rfl rfl rfl rfl ?_
    refine hR_gfR (k := 14) (k' := 15) rfl rfl rfl rfl ?_
    obtain ⟨t15, e16, h⟩ := gb h
    refine hR_cvI (wX0_worlds_s rfl e16) (Nat.le_of_ble_eq_true rfl) rfl rfl rfl rfl rfl ?_
    obtain ⟨rfl, rfl⟩ := gi2 h
    exact hR_ri rfl rfl
  · refine hR_iz_eq_f rfl c8 ?_
    refine hR_go 2 (pc1 := 47) (L1 := [some (.ref 1)]) (st1 := [.ref 1, .int ((Int8.ofInt (-2)).toInt32)]) rfl ?_
    refine hR_gfR (k := 0) (k' := 3) rfl rfl rfl rfl ?_
    refine hR_gfI (k := 3) rfl rfl rfl ?_
    refine hR_sub rfl ?_
    obtain ⟨rfl, rfl⟩ := gi2 h
    exact hR_ri rfl rfl
noncomputable def wX10_law (s : wS) : Option (Int32 × wS) := if (s.1 0 6) < 6 then ((wldR 13 6 (s.1 0 6)).bind fun k2 => (wX9_cut s).bind fun s4 => (wpfI s4 1 1 0).bind fun s6 => (wX4_read k2 s6).bind fun s8 => if (s8.1 3 5) = 0 then ((wpfI s8 0 6 ((s8.1 0 6) + 1)).bind fun s11 => some (((s11.1 0 6) - 1), s11)) else (some ((((Int8.ofInt (-2)).toInt32) - (s8.1 3 5)), s8))) else (some ((-1), s))
theorem wX10_law_s {s : wS} {rv : Int32} {rs : wS} (h : wX10_law s = some (rv, rs)) : hEv 40 106 [.ref 1] (wmk s) (some (.int rv), wmk rs) := by
  refine hEv_w (d := 39) (L := [some (.ref 1), none]) (by decide) rfl ?_
  unfold wX10_law at h
  refine hR_go 1 (pc1 := 1) (L1 := [some (.ref 1), none]) (st1 := [.ref 1]) rfl ?_
  refine hR_gfI (k := 0) rfl rfl rfl ?_
  refine hR_go 1 (pc1 := 6) (L1 := [some (.ref 1), none]) (st1 := [.int 6, .int (s.1 0 6)]) rfl ?_
  rcases gif h with ⟨c1, h⟩ | ⟨c1, h⟩
  · refine hR_ic_lt_j rfl c1 rfl ?_
    refine hR_go 1 (pc1 := 12) (L1 := [some (.ref 1), none]) (st1 := [.ref 1]) rfl ?_
    refine hR_gfR (k := 0) (k' := 13) rfl rfl rfl rfl ?_
    refine hR_go 1 (pc1 := 16) (L1 := [some (.ref 1), none]) (st1 := [.ref 1, .ref 14]) rfl ?_
    refine hR_gfI (k := 0) rfl rfl rfl ?_
    obtain ⟨k2, ek2, h⟩ := gb h
    refine hR_aal (k := 13) rfl rfl rfl ek2 ?_
    refine hR_go 2 (pc1 := 22) (L1 := [some (.ref 1), some (.ref (k2 + 1))]) (st1 := [.ref (k2 + 1)]) rfl ?_
    refine hR_ifnonnull_r_j rfl rfl ?_
    refine hR_go 1 (pc1 := 28) (L1 := [some (.ref 1), some (.ref (k2 + 1))]) (st1 := [.ref 1]) rfl ?_
    refine hR_gfR (k := 0) (k' := 3) rfl rfl rfl rfl ?_
    refine hR_go 1 (pc1 := 32) (L1 := [some (.ref 1), some (.ref (k2 + 1))]) (st1 := [.ref 1, .ref 4]) rfl ?_
    refine hR_gfR (k := 0) (k' := 1) rfl rfl rfl rfl ?_
    obtain ⟨s4, e5, h⟩ := gb h
    refine hR_hcvV (wX9_cut_s e5) (Nat.le_of_ble_eq_true rfl) rfl rfl rfl rfl rfl ?_
    refine hR_go 1 (pc1 := 39) (L1 := [some (.ref 1), some (.ref (k2 + 1))]) (st1 := [.ref 1]) rfl ?_
    refine hR_gfR (k := 0) (k' := 1) rfl rfl rfl rfl ?_
    refine hR_go 1 (pc1 := 43) (L1 := [some (.ref 1), some (.ref (k2 + 1))]) (st1 := [.int 0, .ref 2]) rfl ?_
    obtain ⟨s6, es6, h⟩ := gb h
    refine hR_pfI (k := 1) rfl rfl rfl rfl es6 ?_
    refine hR_go 1 (pc1 := 47) (L1 := [some (.ref 1), some (.ref (k2 + 1))]) (st1 := [.ref 1]) rfl ?_
    refine hR_gfR (k := 0) (k' := 8) rfl rfl rfl rfl ?_
    refine hR_go 1 (pc1 := 51) (L1 := [some (.ref 1), some (.ref (k2 + 1))]) (st1 := [.ref 1, .ref 9]) rfl ?_
    refine hR_gfR (k := 0) (k' := 3) rfl rfl rfl rfl ?_
    refine hR_go 1 (pc1 := 55) (L1 := [some (.ref 1), some (.ref (k2 + 1))]) (st1 := [.ref (k2 + 1), .ref 4, .ref 9]) rfl ?_
    obtain ⟨s8, e9, h⟩ := gb h
    refine hR_cvV (wX4_read_s (wldR_3 ek2) e9) (Nat.le_of_ble_eq_true rfl) rfl rfl rfl rfl rfl ?_
    refine hR_go 1 (pc1 := 59) (L1 := [some (.ref 1), some (.ref (k2 + 1))]) (st1 := [.ref 1]) rfl ?_
    refine hR_gfR (k := 0) (k' := 3) rfl rfl rfl rfl ?_
    refine hR_gfI (k := 3) rfl rfl rfl ?_
    rcases gif h with ⟨c10, h⟩ | ⟨c10, h⟩
    · refine hR_iz_eq_j rfl c10 rfl ?_
      refine hR_go 2 (pc1 := 81) (L1 := [some (.ref 1), some (.ref (k2 + 1))]) (st1 := [.ref 1, .ref 1]) rfl ?_
      refine hR_gfI (k := 0) rfl rfl rfl ?_
      refine hR_go 2 (pc1 := 86) (L1 := [some (.ref 1), some (.ref (k2 + 1))]) (st1 := [.int ((s8.1 0 6) + 1), .ref 1]) rfl ?_
      obtain ⟨s11, es11, h⟩ := gb h
      refine hR_pfI (k := 0) rfl rfl rfl rfl es11 ?_
      refine hR_go 1 (pc1 := 90) (L1 := [some (.ref 1), some (.ref (k2 + 1))]) (st1 := [.ref 1]) rfl ?_
      refine hR_gfI (k := 0) rfl rfl rfl ?_
      refine hR_go 2 (pc1 := 95) (L1 := [some (.ref 1), some (.ref (k2 + 1))]) (st1 := [.int ((s11.1 0 6) - 1)]) rfl ?_
      obtain ⟨rfl, rfl⟩ := gi2 h
      exact hR_ri rfl rfl
    · refine hR_iz_eq_f rfl c10 ?_
      refine hR_go 2 (pc1 := 71) (L1 := [some (.ref 1), some (.ref (k2 + 1))]) (st1 := [.ref 1, .int ((Int8.ofInt (-2)).toInt32)]) rfl ?_
      refine hR_gfR (k := 0) (k' := 3) rfl rfl rfl rfl ?_
      refine hR_gfI (k := 3) rfl rfl rfl ?_
      refine hR_sub rfl ?_
      obtain ⟨rfl, rfl⟩ := gi2 h
      exact hR_ri rfl rfl
  · refine hR_ic_lt_f rfl c1 ?_
    refine hR_go 1 (pc1 := 10) (L1 := [some (.ref 1), none]) (st1 := [.int (-1)]) rfl ?_
    obtain ⟨rfl, rfl⟩ := gi2 h
    exact hR_ri rfl rfl
