/-! verdict, count: both sides alike. -/
section VERD
variable {s : wS}
/-- how many WORLDS -/
theorem wws_E (g : JA s) : ∃ w : Int32, wX0_worlds 15 s = some w ∧ (∀ u : wS, u.1 163 = s.1 163 → wX11_worlds u = some w) ∧ w.toInt = (s.1 163 0).toInt * (s.1 163 1).toInt * (s.1 163 2).toInt ∧ 0 ≤ w.toInt ∧ w.toInt ≤ 512 := by
  obtain ⟨c0, c1, c2, -⟩ := g.c
  have m := many_E g
  have q1 : 0 ≤ (s.1 163 0).toInt * (s.1 163 1).toInt ∧ (s.1 163 0).toInt * (s.1 163 1).toInt ≤ 64 := ⟨Int.mul_nonneg c0.1 c1.1, by
    have := Int.mul_le_mul c0.2 c1.2 c1.1 (by decide); exact this⟩
  have q2 : 0 ≤ (s.1 163 0).toInt * (s.1 163 1).toInt * (s.1 163 2).toInt ∧ (s.1 163 0).toInt * (s.1 163 1).toInt * (s.1 163 2).toInt ≤ 512 := ⟨Int.mul_nonneg q1.1 c2.1, by
    have := Int.mul_le_mul q1.2 c2.2 c2.1 (by decide); exact this⟩
  have p1 : (s.1 163 0 * s.1 163 1).toInt = (s.1 163 0).toInt * (s.1 163 1).toInt := t_mul (by omega) (by omega)
  have p2 : (s.1 163 0 * s.1 163 1 * s.1 163 2).toInt = (s.1 163 0).toInt * (s.1 163 1).toInt * (s.1 163 2).toInt := by rw [t_mul (by rw [p1]; omega) (by rw [p1]; omega), p1]
  refine ⟨s.1 163 0 * s.1 163 1 * s.1 163 2, ?_, fun u hu => by unfold wX11_worlds; rw [hu], p2, by omega, by omega⟩
  unfold wX0_worlds
  rw [wld_E (by decide) (by decide), t_sbe, wld_E (by decide) (by decide), t_sbe, wld_E (by decide) (by decide), t_sbe]
  have a0 : s.1 (15 + 1) (Int32.toNatClampNeg 0) = s.1 163 0 := m 0 (by decide)
  have a1 : s.1 (15 + 1) (Int32.toNatClampNeg 1) = s.1 163 1 := m 1 (by decide)
  have a2 : s.1 (15 + 1) (Int32.toNatClampNeg 2) = s.1 163 2 := m 2 (by decide)
  rw [a0, a1, a2]
theorem isWorld_E (g : JA s) {w : Int32} (hw : w.toInt = (s.1 163 0).toInt * (s.1 163 1).toInt * (s.1 163 2).toInt) {x : Int32} {u : wS} (hu : u.1 163 = s.1 163) : wX11_isWorld x u = some (if 0 ≤ x.toInt ∧ x.toInt < w.toInt then 1 else 0) := by
  obtain ⟨w', -, e, h, -⟩ := wws_E g
  obtain rfl : w' = w := Int32.toInt_inj.1 (h.trans hw.symm)
  unfold wX11_isWorld
  by_cases c : x < 0
  · have := t_lt c
    rw [t_i0] at this
    rw [if_pos c, if_neg (by omega)]
  · have a := t_ge c
    rw [t_i0] at a
    rw [if_neg c, e u hu, t_sbe]
    by_cases d : x < w'
    · have := t_lt d
      rw [if_pos d, if_pos (by omega)]
    · have := t_ge d
      rw [if_neg d, if_neg (by omega)]
/-- the verdicts forgotten -/
theorem ver_0 (g : JA s) : ∃ v s1 v2 s2, wX10_verdict (-1) s = some (v, s1) ∧ wX11_verdict (-1) s1 = some (v2, s2) ∧ v = v2 ∧ JA s2 := by
  have e1 : wX10_verdict (-1) s = some (0, wupI s 14 10 0) := by
    unfold wX10_verdict
    rw [if_pos rfl]
    rfl
  have i1 : INV (wupI s 14 10 0) := by
    obtain ⟨r, er, p1⟩ := wX10_verdict_T (x1 := -1) (s := s)
    rw [e1] at er
    obtain rfl := Option.some.inj er
    exact INV_C p1 g.inv (by rw [p1 0 6 rfl]; exact g.inv.1) rfl (fun _ => rfl) ⟨rfl, rfl, rfl, rfl⟩ (fun _ => ⟨rfl, rfl, rfl, rfl, rfl, rfl⟩) rfl rfl
  have u163 : (wupI s 14 10 0).1 163 = s.1 163 := wupI_n (by decide)
  have e2 : wX11_verdict (-1) (wupI s 14 10 0) = some (0, wupI (wupI s 14 10 0) 163 5 0) := by
    unfold wX11_verdict
    rw [if_pos rfl, wst_E (by decide) (by decide), t_sbe]
    rfl
  have ri : RI (wupI (wupI s 14 10 0) 163 5 0) := by
    obtain ⟨r, er, p2, -⟩ := wX11_verdict_T (x1 := -1) (s := wupI s 14 10 0) i1.2.1
    rw [e2] at er
    obtain rfl := Option.some.inj er
    exact p2
  obtain ⟨⟨d6, d7, d10, d11⟩, -⟩ := g.h.2.1
  refine ⟨_, _, _, _, e1, e2, rfl, JA_hear g ((wA_I (bHe_c (by omega))).trans (wA_I (by unfold bHe; rfl))) ri ?_⟩
  have w : ∀ k, k ≠ 163 → k ≠ 14 → (wupI (wupI s 14 10 0) 163 5 0).1 k = s.1 k := fun k k1 k2 => by rw [wupI_n k1, wupI_n k2]
  have w14 : (wupI (wupI s 14 10 0) 163 5 0).1 14 = upd (s.1 14) 10 0 := by rw [wupI_n (by decide), wupI_k]
  have f : (wupI (wupI s 14 10 0) 163 5 0).1 163 = upd (s.1 163) 5 0 := by rw [wupI_k, u163]
  rw [f]
  have ff : ∀ j, j ≠ 5 → upd (s.1 163) 5 0 j = s.1 163 j := fun j hj => updI_n hj
  have fs : upd (s.1 163) 5 0 5 = 0 := updI_s
  have r4 := ff 4 (by omega)
  have r6 := ff 6 (by omega)
  generalize wupI (wupI s 14 10 0) 163 5 0 = t at *
  generalize upd (s.1 163) 5 0 = f' at *
  obtain ⟨C, x0, x5, x6⟩ := hc_go (f' := f') (t := t) g.h.1 g.h.2.2 g.c (fun k k1 k2 => w k (by omega) (by omega)) (fun j hj => ff j (by omega))
  obtain ⟨v6, A, xA, xw⟩ := ha_go (f' := f') (t := t) g.h.2.1 g.h.2.2 g.c (by rw [w14]; exact updI_n (by decide)) (fun k k1 k2 => w k (by omega) (by omega)) (ff 3 (by omega)) (fun j h1 h2 => ff j (by omega))
  refine ⟨C, ⟨⟨v6, ?_, ?_, ?_⟩, A, fun v hv => ?_⟩, x0, ?_, xA, xw, fun v hv => ?_, x5, x6⟩
  · rw [w14, r4]; exact (updI_n (by decide)).trans d7
  · rw [w14, updI_s, fs]
  · rw [w14, r6]; exact (updI_n (by decide)).trans d11
  · rw [fs, t_i0] at hv; exact absurd hv (by omega)
  · rw [r4]; exact g.h.2.2.2.1
  · rw [fs, t_i0] at hv; exact absurd hv (by omega)
/-- one verdict more -/
noncomputable abbrev ve1 (s : wS) (V : Nat) (x N : Int32) : wS := wupI (wupI (wupI s 24 V x) 25 V N) 14 10 (Int32.ofNat (V + 1))
noncomputable abbrev ve2 (s : wS) (V : Nat) (x N : Int32) : wS := wupI (wupI (wupI s 163 (242 + 2 * V) x) 163 (242 + 2 * V + 1) N) 163 5 (Int32.ofNat (V + 1))
theorem ver_1 (g : JA s) {x1 : Int32} {V : Nat} (hV : s.1 163 5 = Int32.ofNat V) (h10 : V < 10) (h0 : 0 ≤ x1.toInt) (h1 : x1.toInt < (s.1 163 0).toInt * (s.1 163 1).toInt * (s.1 163 2).toInt) (hn : ¬ x1 = -1) : ∃ v s1 v2 s2, wX10_verdict x1 s = some (v, s1) ∧ wX11_verdict x1 s1 = some (v2, s2) ∧ v = v2 ∧ JA s2 := by
  obtain ⟨W, w1, w2, w3, w4, w5⟩ := wws_E g
  obtain ⟨⟨d6, d7, d10, d11⟩, -, hVV⟩ := g.h.2.1
  have eV : (Int32.ofNat V).toInt = V := t_on (by omega)
  have enV : (Int32.ofNat V).toNatClampNeg = V := t_nc (by omega)
  have h14 : s.1 14 10 = Int32.ofNat V := d10.trans hV
  have e1V : Int32.ofNat V + 1 = Int32.ofNat (V + 1) := Int32.toInt_inj.1 (by rw [t_p1 (by omega) (by omega), eV, t_on (by omega)]; rfl)
  have e10 : (10 : Int32).toInt = 10 := rfl
  have e1 : wX10_verdict x1 s = some (Int32.ofNat (V + 1), ve1 s V x1 (s.1 163 3)) := by
    unfold wX10_verdict wX2_judge
    rw [if_neg hn, w1, t_sbe, isOutside_E, if_pos ⟨h0, by omega⟩, t_sbe, qi0, h14, if_pos (Int32.lt_iff_toInt_lt.2 (by omega)), isOutside_E, if_pos ⟨by omega, by omega⟩, t_sbe, qi0, wst_E (by omega) (by omega), t_sbe, enV, wupI_n (by decide), h14, wst_E (by omega) (by omega), t_sbe, enV, d6]
    show some ((wupI (wupI (wupI s (14 + 10) V x1) (14 + 11) V (s.1 163 3)) 14 10 ((wupI (wupI s (14 + 10) V x1) (14 + 11) V (s.1 163 3)).1 14 10 + 1)).1 14 10, wupI (wupI (wupI s (14 + 10) V x1) (14 + 11) V (s.1 163 3)) 14 10 ((wupI (wupI s (14 + 10) V x1) (14 + 11) V (s.1 163 3)).1 14 10 + 1)) = _
    rw [wup_same, wupI_n (by decide), wupI_n (by decide), h14, e1V]
  have i1 : INV (ve1 s V x1 (s.1 163 3)) := by
    obtain ⟨r, er, p1⟩ := wX10_verdict_T (x1 := x1) (s := s)
    rw [e1] at er
    obtain rfl := Option.some.inj er
    exact INV_C p1 g.inv (by rw [p1 0 6 rfl]; exact g.inv.1) rfl (fun _ => rfl) ⟨rfl, rfl, rfl, rfl⟩ (fun _ => ⟨rfl, rfl, rfl, rfl, rfl, rfl⟩) rfl rfl
  have u163 : (ve1 s V x1 (s.1 163 3)).1 163 = s.1 163 := by rw [wupI_n (by decide), wupI_n (by decide), wupI_n (by decide)]
  have e2 : wX11_verdict x1 (ve1 s V x1 (s.1 163 3)) = some (Int32.ofNat (V + 1), ve2 (ve1 s V x1 (s.1 163 3)) V x1 (s.1 163 3)) := by
    unfold wX11_verdict
    have hWw : wX11_isWorld x1 (ve1 s V x1 (s.1 163 3)) = some 1 := by
      rw [isWorld_E g w3 u163, if_pos ⟨h0, by omega⟩]
    rw [if_neg hn, hWw, t_sbe, qi1, u163, hV, if_neg (fun q => by have := congrArg Int32.toInt q; omega)]
    have e2' : (2 : Int32).toInt = 2 := rfl
    have e242 : (242 : Int32).toInt = 242 := rfl
    have e1' : (1 : Int32).toInt = 1 := rfl
    have q1 : (2 * Int32.ofNat V).toInt = 2 * V := by rw [t_mul (by rw [e2', eV]; omega) (by rw [e2', eV]; omega), e2', eV]
    have q2 : (242 + 2 * Int32.ofNat V).toInt = 242 + 2 * V := by rw [t_add (by omega) (by omega), q1, e242]
    have q3 : (242 + 2 * Int32.ofNat V + 1).toInt = 242 + 2 * V + 1 := by rw [t_add (by omega) (by omega), q2, e1']
    have q2n : (242 + 2 * Int32.ofNat V).toNatClampNeg = 242 + 2 * V := by unfold Int32.toNatClampNeg; omega
    have q3n : (242 + 2 * Int32.ofNat V + 1).toNatClampNeg = 242 + 2 * V + 1 := by unfold Int32.toNatClampNeg; omega
    rw [wst_E (by omega) (by omega), t_sbe, q2n, wup_nb (show 5 ≠ 242 + 2 * V by omega), wup_nb (show 3 ≠ 242 + 2 * V by omega), u163, hV, wst_E (by omega) (by omega), t_sbe, q3n, wup_nb (show 5 ≠ 242 + 2 * V + 1 by omega), wup_nb (show 5 ≠ 242 + 2 * V by omega), u163, hV, e1V, wst_E (by decide) (by decide), t_sbe, show Int32.toNatClampNeg 5 = 5 from rfl, wup_same]
  have ri : RI (ve2 (ve1 s V x1 (s.1 163 3)) V x1 (s.1 163 3)) := by
    obtain ⟨r, er, p2, -⟩ := wX11_verdict_T (x1 := x1) (s := ve1 s V x1 (s.1 163 3)) i1.2.1
    rw [e2] at er
    obtain rfl := Option.some.inj er
    exact p2
  have h163 : ∀ b, bHe 163 b = true := fun b => by unfold bHe; rfl
  refine ⟨_, _, _, _, e1, e2, rfl, JA_hear g ((((wA_I (bHe_c (by omega))).trans (wA_I (bHe_c (by omega)))).trans (wA_I (bHe_c (by omega)))).trans (((wA_I (h163 _)).trans (wA_I (h163 _))).trans (wA_I (h163 _)))) ri ?_⟩
  have w : ∀ k, k ≠ 163 → k ≠ 14 → k ≠ 24 → k ≠ 25 → (ve2 (ve1 s V x1 (s.1 163 3)) V x1 (s.1 163 3)).1 k = s.1 k := fun k k1 k2 k3 k4 => by rw [wupI_n k1, wupI_n k1, wupI_n k1, wupI_n k2, wupI_n k4, wupI_n k3]
  have w14 : (ve2 (ve1 s V x1 (s.1 163 3)) V x1 (s.1 163 3)).1 14 = upd (s.1 14) 10 (Int32.ofNat (V + 1)) := by rw [wupI_n (by decide), wupI_n (by decide), wupI_n (by decide), wupI_k, wupI_n (by decide), wupI_n (by decide)]
  have w24 : (ve2 (ve1 s V x1 (s.1 163 3)) V x1 (s.1 163 3)).1 24 = upd (s.1 24) V x1 := by rw [wupI_n (by decide), wupI_n (by decide), wupI_n (by decide), wupI_n (by decide), wupI_n (by decide), wupI_k]
  have w25 : (ve2 (ve1 s V x1 (s.1 163 3)) V x1 (s.1 163 3)).1 25 = upd (s.1 25) V (s.1 163 3) := by rw [wupI_n (by decide), wupI_n (by decide), wupI_n (by decide), wupI_n (by decide), wupI_k, wupI_n (by decide)]
  have f : (ve2 (ve1 s V x1 (s.1 163 3)) V x1 (s.1 163 3)).1 163 = upd (upd (upd (s.1 163) (242 + 2 * V) x1) (242 + 2 * V + 1) (s.1 163 3)) 5 (Int32.ofNat (V + 1)) := by rw [wupI_k, wupI_k, wupI_k, u163]
  rw [f]
  have ff : ∀ j, j ≠ 5 → j ≠ 242 + 2 * V → j ≠ 242 + 2 * V + 1 → upd (upd (upd (s.1 163) (242 + 2 * V) x1) (242 + 2 * V + 1) (s.1 163 3)) 5 (Int32.ofNat (V + 1)) j = s.1 163 j := fun j h1 h2 h3 => by rw [updI_n h1, updI_n h3, updI_n h2]
  have f5 : upd (upd (upd (s.1 163) (242 + 2 * V) x1) (242 + 2 * V + 1) (s.1 163 3)) 5 (Int32.ofNat (V + 1)) 5 = Int32.ofNat (V + 1) := updI_s
  have fx : upd (upd (upd (s.1 163) (242 + 2 * V) x1) (242 + 2 * V + 1) (s.1 163 3)) 5 (Int32.ofNat (V + 1)) (242 + 2 * V) = x1 := by rw [updI_n (by omega), updI_n (by omega), updI_s]
  have fy : upd (upd (upd (s.1 163) (242 + 2 * V) x1) (242 + 2 * V + 1) (s.1 163 3)) 5 (Int32.ofNat (V + 1)) (242 + 2 * V + 1) = s.1 163 3 := by rw [updI_n (by omega), updI_s]
  have r4 := ff 4 (by omega) (by omega) (by omega)
  have r6 := ff 6 (by omega) (by omega) (by omega)
  have r0 := ff 0 (by omega) (by omega) (by omega)
  have r1 := ff 1 (by omega) (by omega) (by omega)
  have r2 := ff 2 (by omega) (by omega) (by omega)
  generalize ve2 (ve1 s V x1 (s.1 163 3)) V x1 (s.1 163 3) = t at *
  generalize upd (upd (upd (s.1 163) (242 + 2 * V) x1) (242 + 2 * V + 1) (s.1 163 3)) 5 (Int32.ofNat (V + 1)) = f' at *
  obtain ⟨C, x0, x5, x6⟩ := hc_go (f' := f') (t := t) g.h.1 g.h.2.2 g.c (fun k k1 k2 => w k (by omega) (by omega) (by omega) (by omega)) (fun j hj => ff j (by omega) (by omega) (by omega))
  obtain ⟨v6, A, xA, xw⟩ := ha_go (f' := f') (t := t) g.h.2.1 g.h.2.2 g.c (by rw [w14]; exact updI_n (by decide)) (fun k k1 k2 => w k (by omega) (by omega) (by omega) (by omega)) (ff 3 (by omega) (by omega) (by omega)) (fun j h1 h2 => ff j (by omega) (by omega) (by omega))
  have e5 : (s.1 163 5).toInt = V := by rw [hV, eV]
  refine ⟨C, ⟨⟨v6, ?_, ?_, ?_⟩, A, fun v hv => ?_⟩, x0, ?_, xA, xw, fun v hv => ?_, x5, x6⟩
  · rw [w14, r4]; exact (updI_n (by decide)).trans d7
  · rw [w14, updI_s, f5]
  · rw [w14, r6]; exact (updI_n (by decide)).trans d11
  · rw [f5, t_on (by omega)] at hv
    rw [show 14 + 10 = 24 from rfl, show 14 + 11 = 25 from rfl, w24, w25]
    by_cases k : v = V
    · rw [k, updI_s, updI_s, fx, fy]
      exact ⟨rfl, rfl⟩
    · rw [updI_n k, updI_n k, ff _ (by omega) (by omega) (by omega), ff _ (by omega) (by omega) (by omega)]
      exact hVV v (by omega)
  · rw [r4]; exact g.h.2.2.2.1
  · rw [f5, t_on (by omega)] at hv
    rw [r0, r1, r2]
    by_cases k : v = V
    · rw [k, fx]
      exact ⟨h0, h1⟩
    · rw [ff _ (by omega) (by omega) (by omega)]
      exact g.h.2.2.2.2.2.2.1 v (by omega)
theorem op_verdict {x1 : Int32} (g : JA s) : ∃ v s1 v2 s2, wX10_verdict x1 s = some (v, s1) ∧ wX11_verdict x1 s1 = some (v2, s2) ∧ v = v2 ∧ JA s2 := by
  by_cases n : x1 = -1
  · rw [n]; exact ver_0 g
  · obtain ⟨W, w1, w2, w3, w4, w5⟩ := wws_E g
    have q5 := g.c.2.2.2.2.2.1
    have d10 := g.h.2.1.1.2.2.1
    by_cases k : 0 ≤ x1.toInt ∧ x1.toInt < W.toInt
    · by_cases m : (s.1 163 5).toInt < 10
      · exact ver_1 g (V := (s.1 163 5).toNatClampNeg) (t_oc q5.1).symm (by have := t_cln q5.1; omega) k.1 (by omega) n
      · refine ⟨(Int8.ofInt (-2)).toInt32, s, (Int8.ofInt (-2)).toInt32, s, ?_, ?_, rfl, g⟩
        · unfold wX10_verdict
          rw [if_neg n, w1, t_sbe, isOutside_E, if_pos k, t_sbe, qi0, d10, if_neg (fun q => m (t_lt q))]
        · unfold wX11_verdict
          rw [if_neg n, isWorld_E g w3 rfl, if_pos k, t_sbe, qi1, if_pos (Int32.toInt_inj.1 (by rw [show (10 : Int32).toInt = 10 from rfl]; omega))]
    · refine ⟨(Int8.ofInt (-2)).toInt32, s, (Int8.ofInt (-2)).toInt32, s, ?_, ?_, rfl, g⟩
      · unfold wX10_verdict
        rw [if_neg n, w1, t_sbe, isOutside_E, if_neg k, t_sbe, qi1]
      · unfold wX11_verdict
        rw [if_neg n, isWorld_E g w3 rfl, if_neg k, t_sbe, qi0]
end VERD
