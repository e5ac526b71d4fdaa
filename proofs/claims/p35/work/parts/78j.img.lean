/-! image, back: both sides alike. -/
section IMG
variable {s : wS}
/-- a hearing became another -/
noncomputable def BEC (kd ks : Nat) (s r : wS) : Prop := (∀ k, ¬ (kd ≤ k ∧ k ≤ kd + 11) → r.1 k = s.1 k) ∧ (r.1 kd 6 = s.1 ks 6 ∧ r.1 kd 7 = s.1 ks 7 ∧ r.1 kd 10 = s.1 ks 10 ∧ r.1 kd 11 = s.1 ks 11) ∧ (∀ j, j < 3 → r.1 (kd + 2) j = s.1 (ks + 2) j) ∧ (∀ j, j < 24 → r.1 (kd + 3) j = s.1 (ks + 3) j ∧ r.1 (kd + 4) j = s.1 (ks + 4) j) ∧ (∀ j, j < 40 → r.1 (kd + 5) j = s.1 (ks + 5) j ∧ r.1 (kd + 6) j = s.1 (ks + 6) j ∧ r.1 (kd + 7) j = s.1 (ks + 7) j ∧ r.1 (kd + 8) j = s.1 (ks + 8) j ∧ r.1 (kd + 9) j = vp_nar .boolean (s.1 (ks + 9) j)) ∧ (∀ j, j < 10 → r.1 (kd + 10) j = s.1 (ks + 10) j ∧ r.1 (kd + 11) j = s.1 (ks + 11) j)
theorem t_cpE {k n k1 n1 l : Nat} {m : Int32} {s : wS} (hm : m = Int32.ofNat l) (hl : l ≤ n) (hl1 : l ≤ n1) (hb : l < 1000) : Tot (wcpI s k n k1 n1 0 0 m) (fun s' => (∀ j, j ≠ k1 → s'.1 j = s.1 j) ∧ ∀ j, j < l → s'.1 k1 j = s.1 k j) := by
  refine ⟨_, wcp_E hm hl hl1 hb, fun j hj => ?_, fun j hj => ?_⟩
  · show (if j = k1 then _ else s.1 j) = s.1 j
    rw [if_neg hj]
  · show (if k1 = k1 then va_cpy (s.1 k) (s.1 k1) 0 0 l else s.1 k1) j = s.1 k j
    rw [if_pos rfl]
    exact cpy_at hj
theorem bec73_E {k0 k1 : Nat} (hne : k1 ≠ k0) : ∀ (n : Nat) {x2 : Int32} {s : wS}, 0 ≤ x2.toInt → x2.toInt ≤ 40 → 40 - x2.toInt < (n : Int) → Tot (wX2_becomes_h73 k0 k1 n x2 s) (fun r => (∀ k, k ≠ k0 + 9 → r.1 k = s.1 k) ∧ ∀ i, r.1 (k0 + 9) i = if x2.toNatClampNeg ≤ i ∧ i < 40 then vp_nar .boolean (s.1 (k1 + 9) i) else s.1 (k0 + 9) i) := by
  intro n
  induction n with
  | zero => intro x2 s _ _ hm; exfalso; omega
  | succ n ih =>
    intro x2 s h0 h2 hm
    rw [wX2_becomes_h73]
    have e40 : (40 : Int32).toInt = 40 := rfl
    by_cases c : x2 < 40
    · have hc := t_lt c
      rw [e40] at hc
      rw [if_pos c, wld_E h0 (by omega), t_sbe, wstZ_E h0 (by omega), t_sbe]
      have e1 := t_p1 (x := x2) h0 (by omega)
      refine t_mono (ih (x2 := x2 + 1) (by omega) (by omega) (by omega)) (fun r hr => ⟨fun k hk => ?_, fun i => ?_⟩)
      · rw [hr.1 k hk, wupI_n hk]
      · have n1 : (x2 + 1).toNatClampNeg = x2.toNatClampNeg + 1 := by unfold Int32.toNatClampNeg; omega
        have nx : x2.toNatClampNeg < 40 := by unfold Int32.toNatClampNeg; omega
        rw [hr.2 i, n1, wupI_n (show k1 + 9 ≠ k0 + 9 by omega)]
        by_cases hi : i = x2.toNatClampNeg
        · subst hi
          rw [if_neg (by omega), if_pos (by omega), wup_same]
        · rw [wup_nb hi]
          by_cases hr' : x2.toNatClampNeg ≤ i ∧ i < 40
          · rw [if_pos (by omega), if_pos hr']
          · rw [if_neg (by omega), if_neg hr']
    · have hc := t_ge c
      rw [e40] at hc
      have nx : 40 ≤ x2.toNatClampNeg := by unfold Int32.toNatClampNeg; omega
      rw [if_neg c]
      refine t_some ⟨fun _ _ => rfl, fun i => ?_⟩
      rw [if_neg (by omega)]
theorem becomes_E {kd ks : Nat} (hne : kd + 11 < ks ∨ ks + 11 < kd) : Tot (wX2_becomes kd ks s) (fun r => BEC kd ks s r) := by
  unfold wX2_becomes wX0_becomes
  refine t_bind (P := fun (s2 : wS) => (∀ k, k ≠ kd + 2 → k ≠ kd + 3 → k ≠ kd + 4 → s2.1 k = s.1 k) ∧ (∀ j, j < 3 → s2.1 (kd + 2) j = s.1 (ks + 2) j) ∧ (∀ j, j < 24 → s2.1 (kd + 3) j = s.1 (ks + 3) j ∧ s2.1 (kd + 4) j = s.1 (ks + 4) j)) ?_ (fun s2 h2 => ?_)
  · refine t_bind (t_cpE (l := 3) rfl (by decide) (by decide) (by decide)) (fun u1 h1 => ?_)
    refine t_bind (t_cpE (l := 24) rfl (by decide) (by decide) (by decide)) (fun u2 h2 => ?_)
    refine t_bind (t_cpE (l := 24) rfl (by decide) (by decide) (by decide)) (fun u3 h3 => t_some ⟨fun k k1 k2 k3 => ?_, fun j hj => ?_, fun j hj => ⟨?_, ?_⟩⟩)
    · rw [h3.1 k (by omega), h2.1 k (by omega), h1.1 k (by omega)]
    · rw [h3.1 (kd + 2) (by omega), h2.1 (kd + 2) (by omega)]
      exact h1.2 j hj
    · rw [h3.1 (kd + 3) (by omega)]
      refine (h2.2 j hj).trans ?_
      rw [h1.1 _ (by omega)]
    · refine (h3.2 j hj).trans ?_
      rw [h2.1 _ (by omega), h1.1 _ (by omega)]
  refine t_bind (t_cpE (l := 40) rfl (by decide) (by decide) (by decide)) (fun s4 h4 => ?_)
  refine t_bind (t_cpE (l := 40) rfl (by decide) (by decide) (by decide)) (fun s5 h5 => ?_)
  refine t_bind (t_cpE (l := 40) rfl (by decide) (by decide) (by decide)) (fun s6 h6 => ?_)
  refine t_bind (t_cpE (l := 40) rfl (by decide) (by decide) (by decide)) (fun s7 h7 => ?_)
  refine t_bind (bec73_E (show ks ≠ kd by omega) wFuel (by decide) (by decide) (by decide +kernel)) (fun s12 h12 => ?_)
  refine t_bind (t_pfI (B := fun _ _ => true) rfl) (fun s14 h14 => ?_)
  refine t_bind (t_pfI (B := fun _ _ => true) rfl) (fun s15 h15 => ?_)
  refine t_bind (t_cpE (l := 10) rfl (by decide) (by decide) (by decide)) (fun s16 h16 => ?_)
  refine t_bind (t_cpE (l := 10) rfl (by decide) (by decide) (by decide)) (fun s17 h17 => ?_)
  refine t_bind (t_pfI (B := fun _ _ => true) rfl) (fun s18 h18 => ?_)
  refine t_bind (t_pfI (B := fun _ _ => true) rfl) (fun s19 h19 => t_some ?_)
  obtain ⟨o2, a2, b2⟩ := h2
  obtain ⟨o4, a4⟩ := h4
  obtain ⟨o5, a5⟩ := h5
  obtain ⟨o6, a6⟩ := h6
  obtain ⟨o7, a7⟩ := h7
  obtain ⟨o12, a12⟩ := h12
  have r14 := h14.2
  have r15 := h15.2
  obtain ⟨o16, a16⟩ := h16
  obtain ⟨o17, a17⟩ := h17
  have r18 := h18.2
  have r19 := h19.2
  have o19 : ∀ k, k ≠ kd → s19.1 k = s17.1 k := fun k hk => by rw [r19, wupI_n hk, r18, wupI_n hk]
  have o15 : ∀ k, k ≠ kd → s15.1 k = s12.1 k := fun k hk => by rw [r15, wupI_n hk, r14, wupI_n hk]
  have oS : ∀ k, ¬ (kd ≤ k ∧ k ≤ kd + 11) → s12.1 k = s.1 k := fun k hk => by rw [o12 k (by omega), o7 k (by omega), o6 k (by omega), o5 k (by omega), o4 k (by omega), o2 k (by omega) (by omega) (by omega)]
  have oT : ∀ k, ¬ (kd ≤ k ∧ k ≤ kd + 11) → s17.1 k = s.1 k := fun k hk => by rw [o17 k (by omega), o16 k (by omega), o15 k (by omega), oS k hk]
  have z : ∀ k, ¬ (kd ≤ k ∧ k ≤ kd + 11) → s19.1 k = s.1 k := fun k hk => by rw [o19 k (by omega), oT k hk]
  refine ⟨z, ⟨?_, ?_, ?_, ?_⟩, fun j hj => ?_, fun j hj => ⟨?_, ?_⟩, fun j hj => ⟨?_, ?_, ?_, ?_, ?_⟩, fun j hj => ⟨?_, ?_⟩⟩
  · rw [r19, wup_nb (by decide), r18, wup_nb (by decide), o17 kd (by omega), o16 kd (by omega), r15, wup_nb (by decide), r14, wup_same, oS ks (by omega)]
  · rw [r19, wup_nb (by decide), r18, wup_nb (by decide), o17 kd (by omega), o16 kd (by omega), r15, wup_same, r14, wupI_n (by omega), oS ks (by omega)]
  · rw [r19, wup_nb (by decide), r18, wup_same, oT ks (by omega)]
  · rw [r19, wup_same, r18, wupI_n (by omega), oT ks (by omega)]
  · rw [o19 _ (by omega), o17 _ (by omega), o16 _ (by omega), o15 _ (by omega), o12 _ (by omega), o7 _ (by omega), o6 _ (by omega), o5 _ (by omega), o4 _ (by omega)]
    exact a2 j hj
  · rw [o19 _ (by omega), o17 _ (by omega), o16 _ (by omega), o15 _ (by omega), o12 _ (by omega), o7 _ (by omega), o6 _ (by omega), o5 _ (by omega), o4 _ (by omega)]
    exact (b2 j hj).1
  · rw [o19 _ (by omega), o17 _ (by omega), o16 _ (by omega), o15 _ (by omega), o12 _ (by omega), o7 _ (by omega), o6 _ (by omega), o5 _ (by omega), o4 _ (by omega)]
    exact (b2 j hj).2
  · rw [o19 _ (by omega), o17 _ (by omega), o16 _ (by omega), o15 _ (by omega), o12 _ (by omega), o7 _ (by omega), o6 _ (by omega), o5 _ (by omega), a4 j hj, o2 _ (by omega) (by omega) (by omega)]
  · rw [o19 _ (by omega), o17 _ (by omega), o16 _ (by omega), o15 _ (by omega), o12 _ (by omega), o7 _ (by omega), o6 _ (by omega), a5 j hj, o4 _ (by omega), o2 _ (by omega) (by omega) (by omega)]
  · rw [o19 _ (by omega), o17 _ (by omega), o16 _ (by omega), o15 _ (by omega), o12 _ (by omega), o7 _ (by omega), a6 j hj, o5 _ (by omega), o4 _ (by omega), o2 _ (by omega) (by omega) (by omega)]
  · rw [o19 _ (by omega), o17 _ (by omega), o16 _ (by omega), o15 _ (by omega), o12 _ (by omega), a7 j hj, o6 _ (by omega), o5 _ (by omega), o4 _ (by omega), o2 _ (by omega) (by omega) (by omega)]
  · rw [o19 _ (by omega), o17 _ (by omega), o16 _ (by omega), o15 _ (by omega), a12 j, if_pos ⟨by show (0 : Nat) ≤ j; omega, hj⟩, o7 _ (by omega), o6 _ (by omega), o5 _ (by omega), o4 _ (by omega), o2 _ (by omega) (by omega) (by omega)]
  · rw [o19 _ (by omega), o17 _ (by omega), a16 j hj, o15 _ (by omega), oS _ (by omega)]
  · rw [o19 _ (by omega), a17 j hj, o16 _ (by omega), o15 _ (by omega), oS _ (by omega)]
/-- the row may be another, alike below 262 -/
theorem HR.row {k0 : Nat} {f f' : Nat → Int32} {s : wS} (h : HR k0 f s) (q : qC f) (hf : ∀ j, j < 262 → f' j = f j) : HR k0 f' s := by
  have q1 := q.2.1.2
  have q2 := q.2.2.1.2
  have q3 := q.2.2.2.2.1
  have q5 := q.2.2.2.2.2.1
  have n3 := t_cln q3.1
  obtain ⟨⟨⟨d0, d1, d2⟩, d3, d4⟩, ⟨⟨d5, d6, d7, d8⟩, d9, d10⟩, ⟨d11, d12, d13, d14, d15, d16, d17⟩⟩ := h
  have f0 := hf 0 (by decide)
  have f1 := hf 1 (by decide)
  have f2 := hf 2 (by decide)
  have f3 := hf 3 (by decide)
  have f4 := hf 4 (by decide)
  have f5 := hf 5 (by decide)
  have f6 := hf 6 (by decide)
  refine ⟨⟨⟨?_, ?_, ?_⟩, fun i hi => ?_, fun i hi => ?_⟩, ⟨⟨?_, ?_, ?_, ?_⟩, fun a ha => ?_, fun v hv => ?_⟩, ⟨fun h0 => ?_, ?_, fun a ha => ?_, fun w => ?_, fun v hv => ?_, fun i hi => ?_, fun i hi => ?_⟩⟩
  · rw [f0]; exact d0
  · rw [f1]; exact d1
  · rw [f2]; exact d2
  · rw [f1] at hi
    rw [hf _ (by omega), hf _ (by omega)]
    exact d3 i hi
  · rw [f2] at hi
    rw [hf _ (by omega), hf _ (by omega)]
    exact d4 i hi
  · rw [f3]; exact d5
  · rw [f4]; exact d6
  · rw [f5]; exact d7
  · rw [f6]; exact d8
  · rw [f3] at ha
    rw [hf _ (by omega), hf _ (by omega), hf _ (by omega), hf _ (by omega), hf _ (by omega)]
    exact d9 a ha
  · rw [f5] at hv
    rw [hf _ (by omega), hf _ (by omega)]
    exact d10 v hv
  · rw [f0] at h0
    rw [f1, f2]
    exact d11 h0
  · rw [f4]; exact d12
  · rw [f3] at ha
    rw [hf _ (by omega), hf _ (by omega)]
    exact d13 a ha
  · rw [f3, cw_congr (f := f) (fun a ha => hf _ (by omega))]
    exact d14 w
  · rw [f5] at hv
    rw [hf _ (by omega), f0, f1, f2]
    exact d15 v hv
  · rw [f1] at hi
    rw [hf _ (by omega)]
    exact d16 i hi
  · rw [f2] at hi
    rw [hf _ (by omega)]
    exact d17 i hi
theorem HR.move {ks kd : Nat} {f f' : Nat → Int32} {s r : wS} (h : HR ks f s) (q : qC f) (hf : ∀ j, j < 262 → f' j = f j) (b : BEC kd ks s r) : HR kd f' r := by
  have q1 := q.2.1.2
  have q2 := q.2.2.1.2
  have q3 := q.2.2.2.2.1
  have q5 := q.2.2.2.2.2.1
  have n3 := t_cln q3.1
  obtain ⟨-, ⟨b6, b7, b10, b11⟩, bm, br, ba, bv⟩ := b
  obtain ⟨⟨⟨d0, d1, d2⟩, d3, d4⟩, ⟨⟨d5, d6, d7, d8⟩, d9, d10⟩, ⟨d11, d12, d13, d14, d15, d16, d17⟩⟩ := h
  have f0 := hf 0 (by decide)
  have f1 := hf 1 (by decide)
  have f2 := hf 2 (by decide)
  have f3 := hf 3 (by decide)
  have f4 := hf 4 (by decide)
  have f5 := hf 5 (by decide)
  have f6 := hf 6 (by decide)
  refine ⟨⟨⟨?_, ?_, ?_⟩, fun i hi => ?_, fun i hi => ?_⟩, ⟨⟨?_, ?_, ?_, ?_⟩, fun a ha => ?_, fun v hv => ?_⟩, ⟨fun h0 => ?_, ?_, fun a ha => ?_, fun w => ?_, fun v hv => ?_, fun i hi => ?_, fun i hi => ?_⟩⟩
  · rw [bm 0 (by decide), f0]; exact d0
  · rw [bm 1 (by decide), f1]; exact d1
  · rw [bm 2 (by decide), f2]; exact d2
  · rw [f1] at hi
    rw [(br _ (by omega)).1, (br _ (by omega)).2, hf _ (by omega), hf _ (by omega)]
    exact d3 i hi
  · rw [f2] at hi
    rw [(br _ (by omega)).1, (br _ (by omega)).2, hf _ (by omega), hf _ (by omega)]
    exact d4 i hi
  · rw [b6, f3]; exact d5
  · rw [b7, f4]; exact d6
  · rw [b10, f5]; exact d7
  · rw [b11, f6]; exact d8
  · rw [f3] at ha
    obtain ⟨c1, c2, c3, c4, c5⟩ := ba a (by omega)
    rw [c1, c2, c3, c4, c5, hf _ (by omega), hf _ (by omega), hf _ (by omega), hf _ (by omega), hf _ (by omega)]
    obtain ⟨e1, e2, e3, e4, e5⟩ := d9 a ha
    refine ⟨e1, e2, e3, e4, ?_⟩
    rw [e5]
    rcases (d13 a ha).2 with z | z
    · rw [z]; exact narZ_0
    · rw [z]; exact narZ_1
  · rw [f5] at hv
    rw [(bv v (by omega)).1, (bv v (by omega)).2, hf _ (by omega), hf _ (by omega)]
    exact d10 v hv
  · rw [f0] at h0
    rw [f1, f2]
    exact d11 h0
  · rw [f4]; exact d12
  · rw [f3] at ha
    rw [hf _ (by omega), hf _ (by omega)]
    exact d13 a ha
  · rw [f3, cw_congr (f := f) (fun a ha => hf _ (by omega))]
    exact d14 w
  · rw [f5] at hv
    rw [hf _ (by omega), f0, f1, f2]
    exact d15 v hv
  · rw [f1] at hi
    rw [hf _ (by omega)]
    exact d16 i hi
  · rw [f2] at hi
    rw [hf _ (by omega)]
    exact d17 i hi
/-- the IMAGES put back, the rest is as it was -/
theorem JA_img {s s' : wS} (g : JA s) (a : ∀ k, k ≠ 27 → ¬ (104 ≤ k ∧ k ≤ 151) → k ≠ 170 → k ≠ 171 → s'.1 k = s.1 k) (ri : RI s') (im : ∀ k : Nat, k < 4 → (s'.1 27 k = 0 ↔ s'.1 171 k = 0) ∧ (¬ s'.1 171 k = 0 → HR (104 + 12 * k) (fun i => s'.1 170 (262 * k + i)) s')) : JA s' := by
  obtain ⟨-, g2, g3, g4, g5, g6, g7⟩ := g
  have a' : ∀ k, k < 104 → k ≠ 27 → s'.1 k = s.1 k := fun k h1 h2 => a k h2 (by omega) (by omega) (by omega)
  have z152 : s'.1 152 = s.1 152 := a 152 (by decide) (by decide) (by decide) (by decide)
  have z : ∀ k, 152 ≤ k → k < 170 → s'.1 k = s.1 k := fun k h1 h2 => a k (by omega) (by omega) (by omega) (by omega)
  refine ⟨ri, by rw [a' 0 (by decide) (by decide), z152]; exact g2, ⟨by rw [a' 1 (by decide) (by decide), z152]; exact g3.1, by rw [a' 1 (by decide) (by decide)]; exact g3.2.1, by rw [a' 2 (by decide) (by decide), z 153 (by decide) (by decide)]; exact g3.2.2⟩, by unfold BYR; rw [a' 2 (by decide) (by decide)]; exact g4, ?_, im, fun l hl => ?_⟩
  · rw [z 163 (by decide) (by decide)]
    refine g5.go ?_ (fun j h1 h2 => a' _ (by omega) (by omega))
    rw [a' 14 (by decide) (by decide)]
    exact ⟨rfl, rfl, rfl, rfl⟩
  · rw [z152] at hl
    obtain ⟨x, x1, x2⟩ := g7 l hl
    have hl6 : l < 6 := by have := ri.1.2.1; rw [z152] at this; omega
    refine ⟨x, x1.go ?_ ?_ (fun j h1 h2 => a' _ (by omega) (by omega)), x2.keep (z 155 (by decide) (by decide)) (z 154 (by decide) (by decide)) (z 157 (by decide) (by decide)) (z 156 (by decide) (by decide))⟩
    · rw [a' (44 + 10 * l) (by omega) (by omega)]
    · rw [a' (44 + 10 * l) (by omega) (by omega)]
theorem in_03 {x : Int32} {s : wS} : wX11_in (x.toInt64) 0 3 s = some (if 0 ≤ x.toInt ∧ x.toInt ≤ 3 then 1 else 0) := in_I (lo := 0) (hi := 3)
theorem ldR_E {x : Int32} (h0 : 0 ≤ x.toInt) (h1 : x.toInt < 4) : wldR 26 4 x = some (104 + 12 * x.toNatClampNeg) := by
  obtain ⟨k, e, -, rfl⟩ := t_ldR2 h0 h1
  exact e
theorem image_ri {x : Int32} {s s1 : wS} {v : Int32} (g : INV s) (h : ((v, s1) = (-1, s) ∧ ¬ (0 ≤ x.toInt ∧ x.toInt < 4)) ∨ ((0 ≤ x.toInt ∧ x.toInt < 4) ∧ wA (fun k _ => Nat.beq k 27 || (Nat.ble (104 + 12 * x.toNatClampNeg) k && Nat.ble k (115 + 12 * x.toNatClampNeg))) s s1 ∧ s1.1 (104 + 12 * x.toNatClampNeg) 11 = s.1 14 11 ∧ s1.1 27 = upd (s.1 27) x.toNatClampNeg 1)) : RI s1 := by
  rcases h with ⟨e, hx⟩ | ⟨hx, a, -, -⟩
  · obtain ⟨rfl, rfl⟩ := Prod.mk.inj e
    exact g.2.1
  · have hxn : x.toNatClampNeg < 4 := by unfold Int32.toNatClampNeg; omega
    have z : ∀ k b, 152 ≤ k → s1.1 k b = s.1 k b := fun k b hk => a k b (by
      dsimp only
      rw [nq_false (show k ≠ 27 by omega), nb_false (show 115 + 12 * x.toNatClampNeg < k by omega), Bool.and_false]
      rfl)
    have z' : ∀ k, 152 ≤ k → s1.1 k = s.1 k := fun k hk => funext fun b => z k b hk
    obtain ⟨g1, g2, g3⟩ := g.2.1
    exact ⟨RQ_same ⟨z' 163 (by omega), z' 157 (by omega), z' 156 (by omega), z' 154 (by omega), z 152 2 (by omega)⟩ g1, by rw [z 152 1 (by omega)]; exact g2, IM_eq (z' 170 (by omega)) (z' 171 (by omega)) g3⟩
theorem back_ri {x : Int32} {s s1 : wS} {v : Int32} (g : INV s) (h : ((v, s1) = (-1, s) ∧ (¬ (0 ≤ x.toInt ∧ x.toInt < 4) ∨ s.1 27 x.toNatClampNeg = 0)) ∨ ((0 ≤ x.toInt ∧ x.toInt < 4) ∧ ¬ s.1 27 x.toNatClampNeg = 0 ∧ wA (fun k b => (Nat.ble 14 k && Nat.ble k 25) || bR k b) s s1 ∧ s1.1 14 11 = s.1 (104 + 12 * x.toNatClampNeg) 11)) : RI s1 := by
  rcases h with ⟨e, hx⟩ | ⟨hx, hm, a, e11⟩
  · obtain ⟨rfl, rfl⟩ := Prod.mk.inj e
    exact g.2.1
  · exact (RI_taped a g.2.1 (fun _ => rfl) (fun _ => rfl) (fun _ => rfl) (fun _ => rfl) rfl (fun _ => rfl) (fun _ => rfl) (by rw [a 152 1 rfl]; exact g.2.1.2.1)).1
theorem op_image {x1 : Int32} (g : JA s) : ∃ v s1 v2 s2, wX10_image x1 s = some (v, s1) ∧ wX11_image x1 s1 = some (v2, s2) ∧ v = v2 ∧ JA s2 := by
  by_cases c : 0 ≤ x1.toInt ∧ x1.toInt < 4
  · have xc := t_cln c.1
    have hx4 : x1.toNatClampNeg < 4 := by omega
    obtain ⟨s7, e7, b7⟩ := becomes_E (s := s) (kd := 104 + 12 * x1.toNatClampNeg) (ks := 14) (by omega)
    have w14 : (wupI s7 27 x1.toNatClampNeg 1).1 14 6 = s.1 14 6 := by rw [wupI_n (by decide), b7.1 14 (by omega)]
    have e1 : wX10_image x1 s = some (s.1 14 6, wupI s7 27 x1.toNatClampNeg 1) := by
      unfold wX10_image
      rw [isOutside_E, if_pos (show 0 ≤ x1.toInt ∧ x1.toInt < (4 : Int32).toInt from c), t_sbe, qi0, ldR_E c.1 c.2, t_sbe, t_sbe, e7, t_sbe, wstZ_E c.1 (by omega), t_sbe, narZ_1, w14]
    have r1 : RI (wupI s7 27 x1.toNatClampNeg 1) := by
      obtain ⟨r, er, p1⟩ := wX10_image_T (x1 := x1) (s := s)
      rw [e1] at er
      obtain rfl := Option.some.inj er
      exact image_ri g.inv p1
    obtain ⟨s9, e9, o9, f9⟩ := wX11_image_h23_T (x1 := x1) c.1 (by omega) wFuel (x2 := 0) (s := wupI (wupI s7 27 x1.toNatClampNeg 1) 171 x1.toNatClampNeg 1) (by decide) (by decide) (t_wf262 (by decide))
    have oo : ∀ k, k ≠ 27 → ¬ (104 ≤ k ∧ k ≤ 151) → k ≠ 170 → k ≠ 171 → s9.1 k = s.1 k := fun k k1 k2 k3 k4 => by rw [o9 k k3, wupI_n k4, wupI_n k1, b7.1 k (by omega)]
    have e163 : s9.1 163 = s.1 163 := oo 163 (by decide) (by decide) (by decide) (by decide)
    have e2 : wX11_image x1 (wupI s7 27 x1.toNatClampNeg 1) = some (s.1 163 3, s9) := by
      unfold wX11_image
      rw [in_03, if_pos ⟨c.1, by omega⟩, t_sbe, qi1, wstZ_E c.1 (by omega), t_sbe, narZ_1, e9, t_sbe, e163]
    have ri : RI s9 := by
      obtain ⟨r, er, p2, -⟩ := wX11_image_T (x1 := x1) (s := wupI s7 27 x1.toNatClampNeg 1) r1
      rw [e2] at er
      obtain rfl := Option.some.inj er
      exact p2
    refine ⟨_, _, _, _, e1, e2, g.h.2.1.1.1, JA_img g oo ri (fun k hk => ?_)⟩
    have e27 : s9.1 27 = upd (s.1 27) x1.toNatClampNeg 1 := by rw [o9 27 (by decide), wupI_n (by decide), wupI_k, b7.1 27 (by omega)]
    have e171 : s9.1 171 = upd (s.1 171) x1.toNatClampNeg 1 := by rw [o9 171 (by decide), wupI_k, wupI_n (by decide), b7.1 171 (by omega)]
    have z163 : (wupI (wupI s7 27 x1.toNatClampNeg 1) 171 x1.toNatClampNeg 1).1 163 = s.1 163 := by rw [wupI_n (by decide), wupI_n (by decide), b7.1 163 (by omega)]
    have z170 : (wupI (wupI s7 27 x1.toNatClampNeg 1) 171 x1.toNatClampNeg 1).1 170 = s.1 170 := by rw [wupI_n (by decide), wupI_n (by decide), b7.1 170 (by omega)]
    have e170 : ∀ i, s9.1 170 i = if 262 * x1.toNatClampNeg ≤ i ∧ i < 262 * x1.toNatClampNeg + 262 then s.1 163 (i - 262 * x1.toNatClampNeg) else s.1 170 i := fun i => by
      rw [f9 i, z163, z170]
      rfl
    rw [e27, e171]
    by_cases q : k = x1.toNatClampNeg
    · rw [q, updI_s, updI_s]
      refine ⟨Iff.rfl, fun _ => ?_⟩
      have mv : HR (104 + 12 * x1.toNatClampNeg) (fun i => s9.1 170 (262 * x1.toNatClampNeg + i)) s7 := g.h.move g.c (fun j hj => by
        show s9.1 170 (262 * x1.toNatClampNeg + j) = _
        rw [e170, if_pos (by omega), Nat.add_sub_cancel_left]) b7
      have oz : ∀ k, k ≠ 27 → k ≠ 170 → k ≠ 171 → s9.1 k = s7.1 k := fun k k1 k2 k3 => by rw [o9 k k2, wupI_n k3, wupI_n k1]
      refine mv.go ?_ (fun j h1 h2 => oz _ (by omega) (by omega) (by omega))
      rw [oz _ (by omega) (by omega) (by omega)]
      exact ⟨rfl, rfl, rfl, rfl⟩
    · rw [updI_n q, updI_n q]
      obtain ⟨g1, g2⟩ := g.2.2.2.2.2.1 k hk
      refine ⟨g1, fun h => ?_⟩
      have ok : ∀ j, j ≤ 11 → s9.1 (104 + 12 * k + j) = s.1 (104 + 12 * k + j) := fun j hj => by rw [o9 _ (by omega), wupI_n (by omega), wupI_n (by omega), b7.1 _ (by omega)]
      have h14 := (g2 h).go (s' := s9) (by rw [show s9.1 (104 + 12 * k) = s.1 (104 + 12 * k) from ok 0 (by decide)]; exact ⟨rfl, rfl, rfl, rfl⟩) (fun j h1 h2 => ok j h2)
      exact h14.row (g.1.2.2 k hk h) (fun j hj => by
        show s9.1 170 (262 * k + j) = _
        rw [e170, if_neg (by omega)])
  · refine ⟨-1, s, -1, s, ?_, ?_, rfl, g⟩
    · unfold wX10_image
      rw [isOutside_E, if_neg (show ¬ (0 ≤ x1.toInt ∧ x1.toInt < (4 : Int32).toInt) from c), t_sbe, qi1]
    · unfold wX11_image
      rw [in_03, if_neg (by omega), t_sbe, qi0]
theorem op_back {x1 : Int32} (g : JA s) : ∃ v s1 v2 s2, wX10_back x1 s = some (v, s1) ∧ wX11_back x1 s1 = some (v2, s2) ∧ v = v2 ∧ JA s2 := by
  by_cases c : 0 ≤ x1.toInt ∧ x1.toInt < 4
  · have xc := t_cln c.1
    have hx4 : x1.toNatClampNeg < 4 := by omega
    obtain ⟨gi, gh⟩ := g.2.2.2.2.2.1 _ hx4
    by_cases m : s.1 27 x1.toNatClampNeg = 0
    · refine ⟨-1, s, -1, s, ?_, ?_, rfl, g⟩
      · unfold wX10_back
        rw [isOutside_E, if_pos (show 0 ≤ x1.toInt ∧ x1.toInt < (4 : Int32).toInt from c), t_sbe, qi0, wld_E c.1 (by omega), t_sbe, if_pos m]
      · unfold wX11_back
        rw [in_03, if_pos ⟨c.1, by omega⟩, t_sbe, qi1, wld_E c.1 (by omega), t_sbe, if_pos (gi.1 m)]
    · have m2 : ¬ s.1 171 x1.toNatClampNeg = 0 := fun q => m (gi.2 q)
      obtain ⟨s9, e9, b9⟩ := becomes_E (s := s) (kd := 14) (ks := 104 + 12 * x1.toNatClampNeg) (by omega)
      obtain ⟨s12, e12, a12⟩ := wX10_courtIsAnother_Yp (s := s9)
      have e1 : wX10_back x1 s = some (s12.1 14 6, s12) := by
        unfold wX10_back
        rw [isOutside_E, if_pos (show 0 ≤ x1.toInt ∧ x1.toInt < (4 : Int32).toInt from c), t_sbe, qi0, wld_E c.1 (by omega), t_sbe, if_neg m, ldR_E c.1 c.2, t_sbe, t_sbe, e9, t_sbe, e12, t_sbe]
      have r1 : RI s12 := by
        obtain ⟨r, er, p1⟩ := wX10_back_T (x1 := x1) (s := s)
        rw [e1] at er
        obtain rfl := Option.some.inj er
        exact back_ri g.inv p1
      obtain ⟨s10, e10, o10, f10⟩ := wX11_back_h25_T (x1 := x1) c.1 (by omega) wFuel (x2 := 0) (s := s12) (by decide) (by decide) (t_wf262 (by decide))
      have oo : ∀ k, 152 ≤ k → s12.1 k = s.1 k := fun k hk => by
        have : s12.1 k = s9.1 k := funext fun b => a12 k b (by
          unfold bYp
          rw [nb_false (show k > 31 by omega), nb_false (show k > 103 by omega), Bool.and_false, Bool.and_false]
          rfl)
        rw [this, b9.1 k (by omega)]
      have e2 : wX11_back x1 s12 = some (s10.1 163 3, s10) := by
        unfold wX11_back
        rw [in_03, if_pos ⟨c.1, by omega⟩, t_sbe, qi1, wld_E c.1 (by omega), t_sbe, oo 171 (by decide), if_neg m2, e10, t_sbe]
      have ri : RI s10 := by
        obtain ⟨r, er, p2, -⟩ := wX11_back_T (x1 := x1) (s := s12) r1
        rw [e2] at er
        obtain rfl := Option.some.inj er
        exact p2
      have e163 : ∀ i, i < 262 → s10.1 163 i = s.1 170 (262 * x1.toNatClampNeg + i) := fun i hi => by
        rw [f10 i, if_pos ⟨by show (0 : Nat) ≤ i; omega, hi⟩, oo 170 (by decide)]
      have a9 : wA bHe s s9 := fun k b h => by
        by_cases q : 14 ≤ k ∧ k ≤ 14 + 11
        · rw [bHe_c (by omega)] at h
          cases h
        · exact congrFun (b9.1 k q) b
      have a12' : wA bHe s9 s12 := a12.mono (fun k b h => by
        simp only [bYp, bHe, bO2, Bool.or_eq_true, Bool.and_eq_true, Nat.beq_eq, Nat.ble_eq] at *
        omega)
      have a10 : wA bHe s12 s10 := fun k b h => by
        by_cases q : k = 163
        · rw [q] at h; cases h
        · exact congrFun (o10 k q) b
      have mv : HR 14 (s10.1 163) s9 := (gh m2).move (g.1.2.2 _ hx4 m2) (fun j hj => e163 j hj) b9
      have z : ∀ k, 14 ≤ k → k ≤ 25 → s10.1 k = s9.1 k := fun k h1 h2 => by
        rw [o10 k (by omega)]
        exact funext fun b => a12 k b (by
          unfold bYp
          rw [nb_false (show k < 28 by omega), nb_false (show k < 44 by omega)]
          rfl)
      have hr : HR 14 (s10.1 163) s10 := mv.go (by rw [z 14 (by decide) (by decide)]; exact ⟨rfl, rfl, rfl, rfl⟩) (fun j h1 h2 => z _ (by omega) (by omega))
      refine ⟨_, _, _, _, e1, e2, ?_, JA_hear g ((a9.trans a12').trans a10) ri hr⟩
      have := hr.2.1.1.1
      rw [o10 14 (by decide)] at this
      exact this
  · refine ⟨-1, s, -1, s, ?_, ?_, rfl, g⟩
    · unfold wX10_back
      rw [isOutside_E, if_neg (show ¬ (0 ≤ x1.toInt ∧ x1.toInt < (4 : Int32).toInt) from c), t_sbe, qi1]
    · unfold wX11_back
      rw [in_03, if_neg (by omega), t_sbe, qi0]
end IMG
