/-! Both sides run the same codes. -/
/-- only the stack of a LAW was touched -/
noncomputable def EC (k0 : Nat) (s0 : wS) (f : Nat → Int64) (h : Nat) (s : wS) : Prop := (∀ k b, ¬ (k = k0 ∧ b = 9) → s.1 k b = s0.1 k b) ∧ (∀ k, k ≠ k0 + 7 → s.2 k = s0.2 k) ∧ s.1 k0 9 = Int32.ofNat h ∧ s.2 (k0 + 7) = f
theorem wstL_E {k n : Nat} {i : Int32} {v : Int64} {s : wS} (h0 : 0 ≤ i.toInt) (h1 : i.toInt < n) : wstL s k n i v = some (wupL s k i.toNatClampNeg v) := by
  unfold wstL
  rw [if_neg (t_ix h0 h1)]
theorem wldL_E {k n : Nat} {i : Int32} {s : wS} (h0 : 0 ≤ i.toInt) (h1 : i.toInt < n) : wldL s k n i = some (s.2 k i.toNatClampNeg) := by
  unfold wldL
  rw [if_neg (t_ix h0 h1)]
theorem i_on1 {h : Nat} (hh : h ≤ 1000) : Int32.ofNat h + 1 = Int32.ofNat (h + 1) := Int32.toInt_inj.1 (by rw [t_p1 (by rw [t_on (by omega)]; omega) (by rw [t_on (by omega)]; omega), t_on (by omega), t_on (by omega)]; rfl)
theorem i_om1 {h : Nat} (h1 : 1 ≤ h) (hh : h ≤ 1000) : Int32.ofNat h - 1 = Int32.ofNat (h - 1) := Int32.toInt_inj.1 (by
  have e1 : (1 : Int32).toInt = 1 := rfl
  rw [t_sub (by rw [t_on (by omega), e1]; omega) (by rw [t_on (by omega), e1]; omega), t_on (by omega), t_on (by omega), e1]
  omega)
section RUNC
variable {k0 : Nat} {s0 s : wS} {f : Nat → Int64} {h : Nat}
theorem push_R {x : Int64} (g : EC k0 s0 f h s) (hh : h ≤ 60) : Tot (wX3_push k0 x s) (EC k0 s0 (vp_updL f h x) (h + 1)) := by
  obtain ⟨g1, g2, g3, g4⟩ := g
  have e : (Int32.ofNat h).toInt = h := t_on (by omega)
  unfold wX3_push
  rw [g3, if_neg (fun q => by have := t_lt q; rw [e, t_i0] at this; omega), if_pos (Int32.lt_iff_toInt_lt.2 (by rw [e, show (61 : Int32).toInt = 61 from rfl]; omega)), wstL_E (by omega) (by omega), t_sbe, t_nc (by omega)]
  refine t_bind (t_pfI (B := fun _ _ => true) rfl) (fun s5 h5 => t_some ?_)
  have z : (wupL s (k0 + 7) h x).1 = s.1 := rfl
  rw [z, g3, i_on1 (by omega)] at h5
  have h5 := h5.2
  refine ⟨fun k b hk => ?_, fun k hk => ?_, by rw [h5, wup_same], ?_⟩
  · by_cases q : k = k0
    · rw [q, h5, wup_nb (fun e => hk ⟨q, e⟩), z, ← q]
      exact g1 k b hk
    · rw [h5, wupI_n q, z]
      exact g1 k b hk
  · have : s5.2 = (wupL s (k0 + 7) h x).2 := by rw [h5]; rfl
    rw [this, wupL_n hk]
    exact g2 k hk
  · have : s5.2 = (wupL s (k0 + 7) h x).2 := by rw [h5]; rfl
    rw [this, wupL_k, g4]
theorem pop_R (g : EC k0 s0 f h s) (h1 : 1 ≤ h) (hh : h ≤ 61) : Tot (wX3_pop k0 s) (fun p => p.1 = f (h - 1) ∧ EC k0 s0 f (h - 1) p.2) := by
  obtain ⟨g1, g2, g3, g4⟩ := g
  have e : (Int32.ofNat h).toInt = h := t_on (by omega)
  have e' : (Int32.ofNat (h - 1)).toInt = (h - 1 : Nat) := t_on (by omega)
  unfold wX3_pop
  rw [g3, if_neg (fun q => by have := t_lt q; rw [e, show (1 : Int32).toInt = 1 from rfl] at this; omega), if_neg (fun q => by have := t_lt q; rw [e, show (61 : Int32).toInt = 61 from rfl] at this; omega), i_om1 h1 (by omega)]
  refine t_bind (t_pfI (B := fun _ _ => true) rfl) (fun s3 h3 => ?_)
  have h3 := h3.2
  have z9 : s3.1 k0 9 = Int32.ofNat (h - 1) := by rw [h3, wup_same]
  have z2 : s3.2 = s.2 := by rw [h3]; rfl
  rw [z9, wldL_E (by omega) (by omega), t_sbe, t_nc (by omega), z2, g4]
  refine t_some ⟨rfl, fun k b hk => ?_, fun k hk => by rw [z2]; exact g2 k hk, z9, by rw [z2]; exact g4⟩
  by_cases q : k = k0
  · rw [q, h3, wup_nb (fun e => hk ⟨q, e⟩), ← q]
    exact g1 k b hk
  · rw [h3, wupI_n q]
    exact g1 k b hk
theorem wordOf_E {j : Int32} (h0 : 0 ≤ (j - 23).toInt) (h1 : (j - 23).toInt < 8) : wX3_wordOf k0 j s = some (s.2 (k0 + 6) (j - 23).toNatClampNeg) := by
  unfold wX3_wordOf
  rw [if_neg (fun q => by have := t_lt q; rw [t_i0] at this; omega), if_pos (Int32.lt_iff_toInt_lt.2 (by rw [show (8 : Int32).toInt = 8 from rfl]; omega)), wldL_E h0 (by omega), t_sbe]
theorem run_h {C : Nat → Int32} {e m : Nat} (hk0 : wkd k0 = 3) (he : e ≤ 400) : ∀ (n : Nat) {i h : Nat} {x3 : Int32} {s : wS} {f : Nat → Int64}, x3 = Int32.ofNat i → i ≤ e → EC k0 s0 f h s → h ≤ 60 → (∀ j, i ≤ j → j < e → s0.1 (k0 + 1) j = C j ∧ okc (C j)) → hrun (fun j => rc (C j)) (e - i) i h = some m → e - i < n → Tot (wX3_run_h7 k0 (Int32.ofNat e) n x3 s) (fun r => EC k0 s0 (er (s0.2 (k0 + 6)) C (e - i) i (f, h)).1 m r) := by
  intro n
  induction n with
  | zero => intro i h x3 s f _ _ _ _ _ _ hm; exact absurd hm (by omega)
  | succ n ih =>
    intro i h x3 s f h3 hi g hh hC hr hm
    have e3 : x3.toInt = i := by rw [h3, t_on (by omega)]
    have ee : (Int32.ofNat e).toInt = e := t_on (by omega)
    have en : x3.toNatClampNeg = i := by unfold Int32.toNatClampNeg; omega
    have e1 : x3 + 1 = Int32.ofNat (i + 1) := by rw [h3, i_on1 (by omega)]
    rw [wX3_run_h7]
    by_cases c : x3 < Int32.ofNat e
    · have hc := t_lt c
      rw [e3, ee] at hc
      have hie : i < e := by omega
      obtain ⟨d1, ok⟩ := hC i (Nat.le_refl _) hie
      have em : e - i = (e - (i + 1)) + 1 := by omega
      rw [em] at hr ⊢
      unfold hrun at hr
      have cd : s.1 (k0 + 1) i = C i := by rw [g.1 (k0 + 1) i (by omega)]; exact d1
      rw [if_pos c, at_E (wly_3_0 hk0).2.2 (by decide) (by omega) (by omega), t_sbe, en, cd]
      split at hr
      · cases hr
      · next h1 hs =>
        show Tot _ (fun r => EC k0 s0 (er (s0.2 (k0 + 6)) C (e - (i + 1)) (i + 1) (es (s0.2 (k0 + 6)) (C i) (f, h))).1 m r)
        have go : ∀ (s' : wS), EC k0 s0 (es (s0.2 (k0 + 6)) (C i) (f, h)).1 (es (s0.2 (k0 + 6)) (C i) (f, h)).2 s' → Tot (wX3_run_h7 k0 (Int32.ofNat e) n (x3 + 1) s') (fun r => EC k0 s0 (er (s0.2 (k0 + 6)) C (e - (i + 1)) (i + 1) (es (s0.2 (k0 + 6)) (C i) (f, h))).1 m r) := by
          intro s' g'
          have hh1 := es_h (w := s0.2 (k0 + 6)) (f := f) ok hs
          rw [hh1] at g'
          have b1 : es (s0.2 (k0 + 6)) (C i) (f, h) = ((es (s0.2 (k0 + 6)) (C i) (f, h)).1, h1) := by rw [← hh1]
          rw [b1]
          refine ih e1 (by omega) g' ?_ (fun j a1 a2 => hC j (by omega) a2) hr (by omega)
          rw [hstep_rc ok] at hs
          by_cases q1 : 23 ≤ C i
          · rw [if_pos q1] at hs
            by_cases q2 : h < 60
            · rw [if_pos q2] at hs; have := Option.some.inj hs; omega
            · rw [if_neg q2] at hs; cases hs
          · rw [if_neg q1] at hs
            by_cases q2 : C i = 22
            · rw [if_pos q2] at hs
              by_cases q3 : 1 ≤ h
              · rw [if_pos q3] at hs; have := Option.some.inj hs; omega
              · rw [if_neg q3] at hs; cases hs
            · rw [if_neg q2] at hs
              by_cases q3 : 2 ≤ h
              · rw [if_pos q3] at hs; have := Option.some.inj hs; omega
              · rw [if_neg q3] at hs; cases hs
        rw [hstep_rc ok] at hs
        unfold wX3_run_j103
        rcases okc_cases ok with ⟨k, k1⟩ | ⟨k, d, dd⟩ | ⟨k, d, k2⟩ | ⟨k, d, k2, kk⟩
        · have ees : es (s0.2 (k0 + 6)) (C i) (f, h) = (vp_updL f h (C i - 100).toInt64, h + 1) := by unfold es; rw [if_pos k]
          rw [ees] at go ⊢
          rw [if_neg (fun q => by have := t_lt q; rw [show (100 : Int32).toInt = 100 from rfl] at this; omega)]
          exact t_bind (push_R g hh) (fun s31 h31 => go s31 h31)
        · obtain ⟨-, -, r3, r4, r5⟩ := rc_w dd
          have ees : es (s0.2 (k0 + 6)) (C i) (f, h) = (vp_updL f h (s0.2 (k0 + 6) (C i - 23).toNatClampNeg), h + 1) := by unfold es; rw [if_neg k, if_pos d]
          rw [ees] at go ⊢
          rw [if_pos (Int32.lt_iff_toInt_lt.2 (by rw [show (100 : Int32).toInt = 100 from rfl]; omega)), if_neg (fun q => by have := t_lt q; rw [show (23 : Int32).toInt = 23 from rfl] at this; omega), wordOf_E r4 r5, t_sbe, g.2.1 (k0 + 6) (by omega)]
          exact t_bind (push_R g hh) (fun s28 h28 => go s28 h28)
        · have ees : es (s0.2 (k0 + 6)) (C i) (f, h) = (vp_updL f (h - 1) (1 - f (h - 1)), h) := by unfold es; rw [if_neg k, if_neg d, if_pos k2]
          rw [ees] at go ⊢
          rw [if_neg d, if_pos k2] at hs
          have h1' : 1 ≤ h := by
            by_cases q : 1 ≤ h
            · exact q
            · rw [if_neg q] at hs; cases hs
          rw [if_pos (show C i < 100 by rw [k2]; decide), if_pos (show C i < 23 by rw [k2]; decide), if_pos k2]
          refine t_bind (pop_R g h1' (by omega)) (fun p hp => ?_)
          obtain ⟨t8, s9⟩ := p
          obtain ⟨p1, p2⟩ := hp
          dsimp only at p1 p2 ⊢
          refine t_bind (push_R p2 (by omega)) (fun s12 h12 => ?_)
          refine go s12 ?_
          dsimp only
          rw [← p1]
          rw [show h - 1 + 1 = h by omega] at h12
          exact h12
        · have ees : es (s0.2 (k0 + 6)) (C i) (f, h) = (vp_updL f (h - 2) (jn (C i) (f (h - 2)) (f (h - 1))), h - 1) := by unfold es; rw [if_neg k, if_neg d, if_neg k2]
          rw [ees] at go ⊢
          rw [if_neg d, if_neg k2] at hs
          have h2' : 2 ≤ h := by
            by_cases q : 2 ≤ h
            · exact q
            · rw [if_neg q] at hs; cases hs
          have l100 : C i < 100 := by
            rcases kk with q | q | q
            · exact Int32.lt_iff_toInt_lt.2 (by rw [show (100 : Int32).toInt = 100 from rfl]; omega)
            · rw [q]; decide
            · rw [q]; decide
          have l23 : C i < 23 := by
            rcases kk with q | q | q
            · exact Int32.lt_iff_toInt_lt.2 (by rw [show (23 : Int32).toInt = 23 from rfl]; omega)
            · rw [q]; decide
            · rw [q]; decide
          rw [if_pos l100, if_pos l23, if_neg k2]
          refine t_bind (pop_R g (by omega) (by omega)) (fun p hp => ?_)
          obtain ⟨t14, s15⟩ := p
          obtain ⟨p1, p2⟩ := hp
          dsimp only at p1 p2 ⊢
          refine t_bind (pop_R p2 (by omega) (by omega)) (fun p hp => ?_)
          obtain ⟨t17, s18⟩ := p
          obtain ⟨p3, p4⟩ := hp
          dsimp only at p3 p4 ⊢
          rw [joined_E, t_sbe]
          refine t_bind (push_R p4 (by omega)) (fun s23 h23 => ?_)
          refine go s23 ?_
          dsimp only
          rw [show h - 1 - 1 = h - 2 by omega] at p3 h23
          rw [← p1, ← p3]
          rw [show h - 2 + 1 = h - 1 by omega] at h23
          exact h23
    · have hc := t_ge c
      rw [e3, ee] at hc
      obtain rfl : i = e := by omega
      rw [Nat.sub_self] at hr ⊢
      obtain rfl := Option.some.inj hr
      rw [if_neg c]
      exact t_some g
/-- a run of the class -/
theorem run_E {C : Nat → Int32} {b e : Nat} (hk0 : wkd k0 = 3) (hb : b ≤ e) (he : e ≤ 400) (hC : ∀ j, b ≤ j → j < e → s.1 (k0 + 1) j = C j ∧ okc (C j)) (hr : hrun (fun j => rc (C j)) (e - b) b 0 = some 1) : Tot (wX3_run k0 (Int32.ofNat b) (Int32.ofNat e) s) (fun p => p.1 = VAL (s.2 (k0 + 6)) C b e ∧ (∀ k c, ¬ (k = k0 ∧ c = 9) → p.2.1 k c = s.1 k c) ∧ (∀ k, k ≠ k0 + 7 → p.2.2 k = s.2 k)) := by
  unfold wX3_run
  refine t_bind (t_pfI (B := fun _ _ => true) rfl) (fun s1 h1 => ?_)
  have h1 := h1.2
  have g : EC k0 s (s.2 (k0 + 7)) 0 s1 := by
    refine ⟨fun k c hk => ?_, fun k _ => by rw [h1]; rfl, by rw [h1, wup_same]; rfl, by rw [h1]; rfl⟩
    by_cases q : k = k0
    · rw [q, h1, wup_nb (fun e => hk ⟨q, e⟩)]
    · rw [h1, wupI_n q]
  have wf : e - b < wFuel := by
    have e : wFuel = 1099511627776 := rfl
    omega
  refine t_bind (run_h (C := C) hk0 he wFuel rfl hb g (by decide) hC hr wf) (fun s34 h34 => ?_)
  refine t_bind (pop_R h34 (by decide) (by decide)) (fun p hp => ?_)
  obtain ⟨t41, s42⟩ := p
  obtain ⟨p1, p2⟩ := hp
  dsimp only at p1 p2 ⊢
  refine t_some ⟨?_, p2.1, p2.2.1⟩
  rw [p1]
  exact (er_low (w := s.2 (k0 + 6)) (C := C) (f := s.2 (k0 + 7)) (g := fun _ => 0) (fun j a1 a2 => (hC j a1 (by omega)).2) hr (fun j hj => absurd hj (by omega))).2 0 (by decide)
end RUNC
