/-! The reference runs them too. -/
noncomputable def ER (s0 : wS) (f : Nat → Int64) (h : Nat) (s : wS) : Prop := (∀ k b, ¬ (k = 152 ∧ b = 22) → s.1 k b = s0.1 k b) ∧ (∀ k, k ≠ 161 → s.2 k = s0.2 k) ∧ s.1 152 22 = Int32.ofNat h ∧ s.2 161 = f
section RUNR
variable {s0 s : wS} {f : Nat → Int64} {h : Nat}
theorem rpush_R {x : Int64} (g : ER s0 f h s) (hh : h ≤ 60) : Tot (wX11_push x s) (ER s0 (vp_updL f h x) (h + 1)) := by
  obtain ⟨g1, g2, g3, g4⟩ := g
  have e : (Int32.ofNat h).toInt = h := t_on (by omega)
  unfold wX11_push
  rw [g3, wstL_E (by omega) (by omega), t_sbe, t_nc (by omega)]
  refine t_bind (t_pfI (B := fun _ _ => true) rfl) (fun s5 h5 => t_some ?_)
  have z : (wupL s 161 h x).1 = s.1 := rfl
  rw [z, g3, i_on1 (by omega)] at h5
  have h5 := h5.2
  refine ⟨fun k b hk => ?_, fun k hk => ?_, by rw [h5, wup_same], ?_⟩
  · by_cases q : k = 152
    · rw [q, h5, wup_nb (fun e => hk ⟨q, e⟩), z, ← q]
      exact g1 k b hk
    · rw [h5, wupI_n q, z]
      exact g1 k b hk
  · have : s5.2 = (wupL s 161 h x).2 := by rw [h5]; rfl
    rw [this, wupL_n hk]
    exact g2 k hk
  · have : s5.2 = (wupL s 161 h x).2 := by rw [h5]; rfl
    rw [this, wupL_k, g4]
theorem rpop_R (g : ER s0 f h s) (h1 : 1 ≤ h) (hh : h ≤ 61) : Tot (wX11_pop s) (fun p => p.1 = f (h - 1) ∧ ER s0 f (h - 1) p.2) := by
  obtain ⟨g1, g2, g3, g4⟩ := g
  have e : (Int32.ofNat h).toInt = h := t_on (by omega)
  have e' : (Int32.ofNat (h - 1)).toInt = (h - 1 : Nat) := t_on (by omega)
  unfold wX11_pop
  rw [g3, i_om1 h1 (by omega)]
  refine t_bind (t_pfI (B := fun _ _ => true) rfl) (fun s3 h3 => ?_)
  have h3 := h3.2
  have z9 : s3.1 152 22 = Int32.ofNat (h - 1) := by rw [h3, wup_same]
  have z2 : s3.2 = s.2 := by rw [h3]; rfl
  rw [z9, wldL_E (by omega) (by omega), t_sbe, t_nc (by omega), z2, g4]
  refine t_some ⟨rfl, fun k b hk => ?_, fun k hk => by rw [z2]; exact g2 k hk, z9, by rw [z2]; exact g4⟩
  by_cases q : k = 152
  · rw [q, h3, wup_nb (fun e => hk ⟨q, e⟩), ← q]
    exact g1 k b hk
  · rw [h3, wupI_n q]
    exact g1 k b hk
theorem reck_h {C : Nat → Int32} {l e m : Nat} {xl : Int32} (hxl : xl = Int32.ofNat l) (hl : l < 6) (he : e ≤ 400) : ∀ (n : Nat) {i h : Nat} {x4 : Int32} {s : wS} {f : Nat → Int64}, x4 = Int32.ofNat i → i ≤ e → ER s0 f h s → h ≤ 60 → (∀ j, i ≤ j → j < e → s0.1 154 (400 * l + j) = rc (C j) ∧ okc (C j)) → hrun (fun j => rc (C j)) (e - i) i h = some m → e - i < n → Tot (wX11_reckons_h8 xl (Int32.ofNat e) n x4 s) (fun r => ER s0 (er (s0.2 162) C (e - i) i (f, h)).1 m r) := by
  intro n
  induction n with
  | zero => intro i h x4 s f _ _ _ _ _ _ hm; exact absurd hm (by omega)
  | succ n ih =>
    intro i h x4 s f h3 hi g hh hC hr hm
    have e3 : x4.toInt = i := by rw [h3, t_on (by omega)]
    have el : xl.toInt = l := by rw [hxl, t_on (by omega)]
    have eln : xl.toNatClampNeg = l := by unfold Int32.toNatClampNeg; omega
    have ee : (Int32.ofNat e).toInt = e := t_on (by omega)
    have en : x4.toNatClampNeg = i := by unfold Int32.toNatClampNeg; omega
    have e1 : x4 + 1 = Int32.ofNat (i + 1) := by rw [h3, i_on1 (by omega)]
    rw [wX11_reckons_h8]
    by_cases c : x4 < Int32.ofNat e
    · have hc := t_lt c
      rw [e3, ee] at hc
      have hie : i < e := by omega
      obtain ⟨d1, ok⟩ := hC i (Nat.le_refl _) hie
      have em : e - i = (e - (i + 1)) + 1 := by omega
      rw [em] at hr ⊢
      unfold hrun at hr
      have ad : ((400 * xl) + x4).toInt = 400 * l + i := by rw [t_sg (by omega) (by omega) (by omega) (by omega), el, e3]
      have adn : ((400 * xl) + x4).toNatClampNeg = 400 * l + i := by unfold Int32.toNatClampNeg; omega
      have cd : s.1 154 (400 * l + i) = rc (C i) := by rw [g.1 154 _ (by omega)]; exact d1
      rw [if_pos c, wld_E (by omega) (by omega), t_sbe, t_sbe, adn, cd]
      split at hr
      · cases hr
      · next h1 hs =>
        show Tot _ (fun r => ER s0 (er (s0.2 162) C (e - (i + 1)) (i + 1) (es (s0.2 162) (C i) (f, h))).1 m r)
        have go : ∀ (s' : wS), ER s0 (es (s0.2 162) (C i) (f, h)).1 (es (s0.2 162) (C i) (f, h)).2 s' → Tot (wX11_reckons_h8 xl (Int32.ofNat e) n (x4 + 1) s') (fun r => ER s0 (er (s0.2 162) C (e - (i + 1)) (i + 1) (es (s0.2 162) (C i) (f, h))).1 m r) := by
          intro s' g'
          have hh1 := es_h (w := s0.2 162) (f := f) ok hs
          rw [hh1] at g'
          have b1 : es (s0.2 162) (C i) (f, h) = ((es (s0.2 162) (C i) (f, h)).1, h1) := by rw [← hh1]
          rw [b1]
          refine ih e1 (by omega) g' ?_ (fun j a1 a2 => hC j (by omega) a2) hr (by omega)
          rw [hstep_rc ok] at hs
          by_cases q1 : 23 ≤ C i
          · rw [if_pos q1] at hs
            by_cases q2 : h < 60
            · rw [if_pos q2] at hs; have := Option.some.inj hs; omega
            · rw [if_neg q2] at hs; cases hs
          · rw [if_neg q1] at hs
            by_cases q2 : C i = 22
            · rw [if_pos q2] at hs
              by_cases q3 : 1 ≤ h
              · rw [if_pos q3] at hs; have := Option.some.inj hs; omega
              · rw [if_neg q3] at hs; cases hs
            · rw [if_neg q2] at hs
              by_cases q3 : 2 ≤ h
              · rw [if_pos q3] at hs; have := Option.some.inj hs; omega
              · rw [if_neg q3] at hs; cases hs
        rw [hstep_rc ok] at hs
        unfold wX11_reckons_j129
        rcases okc_cases ok with ⟨k, k1⟩ | ⟨k, d, dd⟩ | ⟨k, d, k2⟩ | ⟨k, d, k2, kk⟩
        · have ees : es (s0.2 162) (C i) (f, h) = (vp_updL f h (C i - 100).toInt64, h + 1) := by unfold es; rw [if_pos k]
          rw [ees] at go ⊢
          obtain ⟨r1, r2⟩ := rc_n k k1
          rw [if_pos r1, r2]
          exact t_bind (rpush_R g hh) (fun s31 h31 => go s31 h31)
        · obtain ⟨r1, r2, r3, r4, r5⟩ := rc_w dd
          have ees : es (s0.2 162) (C i) (f, h) = (vp_updL f h (s0.2 162 (C i - 23).toNatClampNeg), h + 1) := by unfold es; rw [if_neg k, if_pos d]
          rw [ees] at go ⊢
          rw [r1, if_neg (show ¬ (1 : Int32) = 0 by decide), if_pos (rfl : (1 : Int32) = 1), r2, wldL_E r4 (by omega), t_sbe, g.2.1 162 (by decide)]
          exact t_bind (rpush_R g hh) (fun s28 h28 => go s28 h28)
        · have ees : es (s0.2 162) (C i) (f, h) = (vp_updL f (h - 1) (1 - f (h - 1)), h) := by unfold es; rw [if_neg k, if_neg d, if_pos k2]
          rw [ees] at go ⊢
          rw [if_neg d, if_pos k2] at hs
          have h1' : 1 ≤ h := by
            by_cases q : 1 ≤ h
            · exact q
            · rw [if_neg q] at hs; cases hs
          rw [k2, if_neg (show ¬ rc 22 &&& 15 = 0 by decide), if_neg (show ¬ rc 22 &&& 15 = 1 by decide), if_pos (show rc 22 &&& 15 = 11 by decide)]
          refine t_bind (rpop_R g h1' (by omega)) (fun p hp => ?_)
          obtain ⟨t8, s9⟩ := p
          obtain ⟨p1, p2⟩ := hp
          dsimp only at p1 p2 ⊢
          refine t_bind (rpush_R p2 (by omega)) (fun s12 h12 => ?_)
          refine go s12 ?_
          dsimp only
          rw [← p1]
          rw [show h - 1 + 1 = h by omega] at h12
          exact h12
        · have ees : es (s0.2 162) (C i) (f, h) = (vp_updL f (h - 2) (jn (C i) (f (h - 2)) (f (h - 1))), h - 1) := by unfold es; rw [if_neg k, if_neg d, if_neg k2]
          rw [ees] at go ⊢
          rw [if_neg d, if_neg k2] at hs
          have h2' : 2 ≤ h := by
            by_cases q : 2 ≤ h
            · exact q
            · rw [if_neg q] at hs; cases hs
          obtain ⟨r1, r2, r3, r4⟩ := rc_o kk
          rw [if_neg r1, if_neg r2, if_neg r3, r4]
          refine t_bind (rpop_R g (by omega) (by omega)) (fun p hp => ?_)
          obtain ⟨t14, s15⟩ := p
          obtain ⟨p1, p2⟩ := hp
          dsimp only at p1 p2 ⊢
          refine t_bind (rpop_R p2 (by omega) (by omega)) (fun p hp => ?_)
          obtain ⟨t17, s18⟩ := p
          obtain ⟨p3, p4⟩ := hp
          dsimp only at p3 p4 ⊢
          rw [one_E kk, t_sbe]
          refine t_bind (rpush_R p4 (by omega)) (fun s23 h23 => ?_)
          refine go s23 ?_
          dsimp only
          rw [show h - 1 - 1 = h - 2 by omega] at p3 h23
          rw [← p1, ← p3]
          rw [show h - 2 + 1 = h - 1 by omega] at h23
          exact h23
    · have hc := t_ge c
      rw [e3, ee] at hc
      obtain rfl : i = e := by omega
      rw [Nat.sub_self] at hr ⊢
      obtain rfl := Option.some.inj hr
      rw [if_neg c]
      exact t_some g
/-- a run of the reference -/
theorem reck_E {C : Nat → Int32} {l b e : Nat} {xl : Int32} (hxl : xl = Int32.ofNat l) (hl : l < 6) (hb : b ≤ e) (he : e ≤ 400) (hC : ∀ j, b ≤ j → j < e → s.1 154 (400 * l + j) = rc (C j) ∧ okc (C j)) (hr : hrun (fun j => rc (C j)) (e - b) b 0 = some 1) : Tot (wX11_reckons xl (Int32.ofNat b) (Int32.ofNat e) s) (fun p => p.1 = VAL (s.2 162) C b e ∧ (∀ k c, ¬ (k = 152 ∧ c = 22) → p.2.1 k c = s.1 k c) ∧ (∀ k, k ≠ 161 → p.2.2 k = s.2 k)) := by
  unfold wX11_reckons
  refine t_bind (t_pfI (B := fun _ _ => true) rfl) (fun s1 h1 => ?_)
  have h1 := h1.2
  have g : ER s (s.2 161) 0 s1 := by
    refine ⟨fun k c hk => ?_, fun k _ => by rw [h1]; rfl, by rw [h1, wup_same]; rfl, by rw [h1]; rfl⟩
    by_cases q : k = 152
    · rw [q, h1, wup_nb (fun e => hk ⟨q, e⟩)]
    · rw [h1, wupI_n q]
  have wf : e - b < wFuel := by
    have e : wFuel = 1099511627776 := rfl
    omega
  refine t_bind (reck_h (C := C) hxl hl he wFuel rfl hb g (by decide) hC hr wf) (fun s34 h34 => ?_)
  refine t_bind (rpop_R h34 (by decide) (by decide)) (fun p hp => ?_)
  obtain ⟨t41, s42⟩ := p
  obtain ⟨p1, p2⟩ := hp
  dsimp only at p1 p2 ⊢
  refine t_some ⟨?_, p2.1, p2.2.1⟩
  rw [p1]
  exact (er_low (w := s.2 162) (C := C) (f := s.2 161) (g := fun _ => 0) (fun j a1 a2 => (hC j a1 (by omega)).2) hr (fun j hj => absurd hj (by omega))).2 0 (by decide)
end RUNR
