/-! Both TAPES are told the same. -/
noncomputable def pw (x : Int32) : Nat → Int32 → Nat → (Nat → Int32) → (Nat → Int32)
  | 0, _, _, f => f
  | m + 1, h, p, f => pw x m (h + (-8)) (p + 1) (upd f p (vp_nar .byte ((x >>> (h &&& 31)).toInt8.toInt32)))
theorem wX8_putNumber_h3_E {x1 : Int32} : ∀ (n : Nat) {m : Nat} {x2 : Int32} {s : wS}, x2.toInt = 8 * (m : Int) - 8 → m ≤ 4 → 0 ≤ (s.1 1 1).toInt → (s.1 1 1).toInt + m ≤ 400 → m < n → Tot (wX8_putNumber_h3 x1 n x2 s) (fun r => wA (fun k b => (Nat.beq k 1 && Nat.beq b 1) || Nat.beq k 2) s r ∧ (r.1 1 1).toInt = (s.1 1 1).toInt + m ∧ r.1 2 = pw x1 m x2 (s.1 1 1).toNatClampNeg (s.1 2)) := by
  intro n
  induction n with
  | zero => intro m x2 s _ _ _ _ h; exact absurd h (by omega)
  | succ n ih =>
    intro m x2 s hx hm4 h0 h4 hm
    rw [wX8_putNumber_h3]
    refine t_ite (fun c => ?_) (fun c => ?_)
    · have hc := t_lt c
      rw [t_i0] at hc
      obtain rfl : m = 0 := by omega
      exact t_some ⟨wA.refl, by omega, rfl⟩
    · have hc := t_ge c
      rw [t_i0] at hc
      obtain ⟨k, rfl⟩ : ∃ k, m = k + 1 := ⟨m - 1, by omega⟩
      refine t_bind wX10_isOutside_T (fun t2 ht => ?_)
      have ht2 : t2 = 0 := by
        rcases ht with h | h
        · exact h.1
        · exact absurd ⟨h0, by rw [show (400 : Int32).toInt = 400 from rfl]; omega⟩ h.2
      refine t_ite (fun _ => ?_) (fun c2 => absurd ht2 c2)
      refine t_bind (t_stB (B := fun k b => (Nat.beq k 1 && Nat.beq b 1) || Nat.beq k 2) (n := 400) h0 (by omega) (fun _ => rfl)) (fun s5 h5 => ?_)
      refine t_bind (t_pfI (B := fun k b => (Nat.beq k 1 && Nat.beq b 1) || Nat.beq k 2) rfl) (fun s6 h6 => ?_)
      have e : (s6.1 1 1).toInt = (s.1 1 1).toInt + 1 := by
        rw [h6.2, wup_same, h5.2, wupI_n (by omega)]
        exact t_p1 h0 (by omega)
      have en : (s6.1 1 1).toNatClampNeg = (s.1 1 1).toNatClampNeg + 1 := by unfold Int32.toNatClampNeg; omega
      have e2 : s6.1 2 = upd (s.1 2) (s.1 1 1).toNatClampNeg (vp_nar .byte ((x1 >>> (x2 &&& 31)).toInt8.toInt32)) := by rw [h6.2, wupI_n (by omega), h5.2, wupI_k]
      have e8 : (x2 + (-8)).toInt = x2.toInt - 8 := by
        rw [t_add (by rw [show (-8 : Int32).toInt = -8 from rfl]; omega) (by rw [show (-8 : Int32).toInt = -8 from rfl]; omega), show (-8 : Int32).toInt = -8 from rfl]
        omega
      unfold wX8_putNumber_j45
      refine t_mono (ih (m := k) (x2 := x2 + (-8)) (s := s6) (by omega) (by omega) (by omega) (by omega) (by omega)) (fun r hr => ⟨(h5.1.trans h6.1).trans hr.1, by rw [hr.2.1]; omega, ?_⟩)
      rw [hr.2.2, en, e2]
      rfl
theorem wX11_four_h3_E {x1 : Int32} : ∀ (n : Nat) {m : Nat} {x2 : Int32} {s : wS}, x2.toInt = 8 * (m : Int) - 8 → m ≤ 4 → 0 ≤ (s.1 152 1).toInt → (s.1 152 1).toInt + m ≤ 400 → m < n → Tot (wX11_four_h3 x1 n x2 s) (fun r => wA (fun k b => Nat.beq k 153 || (Nat.beq k 152 && Nat.beq b 1)) s r ∧ (r.1 152 1).toInt = (s.1 152 1).toInt + m ∧ r.1 153 = pw x1 m x2 (s.1 152 1).toNatClampNeg (s.1 153)) := by
  intro n
  induction n with
  | zero => intro m x2 s _ _ _ _ h; exact absurd h (by omega)
  | succ n ih =>
    intro m x2 s hx hm4 h0 h4 hm
    rw [wX11_four_h3]
    refine t_ite (fun c => ?_) (fun c => ?_)
    · have hc := t_lt c
      rw [t_i0] at hc
      obtain rfl : m = 0 := by omega
      exact t_some ⟨wA.refl, by omega, rfl⟩
    · have hc := t_ge c
      rw [t_i0] at hc
      obtain ⟨k, rfl⟩ : ∃ k, m = k + 1 := ⟨m - 1, by omega⟩
      refine t_bind (t_stB (B := fun k b => Nat.beq k 153 || (Nat.beq k 152 && Nat.beq b 1)) (n := 400) h0 (by omega) (fun _ => rfl)) (fun s5 h5 => ?_)
      refine t_bind (t_pfI (B := fun k b => Nat.beq k 153 || (Nat.beq k 152 && Nat.beq b 1)) rfl) (fun s6 h6 => ?_)
      have e : (s6.1 152 1).toInt = (s.1 152 1).toInt + 1 := by
        rw [h6.2, wup_same, h5.2, wupI_n (by omega)]
        exact t_p1 h0 (by omega)
      have en : (s6.1 152 1).toNatClampNeg = (s.1 152 1).toNatClampNeg + 1 := by unfold Int32.toNatClampNeg; omega
      have e2 : s6.1 153 = upd (s.1 153) (s.1 152 1).toNatClampNeg (vp_nar .byte ((x1 >>> (x2 &&& 31)).toInt8.toInt32)) := by rw [h6.2, wupI_n (by omega), h5.2, wupI_k]
      have e8 : (x2 + (-8)).toInt = x2.toInt - 8 := by
        rw [t_add (by rw [show (-8 : Int32).toInt = -8 from rfl]; omega) (by rw [show (-8 : Int32).toInt = -8 from rfl]; omega), show (-8 : Int32).toInt = -8 from rfl]
        omega
      refine t_mono (ih (m := k) (x2 := x2 + (-8)) (s := s6) (by omega) (by omega) (by omega) (by omega) (by omega)) (fun r hr => ⟨(h5.1.trans h6.1).trans hr.1, by rw [hr.2.1]; omega, ?_⟩)
      rw [hr.2.2, en, e2]
      rfl
theorem wX8_putNumber_E {x1 : Int32} {s : wS} (h0 : 0 ≤ (s.1 1 1).toInt) (h4 : (s.1 1 1).toInt + 4 ≤ 400) : Tot (wX8_putNumber x1 s) (fun r => wA (fun k b => (Nat.beq k 1 && Nat.beq b 1) || Nat.beq k 2) s r ∧ (r.1 1 1).toInt = (s.1 1 1).toInt + 4 ∧ r.1 2 = pw x1 4 24 (s.1 1 1).toNatClampNeg (s.1 2)) := by
  unfold wX8_putNumber
  exact t_bind (wX8_putNumber_h3_E wFuel (m := 4) rfl (by omega) h0 h4 (by decide +kernel)) (fun s8 h => t_some h)
theorem wX11_four_E {x1 : Int32} {s : wS} (h0 : 0 ≤ (s.1 152 1).toInt) (h4 : (s.1 152 1).toInt + 4 ≤ 400) : Tot (wX11_four x1 s) (fun r => wA (fun k b => Nat.beq k 153 || (Nat.beq k 152 && Nat.beq b 1)) s r ∧ (r.1 152 1).toInt = (s.1 152 1).toInt + 4 ∧ r.1 153 = pw x1 4 24 (s.1 152 1).toNatClampNeg (s.1 153)) := by
  unfold wX11_four
  exact t_bind (wX11_four_h3_E wFuel (m := 4) rfl (by omega) h0 h4 (by decide +kernel)) (fun s5 h => t_some h)
/-- the TAPES are alike -/
noncomputable def TA (s : wS) : Prop := s.1 1 1 = s.1 152 1 ∧ (0 ≤ (s.1 1 1).toInt ∧ (s.1 1 1).toInt ≤ 400) ∧ s.1 2 = s.1 153
/-- five numbers told -/
noncomputable def p5 (x1 x2 x3 x4 x5 : Int32) (p : Nat) (f : Nat → Int32) : Nat → Int32 := pw x5 4 24 (p + 16) (pw x4 4 24 (p + 12) (pw x3 4 24 (p + 8) (pw x2 4 24 (p + 4) (pw x1 4 24 p f))))
theorem wX10_feed_E {x1 x2 x3 x4 x5 : Int32} {s : wS} (h0 : 0 ≤ (s.1 1 1).toInt) (h1 : (s.1 1 1).toInt ≤ 400) : Tot (wX10_feed x1 x2 x3 x4 x5 s) (fun r => wA (fun k b => (Nat.beq k 1 && Nat.beq b 1) || Nat.beq k 2) s r.2 ∧ ((400 < (s.1 1 1).toInt + 20 ∧ r = (-1, s)) ∨ ((s.1 1 1).toInt + 20 ≤ 400 ∧ r.1.toInt = (s.1 1 1).toInt + 20 ∧ r.2.1 1 1 = r.1 ∧ r.2.1 2 = p5 x1 x2 x3 x4 x5 (s.1 1 1).toNatClampNeg (s.1 2)))) := by
  have e20 : ((s.1 1 1) + 20).toInt = (s.1 1 1).toInt + 20 := t_pl rfl (by omega) (by omega) h0 (by omega)
  have e400 : (400 : Int32).toInt = 400 := rfl
  unfold wX10_feed
  refine t_ite (fun c => t_some ⟨wA.refl, Or.inl ⟨by have := t_lt c; omega, rfl⟩⟩) (fun c => ?_)
  have hc := t_ge c
  refine t_bind (wX8_putNumber_E h0 (by omega)) (fun s3 h3 => t_bind (wX8_putNumber_E (by omega) (by omega)) (fun s6 h6 => t_bind (wX8_putNumber_E (by omega) (by omega)) (fun s9 h9 => t_bind (wX8_putNumber_E (by omega) (by omega)) (fun s12 h12 => t_bind (wX8_putNumber_E (by omega) (by omega)) (fun s15 h15 => t_some ⟨(((h3.1.trans h6.1).trans h9.1).trans h12.1).trans h15.1, Or.inr ⟨by omega, by show (s15.1 1 1).toInt = _; omega, rfl, ?_⟩⟩)))))
  have n3 : (s3.1 1 1).toNatClampNeg = (s.1 1 1).toNatClampNeg + 4 := by unfold Int32.toNatClampNeg; omega
  have n6 : (s6.1 1 1).toNatClampNeg = (s.1 1 1).toNatClampNeg + 8 := by unfold Int32.toNatClampNeg; omega
  have n9 : (s9.1 1 1).toNatClampNeg = (s.1 1 1).toNatClampNeg + 12 := by unfold Int32.toNatClampNeg; omega
  have n12 : (s12.1 1 1).toNatClampNeg = (s.1 1 1).toNatClampNeg + 16 := by unfold Int32.toNatClampNeg; omega
  show s15.1 2 = _
  rw [h15.2.2, h12.2.2, h9.2.2, h6.2.2, h3.2.2, n3, n6, n9, n12]
  rfl
theorem wX11_feed_E {x1 x2 x3 x4 x5 : Int32} {s : wS} (h0 : 0 ≤ (s.1 152 1).toInt) (h1 : (s.1 152 1).toInt ≤ 400) : Tot (wX11_feed x1 x2 x3 x4 x5 s) (fun r => wA (fun k b => Nat.beq k 153 || (Nat.beq k 152 && Nat.beq b 1)) s r.2 ∧ ((400 < (s.1 152 1).toInt + 20 ∧ r = (-1, s)) ∨ ((s.1 152 1).toInt + 20 ≤ 400 ∧ r.1.toInt = (s.1 152 1).toInt + 20 ∧ r.2.1 152 1 = r.1 ∧ r.2.1 153 = p5 x1 x2 x3 x4 x5 (s.1 152 1).toNatClampNeg (s.1 153)))) := by
  have e20 : ((s.1 152 1) + 20).toInt = (s.1 152 1).toInt + 20 := t_pl rfl (by omega) (by omega) h0 (by omega)
  have e400 : (400 : Int32).toInt = 400 := rfl
  unfold wX11_feed
  refine t_ite (fun c => t_some ⟨wA.refl, Or.inl ⟨by have := t_lt c; omega, rfl⟩⟩) (fun c => ?_)
  have hc := t_ge c
  refine t_bind (wX11_four_E h0 (by omega)) (fun s3 h3 => t_bind (wX11_four_E (by omega) (by omega)) (fun s6 h6 => t_bind (wX11_four_E (by omega) (by omega)) (fun s9 h9 => t_bind (wX11_four_E (by omega) (by omega)) (fun s12 h12 => t_bind (wX11_four_E (by omega) (by omega)) (fun s15 h15 => t_some ⟨(((h3.1.trans h6.1).trans h9.1).trans h12.1).trans h15.1, Or.inr ⟨by omega, by show (s15.1 152 1).toInt = _; omega, rfl, ?_⟩⟩)))))
  have n3 : (s3.1 152 1).toNatClampNeg = (s.1 152 1).toNatClampNeg + 4 := by unfold Int32.toNatClampNeg; omega
  have n6 : (s6.1 152 1).toNatClampNeg = (s.1 152 1).toNatClampNeg + 8 := by unfold Int32.toNatClampNeg; omega
  have n9 : (s9.1 152 1).toNatClampNeg = (s.1 152 1).toNatClampNeg + 12 := by unfold Int32.toNatClampNeg; omega
  have n12 : (s12.1 152 1).toNatClampNeg = (s.1 152 1).toNatClampNeg + 16 := by unfold Int32.toNatClampNeg; omega
  show s15.1 153 = _
  rw [h15.2.2, h12.2.2, h9.2.2, h6.2.2, h3.2.2, n3, n6, n9, n12]
  rfl
/-- both are fed -/
theorem feed_both {x1 x2 x3 x4 x5 : Int32} {s s1 s2 : wS} {v v2 : Int32} (g : TA s) (e1 : wX10_feed x1 x2 x3 x4 x5 s = some (v, s1)) (e2 : wX11_feed x1 x2 x3 x4 x5 s1 = some (v2, s2)) : v = v2 ∧ TA s2 := by
  obtain ⟨ga, gb, gc⟩ := g
  obtain ⟨r, q1, a1, h1⟩ := wX10_feed_E (x1 := x1) (x2 := x2) (x3 := x3) (x4 := x4) (x5 := x5) gb.1 gb.2
  rw [e1] at q1
  obtain rfl := Option.some.inj q1
  dsimp only at a1 h1
  have z1 : s1.1 152 1 = s.1 152 1 := a1 152 1 rfl
  have z3 : s1.1 153 = s.1 153 := funext fun b => a1 153 b rfl
  obtain ⟨r, q2, a2, h2⟩ := wX11_feed_E (s := s1) (x1 := x1) (x2 := x2) (x3 := x3) (x4 := x4) (x5 := x5) (by rw [z1, ← ga]; exact gb.1) (by rw [z1, ← ga]; exact gb.2)
  rw [e2] at q2
  obtain rfl := Option.some.inj q2
  dsimp only at a2 h2
  rw [z1, z3, ← ga, ← gc] at h2
  have y1 : s2.1 1 1 = s1.1 1 1 := a2 1 1 rfl
  have y2 : s2.1 2 = s1.1 2 := funext fun b => a2 2 b rfl
  rcases h1 with ⟨c, e⟩ | ⟨c, e, e', e''⟩
  · obtain ⟨rfl, rfl⟩ := Prod.mk.inj e
    rcases h2 with ⟨_, q⟩ | ⟨c2, _⟩
    · obtain ⟨rfl, rfl⟩ := Prod.mk.inj q
      exact ⟨rfl, ga, gb, gc⟩
    · omega
  · rcases h2 with ⟨c2, _⟩ | ⟨_, q, q', q''⟩
    · omega
    · have hv : v = v2 := Int32.toInt_inj.1 (by omega)
      refine ⟨hv, by rw [y1, e', q', hv], by rw [y1, e']; omega, by rw [y2, e'', q'']⟩
theorem end_both {x1 : Int32} {s s1 s2 : wS} {v v2 : Int32} (g : TA s) (e1 : wX10_end x1 s = some (v, s1)) (e2 : wX11_end x1 s1 = some (v2, s2)) : v = v2 ∧ TA s2 := by
  obtain ⟨ga, gB, gc⟩ := g
  unfold wX10_end at e1
  unfold wX11_end at e2
  rcases gif e1 with ⟨c, e1⟩ | ⟨c, e1⟩
  · obtain ⟨rfl, rfl⟩ := gi2 e1
    rw [if_pos c] at e2
    obtain ⟨rfl, rfl⟩ := gi2 e2
    exact ⟨rfl, ga, gB, gc⟩
  · rw [if_neg c] at e2
    have c0 := t_ge c
    rw [t_i0] at c0
    rcases gif e1 with ⟨c1, e1⟩ | ⟨c1, e1⟩
    · obtain ⟨rfl, rfl⟩ := gi2 e1
      rw [← ga, if_pos c1] at e2
      obtain ⟨rfl, rfl⟩ := gi2 e2
      exact ⟨rfl, ga, gB, gc⟩
    · have c2 := t_ge c1
      obtain ⟨s3, e3, e1⟩ := gb e1
      obtain rfl := Option.some.inj e3
      obtain ⟨rfl, rfl⟩ := gi2 e1
      have z : (wupI s 1 1 x1).1 152 1 = s.1 152 1 := by rw [wupI_n (by omega)]
      rw [z, ← ga, if_neg c1] at e2
      obtain ⟨s4, e4, e2⟩ := gb e2
      obtain rfl := Option.some.inj e4
      obtain ⟨rfl, rfl⟩ := gi2 e2
      refine ⟨rfl, ?_, ?_, ?_⟩
      · rw [wup_same, wupI_n (by omega), wup_same]
      · rw [wupI_n (by omega), wup_same]
        omega
      · rw [wupI_n (by omega), wupI_n (by omega), wupI_n (by omega), wupI_n (by omega)]
        exact gc
