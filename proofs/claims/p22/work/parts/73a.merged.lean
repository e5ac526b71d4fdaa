section
/-! Both TAPES are told the same. -/
noncomputable def pw (x : Int32) : Nat → Int32 → Nat → (Nat → Int32) → (Nat → Int32)
  | 0, _, _, f => f
  | m + 1, h, p, f => pw x m (h + (-8)) (p + 1) (upd f p (vp_nar .byte ((x >>> (h &&& 31)).toInt8.toInt32)))
theorem wX8_putNumber_h3_E {x1 : Int32} : ∀ (n : Nat) {m : Nat} {x2 : Int32} {s : wS}, x2.toInt = 8 * (m : Int) - 8 → m ≤ 4 → 0 ≤ (s.1 1 1).toInt → (s.1 1 1).toInt + m ≤ 400 → m < n → Tot (wX8_putNumber_h3 x1 n x2 s) (fun r => wA (fun k b => (Nat.beq k 1 && Nat.beq b 1) || Nat.beq k 2) s r ∧ (r.1 1 1).toInt = (s.1 1 1).toInt + m ∧ r.1 2 = pw x1 m x2 (s.1 1 1).toNatClampNeg (s.1 2)) := by
  intro n
  induction n with
  | zero => intro m x2 s _ _ _ _ h; exact absurd h (by omega)
  | succ n ih =>
    intro m x2 s hx hm4 h0 h4 hm
    rw [wX8_putNumber_h3]
    refine t_ite (fun c => ?_) (fun c => ?_)
    · have hc := t_lt c
      rw [t_i0] at hc
      obtain rfl : m = 0 := by omega
      exact t_some ⟨wA.refl, by omega, rfl⟩
    · have hc := t_ge c
      rw [t_i0] at hc
      obtain ⟨k, rfl⟩ : ∃ k, m = k + 1 := ⟨m - 1, by omega⟩
      refine t_bind wX10_isOutside_T (fun t2 ht => ?_)
      have ht2 : t2 = 0 := by
        rcases ht with h | h
        · exact h.1
        · exact absurd ⟨h0, by rw [show (400 : Int32).toInt = 400 from rfl]; omega⟩ h.2
      refine t_ite (fun _ => ?_) (fun c2 => absurd ht2 c2)
      refine t_bind (t_stB (B := fun k b => (Nat.beq k 1 && Nat.beq b 1) || Nat.beq k 2) (n := 400) h0 (by omega) (fun _ => rfl)) (fun s5 h5 => ?_)
      refine t_bind (t_pfI (B := fun k b => (Nat.beq k 1 && Nat.beq b 1) || Nat.beq k 2) rfl) (fun s6 h6 => ?_)
      have e : (s6.1 1 1).toInt = (s.1 1 1).toInt + 1 := by
        rw [h6.2, wup_same, h5.2, wupI_n (by omega)]
        exact t_p1 h0 (by omega)
      have en : (s6.1 1 1).toNatClampNeg = (s.1 1 1).toNatClampNeg + 1 := by unfold Int32.toNatClampNeg; omega
      have e2 : s6.1 2 = upd (s.1 2) (s.1 1 1).toNatClampNeg (vp_nar .byte ((x1 >>> (x2 &&& 31)).toInt8.toInt32)) := by rw [h6.2, wupI_n (by omega), h5.2, wupI_k]
      have e8 : (x2 + (-8)).toInt = x2.toInt - 8 := by
        rw [t_add (by rw [show (-8 : Int32).toInt = -8 from rfl]; omega) (by rw [show (-8 : Int32).toInt = -8 from rfl]; omega), show (-8 : Int32).toInt = -8 from rfl]
        omega
      unfold wX8_putNumber_j45
      refine t_mono (ih (m := k) (x2 := x2 + (-8)) (s := s6) (by omega) (by omega) (by omega) (by omega) (by omega)) (fun r hr => ⟨(h5.1.trans h6.1).trans hr.1, by rw [hr.2.1]; omega, ?_⟩)
      rw [hr.2.2, en, e2]
      rfl
theorem wX11_four_h3_E {x1 : Int32} : ∀ (n : Nat) {m : Nat} {x2 : Int32} {s : wS}, x2.toInt = 8 * (m : Int) - 8 → m ≤ 4 → 0 ≤ (s.1 152 1).toInt → (s.1 152 1).toInt + m ≤ 400 → m < n → Tot (wX11_four_h3 x1 n x2 s) (fun r => wA (fun k b => Nat.beq k 153 || (Nat.beq k 152 && Nat.beq b 1)) s r ∧ (r.1 152 1).toInt = (s.1 152 1).toInt + m ∧ r.1 153 = pw x1 m x2 (s.1 152 1).toNatClampNeg (s.1 153)) := by
  intro n
  induction n with
  | zero => intro m x2 s _ _ _ _ h; exact absurd h (by omega)
  | succ n ih =>
    intro m x2 s hx hm4 h0 h4 hm
    rw [wX11_four_h3]
    refine t_ite (fun c => ?_) (fun c => ?_)
    · have hc := t_lt c
      rw [t_i0] at hc
      obtain rfl : m = 0 := by omega
      exact t_some ⟨wA.refl, by omega, rfl⟩
    · have hc := t_ge c
      rw [t_i0] at hc
      obtain ⟨k, rfl⟩ : ∃ k, m = k + 1 := ⟨m - 1, by omega⟩
      refine t_bind (t_stB (B := fun k b => Nat.beq k 153 || (Nat.beq k 152 && Nat.beq b 1)) (n := 400) h0 (by omega) (fun _ => rfl)) (fun s5 h5 => ?_)
      refine t_bind (t_pfI (B := fun k b => Nat.beq k 153 || (Nat.beq k 152 && Nat.beq b 1)) rfl) (fun s6 h6 => ?_)
      have e : (s6.1 152 1).toInt = (s.1 152 1).toInt + 1 := by
        rw [h6.2, wup_same, h5.2, wupI_n (by omega)]
        exact t_p1 h0 (by omega)
      have en : (s6.1 152 1).toNatClampNeg = (s.1 152 1).toNatClampNeg + 1 := by unfold Int32.toNatClampNeg; omega
      have e2 : s6.1 153 = upd (s.1 153) (s.1 152 1).toNatClampNeg (vp_nar .byte ((x1 >>> (x2 &&& 31)).toInt8.toInt32)) := by rw [h6.2, wupI_n (by omega), h5.2, wupI_k]
      have e8 : (x2 + (-8)).toInt = x2.toInt - 8 := by
        rw [t_add (by rw [show (-8 : Int32).toInt = -8 from rfl]; omega) (by rw [show (-8 : Int32).toInt = -8 from rfl]; omega), show (-8 : Int32).toInt = -8 from rfl]
        omega
      refine t_mono (ih (m := k) (x2 := x2 + (-8)) (s := s6) (by omega) (by omega) (by omega) (by omega) (by omega)) (fun r hr => ⟨(h5.1.trans h6.1).trans hr.1, by rw [hr.2.1]; omega, ?_⟩)
      rw [hr.2.2, en, e2]
      rfl
theorem wX8_putNumber_E {x1 : Int32} {s : wS} (h0 : 0 ≤ (s.1 1 1).toInt) (h4 : (s.1 1 1).toInt + 4 ≤ 400) : Tot (wX8_putNumber x1 s) (fun r => wA (fun k b => (Nat.beq k 1 && Nat.beq b 1) || Nat.beq k 2) s r ∧ (r.1 1 1).toInt = (s.1 1 1).toInt + 4 ∧ r.1 2 = pw x1 4 24 (s.1 1 1).toNatClampNeg (s.1 2)) := by
  unfold wX8_putNumber
  exact t_bind (wX8_putNumber_h3_E wFuel (m := 4) rfl (by omega) h0 h4 (by decide +kernel)) (fun s8 h => t_some h)
theorem wX11_four_E {x1 : Int32} {s : wS} (h0 : 0 ≤ (s.1 152 1).toInt) (h4 : (s.1 152 1).toInt + 4 ≤ 400) : Tot (wX11_four x1 s) (fun r => wA (fun k b => Nat.beq k 153 || (Nat.beq k 152 && Nat.beq b 1)) s r ∧ (r.1 152 1).toInt = (s.1 152 1).toInt + 4 ∧ r.1 153 = pw x1 4 24 (s.1 152 1).toNatClampNeg (s.1 153)) := by
  unfold wX11_four
  exact t_bind (wX11_four_h3_E wFuel (m := 4) rfl (by omega) h0 h4 (by decide +kernel)) (fun s5 h => t_some h)
/-- the TAPES are alike -/
noncomputable def TA (s : wS) : Prop := s.1 1 1 = s.1 152 1 ∧ (0 ≤ (s.1 1 1).toInt ∧ (s.1 1 1).toInt ≤ 400) ∧ s.1 2 = s.1 153
/-- five numbers told -/
noncomputable def p5 (x1 x2 x3 x4 x5 : Int32) (p : Nat) (f : Nat → Int32) : Nat → Int32 := pw x5 4 24 (p + 16) (pw x4 4 24 (p + 12) (pw x3 4 24 (p + 8) (pw x2 4 24 (p + 4) (pw x1 4 24 p f))))
theorem wX10_feed_E {x1 x2 x3 x4 x5 : Int32} {s : wS} (h0 : 0 ≤ (s.1 1 1).toInt) (h1 : (s.1 1 1).toInt ≤ 400) : Tot (wX10_feed x1 x2 x3 x4 x5 s) (fun r => wA (fun k b => (Nat.beq k 1 && Nat.beq b 1) || Nat.beq k 2) s r.2 ∧ ((400 < (s.1 1 1).toInt + 20 ∧ r = (-1, s)) ∨ ((s.1 1 1).toInt + 20 ≤ 400 ∧ r.1.toInt = (s.1 1 1).toInt + 20 ∧ r.2.1 1 1 = r.1 ∧ r.2.1 2 = p5 x1 x2 x3 x4 x5 (s.1 1 1).toNatClampNeg (s.1 2)))) := by
  have e20 : ((s.1 1 1) + 20).toInt = (s.1 1 1).toInt + 20 := t_pl rfl (by omega) (by omega) h0 (by omega)
  have e400 : (400 : Int32).toInt = 400 := rfl
  unfold wX10_feed
  refine t_ite (fun c => t_some ⟨wA.refl, Or.inl ⟨by have := t_lt c; omega, rfl⟩⟩) (fun c => ?_)
  have hc := t_ge c
  refine t_bind (wX8_putNumber_E h0 (by omega)) (fun s3 h3 => t_bind (wX8_putNumber_E (by omega) (by omega)) (fun s6 h6 => t_bind (wX8_putNumber_E (by omega) (by omega)) (fun s9 h9 => t_bind (wX8_putNumber_E (by omega) (by omega)) (fun s12 h12 => t_bind (wX8_putNumber_E (by omega) (by omega)) (fun s15 h15 => t_some ⟨(((h3.1.trans h6.1).trans h9.1).trans h12.1).trans h15.1, Or.inr ⟨by omega, by show (s15.1 1 1).toInt = _; omega, rfl, ?_⟩⟩)))))
  have n3 : (s3.1 1 1).toNatClampNeg = (s.1 1 1).toNatClampNeg + 4 := by unfold Int32.toNatClampNeg; omega
  have n6 : (s6.1 1 1).toNatClampNeg = (s.1 1 1).toNatClampNeg + 8 := by unfold Int32.toNatClampNeg; omega
  have n9 : (s9.1 1 1).toNatClampNeg = (s.1 1 1).toNatClampNeg + 12 := by unfold Int32.toNatClampNeg; omega
  have n12 : (s12.1 1 1).toNatClampNeg = (s.1 1 1).toNatClampNeg + 16 := by unfold Int32.toNatClampNeg; omega
  show s15.1 2 = _
  rw [h15.2.2, h12.2.2, h9.2.2, h6.2.2, h3.2.2, n3, n6, n9, n12]
  rfl
theorem wX11_feed_E {x1 x2 x3 x4 x5 : Int32} {s : wS} (h0 : 0 ≤ (s.1 152 1).toInt) (h1 : (s.1 152 1).toInt ≤ 400) : Tot (wX11_feed x1 x2 x3 x4 x5 s) (fun r => wA (fun k b => Nat.beq k 153 || (Nat.beq k 152 && Nat.beq b 1)) s r.2 ∧ ((400 < (s.1 152 1).toInt + 20 ∧ r = (-1, s)) ∨ ((s.1 152 1).toInt + 20 ≤ 400 ∧ r.1.toInt = (s.1 152 1).toInt + 20 ∧ r.2.1 152 1 = r.1 ∧ r.2.1 153 = p5 x1 x2 x3 x4 x5 (s.1 152 1).toNatClampNeg (s.1 153)))) := by
  have e20 : ((s.1 152 1) + 20).toInt = (s.1 152 1).toInt + 20 := t_pl rfl (by omega) (by omega) h0 (by omega)
  have e400 : (400 : Int32).toInt = 400 := rfl
  unfold wX11_feed
  refine t_ite (fun c => t_some ⟨wA.refl, Or.inl ⟨by have := t_lt c; omega, rfl⟩⟩) (fun c => ?_)
  have hc := t_ge c
  refine t_bind (wX11_four_E h0 (by omega)) (fun s3 h3 => t_bind (wX11_four_E (by omega) (by omega)) (fun s6 h6 => t_bind (wX11_four_E (by omega) (by omega)) (fun s9 h9 => t_bind (wX11_four_E (by omega) (by omega)) (fun s12 h12 => t_bind (wX11_four_E (by omega) (by omega)) (fun s15 h15 => t_some ⟨(((h3.1.trans h6.1).trans h9.1).trans h12.1).trans h15.1, Or.inr ⟨by omega, by show (s15.1 152 1).toInt = _; omega, rfl, ?_⟩⟩)))))
  have n3 : (s3.1 152 1).toNatClampNeg = (s.1 152 1).toNatClampNeg + 4 := by unfold Int32.toNatClampNeg; omega
  have n6 : (s6.1 152 1).toNatClampNeg = (s.1 152 1).toNatClampNeg + 8 := by unfold Int32.toNatClampNeg; omega
  have n9 : (s9.1 152 1).toNatClampNeg = (s.1 152 1).toNatClampNeg + 12 := by unfold Int32.toNatClampNeg; omega
  have n12 : (s12.1 152 1).toNatClampNeg = (s.1 152 1).toNatClampNeg + 16 := by unfold Int32.toNatClampNeg; omega
  show s15.1 153 = _
  rw [h15.2.2, h12.2.2, h9.2.2, h6.2.2, h3.2.2, n3, n6, n9, n12]
  rfl
/-- both are fed -/
theorem feed_both {x1 x2 x3 x4 x5 : Int32} {s s1 s2 : wS} {v v2 : Int32} (g : TA s) (e1 : wX10_feed x1 x2 x3 x4 x5 s = some (v, s1)) (e2 : wX11_feed x1 x2 x3 x4 x5 s1 = some (v2, s2)) : v = v2 ∧ TA s2 := by
  obtain ⟨ga, gb, gc⟩ := g
  obtain ⟨r, q1, a1, h1⟩ := wX10_feed_E (x1 := x1) (x2 := x2) (x3 := x3) (x4 := x4) (x5 := x5) gb.1 gb.2
  rw [e1] at q1
  obtain rfl := Option.some.inj q1
  dsimp only at a1 h1
  have z1 : s1.1 152 1 = s.1 152 1 := a1 152 1 rfl
  have z3 : s1.1 153 = s.1 153 := funext fun b => a1 153 b rfl
  obtain ⟨r, q2, a2, h2⟩ := wX11_feed_E (s := s1) (x1 := x1) (x2 := x2) (x3 := x3) (x4 := x4) (x5 := x5) (by rw [z1, ← ga]; exact gb.1) (by rw [z1, ← ga]; exact gb.2)
  rw [e2] at q2
  obtain rfl := Option.some.inj q2
  dsimp only at a2 h2
  rw [z1, z3, ← ga, ← gc] at h2
  have y1 : s2.1 1 1 = s1.1 1 1 := a2 1 1 rfl
  have y2 : s2.1 2 = s1.1 2 := funext fun b => a2 2 b rfl
  rcases h1 with ⟨c, e⟩ | ⟨c, e, e', e''⟩
  · obtain ⟨rfl, rfl⟩ := Prod.mk.inj e
    rcases h2 with ⟨_, q⟩ | ⟨c2, _⟩
    · obtain ⟨rfl, rfl⟩ := Prod.mk.inj q
      exact ⟨rfl, ga, gb, gc⟩
    · omega
  · rcases h2 with ⟨c2, _⟩ | ⟨_, q, q', q''⟩
    · omega
    · have hv : v = v2 := Int32.toInt_inj.1 (by omega)
      refine ⟨hv, by rw [y1, e', q', hv], by rw [y1, e']; omega, by rw [y2, e'', q'']⟩
theorem end_both {x1 : Int32} {s s1 s2 : wS} {v v2 : Int32} (g : TA s) (e1 : wX10_end x1 s = some (v, s1)) (e2 : wX11_end x1 s1 = some (v2, s2)) : v = v2 ∧ TA s2 := by
  obtain ⟨ga, gB, gc⟩ := g
  unfold wX10_end at e1
  unfold wX11_end at e2
  rcases gif e1 with ⟨c, e1⟩ | ⟨c, e1⟩
  · obtain ⟨rfl, rfl⟩ := gi2 e1
    rw [if_pos c] at e2
    obtain ⟨rfl, rfl⟩ := gi2 e2
    exact ⟨rfl, ga, gB, gc⟩
  · rw [if_neg c] at e2
    have c0 := t_ge c
    rw [t_i0] at c0
    rcases gif e1 with ⟨c1, e1⟩ | ⟨c1, e1⟩
    · obtain ⟨rfl, rfl⟩ := gi2 e1
      rw [← ga, if_pos c1] at e2
      obtain ⟨rfl, rfl⟩ := gi2 e2
      exact ⟨rfl, ga, gB, gc⟩
    · have c2 := t_ge c1
      obtain ⟨s3, e3, e1⟩ := gb e1
      obtain rfl := Option.some.inj e3
      obtain ⟨rfl, rfl⟩ := gi2 e1
      have z : (wupI s 1 1 x1).1 152 1 = s.1 152 1 := by rw [wupI_n (by omega)]
      rw [z, ← ga, if_neg c1] at e2
      obtain ⟨s4, e4, e2⟩ := gb e2
      obtain rfl := Option.some.inj e4
      obtain ⟨rfl, rfl⟩ := gi2 e2
      refine ⟨rfl, ?_, ?_, ?_⟩
      · rw [wup_same, wupI_n (by omega), wup_same]
      · rw [wupI_n (by omega), wup_same]
        omega
      · rw [wupI_n (by omega), wupI_n (by omega), wupI_n (by omega), wupI_n (by omega)]
        exact gc
end
section
/-! The class's bytes. -/
/-- the byte that stands at a place; 0 behind the end -/
noncomputable def bt (s : wS) (i : Nat) : Int32 := if (i : Int) < (s.1 1 1).toInt then s.1 2 i &&& 255 else 0
theorem wX8_byteAt_E {i : Int32} {s : wS} (hi : 0 ≤ i.toInt) (hT : (s.1 1 1).toInt ≤ 400) : wX8_byteAt i s = some (bt s i.toNatClampNeg) := by
  have en : ((i.toNatClampNeg : Nat) : Int) = i.toInt := by unfold Int32.toNatClampNeg; omega
  have j : wX8_byteAt_j23 s = some 0 := rfl
  unfold wX8_byteAt
  obtain ⟨t1, e1, h1⟩ := wX10_isOutside_T (x0 := i) (x1 := s.1 1 1) (s := s)
  rw [e1]
  show (if t1 = 0 then _ else _) = _
  rcases h1 with h | h
  · rw [if_pos h.1]
    obtain ⟨t4, e4, h4⟩ := wX10_isOutside_T (x0 := i) (x1 := 400) (s := s)
    rw [e4]
    show (if t4 = 0 then _ else _) = _
    rcases h4 with h' | h'
    · rw [if_pos h'.1]
      obtain ⟨t7, e7, h7⟩ := t_ldI (s := s) (k := 2) (n := 400) (i := i) hi (by omega)
      rw [e7, h7]
      show some (s.1 2 i.toNatClampNeg &&& 255) = _
      unfold bt
      rw [if_pos (by omega)]
    · exact absurd ⟨hi, by rw [show (400 : Int32).toInt = 400 from rfl]; omega⟩ h'.2
  · rw [if_neg (by rw [h.1]; decide), j]
    unfold bt
    rw [if_neg (fun q => h.2 ⟨hi, by omega⟩)]
/-- a byte between two -/
noncomputable def bw (s : wS) (lo hi : Int32) (i : Nat) : Prop := ¬ bt s i < lo ∧ ¬ hi < bt s i
theorem wX8_isBetween_E {i lo hi : Int32} {s : wS} (h0 : 0 ≤ i.toInt) (hT : (s.1 1 1).toInt ≤ 400) : Tot (wX8_isBetween i lo hi s) (fun t => (t = 0 ∧ ¬ bw s lo hi i.toNatClampNeg) ∨ (t = 1 ∧ bw s lo hi i.toNatClampNeg)) := by
  unfold wX8_isBetween
  rw [wX8_byteAt_E h0 hT]
  show Tot (if bt s i.toNatClampNeg < lo then _ else _) _
  exact t_ite (fun c => t_some (Or.inl ⟨rfl, fun q => q.1 c⟩)) (fun c => t_ite (fun c2 => t_some (Or.inl ⟨rfl, fun q => q.2 c2⟩)) (fun c2 => t_some (Or.inr ⟨rfl, c, c2⟩)))
/-- where a run of such bytes ends -/
theorem wX9_endOf_h5_E {lo hi : Int32} {s : wS} (hT : (s.1 1 1).toInt ≤ 400) : ∀ (n : Nat) {i : Int32}, 0 ≤ i.toInt → i.toInt ≤ 400 → 400 - i.toInt < (n : Int) → Tot (wX9_endOf_h5 lo hi s n i) (fun t => i.toInt ≤ t.toInt ∧ t.toInt ≤ 400 ∧ (∀ j : Nat, i.toInt ≤ j → (j : Int) < t.toInt → bw s lo hi j) ∧ (t.toInt < 400 → ¬ bw s lo hi t.toNatClampNeg)) := by
  intro n
  induction n with
  | zero => intro i h0 h4 hm; exfalso; omega
  | succ n ih =>
    intro i h0 h4 hm
    rw [wX9_endOf_h5]
    have e400 : (400 : Int32).toInt = 400 := rfl
    refine t_ite (fun c => ?_) (fun c => ?_)
    · have hc := t_lt c
      rw [e400] at hc
      refine t_bind (wX8_isBetween_E h0 hT) (fun t2 h2 => t_ite (fun c2 => ?_) (fun c2 => ?_))
      · have q := (h2.resolve_right (fun h => by rw [h.1] at c2; exact absurd c2 (by decide))).2
        exact t_some ⟨Int.le_refl _, h4, fun j h1 h3 => by omega, fun _ => q⟩
      · have q := (h2.resolve_left (fun h => c2 h.1)).2
        have e1 := t_p1 (x := i) h0 (by omega)
        refine t_mono (ih (i := i + 1) (by omega) (by omega) (by omega)) (fun t h => ⟨by omega, h.2.1, fun j h1 h3 => ?_, h.2.2.2⟩)
        by_cases hj : (j : Int) = i.toInt
        · have : j = i.toNatClampNeg := by unfold Int32.toNatClampNeg; omega
          rw [this]
          exact q
        · exact h.2.2.1 j (by omega) h3
    · have hc := t_ge c
      rw [e400] at hc
      exact t_some ⟨Int.le_refl _, h4, fun j h1 h3 => by omega, fun h => by omega⟩
theorem wX9_endOf_E {i lo hi : Int32} {s : wS} (hT : (s.1 1 1).toInt ≤ 400) (h0 : 0 ≤ i.toInt) (h4 : i.toInt < 400) : Tot (wX9_endOf i lo hi s) (fun t => i.toInt + 1 ≤ t.toInt ∧ t.toInt ≤ 400 ∧ (∀ j : Nat, i.toInt + 1 ≤ j → (j : Int) < t.toInt → bw s lo hi j) ∧ (t.toInt < 400 → ¬ bw s lo hi t.toNatClampNeg)) := by
  have e1 := t_p1 (x := i) h0 (by omega)
  unfold wX9_endOf
  refine t_bind (wX9_endOf_h5_E hT wFuel (i := i + 1) (by omega) (by omega) (by
    have e : ((wFuel : Nat) : Int) = 1099511627776 := rfl
    omega)) (fun t h => t_some ?_)
  rw [e1] at h
  exact h
end
section
/-! The class's NUMBERS and WORDS. -/
noncomputable def nv (s : wS) : Nat → Nat → Int32 → Int32
  | _, 0, v => v
  | i, m + 1, v => nv s (i + 1) m (v * 10 + bt s i - 48)
theorem wX9_numberAt_h14_E {x2 : Int32} {s : wS} (hT : (s.1 1 1).toInt ≤ 400) : ∀ (n : Nat) {m : Nat} {v i : Int32}, 0 ≤ i.toInt → x2.toInt ≤ 400 → i.toInt + m = x2.toInt → m < n → wX9_numberAt_h14 x2 s n v i = some (nv s i.toNatClampNeg m v) := by
  intro n
  induction n with
  | zero => intro m v i _ _ _ h; exact absurd h (by omega)
  | succ n ih =>
    intro m v i h0 h4 hm hn
    rw [wX9_numberAt_h14]
    by_cases c : i < x2
    · have hc := t_lt c
      obtain ⟨k, rfl⟩ : ∃ k, m = k + 1 := ⟨m - 1, by omega⟩
      rw [if_pos c, wX8_byteAt_E h0 hT]
      have e1 := t_p1 (x := i) h0 (by omega)
      have en : (i + 1).toNatClampNeg = i.toNatClampNeg + 1 := by unfold Int32.toNatClampNeg; omega
      show wX9_numberAt_h14 x2 s n (v * 10 + bt s i.toNatClampNeg - 48) (i + 1) = _
      rw [ih (m := k) (by omega) h4 (by omega) (by omega), en]
      rfl
    · have hc := t_ge c
      obtain rfl : m = 0 := by omega
      rw [if_neg c]
      rfl
theorem wX9_numberAt_E {x1 x2 : Int32} {s : wS} (hT : (s.1 1 1).toInt ≤ 400) (h0 : 0 ≤ x1.toInt) (h1 : x1.toInt ≤ x2.toInt) (h4 : x2.toInt ≤ 400) : wX9_numberAt x1 x2 s = some (if 5 < x2.toInt - x1.toInt then -1 else nv s x1.toNatClampNeg (x2.toInt - x1.toInt).toNat 0) := by
  have ed : (x2 - x1).toInt = x2.toInt - x1.toInt := t_sub (by omega) (by omega)
  unfold wX9_numberAt
  by_cases c : (5 : Int32) < x2 - x1
  · have hc := t_lt c
    rw [ed, show (5 : Int32).toInt = 5 from rfl] at hc
    rw [if_pos c, if_pos hc]
  · have hc := t_ge c
    rw [ed, show (5 : Int32).toInt = 5 from rfl] at hc
    rw [if_neg c, if_neg (by omega), wX9_numberAt_h14_E hT wFuel (m := (x2.toInt - x1.toInt).toNat) h0 h4 (by omega) (by
      have e : wFuel = 1099511627776 := rfl
      omega)]
    rfl
/-- a text stands there -/
noncomputable def sp (s : wS) (i len z : Nat) : Prop := len = rs_L.getD z 0 ∧ ∀ j : Nat, j < len → bt s (i + j) = rs_ch z (Int32.ofNat j)
theorem sln_i : ∀ z, z < 16 → (ri_sln z).toInt = rs_L.getD z 0 := by decide +kernel
theorem wX8_spells_h15_E {x1 : Int32} {z : Nat} {s : wS} (hz : z < 16) (hT : (s.1 1 1).toInt ≤ 400) (h0 : 0 ≤ x1.toInt) (h4 : x1.toInt ≤ 400) : ∀ (n : Nat) {k : Int32}, 0 ≤ k.toInt → k.toInt ≤ rs_L.getD z 0 → (rs_L.getD z 0 : Int) - k.toInt < n → Tot (wX8_spells_h15 x1 z s n k) (fun r => (r = .inl () ∧ ∀ j : Nat, k.toInt ≤ j → j < rs_L.getD z 0 → bt s (x1.toNatClampNeg + j) = rs_ch z (Int32.ofNat j)) ∨ (r = .inr () ∧ ∃ j : Nat, j < rs_L.getD z 0 ∧ ¬ bt s (x1.toNatClampNeg + j) = rs_ch z (Int32.ofNat j))) := by
  have hl : ∀ z, z < 16 → rs_L.getD z 0 ≤ 6 := by decide
  have hz6 := hl z hz
  intro n
  induction n with
  | zero => intro k hk0 hk1 hm; exfalso; omega
  | succ n ih =>
    intro k hk0 hk1 hm
    rw [wX8_spells_h15]
    have es := sln_i z hz
    refine t_ite (fun c => ?_) (fun c => ?_)
    · have hc := t_lt c
      rw [es] at hc
      have e := t_add (x := x1) (y := k) (by omega) (by omega)
      rw [wX8_byteAt_E (by omega) hT]
      have en : (x1 + k).toNatClampNeg = x1.toNatClampNeg + k.toNatClampNeg := by unfold Int32.toNatClampNeg; omega
      have ek : Int32.ofNat k.toNatClampNeg = k := by
        apply Int32.toInt_inj.mp
        rw [Int32.toInt_ofNat_of_lt (by unfold Int32.toNatClampNeg; omega)]
        unfold Int32.toNatClampNeg
        omega
      have ew : wsch z k = some (rs_ch z k) := by
        unfold wsch
        rw [if_pos ⟨fun q => by have := t_lt q; rw [t_i0] at this; omega, c⟩]
      show Tot ((wsch z k).bind _) _
      rw [ew]
      show Tot (if bt s (x1 + k).toNatClampNeg = rs_ch z k then _ else _) _
      rw [en]
      refine t_ite (fun c2 => ?_) (fun c2 => t_some (Or.inr ⟨rfl, k.toNatClampNeg, by unfold Int32.toNatClampNeg; omega, by rw [ek]; exact c2⟩))
      have e1 := t_p1 (x := k) hk0 (by omega)
      refine t_mono (ih (k := k + 1) (by omega) (by omega) (by omega)) (fun r h => ?_)
      rcases h with ⟨h1, h2⟩ | h
      · refine Or.inl ⟨h1, fun j h3 h5 => ?_⟩
        by_cases hj : (j : Int) = k.toInt
        · have : j = k.toNatClampNeg := by unfold Int32.toNatClampNeg; omega
          rw [this, ek]
          exact c2
        · exact h2 j (by omega) h5
      · exact Or.inr h
    · have hc := t_ge c
      rw [es] at hc
      exact t_some (Or.inl ⟨rfl, fun j h1 h2 => by omega⟩)
theorem wX8_spells_E {x1 x2 : Int32} {z : Nat} {s : wS} (hz : z < 16) (hT : (s.1 1 1).toInt ≤ 400) (h0 : 0 ≤ x1.toInt) (h1 : x1.toInt ≤ x2.toInt) (h4 : x2.toInt ≤ 400) : Tot (wX8_spells x1 x2 z s) (fun t => (t = 1 ∧ sp s x1.toNatClampNeg (x2.toInt - x1.toInt).toNat z) ∨ (t = 0 ∧ ¬ sp s x1.toNatClampNeg (x2.toInt - x1.toInt).toNat z)) := by
  have ed : (x2 - x1).toInt = x2.toInt - x1.toInt := t_sub (by omega) (by omega)
  have es := sln_i z hz
  unfold wX8_spells
  refine t_ite (fun c => ?_) (fun c => ?_)
  · have hL : x2.toInt - x1.toInt = rs_L.getD z 0 := by rw [← ed, c, es]
    refine t_bind (wX8_spells_h15_E hz hT h0 (by omega) wFuel (k := 0) (by decide) (by rw [t_i0]; omega) (by
      have e : ((wFuel : Nat) : Int) = 1099511627776 := rfl
      rw [t_i0]
      omega)) (fun r h => ?_)
    rcases h with ⟨rfl, h⟩ | ⟨rfl, j, h2, h3⟩
    · exact t_some (Or.inl ⟨rfl, by omega, fun j hj => h j (by rw [t_i0]; omega) (by omega)⟩)
    · exact t_some (Or.inr ⟨rfl, fun q => h3 (q.2 j (by omega))⟩)
  · refine t_some (Or.inr ⟨rfl, fun q => c (Int32.toInt_inj.1 ?_)⟩)
    rw [ed, es]
    have := q.1
    omega
end
section
/-! The class's WORD signs. -/
theorem sp_same {s : wS} {i len y z : Nat} (hy : y < 16) (hz : z < 16) (h : sp s i len y) (g : sp s i len z) : y = z := by
  have d : ∀ y, y < 16 → ∀ z, z < 16 → y ≠ z → rs_L.getD y 0 = rs_L.getD z 0 → ∃ j, j < rs_L.getD y 0 ∧ rs_ch y (Int32.ofNat j) ≠ rs_ch z (Int32.ofNat j) := by decide +kernel
  by_cases e : y = z
  · exact e
  · exfalso
    obtain ⟨j, hj, hn⟩ := d y hy z hz e (h.1.symm.trans g.1)
    exact hn ((h.2 j (by rw [h.1]; exact hj)).symm.trans (g.2 j (by rw [h.1]; exact hj)))
/-- the sign of a WORD: 15 and its place, or 1 -/
noncomputable def WS (s : wS) (i len : Nat) (t : Int32) : Prop := (∃ z, z < 16 ∧ t = Int32.ofNat (15 + z) ∧ sp s i len z) ∨ (t = 1 ∧ ∀ z, z < 16 → ¬ sp s i len z)
theorem ws_step {α : Type} {x1 x2 : Int32} {z : Nat} {s : wS} {f g : Option α} {Q : α → Prop} (hz : z < 16) (hT : (s.1 1 1).toInt ≤ 400) (h0 : 0 ≤ x1.toInt) (h1 : x1.toInt ≤ x2.toInt) (h4 : x2.toInt ≤ 400) (hf : ¬ sp s x1.toNatClampNeg (x2.toInt - x1.toInt).toNat z → Tot f Q) (hg : sp s x1.toNatClampNeg (x2.toInt - x1.toInt).toNat z → Tot g Q) : Tot ((wX8_spells x1 x2 z s).bind fun t => if t = 0 then f else g) Q := by
  refine t_bind (wX8_spells_E hz hT h0 h1 h4) (fun t h => t_ite (fun c => ?_) (fun c => ?_))
  · rcases h with h | h
    · rw [h.1] at c; exact absurd c (by decide)
    · exact hf h.2
  · rcases h with h | h
    · exact hg h.2
    · exact absurd h.1 c
theorem wX9_wordSign_E {x1 x2 : Int32} {s : wS} (hT : (s.1 1 1).toInt ≤ 400) (h0 : 0 ≤ x1.toInt) (h1 : x1.toInt ≤ x2.toInt) (h4 : x2.toInt ≤ 400) : Tot (wX9_wordSign x1 x2 s) (fun t => WS s x1.toNatClampNeg (x2.toInt - x1.toInt).toNat t) := by
  unfold wX9_wordSign
  refine ws_step (z := 0) (by decide) hT h0 h1 h4 (fun n0 => ?_) (fun h => t_some (Or.inl ⟨0, by decide, rfl, h⟩))
  refine ws_step (z := 1) (by decide) hT h0 h1 h4 (fun n1 => ?_) (fun h => t_some (Or.inl ⟨1, by decide, rfl, h⟩))
  refine ws_step (z := 2) (by decide) hT h0 h1 h4 (fun n2 => ?_) (fun h => t_some (Or.inl ⟨2, by decide, rfl, h⟩))
  refine ws_step (z := 3) (by decide) hT h0 h1 h4 (fun n3 => ?_) (fun h => t_some (Or.inl ⟨3, by decide, rfl, h⟩))
  refine ws_step (z := 4) (by decide) hT h0 h1 h4 (fun n4 => ?_) (fun h => t_some (Or.inl ⟨4, by decide, rfl, h⟩))
  refine ws_step (z := 5) (by decide) hT h0 h1 h4 (fun n5 => ?_) (fun h => t_some (Or.inl ⟨5, by decide, rfl, h⟩))
  refine ws_step (z := 6) (by decide) hT h0 h1 h4 (fun n6 => ?_) (fun h => t_some (Or.inl ⟨6, by decide, rfl, h⟩))
  refine ws_step (z := 7) (by decide) hT h0 h1 h4 (fun n7 => ?_) (fun h => t_some (Or.inl ⟨7, by decide, rfl, h⟩))
  refine t_bind (P := fun t => WS s x1.toNatClampNeg (x2.toInt - x1.toInt).toNat t) ?_ (fun t h => t_some h)
  unfold wX9_valueWordSign
  refine ws_step (z := 8) (by decide) hT h0 h1 h4 (fun n8 => ?_) (fun h => t_some (Or.inl ⟨8, by decide, rfl, h⟩))
  refine ws_step (z := 9) (by decide) hT h0 h1 h4 (fun n9 => ?_) (fun h => t_some (Or.inl ⟨9, by decide, rfl, h⟩))
  refine ws_step (z := 10) (by decide) hT h0 h1 h4 (fun n10 => ?_) (fun h => t_some (Or.inl ⟨10, by decide, rfl, h⟩))
  refine ws_step (z := 11) (by decide) hT h0 h1 h4 (fun n11 => ?_) (fun h => t_some (Or.inl ⟨11, by decide, rfl, h⟩))
  refine ws_step (z := 12) (by decide) hT h0 h1 h4 (fun n12 => ?_) (fun h => t_some (Or.inl ⟨12, by decide, rfl, h⟩))
  refine ws_step (z := 13) (by decide) hT h0 h1 h4 (fun n13 => ?_) (fun h => t_some (Or.inl ⟨13, by decide, rfl, h⟩))
  refine ws_step (z := 14) (by decide) hT h0 h1 h4 (fun n14 => ?_) (fun h => t_some (Or.inl ⟨14, by decide, rfl, h⟩))
  refine ws_step (z := 15) (by decide) hT h0 h1 h4 (fun n15 => ?_) (fun h => t_some (Or.inl ⟨15, by decide, rfl, h⟩))
  refine t_some (Or.inr ⟨rfl, fun z hz => ?_⟩)
  match z, hz with
  | 0, _ => exact n0
  | 1, _ => exact n1
  | 2, _ => exact n2
  | 3, _ => exact n3
  | 4, _ => exact n4
  | 5, _ => exact n5
  | 6, _ => exact n6
  | 7, _ => exact n7
  | 8, _ => exact n8
  | 9, _ => exact n9
  | 10, _ => exact n10
  | 11, _ => exact n11
  | 12, _ => exact n12
  | 13, _ => exact n13
  | 14, _ => exact n14
  | 15, _ => exact n15
  | k + 16, h => exact absurd h (by omega)
end
section
/-! The reference's WORDS, packed. -/
theorem t_bv {x : Int64} (h : 0 ≤ x.toInt) : x.toInt = x.toBitVec.toNat ∧ x.toBitVec.toNat < 2 ^ 63 := by
  have e : x.toInt = x.toBitVec.toInt := rfl
  have c := BitVec.toInt_eq_toNat_cond x.toBitVec
  have l := x.toBitVec.isLt
  rw [e] at h ⊢
  rw [c] at h ⊢
  by_cases q : 2 * x.toBitVec.toNat < 2 ^ 64
  · rw [if_pos q]
    exact ⟨rfl, by omega⟩
  · rw [if_neg q] at h
    omega
theorem pk_step {x : Int64} {c : Int32} (h0 : 0 ≤ x.toInt) (h1 : x.toInt < 2 ^ 48) (c0 : 0 ≤ c.toInt) (c1 : c.toInt < 256) : ((x <<< ((8 : Int32).toInt64 &&& 63)) ||| c.toInt64).toInt = 256 * x.toInt + c.toInt := by
  have es : ((8 : Int32).toInt64 &&& 63) = 8 := by decide
  rw [es]
  obtain ⟨ex, lx'⟩ := t_bv h0
  have hc : (c.toInt64).toInt = c.toInt := Int32.toInt_toInt64 c
  obtain ⟨ec, lc⟩ := t_bv (x := c.toInt64) (by rw [hc]; exact c0)
  have es2 : (8 : Int64).toBitVec.smod 64 = 8#64 := by decide
  have n1 : ((x <<< (8 : Int64)) ||| c.toInt64).toBitVec.toNat = 256 * x.toBitVec.toNat + c.toInt64.toBitVec.toNat := by
    rw [Int64.toBitVec_or, Int64.toBitVec_shiftLeft, es2, BitVec.toNat_or]
    have e8 : (x.toBitVec <<< (8#64)).toNat = x.toBitVec.toNat <<< 8 := by
      rw [BitVec.shiftLeft_eq', BitVec.toNat_shiftLeft]
      rw [show (8#64).toNat = 8 from rfl, Nat.mod_eq_of_lt]
      rw [Nat.shiftLeft_eq]
      omega
    rw [e8, ← Nat.shiftLeft_add_eq_or_of_lt (by omega), Nat.shiftLeft_eq]
    omega
  have r : ((x <<< (8 : Int64)) ||| c.toInt64).toInt = ((x <<< (8 : Int64)) ||| c.toInt64).toBitVec.toInt := rfl
  rw [r, BitVec.toInt_eq_toNat_cond, n1, if_pos (by omega)]
  omega
noncomputable def pkN (s : wS) (i : Nat) : Nat → Int
  | 0 => 0
  | m + 1 => 256 * pkN s i m + (s.1 153 (i + m)).toInt
theorem pkN_b {s : wS} {i : Nat} : ∀ {m : Nat}, (∀ j, j < m → LTx s (i + j)) → 0 ≤ pkN s i m ∧ pkN s i m < 256 ^ m := by
  intro m
  induction m with
  | zero => intro _; exact ⟨by show (0 : Int) ≤ 0; omega, by show (0 : Int) < 256 ^ 0; decide⟩
  | succ m ih =>
    intro h
    obtain ⟨a, b⟩ := ih (fun j hj => h j (by omega))
    have c := h m (by omega)
    unfold LTx at c
    show 0 ≤ 256 * pkN s i m + (s.1 153 (i + m)).toInt ∧ 256 * pkN s i m + (s.1 153 (i + m)).toInt < 256 ^ (m + 1)
    rw [Int.pow_succ]
    omega
/-- the letters from a place on: how many, and packed -/
noncomputable def RUN (s : wS) (M : Nat) : Prop := (∀ j : Nat, j < M → LTx s ((s.1 152 12).toNatClampNeg + j)) ∧ (s.1 152 12).toInt + M ≤ (s.1 152 1).toInt ∧ ((s.1 152 12).toInt + M < (s.1 152 1).toInt → ¬ LTx s ((s.1 152 12).toNatClampNeg + M))
theorem wX11_isWord_h10_E {x1 : Int64} {s : wS} (g : TP s) : ∀ (n : Nat) {m : Nat} {x3 : Int64} {x5 : Int32}, x5.toInt = m → (∀ j : Nat, j < m → LTx s ((s.1 152 12).toNatClampNeg + j)) → (s.1 152 12).toInt + m ≤ (s.1 152 1).toInt → (m ≤ 7 → x3.toInt = pkN s (s.1 152 12).toNatClampNeg m) → (s.1 152 1).toInt - (s.1 152 12).toInt - m < (n : Int) → Tot (wX11_isWord_h10 x1 s n x3 x5) (fun r => ∃ M : Nat, r.2.toInt = M ∧ RUN s M ∧ (M ≤ 7 → r.1.toInt = pkN s (s.1 152 12).toNatClampNeg M)) := by
  intro n
  induction n with
  | zero => intro m x3 x5 h5 hL hT hp hm; exfalso; omega
  | succ n ih =>
    intro m x3 x5 h5 hL hT hp hm
    rw [wX11_isWord_h10]
    obtain ⟨g1, g2⟩ := g
    have e : (s.1 152 12 + x5).toInt = (s.1 152 12).toInt + m := by rw [t_add (by omega) (by omega), h5]
    have en : (s.1 152 12 + x5).toNatClampNeg = (s.1 152 12).toNatClampNeg + m := by unfold Int32.toNatClampNeg; omega
    refine t_bind (wX11_isLetter_T ⟨g1, g2⟩ (by omega)) (fun t4 h4 => t_ite (fun c => ?_) (fun c => ?_))
    · refine t_some ⟨m, h5, ⟨hL, hT, fun q1 q2 => ?_⟩, hp⟩
      rcases h4 with h | h
      · exact h.2 ⟨by omega, by rw [en]; exact q2⟩
      · rw [h.1] at c; exact absurd c (by decide)
    · have h6 : (s.1 152 12 + x5).toInt < (s.1 152 1).toInt ∧ LTx s (s.1 152 12 + x5).toNatClampNeg := by
        rcases h4 with h | h
        · exact absurd h.1 c
        · exact h.2
      rw [en] at h6
      have hL2 : ∀ j : Nat, j < m + 1 → LTx s ((s.1 152 12).toNatClampNeg + j) := by
        intro j hj
        by_cases hjm : j = m
        · rw [hjm]; exact h6.2
        · exact hL j (by omega)
      have e1 := t_p1 (x := x5) (by omega) (by omega)
      have e8 : (8 : Int32).toInt = 8 := rfl
      refine t_ite (fun c8 => ?_) (fun c8 => ?_)
      · have hc8 := t_lt c8
        refine t_bind (t_ldI (n := 400) (by omega) (by omega)) (fun t8 h8 => ?_)
        unfold wX11_isWord_j50
        refine ih (m := m + 1) (by omega) hL2 (by omega) (fun h7 => ?_) (by omega)
        obtain ⟨b0, b1⟩ := pkN_b hL
        have p := hp (by omega)
        have l := h6.2
        unfold LTx at l
        have hb : (256 : Int) ^ m ≤ 2 ^ 48 := (show ∀ m : Nat, m < 7 → (256 : Int) ^ m ≤ 2 ^ 48 by decide) m (by omega)
        rw [h8, en, pk_step (by omega) (by omega) (by omega) (by omega), p]
        rfl
      · have hc8 := t_ge c8
        unfold wX11_isWord_j50
        exact ih (m := m + 1) (by omega) hL2 (by omega) (fun h7 => by omega) (by omega)
end
section
/-! Tokens: what the class cuts the text into. -/
theorem t_sb {α β : Type} {a : α} {f : α → Option β} {Q : β → Prop} (h : Tot (f a) Q) : Tot ((some a).bind f) Q := h
theorem t_sbe {α β : Type} {a : α} {f : α → Option β} : (some a).bind f = f a := rfl
/-- a byte's sign -/
noncomputable def bsg (c d : Int32) : Int32 := if c = 42 then 8 else if c = 43 then 6 else if c = 45 then 7 else if c = 47 then 9 else if c = 59 then 3 else if c = 60 then (if d = 61 then 11 else 10) else if c = 61 then 12 else if c = 62 then (if d = 61 then 13 else 14) else if c = 91 then 4 else if c = 93 then 5 else 1
theorem wX9_byteSign_E {c d y : Int32} {s : wS} (hy : (d = 61 ∧ y = 1) ∨ (¬ d = 61 ∧ y = 0)) : wX9_byteSign c y s = some (bsg c d) := by
  unfold wX9_byteSign bsg
  rcases hy with ⟨h, rfl⟩ | ⟨h, rfl⟩
  · simp only [h, if_true, show ¬ ((1 : Int32) = 0) by decide, if_false]
    repeat' (first | rfl | split)
  · simp only [h, if_true, if_false]
    repeat' (first | rfl | split)
/-- only the tokens were written -/
noncomputable def bTk (k b : Nat) : Bool := (Nat.ble 4 k && Nat.ble k 6) || (Nat.beq k 3 && Nat.beq b 3)
theorem wX9_put_E {x1 x2 x3 : Int32} {s : wS} (h0 : 0 ≤ (s.1 3 3).toInt) (h1 : (s.1 3 3).toInt ≤ 400) : Tot (wX9_put x1 x2 x3 s) (fun r => wA bTk s r ∧ (r.1 3 3).toInt = (s.1 3 3).toInt + 1 ∧ r.1 4 = upd (s.1 4) (s.1 3 3).toNatClampNeg x1 ∧ r.1 5 = upd (s.1 5) (s.1 3 3).toNatClampNeg x2 ∧ r.1 6 = upd (s.1 6) (s.1 3 3).toNatClampNeg x3) := by
  have e401 : (401 : Int32).toInt = 401 := rfl
  unfold wX9_put
  refine t_bind wX10_isOutside_T (fun t1 ht => ?_)
  have ht1 : t1 = 0 := by
    rcases ht with h | h
    · exact h.1
    · exact absurd ⟨h0, by omega⟩ h.2
  refine t_ite (fun _ => ?_) (fun c => absurd ht1 c)
  refine t_bind (t_stI (B := bTk) (n := 401) h0 (by omega) (fun _ => rfl)) (fun s4 h4 => ?_)
  have z4 : s4.1 3 = s.1 3 := by rw [h4.2, wupI_n (by omega)]
  refine t_bind (t_stI (B := bTk) (n := 401) (by rw [z4]; exact h0) (by rw [z4]; omega) (fun _ => rfl)) (fun s5 h5 => ?_)
  have z5 : s5.1 3 = s.1 3 := by rw [h5.2, wupI_n (by omega), z4]
  refine t_bind (t_stI (B := bTk) (n := 401) (by rw [z5]; exact h0) (by rw [z5]; omega) (fun _ => rfl)) (fun s6 h6 => ?_)
  have z6 : s6.1 3 = s.1 3 := by rw [h6.2, wupI_n (by omega), z5]
  refine t_bind (t_pfI (B := bTk) rfl) (fun s7 h7 => t_some ⟨((h4.1.trans h5.1).trans h6.1).trans h7.1, ?_, ?_, ?_, ?_⟩)
  · rw [h7.2, wup_same, z6]
    exact t_p1 h0 (by omega)
  · rw [h7.2, wupI_n (by omega), h6.2, wupI_n (by omega), h5.2, wupI_n (by omega), h4.2, wupI_k]
  · rw [h7.2, wupI_n (by omega), h6.2, wupI_n (by omega), h5.2, wupI_k, z4, h4.2, wupI_n (by omega)]
  · rw [h7.2, wupI_n (by omega), h6.2, wupI_k, z5, h5.2, wupI_n (by omega), h4.2, wupI_n (by omega)]
/-- letters, digits -/
noncomputable abbrev lt (G : wS) (i : Nat) : Prop := bw G 97 122 i
noncomputable abbrev dg (G : wS) (i : Nat) : Prop := bw G 48 57 i
/-- a token from a place to its end -/
noncomputable def TOK (G : wS) (p : Nat) (sg nm : Int32) (e : Nat) : Prop :=
  p < e ∧ ((lt G p ∧ (∀ j, p ≤ j → j < e → lt G j) ∧ ¬ lt G e ∧ WS G p (e - p) sg)
  ∨ (dg G p ∧ (∀ j, p ≤ j → j < e → dg G j) ∧ ¬ dg G e ∧ sg = 2 ∧ nm = (if 5 < e - p then -1 else nv G p (e - p) 0))
  ∨ (¬ lt G p ∧ ¬ dg G p ∧ ¬ bt G p = 32 ∧ (p : Int) < (G.1 1 1).toInt ∧ sg = bsg (bt G p) (bt G (p + 1)) ∧ e = if sg = 11 ∨ sg = 13 then p + 2 else p + 1))
theorem bt_lt {G : wS} {i : Nat} (h : ¬ bt G i = 0) : (i : Int) < (G.1 1 1).toInt := by
  unfold bt at h
  by_cases c : (i : Int) < (G.1 1 1).toInt
  · exact c
  · rw [if_neg c] at h; exact absurd rfl h
theorem bw_lt {G : wS} {lo hi : Int32} {i : Nat} (h0 : 0 < lo.toInt) (h : bw G lo hi i) : (i : Int) < (G.1 1 1).toInt := by
  apply bt_lt
  intro e
  have := h.1
  rw [e] at this
  have := t_ge this
  rw [t_i0] at this
  omega
theorem lt_lt {G : wS} {i : Nat} (h : lt G i) : (i : Int) < (G.1 1 1).toInt := bw_lt (by decide) h
theorem dg_lt {G : wS} {i : Nat} (h : dg G i) : (i : Int) < (G.1 1 1).toInt := bw_lt (by decide) h
/-- a token ends in the text -/
theorem TOK.le {G : wS} {p e : Nat} {sg nm : Int32} (h : TOK G p sg nm e) : (p : Int) < (G.1 1 1).toInt ∧ (e : Int) ≤ (G.1 1 1).toInt := by
  obtain ⟨h0, h | h | h⟩ := h
  · have := lt_lt (h.2.1 (e - 1) (by omega) (by omega))
    exact ⟨lt_lt h.1, by omega⟩
  · have := dg_lt (h.2.1 (e - 1) (by omega) (by omega))
    exact ⟨dg_lt h.1, by omega⟩
  · obtain ⟨_, _, _, h4, h5, h6⟩ := h
    refine ⟨h4, ?_⟩
    by_cases c : sg = 11 ∨ sg = 13
    · rw [if_pos c] at h6
      have : ¬ bt G (p + 1) = 0 := by
        intro z
        unfold bsg at h5
        rw [z] at h5
        simp only [show ¬ ((0 : Int32) = 61) by decide, if_false] at h5
        have key : ∀ c : Int32, (if c = 42 then (8 : Int32) else if c = 43 then 6 else if c = 45 then 7 else if c = 47 then 9 else if c = 59 then 3 else if c = 60 then 10 else if c = 61 then 12 else if c = 62 then 14 else if c = 91 then 4 else if c = 93 then 5 else 1) ≠ 11 ∧ (if c = 42 then (8 : Int32) else if c = 43 then 6 else if c = 45 then 7 else if c = 47 then 9 else if c = 59 then 3 else if c = 60 then 10 else if c = 61 then 12 else if c = 62 then 14 else if c = 91 then 4 else if c = 93 then 5 else 1) ≠ 13 := by
          intro c
          repeat' (first | exact ⟨by decide, by decide⟩ | split)
        rcases c with c | c
        · exact (key (bt G p)).1 (h5.symm.trans c)
        · exact (key (bt G p)).2 (h5.symm.trans c)
      have := bt_lt this
      omega
    · rw [if_neg c] at h6
      omega
/-- blanks from a place to the next -/
noncomputable def SK (G : wS) (n p : Nat) : Prop := n ≤ p ∧ (p : Int) ≤ (G.1 1 1).toInt ∧ (∀ j, n ≤ j → j < p → bt G j = 32) ∧ ¬ bt G p = 32
theorem SK.uniq {G : wS} {n p q : Nat} (h : SK G n p) (g : SK G n q) : p = q := by
  obtain ⟨h1, _, h3, h4⟩ := h
  obtain ⟨g1, _, g3, g4⟩ := g
  by_cases c : p < q
  · exact absurd (g3 p h1 c) h4
  · by_cases d : q < p
    · exact absurd (h3 q g1 d) g4
    · omega
noncomputable def pv (E : Nat → Nat) : Nat → Nat
  | 0 => 0
  | k + 1 => E k
noncomputable def upd' (E : Nat → Nat) (m e : Nat) : Nat → Nat := fun k => if k = m then e else E k
/-- the tokens up to one -/
noncomputable def TKs (G : wS) (S P N : Nat → Int32) (E : Nat → Nat) (m : Nat) : Prop := ∀ k, k < m → 0 ≤ (P k).toInt ∧ TOK G (P k).toNatClampNeg (S k) (N k) (E k) ∧ SK G (pv E k) (P k).toNatClampNeg
theorem bt_congr {s G : wS} (h1 : s.1 1 1 = G.1 1 1) (h2 : s.1 2 = G.1 2) (i : Nat) : bt s i = bt G i := by
  unfold bt
  rw [h1, h2]
theorem bt_fun {s G : wS} (h1 : s.1 1 1 = G.1 1 1) (h2 : s.1 2 = G.1 2) : bt s = bt G := funext (bt_congr h1 h2)
theorem nv_congr {s G : wS} (h : bt s = bt G) : ∀ {m i : Nat} {v : Int32}, nv s i m v = nv G i m v := by
  intro m
  induction m with
  | zero => intro i v; rfl
  | succ m ih => intro i v; show nv s (i + 1) m (v * 10 + bt s i - 48) = nv G (i + 1) m (v * 10 + bt G i - 48); rw [h, ih]
theorem TOK_congr {s G : wS} {p e : Nat} {sg nm : Int32} (h1 : s.1 1 1 = G.1 1 1) (h2 : s.1 2 = G.1 2) (h : TOK s p sg nm e) : TOK G p sg nm e := by
  have e := bt_fun h1 h2
  have e2 : ∀ (m i : Nat) (v : Int32), nv s i m v = nv G i m v := fun m i v => nv_congr e
  unfold TOK WS sp lt dg bw at *
  rw [e, h1, e2] at h
  exact h
theorem wX9_cutOne_E {x2 : Int32} {s : wS} (hT : (s.1 1 1).toInt ≤ 400) (h0 : 0 ≤ x2.toInt) (hx : x2.toInt < (s.1 1 1).toInt) (hm0 : 0 ≤ (s.1 3 3).toInt) (hm1 : (s.1 3 3).toInt ≤ 400) : Tot (wX9_cutOne x2 s) (fun r => (bt s x2.toNatClampNeg = 32 ∧ r.1.toInt = x2.toInt + 1 ∧ r.2 = s) ∨ (¬ bt s x2.toNatClampNeg = 32 ∧ ∃ (sg nm : Int32) (e : Nat), TOK s x2.toNatClampNeg sg nm e ∧ r.1.toInt = e ∧ wA bTk s r.2 ∧ (r.2.1 3 3).toInt = (s.1 3 3).toInt + 1 ∧ r.2.1 4 = upd (s.1 4) (s.1 3 3).toNatClampNeg sg ∧ r.2.1 5 = upd (s.1 5) (s.1 3 3).toNatClampNeg x2 ∧ r.2.1 6 = upd (s.1 6) (s.1 3 3).toNatClampNeg nm)) := by
  have ex1 := t_p1 (x := x2) h0 (by omega)
  have enx : ((x2.toNatClampNeg : Nat) : Int) = x2.toInt := by unfold Int32.toNatClampNeg; omega
  have en1 : (x2 + 1).toNatClampNeg = x2.toNatClampNeg + 1 := by unfold Int32.toNatClampNeg; omega
  unfold wX9_cutOne
  rw [wX8_byteAt_E h0 hT]
  show Tot (if bt s x2.toNatClampNeg = 32 then _ else _) _
  refine t_ite (fun c => t_some (Or.inl ⟨c, ex1, rfl⟩)) (fun c => ?_)
  refine t_bind (wX8_isBetween_E h0 hT) (fun t4 h4 => t_ite (fun c4 => ?_) (fun c4 => ?_))
  · have nl : ¬ lt s x2.toNatClampNeg := (h4.resolve_right (fun h => by rw [h.1] at c4; exact absurd c4 (by decide))).2
    refine t_bind (wX8_isBetween_E h0 hT) (fun t7 h7 => t_ite (fun c7 => ?_) (fun c7 => ?_))
    · have nd : ¬ dg s x2.toNatClampNeg := (h7.resolve_right (fun h => by rw [h.1] at c7; exact absurd c7 (by decide))).2
      rw [wX8_byteAt_E (by omega) hT, en1]
      show Tot (if bt s (x2.toNatClampNeg + 1) = 61 then wX9_cutOne_j108 x2 (bt s x2.toNatClampNeg) 1 s else wX9_cutOne_j108 x2 (bt s x2.toNatClampNeg) 0 s) _
      have key : ∀ y : Int32, ((bt s (x2.toNatClampNeg + 1) = 61 ∧ y = 1) ∨ (¬ bt s (x2.toNatClampNeg + 1) = 61 ∧ y = 0)) → Tot (wX9_cutOne_j108 x2 (bt s x2.toNatClampNeg) y s) (fun r => (bt s x2.toNatClampNeg = 32 ∧ r.1.toInt = x2.toInt + 1 ∧ r.2 = s) ∨ (¬ bt s x2.toNatClampNeg = 32 ∧ ∃ (sg nm : Int32) (e : Nat), TOK s x2.toNatClampNeg sg nm e ∧ r.1.toInt = e ∧ wA bTk s r.2 ∧ (r.2.1 3 3).toInt = (s.1 3 3).toInt + 1 ∧ r.2.1 4 = upd (s.1 4) (s.1 3 3).toNatClampNeg sg ∧ r.2.1 5 = upd (s.1 5) (s.1 3 3).toNatClampNeg x2 ∧ r.2.1 6 = upd (s.1 6) (s.1 3 3).toNatClampNeg nm)) := by
        intro y hy
        unfold wX9_cutOne_j108 wX9_cutOne_j131
        rw [wX9_byteSign_E hy]
        refine t_sb ?_
        refine t_bind (wX9_put_E hm0 hm1) (fun s18 h18 => ?_)
        have ex2 : (x2 + 2).toInt = x2.toInt + 2 := t_pl rfl (by omega) (by omega) h0 (by omega)
        have q2 : (bsg (bt s x2.toNatClampNeg) (bt s (x2.toNatClampNeg + 1)) = 11 ∨ bsg (bt s x2.toNatClampNeg) (bt s (x2.toNatClampNeg + 1)) = 13) → ∃ e : Nat, TOK s x2.toNatClampNeg (bsg (bt s x2.toNatClampNeg) (bt s (x2.toNatClampNeg + 1))) 0 e ∧ (x2 + 2).toInt = e := fun c => ⟨x2.toNatClampNeg + 2, ⟨by omega, Or.inr (Or.inr ⟨nl, nd, by assumption, by omega, rfl, (if_pos c).symm⟩)⟩, by omega⟩
        refine t_ite (fun c => ?_) (fun c => t_ite (fun c' => ?_) (fun c' => ?_))
        · obtain ⟨e, a1, a2⟩ := q2 (Or.inl c)
          exact t_some (Or.inr ⟨by assumption, _, 0, e, a1, a2, h18⟩)
        · obtain ⟨e, a1, a2⟩ := q2 (Or.inr c')
          exact t_some (Or.inr ⟨by assumption, _, 0, e, a1, a2, h18⟩)
        · refine t_some (Or.inr ⟨by assumption, _, 0, x2.toNatClampNeg + 1, ⟨by omega, Or.inr (Or.inr ⟨nl, nd, by assumption, by omega, rfl, (if_neg (fun q => q.elim c c')).symm⟩)⟩, ?_, h18⟩)
          show (x2 + 1).toInt = _
          omega
      exact t_ite (fun c => key 1 (Or.inl ⟨c, rfl⟩)) (fun c => key 0 (Or.inr ⟨c, rfl⟩))
    · have yd : dg s x2.toNatClampNeg := (h7.resolve_left (fun h => c7 h.1)).2
      refine t_bind (wX9_endOf_E hT h0 (by omega)) (fun t22 h22 => ?_)
      rw [wX9_numberAt_E hT h0 (by omega) (by omega)]
      refine t_sb ?_
      refine t_bind (wX9_put_E hm0 hm1) (fun s27 h27 => t_some (Or.inr ⟨c, 2, _, t22.toNatClampNeg, ⟨?_, Or.inr (Or.inl ⟨yd, ?_, ?_, rfl, ?_⟩)⟩, ?_, h27⟩))
      · unfold Int32.toNatClampNeg; omega
      · intro j h1 h2
        by_cases hj : j = x2.toNatClampNeg
        · rw [hj]; exact yd
        · exact h22.2.2.1 j (by omega) (by unfold Int32.toNatClampNeg at h2; omega)
      · by_cases h4 : t22.toInt < 400
        · exact h22.2.2.2 h4
        · intro q
          have := dg_lt q
          unfold Int32.toNatClampNeg at this
          omega
      · have e1 : (t22.toInt - x2.toInt).toNat = t22.toNatClampNeg - x2.toNatClampNeg := by unfold Int32.toNatClampNeg; omega
        rw [e1]
        by_cases h5 : 5 < t22.toInt - x2.toInt
        · rw [if_pos h5, if_pos (by omega)]
        · rw [if_neg h5, if_neg (by omega)]
      · show t22.toInt = _
        unfold Int32.toNatClampNeg
        omega
  · have yl : lt s x2.toNatClampNeg := (h4.resolve_left (fun h => c4 h.1)).2
    refine t_bind (wX9_endOf_E hT h0 (by omega)) (fun t29 h29 => ?_)
    refine t_bind (wX9_wordSign_E hT h0 (by omega) (by omega)) (fun t31 h31 => ?_)
    refine t_bind (wX9_put_E hm0 hm1) (fun s34 h34 => t_some (Or.inr ⟨c, t31, 0, t29.toNatClampNeg, ⟨?_, Or.inl ⟨yl, ?_, ?_, ?_⟩⟩, ?_, h34⟩))
    · unfold Int32.toNatClampNeg; omega
    · intro j h1 h2
      by_cases hj : j = x2.toNatClampNeg
      · rw [hj]; exact yl
      · exact h29.2.2.1 j (by omega) (by unfold Int32.toNatClampNeg at h2; omega)
    · by_cases h4 : t29.toInt < 400
      · exact h29.2.2.2 h4
      · intro q
        have := lt_lt q
        unfold Int32.toNatClampNeg at this
        omega
    · have e1 : (t29.toInt - x2.toInt).toNat = t29.toNatClampNeg - x2.toNatClampNeg := by unfold Int32.toNatClampNeg; omega
      rw [← e1]
      exact h31
    · show t29.toInt = _
      unfold Int32.toNatClampNeg
      omega
/-- a part of the tokens is cut, up to a place -/
noncomputable def CUT (G : wS) (s : wS) (m : Nat) (x : Nat) (E : Nat → Nat) : Prop := (s.1 1 1 = G.1 1 1 ∧ s.1 2 = G.1 2) ∧ (s.1 3 3).toInt = m ∧ m ≤ x ∧ (x : Int) ≤ (G.1 1 1).toInt ∧ TKs G (s.1 4) (s.1 5) (s.1 6) E m ∧ pv E m ≤ x ∧ ∀ j, pv E m ≤ j → j < x → bt G j = 32
theorem pv_congr {E F : Nat → Nat} {m : Nat} (h : ∀ k, k < m → F k = E k) : ∀ k, k ≤ m → pv F k = pv E k := by
  intro k hk
  cases k with
  | zero => rfl
  | succ k => exact h k (by omega)
theorem wX9_cut_h19_E {G : wS} (hT : (G.1 1 1).toInt ≤ 400) : ∀ (n : Nat) {m : Nat} {E : Nat → Nat} {x2 x3 : Int32} {s : wS}, 0 ≤ x2.toInt → CUT G s m x2.toNatClampNeg E → 0 ≤ x3.toInt → x3.toInt ≤ x2.toInt → (G.1 1 1).toInt - x2.toInt < n → Tot (wX9_cut_h19 n x2 x3 s) (fun r => wA bTk s r ∧ ∃ m E, CUT G r m (G.1 1 1).toNatClampNeg E) := by
  intro n
  induction n with
  | zero => intro m E x2 x3 s h0 g _ _ hm; exfalso; have := g.2.2.2.1; unfold Int32.toNatClampNeg at this; omega
  | succ n ih =>
    intro m E x2 x3 s h0 g h30 h32 hm
    obtain ⟨⟨gT, gB⟩, g1, g2, g3, g4, g5, g6⟩ := g
    have enx : ((x2.toNatClampNeg : Nat) : Int) = x2.toInt := by unfold Int32.toNatClampNeg; omega
    have hb := bt_fun gT gB
    have fin : ¬ x2.toInt < (G.1 1 1).toInt → Tot (some s) (fun r => wA bTk s r ∧ ∃ m E, CUT G r m (G.1 1 1).toNatClampNeg E) := fun c => t_some ⟨wA.refl, m, E, by
      have : x2.toNatClampNeg = (G.1 1 1).toNatClampNeg := by unfold Int32.toNatClampNeg; omega
      rw [← this]
      exact ⟨⟨gT, gB⟩, g1, g2, g3, g4, g5, g6⟩⟩
    rw [wX9_cut_h19]
    have e400 : (400 : Int32).toInt = 400 := rfl
    refine t_ite (fun c3 => ?_) (fun c3 => fin (by have := t_ge c3; omega))
    have hc3 := t_lt c3
    refine t_ite (fun c => ?_) (fun c => fin (by have := t_ge c; rw [gT] at this; omega))
    have hc := t_lt c
    rw [gT] at hc
    refine t_bind (wX9_cutOne_E (by rw [gT]; exact hT) h0 (by rw [gT]; exact hc) (by omega) (by omega)) (fun r h => ?_)
    obtain ⟨t6, s7⟩ := r
    dsimp only at h ⊢
    have e3 := t_p1 (x := x3) h30 (by omega)
    rcases h with ⟨hb32, ht, hs⟩ | ⟨hn32, sg, nm, e, htok, ht, hA, hm1, q4, q5, q6⟩
    · subst hs
      have en : t6.toNatClampNeg = x2.toNatClampNeg + 1 := by unfold Int32.toNatClampNeg; omega
      refine ih (m := m) (E := E) (by omega) ⟨⟨gT, gB⟩, g1, by omega, by omega, g4, by omega, fun j h1 h2 => ?_⟩ (by omega) (by omega) (by omega)
      by_cases hj : j = x2.toNatClampNeg
      · rw [hj, ← hb]; exact hb32
      · exact g6 j h1 (by omega)
    · have htok' : TOK G x2.toNatClampNeg sg nm e := TOK_congr gT gB htok
      have hle := htok'.le
      have hpe := htok'.1
      have en : t6.toNatClampNeg = e := by unfold Int32.toNatClampNeg; omega
      have em : (s.1 3 3).toNatClampNeg = m := by unfold Int32.toNatClampNeg; omega
      rw [em] at q4 q5 q6
      have hE : ∀ k, k < m → upd' E m e k = E k := fun k hk => by unfold upd'; rw [if_neg (by omega)]
      refine t_mono (ih (m := m + 1) (E := upd' E m e) (x2 := t6) (x3 := x3 + 1) (s := s7) (by omega) ⟨⟨by rw [hA 1 1 rfl]; exact gT, by rw [← gB]; exact funext fun b => hA 2 b rfl⟩, by omega, by omega, by omega, fun k hk => ?_, ?_, ?_⟩ (by omega) (by omega) (by omega)) (fun r hr => ⟨hA.trans hr.1, hr.2⟩)
      · by_cases hkm : k = m
        · subst hkm
          rw [q4, q5, q6]
          unfold upd
          rw [if_pos rfl, if_pos rfl, if_pos rfl]
          refine ⟨h0, ?_, ?_⟩
          · unfold upd'; rw [if_pos rfl]; exact htok'
          · rw [pv_congr hE k (Nat.le_refl _)]
            exact ⟨g5, by omega, g6, by rw [← hb]; exact hn32⟩
        · have hk' : k < m := by omega
          obtain ⟨a1, a2, a3⟩ := g4 k hk'
          rw [q4, q5, q6]
          unfold upd
          rw [if_neg hkm, if_neg hkm, if_neg hkm, hE k hk', pv_congr hE k (by omega)]
          exact ⟨a1, a2, a3⟩
      · show upd' E m e m ≤ _
        unfold upd'; rw [if_pos rfl]; omega
      · intro j h1 h2
        have : pv (upd' E m e) (m + 1) = e := by show upd' E m e m = e; unfold upd'; rw [if_pos rfl]
        omega
/-- all tokens of a text -/
noncomputable def TOKS (G : wS) (S P N : Nat → Int32) (E : Nat → Nat) (K : Nat) : Prop := TKs G S P N E K ∧ K ≤ (G.1 1 1).toInt ∧ S K = 0 ∧ P K = G.1 1 1 ∧ SK G (pv E K) (P K).toNatClampNeg
theorem wX9_cut_E {s : wS} (hT0 : 0 ≤ (s.1 1 1).toInt) (hT : (s.1 1 1).toInt ≤ 400) : Tot (wX9_cut s) (fun r => wA (fun k b => bTk k b || (Nat.beq k 3 && (Nat.beq b 4 || Nat.beq b 5))) s r ∧ r.1 3 4 = 0 ∧ r.1 3 5 = 0 ∧ ∃ K E, (r.1 3 3).toInt = (K : Nat) + 1 ∧ TOKS s (r.1 4) (r.1 5) (r.1 6) E K) := by
  let B : Nat → Nat → Bool := fun k b => bTk k b || (Nat.beq k 3 && (Nat.beq b 4 || Nat.beq b 5))
  have hB : ∀ k b, bTk k b = true → B k b = true := fun k b h => by show (bTk k b || _) = true; rw [h]; rfl
  unfold wX9_cut
  refine t_bind (t_pfI (B := B) rfl) (fun s1 h1 => t_bind (t_pfI (B := B) rfl) (fun s2 h2 => t_bind (t_pfI (B := B) rfl) (fun s3 h3 => ?_)))
  have A3 := (h1.1.trans h2.1).trans h3.1
  have z33 : s3.1 3 3 = 0 := by rw [h3.2, wup_nb (by decide), h2.2, wup_nb (by decide), h1.2, wup_same]
  have z34 : s3.1 3 4 = 0 := by rw [h3.2, wup_nb (by decide), h2.2, wup_same]
  have z35 : s3.1 3 5 = 0 := by rw [h3.2, wup_same]
  have z11 : s3.1 1 1 = s.1 1 1 := A3 1 1 rfl
  have z2 : s3.1 2 = s.1 2 := funext fun b => A3 2 b rfl
  refine t_bind (wX9_cut_h19_E (G := s) hT wFuel (m := 0) (E := fun _ => 0) (x2 := 0) (x3 := 0) (by decide) ⟨⟨z11, z2⟩, by rw [z33]; rfl, Nat.zero_le _, by show ((0 : Nat) : Int) ≤ _; omega, fun k hk => absurd hk (by omega), Nat.zero_le _, fun j h1 h2 => absurd h2 (by show ¬ j < 0; omega)⟩ (by decide) (by decide) (by
    have e : ((wFuel : Nat) : Int) = 1099511627776 := rfl
    rw [t_i0]
    omega)) (fun s10 h10 => ?_)
  obtain ⟨A10, m, E, ⟨gT, gB⟩, g1, g2, g3, g4, g5, g6⟩ := h10
  unfold wX9_cut_j47
  have enT : (((s.1 1 1).toNatClampNeg : Nat) : Int) = (s.1 1 1).toInt := by unfold Int32.toNatClampNeg; omega
  refine t_bind (wX9_put_E (by omega) (by omega)) (fun s14 h14 => t_some ⟨(A3.trans (A10.mono hB)).trans (h14.1.mono hB), ?_, ?_, m, E, by omega, ?_⟩)
  · rw [h14.1 3 4 rfl, A10 3 4 rfl, z34]
  · rw [h14.1 3 5 rfl, A10 3 5 rfl, z35]
  · obtain ⟨_, _, q4, q5, q6⟩ := h14
    have em : (s10.1 3 3).toNatClampNeg = m := by unfold Int32.toNatClampNeg; omega
    rw [em] at q4 q5 q6
    rw [q4, q5, q6]
    have u : ∀ (f : Nat → Int32) (v : Int32), upd f m v m = v := fun f v => by unfold upd; rw [if_pos rfl]
    have u' : ∀ (f : Nat → Int32) (v : Int32) (k : Nat), k < m → upd f m v k = f k := fun f v k hk => by unfold upd; rw [if_neg (by omega)]
    refine ⟨fun k hk => ?_, by omega, u _ _, by rw [u, gT], ?_⟩
    · rw [u' _ _ k hk, u' _ _ k hk, u' _ _ k hk]
      exact g4 k hk
    · rw [u, gT]
      refine ⟨g5, by omega, g6, fun q => ?_⟩
      have := bt_lt (G := s) (i := (s.1 1 1).toNatClampNeg) (by rw [q]; decide)
      omega
end
section
/-! The reference's bytes and WORDS, against the tokens. -/
theorem and255 {x : Int32} (h0 : -128 ≤ x.toInt) (h1 : x.toInt ≤ 127) : (x &&& 255).toInt = if 0 ≤ x.toInt then x.toInt else x.toInt + 256 := by
  have key : ∀ n : Nat, n < 256 → (Int32.ofInt ((n : Int) - 128) &&& 255).toInt = if 0 ≤ ((n : Int) - 128) then ((n : Int) - 128) else ((n : Int) - 128) + 256 := by decide +kernel
  have e : x = Int32.ofInt (((x.toInt + 128).toNat : Int) - 128) := by
    apply Int32.toInt_inj.1
    rw [show (((x.toInt + 128).toNat : Int) - 128) = x.toInt by omega, Int32.ofInt_toInt]
  have k := key (x.toInt + 128).toNat (by omega)
  rw [← e, show (((x.toInt + 128).toNat : Int) - 128) = x.toInt by omega] at k
  exact k
/-- the reference's text is that one -/
noncomputable def RG (G s : wS) : Prop := s.1 153 = G.1 2 ∧ s.1 152 1 = G.1 1 1 ∧ (0 ≤ (G.1 1 1).toInt ∧ (G.1 1 1).toInt ≤ 400) ∧ ∀ i, -128 ≤ (G.1 2 i).toInt ∧ (G.1 2 i).toInt ≤ 127
/-- it stands there -/
noncomputable abbrev nxt (s : wS) (v : Int32) : wS := wupI s 152 12 v
theorem wup_id {s : wS} {k b : Nat} : wupI s k b (s.1 k b) = s := by
  apply Prod.ext
  · funext j
    show (if j = k then upd (s.1 k) b (s.1 k b) else s.1 j) = s.1 j
    by_cases h : j = k
    · rw [if_pos h, h]
      funext c
      unfold upd
      by_cases hc : c = b
      · rw [if_pos hc, hc]
      · rw [if_neg hc]
    · rw [if_neg h]
  · rfl
theorem wup_wup {s : wS} {k b : Nat} {u v : Int32} : wupI (wupI s k b u) k b v = wupI s k b v := by
  apply Prod.ext
  · funext j
    show (if j = k then upd ((wupI s k b u).1 k) b v else (wupI s k b u).1 j) = (if j = k then upd (s.1 k) b v else s.1 j)
    by_cases h : j = k
    · rw [if_pos h, if_pos h, wupI_k]
      funext c
      unfold upd
      by_cases hc : c = b
      · rw [if_pos hc, if_pos hc]
      · rw [if_neg hc, if_neg hc, if_neg hc]
    · rw [if_neg h, if_neg h, wupI_n h]
  · rfl
theorem RG.nx {G s : wS} {v : Int32} (g : RG G s) : RG G (nxt s v) := by
  obtain ⟨g1, g2, g3⟩ := g
  exact ⟨by rw [wupI_n (by omega)]; exact g1, by rw [wup_nb (by omega)]; exact g2, g3⟩
theorem nx_n {s : wS} {v : Int32} : (nxt s v).1 152 12 = v := wup_same
theorem t_on {n : Nat} (h : n < 2147483648) : (Int32.ofNat n).toInt = n := Int32.toInt_ofNat_of_lt h
theorem t_cln {x : Int32} (h : 0 ≤ x.toInt) : ((x.toNatClampNeg : Nat) : Int) = x.toInt := by unfold Int32.toNatClampNeg; omega
theorem t_oc {x : Int32} (h : 0 ≤ x.toInt) : Int32.ofNat x.toNatClampNeg = x := by
  apply Int32.toInt_inj.1
  have := Int32.toInt_lt x
  have := t_cln h
  rw [t_on (by omega), this]
theorem bt_i {G : wS} {i : Nat} (h : (i : Int) < (G.1 1 1).toInt) : bt G i = G.1 2 i &&& 255 := by
  unfold bt
  rw [if_pos h]
theorem bt_raw {G : wS} {i : Nat} (hb : ∀ i, -128 ≤ (G.1 2 i).toInt ∧ (G.1 2 i).toInt ≤ 127) (h : (i : Int) < (G.1 1 1).toInt) : (bt G i).toInt = if 0 ≤ (G.1 2 i).toInt then (G.1 2 i).toInt else (G.1 2 i).toInt + 256 := by
  rw [bt_i h]
  exact and255 (hb i).1 (hb i).2
/-- a sign below 128, read raw -/
theorem bt_eq {G : wS} {i : Nat} {c : Int32} (hb : ∀ i, -128 ≤ (G.1 2 i).toInt ∧ (G.1 2 i).toInt ≤ 127) (h : (i : Int) < (G.1 1 1).toInt) (c0 : 0 ≤ c.toInt) (c1 : c.toInt < 128) : bt G i = c ↔ G.1 2 i = c := by
  have e := bt_raw hb h
  have b := hb i
  constructor
  · intro q
    rw [q] at e
    apply Int32.toInt_inj.1
    by_cases z : 0 ≤ (G.1 2 i).toInt
    · rw [if_pos z] at e; omega
    · rw [if_neg z] at e; omega
  · intro q
    apply Int32.toInt_inj.1
    rw [e, q, if_pos c0]
theorem bw_raw {G : wS} {i : Nat} {lo hi : Int32} (hb : ∀ i, -128 ≤ (G.1 2 i).toInt ∧ (G.1 2 i).toInt ≤ 127) (l0 : 0 < lo.toInt) (h1 : hi.toInt < 128) : bw G lo hi i ↔ ((i : Int) < (G.1 1 1).toInt ∧ lo.toInt ≤ (G.1 2 i).toInt ∧ (G.1 2 i).toInt ≤ hi.toInt) := by
  constructor
  · intro q
    have hT := bw_lt l0 q
    have e := bt_raw hb hT
    have a := t_ge q.1
    have b := t_ge q.2
    have c := hb i
    refine ⟨hT, ?_⟩
    by_cases z : 0 ≤ (G.1 2 i).toInt
    · rw [if_pos z] at e; omega
    · rw [if_neg z] at e; omega
  · rintro ⟨hT, a, b⟩
    have e := bt_raw hb hT
    rw [if_pos (by omega)] at e
    exact ⟨fun q => by have := t_lt q; omega, fun q => by have := t_lt q; omega⟩
theorem lt_raw {G s : wS} (g : RG G s) {i : Nat} : lt G i ↔ ((i : Int) < (s.1 152 1).toInt ∧ LTx s i) := by
  unfold LTx
  rw [g.1, g.2.1]
  exact bw_raw g.2.2.2 (by decide) (by decide)
theorem RG.tp {G s : wS} (g : RG G s) (h0 : 0 ≤ (s.1 152 12).toInt) (h1 : (s.1 152 12).toInt ≤ (G.1 1 1).toInt) : TP s := by
  unfold TP
  rw [g.2.1]
  exact ⟨g.2.2.1, h0, h1⟩
theorem see_h0_E {G : wS} : ∀ (f : Nat) {n p : Nat} {s : wS}, RG G s → (s.1 152 12).toInt = n → SK G n p → (p : Int) - n < f → wX11_see_h0 f s = some (nxt s (Int32.ofNat p)) := by
  intro f
  induction f with
  | zero => intro n p s g hn sk hm; exfalso; have := sk.1; omega
  | succ f ih =>
    intro n p s g hn sk hm
    obtain ⟨k1, k2, k3, k4⟩ := sk
    obtain ⟨g1, g2, g3, g4⟩ := id g
    have hnn : (s.1 152 12).toNatClampNeg = n := by unfold Int32.toNatClampNeg; omega
    have stay : n = p → some s = some (nxt s (Int32.ofNat p)) := by
      rintro rfl
      have : Int32.ofNat n = s.1 152 12 := Int32.toInt_inj.1 (by rw [t_on (by omega), hn])
      rw [this]
      exact congrArg some wup_id.symm
    rw [wX11_see_h0]
    by_cases c : s.1 152 12 < s.1 152 1
    · have hc := t_lt c
      rw [g2] at hc
      rw [if_pos c]
      obtain ⟨t2, e2, h2⟩ := t_ldI (s := s) (k := 153) (n := 400) (i := s.1 152 12) (by omega) (by omega)
      rw [e2]
      show (if t2 = 32 then _ else _) = _
      have hb := bt_eq (i := n) (c := 32) g4 (by omega) (by decide) (by decide)
      rw [hnn, g1] at h2
      by_cases c2 : t2 = 32
      · have h32 : bt G n = 32 := hb.2 (h2.symm.trans c2)
        have hnp : n ≠ p := fun e => k4 (e ▸ h32)
        rw [if_pos c2]
        have e1 : (s.1 152 12 + 1).toInt = n + 1 := by rw [t_p1 (by omega) (by omega), hn]
        show wX11_see_h0 f (nxt s (s.1 152 12 + 1)) = _
        rw [ih (n := n + 1) (p := p) g.nx (by rw [nx_n, e1]; rfl) ⟨by omega, k2, fun j h1 h2 => k3 j (by omega) h2, k4⟩ (by omega)]
        exact congrArg some wup_wup
      · rw [if_neg c2]
        apply stay
        by_cases hnp : n < p
        · exact absurd (h2.trans (hb.1 (k3 n (by omega) hnp))) c2
        · omega
    · have hc := t_ge c
      rw [g2] at hc
      rw [if_neg c]
      exact stay (by omega)
theorem see_E {G : wS} {n p : Nat} {s : wS} (g : RG G s) (hn : (s.1 152 12).toInt = n) (sk : SK G n p) : wX11_see s = some (if (p : Int) < (G.1 1 1).toInt then bt G p else -1, nxt s (Int32.ofNat p)) := by
  have hp := sk.2.1
  have hT := g.2.2.1
  unfold wX11_see
  rw [see_h0_E wFuel g hn sk (by have e : ((wFuel : Nat) : Int) = 1099511627776 := rfl; omega)]
  show wX11_see_j38 (nxt s (Int32.ofNat p)) = _
  unfold wX11_see_j38
  have z1 : (nxt s (Int32.ofNat p)).1 152 1 = G.1 1 1 := g.nx.2.1
  have zp : (Int32.ofNat p).toInt = p := t_on (by omega)
  rw [nx_n, z1]
  by_cases c : Int32.ofNat p < G.1 1 1
  · have hc := t_lt c
    rw [zp] at hc
    rw [if_pos c, if_pos hc]
    obtain ⟨t2, e2, h2⟩ := t_ldI (s := nxt s (Int32.ofNat p)) (k := 153) (n := 400) (i := Int32.ofNat p) (by omega) (by omega)
    rw [e2]
    have hnn : (Int32.ofNat p).toNatClampNeg = p := by unfold Int32.toNatClampNeg; omega
    rw [hnn, g.nx.1] at h2
    show some (t2 &&& 255, _) = _
    rw [h2, bt_i hc]
  · have hc := t_ge c
    rw [zp] at hc
    rw [if_neg c, if_neg (by omega)]
theorem isLetter_E {G : wS} {i : Int32} {s : wS} (g : RG G s) (h : 0 ≤ i.toInt) (hp : TP s) : Tot (wX11_isLetter i s) (fun t => (t = 0 ∧ ¬ lt G i.toNatClampNeg) ∨ (t = 1 ∧ lt G i.toNatClampNeg)) := by
  refine t_mono (wX11_isLetter_T hp h) (fun t ht => ?_)
  rw [lt_raw g, t_cln h]
  exact ht
theorem passWord_h0_E {G : wS} : ∀ (f : Nat) {n p : Nat} {s : wS}, RG G s → (s.1 152 12).toInt = n → n ≤ p → (p : Int) ≤ (G.1 1 1).toInt → (∀ j, n ≤ j → j < p → lt G j) → ¬ lt G p → (p : Int) - n < f → wX11_passWord_h0 f s = some (nxt s (Int32.ofNat p)) := by
  intro f
  induction f with
  | zero => intro n p s g hn h1 h2 h3 h4 hm; exfalso; omega
  | succ f ih =>
    intro n p s g hn h1 h2 h3 h4 hm
    have hT := g.2.2.1
    have hnn : (s.1 152 12).toNatClampNeg = n := by unfold Int32.toNatClampNeg; omega
    rw [wX11_passWord_h0]
    obtain ⟨t, et, ht⟩ := isLetter_E (i := s.1 152 12) g (by omega) (g.tp (by omega) (by omega))
    rw [hnn] at ht
    rw [et]
    show (if t = 0 then _ else _) = _
    by_cases c : n = p
    · subst c
      have t0 : t = 0 := (ht.resolve_right (fun q => h4 q.2)).1
      rw [if_pos t0]
      have : Int32.ofNat n = s.1 152 12 := Int32.toInt_inj.1 (by rw [t_on (by omega), hn])
      rw [this]
      exact congrArg some wup_id.symm
    · have t1 : t = 1 := (ht.resolve_left (fun q => q.2 (h3 n (Nat.le_refl _) (by omega)))).1
      rw [if_neg (by rw [t1]; decide)]
      have e1 : (s.1 152 12 + 1).toInt = n + 1 := by rw [t_p1 (by omega) (by omega), hn]
      show wX11_passWord_h0 f (nxt s (s.1 152 12 + 1)) = _
      rw [ih (n := n + 1) (p := p) g.nx (by rw [nx_n, e1]; rfl) (by omega) h2 (fun j a b => h3 j (by omega) b) h4 (by omega)]
      exact congrArg some wup_wup
theorem passWord_E {G : wS} {p e : Nat} {s : wS} {sg nm : Int32} (g : RG G s) (hn : (s.1 152 12).toInt = p) (tk : TOK G p sg nm e) (hl : lt G p) : wX11_passWord s = some (nxt s (Int32.ofNat e)) := by
  have hle := tk.le
  have hT := g.2.2.1
  unfold wX11_passWord
  obtain ⟨h0, h | h | h⟩ := tk
  · rw [passWord_h0_E wFuel g hn (by omega) hle.2 h.2.1 h.2.2.1 (by have e : ((wFuel : Nat) : Int) = 1099511627776 := rfl; omega)]
    rfl
  · exfalso
    have a := t_ge hl.1
    have b := t_ge h.1.2
    rw [show (97 : Int32).toInt = 97 from rfl] at a
    rw [show (57 : Int32).toInt = 57 from rfl] at b
    omega
  · exact absurd hl h.1
/-- the packed WORDS -/
noncomputable abbrev wpk (z : Nat) : Int64 := ([448546566771, 1752135026, 1919902052, 7168366, 26982, 28530, 6385252, 7237492, 418548245860, 1936024942, 418497262196, 25720, 25721, 521391927923, 110472554705523, 7039342] : List Int64).getD z 0
noncomputable def tpk (z : Nat) : Nat → Int
  | 0 => 0
  | m + 1 => 256 * tpk z m + (rs_ch z (Int32.ofNat m)).toInt
theorem tpk_eq : ∀ z, z < 16 → (wpk z).toInt = tpk z (rs_L.getD z 0) := by decide +kernel
theorem rs_ch_b : ∀ z, z < 16 → ∀ j, j < rs_L.getD z 0 → 97 ≤ (rs_ch z (Int32.ofNat j)).toInt ∧ (rs_ch z (Int32.ofNat j)).toInt ≤ 122 := by decide +kernel
theorem rs_L_b : ∀ z, z < 16 → 2 ≤ rs_L.getD z 0 ∧ rs_L.getD z 0 ≤ 6 := by decide
theorem pk_inj {s : wS} {i z : Nat} (hz : z < 16) : ∀ {m l : Nat}, l ≤ rs_L.getD z 0 → (∀ j, j < m → LTx s (i + j)) → pkN s i m = tpk z l → m = l ∧ ∀ j, j < m → (s.1 153 (i + j)).toInt = (rs_ch z (Int32.ofNat j)).toInt := by
  intro m
  induction m with
  | zero =>
    intro l hl hL h
    cases l with
    | zero => exact ⟨rfl, fun j hj => absurd hj (by omega)⟩
    | succ l =>
      exfalso
      have b := rs_ch_b z hz l (by omega)
      have nn : ∀ l, l ≤ rs_L.getD z 0 → 0 ≤ tpk z l := by
        intro l
        induction l with
        | zero => intro _; exact Int.le_refl 0
        | succ l ih => intro hl; have := ih (by omega); have := rs_ch_b z hz l (by omega); show 0 ≤ 256 * tpk z l + _; omega
      have := nn l (by omega)
      have e : (0 : Int) = 256 * tpk z l + (rs_ch z (Int32.ofNat l)).toInt := h
      omega
  | succ m ih =>
    intro l hl hL h
    have lm := hL m (by omega)
    unfold LTx at lm
    have nn := (pkN_b (s := s) (i := i) (m := m) (fun j hj => hL j (by omega))).1
    cases l with
    | zero =>
      exfalso
      have e : 256 * pkN s i m + (s.1 153 (i + m)).toInt = 0 := h
      omega
    | succ l =>
      have b := rs_ch_b z hz l (by omega)
      have e : 256 * pkN s i m + (s.1 153 (i + m)).toInt = 256 * tpk z l + (rs_ch z (Int32.ofNat l)).toInt := h
      obtain ⟨e1, e2⟩ := ih (l := l) (by omega) (fun j hj => hL j (by omega)) (by omega)
      subst e1
      refine ⟨rfl, fun j hj => ?_⟩
      by_cases hjm : j = m
      · rw [hjm]; omega
      · exact e2 j (by omega)
theorem pk_of {s : wS} {i z : Nat} : ∀ {m : Nat}, (∀ j, j < m → (s.1 153 (i + j)).toInt = (rs_ch z (Int32.ofNat j)).toInt) → pkN s i m = tpk z m := by
  intro m
  induction m with
  | zero => intro _; rfl
  | succ m ih =>
    intro h
    show 256 * pkN s i m + _ = 256 * tpk z m + _
    rw [ih (fun j hj => h j (by omega)), h m (by omega)]
theorem bsg_le (c d : Int32) : (bsg c d).toInt ≤ 14 ∧ 1 ≤ (bsg c d).toInt := by
  unfold bsg
  repeat' (first | exact ⟨by decide, by decide⟩ | split)
theorem t15 {z : Nat} (hz : z < 16) : (Int32.ofNat (15 + z)).toInt = 15 + z := by rw [t_on (by omega)]; omega
theorem isWord_E {G : wS} {S P N : Nat → Int32} {E : Nat → Nat} {K k n z : Nat} {s : wS} (hz : z < 16) (g : RG G s) (tk : TOKS G S P N E K) (hk : k ≤ K) (hn : (s.1 152 12).toInt = n) (sk : SK G n (P k).toNatClampNeg) (p0 : 0 ≤ (P k).toInt) : wX11_isWord (wpk z) s = some (if S k = Int32.ofNat (15 + z) then 1 else 0, nxt s (P k)) := by
  have hT := g.2.2.1
  have hp := sk.2.1
  have ep := t_oc p0
  have epc := t_cln p0
  unfold wX11_isWord
  rw [see_E g hn sk, ep]
  rw [t_sbe]
  dsimp only
  have g' : RG G (nxt s (P k)) := g.nx
  have en : (nxt s (P k)).1 152 12 = P k := nx_n
  have eT : (nxt s (P k)).1 152 1 = G.1 1 1 := g'.2.1
  have tp : TP (nxt s (P k)) := g'.tp (by rw [en]; exact p0) (by rw [en]; omega)
  obtain ⟨⟨v, t⟩, e10, M, hM, hR, hv⟩ := wX11_isWord_h10_E (x1 := wpk z) tp wFuel (m := 0) (x3 := 0) (x5 := 0) rfl (fun j hj => absurd hj (by omega)) (by rw [en, eT]; omega) (fun _ => rfl) (by
    have e : ((wFuel : Nat) : Int) = 1099511627776 := rfl
    rw [en, eT]
    omega)
  unfold RUN at hR
  rw [en, eT] at hR
  rw [en] at hv
  dsimp only at hM hv
  rw [e10, t_sbe]
  dsimp only
  have LL : ∀ j, LTx (nxt s (P k)) j ↔ LTx s j := fun j => by unfold LTx; rw [g'.1, g.1]
  obtain ⟨R1, R2, R3⟩ := hR
  have t0 : (0 : Int32) < t ↔ 0 < M := by rw [Int32.lt_iff_toInt_lt, t_i0, hM]; omega
  have t8 : t < 8 ↔ M < 8 := by rw [Int32.lt_iff_toInt_lt, hM, show (8 : Int32).toInt = 8 from rfl]; omega
  -- letters by the reference are letters by the class
  have lr : ∀ j, j < M → lt G ((P k).toNatClampNeg + j) := fun j hj => (lt_raw g').2 ⟨by rw [eT]; omega, R1 j hj⟩
  have ln : ¬ lt G ((P k).toNatClampNeg + M) := fun q => by
    have q1 := lt_lt q
    exact R3 (by omega) ((lt_raw g').1 q).2
  have zero : ¬ S k = Int32.ofNat (15 + z) → ¬ (0 < M ∧ M < 8 ∧ v = wpk z) → (if 0 < t then (if t < 8 then (if v = wpk z then (some ((1 : Int32), nxt s (P k))) else (some ((0 : Int32), nxt s (P k)))) else (some (0, nxt s (P k)))) else (some (0, nxt s (P k)))) = some (if S k = Int32.ofNat (15 + z) then 1 else 0, nxt s (P k)) := by
    intro h1 h2
    rw [if_neg h1]
    by_cases c1 : 0 < t
    · rw [if_pos c1]
      by_cases c2 : t < 8
      · rw [if_pos c2]
        by_cases c3 : v = wpk z
        · exact absurd ⟨t0.1 c1, t8.1 c2, c3⟩ h2
        · rw [if_neg c3]
      · rw [if_neg c2]
    · rw [if_neg c1]
  obtain ⟨a1, a2, a3, a4, a5⟩ := tk
  by_cases hkK : k = K
  · subst hkK
    refine zero ?_ ?_
    · rw [a3]
      intro q
      have := t15 hz
      rw [← q, t_i0] at this
      omega
    · rintro ⟨m0, -, -⟩
      have := lt_lt (lr 0 m0)
      rw [a4] at epc this
      omega
  · obtain ⟨b1, ⟨b2, h | h | h⟩, b3⟩ := a1 k (by omega)
    · obtain ⟨w1, w2, w3, w4⟩ := h
      have eM : M = E k - (P k).toNatClampNeg := by
        by_cases c : M < E k - (P k).toNatClampNeg
        · exact absurd (w2 _ (by omega) (by omega)) ln
        · by_cases d : E k - (P k).toNatClampNeg < M
          · have := lr (E k - (P k).toNatClampNeg) d
            rw [show (P k).toNatClampNeg + (E k - (P k).toNatClampNeg) = E k by omega] at this
            exact absurd this w3
          · omega
      have raw : ∀ j, j < M → ((nxt s (P k)).1 153 ((P k).toNatClampNeg + j)).toInt = (bt G ((P k).toNatClampNeg + j)).toInt := fun j hj => by
        have q := (lt_raw g').1 (lr j hj)
        have l := q.2
        unfold LTx at l
        rw [g'.1] at l ⊢
        rw [bt_raw g.2.2.2 (by rw [← eT]; exact q.1), if_pos (by omega)]
      by_cases hS : S k = Int32.ofNat (15 + z)
      · have hsp : sp G (P k).toNatClampNeg (E k - (P k).toNatClampNeg) z := by
          rcases w4 with ⟨z', hz', e, h⟩ | ⟨e, -⟩
          · have : z' = z := by
              have q := congrArg Int32.toInt (hS.symm.trans e)
              rw [t15 hz, t15 hz'] at q
              omega
            rw [← this]; exact h
          · exfalso
            rw [e] at hS
            have q := congrArg Int32.toInt hS
            rw [t15 hz, show (1 : Int32).toInt = 1 from rfl] at q
            omega
        rw [← eM] at hsp
        have hb := rs_L_b z hz
        have h1 := hsp.1
        have : v = wpk z := Int64.toInt_inj.1 (by
          rw [hv (by omega), tpk_eq z hz, ← h1]
          exact pk_of (fun j hj => by rw [raw j hj, hsp.2 j hj]))
        rw [if_pos (t0.2 (by omega)), if_pos (t8.2 (by omega)), if_pos this, if_pos hS]
      · refine zero hS ?_
        rintro ⟨m0, m8, q⟩
        have e1 := hv (by omega)
        rw [q, tpk_eq z hz] at e1
        obtain ⟨e2, e3⟩ := pk_inj hz (Nat.le_refl _) R1 e1.symm
        have hsp : sp G (P k).toNatClampNeg (E k - (P k).toNatClampNeg) z := by
          rw [← eM]
          exact ⟨e2, fun j hj => Int32.toInt_inj.1 (by rw [← raw j hj, e3 j hj])⟩
        rcases w4 with ⟨z', hz', e, h⟩ | ⟨-, h⟩
        · exact hS (by rw [e, sp_same hz' hz h hsp])
        · exact h z hz hsp
    · refine zero ?_ ?_
      · rw [h.2.2.2.1]
        intro q
        have := t15 hz
        rw [← q, show (2 : Int32).toInt = 2 from rfl] at this
        omega
      · rintro ⟨m0, -, -⟩
        have a := t_ge (lr 0 m0).1
        have b := t_ge h.1.2
        rw [Nat.add_zero] at a
        rw [show (97 : Int32).toInt = 97 from rfl] at a
        rw [show (57 : Int32).toInt = 57 from rfl] at b
        omega
    · refine zero ?_ ?_
      · rw [h.2.2.2.2.1]
        intro q
        have := t15 hz
        have := bsg_le (bt G (P k).toNatClampNeg) (bt G ((P k).toNatClampNeg + 1))
        rw [q] at this
        omega
      · rintro ⟨m0, -, -⟩
        exact h.1 (lr 0 m0)
end
section
/-! The reference's NUMBERS, against the tokens. -/
theorem isDigit_E {G : wS} {i : Int32} {s : wS} (g : RG G s) (h : 0 ≤ i.toInt) : Tot (wX11_isDigit i s) (fun t => (t = 0 ∧ ¬ dg G i.toNatClampNeg) ∨ (t = 1 ∧ dg G i.toNatClampNeg)) := by
  have e48 : (48 : Int32).toInt = 48 := rfl
  have e57 : (57 : Int32).toInt = 57 := rfl
  have hr := bw_raw (G := G) (i := i.toNatClampNeg) (lo := 48) (hi := 57) g.2.2.2 (by decide) (by decide)
  have hT := g.2.2.1
  rw [t_cln h] at hr
  unfold wX11_isDigit
  rw [g.2.1]
  refine t_ite (fun c => ?_) (fun c => t_some (Or.inl ⟨rfl, fun q => c (Int32.lt_iff_toInt_lt.2 (hr.1 q).1)⟩))
  have hc := t_lt c
  refine t_bind (t_ldI (n := 400) h (by omega)) (fun t2 h2 => t_ite (fun c2 => t_some (Or.inl ⟨rfl, fun q => ?_⟩)) (fun c2 => ?_))
  · have h3 := t_lt c2
    rw [h2, g.1] at h3
    have := (hr.1 q).2.1
    omega
  · refine t_bind (t_ldI (n := 400) h (by omega)) (fun t4 h4 => t_ite (fun c4 => t_some (Or.inl ⟨rfl, fun q => ?_⟩)) (fun c4 => t_some (Or.inr ⟨rfl, hr.2 ⟨hc, ?_, ?_⟩⟩)))
    · have h3 := t_lt c4
      rw [h4, g.1] at h3
      have := (hr.1 q).2.2
      omega
    · have h3 := t_ge c2
      rw [h2, g.1] at h3
      exact h3
    · have h3 := t_ge c4
      rw [h4, g.1] at h3
      exact h3
theorem dg_raw {G : wS} {i : Nat} (hb : ∀ i, -128 ≤ (G.1 2 i).toInt ∧ (G.1 2 i).toInt ≤ 127) (h : dg G i) : G.1 2 i = bt G i := by
  have q := (bw_raw hb (by decide) (by decide)).1 h
  have e := bt_raw hb q.1
  rw [show (48 : Int32).toInt = 48 from rfl] at q
  rw [if_pos (by omega)] at e
  exact Int32.toInt_inj.1 e.symm
theorem numberHere_h34_E {G : wS} {x1 x2 x3 : Int32} {a : Nat} (ha : x3.toInt = a) : ∀ (f : Nat) {n e : Nat} {v : Int32} {s : wS}, RG G s → (s.1 152 12).toInt = n → a ≤ n → n ≤ e → (e : Int) ≤ (G.1 1 1).toInt → (∀ j, n ≤ j → j < e → dg G j) → ¬ dg G e → (e : Int) - n < f → Tot (wX11_numberHere_h34 x1 x2 x3 f v s) (fun r => r.2 = nxt s (Int32.ofNat e) ∧ (e - a ≤ 5 → r.1 = nv G n (e - n) v)) := by
  intro f
  induction f with
  | zero => intro n e v s g hn h0 h1 h2 h3 h4 hm; exfalso; omega
  | succ f ih =>
    intro n e v s g hn h0 h1 h2 h3 h4 hm
    have hT := g.2.2.1
    have hnn : (s.1 152 12).toNatClampNeg = n := by unfold Int32.toNatClampNeg; omega
    rw [wX11_numberHere_h34]
    refine t_bind (isDigit_E (i := s.1 152 12) g (by omega)) (fun t ht => ?_)
    rw [hnn] at ht
    refine t_ite (fun c => ?_) (fun c => ?_)
    · have hd : ¬ dg G n := (ht.resolve_right (fun q => by rw [q.1] at c; exact absurd c (by decide))).2
      obtain rfl : n = e := by
        by_cases q : n < e
        · exact absurd (h3 n (Nat.le_refl _) q) hd
        · omega
      refine t_some ⟨?_, fun _ => ?_⟩
      · have : Int32.ofNat n = s.1 152 12 := Int32.toInt_inj.1 (by rw [t_on (by omega), hn])
        rw [this]
        exact wup_id.symm
      · rw [Nat.sub_self]; rfl
    · have hd : dg G n := (ht.resolve_left (fun q => c q.1)).2
      have hne : n < e := by
        by_cases q : n = e
        · exact absurd (q ▸ hd) h4
        · omega
      have e1 : (s.1 152 12 + 1).toInt = n + 1 := by rw [t_p1 (by omega) (by omega), hn]
      have j : ∀ y, (e - a ≤ 5 → y = v * 10 + bt G n - 48) → Tot (wX11_numberHere_j75 (wX11_numberHere_h34 x1 x2 x3 f) x1 x2 x3 y s) (fun r => r.2 = nxt s (Int32.ofNat e) ∧ (e - a ≤ 5 → r.1 = nv G n (e - n) v)) := by
        intro y hy
        unfold wX11_numberHere_j75
        show Tot (wX11_numberHere_h34 x1 x2 x3 f y (nxt s (s.1 152 12 + 1))) _
        refine t_mono (ih (n := n + 1) (e := e) (v := y) g.nx (by rw [nx_n, e1]; rfl) (by omega) (by omega) h2 (fun j p q => h3 j (by omega) q) h4 (by omega)) (fun r hr => ⟨by rw [hr.1]; exact wup_wup, fun q => ?_⟩)
        rw [hr.2 q, hy q, show e - n = (e - (n + 1)) + 1 by omega]
        rfl
      have ed : (s.1 152 12 - x3).toInt = (n : Int) - a := by rw [t_sub (by omega) (by omega), hn, ha]
      refine t_ite (fun c5 => ?_) (fun c5 => ?_)
      · refine t_bind (t_ldI (n := 400) (by omega) (by omega)) (fun t15 h15 => j _ (fun _ => ?_))
        rw [h15, hnn, g.1, dg_raw g.2.2.2 hd, Int32.mul_comm]
      · have hc5 := t_ge c5
        rw [ed, show (5 : Int32).toInt = 5 from rfl] at hc5
        exact j _ (fun q => by omega)
/-- a fault's number -/
noncomputable abbrev fl (c p : Int32) : Int32 := (1 + (8 * p)) + c
theorem fl_i {c p : Int32} (c0 : 0 ≤ c.toInt) (c1 : c.toInt ≤ 7) (p0 : 0 ≤ p.toInt) (p1 : p.toInt ≤ 400) : (fl c p).toInt = 1 + 8 * p.toInt + c.toInt := by
  have e8 : (8 : Int32).toInt = 8 := rfl
  have e1 : (1 : Int32).toInt = 1 := rfl
  have q1 : (8 * p).toInt = 8 * p.toInt := by rw [t_mul (by rw [e8]; omega) (by rw [e8]; omega), e8]
  have q2 : (1 + 8 * p).toInt = 1 + 8 * p.toInt := by rw [t_add (by rw [e1, q1]; omega) (by rw [e1, q1]; omega), e1, q1]
  rw [t_add (by rw [q2]; omega) (by rw [q2]; omega), q2]
theorem fl_0 {c p : Int32} (c0 : 0 ≤ c.toInt) (c1 : c.toInt ≤ 7) (p0 : 0 ≤ p.toInt) (p1 : p.toInt ≤ 400) : ¬ fl c p = 0 := by
  intro e
  have := fl_i c0 c1 p0 p1
  rw [e, t_i0] at this
  omega
theorem fails_E {c p : Int32} {s : wS} (h : s.1 152 13 = 0) : wX11_fails c p s = some (0, wupI s 152 13 (fl c p)) := by
  unfold wX11_fails
  rw [if_pos h]
  rfl
/-- what a NUMBER in bounds wants -/
noncomputable def num (S P N : Nat → Int32) (k : Nat) (lo hi : Int32) : Option Int32 := if S k = 2 then (if N k < lo ∨ hi < N k then some (fl 1 (P k)) else none) else some (fl 0 (P k))
theorem TOKS.p0 {G : wS} {S P N : Nat → Int32} {E : Nat → Nat} {K k : Nat} (tk : TOKS G S P N E K) (hT : 0 ≤ (G.1 1 1).toInt) (hk : k ≤ K) : 0 ≤ (P k).toInt ∧ (P k).toInt ≤ (G.1 1 1).toInt := by
  obtain ⟨a1, a2, a3, a4, a5⟩ := tk
  by_cases h : k = K
  · rw [h, a4]; omega
  · obtain ⟨b1, b2, b3⟩ := a1 k (by omega)
    have := b2.le
    have := t_cln b1
    exact ⟨b1, by omega⟩
/-- the signs of a token, by its kind -/
theorem TOKS.kind {G : wS} {S P N : Nat → Int32} {E : Nat → Nat} {K k : Nat} (tk : TOKS G S P N E K) (hk : k ≤ K) : (k = K ∧ S k = 0 ∧ P k = G.1 1 1) ∨ (k < K ∧ TOK G (P k).toNatClampNeg (S k) (N k) (E k)) := by
  by_cases h : k = K
  · subst h
    exact Or.inl ⟨rfl, tk.2.2.1, tk.2.2.2.1⟩
  · exact Or.inr ⟨by omega, (tk.1 k (by omega)).2.1⟩
theorem WS_ge {G : wS} {p l : Nat} {t : Int32} (h : WS G p l t) : t = 1 ∨ (15 ≤ t.toInt ∧ t.toInt ≤ 30) := by
  rcases h with ⟨z, hz, e, -⟩ | ⟨e, -⟩
  · right
    rw [e, t15 hz]
    omega
  · exact Or.inl e
/-- a digit stands where a NUMBER is -/
theorem dg_S {G : wS} {S P N : Nat → Int32} {E : Nat → Nat} {K k : Nat} (tk : TOKS G S P N E K) (hT : 0 ≤ (G.1 1 1).toInt) (hk : k ≤ K) : dg G (P k).toNatClampNeg ↔ S k = 2 := by
  have e2 : (2 : Int32).toInt = 2 := rfl
  rcases tk.kind hk with ⟨_, h, hp⟩ | ⟨_, _, h | h | h⟩
  · rw [h]
    constructor
    · intro q
      have := dg_lt q
      rw [hp] at this
      have := t_cln hT
      omega
    · intro q; exact absurd q (by decide)
  · constructor
    · intro q
      exfalso
      have a := t_ge h.1.1
      have b := t_ge q.2
      rw [show (97 : Int32).toInt = 97 from rfl] at a
      rw [show (57 : Int32).toInt = 57 from rfl] at b
      omega
    · intro q
      rcases WS_ge h.2.2.2 with w | w
      · rw [w] at q; exact absurd q (by decide)
      · rw [q, e2] at w; omega
  · exact ⟨fun _ => h.2.2.2.1, fun _ => h.1⟩
  · constructor
    · intro q; exact absurd q h.2.1
    · intro q
      exfalso
      have := h.2.2.2.2.1
      rw [q] at this
      unfold bsg at this
      revert this
      repeat' (first | (intro q; exact absurd q (by decide)) | split)
theorem lt_S {G : wS} {S P N : Nat → Int32} {E : Nat → Nat} {K k : Nat} (tk : TOKS G S P N E K) (hk : k ≤ K) (h15 : 15 ≤ (S k).toInt) : lt G (P k).toNatClampNeg ∧ k < K := by
  rcases tk.kind hk with ⟨_, h, hp⟩ | ⟨hK, _, h | h | h⟩
  · rw [h, t_i0] at h15; omega
  · exact ⟨h.1, hK⟩
  · rw [h.2.2.2.1, show (2 : Int32).toInt = 2 from rfl] at h15; omega
  · have := bsg_le (bt G (P k).toNatClampNeg) (bt G ((P k).toNatClampNeg + 1))
    rw [← h.2.2.2.2.1] at this
    omega
theorem in_E {x lo hi : Int32} {s : wS} : wX11_in (x.toInt64) (lo.toInt64) (hi.toInt64) s = some (if x < lo ∨ hi < x then 0 else 1) := by
  have l : ∀ a b : Int32, (a.toInt64 < b.toInt64) ↔ a < b := fun a b => by
    rw [Int64.lt_iff_toInt_lt, Int32.lt_iff_toInt_lt, Int32.toInt_toInt64, Int32.toInt_toInt64]
  unfold wX11_in
  by_cases c1 : x < lo
  · rw [if_pos ((l _ _).2 c1), if_pos (Or.inl c1)]
  · rw [if_neg (fun q => c1 ((l _ _).1 q))]
    by_cases c2 : hi < x
    · rw [if_pos ((l _ _).2 c2), if_pos (Or.inr c2)]
    · rw [if_neg (fun q => c2 ((l _ _).1 q)), if_neg (fun q => q.elim c1 c2)]
theorem numberHere_E {G : wS} {S P N : Nat → Int32} {E : Nat → Nat} {K k n : Nat} {lo hi : Int32} {s : wS} (g : RG G s) (tk : TOKS G S P N E K) (hk : k ≤ K) (hn : (s.1 152 12).toInt = n) (sk : SK G n (P k).toNatClampNeg) (hw : s.1 152 13 = 0) (lo0 : 0 ≤ lo.toInt) : Tot (wX11_numberHere lo hi s) (fun r => (∃ e, num S P N k lo hi = some e ∧ r.1 = 0 ∧ r.2.1 152 13 = e) ∨ (num S P N k lo hi = none ∧ S k = 2 ∧ r = (1, wupI (nxt s (Int32.ofNat (E k))) 152 14 (N k)))) := by
  have hT := g.2.2.1
  obtain ⟨p0, pT⟩ := tk.p0 hT.1 hk
  have ep := t_oc p0
  have epc := t_cln p0
  have hd := dg_S tk hT.1 hk
  unfold wX11_numberHere
  rw [see_E g hn sk, ep]
  show Tot ((wX11_isDigit ((nxt s (P k)).1 152 12) (nxt s (P k))).bind fun t4 => if t4 = 0 then ((wX11_fails 0 ((nxt s (P k)).1 152 12) (nxt s (P k))).bind fun (t7, s8) => (wrtZ t7).bind fun t10 => some (t10, s8)) else ((wX11_numberHere_h34 lo hi ((nxt s (P k)).1 152 12) wFuel 0 (nxt s (P k))).bind fun (t18, s19) => (wpfI s19 152 14 t18).bind fun s20 => if 5 < ((s20.1 152 12) - ((nxt s (P k)).1 152 12)) then (wX11_numberHere_j117 ((nxt s (P k)).1 152 12) s20) else ((wX11_in ((t18 : Int32).toInt64) ((lo : Int32).toInt64) ((hi : Int32).toInt64) s20).bind fun t26 => if t26 = 0 then (wX11_numberHere_j117 ((nxt s (P k)).1 152 12) s20) else (wX11_numberHere_j126 s20)))) _
  rw [nx_n]
  have g' : RG G (nxt s (P k)) := g.nx
  have w' : (nxt s (P k)).1 152 13 = 0 := by rw [wup_nb (by decide)]; exact hw
  refine t_bind (isDigit_E g' p0) (fun t4 h4 => t_ite (fun c => ?_) (fun c => ?_))
  · have nd : ¬ S k = 2 := fun q => (h4.resolve_right (fun q => by rw [q.1] at c; exact absurd c (by decide))).2 (hd.2 q)
    rw [fails_E w']
    refine t_sb ?_
    dsimp only
    refine t_bind (t_rtZ (v := 0) (Or.inl rfl)) (fun t10 h10 => t_some (Or.inl ⟨fl 0 (P k), ?_, h10, wup_same⟩))
    unfold num
    rw [if_neg nd]
  · have yd : dg G (P k).toNatClampNeg := (h4.resolve_left (fun q => c q.1)).2
    have hS := hd.1 yd
    have hTOK : k < K ∧ TOK G (P k).toNatClampNeg (S k) (N k) (E k) := by
      rcases tk.kind hk with ⟨_, h, _⟩ | h
      · rw [h] at hS; exact absurd hS (by decide)
      · exact h
    have hle := hTOK.2.le
    obtain ⟨b0, h | h | h⟩ := hTOK.2
    · exfalso
      have a := t_ge h.1.1
      have b := t_ge yd.2
      rw [show (97 : Int32).toInt = 97 from rfl] at a
      rw [show (57 : Int32).toInt = 57 from rfl] at b
      omega
    · obtain ⟨d1, d2, d3, d4, d5⟩ := h
      refine t_bind (numberHere_h34_E (G := G) (a := (P k).toNatClampNeg) (by omega) wFuel (n := (P k).toNatClampNeg) (e := E k) (v := 0) g' (by rw [nx_n]; omega) (Nat.le_refl _) (by omega) hle.2 d2 d3 (by
        have e : ((wFuel : Nat) : Int) = 1099511627776 := rfl
        omega)) (fun r hr => ?_)
      obtain ⟨t18, s19⟩ := r
      obtain ⟨q1, q2⟩ := hr
      dsimp only at q1 q2 ⊢
      have q1' : s19 = nxt s (Int32.ofNat (E k)) := by rw [q1]; exact wup_wup
      subst q1'
      show Tot (if 5 < (((wupI (nxt s (Int32.ofNat (E k))) 152 14 t18).1 152 12) - P k) then (wX11_numberHere_j117 (P k) (wupI (nxt s (Int32.ofNat (E k))) 152 14 t18)) else ((wX11_in (t18.toInt64) (lo.toInt64) (hi.toInt64) (wupI (nxt s (Int32.ofNat (E k))) 152 14 t18)).bind fun t26 => if t26 = 0 then (wX11_numberHere_j117 (P k) (wupI (nxt s (Int32.ofNat (E k))) 152 14 t18)) else (wX11_numberHere_j126 (wupI (nxt s (Int32.ofNat (E k))) 152 14 t18)))) _
      have z12 : (wupI (nxt s (Int32.ofNat (E k))) 152 14 t18).1 152 12 = Int32.ofNat (E k) := by rw [wup_nb (by decide), nx_n]
      have z13 : (wupI (nxt s (Int32.ofNat (E k))) 152 14 t18).1 152 13 = 0 := by rw [wup_nb (by decide), wup_nb (by decide)]; exact hw
      have eE : (Int32.ofNat (E k)).toInt = E k := t_on (by omega)
      have ed : (Int32.ofNat (E k) - P k).toInt = (E k : Int) - (P k).toInt := by rw [t_sub (by omega) (by omega), eE]
      have bad : (N k < lo ∨ hi < N k) → Tot (wX11_numberHere_j117 (P k) (wupI (nxt s (Int32.ofNat (E k))) 152 14 t18)) (fun r => (∃ e, num S P N k lo hi = some e ∧ r.1 = 0 ∧ r.2.1 152 13 = e) ∨ (num S P N k lo hi = none ∧ S k = 2 ∧ r = (1, wupI (nxt s (Int32.ofNat (E k))) 152 14 (N k)))) := by
        intro hN
        unfold wX11_numberHere_j117
        rw [fails_E z13]
        refine t_sb ?_
        try dsimp only
        rw [if_pos rfl]
        refine t_some (Or.inl ⟨fl 1 (P k), ?_, rfl, wup_same⟩)
        unfold num
        rw [if_pos hS, if_pos hN]
      rw [z12]
      refine t_ite (fun c5 => ?_) (fun c5 => ?_)
      · have hc5 := t_lt c5
        rw [ed, show (5 : Int32).toInt = 5 from rfl] at hc5
        rw [if_pos (by omega)] at d5
        refine bad (Or.inl (Int32.lt_iff_toInt_lt.2 ?_))
        rw [d5, show (-1 : Int32).toInt = -1 from rfl]
        omega
      · have hc5 := t_ge c5
        rw [ed, show (5 : Int32).toInt = 5 from rfl] at hc5
        rw [if_neg (by omega)] at d5
        have ev : t18 = N k := by rw [q2 (by omega), d5]
        subst ev
        rw [in_E]
        by_cases cN : N k < lo ∨ hi < N k
        · rw [if_pos cN]
          refine t_sb ?_
          try dsimp only
          rw [if_pos rfl]
          exact bad cN
        · rw [if_neg cN]
          refine t_sb ?_
          try dsimp only
          rw [if_neg (by decide)]
          unfold wX11_numberHere_j126
          refine t_some (Or.inr ⟨?_, hS, rfl⟩)
          unfold num
          rw [if_pos hS, if_neg cN]
    · exact absurd yd h.2.1
end
section
/-! The class's tokens, read along. -/
theorem at_E {k n : Nat} {i : Int32} {s : wS} (hk : wln k = n) (hn : n ≤ 2400) (h0 : 0 ≤ i.toInt) (h1 : i.toInt < n) : wX10_at k i s = some (s.1 k i.toNatClampNeg) := by
  unfold wX10_at
  rw [if_neg (fun c => by have := t_lt c; rw [t_i0] at this; omega), hk, if_pos (Int32.lt_iff_toInt_lt.2 (by rw [t_ofNat hn]; exact h1))]
  obtain ⟨v, e, hv⟩ := t_ldI (s := s) (k := k) (n := n) h0 h1
  rw [e, hv]
  rfl
theorem at_0 {k n : Nat} {i : Int32} {s : wS} (hk : wln k = n) (hn : n ≤ 2400) (h : ¬ (0 ≤ i.toInt ∧ i.toInt < n)) : wX10_at k i s = some 0 := by
  unfold wX10_at
  by_cases c : i < 0
  · rw [if_pos c]
  · have hc := t_ge c
    rw [t_i0] at hc
    rw [if_neg c, hk, if_neg (fun c => by have := t_lt c; rw [t_ofNat hn] at this; omega)]
/-- the class's tokens are these, and here it stands -/
noncomputable def CT (S P N : Nat → Int32) (K k : Nat) (s : wS) : Prop := (s.1 4 = S ∧ s.1 5 = P ∧ s.1 6 = N) ∧ ((s.1 3 3).toInt = (K : Int) + 1 ∧ K ≤ 400) ∧ s.1 3 4 = Int32.ofNat k
noncomputable abbrev hr (s : wS) (k : Nat) : wS := wupI s 3 4 (Int32.ofNat k)
section CTX
variable {S P N : Nat → Int32} {K k : Nat} {s : wS}
theorem CT.hr {j : Nat} (h : CT S P N K k s) : CT S P N K j (hr s j) := by
  obtain ⟨⟨h1, h2, h3⟩, h4, h5⟩ := h
  refine ⟨⟨?_, ?_, ?_⟩, ?_, wup_same⟩
  · rw [wupI_n (by omega)]; exact h1
  · rw [wupI_n (by omega)]; exact h2
  · rw [wupI_n (by omega)]; exact h3
  · rw [wup_nb (by omega)]; exact h4
theorem CT.f5 {v : Int32} (h : CT S P N K k s) : CT S P N K k (wupI s 3 5 v) := by
  obtain ⟨⟨h1, h2, h3⟩, h4, h5⟩ := h
  refine ⟨⟨?_, ?_, ?_⟩, ?_, ?_⟩
  · rw [wupI_n (by omega)]; exact h1
  · rw [wupI_n (by omega)]; exact h2
  · rw [wupI_n (by omega)]; exact h3
  · rw [wup_nb (by omega)]; exact h4
  · rw [wup_nb (by omega)]; exact h5
theorem CT.go {s' : wS} (h : CT S P N K k s) (h4 : s'.1 4 = s.1 4) (h5 : s'.1 5 = s.1 5) (h6 : s'.1 6 = s.1 6) (h33 : s'.1 3 3 = s.1 3 3) (h34 : s'.1 3 4 = s.1 3 4) : CT S P N K k s' := by
  unfold CT
  rw [h4, h5, h6, h33, h34]
  exact h
theorem CT.he (h : CT S P N K k s) (hk : k ≤ K) : (s.1 3 4).toInt = k ∧ (s.1 3 4).toNatClampNeg = k := by
  have e : (s.1 3 4).toInt = k := by rw [h.2.2, t_on (by have := h.2.1.2; omega)]
  exact ⟨e, by unfold Int32.toNatClampNeg; omega⟩
theorem sign_E (h : CT S P N K k s) (hk : k ≤ K) : wX9_sign s = some (S k) := by
  obtain ⟨e, en⟩ := h.he hk
  have := h.2.1.2
  unfold wX9_sign
  rw [at_E (n := 401) rfl (by omega) (by omega) (by omega), en, h.1.1]
  rfl
theorem number_E (h : CT S P N K k s) (hk : k ≤ K) : wX9_number s = some (N k) := by
  obtain ⟨e, en⟩ := h.he hk
  have := h.2.1.2
  unfold wX9_number
  rw [at_E (n := 401) rfl (by omega) (by omega) (by omega), en, h.1.2.2]
  rfl
theorem skip_E (h : CT S P N K k s) (hk : k ≤ K) : wX9_skip s = some (if k < K then hr s (k + 1) else s) := by
  obtain ⟨e, en⟩ := h.he hk
  have h2 := h.2.1
  have e1 : (s.1 3 3 - 1).toInt = K := by rw [t_sub (by rw [show (1 : Int32).toInt = 1 from rfl]; omega) (by rw [show (1 : Int32).toInt = 1 from rfl]; omega), show (1 : Int32).toInt = 1 from rfl]; omega
  unfold wX9_skip
  by_cases c : k < K
  · rw [if_pos (Int32.lt_iff_toInt_lt.2 (by omega)), if_pos c]
    have : s.1 3 4 + 1 = Int32.ofNat (k + 1) := Int32.toInt_inj.1 (by rw [t_p1 (by omega) (by omega), t_on (by omega), e]; rfl)
    show some (wupI s 3 4 (s.1 3 4 + 1)) = _
    rw [this]
  · rw [if_neg (fun q => by have := t_lt q; omega), if_neg c]
theorem take_E {x : Int32} (h : CT S P N K k s) (hk : k ≤ K) : wX9_take x s = some (if S k = x then (1, if k < K then hr s (k + 1) else s) else (0, s)) := by
  obtain ⟨e, en⟩ := h.he hk
  have := h.2.1.2
  unfold wX9_take
  rw [at_E (n := 401) rfl (by omega) (by omega) (by omega), en, h.1.1]
  rw [t_sbe]
  try dsimp only
  by_cases c : S k = x
  · rw [if_pos c, if_pos c, skip_E h hk]
    rfl
  · rw [if_neg c, if_neg c]
theorem fail_E {c : Int32} (h : CT S P N K k s) (hk : k ≤ K) : wX9_fail c s = some (hr (if s.1 3 5 = 0 then wupI s 3 5 (fl c (P k)) else s) K) := by
  obtain ⟨e, en⟩ := h.he hk
  have h2 := h.2.1
  have j : ∀ u : wS, u.1 3 3 = s.1 3 3 → wX9_fail_j29 u = some (hr u K) := by
    intro u hu
    have : u.1 3 3 - 1 = Int32.ofNat K := Int32.toInt_inj.1 (by
      rw [hu, t_sub (by rw [show (1 : Int32).toInt = 1 from rfl]; omega) (by rw [show (1 : Int32).toInt = 1 from rfl]; omega), show (1 : Int32).toInt = 1 from rfl, t_on (by omega)]
      omega)
    unfold wX9_fail_j29
    rw [this]
    rfl
  unfold wX9_fail
  by_cases q : s.1 3 5 = 0
  · rw [if_pos q, if_pos q, at_E (n := 401) rfl (by omega) (by omega) (by omega), en, h.1.2.1]
    show wX9_fail_j29 (wupI s 3 5 (fl c (P k))) = _
    rw [j _ (wup_nb (by decide))]
  · rw [if_neg q, if_neg q, j _ rfl]
/-- a fault is told: nothing more is read -/
noncomputable def CF (S P N : Nat → Int32) (K : Nat) (e : Int32) (s : wS) : Prop := CT S P N K K s ∧ s.1 3 5 = e ∧ ¬ e = 0 ∧ S K = 0
theorem hr_id (h : s.1 3 4 = Int32.ofNat k) : hr s k = s := by
  show wupI s 3 4 (Int32.ofNat k) = s
  rw [← h]
  exact wup_id
theorem CF.fail {e c : Int32} (h : CF S P N K e s) : wX9_fail c s = some s := by
  obtain ⟨h1, h2, h3, -⟩ := h
  rw [fail_E h1 (Nat.le_refl _), if_neg (by rw [h2]; exact h3), hr_id h1.2.2]
theorem CF.skip {e : Int32} (h : CF S P N K e s) : wX9_skip s = some s := by
  rw [skip_E h.1 (Nat.le_refl _), if_neg (by omega)]
theorem CF.take {e x : Int32} (h : CF S P N K e s) (hx : ¬ x = 0) : wX9_take x s = some (0, s) := by
  rw [take_E h.1 (Nat.le_refl _), h.2.2.2, if_neg (fun q => hx q.symm)]
theorem CF.sign {e : Int32} (h : CF S P N K e s) : wX9_sign s = some 0 := by
  rw [sign_E h.1 (Nat.le_refl _), h.2.2.2]
theorem CF.go {e : Int32} {s' : wS} (h : CF S P N K e s) (h4 : s'.1 4 = s.1 4) (h5 : s'.1 5 = s.1 5) (h6 : s'.1 6 = s.1 6) (h3 : s'.1 3 = s.1 3) : CF S P N K e s' := by
  obtain ⟨h1, h2, hx⟩ := h
  exact ⟨h1.go h4 h5 h6 (by rw [h3]) (by rw [h3]), by rw [h3]; exact h2, hx⟩
/-- the first fault -/
theorem CT.fault {c : Int32} (h : CT S P N K k s) (hk : k ≤ K) (h0 : s.1 3 5 = 0) (hS : S K = 0) (hf : ¬ fl c (P k) = 0) : ∃ r, wX9_fail c s = some r ∧ CF S P N K (fl c (P k)) r ∧ wA (fun k b => Nat.beq k 3 && (Nat.beq b 4 || Nat.beq b 5)) s r := by
  refine ⟨_, fail_E h hk, ⟨?_, ?_, hf, hS⟩, ?_⟩
  · rw [if_pos h0]
    exact h.f5.hr
  · rw [if_pos h0, wup_nb (by decide), wup_same]
  · rw [if_pos h0]
    exact (wA_I (B := fun k b => Nat.beq k 3 && (Nat.beq b 4 || Nat.beq b 5)) rfl).trans (wA_I rfl)
theorem takeNumber_F {e lo hi : Int32} (h : CF S P N K e s) : ∃ v, wX9_takeNumber lo hi s = some (v, s) := by
  obtain ⟨h1, h2, h3, h4⟩ := id h
  have := h1.2.1.2
  obtain ⟨e', en⟩ := h1.he (Nat.le_refl _)
  refine ⟨N K, ?_⟩
  unfold wX9_takeNumber
  rw [at_E (n := 401) rfl (by omega) (by omega) (by omega), en, h1.1.2.2]
  rw [t_sbe]
  try dsimp only
  rw [at_E (n := 401) rfl (by omega) (by omega) (by omega), en, h1.1.1, h4]
  rw [t_sbe]
  try dsimp only
  rw [if_neg (by decide), h.fail]
  rfl
theorem takeNumber_E {lo hi : Int32} (h : CT S P N K k s) (hk : k ≤ K) (h0 : s.1 3 5 = 0) (hS : S K = 0) (p0 : 0 ≤ (P k).toInt) (p1 : (P k).toInt ≤ 400) : (num S P N k lo hi = none ∧ k < K ∧ wX9_takeNumber lo hi s = some (N k, hr s (k + 1))) ∨ (∃ e r, num S P N k lo hi = some e ∧ wX9_takeNumber lo hi s = some (N k, r) ∧ CF S P N K e r ∧ wA (fun k b => Nat.beq k 3 && (Nat.beq b 4 || Nat.beq b 5)) s r) := by
  have := h.2.1.2
  obtain ⟨e', en⟩ := h.he hk
  have hu : wX9_takeNumber lo hi s = if S k = 2 then (if N k < lo then (wX9_takeNumber_j45 (N k) s) else (if hi < N k then (wX9_takeNumber_j45 (N k) s) else ((wX9_skip s).bind fun s12 => some (N k, s12)))) else ((wX9_fail 0 s).bind fun s15 => some (N k, s15)) := by
    unfold wX9_takeNumber
    rw [at_E (n := 401) rfl (by omega) (by omega) (by omega), en, h.1.2.2]
    rw [t_sbe]
    try dsimp only
    rw [at_E (n := 401) rfl (by omega) (by omega) (by omega), en, h.1.1]
    rfl
  rw [hu]
  unfold num
  have bad : (∃ e r, some (fl 1 (P k)) = some e ∧ wX9_takeNumber_j45 (N k) s = some (N k, r) ∧ CF S P N K e r ∧ wA (fun k b => Nat.beq k 3 && (Nat.beq b 4 || Nat.beq b 5)) s r) := by
    obtain ⟨r, e1, e2, e3⟩ := h.fault (c := 1) hk h0 hS (fl_0 (by decide) (by decide) p0 p1)
    refine ⟨fl 1 (P k), r, rfl, ?_, e2, e3⟩
    unfold wX9_takeNumber_j45
    rw [e1]
    rfl
  by_cases c : S k = 2
  · have hkK : k < K := by
      by_cases q : k = K
      · rw [q, hS] at c; exact absurd c (by decide)
      · omega
    rw [if_pos c, if_pos c]
    by_cases c1 : N k < lo
    · rw [if_pos c1, if_pos (Or.inl c1)]
      exact Or.inr bad
    · rw [if_neg c1]
      by_cases c2 : hi < N k
      · rw [if_pos c2, if_pos (Or.inr c2)]
        exact Or.inr bad
      · rw [if_neg c2, if_neg (fun q => q.elim c1 c2), skip_E h hk, if_pos hkK]
        exact Or.inl ⟨rfl, hkK, rfl⟩
  · rw [if_neg c, if_neg c]
    obtain ⟨r, e1, e2, e3⟩ := h.fault (c := 0) hk h0 hS (fl_0 (by decide) (by decide) p0 p1)
    refine Or.inr ⟨fl 0 (P k), r, rfl, ?_, e2, e3⟩
    rw [e1]
    rfl
end CTX
end
