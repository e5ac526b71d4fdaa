/-! The reference: IMAGES. -/
theorem t_262 {k i : Int32} (hk : 0 ≤ k.toInt) (hk2 : k.toInt ≤ 3) (hi : 0 ≤ i.toInt) (hi2 : i.toInt < 262) : ((262 * k) + i).toInt = 262 * k.toInt + i.toInt ∧ ((262 * k) + i).toNatClampNeg = 262 * k.toNatClampNeg + i.toNatClampNeg := by
  have e1 : (262 * k).toInt = 262 * k.toInt := by rw [t_mul (by rw [show (262 : Int32).toInt = 262 from rfl]; omega) (by rw [show (262 : Int32).toInt = 262 from rfl]; omega), show (262 : Int32).toInt = 262 from rfl]
  have e : ((262 * k) + i).toInt = 262 * k.toInt + i.toInt := by rw [t_add (by rw [e1]; omega) (by rw [e1]; omega), e1]
  refine ⟨e, ?_⟩
  unfold Int32.toNatClampNeg
  omega
theorem wX11_image_h23_T {x1 : Int32} (hk : 0 ≤ x1.toInt) (hk2 : x1.toInt ≤ 3) : ∀ (n : Nat) {x2 : Int32} {s : wS}, 0 ≤ x2.toInt → x2.toInt ≤ 262 → 262 - x2.toInt < (n : Int) → Tot (wX11_image_h23 x1 n x2 s) (fun r => (∀ k, k ≠ 170 → r.1 k = s.1 k) ∧ ∀ i, r.1 170 i = if 262 * x1.toNatClampNeg + x2.toNatClampNeg ≤ i ∧ i < 262 * x1.toNatClampNeg + 262 then s.1 163 (i - 262 * x1.toNatClampNeg) else s.1 170 i) := by
  intro n
  induction n with
  | zero => intro x2 s _ _ hm; exfalso; omega
  | succ n ih =>
    intro x2 s h0 h2 hm
    rw [wX11_image_h23]
    have e262 : (262 : Int32).toInt = 262 := rfl
    refine t_ite (fun c => ?_) (fun c => t_some ⟨fun _ _ => rfl, fun i => ?_⟩)
    · have hc := t_lt c
      rw [e262] at hc
      obtain ⟨e, en⟩ := t_262 (k := x1) (i := x2) hk hk2 h0 hc
      refine t_bind (t_ldI (n := 262) h0 (by omega)) (fun t6 h6 => ?_)
      refine t_bind (t_st1 (B := bX) (n := 1048) (by omega) (by omega) rfl) (fun s7 h7 => ?_)
      have r7 := h7.2
      rw [en] at r7
      have e1 := t_p1 (x := x2) h0 (by omega)
      refine t_mono (ih (x2 := x2 + 1) (s := s7) (by omega) (by omega) (by omega)) (fun r hr => ⟨fun k hk => ?_, fun i => ?_⟩)
      · rw [hr.1 k hk, r7, wupI_n hk]
      · have n1 : (x2 + 1).toNatClampNeg = x2.toNatClampNeg + 1 := by unfold Int32.toNatClampNeg; omega
        have nx : x2.toNatClampNeg < 262 := by unfold Int32.toNatClampNeg; omega
        rw [hr.2 i, n1]
        have q163 : s7.1 163 = s.1 163 := by rw [r7, wupI_n (by omega)]
        by_cases hi : i = 262 * x1.toNatClampNeg + x2.toNatClampNeg
        · subst hi
          rw [if_neg (by omega), if_pos (by omega), r7, wup_same, h6, Nat.add_sub_cancel_left]
        · rw [q163, r7, wup_nb hi]
          by_cases hr' : 262 * x1.toNatClampNeg + x2.toNatClampNeg ≤ i ∧ i < 262 * x1.toNatClampNeg + 262
          · rw [if_pos (by omega), if_pos hr']
          · rw [if_neg (by omega), if_neg hr']
    · have hc := t_ge c
      rw [e262] at hc
      have nx : 262 ≤ x2.toNatClampNeg := by unfold Int32.toNatClampNeg; omega
      rw [if_neg (by omega)]
theorem t_wf262 {x : Int32} (h : 0 ≤ x.toInt) : 262 - x.toInt < ((wFuel : Nat) : Int) := by
  have e : ((wFuel : Nat) : Int) = 1099511627776 := rfl
  omega
theorem qI_lt {j : Nat} (h : qI j) : j < 262 := by
  unfold qI at h
  omega
theorem wX11_image_T {x1 : Int32} {s : wS} (g : RI s) : Tot (wX11_image x1 s) (fun r => RI r.2 ∧ wA bX s r.2 ∧ ((r = (-1, s) ∧ ¬ (0 ≤ x1.toInt ∧ x1.toInt < 4)) ∨ ((0 ≤ x1.toInt ∧ x1.toInt < 4) ∧ r.2.1 163 = s.1 163 ∧ r.2.1 171 = upd (s.1 171) x1.toNatClampNeg 1 ∧ (∀ i, r.2.1 170 i = if 262 * x1.toNatClampNeg ≤ i ∧ i < 262 * x1.toNatClampNeg + 262 then s.1 163 (i - 262 * x1.toNatClampNeg) else s.1 170 i)))) := by
  unfold wX11_image
  refine t_bind wX11_in_T (fun t1 h1 => t_ite (fun c => t_some ⟨g, wA.refl, Or.inl ⟨rfl, ?_⟩⟩) (fun c => ?_))
  · rcases h1 with h | h
    · rw [h.1] at c; exact absurd c (by decide)
    · have q := h.2
      rw [Int32.toInt_toInt64, show ((0 : Int64)).toInt = 0 from rfl, show ((3 : Int64)).toInt = 3 from rfl] at q
      omega
  · have q := (h1.resolve_right (fun h => c h.1)).2
    rw [Int32.toInt_toInt64, show ((0 : Int64)).toInt = 0 from rfl, show ((3 : Int64)).toInt = 3 from rfl] at q
    refine t_bind (t_stZ (B := bX) (n := 4) q.1 (by omega) (fun _ => rfl)) (fun s4 h4 => ?_)
    refine t_bind (wX11_image_h23_T q.1 q.2 _ (s := s4) (by decide) (by decide) (t_wf262 (by decide))) (fun s9 h9 => t_some ?_)
    have r4 := h4.2
    rw [show vp_nar .boolean (1 : Int32) = 1 from rfl] at r4
    obtain ⟨o9, f9⟩ := h9
    have z : (0 : Int32).toNatClampNeg = 0 := rfl
    have m163 : s4.1 163 = s.1 163 := by rw [r4, wupI_n (by omega)]
    have m170 : s4.1 170 = s.1 170 := by rw [r4, wupI_n (by omega)]
    have e163 : s9.1 163 = s.1 163 := by rw [o9 163 (by omega), m163]
    have e171 : s9.1 171 = upd (s.1 171) x1.toNatClampNeg 1 := by rw [o9 171 (by omega), r4, wupI_k]
    have e170 : ∀ i, s9.1 170 i = if 262 * x1.toNatClampNeg ≤ i ∧ i < 262 * x1.toNatClampNeg + 262 then s.1 163 (i - 262 * x1.toNatClampNeg) else s.1 170 i := fun i => by
      rw [f9 i, z, m163, m170, Nat.add_zero]
    have o : ∀ k, k ≠ 170 → k ≠ 171 → s9.1 k = s.1 k := fun k h1 h2 => by rw [o9 k h1, r4, wupI_n h2]
    obtain ⟨⟨gC, gL, gW⟩, gT, gI⟩ := g
    refine ⟨⟨⟨?_, ?_⟩, ?_, fun k hk h => ?_⟩, fun k b hkb => ?_, Or.inr ⟨by omega, e163, e171, e170⟩⟩
    · show qC (s9.1 163); rw [e163]; exact gC
    · show qL s9
      unfold qL qLW at *
      rw [o 152 (by omega) (by omega), o 154 (by omega) (by omega), o 156 (by omega) (by omega), o 157 (by omega) (by omega)]
      exact ⟨gL, gW⟩
    · show 0 ≤ (s9.1 152 1).toInt ∧ (s9.1 152 1).toInt ≤ 400; rw [o 152 (by omega) (by omega)]; exact gT
    · show qC (fun i => s9.1 170 (262 * k + i))
      by_cases hx : k = x1.toNatClampNeg
      · refine qC_congr (f := s.1 163) (fun j hj => ?_) gC
        have := qI_lt hj
        show s9.1 170 (262 * k + j) = _
        rw [e170, if_pos (by omega), hx, Nat.add_sub_cancel_left]
      · have h' : ¬ s.1 171 k = 0 := by
          have h : ¬ s9.1 171 k = 0 := h
          rw [e171, upd_n hx] at h
          exact h
        refine qC_congr (f := fun i => s.1 170 (262 * k + i)) (fun j hj => ?_) (gI k hk h')
        have := qI_lt hj
        show s9.1 170 (262 * k + j) = _
        rw [e170, if_neg (by omega)]
    · show s9.1 k b = s.1 k b
      rw [o k (fun e => by subst e; cases hkb) (fun e => by subst e; cases hkb)]
theorem wX11_back_h25_T {x1 : Int32} (hk : 0 ≤ x1.toInt) (hk2 : x1.toInt ≤ 3) : ∀ (n : Nat) {x2 : Int32} {s : wS}, 0 ≤ x2.toInt → x2.toInt ≤ 262 → 262 - x2.toInt < (n : Int) → Tot (wX11_back_h25 x1 n x2 s) (fun r => (∀ k, k ≠ 163 → r.1 k = s.1 k) ∧ ∀ i, r.1 163 i = if x2.toNatClampNeg ≤ i ∧ i < 262 then s.1 170 (262 * x1.toNatClampNeg + i) else s.1 163 i) := by
  intro n
  induction n with
  | zero => intro x2 s _ _ hm; exfalso; omega
  | succ n ih =>
    intro x2 s h0 h2 hm
    rw [wX11_back_h25]
    have e262 : (262 : Int32).toInt = 262 := rfl
    refine t_ite (fun c => ?_) (fun c => t_some ⟨fun _ _ => rfl, fun i => ?_⟩)
    · have hc := t_lt c
      rw [e262] at hc
      obtain ⟨e, en⟩ := t_262 (k := x1) (i := x2) hk hk2 h0 hc
      refine t_bind (t_ldI (n := 1048) (by omega) (by omega)) (fun t6 h6 => ?_)
      rw [en] at h6
      refine t_bind (t_st1 (B := bX) (n := 262) h0 (by omega) rfl) (fun s7 h7 => ?_)
      have r7 := h7.2
      have e1 := t_p1 (x := x2) h0 (by omega)
      refine t_mono (ih (x2 := x2 + 1) (s := s7) (by omega) (by omega) (by omega)) (fun r hr => ⟨fun k hk => ?_, fun i => ?_⟩)
      · rw [hr.1 k hk, r7, wupI_n hk]
      · have n1 : (x2 + 1).toNatClampNeg = x2.toNatClampNeg + 1 := by unfold Int32.toNatClampNeg; omega
        have nx : x2.toNatClampNeg < 262 := by unfold Int32.toNatClampNeg; omega
        rw [hr.2 i, n1]
        have q170 : s7.1 170 = s.1 170 := by rw [r7, wupI_n (by omega)]
        by_cases hi : i = x2.toNatClampNeg
        · subst hi
          rw [if_neg (by omega), if_pos (by omega), r7, wup_same, h6]
        · rw [q170, r7, wup_nb hi]
          by_cases hr' : x2.toNatClampNeg ≤ i ∧ i < 262
          · rw [if_pos (by omega), if_pos hr']
          · rw [if_neg (by omega), if_neg hr']
    · have hc := t_ge c
      rw [e262] at hc
      have nx : 262 ≤ x2.toNatClampNeg := by unfold Int32.toNatClampNeg; omega
      rw [if_neg (by omega)]
theorem wX11_back_T {x1 : Int32} {s : wS} (g : RI s) : Tot (wX11_back x1 s) (fun r => RI r.2 ∧ wA bX s r.2 ∧ r.2.1 170 = s.1 170 ∧ r.2.1 171 = s.1 171 ∧ ((r = (-1, s) ∧ (¬ (0 ≤ x1.toInt ∧ x1.toInt < 4) ∨ s.1 171 x1.toNatClampNeg = 0)) ∨ ((0 ≤ x1.toInt ∧ x1.toInt < 4) ∧ ¬ s.1 171 x1.toNatClampNeg = 0 ∧ (∀ i, i < 262 → r.2.1 163 i = s.1 170 (262 * x1.toNatClampNeg + i))))) := by
  unfold wX11_back
  refine t_bind wX11_in_T (fun t1 h1 => t_ite (fun c => t_some ⟨g, wA.refl, rfl, rfl, Or.inl ⟨rfl, Or.inl ?_⟩⟩) (fun c => ?_))
  · rcases h1 with h | h
    · rw [h.1] at c; exact absurd c (by decide)
    · have q := h.2
      rw [Int32.toInt_toInt64, show ((0 : Int64)).toInt = 0 from rfl, show ((3 : Int64)).toInt = 3 from rfl] at q
      omega
  · have q := (h1.resolve_right (fun h => c h.1)).2
    rw [Int32.toInt_toInt64, show ((0 : Int64)).toInt = 0 from rfl, show ((3 : Int64)).toInt = 3 from rfl] at q
    refine t_bind (t_ldI (n := 4) q.1 (by omega)) (fun t4 h4 => t_ite (fun c4 => t_some ⟨g, wA.refl, rfl, rfl, Or.inl ⟨rfl, Or.inr (by rw [← h4]; exact c4)⟩⟩) (fun c4 => ?_))
    rw [h4] at c4
    refine t_bind (wX11_back_h25_T q.1 q.2 _ (s := s) (by decide) (by decide) (t_wf262 (by decide))) (fun s10 h10 => t_some ?_)
    obtain ⟨o10, f10⟩ := h10
    have z : (0 : Int32).toNatClampNeg = 0 := rfl
    have e163 : ∀ i, i < 262 → s10.1 163 i = s.1 170 (262 * x1.toNatClampNeg + i) := fun i hi => by rw [f10 i, z, if_pos (by omega)]
    have k := RI_163 g (f := s10.1 163) (s' := s10) (qC_congr (f := fun i => s.1 170 (262 * x1.toNatClampNeg + i)) (fun j hj => e163 j (qI_lt hj)) (g.2.2 x1.toNatClampNeg (by unfold Int32.toNatClampNeg; omega) c4)) (by
      funext k
      by_cases hk : k = 163
      · subst hk; simp only [if_true]
      · simp only [if_neg hk]; exact o10 k hk)
    exact ⟨k.1, k.2.1, k.2.2.1, k.2.2.2.1, Or.inr ⟨by omega, c4, e163⟩⟩
