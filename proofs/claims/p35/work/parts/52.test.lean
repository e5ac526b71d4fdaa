/-! The reference reads: FACTS, PARTS, TESTS. -/
theorem wX11_compare_j152_T {t : Nat} {y0 : Int32} {s0 s u : wS} (ht : t ≤ 5) (ho : opc ((6 + y0) + 16 * 0)) (ha : wA (bE t) s0 u) (g0 : GE t s0 s) (au : wA bF s u) (gu : PI t u) (hN : (s.1 152 12).toInt + 1 ≤ (u.1 152 12).toInt) (hM : (s.1 152 16).toInt ≤ (u.1 152 16).toInt) : Tot (wX11_compare_j152 y0 u) (fun r => wA (bE t) s0 r.2 ∧ ((r.1 = 0 ∧ FW r.2) ∨ (r.1 = 1 ∧ GE t s0 r.2))) := by
  unfold wX11_compare_j152
  refine t_bind (wX11_sum_T gu ht) (fun r h => ?_)
  obtain ⟨t18, s19⟩ := r
  obtain ⟨a, h⟩ := h
  dsimp only at a h ⊢
  refine t_ite (fun c => t_some ⟨ha.trans a, Or.inl ⟨rfl, fw_of h c⟩⟩) (fun c => ?_)
  obtain ⟨v1, v2, v3, v4, v5⟩ := ok_of h c
  obtain ⟨p1, p2, p3, p4, p5⟩ := g0
  have k2 : (u.1 155 t).toInt = (s.1 155 t).toInt := by rw [(sF_of au).2.2.2.1]
  have k3 : (s19.1 152 20).toInt = (s.1 152 20).toInt := by rw [bE_20 a, (sF_of au).2.2.1]
  have k4 := p1.2.2.2.2.2.1
  refine t_bind (wX11_puts_T v1 ht (by omega)) (fun s23 hp => t_some ⟨(ha.trans a).trans hp.1, Or.inr ⟨rfl, ?_⟩⟩)
  have e12 : (s23.1 152 12).toInt = (s19.1 152 12).toInt := by rw [hp.2.2.2.1]
  refine ⟨hp.pi v1 (by omega), ((p2.trans (Pr_F au)).trans v2).trans hp.pr, fun b h hc => ?_, by show _ ≤ (s23.1 152 12).toInt; omega, by show _ ≤ (s23.1 152 12).toInt - (s23.1 155 t).toInt; have := hp.2.1; omega⟩
  have hc1 := p3 b h hc
  have hc2 := CS_F au hM hc1
  have hc3 := v3 b (h + 1) hc2
  exact hp.cs hc3 (hs_op ho (by omega)) (by have := hc3.2.2; omega)
theorem wX11_compare_T {t : Nat} {s : wS} (g : PI t s) (ht : t ≤ 5) : Tot (wX11_compare s) (fun r => wA (bE t) s r.2 ∧ ((r.1 = 0 ∧ FW r.2) ∨ (r.1 = 1 ∧ GE t s r.2))) := by
  unfold wX11_compare
  refine t_bind (wX11_sum_T g ht) (fun r h1 => ?_)
  obtain ⟨t1, s2⟩ := r
  obtain ⟨a, h1⟩ := h1
  dsimp only at a h1 ⊢
  refine t_ite (fun c => t_some ⟨a, Or.inl ⟨rfl, fw_of h1 c⟩⟩) (fun c => ?_)
  have gv := ok_of h1 c
  refine t_bind (wX11_see_T gv.1.tp) (fun r h5 => ?_)
  obtain ⟨t5, s6⟩ := r
  obtain ⟨o5, l5, -⟩ := h5
  dsimp only at o5 l5 ⊢
  have g6 := o5.pi gv.1
  have hx6 : 0 ≤ (s6.1 152 12).toInt ∧ (s6.1 152 12).toInt ≤ 1000 := by have := g6.1; have := g6.2.1; omega
  have j105 : ∀ (x3 : Int32) (u : wS) (x2 : Int32), (0 ≤ x2.toInt ∧ x2.toInt ≤ 1000) → wA b12 s6 u → (s6.1 152 12).toInt + 1 ≤ (u.1 152 12).toInt → PI t u → Tot (wX11_compare_j105 t5 x2 x3 u) (fun r => wA (bE t) s r.2 ∧ ((r.1 = 0 ∧ FW r.2) ∨ (r.1 = 1 ∧ GE t s r.2))) := by
    intro x3 u x2 hx2 hu hN gu
    unfold wX11_compare_j105
    have gm := gu.2.2.2.2.2.2
    refine t_bind (wX11_makes_T gm.1 gm.2 hx2.1 hx2.2) (fun r hm => ?_)
    obtain ⟨t12, s13⟩ := r
    obtain ⟨am, m12, hm⟩ := hm
    dsimp only at am m12 hm ⊢
    have au : wA bF s2 s13 := ((o5.1.mono b12_le_bF).trans (hu.mono b12_le_bF)).trans am
    refine t_ite (fun c => t_some ⟨a.trans (bF_le au), Or.inl ⟨rfl, fw_of hm c⟩⟩) (fun c12 => ?_)
    have hm1 := ok_of hm c12
    have g13 : PI t s13 := PI_F am gu (by rw [m12]; omega) (by rw [m12]; exact gu.2.1.2) (by omega)
    have hN2 : (s2.1 152 12).toInt + 1 ≤ (s13.1 152 12).toInt := by have := o5.2.1; rw [m12]; omega
    have hM2 : (s2.1 152 16).toInt ≤ (s13.1 152 16).toInt := by
      have e1 : u.1 152 16 = s2.1 152 16 := by rw [hu 152 16 rfl, o5.1 152 16 rfl]
      rw [hm1.1, e1]; omega
    have fin : ∀ y0, opc ((6 + y0) + 16 * 0) → Tot (wX11_compare_j152 y0 s13) (fun r => wA (bE t) s r.2 ∧ ((r.1 = 0 ∧ FW r.2) ∨ (r.1 = 1 ∧ GE t s r.2))) := fun y0 ho => wX11_compare_j152_T ht ho (a.trans (bF_le au)) gv au g13 hN2 hM2
    exact t_ite (fun _ => t_ite (fun _ => fin _ (by unfold opc; decide)) (fun _ => fin _ (by unfold opc; decide))) (fun _ => t_ite (fun _ => fin _ (by unfold opc; decide)) (fun _ => t_ite (fun _ => fin _ (by unfold opc; decide)) (fun _ => fin _ (by unfold opc; decide))))
  have j44 : ∀ x2 : Int32, (0 ≤ x2.toInt ∧ x2.toInt ≤ 1000) → (s6.1 152 12).toInt < (s6.1 152 1).toInt → Tot (wX11_compare_j44 t5 x2 s6) (fun r => wA (bE t) s r.2 ∧ ((r.1 = 0 ∧ FW r.2) ∨ (r.1 = 1 ∧ GE t s r.2))) := by
    intro x2 hx2 hlt
    unfold wX11_compare_j44
    refine t_bind (t_pfI (B := b12) rfl) (fun w hw => ?_)
    have e : (w.1 152 12).toInt = (s6.1 152 12).toInt + 1 := by rw [hw.2, wup_same]; exact t_p1 g6.2.1.1 (by have := g6.1; omega)
    have gw : PI t w := PI_12 hw.1 g6 (by omega) (by omega)
    have z : Tot (wX11_compare_j89 t5 x2 w) (fun r => wA (bE t) s r.2 ∧ ((r.1 = 0 ∧ FW r.2) ∨ (r.1 = 1 ∧ GE t s r.2))) := by
      unfold wX11_compare_j89 wX11_compare_j90
      exact t_ite (fun _ => j105 0 w x2 hx2 hw.1 (by omega) gw) (fun c => absurd rfl c)
    refine t_ite (fun _ => z) (fun _ => t_ite (fun cT => ?_) (fun _ => z))
    have hT := t_lt cT
    refine t_bind (t_ldI (n := 400) gw.2.1.1 (by have := gw.1; omega)) (fun t29 _ => t_ite (fun _ => ?_) (fun _ => z))
    unfold wX11_compare_j90
    refine t_ite (fun c => absurd c (by decide)) (fun _ => ?_)
    refine t_bind (t_pfI (B := b12) rfl) (fun v hv => ?_)
    have e2 : (v.1 152 12).toInt = (w.1 152 12).toInt + 1 := by rw [hv.2, wup_same]; exact t_p1 gw.2.1.1 (by have := gw.1; omega)
    exact j105 1 v x2 hx2 (hw.1.trans hv.1) (by omega) (PI_12 hv.1 gw (by omega) (by omega))
  refine t_ite (fun c5 => j44 _ hx6 (l5 (by rw [c5]; decide))) (fun _ => t_ite (fun c5 => j44 _ hx6 (l5 (by rw [c5]; decide))) (fun _ => t_ite (fun c5 => j44 _ hx6 (l5 (by rw [c5]; decide))) (fun _ => ?_)))
  refine t_bind wX11_fails_T (fun r hf => ?_)
  obtain ⟨t33, s34⟩ := r
  dsimp only at hf ⊢
  exact t_bind (t_rtZ (Or.inl hf.2.1)) (fun t36 h36 => t_some ⟨a.trans (bF_le ((o5.1.mono b12_le_bF).trans (fails_F hf.1))), Or.inl ⟨by show t36 = 0; rw [h36, hf.2.1], hf.2.2 (by decide) (by decide) hx6.1 hx6.2⟩⟩)
/-! the stack of what waits -/
noncomputable def bT (t k b : Nat) : Bool := bE t k b || (Nat.beq k 160 || (Nat.beq k 152 && (Nat.beq b 17 || Nat.beq b 20)))
theorem bE_le_bT {t : Nat} : ∀ k b, bE t k b = true → bT t k b = true := fun k b h => by
  unfold bT
  rw [h, Bool.true_or]
theorem bT_le_bL {t : Nat} : ∀ k b, bT t k b = true → bL t k b = true := by
  intro k b h
  unfold bL bT at *
  simp only [Bool.or_eq_true, Bool.and_eq_true, Nat.ble_eq, Nat.beq_eq] at *
  rcases h with h | h
  · exact Or.inl (Or.inl (Or.inl (Or.inl h)))
  · omega
noncomputable def bO (k b : Nat) : Bool := Nat.beq k 160 || (Nat.beq k 152 && (Nat.beq b 17 || Nat.beq b 20))
theorem bO_le_bT {t : Nat} : ∀ k b, bO k b = true → bT t k b = true := fun k b h => by
  unfold bT bO at *
  rw [h, Bool.or_true]
theorem bF_le_bT {t : Nat} : ∀ k b, bF k b = true → bT t k b = true := fun k b h => bE_le_bT k b (bF_le_bE k b h)
noncomputable def stv (x : Int32) : Int32 := if x = 13 then 1 else if x = 12 then 2 else if x = 11 then 3 else 0
theorem wX11_strength_T {x0 : Int32} {s : wS} : Tot (wX11_strength x0 s) (fun t => t = stv x0) := by
  unfold wX11_strength stv
  refine t_ite (fun c => t_some ?_) (fun c => t_ite (fun c1 => t_some ?_) (fun c1 => t_ite (fun c2 => t_some ?_) (fun c2 => t_some ?_)))
  · rw [if_pos c]
  · rw [if_neg c, if_pos c1]
  · rw [if_neg c, if_neg c1, if_pos c2]
  · rw [if_neg c, if_neg c1, if_neg c2]
noncomputable def opn (x : Int32) : Prop := x = 11 ∨ x = 12 ∨ x = 13 ∨ x = 91
noncomputable def OS (s : wS) : Prop := ∀ i : Nat, (i : Int) < (s.1 152 20).toInt → opn (s.1 160 i)
noncomputable def nb (f : Nat → Int32) : Nat → Nat
  | 0 => 0
  | n + 1 => nb f n + (if f n = 12 ∨ f n = 13 then 1 else 0)
theorem nb_congr {f f' : Nat → Int32} : ∀ {n : Nat}, (∀ i, i < n → f' i = f i) → nb f' n = nb f n := by
  intro n
  induction n with
  | zero => intro _; rfl
  | succ n ih =>
    intro h
    unfold nb
    rw [ih (fun i hi => h i (by omega)), h n (by omega)]
theorem wX11_opens_T {x1 : Int32} {s : wS} (hx : 0 ≤ (s.1 152 12).toInt) (hx2 : (s.1 152 12).toInt ≤ 1000) (h0 : 0 ≤ (s.1 152 20).toInt) (h4 : (s.1 152 20).toInt < 400) : Tot (wX11_opens x1 s) (fun r => (r.1 = 0 ∧ wA bF s r.2 ∧ FW r.2) ∨ (r.1 = 1 ∧ wA bO s r.2 ∧ (r.2.1 152 20).toInt = (s.1 152 20).toInt + 1 ∧ r.2.1 160 = upd (s.1 160) (s.1 152 20).toNatClampNeg x1)) := by
  unfold wX11_opens
  refine t_ite (fun _ => ?_) (fun _ => ?_)
  · refine t_bind wX11_fails_T (fun r h => ?_)
    obtain ⟨t2, s3⟩ := r
    dsimp only at h ⊢
    exact t_bind (t_rtZ (Or.inl h.2.1)) (fun t5 h5 => t_some (Or.inl ⟨by show t5 = 0; rw [h5, h.2.1], fails_F h.1, h.2.2 (by decide) (by decide) hx hx2⟩))
  · refine t_bind (t_pfI (B := bO) rfl) (fun s6 h6 => ?_)
    have f6 : s6.1 152 20 = s.1 152 20 := by rw [h6.2]; exact wup_nb (by decide)
    refine t_bind (t_stI (B := bO) (n := 400) (by rw [f6]; exact h0) (by rw [f6]; omega) (fun _ => rfl)) (fun s7 h7 => ?_)
    have f7 : s7.1 152 20 = s.1 152 20 := by rw [h7.2, wupI_n (by omega), f6]
    refine t_bind (t_pfI (B := bO) rfl) (fun s8 h8 => t_some (Or.inr ⟨rfl, (h6.1.trans h7.1).trans h8.1, ?_, ?_⟩))
    · show (s8.1 152 20).toInt = _
      rw [h8.2, wup_same, f7]
      exact t_p1 h0 (by omega)
    · show s8.1 160 = _
      rw [h8.2, wupI_n (by omega), h7.2, wupI_k, f6, h6.2, wupI_n (by omega)]
theorem t_m11 {x : Int32} (h : 1 ≤ x.toInt) (h2 : x.toInt ≤ 100000) : (x - 1).toInt = x.toInt - 1 := by
  have e : (1 : Int32).toInt = 1 := rfl
  rw [t_sub (by rw [e]; omega) (by rw [e]; omega), e]
/-- what settling does -/
noncomputable def SE (t : Nat) (x1 : Int32) (b : Nat) (s r : wS) : Prop := wA (bT t) s r ∧ PI t r ∧ (((r.1 152 20).toInt ≤ (s.1 152 20).toInt ∧ (r.1 155 t).toInt + (r.1 152 20).toInt ≤ (s.1 155 t).toInt + (s.1 152 20).toInt) ∧ r.1 160 = s.1 160) ∧ CS t b (nb (s.1 160) (r.1 152 20).toNatClampNeg + 1) r ∧ Pr t s r ∧ (r.1 152 12 = s.1 152 12 ∧ r.1 152 16 = s.1 152 16) ∧ ((r.1 152 20).toInt = 0 ∨ stv (s.1 160 ((r.1 152 20).toInt - 1).toNat) < x1) ∧ ∀ i : Nat, (i : Int) < (s.1 152 20).toInt → stv (s.1 160 i) < x1 → (i : Int) < (r.1 152 20).toInt
theorem wX11_settles_h0_T {t b : Nat} {x1 : Int32} (ht : t ≤ 5) (hx : 1 ≤ x1.toInt) : ∀ (n : Nat) {s : wS}, PI t s → OS s → CS t b (nb (s.1 160) (s.1 152 20).toNatClampNeg + 1) s → (s.1 152 20).toInt < (n : Int) → Tot (wX11_settles_h0 x1 n s) (fun r => SE t x1 b s r) := by
  intro n
  induction n with
  | zero => intro s g _ _ hm; exfalso; have := g.2.2.2.2.1; omega
  | succ n ih =>
    intro s g hO hc hm
    rw [wX11_settles_h0]
    have g5 := g.2.2.2.2.1
    have g6 := g.2.2.2.2.2.1
    have gN := g.2.1.2
    have gT := g.1.2
    refine t_ite (fun c0 => ?_) (fun c0 => t_some ?_)
    · have h0 := t_lt c0
      rw [t_i0] at h0
      have gL := g.2.2.2.1
      have e1 := t_m11 (x := s.1 152 20) (by omega) (by omega)
      have n1 : (s.1 152 20 - 1).toNatClampNeg = ((s.1 152 20).toInt - 1).toNat := by unfold Int32.toNatClampNeg; rw [e1]
      refine t_bind (t_ldI (n := 400) (by rw [e1]; omega) (by rw [e1]; omega)) (fun t2 h2 => ?_)
      rw [n1] at h2
      refine t_bind wX11_strength_T (fun t3 h3 => t_ite (fun c3 => t_some ?_) (fun c3 => ?_))
      · refine ⟨wA.refl, g, ⟨⟨Int.le_refl _, Int.le_refl _⟩, rfl⟩, hc, ⟨Int.le_refl _, fun _ _ => rfl⟩, ⟨rfl, rfl⟩, Or.inr ?_, fun i hi _ => hi⟩
        rw [← h2, ← h3]
        exact c3
      · refine t_bind (t_pfI (B := bT t) (bO_le_bT 152 20 rfl)) (fun s6 h6 => ?_)
        have f20 : (s6.1 152 20).toInt = (s.1 152 20).toInt - 1 := by rw [h6.2, wup_same, e1]
        have n6 : (s6.1 152 20).toNatClampNeg = ((s.1 152 20).toInt - 1).toNat := by unfold Int32.toNatClampNeg; rw [f20]
        have k160 : s6.1 160 = s.1 160 := by rw [h6.2, wupI_n (by omega)]
        have k155 : s6.1 155 = s.1 155 := by rw [h6.2, wupI_n (by omega)]
        have k154 : s6.1 154 = s.1 154 := by rw [h6.2, wupI_n (by omega)]
        have kf : ∀ j, j ≠ 20 → s6.1 152 j = s.1 152 j := fun j hj => by rw [h6.2]; exact wup_nb hj
        have g6' : PI t s6 := by
          obtain ⟨p1, p2, p3, p4, p5, p6, p7⟩ := g
          (first | unfold PI PJ | unfold PJ)
          rw [kf 1 (by omega), kf 12 (by omega), kf 15 (by omega), kf 16 (by omega), k155]
          exact ⟨p1, p2, p3, p4, by omega, by omega, p7⟩
        have hc6 : CS t b (nb (s.1 160) (s.1 152 20).toNatClampNeg + 1) s6 := by
          unfold CS Cd at *
          rw [k155, k154, kf 16 (by omega)]
          exact hc
        refine t_bind (t_ldI (n := 400) (by omega) (by omega)) (fun t7 h7 => ?_)
        rw [n6, k160] at h7
        have e72 : t7 = t2 := by rw [h7, h2]
        refine t_bind (wX11_puts_T g6' ht (by rw [k155, f20, kf 12 (by omega)]; omega)) (fun s9 h9 => ?_)
        have g9 := h9.pi g6' (by rw [k155, f20, kf 12 (by omega)]; omega)
        have q20 : s9.1 152 20 = s6.1 152 20 := by rw [h9.2.2.2.1]
        have nbe : nb (s.1 160) (s.1 152 20).toNatClampNeg = nb (s.1 160) ((s.1 152 20).toInt - 1).toNat + (if t2 = 12 ∨ t2 = 13 then 1 else 0) := by
          have : (s.1 152 20).toNatClampNeg = ((s.1 152 20).toInt - 1).toNat + 1 := by unfold Int32.toNatClampNeg; omega
          rw [this, nb, ← h2]
        have ho : opn t2 := by rw [h2]; exact hO _ (by omega)
        have hc9 : CS t b (nb (s.1 160) ((s.1 152 20).toInt - 1).toNat + 1) s9 := by
          have hb9 : ((nb (s.1 160) ((s.1 152 20).toInt - 1).toNat + 1 : Nat) : Int) ≤ (s6.1 152 16).toInt := by
            have := hc6.2.2
            rw [nbe] at this
            omega
          refine h9.cs hc6 ?_ hb9
          rw [nbe, e72]
          rcases ho with q | q | q | q
          · rw [q]
            rw [if_neg (by decide), Nat.add_zero]
            exact hs_not (by omega)
          · rw [q]
            rw [if_pos (by decide)]
            exact hs_op (by unfold opc; decide) (by omega)
          · rw [q]
            rw [if_pos (by decide)]
            exact hs_op (by unfold opc; decide) (by omega)
          · exfalso
            apply c3
            rw [h3, q]
            rw [Int32.lt_iff_toInt_lt]
            have : (stv 91).toInt = 0 := by decide
            omega
        refine t_bind (t_ldI (n := 400) (by rw [q20]; omega) (by rw [q20]; omega)) (fun t11 _ => ?_)
        have nx : ∀ u : wS, wA bO s9 u → u.1 160 = s9.1 160 → u.1 152 20 = s9.1 152 20 → Tot (wX11_settles_h0 x1 n u) (fun r => SE t x1 b s r) := by
          intro u au k1 k2
          have au' : wA (bT t) s9 u := au.mono bO_le_bT
          have ku : ∀ j, j ≠ 17 → j ≠ 20 → u.1 152 j = s9.1 152 j := fun j h1 h2 => au 152 j (by
            unfold bO
            have e1 : Nat.beq j 17 = false := by cases e : Nat.beq j 17 with | false => rfl | true => exact absurd (Nat.eq_of_beq_eq_true e) h1
            have e2 : Nat.beq j 20 = false := by cases e : Nat.beq j 20 with | false => rfl | true => exact absurd (Nat.eq_of_beq_eq_true e) h2
            rw [e1, e2]
            rfl)
          have u155 : u.1 155 = s9.1 155 := funext fun j => au 155 j rfl
          have u154 : u.1 154 = s9.1 154 := funext fun j => au 154 j rfl
          have gu : PI t u := by
            (first | unfold PI PJ at * | unfold PJ at *)
            rw [ku 1 (by omega) (by omega), ku 12 (by omega) (by omega), ku 15 (by omega) (by omega), ku 16 (by omega) (by omega), k2, u155]
            exact g9
          have d160 : u.1 160 = s.1 160 := by rw [k1, h9.2.2.2.2, k160]
          have d20 : u.1 152 20 = s6.1 152 20 := by rw [k2, q20]
          refine t_mono (ih gu ?_ ?_ ?_) (fun r hr => ?_)
          · intro i hi
            rw [d20, f20] at hi
            rw [d160]
            exact hO i (by omega)
          · rw [d160, d20, n6]
            unfold CS Cd at *
            rw [u155, u154, ku 16 (by omega) (by omega)]
            exact hc9
          · rw [d20, f20]; omega
          · obtain ⟨r1, r2, r3, r4, r5, r6, r7, r8⟩ := hr
            rw [d160] at r3 r4 r7 r8
            rw [d20, f20] at r3 r8
            have pu : Pr t s u := by
              have z1 : Pr t s s6 := by unfold Pr Cd; rw [k155, k154]; exact ⟨Int.le_refl _, fun _ _ => rfl⟩
              have z2 : Pr t s9 u := by unfold Pr Cd; rw [u155, u154]; exact ⟨Int.le_refl _, fun _ _ => rfl⟩
              exact (z1.trans h9.pr).trans z2
            refine ⟨((h6.1.trans (h9.1.mono bE_le_bT)).trans au').trans r1, r2, ⟨⟨by omega, by rw [u155, h9.2.1, k155] at r3; omega⟩, r3.2⟩, r4, pu.trans r5, ⟨?_, ?_⟩, r7, fun i hi hs => ?_⟩
            · rw [r6.1, ku 12 (by omega) (by omega), h9.2.2.2.1, kf 12 (by omega)]
            · rw [r6.2, ku 16 (by omega) (by omega), h9.2.2.2.1, kf 16 (by omega)]
            · refine r8 i ?_ hs
              by_cases hie : (i : Int) = (s.1 152 20).toInt - 1
              · exfalso
                apply c3
                rw [h3, h2, ← hie, Int.toNat_natCast]
                exact hs
              · omega
        refine t_ite (fun _ => ?_) (fun _ => nx s9 wA.refl rfl rfl)
        refine t_bind (t_pfI (B := bO) rfl) (fun s13 h13 => ?_)
        exact nx s13 h13.1 (by rw [h13.2, wupI_n (by omega)]) (by rw [h13.2]; exact wup_nb (by decide))
    · have h0 := t_ge c0
      rw [t_i0] at h0
      exact ⟨wA.refl, g, ⟨⟨Int.le_refl _, Int.le_refl _⟩, rfl⟩, hc, ⟨Int.le_refl _, fun _ _ => rfl⟩, ⟨rfl, rfl⟩, Or.inl (by omega), fun i hi _ => hi⟩
theorem wX11_settles_T {t b : Nat} {x1 : Int32} {s : wS} (ht : t ≤ 5) (hx : 1 ≤ x1.toInt) (g : PI t s) (hO : OS s) (hc : CS t b (nb (s.1 160) (s.1 152 20).toNatClampNeg + 1) s) : Tot (wX11_settles x1 s) (fun r => SE t x1 b s r) := by
  unfold wX11_settles
  exact t_bind (wX11_settles_h0_T ht hx _ g hO hc (by have e : ((wFuel : Nat) : Int) = 1099511627776 := rfl; have := Int32.toInt_lt (s.1 152 20); omega)) (fun s15 h => t_some h)
