/-! The reference reads: CLAUSES, whole texts. -/
noncomputable def KL (t : Nat) (s : wS) : Prop := ∀ c : Nat, (c : Int) < (s.1 157 t).toInt → (qWF (Cd t s) (s.1 156 (60 * t + 5 * c + 1)).toInt (s.1 156 (60 * t + 5 * c + 2)).toInt ∧ (s.1 156 (60 * t + 5 * c + 2)).toInt ≤ (s.1 155 t).toInt) ∧ ((s.1 156 (60 * t + 5 * c + 3)).toInt < 0 ∨ (qWF (Cd t s) (s.1 156 (60 * t + 5 * c + 3)).toInt (s.1 156 (60 * t + 5 * c + 4)).toInt ∧ (s.1 156 (60 * t + 5 * c + 4)).toInt ≤ (s.1 155 t).toInt))
theorem qWF_pr {t : Nat} {s s' : wS} {b e : Int} (h : Pr t s s') (he : e ≤ (s.1 155 t).toInt) (g : qWF (Cd t s) b e) : qWF (Cd t s') b e := by
  obtain ⟨g1, g2, g3, g4⟩ := g
  refine ⟨g1, g2, g3, ?_⟩
  rw [hrun_congr (C := Cd t s) (fun j h1 h2 => h.2 j (by omega))]
  exact g4
theorem KL_pr {t : Nat} {s s' : wS} (h : Pr t s s') (h6 : ∀ i, s'.1 156 i = s.1 156 i) (h7 : s'.1 157 t = s.1 157 t) (g : KL t s) : KL t s' := by
  intro c hc
  rw [h7] at hc
  obtain ⟨⟨k1, k2⟩, k3⟩ := g c hc
  have h1 := h.1
  rw [h6, h6, h6, h6]
  refine ⟨⟨qWF_pr h k2 k1, by omega⟩, ?_⟩
  rcases k3 with q | ⟨q1, q2⟩
  · exact Or.inl q
  · exact Or.inr ⟨qWF_pr h q2 q1, by omega⟩
theorem bL_156 {t i : Nat} (h : 60 * t ≤ i) (h2 : i < 60 * t + 60) : bL t 156 i = true := by
  have l1 : Nat.ble (60 * t) i = true := Nat.ble_eq_true_of_le h
  have l2 : Nat.blt i (60 * t + 60) = true := Nat.ble_eq_true_of_le h2
  unfold bL
  rw [l1, l2]
  simp
theorem bL_157 {t : Nat} : bL t 157 t = true := by
  have l1 : Nat.beq t t = true := Nat.beq_refl t
  unfold bL
  rw [l1]
  simp
theorem bT_no {t k b : Nat} (h1 : k ≠ 154) (h2 : k ≠ 155) (h3 : bF k b = false) (h4 : bO k b = false) : bT t k b = false := by
  unfold bT
  rw [bE_k h1 h2 h3]
  unfold bO at h4
  rw [h4]
  rfl
theorem bT_157 {t : Nat} {s s' : wS} (h : wA (bT t) s s') : s'.1 157 t = s.1 157 t := h 157 t (bT_no (by omega) (by omega) rfl rfl)
theorem bT_156 {t : Nat} {s s' : wS} (h : wA (bT t) s s') (i : Nat) : s'.1 156 i = s.1 156 i := h 156 i (bT_no (by omega) (by omega) rfl rfl)
theorem KL_T {t : Nat} {s s' : wS} (h : Pr t s s') (a : wA (bT t) s s') (g : KL t s) : KL t s' := KL_pr h (bT_156 a) (bT_157 a) g
/-- a clause's number was written -/
noncomputable def CW (t j : Nat) (v : Int32) (s s' : wS) : Prop := wA (bL t) s s' ∧ s' = wupI s 156 (60 * t + j) v
theorem CW.pi {t j : Nat} {v : Int32} {s s' : wS} (h : CW t j v s s') (g : PL t s) : PL t s' := by
  rw [h.2]
  (first | unfold PL PJ | unfold PJ)
  rw [wupI_n (by omega), wupI_n (by omega)]
  exact g
theorem CW.pr {t j : Nat} {v : Int32} {s s' : wS} (h : CW t j v s s') : Pr t s s' := by
  rw [h.2]
  unfold Pr Cd
  rw [wupI_n (by omega), wupI_n (by omega)]
  exact ⟨Int.le_refl _, fun _ _ => rfl⟩
theorem CW.cs {t j b h : Nat} {v : Int32} {s s' : wS} (hw : CW t j v s s') (g : CS t b h s) : CS t b h s' := by
  rw [hw.2]
  unfold CS Cd
  rw [wupI_n (by omega), wupI_n (by omega), wupI_n (by omega)]
  exact g
theorem CW.get {t j : Nat} {v : Int32} {s s' : wS} (h : CW t j v s s') (i : Nat) : s'.1 156 i = if i = 60 * t + j then v else s.1 156 i := by
  rw [h.2, wupI_k]
  rfl
/-- the clauses that stand aren't touched -/
theorem KL_CW {t j : Nat} {v : Int32} {s s' : wS} (h : CW t j v s s') (hj : 5 * (s.1 157 t).toInt ≤ j) (g : KL t s) : KL t s' := by
  have h7 : s'.1 157 t = s.1 157 t := by rw [h.2, wupI_n (by omega)]
  intro c hc
  rw [h7] at hc
  have k := g c hc
  rw [h.get, h.get, h.get, h.get, if_neg (by omega), if_neg (by omega), if_neg (by omega), if_neg (by omega)]
  have e155 : s'.1 155 = s.1 155 := by rw [h.2, wupI_n (by omega)]
  have eC : Cd t s' = Cd t s := by
    funext i
    unfold Cd
    rw [h.2, wupI_n (by omega)]
  rw [e155, eC]
  exact k
theorem CS.wf {t b : Nat} {s : wS} (h : CS t b 1 s) (g : PL t s) : qWF (Cd t s) (b : Int) (s.1 155 t).toInt := by
  have g1 := g.1
  have g2 := g.2.1
  have g5 := g.2.2.2.2.1
  have g6 := g.2.2.2.2.2.1
  refine ⟨by omega, h.1, by omega, ?_⟩
  rw [Int.toNat_natCast]
  exact h.2.1
theorem bL_1 {t : Nat} {s s' : wS} (h : wA (bL t) s s') : s'.1 152 1 = s.1 152 1 := h 152 1 (by
  unfold bL
  rw [bE_k (by omega) (by omega) rfl]
  rfl)
theorem bL_15 {t : Nat} {s s' : wS} (h : wA (bL t) s s') : s'.1 152 15 = s.1 152 15 := h 152 15 (by
  unfold bL
  rw [bE_k (by omega) (by omega) rfl]
  rfl)
theorem bT_18 {t : Nat} {s s' : wS} (h : wA (bT t) s s') : s'.1 152 18 = s.1 152 18 := h 152 18 (bT_no (by omega) (by omega) rfl rfl)
theorem wX11_clauseOf_T {t : Nat} {x1 : Int32} {s : wS} (g : PL t s) (ht : t ≤ 5) (hc : 0 ≤ (s.1 157 t).toInt) (hc2 : (s.1 157 t).toInt < 12) (hk : KL t s) : Tot (wX11_clauseOf x1 s) (fun r => wA (bL t) s r.2 ∧ ((r.1 = 0 ∧ FW r.2) ∨ (r.1 = 1 ∧ PL t r.2 ∧ KL t r.2 ∧ (r.2.1 157 t).toInt = (s.1 157 t).toInt + 1 ∧ r.2.1 152 18 = s.1 152 18))) := by
  unfold wX11_clauseOf
  refine t_bind (wX11_passWord_T g.tp) (fun s2 h2 => ?_)
  have o2 := h2.1
  have g2 := o2.pi g
  have a2 : wA (bT t) s s2 := (o2.1.mono b12_le_bF).mono bF_le_bT
  have k2 := KL_T (Pr_F (o2.1.mono b12_le_bF)) a2 hk
  have c2 : s2.1 157 t = s.1 157 t := bT_157 a2
  have l2 : s2.1 152 18 = s.1 152 18 := bT_18 a2
  have hX : (s2.1 152 15).toNatClampNeg = t := by have := g2.2.2.1; unfold Int32.toNatClampNeg; omega
  have hXi := g2.2.2.1
  refine t_bind (t_ldI (n := 6) (by omega) (by omega)) (fun t4 h4 => ?_)
  rw [hX, c2] at h4
  have e0 := t_cl (l := s2.1 152 15) (c := t4) (by omega) (by omega) (by rw [h4]; exact hc) (by rw [h4]; exact hc2)
  obtain ⟨n, hn⟩ : ∃ n : Nat, (n : Int) = (s.1 157 t).toInt := ⟨(s.1 157 t).toInt.toNat, by omega⟩
  have n0 : ((60 * s2.1 152 15) + (5 * t4)).toNatClampNeg = 60 * t + 5 * n := by unfold Int32.toNatClampNeg; rw [e0, h4]; omega
  have en : ∀ {d : Int32} {m : Int}, d.toInt = m → 0 ≤ m → m ≤ 4 → ((((60 * s2.1 152 15) + (5 * t4)) + d).toInt = 60 * t + 5 * n + m ∧ (((60 * s2.1 152 15) + (5 * t4)) + d).toNatClampNeg = 60 * t + (5 * n + m.toNat)) := by
    intro d m hd h0 h4'
    have e := t_pl (x := (60 * s2.1 152 15) + (5 * t4)) hd h0 (by omega) (by rw [e0, h4]; omega) (by rw [e0, h4]; omega)
    refine ⟨by rw [e, e0, h4]; omega, ?_⟩
    unfold Int32.toNatClampNeg
    rw [e, e0, h4]
    omega
  generalize hat : (60 * s2.1 152 15) + (5 * t4) = at0 at *
  have e1 := en (d := 1) (m := 1) rfl (by omega) (by omega)
  have e2 := en (d := 2) (m := 2) rfl (by omega) (by omega)
  have e3 := en (d := 3) (m := 3) rfl (by omega) (by omega)
  have e4 := en (d := 4) (m := 4) rfl (by omega) (by omega)
  have wr : ∀ {u : wS} {i v : Int32} {j : Nat}, i.toInt = 60 * t + j → j < 60 → Tot (wstI u 156 360 i v) (fun r => CW t j v u r) := by
    intro u i v j hi hj
    have hin : i.toNatClampNeg = 60 * t + j := by unfold Int32.toNatClampNeg; omega
    have := t_st1 (B := bL t) (s := u) (k := 156) (n := 360) (i := i) (v := v) (by omega) (by omega) (by rw [hin]; exact bL_156 (by omega) (by omega))
    rw [hin] at this
    exact this
  refine t_bind (wr (j := 5 * n) (by rw [e0, h4]; omega) (by omega)) (fun s5 h5 => ?_)
  have g5 := h5.pi g2
  have c5 : s5.1 157 t = s.1 157 t := by rw [h5.2, wupI_n (by omega), c2]
  have l5 : s5.1 152 18 = s.1 152 18 := by rw [h5.2, wupI_n (by omega), l2]
  have k5 := KL_CW h5 (by rw [c2]; omega) k2
  have X5 : s5.1 152 15 = s2.1 152 15 := by rw [h5.2, wupI_n (by omega)]
  refine t_bind (t_ldI (n := 7) (by rw [X5]; omega) (by rw [X5]; omega)) (fun t6 h6 => ?_)
  rw [X5, hX] at h6
  refine t_bind (wr (j := 5 * n + 1) (by rw [e1.1]; omega) (by omega)) (fun s7 h7 => ?_)
  have g7 := h7.pi g5
  have c7 : s7.1 157 t = s.1 157 t := by rw [h7.2, wupI_n (by omega), c5]
  have l7 : s7.1 152 18 = s.1 152 18 := by rw [h7.2, wupI_n (by omega), l5]
  have k7 := KL_CW h7 (by rw [c5]; omega) k5
  have b1 : (s7.1 155 t).toInt = t6.toInt := by rw [h7.2, wupI_n (by omega), h6]
  have p1 : s7.1 156 (60 * t + 5 * n + 1) = t6 := by rw [h7.get, if_pos (by omega)]
  have a7 : wA (bL t) s s7 := ((a2.mono bT_le_bL).trans h5.1).trans h7.1
  obtain ⟨B, hB⟩ : ∃ B : Nat, (B : Int) = (s7.1 155 t).toInt := ⟨(s7.1 155 t).toInt.toNat, by have := g7.2.2.2.1; omega⟩
  have cs7 : CS t B 0 s7 := by
    refine ⟨by omega, ?_, g7.2.2.2.2.2.2.1⟩
    have e : ((s7.1 155 t).toInt - (B : Int)).toNat = 0 := by omega
    rw [e]
    rfl
  refine t_bind (wX11_sum_T g7 ht) (fun r h8 => ?_)
  obtain ⟨t8, s9⟩ := r
  obtain ⟨a9, h8⟩ := h8
  dsimp only at a9 h8 ⊢
  have a9' : wA (bT t) s7 s9 := a9.mono bE_le_bT
  refine t_ite (fun c => t_some ⟨a7.trans (a9.mono bE_le_bL), Or.inl ⟨rfl, fw_of h8 c⟩⟩) (fun c8 => ?_)
  obtain ⟨g9, pr9, cs9, -, -⟩ := ok_of h8 c8
  have k9 := KL_T pr9 a9' k7
  have c9 : s9.1 157 t = s.1 157 t := by rw [bT_157 a9', c7]
  have l9 : s9.1 152 18 = s.1 152 18 := by rw [bT_18 a9', l7]
  have X9 : s9.1 152 15 = s2.1 152 15 := by rw [bL_15 (a9.mono bE_le_bL), bL_15 h7.1, X5]
  have p9 : s9.1 156 (60 * t + 5 * n + 1) = t6 := by rw [bT_156 a9', p1]
  have cs9' := cs9 B 0 cs7
  refine t_bind (t_ldI (n := 7) (by rw [X9]; omega) (by rw [X9]; omega)) (fun t12 h12 => ?_)
  rw [X9, hX] at h12
  refine t_bind (wr (j := 5 * n + 2) (by rw [e2.1]; omega) (by omega)) (fun s13 h13 => ?_)
  refine t_bind (wr (j := 5 * n + 3) (by rw [e3.1]; omega) (by omega)) (fun s14 h14 => ?_)
  have g14 := h14.pi (h13.pi g9)
  have pr14 := h13.pr.trans h14.pr
  have c13 : s13.1 157 t = s.1 157 t := by rw [h13.2, wupI_n (by omega), c9]
  have c14 : s14.1 157 t = s.1 157 t := by rw [h14.2, wupI_n (by omega), c13]
  have l14 : s14.1 152 18 = s.1 152 18 := by rw [h14.2, wupI_n (by omega), h13.2, wupI_n (by omega), l9]
  have k14 := KL_CW h14 (by rw [c13]; omega) (KL_CW h13 (by rw [c9]; omega) k9)
  have a14 : wA (bL t) s s14 := ((a7.trans (a9.mono bE_le_bL)).trans h13.1).trans h14.1
  have L14 : (s14.1 155 t).toInt = t12.toInt := by rw [h14.2, wupI_n (by omega), h13.2, wupI_n (by omega), h12]
  have X14 : s14.1 152 15 = s2.1 152 15 := by rw [bL_15 h14.1, bL_15 h13.1, X9]
  have f1 : s14.1 156 (60 * t + 5 * n + 1) = t6 := by rw [h14.get, if_neg (by omega), h13.get, if_neg (by omega), p9]
  have f2 : s14.1 156 (60 * t + 5 * n + 2) = t12 := by rw [h14.get, if_neg (by omega), h13.get, if_pos (by omega)]
  have f3 : s14.1 156 (60 * t + 5 * n + 3) = -1 := by rw [h14.get, if_pos (by omega)]
  have w14 : qWF (Cd t s14) t6.toInt t12.toInt := by
    have := (h14.cs (h13.cs cs9')).wf g14
    rw [hB, b1, L14] at this
    exact this
  refine t_bind (wX11_takesWord_T g14.tp) (fun r h15 => ?_)
  obtain ⟨t15, s16⟩ := r
  have o16 := h15.1
  dsimp only at o16 ⊢
  have g16 := o16.pi g14
  have aF16 : wA bF s14 s16 := o16.1.mono b12_le_bF
  have a16 : wA (bT t) s14 s16 := aF16.mono bF_le_bT
  have pr16 : Pr t s14 s16 := Pr_F aF16
  have k16 := KL_T pr16 a16 k14
  have c16 : s16.1 157 t = s.1 157 t := by rw [bT_157 a16, c14]
  have l16 : s16.1 152 18 = s.1 152 18 := by rw [bT_18 a16, l14]
  have X16 : s16.1 152 15 = s2.1 152 15 := by rw [bL_15 (a16.mono bT_le_bL), X14]
  -- the end, from where the clause's last number is due
  have fin : ∀ (u : wS), wA (bL t) s u → PL t u → Pr t s14 u → KL t u → u.1 157 t = s.1 157 t → u.1 152 18 = s.1 152 18 → u.1 152 15 = s2.1 152 15 → u.1 156 (60 * t + 5 * n + 1) = t6 → u.1 156 (60 * t + 5 * n + 2) = t12 → ((u.1 156 (60 * t + 5 * n + 3)).toInt < 0 ∨ qWF (Cd t u) (u.1 156 (60 * t + 5 * n + 3)).toInt (u.1 155 t).toInt) → Tot (wX11_clauseOf_j119 at0 u) (fun r => wA (bL t) s r.2 ∧ ((r.1 = 0 ∧ FW r.2) ∨ (r.1 = 1 ∧ PL t r.2 ∧ KL t r.2 ∧ (r.2.1 157 t).toInt = (s.1 157 t).toInt + 1 ∧ r.2.1 152 18 = s.1 152 18))) := by
    intro u au gu pu ku cu lu Xu u1 u2 u3
    unfold wX11_clauseOf_j119
    refine t_bind (t_ldI (n := 7) (by rw [Xu]; omega) (by rw [Xu]; omega)) (fun t19 h19 => ?_)
    rw [Xu, hX] at h19
    refine t_bind (wr (j := 5 * n + 4) (by rw [e4.1]; omega) (by omega)) (fun s20 h20 => ?_)
    have X20 : s20.1 152 15 = s2.1 152 15 := by rw [h20.2, wupI_n (by omega), Xu]
    have c20 : s20.1 157 t = s.1 157 t := by rw [h20.2, wupI_n (by omega), cu]
    have k20 := KL_CW h20 (by rw [cu]; omega) ku
    refine t_bind (t_ldI (n := 6) (by rw [X20]; omega) (by rw [X20]; omega)) (fun t21 h21 => ?_)
    rw [X20, hX, c20] at h21
    refine t_bind (t_st1 (B := bL t) (n := 6) (by rw [X20]; omega) (by rw [X20]; omega) (by rw [X20, hX]; exact bL_157)) (fun s22 h22 => t_some ⟨(au.trans h20.1).trans h22.1, Or.inr ⟨rfl, ?_, ?_, ?_, ?_⟩⟩)
    · show PL t s22
      rw [h22.2]
      have := h20.pi gu
      (first | unfold PL PJ at * | unfold PJ at *)
      rw [wupI_n (by omega), wupI_n (by omega)]
      exact this
    · show KL t s22
      have q157 : (s22.1 157 t).toInt = (n : Int) + 1 := by
        rw [h22.2, X20, hX, wup_same, h21]
        have := t_p1 (x := s.1 157 t) hc (by omega)
        omega
      have q156 : s22.1 156 = s20.1 156 := by rw [h22.2, wupI_n (by omega)]
      have q155 : s22.1 155 = u.1 155 := by rw [h22.2, wupI_n (by omega), h20.2, wupI_n (by omega)]
      have qC : Cd t s22 = Cd t u := by
        funext i
        unfold Cd
        rw [h22.2, wupI_n (by omega), h20.2, wupI_n (by omega)]
      intro c hcl
      rw [q157] at hcl
      rw [q156, q155, qC]
      by_cases hce : c = n
      · subst hce
        rw [h20.get, h20.get, h20.get, h20.get, if_neg (by omega), if_neg (by omega), if_neg (by omega), if_pos (by omega), u1, u2, h19]
        have hp1 := pu.1
        refine ⟨⟨qWF_pr pu (by omega) w14, by omega⟩, ?_⟩
        rcases u3 with q | q
        · exact Or.inl q
        · exact Or.inr ⟨q, by omega⟩
      · have := k20 c (by rw [c20]; omega)
        rw [show s20.1 155 = u.1 155 by rw [h20.2, wupI_n (by omega)], show Cd t s20 = Cd t u by funext i; unfold Cd; rw [h20.2, wupI_n (by omega)]] at this
        exact this
    · show (s22.1 157 t).toInt = _
      rw [h22.2, X20, hX, wup_same, h21]
      exact t_p1 hc (by omega)
    · show s22.1 152 18 = _
      rw [h22.2, wupI_n (by omega), h20.2, wupI_n (by omega), lu]
  refine t_ite (fun _ => ?_) (fun _ => ?_)
  · exact fin s16 (a14.trans (a16.mono bT_le_bL)) g16 pr16 k16 c16 l16 X16 (by rw [bT_156 a16, f1]) (by rw [bT_156 a16, f2]) (Or.inl (by rw [bT_156 a16, f3]; decide))
  · refine t_bind (t_ldI (n := 7) (by rw [X16]; omega) (by rw [X16]; omega)) (fun t23 h23 => ?_)
    rw [X16, hX] at h23
    refine t_bind (wr (j := 5 * n + 3) (by rw [e3.1]; omega) (by omega)) (fun s24 h24 => ?_)
    have g24 := h24.pi g16
    have c24 : s24.1 157 t = s.1 157 t := by rw [h24.2, wupI_n (by omega), c16]
    have l24 : s24.1 152 18 = s.1 152 18 := by rw [h24.2, wupI_n (by omega), l16]
    have k24 := KL_CW h24 (by rw [c16]; omega) k16
    have X24 : s24.1 152 15 = s2.1 152 15 := by rw [bL_15 h24.1, X16]
    have a24 : wA (bL t) s s24 := (a14.trans (a16.mono bT_le_bL)).trans h24.1
    have L24 : (s24.1 155 t).toInt = t23.toInt := by rw [h24.2, wupI_n (by omega), h23]
    obtain ⟨B2, hB2⟩ : ∃ B : Nat, (B : Int) = (s24.1 155 t).toInt := ⟨(s24.1 155 t).toInt.toNat, by have := g24.2.2.2.1; omega⟩
    refine t_bind (wX11_tested_T g24 ht hB2) (fun r h25 => ?_)
    obtain ⟨t25, s26⟩ := r
    obtain ⟨a26, h25⟩ := h25
    dsimp only at a26 h25 ⊢
    refine t_ite (fun c => t_some ⟨a24.trans (a26.mono bT_le_bL), Or.inl ⟨rfl, fw_of h25 c⟩⟩) (fun c25 => ?_)
    obtain ⟨g26, pr26, cs26, -⟩ := ok_of h25 c25
    have g26 := PL_of g26
    have w26 := cs26.wf g26
    rw [hB2, L24] at w26
    refine fin s26 (a24.trans (a26.mono bT_le_bL)) g26 ((pr16.trans h24.pr).trans pr26) (KL_T pr26 a26 k24) (by rw [bT_157 a26, c24]) (by rw [bT_18 a26, l24]) (by rw [bL_15 (a26.mono bT_le_bL), X24]) ?_ ?_ (Or.inr ?_)
    · rw [bT_156 a26, h24.get, if_neg (by omega), bT_156 a16, f1]
    · rw [bT_156 a26, h24.get, if_neg (by omega), bT_156 a16, f2]
    · rw [bT_156 a26, h24.get, if_pos (by omega)]
      exact w26
