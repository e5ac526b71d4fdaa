/-! The reference reads: LINES, whole texts. -/
noncomputable def bC (k b : Nat) : Bool := (Nat.ble 158 k && Nat.ble k 159) || (Nat.beq k 152 && ((Nat.ble 7 b && Nat.ble b 9) || Nat.ble 12 b && Nat.ble b 14))
theorem bC_le_bL {t : Nat} : ∀ k b, bC k b = true → bL t k b = true := by
  intro k b h
  simp only [bL, bE, bF, bC, Bool.or_eq_true, Bool.and_eq_true, Nat.ble_eq, Nat.beq_eq] at *
  omega
theorem b12_le_bC : ∀ k b, b12 k b = true → bC k b = true := by
  intro k b h
  simp only [b12, bC, Bool.or_eq_true, Bool.and_eq_true, Nat.ble_eq, Nat.beq_eq] at *
  omega
theorem OF_le_bC : ∀ k b, (Nat.beq k 152 && (Nat.beq b 12 || Nat.beq b 13 || Nat.beq b 14)) = true → bC k b = true := by
  intro k b h
  simp only [bC, Bool.or_eq_true, Bool.and_eq_true, Nat.ble_eq, Nat.beq_eq] at *
  omega
theorem b13_le_bC : ∀ k b, (Nat.beq k 152 && Nat.beq b 13) = true → bC k b = true := by
  intro k b h
  simp only [bC, Bool.or_eq_true, Bool.and_eq_true, Nat.ble_eq, Nat.beq_eq] at *
  omega
/-- a court's text is being read -/
noncomputable def CC (s : wS) : Prop := TP s ∧ (0 ≤ (s.1 152 7).toInt ∧ (s.1 152 7).toInt ≤ 8) ∧ (0 ≤ (s.1 152 8).toInt ∧ (s.1 152 8).toInt ≤ 8) ∧ (0 ≤ (s.1 152 9).toInt ∧ (s.1 152 9).toInt ≤ 8)
theorem CC_of {s s' : wS} (h : OF s s') (g : CC s) : CC s' := by
  have h1 := h.tp g.1
  unfold CC at *
  rw [h.1 152 7 rfl, h.1 152 8 rfl, h.1 152 9 rfl]
  exact ⟨h1, g.2⟩
theorem CC_eq {s s' : wS} (h1 : s'.1 152 1 = s.1 152 1) (h12 : s'.1 152 12 = s.1 152 12) (h7 : s'.1 152 7 = s.1 152 7) (h8 : s'.1 152 8 = s.1 152 8) (h9 : s'.1 152 9 = s.1 152 9) (g : CC s) : CC s' := by
  unfold CC TP at *
  rw [h1, h12, h7, h8, h9]
  exact g
theorem t_2x {x y : Int32} (h : 0 ≤ x.toInt) (h2 : x.toInt < 8) (hy : 0 ≤ y.toInt) (hy2 : y.toInt < 2) : ((2 * x) + y).toInt = 2 * x.toInt + y.toInt := by
  have e := t_2p h (by omega)
  rw [t_add (by omega) (by omega), e]
theorem wX11_isRoadHere_h2_T : ∀ (n : Nat) {x1 : Int32} {s : wS}, CC s → (s.1 152 8).toInt < 8 → 0 ≤ x1.toInt → x1.toInt ≤ 2 → 2 - x1.toInt < (n : Int) → Tot (wX11_isRoadHere_h2 n x1 s) (Sum.elim (fun r => wA bC s r ∧ CC r ∧ (r.1 152 8).toInt < 8) (fun r => wA bC s r ∧ FW r)) := by
  intro n
  induction n with
  | zero => intro x1 s g h8 h0 h2 hm; exfalso; omega
  | succ n ih =>
    intro x1 s g h8 h0 h2 hm
    rw [wX11_isRoadHere_h2]
    refine t_ite (fun c => ?_) (fun _ => t_some ⟨wA.refl, g, h8⟩)
    have hc := t_lt c
    rw [show (2 : Int32).toInt = 2 from rfl] at hc
    refine t_bind (wX11_numberHere_T g.1) (fun r h => ?_)
    obtain ⟨t2, s3⟩ := r
    obtain ⟨o, h⟩ := h
    dsimp only at o h ⊢
    have ac := o.1.mono OF_le_bC
    refine t_ite (fun c => t_some ⟨ac, fw_of h c⟩) (fun _ => ?_)
    have g3 := CC_of o g
    have e8 : s3.1 152 8 = s.1 152 8 := o.1 152 8 rfl
    have g8 := g3.2.2.1
    have e := t_2x (x := s3.1 152 8) (y := x1) g8.1 (by rw [e8]; exact h8) h0 hc
    refine t_bind (t_stI (B := bC) (n := 16) (by omega) (by rw [e, e8]; omega) (fun _ => rfl)) (fun s6 h6 => ?_)
    have k6 : s6.1 152 = s3.1 152 := by rw [h6.2, wupI_n (by omega)]
    have e1 := t_p1 (x := x1) h0 (by omega)
    refine t_mono (ih (x1 := x1 + 1) (s := s6) (CC_eq (by rw [k6]) (by rw [k6]) (by rw [k6]) (by rw [k6]) (by rw [k6]) g3) (by rw [k6, e8]; exact h8) (by omega) (by omega) (by omega)) (fun r hr => ?_)
    rcases r with r | r
    · exact ⟨(ac.trans h6.1).trans hr.1, hr.2⟩
    · exact ⟨(ac.trans h6.1).trans hr.1, hr.2⟩
theorem t_wf2 {x : Int32} (h : 0 ≤ x.toInt) : 2 - x.toInt < ((wFuel : Nat) : Int) := by
  have e : ((wFuel : Nat) : Int) = 1099511627776 := rfl
  omega
theorem wX11_isRoadHere_T {s : wS} (g : CC s) (h8 : (s.1 152 8).toInt < 8) : Tot (wX11_isRoadHere s) (fun r => wA bC s r.2 ∧ ((r.1 = 0 ∧ FW r.2) ∨ (r.1 = 1 ∧ CC r.2))) := by
  unfold wX11_isRoadHere
  refine t_bind (wX11_isRoadHere_h2_T _ g h8 (by decide) (by decide) (t_wf2 (by decide))) (fun z hz => ?_)
  rcases z with s8 | s11
  · obtain ⟨a, g8, l8⟩ := hz
    refine t_bind (t_pfI (B := bC) rfl) (fun s10 h10 => t_some ⟨a.trans h10.1, Or.inr ⟨rfl, ?_⟩⟩)
    show CC s10
    obtain ⟨p1, p7, p8, p9⟩ := g8
    have e := t_p1 (x := s8.1 152 8) p8.1 (by omega)
    unfold CC TP at *
    rw [h10.2, wup_same, wup_nb (by omega), wup_nb (by omega), wup_nb (by omega), wup_nb (by omega)]
    exact ⟨p1, p7, by omega, p9⟩
  · exact t_some ⟨hz.1, Or.inl ⟨rfl, hz.2⟩⟩
theorem wX11_isManHere_h2_T : ∀ (n : Nat) {x1 : Int32} {s : wS}, CC s → (s.1 152 9).toInt < 8 → 0 ≤ x1.toInt → x1.toInt ≤ 2 → 2 - x1.toInt < (n : Int) → Tot (wX11_isManHere_h2 n x1 s) (Sum.elim (fun r => wA bC s r ∧ CC r ∧ (r.1 152 9).toInt < 8) (fun r => wA bC s r ∧ FW r)) := by
  intro n
  induction n with
  | zero => intro x1 s g h8 h0 h2 hm; exfalso; omega
  | succ n ih =>
    intro x1 s g h8 h0 h2 hm
    rw [wX11_isManHere_h2]
    refine t_ite (fun c => ?_) (fun _ => t_some ⟨wA.refl, g, h8⟩)
    have hc := t_lt c
    rw [show (2 : Int32).toInt = 2 from rfl] at hc
    have j : ∀ y1 y2, Tot (wX11_isManHere_j20 (wX11_isManHere_h2 n) x1 y1 y2 s) (Sum.elim (fun r => wA bC s r ∧ CC r ∧ (r.1 152 9).toInt < 8) (fun r => wA bC s r ∧ FW r)) := by
      intro y1 y2
      unfold wX11_isManHere_j20
      refine t_bind (wX11_numberHere_T g.1) (fun r h => ?_)
      obtain ⟨t2, s3⟩ := r
      obtain ⟨o, h⟩ := h
      dsimp only at o h ⊢
      have ac := o.1.mono OF_le_bC
      refine t_ite (fun c => t_some ⟨ac, fw_of h c⟩) (fun _ => ?_)
      have g3 := CC_of o g
      have e8 : s3.1 152 9 = s.1 152 9 := o.1 152 9 rfl
      have g8 := g3.2.2.2
      have e := t_2x (x := s3.1 152 9) (y := x1) g8.1 (by rw [e8]; exact h8) h0 hc
      refine t_bind (t_stI (B := bC) (n := 16) (by omega) (by rw [e, e8]; omega) (fun _ => rfl)) (fun s6 h6 => ?_)
      have k6 : s6.1 152 = s3.1 152 := by rw [h6.2, wupI_n (by omega)]
      have e1 := t_p1 (x := x1) h0 (by omega)
      refine t_mono (ih (x1 := x1 + 1) (s := s6) (CC_eq (by rw [k6]) (by rw [k6]) (by rw [k6]) (by rw [k6]) (by rw [k6]) g3) (by rw [k6, e8]; exact h8) (by omega) (by omega) (by omega)) (fun r hr => ?_)
      rcases r with r | r
      · exact ⟨(ac.trans h6.1).trans hr.1, hr.2⟩
      · exact ⟨(ac.trans h6.1).trans hr.1, hr.2⟩
    exact t_ite (fun _ => j _ _) (fun _ => j _ _)
theorem wX11_isManHere_T {s : wS} (g : CC s) (h8 : (s.1 152 9).toInt < 8) : Tot (wX11_isManHere s) (fun r => wA bC s r.2 ∧ ((r.1 = 0 ∧ FW r.2) ∨ (r.1 = 1 ∧ CC r.2))) := by
  unfold wX11_isManHere
  refine t_bind (wX11_isManHere_h2_T _ g h8 (by decide) (by decide) (t_wf2 (by decide))) (fun z hz => ?_)
  rcases z with s8 | s11
  · obtain ⟨a, g8, l8⟩ := hz
    refine t_bind (t_pfI (B := bC) rfl) (fun s10 h10 => t_some ⟨a.trans h10.1, Or.inr ⟨rfl, ?_⟩⟩)
    show CC s10
    obtain ⟨p1, p7, p8, p9⟩ := g8
    have e := t_p1 (x := s8.1 152 9) p9.1 (by omega)
    unfold CC TP at *
    rw [h10.2, wup_same, wup_nb (by omega), wup_nb (by omega), wup_nb (by omega), wup_nb (by omega)]
    exact ⟨p1, p7, p8, by omega⟩
  · exact t_some ⟨hz.1, Or.inl ⟨rfl, hz.2⟩⟩
/-- a fault told, passed on -/
theorem fails_rt {B : Nat → Nat → Bool} {x1 x2 : Int32} {s0 s : wS} {Q : wS → Prop} (a : wA B s0 s) (hB : ∀ k b, (Nat.beq k 152 && Nat.beq b 13) = true → B k b = true) (h1 : 0 ≤ x1.toInt) (h2 : x1.toInt ≤ 10) (h3 : 0 ≤ x2.toInt) (h4 : x2.toInt ≤ 1000) : Tot ((wX11_fails x1 x2 s).bind fun (t25, s26) => (wrtZ t25).bind fun t28 => some (t28, s26)) (fun r => wA B s0 r.2 ∧ ((r.1 = 0 ∧ FW r.2) ∨ (r.1 = 1 ∧ Q r.2))) := by
  refine t_bind wX11_fails_T (fun r hf => ?_)
  obtain ⟨t, u⟩ := r
  dsimp only at hf ⊢
  exact t_bind (t_rtZ (Or.inl hf.2.1)) (fun t50 h50 => t_some ⟨a.trans (hf.1.mono hB), Or.inl ⟨by show t50 = 0; rw [h50, hf.2.1], hf.2.2 h1 h2 h3 h4⟩⟩)
theorem t_rt {B : Nat → Nat → Bool} {s0 s : wS} {x : Option (Int32 × wS)} {Q : wS → Prop} (a : wA B s0 s) (h : Tot x (fun r => wA B s r.2 ∧ ((r.1 = 0 ∧ FW r.2) ∨ (r.1 = 1 ∧ Q r.2)))) : Tot (x.bind fun (t25, s26) => (wrtZ t25).bind fun t28 => some (t28, s26)) (fun r => wA B s0 r.2 ∧ ((r.1 = 0 ∧ FW r.2) ∨ (r.1 = 1 ∧ Q r.2))) := by
  refine t_bind h (fun r hr => ?_)
  obtain ⟨t, u⟩ := r
  dsimp only at hr ⊢
  have hz : t = 0 ∨ t = 1 := hr.2.elim (fun q => Or.inl q.1) (fun q => Or.inr q.1)
  exact t_bind (t_rtZ hz) (fun t50 h50 => t_some ⟨a.trans hr.1, by show (t50 = 0 ∧ _) ∨ (t50 = 1 ∧ _); rw [h50]; exact hr.2⟩)
theorem wX11_courtLineHere_T {x1 : Int32} {s : wS} (g : CC s) (hx : 0 ≤ x1.toInt) (hx2 : x1.toInt ≤ 1000) : Tot (wX11_courtLineHere x1 s) (fun r => wA bC s r.2 ∧ ((r.1 = 0 ∧ FW r.2) ∨ (r.1 = 1 ∧ CC r.2))) := by
  unfold wX11_courtLineHere
  refine t_bind (wX11_isWord_T g.1) (fun r h1 => ?_)
  obtain ⟨t1, s2⟩ := r
  obtain ⟨o1, -, -⟩ := h1
  dsimp only at o1 ⊢
  have g2 := CC_of o1.of g
  have a2 := o1.1.mono b12_le_bC
  refine t_ite (fun _ => ?_) (fun _ => t_ite (fun _ => fails_rt a2 b13_le_bC (by decide) (by decide) hx hx2) (fun c7 => ?_))
  · refine t_bind (wX11_isWord_T g2.1) (fun r h5 => ?_)
    obtain ⟨t5, s6⟩ := r
    obtain ⟨o6, -, -⟩ := h5
    dsimp only at o6 ⊢
    have g6 := CC_of o6.of g2
    have a6 := a2.trans (o6.1.mono b12_le_bC)
    have pass : Tot (wX11_passWord s6) (fun r => ON s6 r ∧ CC r) := t_mono (wX11_passWord_T g6.1) (fun r h => ⟨h.1, CC_of h.1.of g6⟩)
    refine t_ite (fun c5 => ?_) (fun c5 => ?_)
    · unfold wX11_courtLineHere_j73
      refine t_ite (fun _ => fails_rt a6 b13_le_bC (by decide) (by decide) hx hx2) (fun c8 => ?_)
      refine t_bind pass (fun s15 h15 => t_ite (fun _ => ?_) (fun c => absurd c5 c))
      have q := g6.2.2.2
      have q8 := t_nq c8
      rw [show (8 : Int32).toInt = 8 from rfl] at q8
      exact t_rt (a6.trans (h15.1.1.mono b12_le_bC)) (wX11_isManHere_T h15.2 (by rw [h15.1.1 152 9 rfl]; omega))
    · unfold wX11_courtLineHere_j73
      refine t_ite (fun _ => fails_rt a6 b13_le_bC (by decide) (by decide) hx hx2) (fun c8 => ?_)
      refine t_bind pass (fun s15 h15 => t_ite (fun c => absurd c c5) (fun _ => ?_))
      have q := g6.2.2.1
      have q8 := t_nq c8
      rw [show (8 : Int32).toInt = 8 from rfl] at q8
      exact t_rt (a6.trans (h15.1.1.mono b12_le_bC)) (wX11_isRoadHere_T h15.2 (by rw [h15.1.1 152 8 rfl]; omega))
  · refine t_bind (wX11_passWord_T g2.1) (fun s32 h32 => ?_)
    have g32 := CC_of h32.1.of g2
    have a32 := a2.trans (h32.1.1.mono b12_le_bC)
    refine t_bind (wX11_numberHere_T g32.1) (fun r h => ?_)
    obtain ⟨t34, s35⟩ := r
    obtain ⟨o, h⟩ := h
    dsimp only at o h ⊢
    have a35 := a32.trans (o.1.mono OF_le_bC)
    refine t_ite (fun c => t_some ⟨a35, Or.inl ⟨rfl, fw_of h c⟩⟩) (fun c => ?_)
    have g35 := CC_of o g32
    have hn := (ok_of h c).2
    rw [show (1 : Int32).toInt = 1 from rfl, show (8 : Int32).toInt = 8 from rfl] at hn
    refine t_bind (t_pfI (B := bC) rfl) (fun s38 h38 => t_some ⟨a35.trans h38.1, Or.inr ⟨rfl, ?_⟩⟩)
    show CC s38
    obtain ⟨p1, p7, p8, p9⟩ := g35
    unfold CC TP at *
    rw [h38.2, wup_same, wup_nb (by omega), wup_nb (by omega), wup_nb (by omega), wup_nb (by omega)]
    exact ⟨p1, ⟨by omega, hn.2⟩, p8, p9⟩
