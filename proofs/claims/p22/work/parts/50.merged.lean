section
/-! The reference reads: bytes, WORDS, NUMBERS. -/
noncomputable def b12 (k b : Nat) : Bool := Nat.beq k 152 && Nat.beq b 12
noncomputable def bF (k b : Nat) : Bool := Nat.beq k 152 && (Nat.beq b 12 || Nat.beq b 13 || Nat.beq b 14 || Nat.beq b 16)
noncomputable def bE (t k b : Nat) : Bool := (Nat.beq k 154 && (Nat.ble (400 * t) b && Nat.blt b (400 * t + 400))) || (Nat.beq k 155 && Nat.beq b t) || bF k b
noncomputable def bL (t k b : Nat) : Bool := bE t k b || (Nat.beq k 156 && (Nat.ble (60 * t) b && Nat.blt b (60 * t + 60))) || (Nat.beq k 157 && Nat.beq b t) || (Nat.ble 158 k && Nat.ble k 160) || (Nat.beq k 152 && ((Nat.ble 7 b && Nat.ble b 9) || Nat.beq b 17 || Nat.beq b 18 || Nat.beq b 20))
theorem b12_le_bF : ∀ k b, b12 k b = true → bF k b = true := by
  intro k b h
  simp only [b12, bF, Bool.or_eq_true, Bool.and_eq_true, Nat.ble_eq, Nat.beq_eq] at *
  omega
theorem bF_le_bE {t : Nat} : ∀ k b, bF k b = true → bE t k b = true := by
  intro k b h
  unfold bE
  rw [h, Bool.or_true]
theorem bE_le_bL {t : Nat} : ∀ k b, bE t k b = true → bL t k b = true := by
  intro k b h
  unfold bL
  rw [h, Bool.true_or, Bool.true_or, Bool.true_or, Bool.true_or]
theorem bF_le_bL {t : Nat} : ∀ k b, bF k b = true → bL t k b = true := fun k b h => bE_le_bL k b (bF_le_bE k b h)
/-- a place of a row -/
theorem t_st1 {B : Nat → Nat → Bool} {s : wS} {k n : Nat} {i v : Int32} (h0 : 0 ≤ i.toInt) (h1 : i.toInt < n) (hB : B k i.toNatClampNeg = true) : Tot (wstI s k n i v) (fun s' => wA B s s' ∧ s' = wupI s k i.toNatClampNeg v) := by
  refine ⟨_, ?_, wA_I hB, rfl⟩
  unfold wstI
  rw [if_neg (t_ix h0 h1)]
/-- the text is being read -/
noncomputable def PJ (oz : Int32 → Int) (t : Nat) (s : wS) : Prop := (0 ≤ (s.1 152 1).toInt ∧ (s.1 152 1).toInt ≤ 400) ∧ (0 ≤ (s.1 152 12).toInt ∧ (s.1 152 12).toInt ≤ (s.1 152 1).toInt) ∧ (s.1 152 15).toInt = t ∧ 0 ≤ (s.1 155 t).toInt ∧ 0 ≤ oz (s.1 152 20) ∧ (s.1 155 t).toInt + oz (s.1 152 20) ≤ (s.1 152 12).toInt ∧ (0 ≤ (s.1 152 16).toInt ∧ (s.1 152 16).toInt ≤ 60)
noncomputable abbrev PI (t : Nat) (s : wS) : Prop := PJ Int32.toInt t s
noncomputable def z0 (_ : Int32) : Int := 0
noncomputable abbrev PL (t : Nat) (s : wS) : Prop := PJ z0 t s
/-- only the place, the fault, the NUMBER, what was counted -/
noncomputable def sF (s s' : wS) : Prop := s'.1 152 1 = s.1 152 1 ∧ s'.1 152 15 = s.1 152 15 ∧ s'.1 152 20 = s.1 152 20 ∧ s'.1 155 = s.1 155 ∧ s'.1 153 = s.1 153 ∧ s'.1 154 = s.1 154 ∧ s'.1 160 = s.1 160
theorem sF_of {s s' : wS} (h : wA bF s s') : sF s s' := ⟨h 152 1 rfl, h 152 15 rfl, h 152 20 rfl, funext fun b => h 155 b rfl, funext fun b => h 153 b rfl, funext fun b => h 154 b rfl, funext fun b => h 160 b rfl⟩
theorem PI_F {oz : Int32 → Int} {t : Nat} {s s' : wS} (h : wA bF s s') (g : PJ oz t s) (hN : (s.1 152 12).toInt ≤ (s'.1 152 12).toInt) (hT : (s'.1 152 12).toInt ≤ (s.1 152 1).toInt) (hM : 0 ≤ (s'.1 152 16).toInt ∧ (s'.1 152 16).toInt ≤ 60) : PJ oz t s' := by
  obtain ⟨q1, q2, q3, q4, -⟩ := sF_of h
  obtain ⟨g1, g2, g3, g4, g5, g6, g7⟩ := g
  unfold PJ
  rw [q1, q2, q3, q4]
  exact ⟨g1, ⟨by omega, hT⟩, g3, g4, g5, by omega, hM⟩
theorem PI_12 {oz : Int32 → Int} {t : Nat} {s s' : wS} (h : wA b12 s s') (g : PJ oz t s) (hN : (s.1 152 12).toInt ≤ (s'.1 152 12).toInt) (hT : (s'.1 152 12).toInt ≤ (s.1 152 1).toInt) : PJ oz t s' :=
  PI_F (h.mono b12_le_bF) g hN hT (by rw [h 152 16 rfl]; exact g.2.2.2.2.2.2)
theorem t_p1 {x : Int32} (h : 0 ≤ x.toInt) (h2 : x.toInt ≤ 100000) : (x + 1).toInt = x.toInt + 1 := t_pl rfl (by omega) (by omega) h h2
/-- where the text can be read -/
noncomputable def TP (s : wS) : Prop := (0 ≤ (s.1 152 1).toInt ∧ (s.1 152 1).toInt ≤ 400) ∧ (0 ≤ (s.1 152 12).toInt ∧ (s.1 152 12).toInt ≤ (s.1 152 1).toInt)
theorem PJ.tp {oz : Int32 → Int} {t : Nat} {s : wS} (h : PJ oz t s) : TP s := ⟨h.1, h.2.1⟩
theorem TP_12 {s s' : wS} (h : wA b12 s s') (g : TP s) (hN : (s.1 152 12).toInt ≤ (s'.1 152 12).toInt) (hT : (s'.1 152 12).toInt ≤ (s.1 152 1).toInt) : TP s' := by
  unfold TP at *
  rw [h 152 1 rfl]
  exact ⟨g.1, by omega, hT⟩
/-- it only went on along the text -/
noncomputable def ON (s s' : wS) : Prop := wA b12 s s' ∧ (s.1 152 12).toInt ≤ (s'.1 152 12).toInt ∧ (s'.1 152 12).toInt ≤ (s.1 152 1).toInt
theorem ON.refl {s : wS} (h : TP s) : ON s s := ⟨wA.refl, by omega, h.2.2⟩
theorem ON.trans {s t u : wS} (h : ON s t) (g : ON t u) : ON s u := ⟨h.1.trans g.1, by have := h.2.1; have := g.2.1; omega, by have := g.2.2; rw [h.1 152 1 rfl] at this; exact this⟩
theorem ON.tp {s s' : wS} (h : ON s s') (g : TP s) : TP s' := TP_12 h.1 g h.2.1 h.2.2
theorem ON.pi {oz : Int32 → Int} {t : Nat} {s s' : wS} (h : ON s s') (g : PJ oz t s) : PJ oz t s' := PI_12 h.1 g h.2.1 h.2.2
/-- no blank stands here -/
noncomputable def SB (s : wS) : Prop := (s.1 152 12).toInt < (s.1 152 1).toInt → ¬ s.1 153 (s.1 152 12).toNatClampNeg = 32
theorem wX11_see_h0_T : ∀ (n : Nat) {s : wS}, TP s → (s.1 152 1).toInt - (s.1 152 12).toInt < (n : Int) → Tot (wX11_see_h0 n s) (fun r => ON s r ∧ SB r ∧ (SB s → r = s)) := by
  intro n
  induction n with
  | zero => intro s g hm; exfalso; have := g.2; omega
  | succ n ih =>
    intro s g hm
    rw [wX11_see_h0]
    refine t_ite (fun c => ?_) (fun c => t_some ⟨ON.refl g, fun q => absurd (Int32.lt_iff_toInt_lt.2 q) c, fun _ => rfl⟩)
    have hc := t_lt c
    obtain ⟨g1, g2⟩ := g
    refine t_bind (t_ldI (n := 400) g2.1 (by omega)) (fun t2 h2 => t_ite (fun c2 => ?_) (fun c2 => t_some ⟨ON.refl ⟨g1, g2⟩, fun _ => by rw [← h2]; exact c2, fun _ => rfl⟩))
    refine t_bind (t_pfI (B := b12) rfl) (fun s4 h4 => ?_)
    have e : (s4.1 152 12).toInt = (s.1 152 12).toInt + 1 := by rw [h4.2, wup_same]; exact t_p1 g2.1 (by omega)
    have o : ON s s4 := ⟨h4.1, by omega, by omega⟩
    exact t_mono (ih (o.tp ⟨g1, g2⟩) (by rw [h4.1 152 1 rfl]; omega)) (fun r h => ⟨o.trans h.1, h.2.1, fun q => absurd (h2 ▸ c2) (q hc)⟩)
theorem t_and255 (x : Int32) : (x &&& 255).toInt ≠ -1 := by
  intro h
  have e : x &&& 255 = -1 := Int32.toInt_inj.1 h
  have e2 : (x &&& 255) &&& 256 = 0 := by
    rw [Int32.and_assoc]
    have : (255 : Int32) &&& 256 = 0 := by decide
    rw [this, Int32.and_zero]
  rw [e] at e2
  exact absurd e2 (by decide)
theorem wX11_see_T {s : wS} (g : TP s) : Tot (wX11_see s) (fun r => ON s r.2 ∧ (r.1.toInt ≠ -1 → (r.2.1 152 12).toInt < (r.2.1 152 1).toInt) ∧ SB r.2 ∧ (SB s → r.2 = s)) := by
  unfold wX11_see wX11_see_j38
  refine t_bind (wX11_see_h0_T _ g (by have e : ((wFuel : Nat) : Int) = 1099511627776 := rfl; have := g.1; have := g.2; omega)) (fun s6 h6 => ?_)
  obtain ⟨h6, hb, he⟩ := h6
  have g6 := h6.tp g
  refine t_ite (fun c => ?_) (fun c => t_some ⟨h6, fun h => absurd rfl h, hb, he⟩)
  have hc := t_lt c
  exact t_bind (t_ldI (n := 400) g6.2.1 (by have := g6.1; omega)) (fun t8 _ => t_some ⟨h6, fun _ => hc, hb, he⟩)
theorem wX11_isDigit_T {x1 : Int32} {s : wS} (g : TP s) (h : 0 ≤ x1.toInt) : Tot (wX11_isDigit x1 s) (fun t => t = 0 ∨ (t = 1 ∧ x1.toInt < (s.1 152 1).toInt)) := by
  unfold wX11_isDigit
  refine t_ite (fun c => ?_) (fun _ => t_some (Or.inl rfl))
  have hc := t_lt c
  have := g.1
  refine t_bind (t_ldI (n := 400) h (by omega)) (fun t2 _ => t_ite (fun _ => t_some (Or.inl rfl)) (fun _ => ?_))
  exact t_bind (t_ldI (n := 400) h (by omega)) (fun t4 _ => t_ite (fun _ => t_some (Or.inl rfl)) (fun _ => t_some (Or.inr ⟨rfl, hc⟩)))
/-- a small letter at a place -/
noncomputable def LTx (s : wS) (i : Nat) : Prop := 97 ≤ (s.1 153 i).toInt ∧ (s.1 153 i).toInt ≤ 122
theorem wX11_isLetter_T {x1 : Int32} {s : wS} (g : TP s) (h : 0 ≤ x1.toInt) : Tot (wX11_isLetter x1 s) (fun t => (t = 0 ∧ ¬ (x1.toInt < (s.1 152 1).toInt ∧ LTx s x1.toNatClampNeg)) ∨ (t = 1 ∧ x1.toInt < (s.1 152 1).toInt ∧ LTx s x1.toNatClampNeg)) := by
  unfold wX11_isLetter
  refine t_ite (fun c => ?_) (fun c => t_some (Or.inl ⟨rfl, fun q => c (Int32.lt_iff_toInt_lt.2 q.1)⟩))
  have hc := t_lt c
  have := g.1
  have e97 : (97 : Int32).toInt = 97 := rfl
  have e122 : (122 : Int32).toInt = 122 := rfl
  refine t_bind (t_ldI (n := 400) h (by omega)) (fun t2 h2 => t_ite (fun c2 => t_some (Or.inl ⟨rfl, fun q => ?_⟩)) (fun c2 => ?_))
  · have h3 := t_lt c2
    rw [e97, h2] at h3
    have h4 := q.2.1
    omega
  · refine t_bind (t_ldI (n := 400) h (by omega)) (fun t4 h4 => t_ite (fun c4 => t_some (Or.inl ⟨rfl, fun q => ?_⟩)) (fun c4 => t_some (Or.inr ⟨rfl, hc, ?_, ?_⟩)))
    · have h3 := t_lt c4
      rw [e122, h4] at h3
      have h5 := q.2.2
      omega
    · have h3 := t_ge c2
      rw [e97, h2] at h3
      exact h3
    · have h3 := t_ge c4
      rw [e122, h4] at h3
      exact h3
/-- a WORD stands here -/
noncomputable def LT (s : wS) : Prop := (s.1 152 12).toInt < (s.1 152 1).toInt ∧ LTx s (s.1 152 12).toNatClampNeg
theorem wX11_isWord_h10_T {x1 : Int64} {s : wS} (g : TP s) : ∀ (n : Nat) {x3 : Int64} {x5 : Int32}, 0 ≤ x5.toInt → (0 < x5.toInt → LT s) → (s.1 152 12).toInt + x5.toInt ≤ (s.1 152 1).toInt → (s.1 152 1).toInt - (s.1 152 12).toInt - x5.toInt < (n : Int) → Tot (wX11_isWord_h10 x1 s n x3 x5) (fun r => 0 < r.2.toInt → LT s) := by
  intro n
  induction n with
  | zero => intro x3 x5 h0 hL hT hm; exfalso; omega
  | succ n ih =>
    intro x3 x5 h0 hL hT hm
    rw [wX11_isWord_h10]
    obtain ⟨g1, g2⟩ := g
    have e : (s.1 152 12 + x5).toInt = (s.1 152 12).toInt + x5.toInt := t_add (by omega) (by omega)
    refine t_bind (wX11_isLetter_T ⟨g1, g2⟩ (by omega)) (fun t4 h4 => t_ite (fun _ => t_some hL) (fun c => ?_))
    have h5 : (s.1 152 12 + x5).toInt < (s.1 152 1).toInt ∧ LTx s (s.1 152 12 + x5).toNatClampNeg := by
      rcases h4 with h | h
      · exact absurd h.1 c
      · exact h.2
    have hL2 : LT s := by
      by_cases hx : 0 < x5.toInt
      · exact hL hx
      · have e0 : x5.toInt = 0 := by omega
        have en : (s.1 152 12 + x5).toNatClampNeg = (s.1 152 12).toNatClampNeg := by unfold Int32.toNatClampNeg; rw [e, e0]; simp
        rw [en] at h5
        exact ⟨by omega, h5.2⟩
    have e1 := t_p1 (x := x5) h0 (by omega)
    refine t_ite (fun _ => ?_) (fun _ => ?_)
    · refine t_bind (t_ldI (n := 400) (by omega) (by omega)) (fun t8 _ => ?_)
      unfold wX11_isWord_j50
      exact ih (by omega) (fun _ => hL2) (by omega) (by omega)
    · unfold wX11_isWord_j50
      exact ih (by omega) (fun _ => hL2) (by omega) (by omega)
theorem wX11_isWord_T {x1 : Int64} {s : wS} (g : TP s) : Tot (wX11_isWord x1 s) (fun r => ON s r.2 ∧ (r.1 = 0 ∨ (r.1 = 1 ∧ LT r.2)) ∧ (SB s → r.2 = s)) := by
  unfold wX11_isWord
  refine t_bind (wX11_see_T g) (fun r h => ?_)
  obtain ⟨t1, s2⟩ := r
  have o := h.1
  dsimp only at o ⊢
  have g2 := o.tp g
  refine t_bind (wX11_isWord_h10_T g2 _ (by decide) (fun q => absurd q (by decide)) (by rw [t_i0]; have := g2.2; omega) (by have e : ((wFuel : Nat) : Int) = 1099511627776 := rfl; rw [t_i0]; have := g2.1; have := g2.2; omega)) (fun r h10 => ?_)
  obtain ⟨t10, t11⟩ := r
  dsimp only at h10 ⊢
  have hb := h.2.2.2
  refine t_ite (fun c => ?_) (fun _ => t_some ⟨o, Or.inl rfl, hb⟩)
  have hc := t_lt c
  rw [t_i0] at hc
  exact t_ite (fun _ => t_ite (fun _ => t_some ⟨o, Or.inr ⟨rfl, h10 hc⟩, hb⟩) (fun _ => t_some ⟨o, Or.inl rfl, hb⟩)) (fun _ => t_some ⟨o, Or.inl rfl, hb⟩)
theorem wX11_passWord_h0_T : ∀ (n : Nat) {s : wS}, TP s → (s.1 152 1).toInt - (s.1 152 12).toInt < (n : Int) → Tot (wX11_passWord_h0 n s) (fun r => ON s r ∧ (LT s → (s.1 152 12).toInt < (r.1 152 12).toInt)) := by
  intro n
  induction n with
  | zero => intro s g hm; exfalso; have := g.2; omega
  | succ n ih =>
    intro s g hm
    rw [wX11_passWord_h0]
    refine t_bind (wX11_isLetter_T g g.2.1) (fun t1 h1 => t_ite (fun c => t_some ⟨ON.refl g, fun q => ?_⟩) (fun c => ?_))
    · rcases h1 with h | h
      · exact absurd q h.2
      · rw [h.1] at c; exact absurd c (by decide)
    · have h2 : (s.1 152 12).toInt < (s.1 152 1).toInt := by
        rcases h1 with h | h
        · exact absurd h.1 c
        · exact h.2.1
      obtain ⟨g1, g2⟩ := g
      refine t_bind (t_pfI (B := b12) rfl) (fun s4 h4 => ?_)
      have e : (s4.1 152 12).toInt = (s.1 152 12).toInt + 1 := by rw [h4.2, wup_same]; exact t_p1 g2.1 (by omega)
      have o : ON s s4 := ⟨h4.1, by omega, by omega⟩
      exact t_mono (ih (o.tp ⟨g1, g2⟩) (by rw [h4.1 152 1 rfl]; omega)) (fun r h => ⟨o.trans h.1, fun _ => by have := h.1.2.1; omega⟩)
theorem t_wf {s : wS} (g : TP s) : (s.1 152 1).toInt - (s.1 152 12).toInt < ((wFuel : Nat) : Int) := by
  have e : ((wFuel : Nat) : Int) = 1099511627776 := rfl
  have := g.1
  have := g.2
  omega
theorem wX11_passWord_T {s : wS} (g : TP s) : Tot (wX11_passWord s) (fun r => ON s r ∧ (LT s → (s.1 152 12).toInt < (r.1 152 12).toInt)) := by
  unfold wX11_passWord
  exact t_bind (wX11_passWord_h0_T _ g (t_wf g)) (fun s6 h => t_some h)
theorem wX11_takesWord_T {x1 : Int64} {s : wS} (g : TP s) : Tot (wX11_takesWord x1 s) (fun r => ON s r.2 ∧ (r.1 = 0 ∨ (r.1 = 1 ∧ (s.1 152 12).toInt < (r.2.1 152 12).toInt))) := by
  unfold wX11_takesWord
  refine t_bind (wX11_isWord_T g) (fun r h => ?_)
  obtain ⟨t1, s2⟩ := r
  obtain ⟨o, h1, -⟩ := h
  dsimp only at o h1 ⊢
  refine t_ite (fun _ => t_some ⟨o, Or.inl rfl⟩) (fun c => ?_)
  have hL : LT s2 := by
    rcases h1 with h | h
    · exact absurd h c
    · exact h.2
  exact t_bind (wX11_passWord_T (o.tp g)) (fun s6 h6 => t_some ⟨o.trans h6.1, Or.inr ⟨rfl, by have := h6.2 hL; have := o.2.1; show (s.1 152 12).toInt < (s6.1 152 12).toInt; omega⟩⟩)
/-- a fault was told -/
noncomputable def FW (s : wS) : Prop := ¬ s.1 152 13 = 0
theorem fw_of {t : Int32} {A B : Prop} (h : (t = 0 ∧ A) ∨ (t = 1 ∧ B)) (c : t = 0) : A := by
  rcases h with q | q
  · exact q.2
  · rw [q.1] at c; exact absurd c (by decide)
theorem ok_of {t : Int32} {A B : Prop} (h : (t = 0 ∧ A) ∨ (t = 1 ∧ B)) (c : ¬ t = 0) : B := (h.resolve_left (fun q => c q.1)).2
theorem wX11_fails_T {x1 x2 : Int32} {s : wS} : Tot (wX11_fails x1 x2 s) (fun r => wA (fun k b => Nat.beq k 152 && Nat.beq b 13) s r.2 ∧ r.1 = 0 ∧ (0 ≤ x1.toInt → x1.toInt ≤ 10 → 0 ≤ x2.toInt → x2.toInt ≤ 1000 → FW r.2)) := by
  unfold wX11_fails
  refine t_ite (fun _ => ?_) (fun c => t_some ⟨wA.refl, rfl, fun _ _ _ _ => c⟩)
  refine t_bind (t_pfI (B := fun k b => Nat.beq k 152 && Nat.beq b 13) rfl) (fun s2 h => t_some ⟨h.1, rfl, fun a1 a2 a3 a4 => ?_⟩)
  show ¬ s2.1 152 13 = 0
  rw [h.2, wup_same]
  intro e
  have e8 : (8 : Int32).toInt = 8 := rfl
  have e1 : (1 : Int32).toInt = 1 := rfl
  have q1 : (8 * x2).toInt = 8 * x2.toInt := by rw [t_mul (by rw [e8]; omega) (by rw [e8]; omega), e8]
  have q2 : (1 + 8 * x2).toInt = 1 + 8 * x2.toInt := by rw [t_add (by rw [e1, q1]; omega) (by rw [e1, q1]; omega), e1, q1]
  have q3 : ((1 + 8 * x2) + x1).toInt = 1 + 8 * x2.toInt + x1.toInt := by rw [t_add (by rw [q2]; omega) (by rw [q2]; omega), q2]
  rw [e, t_i0] at q3
  omega
theorem b13_le_bF : ∀ k b, (Nat.beq k 152 && Nat.beq b 13) = true → bF k b = true := by
  intro k b h
  simp only [bF, Bool.or_eq_true, Bool.and_eq_true, Nat.beq_eq] at *
  omega
theorem fails_F {s s' : wS} (h : wA (fun k b => Nat.beq k 152 && Nat.beq b 13) s s') : wA bF s s' := h.mono b13_le_bF
/-- a NUMBER's digits: its end -/
theorem wX11_numberHere_h34_T {x1 x2 x3 : Int32} : ∀ (n : Nat) {x4 : Int32} {s : wS}, TP s → (s.1 152 1).toInt - (s.1 152 12).toInt < (n : Int) → Tot (wX11_numberHere_h34 x1 x2 x3 n x4 s) (fun r => ON s r.2) := by
  intro n
  induction n with
  | zero => intro x4 s g hm; exfalso; have := g.2; omega
  | succ n ih =>
    intro x4 s g hm
    rw [wX11_numberHere_h34]
    refine t_bind (wX11_isDigit_T g g.2.1) (fun t11 h1 => t_ite (fun c => t_some (ON.refl g)) (fun c => ?_))
    have h2 : (s.1 152 12).toInt < (s.1 152 1).toInt := by
      rcases h1 with h | h
      · exact absurd h c
      · exact h.2
    obtain ⟨g1, g2⟩ := g
    have j : ∀ y, Tot (wX11_numberHere_j75 (wX11_numberHere_h34 x1 x2 x3 n) x1 x2 x3 y s) (fun r => ON s r.2) := by
      intro y
      unfold wX11_numberHere_j75
      refine t_bind (t_pfI (B := b12) rfl) (fun s4 h4 => ?_)
      have e : (s4.1 152 12).toInt = (s.1 152 12).toInt + 1 := by rw [h4.2, wup_same]; exact t_p1 g2.1 (by omega)
      have o : ON s s4 := ⟨h4.1, by omega, by omega⟩
      exact t_mono (ih (o.tp ⟨g1, g2⟩) (by rw [h4.1 152 1 rfl]; omega)) (fun r h => o.trans h)
    refine t_ite (fun _ => ?_) (fun _ => j _)
    exact t_bind (t_ldI (n := 400) g2.1 (by omega)) (fun t15 _ => j _)
/-- behind a digit it has gone on -/
theorem wX11_numberHere_h34_S {x1 x2 x3 x4 : Int32} {s : wS} (g : TP s) (hd : ∃ t, wX11_isDigit (s.1 152 12) s = some t ∧ ¬ t = 0) : Tot (wX11_numberHere_h34 x1 x2 x3 wFuel x4 s) (fun r => ON s r.2 ∧ (s.1 152 12).toInt < (r.2.1 152 12).toInt) := by
  obtain ⟨t, et, ht⟩ := hd
  have e : wFuel = 1099511627775 + 1 := rfl
  rw [e, wX11_numberHere_h34, et]
  show Tot (if t = 0 then some (x4, s) else (if ((s.1 152 12) - x3) < 5 then ((wldI s 153 400 (s.1 152 12)).bind fun t15 => wX11_numberHere_j75 (wX11_numberHere_h34 x1 x2 x3 1099511627775) x1 x2 x3 (((10 * x4) + t15) - 48) s) else (wX11_numberHere_j75 (wX11_numberHere_h34 x1 x2 x3 1099511627775) x1 x2 x3 x4 s))) _
  have h2 : (s.1 152 12).toInt < (s.1 152 1).toInt := by
    obtain ⟨v, ev, hv⟩ := wX11_isDigit_T (x1 := s.1 152 12) g g.2.1
    rw [et] at ev
    obtain rfl := Option.some.inj ev
    rcases hv with h | h
    · exact absurd h ht
    · exact h.2
  obtain ⟨g1, g2⟩ := g
  have j : ∀ y, Tot (wX11_numberHere_j75 (wX11_numberHere_h34 x1 x2 x3 1099511627775) x1 x2 x3 y s) (fun r => ON s r.2 ∧ (s.1 152 12).toInt < (r.2.1 152 12).toInt) := by
    intro y
    unfold wX11_numberHere_j75
    refine t_bind (t_pfI (B := b12) rfl) (fun s4 h4 => ?_)
    have e : (s4.1 152 12).toInt = (s.1 152 12).toInt + 1 := by rw [h4.2, wup_same]; exact t_p1 g2.1 (by omega)
    have o : ON s s4 := ⟨h4.1, by omega, by omega⟩
    exact t_mono (wX11_numberHere_h34_T _ (o.tp ⟨g1, g2⟩) (by rw [h4.1 152 1 rfl]; omega)) (fun r h => ⟨o.trans h, by have := h.2.1; omega⟩)
  refine t_ite (fun c => absurd c ht) (fun _ => t_ite (fun _ => ?_) (fun _ => j _))
  exact t_bind (t_ldI (n := 400) g2.1 (by omega)) (fun t15 _ => j _)
/-- it went on along the text, and told a fault or a NUMBER -/
noncomputable def OF (s s' : wS) : Prop := wA (fun k b => Nat.beq k 152 && (Nat.beq b 12 || Nat.beq b 13 || Nat.beq b 14)) s s' ∧ (s.1 152 12).toInt ≤ (s'.1 152 12).toInt ∧ (s'.1 152 12).toInt ≤ (s.1 152 1).toInt
theorem OF_le_bF : ∀ k b, (Nat.beq k 152 && (Nat.beq b 12 || Nat.beq b 13 || Nat.beq b 14)) = true → bF k b = true := by
  intro k b h
  simp only [bF, Bool.or_eq_true, Bool.and_eq_true, Nat.beq_eq] at *
  omega
theorem b12_le_OF : ∀ k b, b12 k b = true → (Nat.beq k 152 && (Nat.beq b 12 || Nat.beq b 13 || Nat.beq b 14)) = true := by
  intro k b h
  simp only [b12, Bool.or_eq_true, Bool.and_eq_true, Nat.beq_eq] at *
  omega
theorem b13_le_OF : ∀ k b, (Nat.beq k 152 && Nat.beq b 13) = true → (Nat.beq k 152 && (Nat.beq b 12 || Nat.beq b 13 || Nat.beq b 14)) = true := by
  intro k b h
  simp only [Bool.or_eq_true, Bool.and_eq_true, Nat.beq_eq] at *
  omega
theorem ON.of {s s' : wS} (h : ON s s') : OF s s' := ⟨h.1.mono b12_le_OF, h.2⟩
theorem OF.trans {s t u : wS} (h : OF s t) (g : OF t u) : OF s u := ⟨h.1.trans g.1, by have := h.2.1; have := g.2.1; omega, by have := g.2.2; rw [h.1 152 1 rfl] at this; exact this⟩
theorem OF.fails {s t u : wS} (h : OF s t) (g : wA (fun k b => Nat.beq k 152 && Nat.beq b 13) t u) : OF s u := by
  refine ⟨h.1.trans (g.mono b13_le_OF), ?_, ?_⟩
  · rw [g 152 12 rfl]; exact h.2.1
  · rw [g 152 12 rfl]; exact h.2.2
theorem OF.pi {oz : Int32 → Int} {t : Nat} {s s' : wS} (h : OF s s') (g : PJ oz t s) : PJ oz t s' := PI_F (h.1.mono OF_le_bF) g h.2.1 h.2.2 (by rw [h.1 152 16 rfl]; exact g.2.2.2.2.2.2)
theorem OF.tp {s s' : wS} (h : OF s s') (g : TP s) : TP s' := by
  unfold TP at *
  rw [h.1 152 1 rfl]
  exact ⟨g.1, by have := h.2.1; omega, h.2.2⟩
theorem wX11_numberHere_T {x1 x2 : Int32} {s : wS} (g : TP s) : Tot (wX11_numberHere x1 x2 s) (fun r => OF s r.2 ∧ ((r.1 = 0 ∧ FW r.2) ∨ (r.1 = 1 ∧ (s.1 152 12).toInt < (r.2.1 152 12).toInt ∧ x1.toInt ≤ (r.2.1 152 14).toInt ∧ (r.2.1 152 14).toInt ≤ x2.toInt))) := by
  unfold wX11_numberHere
  refine t_bind (wX11_see_T g) (fun r h => ?_)
  obtain ⟨t1, s2⟩ := r
  have o := h.1
  dsimp only at o ⊢
  have g2 := o.tp g
  obtain ⟨t4, e4, h4⟩ := wX11_isDigit_T (x1 := s2.1 152 12) g2 g2.2.1
  rw [e4]
  show Tot (if t4 = 0 then _ else _) _
  refine t_ite (fun _ => ?_) (fun c => ?_)
  · refine t_bind wX11_fails_T (fun r h7 => ?_)
    obtain ⟨t7, s8⟩ := r
    dsimp only at h7 ⊢
    refine t_bind (t_rtZ (Or.inl h7.2.1)) (fun t10 h10 => t_some ⟨o.of.fails h7.1, Or.inl ⟨?_, h7.2.2 (by decide) (by decide) g2.2.1 (by have := g2.1; have := g2.2; omega)⟩⟩)
    show t10 = 0
    rw [h10, h7.2.1]
  · refine t_bind (wX11_numberHere_h34_S g2 ⟨t4, e4, c⟩) (fun r h18 => ?_)
    obtain ⟨t18, s19⟩ := r
    obtain ⟨o19, hp⟩ := h18
    dsimp only at o19 hp ⊢
    refine t_bind (t_pfI (B := fun k b => Nat.beq k 152 && (Nat.beq b 12 || Nat.beq b 13 || Nat.beq b 14)) rfl) (fun s20 h20 => ?_)
    have f12 : s20.1 152 12 = s19.1 152 12 := by rw [h20.2]; exact wup_nb (by decide)
    have f14 : s20.1 152 14 = t18 := by rw [h20.2]; exact wup_same
    have o20 : OF s19 s20 := ⟨h20.1, by rw [f12]; omega, by rw [f12]; exact (o19.tp g2).2.2⟩
    have oo : OF s s20 := (o.of.trans o19.of).trans o20
    have hN : (s.1 152 12).toInt < (s20.1 152 12).toInt := by rw [f12]; have := o.2.1; omega
    have bad : Tot (wX11_numberHere_j117 (s2.1 152 12) s20) (fun r => OF s r.2 ∧ ((r.1 = 0 ∧ FW r.2) ∨ (r.1 = 1 ∧ (s.1 152 12).toInt < (r.2.1 152 12).toInt ∧ x1.toInt ≤ (r.2.1 152 14).toInt ∧ (r.2.1 152 14).toInt ≤ x2.toInt))) := by
      unfold wX11_numberHere_j117
      refine t_bind wX11_fails_T (fun r h7 => ?_)
      obtain ⟨t22, s23⟩ := r
      dsimp only at h7 ⊢
      exact t_ite (fun _ => t_some ⟨oo.fails h7.1, Or.inl ⟨rfl, h7.2.2 (by decide) (by decide) g2.2.1 (by have := g2.1; have := g2.2; omega)⟩⟩) (fun c => absurd h7.2.1 c)
    refine t_ite (fun _ => bad) (fun _ => ?_)
    refine t_bind wX11_in_T (fun t26 h26 => t_ite (fun _ => bad) (fun c26 => ?_))
    unfold wX11_numberHere_j126
    rcases h26 with h | h
    · rw [Int32.toInt_toInt64, Int32.toInt_toInt64, Int32.toInt_toInt64] at h
      exact t_some ⟨oo, Or.inr ⟨rfl, hN, by show _ ≤ (s20.1 152 14).toInt; rw [f14]; exact h.2.1, by show (s20.1 152 14).toInt ≤ _; rw [f14]; exact h.2.2⟩⟩
    · exact absurd h.1 c26
theorem wX11_wordHere_T {s : wS} (g : TP s) : Tot (wX11_wordHere s) (fun r => ON s r.2 ∧ (r.1.toInt < 0 ∨ (0 ≤ r.1.toInt ∧ r.1.toInt ≤ 7 ∧ LT r.2))) := by
  unfold wX11_wordHere
  refine t_bind (wX11_isWord_T g) (fun r h1 => ?_)
  obtain ⟨t1, s2⟩ := r
  obtain ⟨o1, l1, -⟩ := h1
  dsimp only at o1 l1 ⊢
  refine t_ite (fun c1 => ?_) (fun c1 => t_some ⟨o1, Or.inr ⟨(by dsimp only; decide), (by dsimp only; decide), (l1.resolve_left c1).2⟩⟩)
  refine t_bind (wX11_isWord_T (o1.tp g)) (fun r h2 => ?_)
  obtain ⟨t5, s6⟩ := r
  obtain ⟨o2, l2, -⟩ := h2
  dsimp only at o2 l2 ⊢
  have p2 := o1.trans o2
  refine t_ite (fun c2 => ?_) (fun c2 => t_some ⟨p2, Or.inr ⟨(by dsimp only; decide), (by dsimp only; decide), (l2.resolve_left c2).2⟩⟩)
  refine t_bind (wX11_isWord_T (p2.tp g)) (fun r h3 => ?_)
  obtain ⟨t9, s10⟩ := r
  obtain ⟨o3, l3, -⟩ := h3
  dsimp only at o3 l3 ⊢
  have p3 := p2.trans o3
  refine t_ite (fun c3 => ?_) (fun c3 => t_some ⟨p3, Or.inr ⟨(by dsimp only; decide), (by dsimp only; decide), (l3.resolve_left c3).2⟩⟩)
  refine t_bind (wX11_isWord_T (p3.tp g)) (fun r h4 => ?_)
  obtain ⟨t13, s14⟩ := r
  obtain ⟨o4, l4, -⟩ := h4
  dsimp only at o4 l4 ⊢
  have p4 := p3.trans o4
  refine t_ite (fun c4 => ?_) (fun c4 => t_some ⟨p4, Or.inr ⟨(by dsimp only; decide), (by dsimp only; decide), (l4.resolve_left c4).2⟩⟩)
  refine t_bind (wX11_isWord_T (p4.tp g)) (fun r h5 => ?_)
  obtain ⟨t17, s18⟩ := r
  obtain ⟨o5, l5, -⟩ := h5
  dsimp only at o5 l5 ⊢
  have p5 := p4.trans o5
  refine t_ite (fun c5 => ?_) (fun c5 => t_some ⟨p5, Or.inr ⟨(by dsimp only; decide), (by dsimp only; decide), (l5.resolve_left c5).2⟩⟩)
  refine t_bind (wX11_isWord_T (p5.tp g)) (fun r h6 => ?_)
  obtain ⟨t21, s22⟩ := r
  obtain ⟨o6, l6, -⟩ := h6
  dsimp only at o6 l6 ⊢
  have p6 := p5.trans o6
  refine t_ite (fun c6 => ?_) (fun c6 => t_some ⟨p6, Or.inr ⟨(by dsimp only; decide), (by dsimp only; decide), (l6.resolve_left c6).2⟩⟩)
  refine t_bind (wX11_isWord_T (p6.tp g)) (fun r h7 => ?_)
  obtain ⟨t25, s26⟩ := r
  obtain ⟨o7, l7, -⟩ := h7
  dsimp only at o7 l7 ⊢
  have p7 := p6.trans o7
  refine t_ite (fun c7 => ?_) (fun c7 => t_some ⟨p7, Or.inr ⟨(by dsimp only; decide), (by dsimp only; decide), (l7.resolve_left c7).2⟩⟩)
  refine t_bind (wX11_isWord_T (p7.tp g)) (fun r h8 => ?_)
  obtain ⟨t29, s30⟩ := r
  obtain ⟨o8, l8, -⟩ := h8
  dsimp only at o8 l8 ⊢
  have p8 := p7.trans o8
  exact t_ite (fun c8 => t_some ⟨p8, Or.inl (by dsimp only; decide)⟩) (fun c8 => t_some ⟨p8, Or.inr ⟨(by dsimp only; decide), (by dsimp only; decide), (l8.resolve_left c8).2⟩⟩)
end
section
/-! The reference reads: SUMS, FACTS, their code. -/
theorem hrun_snoc {C : Nat → Int32} : ∀ {n i h h1 h2 : Nat}, hrun C n i h = some h1 → hstep (C (i + n)) h1 = some h2 → hrun C (n + 1) i h = some h2 := by
  intro n
  induction n with
  | zero =>
    intro i h h1 h2 hr hs
    obtain rfl := Option.some.inj hr
    show (match hstep (C i) h with
      | none => none
      | some h1 => hrun C 0 (i + 1) h1) = some h2
    rw [Nat.add_zero] at hs
    rw [hs]
    rfl
  | succ n ih =>
    intro i h h1 h2 hr hs
    unfold hrun at hr ⊢
    cases e : hstep (C i) h with
    | none => rw [e] at hr; cases hr
    | some h3 =>
      rw [e] at hr
      exact ih hr (by rw [show i + 1 + n = i + (n + 1) by omega]; exact hs)
theorem hrun_congr {C C' : Nat → Int32} : ∀ {n i h : Nat}, (∀ j, i ≤ j → j < i + n → C' j = C j) → hrun C' n i h = hrun C n i h := by
  intro n
  induction n with
  | zero => intro i h _; rfl
  | succ n ih =>
    intro i h hc
    unfold hrun
    rw [hc i (by omega) (by omega)]
    cases hstep (C i) h with
    | none => rfl
    | some h1 => exact ih (fun j h2 h3 => hc j (by omega) (by omega))
noncomputable def Cd (t : Nat) (s : wS) (i : Nat) : Int32 := s.1 154 (400 * t + i)
noncomputable def CS (t b h : Nat) (s : wS) : Prop := (b : Int) ≤ (s.1 155 t).toInt ∧ hrun (Cd t s) ((s.1 155 t).toInt - b).toNat b 0 = some h ∧ (h : Int) ≤ (s.1 152 16).toInt
noncomputable def Pr (t : Nat) (s s' : wS) : Prop := (s.1 155 t).toInt ≤ (s'.1 155 t).toInt ∧ ∀ i : Nat, (i : Int) < (s.1 155 t).toInt → Cd t s' i = Cd t s i
theorem Pr.trans {t : Nat} {s u v : wS} (h : Pr t s u) (g : Pr t u v) : Pr t s v := ⟨by have := h.1; have := g.1; omega, fun i hi => (g.2 i (by have := h.1; omega)).trans (h.2 i hi)⟩
noncomputable def GJ (oz : Int32 → Int) (t : Nat) (s s' : wS) : Prop := PJ oz t s' ∧ Pr t s s' ∧ (∀ b h, CS t b h s → CS t b (h + 1) s') ∧ (s.1 152 12).toInt + 1 ≤ (s'.1 152 12).toInt ∧ (s.1 152 12).toInt - (s.1 155 t).toInt ≤ (s'.1 152 12).toInt - (s'.1 155 t).toInt
noncomputable abbrev GE (t : Nat) (s s' : wS) : Prop := GJ Int32.toInt t s s'
theorem Pr_F {t : Nat} {s s' : wS} (h : wA bF s s') : Pr t s s' := by
  obtain ⟨-, -, -, q4, -, q6, -⟩ := sF_of h
  unfold Pr Cd
  rw [q4, q6]
  exact ⟨Int.le_refl _, fun _ _ => rfl⟩
theorem CS_F {t b x : Nat} {s s' : wS} (h : wA bF s s') (hM : (s.1 152 16).toInt ≤ (s'.1 152 16).toInt) (g : CS t b x s) : CS t b x s' := by
  obtain ⟨-, -, -, q4, -, q6, -⟩ := sF_of h
  unfold CS Cd at *
  rw [q4, q6]
  exact ⟨g.1, g.2.1, by have := g.2.2; omega⟩
/-- what a sign that was put does -/
noncomputable def PT (t : Nat) (v : Int32) (s s' : wS) : Prop := wA (bE t) s s' ∧ (s'.1 155 t).toInt = (s.1 155 t).toInt + 1 ∧ (∀ i : Nat, Cd t s' i = if (i : Int) = (s.1 155 t).toInt then v else Cd t s i) ∧ s'.1 152 = s.1 152 ∧ s'.1 160 = s.1 160
theorem wX11_puts_T {oz : Int32 → Int} {t : Nat} {x1 x2 : Int32} {s : wS} (g : PJ oz t s) (ht : t ≤ 5) (hs : (s.1 155 t).toInt + oz (s.1 152 20) + 1 ≤ (s.1 152 12).toInt) : Tot (wX11_puts x1 x2 s) (fun r => PT t (x1 + 16 * x2) s r) := by
  unfold wX11_puts
  obtain ⟨g1, g2, g3, g4, g5, g6, g7⟩ := g
  have hX : (s.1 152 15).toNatClampNeg = t := by unfold Int32.toNatClampNeg; omega
  refine t_bind (t_ldI (n := 7) (by omega) (by omega)) (fun t1 h1 => ?_)
  rw [hX] at h1
  have e := t_sg (l := s.1 152 15) (i := t1) (by omega) (by omega) (by rw [h1]; omega) (by rw [h1]; omega)
  have en : ((400 * s.1 152 15) + t1).toNatClampNeg = 400 * t + t1.toNatClampNeg := by
    unfold Int32.toNatClampNeg
    rw [e, h1]
    omega
  refine t_bind (t_st1 (B := bE t) (n := 2400) (by rw [e, h1]; omega) (by rw [e, h1]; omega) (by
    rw [en]
    have l1 : Nat.ble (400 * t) (400 * t + t1.toNatClampNeg) = true := Nat.ble_eq_true_of_le (by omega)
    have l2 : Nat.blt (400 * t + t1.toNatClampNeg) (400 * t + 400) = true := Nat.ble_eq_true_of_le (by unfold Int32.toNatClampNeg; rw [h1]; omega)
    unfold bE
    rw [l1, l2]
    rfl)) (fun s2 h2 => ?_)
  have f15 : s2.1 152 15 = s.1 152 15 := by rw [h2.2, wupI_n (by omega)]
  refine t_bind (t_ldI (n := 7) (by rw [f15]; omega) (by rw [f15]; omega)) (fun t3 h3 => ?_)
  rw [f15, hX, h2.2, wupI_n (by omega)] at h3
  refine t_bind (t_st1 (B := bE t) (n := 7) (by rw [f15]; omega) (by rw [f15]; omega) (by
    rw [f15, hX]
    have l1 : Nat.beq t t = true := Nat.beq_refl t
    unfold bE
    rw [l1]
    rfl)) (fun s4 h4 => t_some ?_)
  have ev : (t3 + 1).toInt = (s.1 155 t).toInt + 1 := by rw [h3]; exact t_p1 g4 (by omega)
  refine ⟨h2.1.trans h4.1, ?_, fun i => ?_, ?_, ?_⟩
  · rw [h4.2, f15, hX, wup_same, ev]
  · unfold Cd
    rw [h4.2, wupI_n (by omega), h2.2, wupI_k, en]
    unfold upd
    by_cases hi : (i : Int) = (s.1 155 t).toInt
    · rw [if_pos hi, if_pos (by unfold Int32.toNatClampNeg; rw [h1]; omega)]
    · rw [if_neg hi, if_neg (by unfold Int32.toNatClampNeg; rw [h1]; omega)]
  · rw [h4.2, wupI_n (by omega), h2.2, wupI_n (by omega)]
  · rw [h4.2, wupI_n (by omega), h2.2, wupI_n (by omega)]
theorem bE_k {t k b : Nat} (h1 : k ≠ 154) (h2 : k ≠ 155) (h3 : bF k b = false) : bE t k b = false := by
  have e1 : Nat.beq k 154 = false := by cases e : Nat.beq k 154 with | false => rfl | true => exact absurd (Nat.eq_of_beq_eq_true e) h1
  have e2 : Nat.beq k 155 = false := by cases e : Nat.beq k 155 with | false => rfl | true => exact absurd (Nat.eq_of_beq_eq_true e) h2
  unfold bE
  rw [e1, e2, h3]
  rfl
theorem PT.pi {oz : Int32 → Int} {t : Nat} {v : Int32} {s s' : wS} (h : PT t v s s') (g : PJ oz t s) (hs : (s.1 155 t).toInt + oz (s.1 152 20) + 1 ≤ (s.1 152 12).toInt) : PJ oz t s' := by
  obtain ⟨h1, h2, h3, h4, h5⟩ := h
  obtain ⟨g1, g2, g3, g4, g5, g6, g7⟩ := g
  unfold PJ
  rw [h4]
  exact ⟨g1, g2, g3, by omega, g5, by omega, g7⟩
theorem PT.pr {t : Nat} {v : Int32} {s s' : wS} (h : PT t v s s') : Pr t s s' := ⟨by have := h.2.1; omega, fun i hi => by rw [h.2.2.1, if_neg (by omega)]⟩
theorem PT.cs {t b x y : Nat} {v : Int32} {s s' : wS} (h : PT t v s s') (g : CS t b x s) (hs : hstep v x = some y) (hy : (y : Int) ≤ (s.1 152 16).toInt) : CS t b y s' := by
  obtain ⟨h1, h2, h3, h4, h5⟩ := h
  obtain ⟨g1, g2, g3⟩ := g
  refine ⟨by omega, ?_, by rw [h4]; exact hy⟩
  have e : ((s'.1 155 t).toInt - b).toNat = ((s.1 155 t).toInt - b).toNat + 1 := by omega
  rw [e]
  refine hrun_snoc (h1 := x) ?_ ?_
  · rw [hrun_congr (C := Cd t s) (fun j hj1 hj2 => by rw [h3, if_neg (by omega)])]
    exact g2
  · rw [h3, if_pos (by omega)]
    exact hs
theorem hs_and15 (v : Int32) : (16 * v) &&& 15 = 0 := by
  apply Int32.toBitVec_inj.1
  rw [Int32.toBitVec_and, Int32.toBitVec_mul]
  apply BitVec.eq_of_toNat_eq
  rw [BitVec.toNat_and, BitVec.toNat_mul]
  have e1 : ((16 : Int32).toBitVec).toNat = 16 := rfl
  have e2 : ((15 : Int32).toBitVec).toNat = 2 ^ 4 - 1 := rfl
  have e3 : ((0 : Int32).toBitVec).toNat = 0 := rfl
  rw [e1, e2, e3, Nat.and_two_pow_sub_one_eq_mod]
  omega
theorem hs_num {v : Int32} {h : Nat} (hh : h < 60) : hstep (0 + 16 * v) h = some (h + 1) := by
  have e : (0 + 16 * v) &&& 15 = 0 := by rw [Int32.zero_add]; exact hs_and15 v
  unfold hstep
  rw [if_pos e, if_pos hh]
theorem hs_word {v : Int32} {h : Nat} (hh : h < 60) (h0 : 0 ≤ v.toInt) (h7 : v.toInt ≤ 7) : hstep (1 + 16 * v) h = some (h + 1) := by
  have k : v = 0 ∨ v = 1 ∨ v = 2 ∨ v = 3 ∨ v = 4 ∨ v = 5 ∨ v = 6 ∨ v = 7 := by
    have e : ∀ c : Int32, v.toInt = c.toInt → v = c := fun c h => Int32.toInt_inj.1 h
    rcases (by omega : v.toInt = 0 ∨ v.toInt = 1 ∨ v.toInt = 2 ∨ v.toInt = 3 ∨ v.toInt = 4 ∨ v.toInt = 5 ∨ v.toInt = 6 ∨ v.toInt = 7) with q | q | q | q | q | q | q | q
    · exact Or.inl (e 0 q)
    · exact Or.inr (Or.inl (e 1 q))
    · exact Or.inr (Or.inr (Or.inl (e 2 q)))
    · exact Or.inr (Or.inr (Or.inr (Or.inl (e 3 q))))
    · exact Or.inr (Or.inr (Or.inr (Or.inr (Or.inl (e 4 q)))))
    · exact Or.inr (Or.inr (Or.inr (Or.inr (Or.inr (Or.inl (e 5 q))))))
    · exact Or.inr (Or.inr (Or.inr (Or.inr (Or.inr (Or.inr (Or.inl (e 6 q)))))))
    · exact Or.inr (Or.inr (Or.inr (Or.inr (Or.inr (Or.inr (Or.inr (e 7 q)))))))
  have z : ∀ w : Int32, ¬ ((1 + 16 * w) &&& 15 = 0) → (1 + 16 * w) &&& 15 = 1 → (0 ≤ ((1 + 16 * w) >>> ((4 : Int32) &&& 31)).toInt ∧ ((1 + 16 * w) >>> ((4 : Int32) &&& 31)).toInt < 8) → hstep (1 + 16 * w) h = some (h + 1) := by
    intro w a1 a2 a3
    unfold hstep
    rw [if_neg a1, if_pos a2, if_pos ⟨hh, a3⟩]
  rcases k with rfl | rfl | rfl | rfl | rfl | rfl | rfl | rfl <;> exact z _ (by decide) (by decide) (by decide)
/-- a sign that joins two -/
noncomputable def opc (v : Int32) : Prop := ¬ (v &&& 15 = 0) ∧ ¬ (v &&& 15 = 1) ∧ ¬ (v &&& 15 = 11)
theorem hs_op {v : Int32} {h : Nat} (ho : opc v) (hh : 2 ≤ h) : hstep v h = some (h - 1) := by
  unfold hstep
  rw [if_neg ho.1, if_neg ho.2.1, if_neg ho.2.2, if_pos hh]
theorem hs_not {h : Nat} (hh : 1 ≤ h) : hstep (11 + 16 * 0) h = some h := by
  unfold hstep
  rw [if_neg (by decide), if_neg (by decide), if_pos (by decide), if_pos hh]
theorem wX11_makes_T {x1 : Int32} {s : wS} (h0 : 0 ≤ (s.1 152 16).toInt) (h6 : (s.1 152 16).toInt ≤ 60) (hx : 0 ≤ x1.toInt) (hx2 : x1.toInt ≤ 1000) : Tot (wX11_makes x1 s) (fun r => wA bF s r.2 ∧ r.2.1 152 12 = s.1 152 12 ∧ ((r.1 = 0 ∧ FW r.2) ∨ (r.1 = 1 ∧ (r.2.1 152 16).toInt = (s.1 152 16).toInt + 1 ∧ (s.1 152 16).toInt < 60))) := by
  unfold wX11_makes
  refine t_ite (fun _ => ?_) (fun c => ?_)
  · refine t_bind wX11_fails_T (fun r h => ?_)
    obtain ⟨t2, s3⟩ := r
    dsimp only at h ⊢
    exact t_bind (t_rtZ (Or.inl h.2.1)) (fun t5 h5 => t_some ⟨fails_F h.1, h.1 152 12 rfl, Or.inl ⟨by show t5 = 0; rw [h5, h.2.1], h.2.2 (by decide) (by decide) hx hx2⟩⟩)
  · have hc := t_nq c
    rw [show (60 : Int32).toInt = 60 from rfl] at hc
    refine t_bind (t_pfI (B := bF) rfl) (fun s6 h => t_some ⟨h.1, ?_, Or.inr ⟨rfl, ?_, by omega⟩⟩)
    · show s6.1 152 12 = _
      rw [h.2]; exact wup_nb (by decide)
    · show (s6.1 152 16).toInt = _
      rw [h.2, wup_same]
      exact t_p1 h0 (by omega)
theorem bF_le {t : Nat} {s s' : wS} (h : wA bF s s') : wA (bE t) s s' := h.mono bF_le_bE
/-- a VALUE at its end -/
theorem value_end {oz : Int32 → Int} {t : Nat} {v : Int32} {s u w r : wS} (ht : t ≤ 5) (g : PJ oz t s) (h1 : wA bF s u) (hM : u.1 152 16 = s.1 152 16) (hu : PJ oz t u) (hw : wA bF u w) (hw12 : (u.1 152 12).toInt ≤ (w.1 152 12).toInt ∧ PJ oz t w) (hm : (w.1 152 16).toInt = (u.1 152 16).toInt + 1 ∧ (u.1 152 16).toInt < 60) (hN : (s.1 152 12).toInt + 1 ≤ (w.1 152 12).toInt) (hp : PT t v w r) (hs : ∀ h, h < 60 → hstep v h = some (h + 1)) : GJ oz t s r := by
  have a := h1.trans hw
  obtain ⟨-, -, q3, q4, -⟩ := sF_of a
  have hL : (w.1 155 t).toInt = (s.1 155 t).toInt := by rw [q4]
  have hO : oz (w.1 152 20) = oz (s.1 152 20) := by rw [q3]
  have g6 := g.2.2.2.2.2.1
  have e12 : (r.1 152 12).toInt = (w.1 152 12).toInt := by rw [hp.2.2.2.1]
  refine ⟨hp.pi hw12.2 (by omega), (Pr_F a).trans hp.pr, fun b h hc => ?_, by omega, by have := hp.2.1; omega⟩
  have hc2 := CS_F a (by rw [hm.1, hM]; omega) hc
  have h60 : h < 60 := by have := hc.2.2; rw [hM] at hm; omega
  refine hp.cs hc2 (hs h h60) ?_
  have := hc.2.2
  rw [hM] at hm
  omega
theorem wX11_value_T {oz : Int32 → Int} {t : Nat} {s : wS} (g : PJ oz t s) (ht : t ≤ 5) : Tot (wX11_value s) (fun r => wA (bE t) s r.2 ∧ ((r.1 = 0 ∧ FW r.2) ∨ (r.1 = 1 ∧ GJ oz t s r.2))) := by
  unfold wX11_value
  refine t_bind (wX11_see_T g.tp) (fun r h => ?_)
  obtain ⟨t1, s2⟩ := r
  have o := h.1
  dsimp only at o ⊢
  have g2 := o.pi g
  have gm := g2.2.2.2.2.2.2
  have a2 : wA bF s s2 := o.1.mono b12_le_bF
  have m2 : s2.1 152 16 = s.1 152 16 := o.1 152 16 rfl
  refine t_bind (wX11_isDigit_T g2.tp g2.2.1.1) (fun t4 h4 => t_ite (fun _ => ?_) (fun _ => ?_))
  · refine t_bind (wX11_wordHere_T g2.tp) (fun r h7 => ?_)
    obtain ⟨t7, s8⟩ := r
    obtain ⟨o7, h7⟩ := h7
    dsimp only at o7 h7 ⊢
    have o8 := o.trans o7
    have g8 := o8.pi g
    have a8 : wA bF s s8 := o8.1.mono b12_le_bF
    have m8 : s8.1 152 16 = s.1 152 16 := o8.1 152 16 rfl
    refine t_ite (fun _ => ?_) (fun c => ?_)
    · refine t_bind wX11_fails_T (fun r hf => ?_)
      obtain ⟨t11, s12⟩ := r
      dsimp only at hf ⊢
      exact t_bind (t_rtZ (Or.inl hf.2.1)) (fun t14 h14 => t_some ⟨bF_le (a8.trans (fails_F hf.1)), Or.inl ⟨by show t14 = 0; rw [h14, hf.2.1], hf.2.2 (by decide) (by decide) g2.2.1.1 (by have := g2.1; have := g2.2.1; omega)⟩⟩)
    · have hc := t_ge c
      rw [t_i0] at hc
      have h7' : t7.toInt ≤ 7 ∧ LT s8 := by
        rcases h7 with q | q
        · omega
        · exact q.2
      have gm8 := g8.2.2.2.2.2.2
      refine t_bind (wX11_makes_T gm8.1 gm8.2 g2.2.1.1 (by have := g2.1; have := g2.2.1; omega)) (fun r hm => ?_)
      obtain ⟨t15, s16⟩ := r
      obtain ⟨am, m12, hm⟩ := hm
      dsimp only at am m12 hm ⊢
      refine t_ite (fun c => t_some ⟨bF_le (a8.trans am), Or.inl ⟨rfl, fw_of hm c⟩⟩) (fun c15 => ?_)
      have hm1 := ok_of hm c15
      have g16 : PJ oz t s16 := PI_F am g8 (by rw [m12]; omega) (by rw [m12]; exact g8.2.1.2) (by omega)
      have l16 : LT s16 := by
        obtain ⟨q1, q2⟩ := h7'.2
        refine ⟨by rw [m12, am 152 1 rfl]; exact q1, ?_⟩
        unfold LTx at *
        rw [m12, (sF_of am).2.2.2.2.1]
        exact q2
      refine t_bind (wX11_passWord_T g16.tp) (fun s20 h20 => ?_)
      have n20 := h20.2 l16
      have g20 := h20.1.pi g16
      have a20 : wA bF s8 s20 := am.trans (h20.1.1.mono b12_le_bF)
      have L20 : (s20.1 155 t).toInt = (s.1 155 t).toInt := by rw [(sF_of (a8.trans a20)).2.2.2.1]
      have O20 : oz (s20.1 152 20) = oz (s.1 152 20) := by rw [(sF_of (a8.trans a20)).2.2.1]
      have g6 := g.2.2.2.2.2.1
      have hN : (s.1 152 12).toInt + 1 ≤ (s20.1 152 12).toInt := by have := o8.2.1; rw [m12] at n20; omega
      refine t_bind (wX11_puts_T g20 ht (by omega)) (fun s23 h23 => t_some ⟨(bF_le (a8.trans a20)).trans h23.1, Or.inr ⟨rfl, ?_⟩⟩)
      have M20 : s20.1 152 16 = s16.1 152 16 := h20.1.1 152 16 rfl
      exact value_end ht g a8 m8 g8 a20 ⟨by rw [m12] at n20; omega, g20⟩ (by rw [M20]; exact hm1) hN h23 (fun h hh => hs_word hh hc h7'.1)
  · refine t_bind (wX11_numberHere_T g2.tp) (fun r h25 => ?_)
    obtain ⟨t25, s26⟩ := r
    obtain ⟨o26, h25⟩ := h25
    dsimp only at o26 h25 ⊢
    have oo := o.of.trans o26
    have g26 := oo.pi g
    have a26 : wA bF s s26 := oo.1.mono OF_le_bF
    refine t_ite (fun c => t_some ⟨bF_le a26, Or.inl ⟨rfl, fw_of h25 c⟩⟩) (fun c25 => ?_)
    have h25' := ok_of h25 c25
    have gm8 := g26.2.2.2.2.2.2
    refine t_bind (wX11_makes_T gm8.1 gm8.2 g2.2.1.1 (by have := g2.1; have := g2.2.1; omega)) (fun r hm => ?_)
    obtain ⟨t29, s30⟩ := r
    obtain ⟨am, m12, hm⟩ := hm
    dsimp only at am m12 hm ⊢
    refine t_ite (fun c => t_some ⟨bF_le (a26.trans am), Or.inl ⟨rfl, fw_of hm c⟩⟩) (fun c15 => ?_)
    have hm1 := ok_of hm c15
    have g16 : PJ oz t s30 := PI_F am g26 (by rw [m12]; omega) (by rw [m12]; exact g26.2.1.2) (by omega)
    have L20 : (s30.1 155 t).toInt = (s.1 155 t).toInt := by rw [(sF_of (a26.trans am)).2.2.2.1]
    have O20 : oz (s30.1 152 20) = oz (s.1 152 20) := by rw [(sF_of (a26.trans am)).2.2.1]
    have g6 := g.2.2.2.2.2.1
    have hN : (s.1 152 12).toInt + 1 ≤ (s30.1 152 12).toInt := by have := o.2.1; rw [m12]; omega
    refine t_bind (wX11_puts_T g16 ht (by omega)) (fun s34 h34 => t_some ⟨(bF_le (a26.trans am)).trans h34.1, Or.inr ⟨rfl, ?_⟩⟩)
    exact value_end ht g a26 (oo.1 152 16 rfl) g26 am ⟨by rw [m12]; omega, g16⟩ hm1 hN h34 (fun h hh => hs_num hh)
/-- on to the next: a sign was passed -/
theorem GE_step {oz : Int32 → Int} {t : Nat} {v : Int32} {s0 s u w r : wS} (g0 : GJ oz t s0 s) (o : ON s u) (hw : wA b12 u w) (hw12 : (w.1 152 12).toInt = (u.1 152 12).toInt + 1) (gv : GJ oz t w r) {z : wS} (hp : PT t v r z) (ho : opc v) (hr2 : oz (r.1 152 20) = oz (s.1 152 20)) : GJ oz t s0 z := by
  obtain ⟨p1, p2, p3, p4, p5⟩ := g0
  obtain ⟨v1, v2, v3, v4, v5⟩ := gv
  have a : wA bF s w := (o.1.mono b12_le_bF).trans (hw.mono b12_le_bF)
  have hL : (w.1 155 t).toInt = (s.1 155 t).toInt := by rw [(sF_of a).2.2.2.1]
  have e12 : (z.1 152 12).toInt = (r.1 152 12).toInt := by rw [hp.2.2.2.1]
  have o2 := o.2.1
  have g6 := p1.2.2.2.2.2.1
  refine ⟨hp.pi v1 (by omega), ((p2.trans (Pr_F a)).trans v2).trans hp.pr, fun b h hc => ?_, by omega, by have := hp.2.1; omega⟩
  have hc1 := p3 b h hc
  have hM : (w.1 152 16).toInt = (s.1 152 16).toInt := by rw [hw 152 16 rfl, o.1 152 16 rfl]
  have hc2 := CS_F a (by omega) hc1
  have hc3 := v3 b (h + 1) hc2
  exact hp.cs hc3 (hs_op ho (by omega)) (by have := hc3.2.2; omega)
theorem bE_20 {t : Nat} {s s' : wS} (h : wA (bE t) s s') : s'.1 152 20 = s.1 152 20 := h 152 20 (bE_k (by omega) (by omega) rfl)
theorem bE_1 {t : Nat} {s s' : wS} (h : wA (bE t) s s') : s'.1 152 1 = s.1 152 1 := h 152 1 (bE_k (by omega) (by omega) rfl)
theorem wX11_term_h9_T {oz : Int32 → Int} {t : Nat} {s0 : wS} (ht : t ≤ 5) : ∀ (n : Nat) {s : wS}, wA (bE t) s0 s → GJ oz t s0 s → (s.1 152 1).toInt - (s.1 152 12).toInt < (n : Int) → Tot (wX11_term_h9 n s) (Sum.elim (fun r => wA (bE t) s0 r ∧ GJ oz t s0 r) (fun r => wA (bE t) s0 r ∧ FW r)) := by
  intro n
  induction n with
  | zero => intro s ha g hm; exfalso; have := g.1.2.1; omega
  | succ n ih =>
    intro s ha g hm
    rw [wX11_term_h9]
    have j : ∀ (u : wS) (y : Int32), ON s u → (u.1 152 12).toInt < (u.1 152 1).toInt → opc (y + 16 * 0) → Tot (wX11_term_j46 (wX11_term_h9 n) y u) (Sum.elim (fun r => wA (bE t) s0 r ∧ GJ oz t s0 r) (fun r => wA (bE t) s0 r ∧ FW r)) := by
      intro u y o hu ho
      unfold wX11_term_j46
      have gu := o.pi g.1
      refine t_bind (t_pfI (B := b12) rfl) (fun w hw => ?_)
      have e : (w.1 152 12).toInt = (u.1 152 12).toInt + 1 := by rw [hw.2, wup_same]; exact t_p1 gu.2.1.1 (by have := gu.1; omega)
      have gw : PJ oz t w := PI_12 hw.1 gu (by omega) (by omega)
      have aw : wA (bE t) s0 w := ha.trans (bF_le ((o.1.mono b12_le_bF).trans (hw.1.mono b12_le_bF)))
      refine t_bind (wX11_value_T gw ht) (fun r h12 => ?_)
      obtain ⟨t12, s13⟩ := r
      obtain ⟨a13, h12⟩ := h12
      dsimp only at a13 h12 ⊢
      refine t_ite (fun c => t_some ⟨aw.trans a13, fw_of h12 c⟩) (fun c => ?_)
      have gv := ok_of h12 c
      have k1 := gv.2.2.2.2
      have k2 : (w.1 155 t).toInt = (u.1 155 t).toInt := by rw [(sF_of (hw.1.mono b12_le_bF)).2.2.2.1]
      have k3 : oz (s13.1 152 20) = oz (u.1 152 20) := by rw [bE_20 a13, hw.1 152 20 rfl]
      have k4 := gu.2.2.2.2.2.1
      refine t_bind (wX11_puts_T gv.1 ht (by omega)) (fun s17 h17 => ?_)
      refine ih ((aw.trans a13).trans h17.1) (GE_step g o hw.1 e gv h17 ho ?_) ?_
      · rw [k3, o.1 152 20 rfl]
      · have q1 : (s17.1 152 12).toInt = (s13.1 152 12).toInt := by rw [h17.2.2.2.1]
        have q2 : (s17.1 152 1).toInt = (s.1 152 1).toInt := by rw [h17.2.2.2.1, bE_1 a13, hw.1 152 1 rfl, o.1 152 1 rfl]
        have q3 := gv.2.2.2.1
        have q4 := o.2.1
        omega
    have j27 : ∀ (u : wS), ON s u → (u.1 152 12).toInt < (u.1 152 1).toInt → Tot (wX11_term_j27 (wX11_term_h9 n) u) (Sum.elim (fun r => wA (bE t) s0 r ∧ GJ oz t s0 r) (fun r => wA (bE t) s0 r ∧ FW r)) := by
      intro u o hu
      unfold wX11_term_j27
      have gu := o.pi g.1
      refine t_bind (t_ldI (n := 400) gu.2.1.1 (by have := gu.1; omega)) (fun t9 _ => ?_)
      exact t_ite (fun _ => j u 4 o hu (by unfold opc; decide)) (fun _ => j u 5 o hu (by unfold opc; decide))
    refine t_bind (wX11_see_T g.1.tp) (fun r h5 => ?_)
    obtain ⟨t5, s6⟩ := r
    obtain ⟨o5, l5, -⟩ := h5
    dsimp only at o5 l5 ⊢
    refine t_ite (fun c => j27 s6 o5 (l5 (by rw [c]; decide))) (fun _ => ?_)
    refine t_bind (wX11_see_T (o5.tp g.1.tp)) (fun r h19 => ?_)
    obtain ⟨t19, s20⟩ := r
    obtain ⟨o19, l19, -⟩ := h19
    dsimp only at o19 l19 ⊢
    have oo := o5.trans o19
    refine t_ite (fun c => j27 s20 oo (l19 (by rw [c]; decide))) (fun _ => t_some ?_)
    have a : wA bF s s20 := oo.1.mono b12_le_bF
    obtain ⟨p1, p2, p3, p4, p5⟩ := g
    have hL : (s20.1 155 t).toInt = (s.1 155 t).toInt := by rw [(sF_of a).2.2.2.1]
    have o2 := oo.2.1
    exact ⟨ha.trans (bF_le a), oo.pi p1, p2.trans (Pr_F a), fun b h hc => CS_F a (by rw [oo.1 152 16 rfl]; omega) (p3 b h hc), by omega, by omega⟩
theorem wX11_term_T {oz : Int32 → Int} {t : Nat} {s : wS} (g : PJ oz t s) (ht : t ≤ 5) : Tot (wX11_term s) (fun r => wA (bE t) s r.2 ∧ ((r.1 = 0 ∧ FW r.2) ∨ (r.1 = 1 ∧ GJ oz t s r.2))) := by
  unfold wX11_term
  refine t_bind (wX11_value_T g ht) (fun r h1 => ?_)
  obtain ⟨t1, s2⟩ := r
  obtain ⟨a, h1⟩ := h1
  dsimp only at a h1 ⊢
  refine t_ite (fun c => t_some ⟨a, Or.inl ⟨rfl, fw_of h1 c⟩⟩) (fun c => ?_)
  have gv := ok_of h1 c
  refine t_bind (wX11_term_h9_T ht _ a gv (t_wf gv.1.tp)) (fun z hz => ?_)
  rcases z with z | z
  · exact t_some ⟨hz.1, Or.inr ⟨rfl, hz.2⟩⟩
  · exact t_some ⟨hz.1, Or.inl ⟨rfl, hz.2⟩⟩
theorem wX11_sum_h9_T {oz : Int32 → Int} {t : Nat} {s0 : wS} (ht : t ≤ 5) : ∀ (n : Nat) {s : wS}, wA (bE t) s0 s → GJ oz t s0 s → (s.1 152 1).toInt - (s.1 152 12).toInt < (n : Int) → Tot (wX11_sum_h9 n s) (Sum.elim (fun r => wA (bE t) s0 r ∧ GJ oz t s0 r) (fun r => wA (bE t) s0 r ∧ FW r)) := by
  intro n
  induction n with
  | zero => intro s ha g hm; exfalso; have := g.1.2.1; omega
  | succ n ih =>
    intro s ha g hm
    rw [wX11_sum_h9]
    have j : ∀ (u : wS) (y : Int32), ON s u → (u.1 152 12).toInt < (u.1 152 1).toInt → opc (y + 16 * 0) → Tot (wX11_sum_j46 (wX11_sum_h9 n) y u) (Sum.elim (fun r => wA (bE t) s0 r ∧ GJ oz t s0 r) (fun r => wA (bE t) s0 r ∧ FW r)) := by
      intro u y o hu ho
      unfold wX11_sum_j46
      have gu := o.pi g.1
      refine t_bind (t_pfI (B := b12) rfl) (fun w hw => ?_)
      have e : (w.1 152 12).toInt = (u.1 152 12).toInt + 1 := by rw [hw.2, wup_same]; exact t_p1 gu.2.1.1 (by have := gu.1; omega)
      have gw : PJ oz t w := PI_12 hw.1 gu (by omega) (by omega)
      have aw : wA (bE t) s0 w := ha.trans (bF_le ((o.1.mono b12_le_bF).trans (hw.1.mono b12_le_bF)))
      refine t_bind (wX11_term_T gw ht) (fun r h12 => ?_)
      obtain ⟨t12, s13⟩ := r
      obtain ⟨a13, h12⟩ := h12
      dsimp only at a13 h12 ⊢
      refine t_ite (fun c => t_some ⟨aw.trans a13, fw_of h12 c⟩) (fun c => ?_)
      have gv := ok_of h12 c
      have k1 := gv.2.2.2.2
      have k2 : (w.1 155 t).toInt = (u.1 155 t).toInt := by rw [(sF_of (hw.1.mono b12_le_bF)).2.2.2.1]
      have k3 : oz (s13.1 152 20) = oz (u.1 152 20) := by rw [bE_20 a13, hw.1 152 20 rfl]
      have k4 := gu.2.2.2.2.2.1
      refine t_bind (wX11_puts_T gv.1 ht (by omega)) (fun s17 h17 => ?_)
      refine ih ((aw.trans a13).trans h17.1) (GE_step g o hw.1 e gv h17 ho ?_) ?_
      · rw [k3, o.1 152 20 rfl]
      · have q1 : (s17.1 152 12).toInt = (s13.1 152 12).toInt := by rw [h17.2.2.2.1]
        have q2 : (s17.1 152 1).toInt = (s.1 152 1).toInt := by rw [h17.2.2.2.1, bE_1 a13, hw.1 152 1 rfl, o.1 152 1 rfl]
        have q3 := gv.2.2.2.1
        have q4 := o.2.1
        omega
    have j27 : ∀ (u : wS), ON s u → (u.1 152 12).toInt < (u.1 152 1).toInt → Tot (wX11_sum_j27 (wX11_sum_h9 n) u) (Sum.elim (fun r => wA (bE t) s0 r ∧ GJ oz t s0 r) (fun r => wA (bE t) s0 r ∧ FW r)) := by
      intro u o hu
      unfold wX11_sum_j27
      have gu := o.pi g.1
      refine t_bind (t_ldI (n := 400) gu.2.1.1 (by have := gu.1; omega)) (fun t9 _ => ?_)
      exact t_ite (fun _ => j u 2 o hu (by unfold opc; decide)) (fun _ => j u 3 o hu (by unfold opc; decide))
    refine t_bind (wX11_see_T g.1.tp) (fun r h5 => ?_)
    obtain ⟨t5, s6⟩ := r
    obtain ⟨o5, l5, -⟩ := h5
    dsimp only at o5 l5 ⊢
    refine t_ite (fun c => j27 s6 o5 (l5 (by rw [c]; decide))) (fun _ => ?_)
    refine t_bind (wX11_see_T (o5.tp g.1.tp)) (fun r h19 => ?_)
    obtain ⟨t19, s20⟩ := r
    obtain ⟨o19, l19, -⟩ := h19
    dsimp only at o19 l19 ⊢
    have oo := o5.trans o19
    refine t_ite (fun c => j27 s20 oo (l19 (by rw [c]; decide))) (fun _ => t_some ?_)
    have a : wA bF s s20 := oo.1.mono b12_le_bF
    obtain ⟨p1, p2, p3, p4, p5⟩ := g
    have hL : (s20.1 155 t).toInt = (s.1 155 t).toInt := by rw [(sF_of a).2.2.2.1]
    have o2 := oo.2.1
    exact ⟨ha.trans (bF_le a), oo.pi p1, p2.trans (Pr_F a), fun b h hc => CS_F a (by rw [oo.1 152 16 rfl]; omega) (p3 b h hc), by omega, by omega⟩
theorem wX11_sum_T {oz : Int32 → Int} {t : Nat} {s : wS} (g : PJ oz t s) (ht : t ≤ 5) : Tot (wX11_sum s) (fun r => wA (bE t) s r.2 ∧ ((r.1 = 0 ∧ FW r.2) ∨ (r.1 = 1 ∧ GJ oz t s r.2))) := by
  unfold wX11_sum
  refine t_bind (wX11_term_T g ht) (fun r h1 => ?_)
  obtain ⟨t1, s2⟩ := r
  obtain ⟨a, h1⟩ := h1
  dsimp only at a h1 ⊢
  refine t_ite (fun c => t_some ⟨a, Or.inl ⟨rfl, fw_of h1 c⟩⟩) (fun c => ?_)
  have gv := ok_of h1 c
  refine t_bind (wX11_sum_h9_T ht _ a gv (t_wf gv.1.tp)) (fun z hz => ?_)
  rcases z with z | z
  · exact t_some ⟨hz.1, Or.inr ⟨rfl, hz.2⟩⟩
  · exact t_some ⟨hz.1, Or.inl ⟨rfl, hz.2⟩⟩
end
section
/-! The reference reads: FACTS, PARTS, TESTS. -/
theorem wX11_compare_j152_T {t : Nat} {y0 : Int32} {s0 s u : wS} (ht : t ≤ 5) (ho : opc ((6 + y0) + 16 * 0)) (ha : wA (bE t) s0 u) (g0 : GE t s0 s) (au : wA bF s u) (gu : PI t u) (hN : (s.1 152 12).toInt + 1 ≤ (u.1 152 12).toInt) (hM : (s.1 152 16).toInt ≤ (u.1 152 16).toInt) : Tot (wX11_compare_j152 y0 u) (fun r => wA (bE t) s0 r.2 ∧ ((r.1 = 0 ∧ FW r.2) ∨ (r.1 = 1 ∧ GE t s0 r.2))) := by
  unfold wX11_compare_j152
  refine t_bind (wX11_sum_T gu ht) (fun r h => ?_)
  obtain ⟨t18, s19⟩ := r
  obtain ⟨a, h⟩ := h
  dsimp only at a h ⊢
  refine t_ite (fun c => t_some ⟨ha.trans a, Or.inl ⟨rfl, fw_of h c⟩⟩) (fun c => ?_)
  obtain ⟨v1, v2, v3, v4, v5⟩ := ok_of h c
  obtain ⟨p1, p2, p3, p4, p5⟩ := g0
  have k2 : (u.1 155 t).toInt = (s.1 155 t).toInt := by rw [(sF_of au).2.2.2.1]
  have k3 : (s19.1 152 20).toInt = (s.1 152 20).toInt := by rw [bE_20 a, (sF_of au).2.2.1]
  have k4 := p1.2.2.2.2.2.1
  refine t_bind (wX11_puts_T v1 ht (by omega)) (fun s23 hp => t_some ⟨(ha.trans a).trans hp.1, Or.inr ⟨rfl, ?_⟩⟩)
  have e12 : (s23.1 152 12).toInt = (s19.1 152 12).toInt := by rw [hp.2.2.2.1]
  refine ⟨hp.pi v1 (by omega), ((p2.trans (Pr_F au)).trans v2).trans hp.pr, fun b h hc => ?_, by show _ ≤ (s23.1 152 12).toInt; omega, by show _ ≤ (s23.1 152 12).toInt - (s23.1 155 t).toInt; have := hp.2.1; omega⟩
  have hc1 := p3 b h hc
  have hc2 := CS_F au hM hc1
  have hc3 := v3 b (h + 1) hc2
  exact hp.cs hc3 (hs_op ho (by omega)) (by have := hc3.2.2; omega)
theorem wX11_compare_T {t : Nat} {s : wS} (g : PI t s) (ht : t ≤ 5) : Tot (wX11_compare s) (fun r => wA (bE t) s r.2 ∧ ((r.1 = 0 ∧ FW r.2) ∨ (r.1 = 1 ∧ GE t s r.2))) := by
  unfold wX11_compare
  refine t_bind (wX11_sum_T g ht) (fun r h1 => ?_)
  obtain ⟨t1, s2⟩ := r
  obtain ⟨a, h1⟩ := h1
  dsimp only at a h1 ⊢
  refine t_ite (fun c => t_some ⟨a, Or.inl ⟨rfl, fw_of h1 c⟩⟩) (fun c => ?_)
  have gv := ok_of h1 c
  refine t_bind (wX11_see_T gv.1.tp) (fun r h5 => ?_)
  obtain ⟨t5, s6⟩ := r
  obtain ⟨o5, l5, -⟩ := h5
  dsimp only at o5 l5 ⊢
  have g6 := o5.pi gv.1
  have hx6 : 0 ≤ (s6.1 152 12).toInt ∧ (s6.1 152 12).toInt ≤ 1000 := by have := g6.1; have := g6.2.1; omega
  have j105 : ∀ (x3 : Int32) (u : wS) (x2 : Int32), (0 ≤ x2.toInt ∧ x2.toInt ≤ 1000) → wA b12 s6 u → (s6.1 152 12).toInt + 1 ≤ (u.1 152 12).toInt → PI t u → Tot (wX11_compare_j105 t5 x2 x3 u) (fun r => wA (bE t) s r.2 ∧ ((r.1 = 0 ∧ FW r.2) ∨ (r.1 = 1 ∧ GE t s r.2))) := by
    intro x3 u x2 hx2 hu hN gu
    unfold wX11_compare_j105
    have gm := gu.2.2.2.2.2.2
    refine t_bind (wX11_makes_T gm.1 gm.2 hx2.1 hx2.2) (fun r hm => ?_)
    obtain ⟨t12, s13⟩ := r
    obtain ⟨am, m12, hm⟩ := hm
    dsimp only at am m12 hm ⊢
    have au : wA bF s2 s13 := ((o5.1.mono b12_le_bF).trans (hu.mono b12_le_bF)).trans am
    refine t_ite (fun c => t_some ⟨a.trans (bF_le au), Or.inl ⟨rfl, fw_of hm c⟩⟩) (fun c12 => ?_)
    have hm1 := ok_of hm c12
    have g13 : PI t s13 := PI_F am gu (by rw [m12]; omega) (by rw [m12]; exact gu.2.1.2) (by omega)
    have hN2 : (s2.1 152 12).toInt + 1 ≤ (s13.1 152 12).toInt := by have := o5.2.1; rw [m12]; omega
    have hM2 : (s2.1 152 16).toInt ≤ (s13.1 152 16).toInt := by
      have e1 : u.1 152 16 = s2.1 152 16 := by rw [hu 152 16 rfl, o5.1 152 16 rfl]
      rw [hm1.1, e1]; omega
    have fin : ∀ y0, opc ((6 + y0) + 16 * 0) → Tot (wX11_compare_j152 y0 s13) (fun r => wA (bE t) s r.2 ∧ ((r.1 = 0 ∧ FW r.2) ∨ (r.1 = 1 ∧ GE t s r.2))) := fun y0 ho => wX11_compare_j152_T ht ho (a.trans (bF_le au)) gv au g13 hN2 hM2
    exact t_ite (fun _ => t_ite (fun _ => fin _ (by unfold opc; decide)) (fun _ => fin _ (by unfold opc; decide))) (fun _ => t_ite (fun _ => fin _ (by unfold opc; decide)) (fun _ => t_ite (fun _ => fin _ (by unfold opc; decide)) (fun _ => fin _ (by unfold opc; decide))))
  have j44 : ∀ x2 : Int32, (0 ≤ x2.toInt ∧ x2.toInt ≤ 1000) → (s6.1 152 12).toInt < (s6.1 152 1).toInt → Tot (wX11_compare_j44 t5 x2 s6) (fun r => wA (bE t) s r.2 ∧ ((r.1 = 0 ∧ FW r.2) ∨ (r.1 = 1 ∧ GE t s r.2))) := by
    intro x2 hx2 hlt
    unfold wX11_compare_j44
    refine t_bind (t_pfI (B := b12) rfl) (fun w hw => ?_)
    have e : (w.1 152 12).toInt = (s6.1 152 12).toInt + 1 := by rw [hw.2, wup_same]; exact t_p1 g6.2.1.1 (by have := g6.1; omega)
    have gw : PI t w := PI_12 hw.1 g6 (by omega) (by omega)
    have z : Tot (wX11_compare_j89 t5 x2 w) (fun r => wA (bE t) s r.2 ∧ ((r.1 = 0 ∧ FW r.2) ∨ (r.1 = 1 ∧ GE t s r.2))) := by
      unfold wX11_compare_j89 wX11_compare_j90
      exact t_ite (fun _ => j105 0 w x2 hx2 hw.1 (by omega) gw) (fun c => absurd rfl c)
    refine t_ite (fun _ => z) (fun _ => t_ite (fun cT => ?_) (fun _ => z))
    have hT := t_lt cT
    refine t_bind (t_ldI (n := 400) gw.2.1.1 (by have := gw.1; omega)) (fun t29 _ => t_ite (fun _ => ?_) (fun _ => z))
    unfold wX11_compare_j90
    refine t_ite (fun c => absurd c (by decide)) (fun _ => ?_)
    refine t_bind (t_pfI (B := b12) rfl) (fun v hv => ?_)
    have e2 : (v.1 152 12).toInt = (w.1 152 12).toInt + 1 := by rw [hv.2, wup_same]; exact t_p1 gw.2.1.1 (by have := gw.1; omega)
    exact j105 1 v x2 hx2 (hw.1.trans hv.1) (by omega) (PI_12 hv.1 gw (by omega) (by omega))
  refine t_ite (fun c5 => j44 _ hx6 (l5 (by rw [c5]; decide))) (fun _ => t_ite (fun c5 => j44 _ hx6 (l5 (by rw [c5]; decide))) (fun _ => t_ite (fun c5 => j44 _ hx6 (l5 (by rw [c5]; decide))) (fun _ => ?_)))
  refine t_bind wX11_fails_T (fun r hf => ?_)
  obtain ⟨t33, s34⟩ := r
  dsimp only at hf ⊢
  exact t_bind (t_rtZ (Or.inl hf.2.1)) (fun t36 h36 => t_some ⟨a.trans (bF_le ((o5.1.mono b12_le_bF).trans (fails_F hf.1))), Or.inl ⟨by show t36 = 0; rw [h36, hf.2.1], hf.2.2 (by decide) (by decide) hx6.1 hx6.2⟩⟩)
/-! the stack of what waits -/
noncomputable def bT (t k b : Nat) : Bool := bE t k b || (Nat.beq k 160 || (Nat.beq k 152 && (Nat.beq b 17 || Nat.beq b 20)))
theorem bE_le_bT {t : Nat} : ∀ k b, bE t k b = true → bT t k b = true := fun k b h => by
  unfold bT
  rw [h, Bool.true_or]
theorem bT_le_bL {t : Nat} : ∀ k b, bT t k b = true → bL t k b = true := by
  intro k b h
  unfold bL bT at *
  simp only [Bool.or_eq_true, Bool.and_eq_true, Nat.ble_eq, Nat.beq_eq] at *
  rcases h with h | h
  · exact Or.inl (Or.inl (Or.inl (Or.inl h)))
  · omega
noncomputable def bO (k b : Nat) : Bool := Nat.beq k 160 || (Nat.beq k 152 && (Nat.beq b 17 || Nat.beq b 20))
theorem bO_le_bT {t : Nat} : ∀ k b, bO k b = true → bT t k b = true := fun k b h => by
  unfold bT bO at *
  rw [h, Bool.or_true]
theorem bF_le_bT {t : Nat} : ∀ k b, bF k b = true → bT t k b = true := fun k b h => bE_le_bT k b (bF_le_bE k b h)
noncomputable def stv (x : Int32) : Int32 := if x = 13 then 1 else if x = 12 then 2 else if x = 11 then 3 else 0
theorem wX11_strength_T {x0 : Int32} {s : wS} : Tot (wX11_strength x0 s) (fun t => t = stv x0) := by
  unfold wX11_strength stv
  refine t_ite (fun c => t_some ?_) (fun c => t_ite (fun c1 => t_some ?_) (fun c1 => t_ite (fun c2 => t_some ?_) (fun c2 => t_some ?_)))
  · rw [if_pos c]
  · rw [if_neg c, if_pos c1]
  · rw [if_neg c, if_neg c1, if_pos c2]
  · rw [if_neg c, if_neg c1, if_neg c2]
noncomputable def opn (x : Int32) : Prop := x = 11 ∨ x = 12 ∨ x = 13 ∨ x = 91
noncomputable def OS (s : wS) : Prop := ∀ i : Nat, (i : Int) < (s.1 152 20).toInt → opn (s.1 160 i)
noncomputable def nb (f : Nat → Int32) : Nat → Nat
  | 0 => 0
  | n + 1 => nb f n + (if f n = 12 ∨ f n = 13 then 1 else 0)
theorem nb_congr {f f' : Nat → Int32} : ∀ {n : Nat}, (∀ i, i < n → f' i = f i) → nb f' n = nb f n := by
  intro n
  induction n with
  | zero => intro _; rfl
  | succ n ih =>
    intro h
    unfold nb
    rw [ih (fun i hi => h i (by omega)), h n (by omega)]
theorem wX11_opens_T {x1 : Int32} {s : wS} (hx : 0 ≤ (s.1 152 12).toInt) (hx2 : (s.1 152 12).toInt ≤ 1000) (h0 : 0 ≤ (s.1 152 20).toInt) (h4 : (s.1 152 20).toInt < 400) : Tot (wX11_opens x1 s) (fun r => (r.1 = 0 ∧ wA bF s r.2 ∧ FW r.2) ∨ (r.1 = 1 ∧ wA bO s r.2 ∧ (r.2.1 152 20).toInt = (s.1 152 20).toInt + 1 ∧ r.2.1 160 = upd (s.1 160) (s.1 152 20).toNatClampNeg x1)) := by
  unfold wX11_opens
  refine t_ite (fun _ => ?_) (fun _ => ?_)
  · refine t_bind wX11_fails_T (fun r h => ?_)
    obtain ⟨t2, s3⟩ := r
    dsimp only at h ⊢
    exact t_bind (t_rtZ (Or.inl h.2.1)) (fun t5 h5 => t_some (Or.inl ⟨by show t5 = 0; rw [h5, h.2.1], fails_F h.1, h.2.2 (by decide) (by decide) hx hx2⟩))
  · refine t_bind (t_pfI (B := bO) rfl) (fun s6 h6 => ?_)
    have f6 : s6.1 152 20 = s.1 152 20 := by rw [h6.2]; exact wup_nb (by decide)
    refine t_bind (t_stI (B := bO) (n := 400) (by rw [f6]; exact h0) (by rw [f6]; omega) (fun _ => rfl)) (fun s7 h7 => ?_)
    have f7 : s7.1 152 20 = s.1 152 20 := by rw [h7.2, wupI_n (by omega), f6]
    refine t_bind (t_pfI (B := bO) rfl) (fun s8 h8 => t_some (Or.inr ⟨rfl, (h6.1.trans h7.1).trans h8.1, ?_, ?_⟩))
    · show (s8.1 152 20).toInt = _
      rw [h8.2, wup_same, f7]
      exact t_p1 h0 (by omega)
    · show s8.1 160 = _
      rw [h8.2, wupI_n (by omega), h7.2, wupI_k, f6, h6.2, wupI_n (by omega)]
theorem t_m11 {x : Int32} (h : 1 ≤ x.toInt) (h2 : x.toInt ≤ 100000) : (x - 1).toInt = x.toInt - 1 := by
  have e : (1 : Int32).toInt = 1 := rfl
  rw [t_sub (by rw [e]; omega) (by rw [e]; omega), e]
/-- what settling does -/
noncomputable def SE (t : Nat) (x1 : Int32) (b : Nat) (s r : wS) : Prop := wA (bT t) s r ∧ PI t r ∧ (((r.1 152 20).toInt ≤ (s.1 152 20).toInt ∧ (r.1 155 t).toInt + (r.1 152 20).toInt ≤ (s.1 155 t).toInt + (s.1 152 20).toInt) ∧ r.1 160 = s.1 160) ∧ CS t b (nb (s.1 160) (r.1 152 20).toNatClampNeg + 1) r ∧ Pr t s r ∧ (r.1 152 12 = s.1 152 12 ∧ r.1 152 16 = s.1 152 16) ∧ ((r.1 152 20).toInt = 0 ∨ stv (s.1 160 ((r.1 152 20).toInt - 1).toNat) < x1) ∧ ∀ i : Nat, (i : Int) < (s.1 152 20).toInt → stv (s.1 160 i) < x1 → (i : Int) < (r.1 152 20).toInt
theorem wX11_settles_h0_T {t b : Nat} {x1 : Int32} (ht : t ≤ 5) (hx : 1 ≤ x1.toInt) : ∀ (n : Nat) {s : wS}, PI t s → OS s → CS t b (nb (s.1 160) (s.1 152 20).toNatClampNeg + 1) s → (s.1 152 20).toInt < (n : Int) → Tot (wX11_settles_h0 x1 n s) (fun r => SE t x1 b s r) := by
  intro n
  induction n with
  | zero => intro s g _ _ hm; exfalso; have := g.2.2.2.2.1; omega
  | succ n ih =>
    intro s g hO hc hm
    rw [wX11_settles_h0]
    have g5 := g.2.2.2.2.1
    have g6 := g.2.2.2.2.2.1
    have gN := g.2.1.2
    have gT := g.1.2
    refine t_ite (fun c0 => ?_) (fun c0 => t_some ?_)
    · have h0 := t_lt c0
      rw [t_i0] at h0
      have gL := g.2.2.2.1
      have e1 := t_m11 (x := s.1 152 20) (by omega) (by omega)
      have n1 : (s.1 152 20 - 1).toNatClampNeg = ((s.1 152 20).toInt - 1).toNat := by unfold Int32.toNatClampNeg; rw [e1]
      refine t_bind (t_ldI (n := 400) (by rw [e1]; omega) (by rw [e1]; omega)) (fun t2 h2 => ?_)
      rw [n1] at h2
      refine t_bind wX11_strength_T (fun t3 h3 => t_ite (fun c3 => t_some ?_) (fun c3 => ?_))
      · refine ⟨wA.refl, g, ⟨⟨Int.le_refl _, Int.le_refl _⟩, rfl⟩, hc, ⟨Int.le_refl _, fun _ _ => rfl⟩, ⟨rfl, rfl⟩, Or.inr ?_, fun i hi _ => hi⟩
        rw [← h2, ← h3]
        exact c3
      · refine t_bind (t_pfI (B := bT t) (bO_le_bT 152 20 rfl)) (fun s6 h6 => ?_)
        have f20 : (s6.1 152 20).toInt = (s.1 152 20).toInt - 1 := by rw [h6.2, wup_same, e1]
        have n6 : (s6.1 152 20).toNatClampNeg = ((s.1 152 20).toInt - 1).toNat := by unfold Int32.toNatClampNeg; rw [f20]
        have k160 : s6.1 160 = s.1 160 := by rw [h6.2, wupI_n (by omega)]
        have k155 : s6.1 155 = s.1 155 := by rw [h6.2, wupI_n (by omega)]
        have k154 : s6.1 154 = s.1 154 := by rw [h6.2, wupI_n (by omega)]
        have kf : ∀ j, j ≠ 20 → s6.1 152 j = s.1 152 j := fun j hj => by rw [h6.2]; exact wup_nb hj
        have g6' : PI t s6 := by
          obtain ⟨p1, p2, p3, p4, p5, p6, p7⟩ := g
          (first | unfold PI PJ | unfold PJ)
          rw [kf 1 (by omega), kf 12 (by omega), kf 15 (by omega), kf 16 (by omega), k155]
          exact ⟨p1, p2, p3, p4, by omega, by omega, p7⟩
        have hc6 : CS t b (nb (s.1 160) (s.1 152 20).toNatClampNeg + 1) s6 := by
          unfold CS Cd at *
          rw [k155, k154, kf 16 (by omega)]
          exact hc
        refine t_bind (t_ldI (n := 400) (by omega) (by omega)) (fun t7 h7 => ?_)
        rw [n6, k160] at h7
        have e72 : t7 = t2 := by rw [h7, h2]
        refine t_bind (wX11_puts_T g6' ht (by rw [k155, f20, kf 12 (by omega)]; omega)) (fun s9 h9 => ?_)
        have g9 := h9.pi g6' (by rw [k155, f20, kf 12 (by omega)]; omega)
        have q20 : s9.1 152 20 = s6.1 152 20 := by rw [h9.2.2.2.1]
        have nbe : nb (s.1 160) (s.1 152 20).toNatClampNeg = nb (s.1 160) ((s.1 152 20).toInt - 1).toNat + (if t2 = 12 ∨ t2 = 13 then 1 else 0) := by
          have : (s.1 152 20).toNatClampNeg = ((s.1 152 20).toInt - 1).toNat + 1 := by unfold Int32.toNatClampNeg; omega
          rw [this, nb, ← h2]
        have ho : opn t2 := by rw [h2]; exact hO _ (by omega)
        have hc9 : CS t b (nb (s.1 160) ((s.1 152 20).toInt - 1).toNat + 1) s9 := by
          have hb9 : ((nb (s.1 160) ((s.1 152 20).toInt - 1).toNat + 1 : Nat) : Int) ≤ (s6.1 152 16).toInt := by
            have := hc6.2.2
            rw [nbe] at this
            omega
          refine h9.cs hc6 ?_ hb9
          rw [nbe, e72]
          rcases ho with q | q | q | q
          · rw [q]
            rw [if_neg (by decide), Nat.add_zero]
            exact hs_not (by omega)
          · rw [q]
            rw [if_pos (by decide)]
            exact hs_op (by unfold opc; decide) (by omega)
          · rw [q]
            rw [if_pos (by decide)]
            exact hs_op (by unfold opc; decide) (by omega)
          · exfalso
            apply c3
            rw [h3, q]
            rw [Int32.lt_iff_toInt_lt]
            have : (stv 91).toInt = 0 := by decide
            omega
        refine t_bind (t_ldI (n := 400) (by rw [q20]; omega) (by rw [q20]; omega)) (fun t11 _ => ?_)
        have nx : ∀ u : wS, wA bO s9 u → u.1 160 = s9.1 160 → u.1 152 20 = s9.1 152 20 → Tot (wX11_settles_h0 x1 n u) (fun r => SE t x1 b s r) := by
          intro u au k1 k2
          have au' : wA (bT t) s9 u := au.mono bO_le_bT
          have ku : ∀ j, j ≠ 17 → j ≠ 20 → u.1 152 j = s9.1 152 j := fun j h1 h2 => au 152 j (by
            unfold bO
            have e1 : Nat.beq j 17 = false := by cases e : Nat.beq j 17 with | false => rfl | true => exact absurd (Nat.eq_of_beq_eq_true e) h1
            have e2 : Nat.beq j 20 = false := by cases e : Nat.beq j 20 with | false => rfl | true => exact absurd (Nat.eq_of_beq_eq_true e) h2
            rw [e1, e2]
            rfl)
          have u155 : u.1 155 = s9.1 155 := funext fun j => au 155 j rfl
          have u154 : u.1 154 = s9.1 154 := funext fun j => au 154 j rfl
          have gu : PI t u := by
            (first | unfold PI PJ at * | unfold PJ at *)
            rw [ku 1 (by omega) (by omega), ku 12 (by omega) (by omega), ku 15 (by omega) (by omega), ku 16 (by omega) (by omega), k2, u155]
            exact g9
          have d160 : u.1 160 = s.1 160 := by rw [k1, h9.2.2.2.2, k160]
          have d20 : u.1 152 20 = s6.1 152 20 := by rw [k2, q20]
          refine t_mono (ih gu ?_ ?_ ?_) (fun r hr => ?_)
          · intro i hi
            rw [d20, f20] at hi
            rw [d160]
            exact hO i (by omega)
          · rw [d160, d20, n6]
            unfold CS Cd at *
            rw [u155, u154, ku 16 (by omega) (by omega)]
            exact hc9
          · rw [d20, f20]; omega
          · obtain ⟨r1, r2, r3, r4, r5, r6, r7, r8⟩ := hr
            rw [d160] at r3 r4 r7 r8
            rw [d20, f20] at r3 r8
            have pu : Pr t s u := by
              have z1 : Pr t s s6 := by unfold Pr Cd; rw [k155, k154]; exact ⟨Int.le_refl _, fun _ _ => rfl⟩
              have z2 : Pr t s9 u := by unfold Pr Cd; rw [u155, u154]; exact ⟨Int.le_refl _, fun _ _ => rfl⟩
              exact (z1.trans h9.pr).trans z2
            refine ⟨((h6.1.trans (h9.1.mono bE_le_bT)).trans au').trans r1, r2, ⟨⟨by omega, by rw [u155, h9.2.1, k155] at r3; omega⟩, r3.2⟩, r4, pu.trans r5, ⟨?_, ?_⟩, r7, fun i hi hs => ?_⟩
            · rw [r6.1, ku 12 (by omega) (by omega), h9.2.2.2.1, kf 12 (by omega)]
            · rw [r6.2, ku 16 (by omega) (by omega), h9.2.2.2.1, kf 16 (by omega)]
            · refine r8 i ?_ hs
              by_cases hie : (i : Int) = (s.1 152 20).toInt - 1
              · exfalso
                apply c3
                rw [h3, h2, ← hie, Int.toNat_natCast]
                exact hs
              · omega
        refine t_ite (fun _ => ?_) (fun _ => nx s9 wA.refl rfl rfl)
        refine t_bind (t_pfI (B := bO) rfl) (fun s13 h13 => ?_)
        exact nx s13 h13.1 (by rw [h13.2, wupI_n (by omega)]) (by rw [h13.2]; exact wup_nb (by decide))
    · have h0 := t_ge c0
      rw [t_i0] at h0
      exact ⟨wA.refl, g, ⟨⟨Int.le_refl _, Int.le_refl _⟩, rfl⟩, hc, ⟨Int.le_refl _, fun _ _ => rfl⟩, ⟨rfl, rfl⟩, Or.inl (by omega), fun i hi _ => hi⟩
theorem wX11_settles_T {t b : Nat} {x1 : Int32} {s : wS} (ht : t ≤ 5) (hx : 1 ≤ x1.toInt) (g : PI t s) (hO : OS s) (hc : CS t b (nb (s.1 160) (s.1 152 20).toNatClampNeg + 1) s) : Tot (wX11_settles x1 s) (fun r => SE t x1 b s r) := by
  unfold wX11_settles
  exact t_bind (wX11_settles_h0_T ht hx _ g hO hc (by have e : ((wFuel : Nat) : Int) = 1099511627776 := rfl; have := Int32.toInt_lt (s.1 152 20); omega)) (fun s15 h => t_some h)
end
section
/-! The reference reads: FACTS among brackets, TESTS. -/
theorem LT.sb {s : wS} (h : LT s) : SB s := fun _ e => by
  have := h.2.1
  rw [e] at this
  exact absurd this (by decide)
/-- on the way to a FACT's SUM -/
noncomputable def FA (t : Nat) (s0 s : wS) : Prop := wA (bT t) s0 s ∧ PI t s ∧ OS s ∧ ((s0.1 152 20).toInt ≤ (s.1 152 20).toInt ∧ ∀ i : Nat, (i : Int) < (s0.1 152 20).toInt → s.1 160 i = s0.1 160 i) ∧ nb (s.1 160) (s.1 152 20).toNatClampNeg = nb (s0.1 160) (s0.1 152 20).toNatClampNeg ∧ Pr t s0 s ∧ (∀ b h, CS t b h s0 → CS t b h s) ∧ (s0.1 152 12).toInt ≤ (s.1 152 12).toInt
theorem FA.refl {t : Nat} {s : wS} (g : PI t s) (h : OS s) : FA t s s := ⟨wA.refl, g, h, ⟨Int.le_refl _, fun _ _ => rfl⟩, rfl, ⟨Int.le_refl _, fun _ _ => rfl⟩, fun _ _ h => h, Int.le_refl _⟩
theorem FA.on {t : Nat} {s0 s u : wS} (h : FA t s0 s) (o : ON s u) : FA t s0 u := by
  obtain ⟨h1, h2, h3, h4, h5, h6, h7, h8⟩ := h
  have a : wA bF s u := o.1.mono b12_le_bF
  have e160 : u.1 160 = s.1 160 := (sF_of a).2.2.2.2.2.2
  have e20 : u.1 152 20 = s.1 152 20 := (sF_of a).2.2.1
  refine ⟨h1.trans (a.mono bF_le_bT), o.pi h2, ?_, ?_, ?_, h6.trans (Pr_F a), fun b h hc => CS_F a (by rw [o.1 152 16 rfl]; omega) (h7 b h hc), by have := o.2.1; omega⟩
  · unfold OS; rw [e160, e20]; exact h3
  · rw [e160, e20]; exact h4
  · rw [e160, e20]; exact h5
/-- a bracket or a not, and a sign passed behind it -/
theorem FA.opd {t : Nat} {x : Int32} {s0 s u w : wS} (h : FA t s0 s) (hu : wA bO s u) (h20 : (u.1 152 20).toInt = (s.1 152 20).toInt + 1) (h160 : u.1 160 = upd (s.1 160) (s.1 152 20).toNatClampNeg x) (hx : x = 11 ∨ x = 91) (hw : wA b12 u w) (hN : (s.1 152 12).toInt + 1 ≤ (w.1 152 12).toInt) (hT : (w.1 152 12).toInt ≤ (s.1 152 1).toInt) : FA t s0 w := by
  obtain ⟨h1, h2, h3, h4, h5, h6, h7, h8⟩ := h
  have au : wA (bT t) s u := hu.mono bO_le_bT
  have aw : wA bF u w := hw.mono b12_le_bF
  have e160 : w.1 160 = upd (s.1 160) (s.1 152 20).toNatClampNeg x := by rw [(sF_of aw).2.2.2.2.2.2, h160]
  have e20 : (w.1 152 20).toInt = (s.1 152 20).toInt + 1 := by rw [(sF_of aw).2.2.1, h20]
  have e155 : w.1 155 = s.1 155 := by rw [(sF_of aw).2.2.2.1]; exact funext fun j => hu 155 j rfl
  have e154 : w.1 154 = s.1 154 := by rw [(sF_of aw).2.2.2.2.2.1]; exact funext fun j => hu 154 j rfl
  have e1 : w.1 152 1 = s.1 152 1 := by rw [(sF_of aw).1]; exact hu 152 1 rfl
  have e15 : w.1 152 15 = s.1 152 15 := by rw [(sF_of aw).2.1]; exact hu 152 15 rfl
  have e16 : w.1 152 16 = s.1 152 16 := by rw [hw 152 16 rfl]; exact hu 152 16 rfl
  have g5 := h2.2.2.2.2.1
  have en : (w.1 152 20).toNatClampNeg = (s.1 152 20).toNatClampNeg + 1 := by unfold Int32.toNatClampNeg; omega
  refine ⟨(h1.trans au).trans (aw.mono bF_le_bT), ?_, ?_, ⟨by omega, fun i hi => ?_⟩, ?_, h6.trans ?_, fun b h hc => ?_, by omega⟩
  · obtain ⟨p1, p2, p3, p4, p5, p6, p7⟩ := h2
    (first | unfold PI PJ | unfold PJ)
    rw [e1, e15, e155, e16]
    exact ⟨p1, ⟨by omega, hT⟩, p3, p4, by omega, by omega, p7⟩
  · intro i hi
    rw [e160]
    unfold upd
    by_cases e : i = (s.1 152 20).toNatClampNeg
    · rw [if_pos e]
      rcases hx with q | q
      · exact Or.inl q
      · exact Or.inr (Or.inr (Or.inr q))
    · rw [if_neg e]
      refine h3 i ?_
      rw [e20] at hi
      unfold Int32.toNatClampNeg at e
      omega
  · rw [e160]
    unfold upd
    rw [if_neg (by unfold Int32.toNatClampNeg; omega)]
    exact h4.2 i hi
  · rw [en, e160, nb, ← h5]
    rw [nb_congr (f := s.1 160) (fun i hi => by unfold upd; rw [if_neg (by omega)])]
    have : ¬ (upd (s.1 160) (s.1 152 20).toNatClampNeg x (s.1 152 20).toNatClampNeg = 12 ∨ upd (s.1 160) (s.1 152 20).toNatClampNeg x (s.1 152 20).toNatClampNeg = 13) := by
      unfold upd
      rw [if_pos rfl]
      rcases hx with q | q <;> rw [q] <;> decide
    rw [if_neg this, Nat.add_zero]
  · unfold Pr Cd
    rw [e155, e154]
    exact ⟨Int.le_refl _, fun _ _ => rfl⟩
  · have := h7 b h hc
    unfold CS Cd at *
    rw [e155, e154, e16]
    exact this
theorem wX11_fact_h2_T {t : Nat} {s0 : wS} (ht : t ≤ 5) : ∀ (n : Nat) {x1 : Int32} {s : wS}, FA t s0 s → (x1 = 0 ∨ x1 = 1) → (s.1 152 1).toInt - (s.1 152 12).toInt + x1.toInt < (n : Int) → Tot (wX11_fact_h2 n x1 s) (Sum.elim (fun r => FA t s0 r) (Sum.elim (fun r => wA (bT t) s0 r ∧ FW r) (fun r => wA (bT t) s0 r ∧ FW r))) := by
  intro n
  induction n with
  | zero =>
    intro x1 s h hx hm
    exfalso
    have := h.2.1.2.1
    rcases hx with rfl | rfl
    · rw [show (0 : Int32).toInt = 0 from rfl] at hm; omega
    · rw [show (1 : Int32).toInt = 1 from rfl] at hm; omega
  | succ n ih =>
    intro x1 s h hx hm
    rw [wX11_fact_h2]
    refine t_ite (fun _ => t_some h) (fun c0 => ?_)
    obtain rfl : x1 = 1 := hx.resolve_left c0
    have i1 : (1 : Int32).toInt = 1 := rfl
    rw [i1] at hm
    refine t_bind (wX11_see_T h.2.1.tp) (fun r h2 => ?_)
    obtain ⟨t2, s3⟩ := r
    obtain ⟨o3, l3, b3, -⟩ := h2
    dsimp only at o3 l3 b3 ⊢
    have f3 := h.on o3
    refine t_bind (wX11_isWord_T f3.2.1.tp) (fun r h5 => ?_)
    obtain ⟨t5, s6⟩ := r
    obtain ⟨o6, l6, e6⟩ := h5
    dsimp only at o6 l6 e6 ⊢
    obtain rfl := e6 b3
    have f6 := f3
    have g6 := f6.2.1
    have p1 := g6.1
    have p2 := g6.2.1
    have p4 := g6.2.2.2.1
    have p5 := g6.2.2.2.2.1
    have p6 := g6.2.2.2.2.2.1
    have q1 : (s6.1 152 1).toInt = (s.1 152 1).toInt := by rw [o3.1 152 1 rfl]
    have q2 := o3.2.1
    refine t_ite (fun _ => ?_) (fun c5 => ?_)
    · refine t_ite (fun c91 => ?_) (fun _ => ?_)
      · have hlt := l3 (by rw [c91]; decide)
        refine t_bind (wX11_opens_T p2.1 (by omega) p5 (by omega)) (fun r h10 => ?_)
        obtain ⟨t10, s11⟩ := r
        dsimp only at h10 ⊢
        refine t_ite (fun c => t_some ?_) (fun c => ?_)
        · rcases h10 with q | q
          · exact ⟨f6.1.trans (q.2.1.mono bF_le_bT), q.2.2⟩
          · rw [q.1] at c; exact absurd c (by decide)
        · rcases h10 with q | q
          · exact absurd q.1 c
          · obtain ⟨-, au, u20, u160⟩ := q
            have u12 : s11.1 152 12 = s6.1 152 12 := au 152 12 rfl
            refine t_bind (t_pfI (B := b12) rfl) (fun s14 h14 => ?_)
            have e14 : (s14.1 152 12).toInt = (s6.1 152 12).toInt + 1 := by rw [h14.2, wup_same, u12]; exact t_p1 p2.1 (by omega)
            unfold wX11_fact_j72
            have u1 : (s14.1 152 1).toInt = (s6.1 152 1).toInt := by rw [h14.1 152 1 rfl, au 152 1 rfl]
            exact ih (f6.opd au u20 u160 (Or.inr rfl) h14.1 (by omega) (by omega)) (Or.inr rfl) (by rw [i1]; omega)
      · unfold wX11_fact_j72
        exact ih f6 (Or.inl rfl) (by rw [show (0 : Int32).toInt = 0 from rfl]; omega)
    · have hL := (l6.resolve_left c5).2
      have hlt := hL.1
      refine t_bind (wX11_opens_T p2.1 (by omega) p5 (by omega)) (fun r h10 => ?_)
      obtain ⟨t15, s16⟩ := r
      dsimp only at h10 ⊢
      refine t_ite (fun c => t_some ?_) (fun c => ?_)
      · rcases h10 with q | q
        · exact ⟨f6.1.trans (q.2.1.mono bF_le_bT), q.2.2⟩
        · rw [q.1] at c; exact absurd c (by decide)
      · rcases h10 with q | q
        · exact absurd q.1 c
        · obtain ⟨-, au, u20, u160⟩ := q
          have u12 : s16.1 152 12 = s6.1 152 12 := au 152 12 rfl
          have u1 : s16.1 152 1 = s6.1 152 1 := au 152 1 rfl
          have u153 : s16.1 153 = s6.1 153 := funext fun j => au 153 j rfl
          have tp : TP s16 := by unfold TP; rw [u12, u1]; exact ⟨p1, p2⟩
          have hL2 : LT s16 := by unfold LT LTx at *; rw [u12, u1, u153]; exact hL
          refine t_bind (wX11_passWord_T tp) (fun s20 h20 => ?_)
          have k1 := h20.2 hL2
          have k2 := h20.1.2.2
          rw [u12] at k1
          rw [u1] at k2
          unfold wX11_fact_j72
          have u1' : (s20.1 152 1).toInt = (s6.1 152 1).toInt := by rw [h20.1.1 152 1 rfl, u1]
          exact ih (f6.opd au u20 u160 (Or.inl rfl) h20.1.1 (by omega) (by omega)) (Or.inr rfl) (by rw [i1]; omega)
/-- a FACT was read -/
noncomputable def FC (t : Nat) (s0 s : wS) : Prop := PI t s ∧ OS s ∧ ((s0.1 152 20).toInt ≤ (s.1 152 20).toInt ∧ ∀ i : Nat, (i : Int) < (s0.1 152 20).toInt → s.1 160 i = s0.1 160 i) ∧ nb (s.1 160) (s.1 152 20).toNatClampNeg = nb (s0.1 160) (s0.1 152 20).toNatClampNeg ∧ Pr t s0 s ∧ (∀ b h, CS t b h s0 → CS t b (h + 1) s) ∧ (s0.1 152 12).toInt + 1 ≤ (s.1 152 12).toInt
theorem bE_160 {t : Nat} {s s' : wS} (h : wA (bE t) s s') : s'.1 160 = s.1 160 := funext fun j => h 160 j (bE_k (by omega) (by omega) rfl)
theorem wX11_fact_T {t : Nat} {s : wS} (g : PI t s) (hO : OS s) (ht : t ≤ 5) : Tot (wX11_fact s) (fun r => wA (bT t) s r.2 ∧ ((r.1 = 0 ∧ FW r.2) ∨ (r.1 = 1 ∧ FC t s r.2))) := by
  unfold wX11_fact
  refine t_bind (wX11_fact_h2_T ht _ (FA.refl g hO) (Or.inr rfl) (by have e : ((wFuel : Nat) : Int) = 1099511627776 := rfl; rw [show (1 : Int32).toInt = 1 from rfl]; have := g.1; have := g.2.1; omega)) (fun z hz => ?_)
  rcases z with s23 | s30 | s33
  · refine t_bind (wX11_compare_T hz.2.1 ht) (fun r h => ?_)
    obtain ⟨t26, s27⟩ := r
    obtain ⟨a, h⟩ := h
    dsimp only at a h ⊢
    obtain ⟨h1, h2, h3, h4, h5, h6, h7, h8⟩ := hz
    refine t_bind (t_rtZ (by rcases h with q | q; exact Or.inl q.1; exact Or.inr q.1)) (fun t29 h29 => t_some ⟨h1.trans (a.mono bE_le_bT), ?_⟩)
    rcases h with q | q
    · exact Or.inl ⟨by show t29 = 0; rw [h29, q.1], q.2⟩
    · obtain ⟨q0, v1, v2, v3, v4, v5⟩ := q
      have e160 := bE_160 a
      have e20 := bE_20 a
      refine Or.inr ⟨by show t29 = 1; rw [h29, q0], v1, ?_, ?_, ?_, h6.trans v2, fun b h hc => v3 b h (h7 b h hc), by show _ ≤ (s27.1 152 12).toInt; omega⟩
      · unfold OS; dsimp only; rw [e160, e20]; exact h3
      · dsimp only; rw [e160, e20]; exact h4
      · dsimp only; rw [e160, e20]; exact h5
  · exact t_some ⟨hz.1, Or.inl ⟨rfl, hz.2⟩⟩
  · exact t_some ⟨hz.1, Or.inl ⟨rfl, hz.2⟩⟩
theorem wX11_isInside_h2_T {s : wS} (h0 : 0 ≤ (s.1 152 20).toInt) (h4 : (s.1 152 20).toInt ≤ 400) : ∀ (n : Nat) {x1 : Int32}, 0 ≤ x1.toInt → (∀ i : Nat, (i : Int) < x1.toInt → ¬ s.1 160 i = 91) → 2147483648 - x1.toInt < (n : Int) → Tot (wX11_isInside_h2 s n x1) (Sum.elim (fun _ => ∀ i : Nat, (i : Int) < (s.1 152 20).toInt → ¬ s.1 160 i = 91) (fun _ => ∃ i : Nat, (i : Int) < (s.1 152 20).toInt ∧ s.1 160 i = 91)) := by
  intro n
  induction n with
  | zero => intro x1 _ _ hm; exact (t_m0 hm).elim
  | succ n ih =>
    intro x1 hi hp hm
    rw [wX11_isInside_h2]
    refine t_ite (fun c => ?_) (fun c => t_some ?_)
    · have hc := t_lt c
      refine t_bind (t_ldI (n := 400) hi (by omega)) (fun t2 h2 => t_ite (fun c2 => t_some ⟨x1.toNatClampNeg, by unfold Int32.toNatClampNeg; omega, by rw [← h2]; exact c2⟩) (fun c2 => ?_))
      have e := t_inc c
      refine ih (t_n1 c hi) (fun i hl => ?_) (t_m1 c hm)
      rw [e] at hl
      by_cases q : (i : Int) = x1.toInt
      · have : i = x1.toNatClampNeg := by unfold Int32.toNatClampNeg; omega
        rw [this, ← h2]
        exact c2
      · exact hp i (by omega)
    · have hc := t_ge c
      exact fun i hl => hp i (by omega)
theorem wX11_isInside_T {s : wS} (h0 : 0 ≤ (s.1 152 20).toInt) (h4 : (s.1 152 20).toInt ≤ 400) : Tot (wX11_isInside s) (fun t => (t = 0 ∧ ∀ i : Nat, (i : Int) < (s.1 152 20).toInt → ¬ s.1 160 i = 91) ∨ (t = 1 ∧ ∃ i : Nat, (i : Int) < (s.1 152 20).toInt ∧ s.1 160 i = 91)) := by
  unfold wX11_isInside
  refine t_bind (wX11_isInside_h2_T h0 h4 _ (by decide) (fun i hi => by rw [t_i0] at hi; omega) t_mi) (fun z hz => ?_)
  rcases z with z | z
  · exact t_some (Or.inl ⟨rfl, hz⟩)
  · exact t_some (Or.inr ⟨rfl, hz⟩)
/-- an operand stands -/
noncomputable def CL (t b : Nat) (s0 s : wS) : Prop := wA (bT t) s0 s ∧ PI t s ∧ OS s ∧ CS t b (nb (s.1 160) (s.1 152 20).toNatClampNeg + 1) s ∧ Pr t s0 s ∧ (s0.1 152 12).toInt ≤ (s.1 152 12).toInt
theorem CL.settle {t b : Nat} {x : Int32} {s0 s r : wS} (h : CL t b s0 s) (g : SE t x b s r) : CL t b s0 r := by
  obtain ⟨h1, h2, h3, h4, h5, h6⟩ := h
  obtain ⟨r1, r2, r3, r4, r5, r6, r7, r8⟩ := g
  refine ⟨h1.trans r1, r2, fun i hi => ?_, ?_, h5.trans r5, by rw [r6.1]; exact h6⟩
  · rw [r3.2]; exact h3 i (by have := r3.1.1; omega)
  · rw [r3.2]; exact r4
theorem CL.on {t b : Nat} {s0 s u : wS} (h : CL t b s0 s) (o : ON s u) : CL t b s0 u := by
  obtain ⟨h1, h2, h3, h4, h5, h6⟩ := h
  have a : wA bF s u := o.1.mono b12_le_bF
  have e160 : u.1 160 = s.1 160 := (sF_of a).2.2.2.2.2.2
  have e20 : u.1 152 20 = s.1 152 20 := (sF_of a).2.2.1
  refine ⟨h1.trans (a.mono bF_le_bT), o.pi h2, ?_, ?_, h5.trans (Pr_F a), by have := o.2.1; omega⟩
  · unfold OS; rw [e160, e20]; exact h3
  · rw [e160, e20]; exact CS_F a (by rw [o.1 152 16 rfl]; omega) h4
theorem stv_91 {x : Int32} (h : opn x) (h2 : stv x < 1) : x = 91 := by
  rcases h with rfl | rfl | rfl | rfl
  · exact absurd h2 (by decide)
  · exact absurd h2 (by decide)
  · exact absurd h2 (by decide)
  · rfl
theorem wX11_closes_h5_T {t b : Nat} {s0 : wS} (ht : t ≤ 5) : ∀ (n : Nat) {s : wS}, CL t b s0 s → (s.1 152 1).toInt - (s.1 152 12).toInt < (n : Int) → Tot (wX11_closes_h5 n s) (fun r => CL t b s0 r) := by
  intro n
  induction n with
  | zero => intro s h hm; exfalso; have := h.2.1.2.1; omega
  | succ n ih =>
    intro s h hm
    rw [wX11_closes_h5]
    refine t_bind (wX11_see_T h.2.1.tp) (fun r h4 => ?_)
    obtain ⟨t4, s5⟩ := r
    obtain ⟨o5, l5, -⟩ := h4
    dsimp only at o5 l5 ⊢
    have c5 := h.on o5
    refine t_ite (fun c93 => ?_) (fun _ => t_some c5)
    have hlt := l5 (by rw [c93]; decide)
    have g5 := c5.2.1
    have p1 := g5.1
    have p2 := g5.2.1
    have p4 := g5.2.2.2.1
    have p5 := g5.2.2.2.2.1
    have p6 := g5.2.2.2.2.2.1
    refine t_bind (wX11_isInside_T p5 (by omega)) (fun t8 h8 => t_ite (fun _ => t_some c5) (fun c8 => ?_))
    obtain ⟨i, hi, hi91⟩ : ∃ i : Nat, (i : Int) < (s5.1 152 20).toInt ∧ s5.1 160 i = 91 := by
      rcases h8 with q | q
      · exact absurd q.1 c8
      · exact q.2
    refine t_bind (wX11_settles_T (b := b) ht (by decide) g5 c5.2.2.1 c5.2.2.2.1) (fun s12 h12 => ?_)
    have c12 := c5.settle h12
    obtain ⟨r1, r2, r3, r4, r5, r6, r7, r8⟩ := h12
    have hi12 := r8 i hi (by rw [hi91]; decide)
    have htop : s5.1 160 ((s12.1 152 20).toInt - 1).toNat = 91 := by
      rcases r7 with q | q
      · omega
      · exact stv_91 (c5.2.2.1 _ (by have := r3.1.1; omega)) q
    have e20 : (s12.1 152 20 - 1).toInt = (s12.1 152 20).toInt - 1 := t_m11 (by omega) (by have := r3.1.1; omega)
    refine t_bind (t_pfI (B := bO) rfl) (fun s14 h14 => ?_)
    refine t_bind (t_pfI (B := bO) rfl) (fun s15 h15 => ?_)
    refine t_bind (t_pfI (B := b12) rfl) (fun s16 h16 => ?_)
    have a15 : wA bO s12 s15 := h14.1.trans h15.1
    have k20 : (s16.1 152 20).toInt = (s12.1 152 20).toInt - 1 := by
      rw [h16.1 152 20 rfl, h15.2, wup_nb (by decide), h14.2, wup_same, e20]
    have k12 : (s16.1 152 12).toInt = (s12.1 152 12).toInt + 1 := by
      rw [h16.2, wup_same, h15.2, wup_nb (by decide), h14.2, wup_nb (by decide)]
      exact t_p1 (by rw [r6.1]; omega) (by rw [r6.1]; omega)
    have k160 : s16.1 160 = s12.1 160 := by
      rw [h16.2, wupI_n (by omega), h15.2, wupI_n (by omega), h14.2, wupI_n (by omega)]
    have k155 : s16.1 155 = s12.1 155 := by
      rw [h16.2, wupI_n (by omega), h15.2, wupI_n (by omega), h14.2, wupI_n (by omega)]
    have k154 : s16.1 154 = s12.1 154 := by
      rw [h16.2, wupI_n (by omega), h15.2, wupI_n (by omega), h14.2, wupI_n (by omega)]
    have kf : ∀ j, j ≠ 12 → j ≠ 17 → j ≠ 20 → s16.1 152 j = s12.1 152 j := fun j j1 j2 j3 => by
      rw [h16.2, wup_nb j1, h15.2, wup_nb j2, h14.2, wup_nb j3]
    have n16 : (s12.1 152 20).toNatClampNeg = (s16.1 152 20).toNatClampNeg + 1 := by unfold Int32.toNatClampNeg; omega
    have f1 : s12.1 152 1 = s5.1 152 1 := r1 152 1 (by
      unfold bT
      rw [bE_k (by omega) (by omega) rfl]
      rfl)
    have c16 : CL t b s0 s16 := by
      obtain ⟨q1, q2, q3, q4, q5, q6⟩ := c12
      refine ⟨(q1.trans (a15.mono bO_le_bT)).trans ((h16.1.mono b12_le_bF).mono bF_le_bT), ?_, ?_, ?_, q5.trans ?_, by omega⟩
      · obtain ⟨z1, z2, z3, z4, z5, z6, z7⟩ := q2
        (first | unfold PI PJ | unfold PJ)
        rw [kf 1 (by omega) (by omega) (by omega), kf 15 (by omega) (by omega) (by omega), kf 16 (by omega) (by omega) (by omega), k155]
        exact ⟨z1, ⟨by omega, by rw [f1]; rw [r6.1] at k12; omega⟩, z3, z4, by omega, by omega, z7⟩
      · intro j hj
        rw [k160]
        exact q3 j (by omega)
      · rw [n16, nb] at q4
        rw [k160]
        have : ¬ (s12.1 160 (s16.1 152 20).toNatClampNeg = 12 ∨ s12.1 160 (s16.1 152 20).toNatClampNeg = 13) := by
          have e : (s16.1 152 20).toNatClampNeg = ((s12.1 152 20).toInt - 1).toNat := by unfold Int32.toNatClampNeg; omega
          rw [e, r3.2, htop]
          decide
        rw [if_neg this, Nat.add_zero] at q4
        unfold CS Cd at *
        rw [k155, k154, kf 16 (by omega) (by omega) (by omega)]
        exact q4
      · unfold Pr Cd
        rw [k155, k154]
        exact ⟨Int.le_refl _, fun _ _ => rfl⟩
    refine t_bind (wX11_settles_T (b := b) ht (by decide) c16.2.1 c16.2.2.1 c16.2.2.2.1) (fun s18 h18 => ?_)
    refine ih (c16.settle h18) ?_
    have z1 : (s18.1 152 12).toInt = (s16.1 152 12).toInt := by rw [h18.2.2.2.2.2.1.1]
    have z2 : (s18.1 152 1).toInt = (s.1 152 1).toInt := by
      rw [h18.1 152 1 (by unfold bT; rw [bE_k (by omega) (by omega) rfl]; rfl), kf 1 (by omega) (by omega) (by omega), f1, o5.1 152 1 rfl]
    have z3 := o5.2.1
    rw [r6.1] at k12
    omega
theorem wX11_closes_T {t b : Nat} {s0 s : wS} (ht : t ≤ 5) (h : CL t b s0 s) : Tot (wX11_closes s) (fun r => CL t b s0 r) := by
  unfold wX11_closes
  refine t_bind (wX11_settles_T (b := b) ht (by decide) h.2.1 h.2.2.1 h.2.2.2.1) (fun s2 h2 => ?_)
  have c2 := h.settle h2
  exact t_bind (wX11_closes_h5_T ht _ c2 (t_wf c2.2.1.tp)) (fun s21 h21 => t_some h21)
/-- an operand is due -/
noncomputable def TD (t b : Nat) (s0 s : wS) : Prop := wA (bT t) s0 s ∧ PI t s ∧ OS s ∧ CS t b (nb (s.1 160) (s.1 152 20).toNatClampNeg) s ∧ Pr t s0 s ∧ (s0.1 152 12).toInt ≤ (s.1 152 12).toInt
theorem CL.pre {t b : Nat} {s0 s r : wS} (a : wA (bT t) s0 s) (p : Pr t s0 s) (hN : (s0.1 152 12).toInt ≤ (s.1 152 12).toInt) (h : CL t b s r) : CL t b s0 r := ⟨a.trans h.1, h.2.1, h.2.2.1, h.2.2.2.1, p.trans h.2.2.2.2.1, by have := h.2.2.2.2.2; omega⟩
theorem bT_1 {t : Nat} {s s' : wS} (h : wA (bT t) s s') : s'.1 152 1 = s.1 152 1 := h 152 1 (by unfold bT; rw [bE_k (by omega) (by omega) rfl]; rfl)
theorem wX11_tested_h12_T {t b : Nat} {s0 : wS} (ht : t ≤ 5) : ∀ (n : Nat) {x1 : Int32} {s : wS}, ((x1 = 0 ∧ CL t b s0 s) ∨ (x1 = 1 ∧ TD t b s0 s)) → (s.1 152 1).toInt - (s.1 152 12).toInt + x1.toInt < (n : Int) → Tot (wX11_tested_h12 n x1 s) (Sum.elim (fun r => CL t b s0 r) (fun r => wA (bT t) s0 r ∧ FW r)) := by
  intro n
  induction n with
  | zero =>
    intro x1 s h hm
    exfalso
    rcases h with ⟨rfl, h⟩ | ⟨rfl, h⟩
    · have := h.2.1.2.1
      rw [show (0 : Int32).toInt = 0 from rfl] at hm; omega
    · have := h.2.1.2.1
      rw [show (1 : Int32).toInt = 1 from rfl] at hm; omega
  | succ n ih =>
    intro x1 s h hm
    rw [wX11_tested_h12]
    refine t_ite (fun c => t_some ?_) (fun c => ?_)
    · rcases h with h | h
      · exact h.2
      · rw [h.1] at c; exact absurd c (by decide)
    · obtain ⟨hx1, hT⟩ := h.resolve_left (fun q => c q.1)
      clear h
      subst hx1
      have i1 : (1 : Int32).toInt = 1 := rfl
      rw [i1] at hm
      obtain ⟨h1, h2, h3, h4, h5, h6⟩ := hT
      refine t_bind (wX11_fact_T h2 h3 ht) (fun r hf => ?_)
      obtain ⟨t4, s5⟩ := r
      obtain ⟨a5, hf⟩ := hf
      dsimp only at a5 hf ⊢
      refine t_ite (fun c => t_some ⟨h1.trans a5, fw_of hf c⟩) (fun c4 => ?_)
      obtain ⟨f1, f2, f3, f4, f5, f6, f7⟩ := ok_of hf c4
      have cl5 : CL t b s5 s5 := ⟨wA.refl, f1, f2, by rw [f4]; exact f6 b _ h4, ⟨Int.le_refl _, fun _ _ => rfl⟩, Int.le_refl _⟩
      refine t_bind (wX11_closes_T ht cl5) (fun s9 h9 => ?_)
      have n9 := h9.2.2.2.2.2
      have c9 : CL t b s0 s9 := h9.pre (h1.trans a5) (h5.trans f5) (by omega)
      have T9 : s9.1 152 1 = s.1 152 1 := by rw [bT_1 h9.1, bT_1 a5]
      have j76 : ∀ (u : wS) (y : Int32), CL t b s0 u → LT u → (s.1 152 12).toInt + 1 ≤ (u.1 152 12).toInt → u.1 152 1 = s.1 152 1 → (y = 12 ∨ y = 13) → Tot (wX11_tested_j76 (wX11_tested_h12 n) 1 y u) (Sum.elim (fun r => CL t b s0 r) (fun r => wA (bT t) s0 r ∧ FW r)) := by
        intro u y cu lu hNu hTu hy
        unfold wX11_tested_j76
        refine t_bind (wX11_passWord_T cu.2.1.tp) (fun s25 h25 => ?_)
        have k1 := h25.2 lu
        have c25 := cu.on h25.1
        have a25 : wA bF u s25 := h25.1.1.mono b12_le_bF
        have L25 : (s25.1 155 t).toInt = (u.1 155 t).toInt := by rw [(sF_of a25).2.2.2.1]
        have O25 : (s25.1 152 20).toInt = (u.1 152 20).toInt := by rw [(sF_of a25).2.2.1]
        have g6 := cu.2.1.2.2.2.2.2.1
        refine t_bind wX11_strength_T (fun t27 h27 => ?_)
        have hx : 1 ≤ t27.toInt := by rcases hy with q | q <;> rw [h27, q] <;> decide
        refine t_bind (wX11_settles_T (b := b) ht hx c25.2.1 c25.2.2.1 c25.2.2.2.1) (fun s30 h30 => ?_)
        have c30 := c25.settle h30
        obtain ⟨r1, r2, r3, r4, r5, r6, r7, r8⟩ := h30
        have z1 := r2.1
        have z2 := r2.2.1
        have z4 := r2.2.2.2.1
        have z5 := r2.2.2.2.2.1
        have e12 : (s30.1 152 12).toInt = (s25.1 152 12).toInt := by rw [r6.1]
        refine t_bind (t_stI (B := bO) (n := 400) z5 (by omega) (fun _ => rfl)) (fun s32 h32 => ?_)
        refine t_bind (t_pfI (B := bO) rfl) (fun s33 h33 => ?_)
        have f20 : s32.1 152 20 = s30.1 152 20 := by rw [h32.2, wupI_n (by omega)]
        have k20 : (s33.1 152 20).toInt = (s30.1 152 20).toInt + 1 := by
          rw [h33.2, wup_same, f20]
          exact t_p1 z5 (by omega)
        have k160 : s33.1 160 = upd (s30.1 160) (s30.1 152 20).toNatClampNeg y := by
          rw [h33.2, wupI_n (by omega), h32.2, wupI_k]
        have k155 : s33.1 155 = s30.1 155 := by rw [h33.2, wupI_n (by omega), h32.2, wupI_n (by omega)]
        have k154 : s33.1 154 = s30.1 154 := by rw [h33.2, wupI_n (by omega), h32.2, wupI_n (by omega)]
        have kf : ∀ j, j ≠ 20 → s33.1 152 j = s30.1 152 j := fun j j1 => by rw [h33.2, wup_nb j1, h32.2, wupI_n (by omega)]
        have n33 : (s33.1 152 20).toNatClampNeg = (s30.1 152 20).toNatClampNeg + 1 := by unfold Int32.toNatClampNeg; omega
        have T30 : s30.1 152 1 = s25.1 152 1 := bT_1 r1
        obtain ⟨d1, d2, d3, d4, d5, d6⟩ := c30
        refine ih (Or.inr ⟨rfl, (d1.trans (h32.1.mono bO_le_bT)).trans (h33.1.mono bO_le_bT), ?_, ?_, ?_, d5.trans ?_, by rw [kf 12 (by omega)]; exact d6⟩) ?_
        · obtain ⟨p1, p2, p3, p4, p5, p6, p7⟩ := d2
          (first | unfold PI PJ | unfold PJ)
          rw [kf 1 (by omega), kf 12 (by omega), kf 15 (by omega), kf 16 (by omega), k155]
          exact ⟨p1, p2, p3, p4, by omega, by omega, p7⟩
        · intro i hi
          rw [k160]
          unfold upd
          by_cases e : i = (s30.1 152 20).toNatClampNeg
          · rw [if_pos e]
            rcases hy with q | q
            · exact Or.inr (Or.inl q)
            · exact Or.inr (Or.inr (Or.inl q))
          · rw [if_neg e]
            refine d3 i ?_
            unfold Int32.toNatClampNeg at e
            omega
        · rw [n33, k160, nb, nb_congr (f := s30.1 160) (fun i hi => by unfold upd; rw [if_neg (by omega)])]
          have : upd (s30.1 160) (s30.1 152 20).toNatClampNeg y (s30.1 152 20).toNatClampNeg = 12 ∨ upd (s30.1 160) (s30.1 152 20).toNatClampNeg y (s30.1 152 20).toNatClampNeg = 13 := by
            unfold upd
            rw [if_pos rfl]
            exact hy
          rw [if_pos this]
          unfold CS Cd at *
          rw [k155, k154, kf 16 (by omega)]
          exact d4
        · unfold Pr Cd
          rw [k155, k154]
          exact ⟨Int.le_refl _, fun _ _ => rfl⟩
        · rw [kf 1 (by omega), kf 12 (by omega), i1, T30, h25.1.1 152 1 rfl, hTu]
          omega
      have j49 : ∀ (u : wS), CL t b s0 u → LT u → (s.1 152 12).toInt + 1 ≤ (u.1 152 12).toInt → u.1 152 1 = s.1 152 1 → Tot (wX11_tested_j49 (wX11_tested_h12 n) u) (Sum.elim (fun r => CL t b s0 r) (fun r => wA (bT t) s0 r ∧ FW r)) := by
        intro u cu lu hNu hTu
        unfold wX11_tested_j49 wX11_tested_j54
        refine t_ite (fun c => absurd c (by decide)) (fun _ => ?_)
        refine t_bind (wX11_isWord_T cu.2.1.tp) (fun r h20 => ?_)
        obtain ⟨t20, s21⟩ := r
        obtain ⟨-, -, e20⟩ := h20
        dsimp only at e20 ⊢
        obtain rfl := e20 lu.sb
        exact t_ite (fun _ => j76 _ 13 cu lu hNu hTu (Or.inr rfl)) (fun _ => j76 _ 12 cu lu hNu hTu (Or.inl rfl))
      refine t_bind (wX11_isWord_T c9.2.1.tp) (fun r h11 => ?_)
      obtain ⟨t11, s12⟩ := r
      obtain ⟨o12, l12, -⟩ := h11
      dsimp only at o12 l12 ⊢
      have q12 := o12.2.1
      refine t_ite (fun _ => ?_) (fun c11 => j49 s12 (c9.on o12) (l12.resolve_left c11).2 (by omega) (by rw [o12.1 152 1 rfl, T9]))
      refine t_bind (wX11_isWord_T (c9.on o12).2.1.tp) (fun r h15 => ?_)
      obtain ⟨t15, s16⟩ := r
      obtain ⟨o16, l16, -⟩ := h15
      dsimp only at o16 l16 ⊢
      have oo := o12.trans o16
      have q16 := oo.2.1
      refine t_ite (fun _ => ?_) (fun c15 => j49 s16 (c9.on oo) (l16.resolve_left c15).2 (by omega) (by rw [oo.1 152 1 rfl, T9]))
      unfold wX11_tested_j54
      refine t_ite (fun _ => ?_) (fun c => absurd rfl c)
      exact ih (Or.inl ⟨rfl, c9.on oo⟩) (by rw [t_i0, oo.1 152 1 rfl, T9]; omega)
theorem PL_of {t : Nat} {s : wS} (g : PI t s) : PL t s := by
  obtain ⟨p1, p2, p3, p4, p5, p6, p7⟩ := g
  refine ⟨p1, p2, p3, p4, Int.le_refl 0, ?_, p7⟩
  show (s.1 155 t).toInt + 0 ≤ _
  omega
theorem wX11_tested_T {t b : Nat} {s : wS} (g : PL t s) (ht : t ≤ 5) (hb : (b : Int) = (s.1 155 t).toInt) : Tot (wX11_tested s) (fun r => wA (bT t) s r.2 ∧ ((r.1 = 0 ∧ FW r.2) ∨ (r.1 = 1 ∧ PI t r.2 ∧ Pr t s r.2 ∧ CS t b 1 r.2 ∧ (s.1 152 12).toInt ≤ (r.2.1 152 12).toInt))) := by
  unfold wX11_tested
  refine t_bind (t_pfI (B := bO) rfl) (fun s1 h1 => ?_)
  refine t_bind (t_pfI (B := bO) rfl) (fun s2 h2 => ?_)
  have k20 : (s2.1 152 20).toInt = 0 := by rw [h2.2, wup_nb (by decide), h1.2, wup_same]; rfl
  have k155 : s2.1 155 = s.1 155 := by rw [h2.2, wupI_n (by omega), h1.2, wupI_n (by omega)]
  have k154 : s2.1 154 = s.1 154 := by rw [h2.2, wupI_n (by omega), h1.2, wupI_n (by omega)]
  have kf : ∀ j, j ≠ 17 → j ≠ 20 → s2.1 152 j = s.1 152 j := fun j j1 j2 => by rw [h2.2, wup_nb j1, h1.2, wup_nb j2]
  have a2 : wA (bT t) s s2 := (h1.1.trans h2.1).mono bO_le_bT
  have g2 : PI t s2 := by
    obtain ⟨p1, p2, p3, p4, p5, p6, p7⟩ := g
    (first | unfold PI PJ | unfold PJ)
    rw [kf 1 (by omega) (by omega), kf 12 (by omega) (by omega), kf 15 (by omega) (by omega), kf 16 (by omega) (by omega), k155]
    exact ⟨p1, p2, p3, p4, by omega, by omega, p7⟩
  have pr2 : Pr t s s2 := by
    unfold Pr Cd
    rw [k155, k154]
    exact ⟨Int.le_refl _, fun _ _ => rfl⟩
  have c2 : CS t b (nb (s2.1 160) (s2.1 152 20).toNatClampNeg) s2 := by
    have e : (s2.1 152 20).toNatClampNeg = 0 := by unfold Int32.toNatClampNeg; omega
    rw [e]
    have e2 : ((s2.1 155 t).toInt - b).toNat = 0 := by rw [k155]; omega
    refine ⟨by rw [k155]; omega, ?_, g2.2.2.2.2.2.2.1⟩
    rw [e2]
    rfl
  refine t_bind (wX11_tested_h12_T (b := b) (s0 := s2) ht _ (Or.inr ⟨rfl, wA.refl, g2, fun i hi => by omega, c2, ⟨Int.le_refl _, fun _ _ => rfl⟩, Int.le_refl _⟩) (by have e : ((wFuel : Nat) : Int) = 1099511627776 := rfl; rw [show (1 : Int32).toInt = 1 from rfl]; have := g2.1; have := g2.2.1; omega)) (fun z hz => ?_)
  rcases z with s35 | s51
  · obtain ⟨h1', h2', h3', h4', h5', h6'⟩ := hz
    have p5 := h2'.2.2.2.2.1
    have p6 := h2'.2.2.2.2.2.1
    have p1 := h2'.1
    have p2 := h2'.2.1
    have p4 := h2'.2.2.2.1
    refine t_bind (wX11_isInside_T p5 (by omega)) (fun t38 h38 => t_ite (fun c => ?_) (fun _ => ?_))
    · have hno : ∀ i : Nat, (i : Int) < (s35.1 152 20).toInt → ¬ s35.1 160 i = 91 := by
        rcases h38 with q | q
        · exact q.2
        · rw [q.1] at c; exact absurd c (by decide)
      refine t_bind (wX11_settles_T (b := b) ht (by decide) h2' h3' h4') (fun s42 h42 => t_some ?_)
      obtain ⟨r1, r2, r3, r4, r5, r6, r7, r8⟩ := h42
      have hz0 : (s42.1 152 20).toInt = 0 := by
        have r25 := r2.2.2.2.2.1
        by_cases hp : (s42.1 152 20).toInt = 0
        · exact hp
        · exfalso
          have q := r7.resolve_left hp
          exact hno _ (by have := r3.1.1; omega) (stv_91 (h3' _ (by have := r3.1.1; omega)) q)
      have e0 : (s42.1 152 20).toNatClampNeg = 0 := by unfold Int32.toNatClampNeg; omega
      rw [e0] at r4
      exact ⟨(a2.trans h1').trans r1, Or.inr ⟨rfl, r2, (pr2.trans h5').trans r5, r4, by show _ ≤ (s42.1 152 12).toInt; rw [r6.1]; rw [kf 12 (by omega) (by omega)] at h6'; exact h6'⟩⟩
    · refine t_bind (wX11_see_T h2'.tp) (fun r h44 => ?_)
      obtain ⟨t44, s45⟩ := r
      have o := h44.1
      dsimp only at o ⊢
      refine t_bind wX11_fails_T (fun r hf => ?_)
      obtain ⟨t47, s48⟩ := r
      dsimp only at hf ⊢
      have q45 := o.tp h2'.tp
      exact t_bind (t_rtZ (Or.inl hf.2.1)) (fun t50 h50 => t_some ⟨(a2.trans h1').trans (((o.1.mono b12_le_bF).trans (fails_F hf.1)).mono bF_le_bT), Or.inl ⟨by show t50 = 0; rw [h50, hf.2.1], hf.2.2 (by decide) (by decide) q45.2.1 (by have := q45.1; have := q45.2; omega)⟩⟩)
  · exact t_some ⟨a2.trans hz.1, Or.inl ⟨rfl, hz.2⟩⟩
end
section
/-! The reference reads: CLAUSES, whole texts. -/
noncomputable def KL (t : Nat) (s : wS) : Prop := ∀ c : Nat, (c : Int) < (s.1 157 t).toInt → (qWF (Cd t s) (s.1 156 (60 * t + 5 * c + 1)).toInt (s.1 156 (60 * t + 5 * c + 2)).toInt ∧ (s.1 156 (60 * t + 5 * c + 2)).toInt ≤ (s.1 155 t).toInt) ∧ ((s.1 156 (60 * t + 5 * c + 3)).toInt < 0 ∨ (qWF (Cd t s) (s.1 156 (60 * t + 5 * c + 3)).toInt (s.1 156 (60 * t + 5 * c + 4)).toInt ∧ (s.1 156 (60 * t + 5 * c + 4)).toInt ≤ (s.1 155 t).toInt))
theorem qWF_pr {t : Nat} {s s' : wS} {b e : Int} (h : Pr t s s') (he : e ≤ (s.1 155 t).toInt) (g : qWF (Cd t s) b e) : qWF (Cd t s') b e := by
  obtain ⟨g1, g2, g3, g4⟩ := g
  refine ⟨g1, g2, g3, ?_⟩
  rw [hrun_congr (C := Cd t s) (fun j h1 h2 => h.2 j (by omega))]
  exact g4
theorem KL_pr {t : Nat} {s s' : wS} (h : Pr t s s') (h6 : ∀ i, s'.1 156 i = s.1 156 i) (h7 : s'.1 157 t = s.1 157 t) (g : KL t s) : KL t s' := by
  intro c hc
  rw [h7] at hc
  obtain ⟨⟨k1, k2⟩, k3⟩ := g c hc
  have h1 := h.1
  rw [h6, h6, h6, h6]
  refine ⟨⟨qWF_pr h k2 k1, by omega⟩, ?_⟩
  rcases k3 with q | ⟨q1, q2⟩
  · exact Or.inl q
  · exact Or.inr ⟨qWF_pr h q2 q1, by omega⟩
theorem bL_156 {t i : Nat} (h : 60 * t ≤ i) (h2 : i < 60 * t + 60) : bL t 156 i = true := by
  have l1 : Nat.ble (60 * t) i = true := Nat.ble_eq_true_of_le h
  have l2 : Nat.blt i (60 * t + 60) = true := Nat.ble_eq_true_of_le h2
  unfold bL
  rw [l1, l2]
  simp
theorem bL_157 {t : Nat} : bL t 157 t = true := by
  have l1 : Nat.beq t t = true := Nat.beq_refl t
  unfold bL
  rw [l1]
  simp
theorem bT_no {t k b : Nat} (h1 : k ≠ 154) (h2 : k ≠ 155) (h3 : bF k b = false) (h4 : bO k b = false) : bT t k b = false := by
  unfold bT
  rw [bE_k h1 h2 h3]
  unfold bO at h4
  rw [h4]
  rfl
theorem bT_157 {t : Nat} {s s' : wS} (h : wA (bT t) s s') : s'.1 157 t = s.1 157 t := h 157 t (bT_no (by omega) (by omega) rfl rfl)
theorem bT_156 {t : Nat} {s s' : wS} (h : wA (bT t) s s') (i : Nat) : s'.1 156 i = s.1 156 i := h 156 i (bT_no (by omega) (by omega) rfl rfl)
theorem KL_T {t : Nat} {s s' : wS} (h : Pr t s s') (a : wA (bT t) s s') (g : KL t s) : KL t s' := KL_pr h (bT_156 a) (bT_157 a) g
/-- a clause's number was written -/
noncomputable def CW (t j : Nat) (v : Int32) (s s' : wS) : Prop := wA (bL t) s s' ∧ s' = wupI s 156 (60 * t + j) v
theorem CW.pi {t j : Nat} {v : Int32} {s s' : wS} (h : CW t j v s s') (g : PL t s) : PL t s' := by
  rw [h.2]
  (first | unfold PL PJ | unfold PJ)
  rw [wupI_n (by omega), wupI_n (by omega)]
  exact g
theorem CW.pr {t j : Nat} {v : Int32} {s s' : wS} (h : CW t j v s s') : Pr t s s' := by
  rw [h.2]
  unfold Pr Cd
  rw [wupI_n (by omega), wupI_n (by omega)]
  exact ⟨Int.le_refl _, fun _ _ => rfl⟩
theorem CW.cs {t j b h : Nat} {v : Int32} {s s' : wS} (hw : CW t j v s s') (g : CS t b h s) : CS t b h s' := by
  rw [hw.2]
  unfold CS Cd
  rw [wupI_n (by omega), wupI_n (by omega), wupI_n (by omega)]
  exact g
theorem CW.get {t j : Nat} {v : Int32} {s s' : wS} (h : CW t j v s s') (i : Nat) : s'.1 156 i = if i = 60 * t + j then v else s.1 156 i := by
  rw [h.2, wupI_k]
  rfl
/-- the clauses that stand aren't touched -/
theorem KL_CW {t j : Nat} {v : Int32} {s s' : wS} (h : CW t j v s s') (hj : 5 * (s.1 157 t).toInt ≤ j) (g : KL t s) : KL t s' := by
  have h7 : s'.1 157 t = s.1 157 t := by rw [h.2, wupI_n (by omega)]
  intro c hc
  rw [h7] at hc
  have k := g c hc
  rw [h.get, h.get, h.get, h.get, if_neg (by omega), if_neg (by omega), if_neg (by omega), if_neg (by omega)]
  have e155 : s'.1 155 = s.1 155 := by rw [h.2, wupI_n (by omega)]
  have eC : Cd t s' = Cd t s := by
    funext i
    unfold Cd
    rw [h.2, wupI_n (by omega)]
  rw [e155, eC]
  exact k
theorem CS.wf {t b : Nat} {s : wS} (h : CS t b 1 s) (g : PL t s) : qWF (Cd t s) (b : Int) (s.1 155 t).toInt := by
  have g1 := g.1
  have g2 := g.2.1
  have g5 := g.2.2.2.2.1
  have g6 := g.2.2.2.2.2.1
  refine ⟨by omega, h.1, by omega, ?_⟩
  rw [Int.toNat_natCast]
  exact h.2.1
theorem bL_1 {t : Nat} {s s' : wS} (h : wA (bL t) s s') : s'.1 152 1 = s.1 152 1 := h 152 1 (by
  unfold bL
  rw [bE_k (by omega) (by omega) rfl]
  rfl)
theorem bL_15 {t : Nat} {s s' : wS} (h : wA (bL t) s s') : s'.1 152 15 = s.1 152 15 := h 152 15 (by
  unfold bL
  rw [bE_k (by omega) (by omega) rfl]
  rfl)
theorem bT_18 {t : Nat} {s s' : wS} (h : wA (bT t) s s') : s'.1 152 18 = s.1 152 18 := h 152 18 (bT_no (by omega) (by omega) rfl rfl)
theorem wX11_clauseOf_T {t : Nat} {x1 : Int32} {s : wS} (g : PL t s) (ht : t ≤ 5) (hc : 0 ≤ (s.1 157 t).toInt) (hc2 : (s.1 157 t).toInt < 12) (hk : KL t s) : Tot (wX11_clauseOf x1 s) (fun r => wA (bL t) s r.2 ∧ ((r.1 = 0 ∧ FW r.2) ∨ (r.1 = 1 ∧ PL t r.2 ∧ KL t r.2 ∧ (r.2.1 157 t).toInt = (s.1 157 t).toInt + 1 ∧ r.2.1 152 18 = s.1 152 18))) := by
  unfold wX11_clauseOf
  refine t_bind (wX11_passWord_T g.tp) (fun s2 h2 => ?_)
  have o2 := h2.1
  have g2 := o2.pi g
  have a2 : wA (bT t) s s2 := (o2.1.mono b12_le_bF).mono bF_le_bT
  have k2 := KL_T (Pr_F (o2.1.mono b12_le_bF)) a2 hk
  have c2 : s2.1 157 t = s.1 157 t := bT_157 a2
  have l2 : s2.1 152 18 = s.1 152 18 := bT_18 a2
  have hX : (s2.1 152 15).toNatClampNeg = t := by have := g2.2.2.1; unfold Int32.toNatClampNeg; omega
  have hXi := g2.2.2.1
  refine t_bind (t_ldI (n := 6) (by omega) (by omega)) (fun t4 h4 => ?_)
  rw [hX, c2] at h4
  have e0 := t_cl (l := s2.1 152 15) (c := t4) (by omega) (by omega) (by rw [h4]; exact hc) (by rw [h4]; exact hc2)
  obtain ⟨n, hn⟩ : ∃ n : Nat, (n : Int) = (s.1 157 t).toInt := ⟨(s.1 157 t).toInt.toNat, by omega⟩
  have n0 : ((60 * s2.1 152 15) + (5 * t4)).toNatClampNeg = 60 * t + 5 * n := by unfold Int32.toNatClampNeg; rw [e0, h4]; omega
  have en : ∀ {d : Int32} {m : Int}, d.toInt = m → 0 ≤ m → m ≤ 4 → ((((60 * s2.1 152 15) + (5 * t4)) + d).toInt = 60 * t + 5 * n + m ∧ (((60 * s2.1 152 15) + (5 * t4)) + d).toNatClampNeg = 60 * t + (5 * n + m.toNat)) := by
    intro d m hd h0 h4'
    have e := t_pl (x := (60 * s2.1 152 15) + (5 * t4)) hd h0 (by omega) (by rw [e0, h4]; omega) (by rw [e0, h4]; omega)
    refine ⟨by rw [e, e0, h4]; omega, ?_⟩
    unfold Int32.toNatClampNeg
    rw [e, e0, h4]
    omega
  generalize hat : (60 * s2.1 152 15) + (5 * t4) = at0 at *
  have e1 := en (d := 1) (m := 1) rfl (by omega) (by omega)
  have e2 := en (d := 2) (m := 2) rfl (by omega) (by omega)
  have e3 := en (d := 3) (m := 3) rfl (by omega) (by omega)
  have e4 := en (d := 4) (m := 4) rfl (by omega) (by omega)
  have wr : ∀ {u : wS} {i v : Int32} {j : Nat}, i.toInt = 60 * t + j → j < 60 → Tot (wstI u 156 360 i v) (fun r => CW t j v u r) := by
    intro u i v j hi hj
    have hin : i.toNatClampNeg = 60 * t + j := by unfold Int32.toNatClampNeg; omega
    have := t_st1 (B := bL t) (s := u) (k := 156) (n := 360) (i := i) (v := v) (by omega) (by omega) (by rw [hin]; exact bL_156 (by omega) (by omega))
    rw [hin] at this
    exact this
  refine t_bind (wr (j := 5 * n) (by rw [e0, h4]; omega) (by omega)) (fun s5 h5 => ?_)
  have g5 := h5.pi g2
  have c5 : s5.1 157 t = s.1 157 t := by rw [h5.2, wupI_n (by omega), c2]
  have l5 : s5.1 152 18 = s.1 152 18 := by rw [h5.2, wupI_n (by omega), l2]
  have k5 := KL_CW h5 (by rw [c2]; omega) k2
  have X5 : s5.1 152 15 = s2.1 152 15 := by rw [h5.2, wupI_n (by omega)]
  refine t_bind (t_ldI (n := 7) (by rw [X5]; omega) (by rw [X5]; omega)) (fun t6 h6 => ?_)
  rw [X5, hX] at h6
  refine t_bind (wr (j := 5 * n + 1) (by rw [e1.1]; omega) (by omega)) (fun s7 h7 => ?_)
  have g7 := h7.pi g5
  have c7 : s7.1 157 t = s.1 157 t := by rw [h7.2, wupI_n (by omega), c5]
  have l7 : s7.1 152 18 = s.1 152 18 := by rw [h7.2, wupI_n (by omega), l5]
  have k7 := KL_CW h7 (by rw [c5]; omega) k5
  have b1 : (s7.1 155 t).toInt = t6.toInt := by rw [h7.2, wupI_n (by omega), h6]
  have p1 : s7.1 156 (60 * t + 5 * n + 1) = t6 := by rw [h7.get, if_pos (by omega)]
  have a7 : wA (bL t) s s7 := ((a2.mono bT_le_bL).trans h5.1).trans h7.1
  obtain ⟨B, hB⟩ : ∃ B : Nat, (B : Int) = (s7.1 155 t).toInt := ⟨(s7.1 155 t).toInt.toNat, by have := g7.2.2.2.1; omega⟩
  have cs7 : CS t B 0 s7 := by
    refine ⟨by omega, ?_, g7.2.2.2.2.2.2.1⟩
    have e : ((s7.1 155 t).toInt - (B : Int)).toNat = 0 := by omega
    rw [e]
    rfl
  refine t_bind (wX11_sum_T g7 ht) (fun r h8 => ?_)
  obtain ⟨t8, s9⟩ := r
  obtain ⟨a9, h8⟩ := h8
  dsimp only at a9 h8 ⊢
  have a9' : wA (bT t) s7 s9 := a9.mono bE_le_bT
  refine t_ite (fun c => t_some ⟨a7.trans (a9.mono bE_le_bL), Or.inl ⟨rfl, fw_of h8 c⟩⟩) (fun c8 => ?_)
  obtain ⟨g9, pr9, cs9, -, -⟩ := ok_of h8 c8
  have k9 := KL_T pr9 a9' k7
  have c9 : s9.1 157 t = s.1 157 t := by rw [bT_157 a9', c7]
  have l9 : s9.1 152 18 = s.1 152 18 := by rw [bT_18 a9', l7]
  have X9 : s9.1 152 15 = s2.1 152 15 := by rw [bL_15 (a9.mono bE_le_bL), bL_15 h7.1, X5]
  have p9 : s9.1 156 (60 * t + 5 * n + 1) = t6 := by rw [bT_156 a9', p1]
  have cs9' := cs9 B 0 cs7
  refine t_bind (t_ldI (n := 7) (by rw [X9]; omega) (by rw [X9]; omega)) (fun t12 h12 => ?_)
  rw [X9, hX] at h12
  refine t_bind (wr (j := 5 * n + 2) (by rw [e2.1]; omega) (by omega)) (fun s13 h13 => ?_)
  refine t_bind (wr (j := 5 * n + 3) (by rw [e3.1]; omega) (by omega)) (fun s14 h14 => ?_)
  have g14 := h14.pi (h13.pi g9)
  have pr14 := h13.pr.trans h14.pr
  have c13 : s13.1 157 t = s.1 157 t := by rw [h13.2, wupI_n (by omega), c9]
  have c14 : s14.1 157 t = s.1 157 t := by rw [h14.2, wupI_n (by omega), c13]
  have l14 : s14.1 152 18 = s.1 152 18 := by rw [h14.2, wupI_n (by omega), h13.2, wupI_n (by omega), l9]
  have k14 := KL_CW h14 (by rw [c13]; omega) (KL_CW h13 (by rw [c9]; omega) k9)
  have a14 : wA (bL t) s s14 := ((a7.trans (a9.mono bE_le_bL)).trans h13.1).trans h14.1
  have L14 : (s14.1 155 t).toInt = t12.toInt := by rw [h14.2, wupI_n (by omega), h13.2, wupI_n (by omega), h12]
  have X14 : s14.1 152 15 = s2.1 152 15 := by rw [bL_15 h14.1, bL_15 h13.1, X9]
  have f1 : s14.1 156 (60 * t + 5 * n + 1) = t6 := by rw [h14.get, if_neg (by omega), h13.get, if_neg (by omega), p9]
  have f2 : s14.1 156 (60 * t + 5 * n + 2) = t12 := by rw [h14.get, if_neg (by omega), h13.get, if_pos (by omega)]
  have f3 : s14.1 156 (60 * t + 5 * n + 3) = -1 := by rw [h14.get, if_pos (by omega)]
  have w14 : qWF (Cd t s14) t6.toInt t12.toInt := by
    have := (h14.cs (h13.cs cs9')).wf g14
    rw [hB, b1, L14] at this
    exact this
  refine t_bind (wX11_takesWord_T g14.tp) (fun r h15 => ?_)
  obtain ⟨t15, s16⟩ := r
  have o16 := h15.1
  dsimp only at o16 ⊢
  have g16 := o16.pi g14
  have aF16 : wA bF s14 s16 := o16.1.mono b12_le_bF
  have a16 : wA (bT t) s14 s16 := aF16.mono bF_le_bT
  have pr16 : Pr t s14 s16 := Pr_F aF16
  have k16 := KL_T pr16 a16 k14
  have c16 : s16.1 157 t = s.1 157 t := by rw [bT_157 a16, c14]
  have l16 : s16.1 152 18 = s.1 152 18 := by rw [bT_18 a16, l14]
  have X16 : s16.1 152 15 = s2.1 152 15 := by rw [bL_15 (a16.mono bT_le_bL), X14]
  -- the end, from where the clause's last number is due
  have fin : ∀ (u : wS), wA (bL t) s u → PL t u → Pr t s14 u → KL t u → u.1 157 t = s.1 157 t → u.1 152 18 = s.1 152 18 → u.1 152 15 = s2.1 152 15 → u.1 156 (60 * t + 5 * n + 1) = t6 → u.1 156 (60 * t + 5 * n + 2) = t12 → ((u.1 156 (60 * t + 5 * n + 3)).toInt < 0 ∨ qWF (Cd t u) (u.1 156 (60 * t + 5 * n + 3)).toInt (u.1 155 t).toInt) → Tot (wX11_clauseOf_j119 at0 u) (fun r => wA (bL t) s r.2 ∧ ((r.1 = 0 ∧ FW r.2) ∨ (r.1 = 1 ∧ PL t r.2 ∧ KL t r.2 ∧ (r.2.1 157 t).toInt = (s.1 157 t).toInt + 1 ∧ r.2.1 152 18 = s.1 152 18))) := by
    intro u au gu pu ku cu lu Xu u1 u2 u3
    unfold wX11_clauseOf_j119
    refine t_bind (t_ldI (n := 7) (by rw [Xu]; omega) (by rw [Xu]; omega)) (fun t19 h19 => ?_)
    rw [Xu, hX] at h19
    refine t_bind (wr (j := 5 * n + 4) (by rw [e4.1]; omega) (by omega)) (fun s20 h20 => ?_)
    have X20 : s20.1 152 15 = s2.1 152 15 := by rw [h20.2, wupI_n (by omega), Xu]
    have c20 : s20.1 157 t = s.1 157 t := by rw [h20.2, wupI_n (by omega), cu]
    have k20 := KL_CW h20 (by rw [cu]; omega) ku
    refine t_bind (t_ldI (n := 6) (by rw [X20]; omega) (by rw [X20]; omega)) (fun t21 h21 => ?_)
    rw [X20, hX, c20] at h21
    refine t_bind (t_st1 (B := bL t) (n := 6) (by rw [X20]; omega) (by rw [X20]; omega) (by rw [X20, hX]; exact bL_157)) (fun s22 h22 => t_some ⟨(au.trans h20.1).trans h22.1, Or.inr ⟨rfl, ?_, ?_, ?_, ?_⟩⟩)
    · show PL t s22
      rw [h22.2]
      have := h20.pi gu
      (first | unfold PL PJ at * | unfold PJ at *)
      rw [wupI_n (by omega), wupI_n (by omega)]
      exact this
    · show KL t s22
      have q157 : (s22.1 157 t).toInt = (n : Int) + 1 := by
        rw [h22.2, X20, hX, wup_same, h21]
        have := t_p1 (x := s.1 157 t) hc (by omega)
        omega
      have q156 : s22.1 156 = s20.1 156 := by rw [h22.2, wupI_n (by omega)]
      have q155 : s22.1 155 = u.1 155 := by rw [h22.2, wupI_n (by omega), h20.2, wupI_n (by omega)]
      have qC : Cd t s22 = Cd t u := by
        funext i
        unfold Cd
        rw [h22.2, wupI_n (by omega), h20.2, wupI_n (by omega)]
      intro c hcl
      rw [q157] at hcl
      rw [q156, q155, qC]
      by_cases hce : c = n
      · subst hce
        rw [h20.get, h20.get, h20.get, h20.get, if_neg (by omega), if_neg (by omega), if_neg (by omega), if_pos (by omega), u1, u2, h19]
        have hp1 := pu.1
        refine ⟨⟨qWF_pr pu (by omega) w14, by omega⟩, ?_⟩
        rcases u3 with q | q
        · exact Or.inl q
        · exact Or.inr ⟨q, by omega⟩
      · have := k20 c (by rw [c20]; omega)
        rw [show s20.1 155 = u.1 155 by rw [h20.2, wupI_n (by omega)], show Cd t s20 = Cd t u by funext i; unfold Cd; rw [h20.2, wupI_n (by omega)]] at this
        exact this
    · show (s22.1 157 t).toInt = _
      rw [h22.2, X20, hX, wup_same, h21]
      exact t_p1 hc (by omega)
    · show s22.1 152 18 = _
      rw [h22.2, wupI_n (by omega), h20.2, wupI_n (by omega), lu]
  refine t_ite (fun _ => ?_) (fun _ => ?_)
  · exact fin s16 (a14.trans (a16.mono bT_le_bL)) g16 pr16 k16 c16 l16 X16 (by rw [bT_156 a16, f1]) (by rw [bT_156 a16, f2]) (Or.inl (by rw [bT_156 a16, f3]; decide))
  · refine t_bind (t_ldI (n := 7) (by rw [X16]; omega) (by rw [X16]; omega)) (fun t23 h23 => ?_)
    rw [X16, hX] at h23
    refine t_bind (wr (j := 5 * n + 3) (by rw [e3.1]; omega) (by omega)) (fun s24 h24 => ?_)
    have g24 := h24.pi g16
    have c24 : s24.1 157 t = s.1 157 t := by rw [h24.2, wupI_n (by omega), c16]
    have l24 : s24.1 152 18 = s.1 152 18 := by rw [h24.2, wupI_n (by omega), l16]
    have k24 := KL_CW h24 (by rw [c16]; omega) k16
    have X24 : s24.1 152 15 = s2.1 152 15 := by rw [bL_15 h24.1, X16]
    have a24 : wA (bL t) s s24 := (a14.trans (a16.mono bT_le_bL)).trans h24.1
    have L24 : (s24.1 155 t).toInt = t23.toInt := by rw [h24.2, wupI_n (by omega), h23]
    obtain ⟨B2, hB2⟩ : ∃ B : Nat, (B : Int) = (s24.1 155 t).toInt := ⟨(s24.1 155 t).toInt.toNat, by have := g24.2.2.2.1; omega⟩
    refine t_bind (wX11_tested_T g24 ht hB2) (fun r h25 => ?_)
    obtain ⟨t25, s26⟩ := r
    obtain ⟨a26, h25⟩ := h25
    dsimp only at a26 h25 ⊢
    refine t_ite (fun c => t_some ⟨a24.trans (a26.mono bT_le_bL), Or.inl ⟨rfl, fw_of h25 c⟩⟩) (fun c25 => ?_)
    obtain ⟨g26, pr26, cs26, -⟩ := ok_of h25 c25
    have g26 := PL_of g26
    have w26 := cs26.wf g26
    rw [hB2, L24] at w26
    refine fin s26 (a24.trans (a26.mono bT_le_bL)) g26 ((pr16.trans h24.pr).trans pr26) (KL_T pr26 a26 k24) (by rw [bT_157 a26, c24]) (by rw [bT_18 a26, l24]) (by rw [bL_15 (a26.mono bT_le_bL), X24]) ?_ ?_ (Or.inr ?_)
    · rw [bT_156 a26, h24.get, if_neg (by omega), bT_156 a16, f1]
    · rw [bT_156 a26, h24.get, if_neg (by omega), bT_156 a16, f2]
    · rw [bT_156 a26, h24.get, if_pos (by omega)]
      exact w26
end
section
/-! The reference reads: LINES, whole texts. -/
noncomputable def bC (k b : Nat) : Bool := (Nat.ble 158 k && Nat.ble k 159) || (Nat.beq k 152 && ((Nat.ble 7 b && Nat.ble b 9) || Nat.ble 12 b && Nat.ble b 14))
theorem bC_le_bL {t : Nat} : ∀ k b, bC k b = true → bL t k b = true := by
  intro k b h
  simp only [bL, bE, bF, bC, Bool.or_eq_true, Bool.and_eq_true, Nat.ble_eq, Nat.beq_eq] at *
  omega
theorem b12_le_bC : ∀ k b, b12 k b = true → bC k b = true := by
  intro k b h
  simp only [b12, bC, Bool.or_eq_true, Bool.and_eq_true, Nat.ble_eq, Nat.beq_eq] at *
  omega
theorem OF_le_bC : ∀ k b, (Nat.beq k 152 && (Nat.beq b 12 || Nat.beq b 13 || Nat.beq b 14)) = true → bC k b = true := by
  intro k b h
  simp only [bC, Bool.or_eq_true, Bool.and_eq_true, Nat.ble_eq, Nat.beq_eq] at *
  omega
theorem b13_le_bC : ∀ k b, (Nat.beq k 152 && Nat.beq b 13) = true → bC k b = true := by
  intro k b h
  simp only [bC, Bool.or_eq_true, Bool.and_eq_true, Nat.ble_eq, Nat.beq_eq] at *
  omega
/-- a court's text is being read -/
noncomputable def CC (s : wS) : Prop := TP s ∧ (0 ≤ (s.1 152 7).toInt ∧ (s.1 152 7).toInt ≤ 8) ∧ (0 ≤ (s.1 152 8).toInt ∧ (s.1 152 8).toInt ≤ 8) ∧ (0 ≤ (s.1 152 9).toInt ∧ (s.1 152 9).toInt ≤ 8)
theorem CC_of {s s' : wS} (h : OF s s') (g : CC s) : CC s' := by
  have h1 := h.tp g.1
  unfold CC at *
  rw [h.1 152 7 rfl, h.1 152 8 rfl, h.1 152 9 rfl]
  exact ⟨h1, g.2⟩
theorem CC_eq {s s' : wS} (h1 : s'.1 152 1 = s.1 152 1) (h12 : s'.1 152 12 = s.1 152 12) (h7 : s'.1 152 7 = s.1 152 7) (h8 : s'.1 152 8 = s.1 152 8) (h9 : s'.1 152 9 = s.1 152 9) (g : CC s) : CC s' := by
  unfold CC TP at *
  rw [h1, h12, h7, h8, h9]
  exact g
theorem t_2x {x y : Int32} (h : 0 ≤ x.toInt) (h2 : x.toInt < 8) (hy : 0 ≤ y.toInt) (hy2 : y.toInt < 2) : ((2 * x) + y).toInt = 2 * x.toInt + y.toInt := by
  have e := t_2p h (by omega)
  rw [t_add (by omega) (by omega), e]
theorem wX11_isRoadHere_h2_T : ∀ (n : Nat) {x1 : Int32} {s : wS}, CC s → (s.1 152 8).toInt < 8 → 0 ≤ x1.toInt → x1.toInt ≤ 2 → 2 - x1.toInt < (n : Int) → Tot (wX11_isRoadHere_h2 n x1 s) (Sum.elim (fun r => wA bC s r ∧ CC r ∧ (r.1 152 8).toInt < 8) (fun r => wA bC s r ∧ FW r)) := by
  intro n
  induction n with
  | zero => intro x1 s g h8 h0 h2 hm; exfalso; omega
  | succ n ih =>
    intro x1 s g h8 h0 h2 hm
    rw [wX11_isRoadHere_h2]
    refine t_ite (fun c => ?_) (fun _ => t_some ⟨wA.refl, g, h8⟩)
    have hc := t_lt c
    rw [show (2 : Int32).toInt = 2 from rfl] at hc
    refine t_bind (wX11_numberHere_T g.1) (fun r h => ?_)
    obtain ⟨t2, s3⟩ := r
    obtain ⟨o, h⟩ := h
    dsimp only at o h ⊢
    have ac := o.1.mono OF_le_bC
    refine t_ite (fun c => t_some ⟨ac, fw_of h c⟩) (fun _ => ?_)
    have g3 := CC_of o g
    have e8 : s3.1 152 8 = s.1 152 8 := o.1 152 8 rfl
    have g8 := g3.2.2.1
    have e := t_2x (x := s3.1 152 8) (y := x1) g8.1 (by rw [e8]; exact h8) h0 hc
    refine t_bind (t_stI (B := bC) (n := 16) (by omega) (by rw [e, e8]; omega) (fun _ => rfl)) (fun s6 h6 => ?_)
    have k6 : s6.1 152 = s3.1 152 := by rw [h6.2, wupI_n (by omega)]
    have e1 := t_p1 (x := x1) h0 (by omega)
    refine t_mono (ih (x1 := x1 + 1) (s := s6) (CC_eq (by rw [k6]) (by rw [k6]) (by rw [k6]) (by rw [k6]) (by rw [k6]) g3) (by rw [k6, e8]; exact h8) (by omega) (by omega) (by omega)) (fun r hr => ?_)
    rcases r with r | r
    · exact ⟨(ac.trans h6.1).trans hr.1, hr.2⟩
    · exact ⟨(ac.trans h6.1).trans hr.1, hr.2⟩
theorem t_wf2 {x : Int32} (h : 0 ≤ x.toInt) : 2 - x.toInt < ((wFuel : Nat) : Int) := by
  have e : ((wFuel : Nat) : Int) = 1099511627776 := rfl
  omega
theorem wX11_isRoadHere_T {s : wS} (g : CC s) (h8 : (s.1 152 8).toInt < 8) : Tot (wX11_isRoadHere s) (fun r => wA bC s r.2 ∧ ((r.1 = 0 ∧ FW r.2) ∨ (r.1 = 1 ∧ CC r.2))) := by
  unfold wX11_isRoadHere
  refine t_bind (wX11_isRoadHere_h2_T _ g h8 (by decide) (by decide) (t_wf2 (by decide))) (fun z hz => ?_)
  rcases z with s8 | s11
  · obtain ⟨a, g8, l8⟩ := hz
    refine t_bind (t_pfI (B := bC) rfl) (fun s10 h10 => t_some ⟨a.trans h10.1, Or.inr ⟨rfl, ?_⟩⟩)
    show CC s10
    obtain ⟨p1, p7, p8, p9⟩ := g8
    have e := t_p1 (x := s8.1 152 8) p8.1 (by omega)
    unfold CC TP at *
    rw [h10.2, wup_same, wup_nb (by omega), wup_nb (by omega), wup_nb (by omega), wup_nb (by omega)]
    exact ⟨p1, p7, by omega, p9⟩
  · exact t_some ⟨hz.1, Or.inl ⟨rfl, hz.2⟩⟩
theorem wX11_isManHere_h2_T : ∀ (n : Nat) {x1 : Int32} {s : wS}, CC s → (s.1 152 9).toInt < 8 → 0 ≤ x1.toInt → x1.toInt ≤ 2 → 2 - x1.toInt < (n : Int) → Tot (wX11_isManHere_h2 n x1 s) (Sum.elim (fun r => wA bC s r ∧ CC r ∧ (r.1 152 9).toInt < 8) (fun r => wA bC s r ∧ FW r)) := by
  intro n
  induction n with
  | zero => intro x1 s g h8 h0 h2 hm; exfalso; omega
  | succ n ih =>
    intro x1 s g h8 h0 h2 hm
    rw [wX11_isManHere_h2]
    refine t_ite (fun c => ?_) (fun _ => t_some ⟨wA.refl, g, h8⟩)
    have hc := t_lt c
    rw [show (2 : Int32).toInt = 2 from rfl] at hc
    have j : ∀ y1 y2, Tot (wX11_isManHere_j20 (wX11_isManHere_h2 n) x1 y1 y2 s) (Sum.elim (fun r => wA bC s r ∧ CC r ∧ (r.1 152 9).toInt < 8) (fun r => wA bC s r ∧ FW r)) := by
      intro y1 y2
      unfold wX11_isManHere_j20
      refine t_bind (wX11_numberHere_T g.1) (fun r h => ?_)
      obtain ⟨t2, s3⟩ := r
      obtain ⟨o, h⟩ := h
      dsimp only at o h ⊢
      have ac := o.1.mono OF_le_bC
      refine t_ite (fun c => t_some ⟨ac, fw_of h c⟩) (fun _ => ?_)
      have g3 := CC_of o g
      have e8 : s3.1 152 9 = s.1 152 9 := o.1 152 9 rfl
      have g8 := g3.2.2.2
      have e := t_2x (x := s3.1 152 9) (y := x1) g8.1 (by rw [e8]; exact h8) h0 hc
      refine t_bind (t_stI (B := bC) (n := 16) (by omega) (by rw [e, e8]; omega) (fun _ => rfl)) (fun s6 h6 => ?_)
      have k6 : s6.1 152 = s3.1 152 := by rw [h6.2, wupI_n (by omega)]
      have e1 := t_p1 (x := x1) h0 (by omega)
      refine t_mono (ih (x1 := x1 + 1) (s := s6) (CC_eq (by rw [k6]) (by rw [k6]) (by rw [k6]) (by rw [k6]) (by rw [k6]) g3) (by rw [k6, e8]; exact h8) (by omega) (by omega) (by omega)) (fun r hr => ?_)
      rcases r with r | r
      · exact ⟨(ac.trans h6.1).trans hr.1, hr.2⟩
      · exact ⟨(ac.trans h6.1).trans hr.1, hr.2⟩
    exact t_ite (fun _ => j _ _) (fun _ => j _ _)
theorem wX11_isManHere_T {s : wS} (g : CC s) (h8 : (s.1 152 9).toInt < 8) : Tot (wX11_isManHere s) (fun r => wA bC s r.2 ∧ ((r.1 = 0 ∧ FW r.2) ∨ (r.1 = 1 ∧ CC r.2))) := by
  unfold wX11_isManHere
  refine t_bind (wX11_isManHere_h2_T _ g h8 (by decide) (by decide) (t_wf2 (by decide))) (fun z hz => ?_)
  rcases z with s8 | s11
  · obtain ⟨a, g8, l8⟩ := hz
    refine t_bind (t_pfI (B := bC) rfl) (fun s10 h10 => t_some ⟨a.trans h10.1, Or.inr ⟨rfl, ?_⟩⟩)
    show CC s10
    obtain ⟨p1, p7, p8, p9⟩ := g8
    have e := t_p1 (x := s8.1 152 9) p9.1 (by omega)
    unfold CC TP at *
    rw [h10.2, wup_same, wup_nb (by omega), wup_nb (by omega), wup_nb (by omega), wup_nb (by omega)]
    exact ⟨p1, p7, p8, by omega⟩
  · exact t_some ⟨hz.1, Or.inl ⟨rfl, hz.2⟩⟩
/-- a fault told, passed on -/
theorem fails_rt {B : Nat → Nat → Bool} {x1 x2 : Int32} {s0 s : wS} {Q : wS → Prop} (a : wA B s0 s) (hB : ∀ k b, (Nat.beq k 152 && Nat.beq b 13) = true → B k b = true) (h1 : 0 ≤ x1.toInt) (h2 : x1.toInt ≤ 10) (h3 : 0 ≤ x2.toInt) (h4 : x2.toInt ≤ 1000) : Tot ((wX11_fails x1 x2 s).bind fun (t25, s26) => (wrtZ t25).bind fun t28 => some (t28, s26)) (fun r => wA B s0 r.2 ∧ ((r.1 = 0 ∧ FW r.2) ∨ (r.1 = 1 ∧ Q r.2))) := by
  refine t_bind wX11_fails_T (fun r hf => ?_)
  obtain ⟨t, u⟩ := r
  dsimp only at hf ⊢
  exact t_bind (t_rtZ (Or.inl hf.2.1)) (fun t50 h50 => t_some ⟨a.trans (hf.1.mono hB), Or.inl ⟨by show t50 = 0; rw [h50, hf.2.1], hf.2.2 h1 h2 h3 h4⟩⟩)
theorem t_rt {B : Nat → Nat → Bool} {s0 s : wS} {x : Option (Int32 × wS)} {Q : wS → Prop} (a : wA B s0 s) (h : Tot x (fun r => wA B s r.2 ∧ ((r.1 = 0 ∧ FW r.2) ∨ (r.1 = 1 ∧ Q r.2)))) : Tot (x.bind fun (t25, s26) => (wrtZ t25).bind fun t28 => some (t28, s26)) (fun r => wA B s0 r.2 ∧ ((r.1 = 0 ∧ FW r.2) ∨ (r.1 = 1 ∧ Q r.2))) := by
  refine t_bind h (fun r hr => ?_)
  obtain ⟨t, u⟩ := r
  dsimp only at hr ⊢
  have hz : t = 0 ∨ t = 1 := hr.2.elim (fun q => Or.inl q.1) (fun q => Or.inr q.1)
  exact t_bind (t_rtZ hz) (fun t50 h50 => t_some ⟨a.trans hr.1, by show (t50 = 0 ∧ _) ∨ (t50 = 1 ∧ _); rw [h50]; exact hr.2⟩)
theorem wX11_courtLineHere_T {x1 : Int32} {s : wS} (g : CC s) (hx : 0 ≤ x1.toInt) (hx2 : x1.toInt ≤ 1000) : Tot (wX11_courtLineHere x1 s) (fun r => wA bC s r.2 ∧ ((r.1 = 0 ∧ FW r.2) ∨ (r.1 = 1 ∧ CC r.2))) := by
  unfold wX11_courtLineHere
  refine t_bind (wX11_isWord_T g.1) (fun r h1 => ?_)
  obtain ⟨t1, s2⟩ := r
  obtain ⟨o1, -, -⟩ := h1
  dsimp only at o1 ⊢
  have g2 := CC_of o1.of g
  have a2 := o1.1.mono b12_le_bC
  refine t_ite (fun _ => ?_) (fun _ => t_ite (fun _ => fails_rt a2 b13_le_bC (by decide) (by decide) hx hx2) (fun c7 => ?_))
  · refine t_bind (wX11_isWord_T g2.1) (fun r h5 => ?_)
    obtain ⟨t5, s6⟩ := r
    obtain ⟨o6, -, -⟩ := h5
    dsimp only at o6 ⊢
    have g6 := CC_of o6.of g2
    have a6 := a2.trans (o6.1.mono b12_le_bC)
    have pass : Tot (wX11_passWord s6) (fun r => ON s6 r ∧ CC r) := t_mono (wX11_passWord_T g6.1) (fun r h => ⟨h.1, CC_of h.1.of g6⟩)
    refine t_ite (fun c5 => ?_) (fun c5 => ?_)
    · unfold wX11_courtLineHere_j73
      refine t_ite (fun _ => fails_rt a6 b13_le_bC (by decide) (by decide) hx hx2) (fun c8 => ?_)
      refine t_bind pass (fun s15 h15 => t_ite (fun _ => ?_) (fun c => absurd c5 c))
      have q := g6.2.2.2
      have q8 := t_nq c8
      rw [show (8 : Int32).toInt = 8 from rfl] at q8
      exact t_rt (a6.trans (h15.1.1.mono b12_le_bC)) (wX11_isManHere_T h15.2 (by rw [h15.1.1 152 9 rfl]; omega))
    · unfold wX11_courtLineHere_j73
      refine t_ite (fun _ => fails_rt a6 b13_le_bC (by decide) (by decide) hx hx2) (fun c8 => ?_)
      refine t_bind pass (fun s15 h15 => t_ite (fun c => absurd c c5) (fun _ => ?_))
      have q := g6.2.2.1
      have q8 := t_nq c8
      rw [show (8 : Int32).toInt = 8 from rfl] at q8
      exact t_rt (a6.trans (h15.1.1.mono b12_le_bC)) (wX11_isRoadHere_T h15.2 (by rw [h15.1.1 152 8 rfl]; omega))
  · refine t_bind (wX11_passWord_T g2.1) (fun s32 h32 => ?_)
    have g32 := CC_of h32.1.of g2
    have a32 := a2.trans (h32.1.1.mono b12_le_bC)
    refine t_bind (wX11_numberHere_T g32.1) (fun r h => ?_)
    obtain ⟨t34, s35⟩ := r
    obtain ⟨o, h⟩ := h
    dsimp only at o h ⊢
    have a35 := a32.trans (o.1.mono OF_le_bC)
    refine t_ite (fun c => t_some ⟨a35, Or.inl ⟨rfl, fw_of h c⟩⟩) (fun c => ?_)
    have g35 := CC_of o g32
    have hn := (ok_of h c).2
    rw [show (1 : Int32).toInt = 1 from rfl, show (8 : Int32).toInt = 8 from rfl] at hn
    refine t_bind (t_pfI (B := bC) rfl) (fun s38 h38 => t_some ⟨a35.trans h38.1, Or.inr ⟨rfl, ?_⟩⟩)
    show CC s38
    obtain ⟨p1, p7, p8, p9⟩ := g35
    unfold CC TP at *
    rw [h38.2, wup_same, wup_nb (by omega), wup_nb (by omega), wup_nb (by omega), wup_nb (by omega)]
    exact ⟨p1, ⟨by omega, hn.2⟩, p8, p9⟩
end
section
/-! The reference reads: LAWS and COURTS whole. -/
/-- what a line, once read, leaves -/
noncomputable def CP (J : wS → Prop) (B : Nat → Nat → Bool) (s : wS) (r : Int32 × wS) : Prop := wA B s r.2 ∧ ((r.1 = 0 ∧ FW r.2) ∨ (r.1 = 1 ∧ (J r.2 ∧ (r.2.1 152 18).toInt = (s.1 152 18).toInt + 1)))
/-- between the lines of a LAW -/
noncomputable def JL (t : Nat) (s : wS) : Prop := PL t s ∧ KL t s ∧ (0 ≤ (s.1 157 t).toInt ∧ (s.1 157 t).toInt ≤ (s.1 152 18).toInt) ∧ (s.1 152 18).toInt ≤ 12
/-- between the lines of a COURT -/
noncomputable def JC (s : wS) : Prop := CC s ∧ (s.1 152 15).toInt = 6 ∧ 0 ≤ (s.1 152 18).toInt ∧ (s.1 152 18).toInt ≤ 24
theorem JL_on {t : Nat} {s s' : wS} (h : ON s s') (g : JL t s) : JL t s' := by
  obtain ⟨g1, g2, g3, g4⟩ := g
  have a : wA (bT t) s s' := (h.1.mono b12_le_bF).mono bF_le_bT
  unfold JL
  rw [bT_157 a, h.1 152 18 rfl]
  exact ⟨h.pi g1, KL_T (Pr_F (h.1.mono b12_le_bF)) a g2, g3, g4⟩
theorem JC_on {s s' : wS} (h : ON s s') (g : JC s) : JC s' := by
  obtain ⟨g1, g2, g3, g4⟩ := g
  have h1 := CC_of h.of g1
  unfold JC
  rw [h.1 152 15 rfl, h.1 152 18 rfl]
  exact ⟨h1, g2, g3, g4⟩
theorem JL_18 {t : Nat} {s : wS} {v : Int32} (g : JL t s) (h : (s.1 157 t).toInt ≤ v.toInt) (h2 : v.toInt ≤ 12) : JL t (wupI s 152 18 v) := by
  obtain ⟨g1, g2, g3, g4⟩ := g
  refine ⟨?_, ?_, ?_, ?_⟩
  · unfold PL PJ at *
    rw [wup_nb (by omega), wup_nb (by omega), wup_nb (by omega), wup_nb (by omega), wup_nb (by omega), wupI_n (by omega)]
    exact g1
  · unfold KL Cd at *
    rw [wupI_n (by omega), wupI_n (by omega), wupI_n (by omega), wupI_n (by omega)]
    exact g2
  · rw [wup_same, wupI_n (by omega)]
    exact ⟨g3.1, h⟩
  · rw [wup_same]
    exact h2
theorem clauseHere_law {t : Nat} (ht : t ≤ 5) {x1 : Int32} {s : wS} (g : JL t s) (hx : 0 ≤ x1.toInt) (hx2 : x1.toInt ≤ 1000) : Tot (wX11_clauseHere_j97 x1 0 (s.1 152 18) 12 s) (CP (JL t) (bL t) s) := by
  unfold wX11_clauseHere_j97
  refine t_ite (fun _ => fails_rt (B := bL t) (Q := fun u => JL t u ∧ (u.1 152 18).toInt = (s.1 152 18).toInt + 1) (x1 := 4) wA.refl (fun k b h => bC_le_bL k b (b13_le_bC k b h)) (by decide) (by decide) hx hx2) (fun c => ?_)
  have hc := t_nq c
  rw [show (12 : Int32).toInt = 12 from rfl] at hc
  have g3 := g.2.2.1
  have g4 := g.2.2.2
  have e := t_p1 (x := s.1 152 18) (by omega) (by omega)
  refine t_bind (t_pfI (B := bL t) (by
    unfold bL
    rw [bE_k (by omega) (by omega) rfl]
    rfl)) (fun s29 h29 => ?_)
  have g29 : JL t s29 := by
    rw [h29.2]
    exact JL_18 g (by omega) (by omega)
  have e29 : (s29.1 152 18).toInt = (s.1 152 18).toInt + 1 := by rw [h29.2, wup_same]; exact e
  have c29 : s29.1 157 t = s.1 157 t := by rw [h29.2, wupI_n (by omega)]
  refine t_ite (fun _ => ?_) (fun c => absurd rfl c)
  have fin : ∀ (u : wS) (y : Int32), ON s29 u → Tot (wX11_clauseHere_j157 y u) (CP (JL t) (bL t) s) := by
    intro u y o
    have au : wA (bL t) s u := h29.1.trans (o.1.mono (fun k b h => bF_le_bL k b (b12_le_bF k b h)))
    have gu := JL_on o g29
    have cu : u.1 157 t = s.1 157 t := by rw [o.1 157 t rfl, c29]
    have eu : u.1 152 18 = s29.1 152 18 := o.1 152 18 rfl
    unfold wX11_clauseHere_j157
    refine t_rt (Q := fun u => JL t u ∧ (u.1 152 18).toInt = (s.1 152 18).toInt + 1) au (t_mono (wX11_clauseOf_T gu.1 ht (by rw [cu]; exact g3.1) (by rw [cu]; omega) gu.2.1) (fun r hr => ⟨hr.1, hr.2.imp id (fun q => ⟨q.1, ⟨q.2.1, q.2.2.1, ⟨?_, ?_⟩, ?_⟩, ?_⟩)⟩))
    · have := q.2.2.2.1; rw [cu] at this; omega
    · have := q.2.2.2.1; rw [cu] at this; rw [q.2.2.2.2, eu]; omega
    · rw [q.2.2.2.2, eu]; omega
    · rw [q.2.2.2.2, eu, e29]
  refine t_bind (wX11_isWord_T g29.1.tp) (fun r h1 => ?_)
  obtain ⟨t31, s32⟩ := r
  obtain ⟨o1, -, -⟩ := h1
  dsimp only at o1 ⊢
  refine t_ite (fun _ => ?_) (fun _ => fin _ _ o1)
  refine t_bind (wX11_isWord_T (JL_on o1 g29).1.tp) (fun r h5 => ?_)
  obtain ⟨t35, s36⟩ := r
  obtain ⟨o2, -, -⟩ := h5
  dsimp only at o2 ⊢
  exact t_ite (fun _ => fin _ _ (o1.trans o2)) (fun _ => fin _ _ (o1.trans o2))
theorem clauseHere_court {x1 x2 : Int32} (h2 : ¬ x2 = 0) {s : wS} (g : JC s) (hx : 0 ≤ x1.toInt) (hx2 : x1.toInt ≤ 1000) : Tot (wX11_clauseHere_j97 x1 x2 (s.1 152 18) 24 s) (CP JC (bL 6) s) := by
  unfold wX11_clauseHere_j97
  refine t_ite (fun _ => fails_rt (B := bL 6) (Q := fun u => JC u ∧ (u.1 152 18).toInt = (s.1 152 18).toInt + 1) (x1 := 4) wA.refl (fun k b h => bC_le_bL k b (b13_le_bC k b h)) (by decide) (by decide) hx hx2) (fun c => ?_)
  have hc := t_nq c
  rw [show (24 : Int32).toInt = 24 from rfl] at hc
  obtain ⟨g1, g2, g3, g4⟩ := g
  have e := t_p1 (x := s.1 152 18) (by omega) (by omega)
  refine t_bind (t_pfI (B := bL 6) rfl) (fun s29 h29 => ?_)
  have g29 : CC s29 := by
    refine CC_eq ?_ ?_ ?_ ?_ ?_ g1 <;> rw [h29.2, wup_nb (by omega)]
  have e29 : (s29.1 152 18).toInt = (s.1 152 18).toInt + 1 := by rw [h29.2, wup_same]; exact e
  have x29 : s29.1 152 15 = s.1 152 15 := by rw [h29.2, wup_nb (by omega)]
  refine t_ite (fun c => absurd c h2) (fun _ => ?_)
  refine t_rt (Q := fun u => JC u ∧ (u.1 152 18).toInt = (s.1 152 18).toInt + 1) h29.1 (t_mono (wX11_courtLineHere_T g29 hx hx2) (fun r hr => ⟨hr.1.mono bC_le_bL, hr.2.imp id (fun q => ⟨q.1, ⟨q.2, ?_, ?_, ?_⟩, ?_⟩)⟩))
  · rw [hr.1 152 15 rfl, x29]; exact g2
  · rw [hr.1 152 18 rfl]; omega
  · rw [hr.1 152 18 rfl]; omega
  · rw [hr.1 152 18 rfl, e29]
/-- a line, whatever text -/
theorem clauseHere_T {J : wS → Prop} {B : Nat → Nat → Bool} (hB : ∀ k b, bF k b = true → B k b = true) (hJ : ∀ s, J s → TP s) (hO : ∀ s s', J s → ON s s' → J s') (hc : ∀ (s : wS) (x1 x2 : Int32), J s → 0 ≤ x1.toInt → x1.toInt ≤ 1000 → ((x2 = 1 ∧ s.1 152 15 = 6) ∨ (x2 = 0 ∧ ¬ s.1 152 15 = 6)) → Tot (wX11_clauseHere_j70 x1 x2 1 s) (CP J B s)) {s : wS} (g : J s) : Tot (wX11_clauseHere s) (CP J B s) := by
  have base : ∀ (x1 x2 : Int32) (u : wS), ON s u → 0 ≤ x1.toInt → x1.toInt ≤ 1000 → ((x2 = 1 ∧ u.1 152 15 = 6) ∨ (x2 = 0 ∧ ¬ u.1 152 15 = 6)) → Tot (wX11_clauseHere_j65 x1 x2 u) (CP J B s) := by
    intro x1 x2 u o h1 h2 h3
    unfold wX11_clauseHere_j65
    refine t_mono (hc u x1 x2 (hO s u g o) h1 h2 h3) (fun r hr => ⟨(o.1.mono (fun k b h => hB k b (b12_le_bF k b h))).trans hr.1, hr.2.imp id (fun q => ⟨q.1, q.2.1, by rw [q.2.2, o.1 152 18 rfl]⟩)⟩)
  have bad : ∀ (x1 x2 : Int32) (u : wS), ON s u → 0 ≤ x1.toInt → x1.toInt ≤ 1000 → Tot (wX11_clauseHere_j70 x1 x2 0 u) (CP J B s) := by
    intro x1 x2 u o h1 h2
    unfold wX11_clauseHere_j70
    exact t_ite (fun _ => fails_rt (Q := fun u => J u ∧ (u.1 152 18).toInt = (s.1 152 18).toInt + 1) (x1 := 0) (o.1.mono (fun k b h => hB k b (b12_le_bF k b h))) (fun k b h => hB k b (b13_le_bF k b h)) (by decide) (by decide) h1 h2) (fun c => absurd rfl c)
  have h59 : ∀ (x1 x2 : Int32) (y : Int64) (u : wS), ON s u → 0 ≤ x1.toInt → x1.toInt ≤ 1000 → ((x2 = 1 ∧ u.1 152 15 = 6) ∨ (x2 = 0 ∧ ¬ u.1 152 15 = 6)) → Tot (wX11_clauseHere_j59 x1 x2 y u) (CP J B s) := by
    intro x1 x2 y u o h1 h2 h3
    unfold wX11_clauseHere_j59
    refine t_bind (wX11_isWord_T (hJ _ (hO s u g o))) (fun r h14 => ?_)
    obtain ⟨t14, s15⟩ := r
    obtain ⟨o2, -, -⟩ := h14
    dsimp only at o2 ⊢
    exact t_ite (fun _ => bad _ _ _ (o.trans o2) h1 h2) (fun _ => base _ _ _ (o.trans o2) h1 h2 (by rw [o2.1 152 15 rfl]; exact h3))
  have h24 : ∀ (x1 x2 : Int32) (u : wS), ON s u → 0 ≤ x1.toInt → x1.toInt ≤ 1000 → ((x2 = 1 ∧ u.1 152 15 = 6) ∨ (x2 = 0 ∧ ¬ u.1 152 15 = 6)) → Tot (wX11_clauseHere_j24 x1 x2 u) (CP J B s) := by
    intro x1 x2 u o h1 h2 h3
    unfold wX11_clauseHere_j24
    refine t_bind (wX11_isWord_T (hJ _ (hO s u g o))) (fun r h5 => ?_)
    obtain ⟨t5, s6⟩ := r
    obtain ⟨o2, -, -⟩ := h5
    dsimp only at o2 ⊢
    refine t_ite (fun _ => ?_) (fun _ => base _ _ _ (o.trans o2) h1 h2 (by rw [o2.1 152 15 rfl]; exact h3))
    have oo := o.trans o2
    refine t_bind (wX11_isWord_T (hJ _ (hO s s6 g oo))) (fun r h9 => ?_)
    obtain ⟨t9, s10⟩ := r
    obtain ⟨o3, -, -⟩ := h9
    dsimp only at o3 ⊢
    have h3' : (x2 = 1 ∧ s10.1 152 15 = 6) ∨ (x2 = 0 ∧ ¬ s10.1 152 15 = 6) := by rw [o3.1 152 15 rfl, o2.1 152 15 rfl]; exact h3
    exact t_ite (fun _ => t_ite (fun _ => h59 _ _ _ _ (oo.trans o3) h1 h2 h3') (fun _ => h59 _ _ _ _ (oo.trans o3) h1 h2 h3')) (fun _ => base _ _ _ (oo.trans o3) h1 h2 h3')
  unfold wX11_clauseHere
  refine t_bind (wX11_see_T (hJ s g)) (fun r h => ?_)
  obtain ⟨t1, s2⟩ := r
  have o := h.1
  dsimp only at o ⊢
  have q := o.tp (hJ s g)
  have b1 : 0 ≤ (s2.1 152 12).toInt := q.2.1
  have b2 : (s2.1 152 12).toInt ≤ 1000 := by have := q.1; have := q.2; omega
  exact t_ite (fun c => h24 _ _ _ o b1 b2 (Or.inl ⟨rfl, c⟩)) (fun c => h24 _ _ _ o b1 b2 (Or.inr ⟨rfl, c⟩))
theorem clauseHere_L {t : Nat} (ht : t ≤ 5) {s : wS} (g : JL t s) : Tot (wX11_clauseHere s) (CP (JL t) (bL t) s) := by
  refine clauseHere_T (J := JL t) (B := bL t) (fun k b h => bF_le_bL k b h) (fun u h => h.1.tp) (fun u v h o => JL_on o h) (fun u x1 x2 h h1 h2 h3 => ?_) g
  have q := h.1.2.2.1
  have n6 : ¬ u.1 152 15 = 6 := by
    intro e
    rw [e, show (6 : Int32).toInt = 6 from rfl] at q
    omega
  obtain ⟨rfl, -⟩ := h3.resolve_left (fun p => n6 p.2)
  unfold wX11_clauseHere_j70
  exact t_ite (fun c => absurd c (by decide)) (fun _ => t_ite (fun _ => clauseHere_law ht h h1 h2) (fun c => absurd rfl c))
theorem clauseHere_C {s : wS} (g : JC s) : Tot (wX11_clauseHere s) (CP JC (bL 6) s) := by
  refine clauseHere_T (J := JC) (B := bL 6) (fun k b h => bF_le_bL k b h) (fun u h => h.1.1) (fun u v h o => JC_on o h) (fun u x1 x2 h h1 h2 h3 => ?_) g
  have q := h.2.1
  have n6 : u.1 152 15 = 6 := Int32.toInt_inj.1 q
  obtain ⟨rfl, -⟩ := h3.resolve_right (fun p => p.2 n6)
  unfold wX11_clauseHere_j70
  exact t_ite (fun c => absurd c (by decide)) (fun _ => t_ite (fun c => absurd c (by decide)) (fun _ => clauseHere_court (by decide) h h1 h2))
/-- the lines of a text -/
theorem readsAll_h35_T {J : wS → Prop} {B : Nat → Nat → Bool} (hB : ∀ k b, bF k b = true → B k b = true) (hJ : ∀ s, J s → TP s) (hO : ∀ s s', J s → ON s s' → J s') (hP : ∀ s, J s → (s.1 152 12).toInt < (s.1 152 1).toInt → J (wupI s 152 12 ((s.1 152 12) + 1))) (hL : ∀ s, J s → (s.1 152 18).toInt ≤ 24) (hc : ∀ s, J s → Tot (wX11_clauseHere s) (CP J B s)) : ∀ (n : Nat) {x1 : Int32} {s : wS}, ((x1 = 0 ∧ FW s) ∨ (x1 = 1 ∧ J s)) → (x1 = 1 → 24 - (s.1 152 18).toInt + 1 < (n : Int)) → 0 < n → Tot (wX11_readsAll_h35 n x1 s) (fun r => wA B s r.2 ∧ ((r.1 = 0 ∧ FW r.2) ∨ (r.1 = 1 ∧ J r.2))) := by
  intro n
  induction n with
  | zero => intro x1 s _ _ h; exact absurd h (by omega)
  | succ n ih =>
    intro x1 s g hm _
    rw [wX11_readsAll_h35]
    refine t_ite (fun _ => t_some ⟨wA.refl, g⟩) (fun c => ?_)
    obtain ⟨e1, g1⟩ := g.resolve_left (fun q => c q.1)
    have hm1 := hm e1
    have hl := hL s g1
    refine t_bind (wX11_see_T (hJ s g1)) (fun r h => ?_)
    obtain ⟨t10, s11⟩ := r
    obtain ⟨o, hlt, -, -⟩ := h
    dsimp only at o hlt ⊢
    have g11 := hO s s11 g1 o
    have a11 : wA B s s11 := o.1.mono (fun k b h => hB k b (b12_le_bF k b h))
    refine t_ite (fun c59 => ?_) (fun _ => t_some ⟨a11, Or.inr ⟨e1, g11⟩⟩)
    have hlt' := hlt (by rw [c59]; decide)
    refine t_bind (t_pfI (B := B) (hB 152 12 rfl)) (fun s14 h14 => ?_)
    have g14 : J s14 := by rw [h14.2]; exact hP s11 g11 hlt'
    have e14 : s14.1 152 18 = s.1 152 18 := by rw [h14.2, wup_nb (by omega), o.1 152 18 rfl]
    refine t_bind (hc s14 g14) (fun r hr => ?_)
    obtain ⟨t15, s16⟩ := r
    obtain ⟨a16, h16⟩ := hr
    dsimp only at a16 h16 ⊢
    have aa := (a11.trans h14.1).trans a16
    refine t_mono (ih (x1 := t15) (s := s16) (h16.imp id (fun q => ⟨q.1, q.2.1⟩)) (fun q1 => ?_) (by omega)) (fun r hr => ⟨aa.trans hr.1, hr.2⟩)
    rcases h16 with q | q
    · rw [q.1] at q1; exact absurd q1 (by decide)
    · rw [q.2.2, e14]; omega
/-- what a text, once read, leaves -/
noncomputable def RA (J : wS → Prop) (B : Nat → Nat → Bool) (s : wS) (r : Int32 × wS) : Prop := wA B s r.2 ∧ r.2.1 152 1 = 0 ∧ (r.1 = 0 ∨ (r.1 = 1 ∧ ∃ u, J u ∧ r.2 = wupI u 152 1 0 ∧ ((u.1 152 15) = 6 → ¬ u.1 152 8 = 0 ∧ ¬ u.1 152 9 = 0)))
theorem readsAll_T {J : wS → Prop} {B : Nat → Nat → Bool} (hB : ∀ k b, bF k b = true → B k b = true) (hB1 : B 152 1 = true) (hB18 : B 152 18 = true) (hJ : ∀ s, J s → TP s) (hO : ∀ s s', J s → ON s s' → J s') (hP : ∀ s, J s → (s.1 152 12).toInt < (s.1 152 1).toInt → J (wupI s 152 12 ((s.1 152 12) + 1))) (hL : ∀ s, J s → 0 ≤ (s.1 152 18).toInt ∧ (s.1 152 18).toInt ≤ 24) (hc : ∀ s, J s → Tot (wX11_clauseHere s) (CP J B s)) {s : wS} (ht0 : 0 ≤ (s.1 152 15).toInt) (ht : (s.1 152 15).toInt ≤ 6) (hB5 : B 155 (s.1 152 15).toNatClampNeg = true) (g : J (wupI (wupI (wupI (wupI (wupI s 155 (s.1 152 15).toNatClampNeg 0) 152 18 0) 152 12 0) 152 13 0) 152 16 0)) : Tot (wX11_readsAll s) (RA J B s) := by
  unfold wX11_readsAll
  refine t_bind (t_st1 (B := B) (n := 7) ht0 (by omega) hB5) (fun s1 h1 => ?_)
  refine t_bind (t_pfI (B := B) hB18) (fun s2 h2 => ?_)
  refine t_bind (t_pfI (B := B) (hB 152 12 rfl)) (fun s3 h3 => ?_)
  refine t_bind (t_pfI (B := B) (hB 152 13 rfl)) (fun s4 h4 => ?_)
  refine t_bind (t_pfI (B := B) (hB 152 16 rfl)) (fun s5 h5 => ?_)
  have g5 : J s5 := by rw [h5.2, h4.2, h3.2, h2.2, h1.2]; exact g
  have a5 := (((h1.1.trans h2.1).trans h3.1).trans h4.1).trans h5.1
  refine t_bind (hc s5 g5) (fun r hr => ?_)
  obtain ⟨t6, s7⟩ := r
  obtain ⟨a7, h7⟩ := hr
  dsimp only at a7 h7 ⊢
  refine t_bind (readsAll_h35_T (J := J) (B := B) hB hJ hO hP (fun u hu => (hL u hu).2) hc wFuel (x1 := t6) (s := s7) (h7.imp id (fun q => ⟨q.1, q.2.1⟩)) (fun q1 => ?_) (by decide +kernel)) (fun r hr => ?_)
  · have e : ((wFuel : Nat) : Int) = 1099511627776 := rfl
    rcases h7 with q | q
    · rw [q.1] at q1; exact absurd q1 (by decide)
    · have := (hL _ q.2.1).1
      omega
  obtain ⟨t19, s20⟩ := r
  obtain ⟨a20, h20⟩ := hr
  dsimp only at a20 h20 ⊢
  have A := (a5.trans a7).trans a20
  have bad : ∀ u, wA B s u → FW u → Tot (wX11_readsAll_j125 u) (RA J B s) := by
    intro u au fu
    unfold wX11_readsAll_j125
    refine t_bind (t_pfI (B := B) hB1) (fun s23 h23 => t_ite (fun c => ?_) (fun _ => t_some ⟨au.trans h23.1, by show s23.1 152 1 = 0; rw [h23.2, wup_same], Or.inl rfl⟩))
    rw [h23.2, wup_nb (by omega)] at c
    exact absurd c fu
  have good : ∀ u, wA B s u → J u → ((u.1 152 15) = 6 → ¬ u.1 152 8 = 0 ∧ ¬ u.1 152 9 = 0) → Tot (wX11_readsAll_j125 u) (RA J B s) := by
    intro u au ju hu
    unfold wX11_readsAll_j125
    refine t_bind (t_pfI (B := B) hB1) (fun s23 h23 => t_ite (fun c => t_some ⟨au.trans h23.1, by show s23.1 152 1 = 0; rw [h23.2, wup_same], Or.inr ⟨rfl, u, ju, h23.2, hu⟩⟩) (fun _ => t_some ⟨au.trans h23.1, by show s23.1 152 1 = 0; rw [h23.2, wup_same], Or.inl rfl⟩))
  have bad88 : ∀ u, wA B s u → FW u → Tot (wX11_readsAll_j88 0 u) (RA J B s) := by
    intro u au fu
    unfold wX11_readsAll_j88
    exact t_ite (fun _ => bad u au fu) (fun c => absurd rfl c)
  unfold wX11_readsAll_j66
  refine t_ite (fun c => ?_) (fun c => ?_)
  · subst c
    rcases h20 with q | q
    · exact bad88 _ A q.2
    · exact absurd q.1 (by decide)
  · obtain ⟨e1, g20⟩ := h20.resolve_left (fun q => c q.1)
    refine t_bind (wX11_see_T (hJ _ g20)) (fun r h => ?_)
    obtain ⟨t31, s32⟩ := r
    have o := h.1
    dsimp only at o ⊢
    have g32 := hO _ _ g20 o
    have A32 : wA B s s32 := A.trans (o.1.mono (fun k b h => hB k b (b12_le_bF k b h)))
    have q32 := hJ _ g32
    have n0 : 0 ≤ (s32.1 152 12).toInt := q32.2.1
    have n1 : (s32.1 152 12).toInt ≤ 1000 := by have := q32.1; have := q32.2; omega
    have f115 : Tot (wX11_readsAll_j115 s32) (RA J B s) := by
      unfold wX11_readsAll_j115
      refine t_bind wX11_fails_T (fun r hf => ?_)
      obtain ⟨t27, s28⟩ := r
      dsimp only at hf ⊢
      exact bad _ (A32.trans (hf.1.mono (fun k b h => hB k b (b13_le_bF k b h)))) (hf.2.2 (by decide) (by decide) n0 n1)
    refine t_ite (fun _ => ?_) (fun _ => ?_)
    · unfold wX11_readsAll_j88
      refine t_ite (fun c0 => absurd c0 c) (fun _ => t_ite (fun c6 => t_ite (fun _ => f115) (fun c8 => t_ite (fun _ => f115) (fun c9 => good _ A32 g32 (fun _ => ⟨c8, c9⟩)))) (fun c6 => good _ A32 g32 (fun q => absurd q c6)))
    · refine t_bind wX11_fails_T (fun r hf => ?_)
      obtain ⟨t35, s36⟩ := r
      dsimp only at hf ⊢
      obtain ⟨f1, rfl, f3⟩ := hf
      exact bad88 _ (A32.trans (f1.mono (fun k b h => hB k b (b13_le_bF k b h)))) (f3 (by decide) (by decide) n0 n1)
end
section
/-! The reference: its calls that change what it was told. -/
noncomputable def IM (s : wS) : Prop := ∀ k : Nat, k < 4 → ¬ s.1 171 k = 0 → qC (fun i => s.1 170 (262 * k + i))
noncomputable def RI (s : wS) : Prop := RQ s ∧ (0 ≤ (s.1 152 1).toInt ∧ (s.1 152 1).toInt ≤ 400) ∧ IM s
noncomputable def bX (k _b : Nat) : Bool := Nat.ble 152 k
/-- x and its images are left alone -/
noncomputable def XR (s s' : wS) : Prop := s'.1 163 6 = s.1 163 6 ∧ s'.1 170 = s.1 170 ∧ s'.1 171 = s.1 171
theorem IM_eq {s s' : wS} (h : s'.1 170 = s.1 170) (h1 : s'.1 171 = s.1 171) (g : IM s) : IM s' := by
  unfold IM at *
  rw [h, h1]
  exact g
noncomputable def bN (t k b : Nat) : Bool := bL t k b || (Nat.beq k 152 && (Nat.beq b 1 || Nat.beq b 15))
theorem bL_le_bN {t : Nat} : ∀ k b, bL t k b = true → bN t k b = true := fun k b h => by
  unfold bN
  rw [h]
  rfl
theorem bN_le_bX {t : Nat} : ∀ k b, bN t k b = true → bX k b = true := by
  intro k b h
  simp only [bN, bL, bE, bF, bX, Bool.or_eq_true, Bool.and_eq_true, Nat.ble_eq, Nat.beq_eq] at *
  omega
theorem nb_false {a b : Nat} (h : b < a) : Nat.ble a b = false := by
  cases e : Nat.ble a b
  · rfl
  · have := Nat.le_of_ble_eq_true e
    omega
theorem nq_false {a b : Nat} (h : a ≠ b) : Nat.beq a b = false := by
  cases e : Nat.beq a b
  · rfl
  · exact absurd (Nat.eq_of_beq_eq_true e) h
theorem bN_154 {t i : Nat} (h : i < 400 * t) : bN t 154 i = false := by
  unfold bN bL bE
  rw [nb_false h]
  rfl
theorem bN_156 {t i : Nat} (h : i < 60 * t) : bN t 156 i = false := by
  unfold bN bL
  rw [bE_k (by omega) (by omega) rfl, nb_false h]
  rfl
theorem bN_157 {t i : Nat} (h : i ≠ t) : bN t 157 i = false := by
  unfold bN bL
  rw [bE_k (by omega) (by omega) rfl, nq_false h]
  rfl
theorem bN_o {t k b : Nat} (h1 : k ≠ 154) (h2 : k ≠ 155) (h3 : bF k b = false) (h4 : Nat.beq k 156 = false) (h5 : Nat.beq k 157 = false) (h6 : (Nat.ble 158 k && Nat.ble k 160) = false) (h7 : (Nat.beq k 152 && ((Nat.ble 7 b && Nat.ble b 9) || Nat.beq b 17 || Nat.beq b 18 || Nat.beq b 20)) = false) (h8 : (Nat.beq k 152 && (Nat.beq b 1 || Nat.beq b 15)) = false) : bN t k b = false := by
  unfold bN bL
  rw [bE_k h1 h2 h3, h4, h5, h6, h7, h8]
  rfl
theorem bN_163 {t b : Nat} : bN t 163 b = false := bN_o (by omega) (by omega) rfl rfl rfl rfl rfl rfl
theorem bN_170 {t b : Nat} : bN t 170 b = false := bN_o (by omega) (by omega) rfl rfl rfl rfl rfl rfl
theorem bN_171 {t b : Nat} : bN t 171 b = false := bN_o (by omega) (by omega) rfl rfl rfl rfl rfl rfl
theorem bN_2 {t : Nat} : bN t 152 2 = false := bN_o (by omega) (by omega) rfl rfl rfl rfl rfl rfl
theorem bN_XR {t : Nat} {s s' : wS} (h : wA (bN t) s s') : XR s s' := ⟨h 163 6 bN_163, funext fun b => h 170 b bN_170, funext fun b => h 171 b bN_171⟩
theorem qWF_keep {C C' : Nat → Int32} {b e : Int} (h : ∀ j, j < 400 → C' j = C j) (g : qWF C b e) : qWF C' b e := by
  obtain ⟨g1, g2, g3, g4⟩ := g
  refine ⟨g1, g2, g3, ?_⟩
  rw [hrun_congr (C := C) (fun j _ h2 => h j (by omega))]
  exact g4
theorem qLW_keep {t l : Nat} {s s' : wS} (h : wA (bN t) s s') (hl : l < t) (g : qLW s l) : qLW s' l := by
  have e7 : s'.1 157 l = s.1 157 l := h 157 l (bN_157 (by omega))
  have e4 : ∀ j, j < 400 → s'.1 154 (400 * l + j) = s.1 154 (400 * l + j) := fun j hj => h 154 _ (bN_154 (by omega))
  unfold qLW at *
  rw [e7]
  refine ⟨g.1, fun c hc => ?_⟩
  have g1 := g.1
  have e6 : ∀ j, j < 5 → s'.1 156 (60 * l + 5 * c + j) = s.1 156 (60 * l + 5 * c + j) := fun j hj => h 156 _ (bN_156 (by omega))
  rw [e6 1 (by omega), e6 2 (by omega), e6 3 (by omega), e6 4 (by omega)]
  obtain ⟨k1, k2⟩ := g.2 c hc
  exact ⟨qWF_keep e4 k1, k2.imp id (fun q => qWF_keep e4 q)⟩
theorem KL_qLW {t : Nat} {s s' : wS} (g : KL t s) (h0 : 0 ≤ (s.1 157 t).toInt) (h : (s.1 157 t).toInt ≤ 12) (h4 : s'.1 154 = s.1 154) (h6 : s'.1 156 = s.1 156) (h7 : s'.1 157 = s.1 157) : qLW s' t := by
  unfold qLW
  rw [h4, h6, h7]
  exact ⟨⟨h0, h⟩, fun c hc => ⟨(g c hc).1.1, (g c hc).2.imp id (fun q => q.1)⟩⟩
theorem JL_P {t : Nat} {s : wS} (g : JL t s) (h : (s.1 152 12).toInt < (s.1 152 1).toInt) : JL t (wupI s 152 12 ((s.1 152 12) + 1)) := by
  have q := g.1.tp
  have e := t_p1 (x := s.1 152 12) q.2.1 (by have := q.1; omega)
  exact JL_on ⟨wA_I rfl, by rw [wup_same]; omega, by rw [wup_same]; omega⟩ g
theorem JC_P {s : wS} (g : JC s) (h : (s.1 152 12).toInt < (s.1 152 1).toInt) : JC (wupI s 152 12 ((s.1 152 12) + 1)) := by
  have q := g.1.1
  have e := t_p1 (x := s.1 152 12) q.2.1 (by have := q.1; omega)
  exact JC_on ⟨wA_I rfl, by rw [wup_same]; omega, by rw [wup_same]; omega⟩ g
theorem wX11_law_T {s : wS} (g : RI s) : Tot (wX11_law s) (fun r => RI r.2 ∧ wA bX s r.2 ∧ XR s r.2) := by
  unfold wX11_law
  refine t_ite (fun _ => t_some ⟨g, wA.refl, rfl, rfl, rfl⟩) (fun c => ?_)
  obtain ⟨⟨gC, gL, gW⟩, gT, gI⟩ := g
  have hc := t_nq c
  rw [show (6 : Int32).toInt = 6 from rfl] at hc
  obtain ⟨t, ht⟩ : ∃ t : Nat, (t : Int) = (s.1 152 2).toInt := ⟨(s.1 152 2).toInt.toNat, by omega⟩
  have hX : (s.1 152 2).toNatClampNeg = t := by unfold Int32.toNatClampNeg; omega
  refine t_bind (t_pfI (B := bN t) (by unfold bN; rw [show (Nat.beq 152 152 && (Nat.beq 15 1 || Nat.beq 15 15)) = true from rfl, Bool.or_true])) (fun s2 h2 => ?_)
  have x2 : s2.1 152 15 = s.1 152 2 := by rw [h2.2, wup_same]
  refine t_bind (t_st1 (B := bN t) (n := 6) (by rw [x2]; omega) (by rw [x2]; omega) (by rw [x2, hX]; exact bL_le_bN _ _ bL_157)) (fun s3 h3 => ?_)
  rw [x2, hX] at h3
  have x3 : s3.1 152 15 = s.1 152 2 := by rw [h3.2, wupI_n (by omega), x2]
  have T3 : s3.1 152 1 = s.1 152 1 := by rw [h3.2, wupI_n (by omega), h2.2, wup_nb (by omega)]
  have c3 : s3.1 157 t = 0 := by rw [h3.2, wup_same]
  have hB : ∀ k b, bF k b = true → bN t k b = true := fun k b h => bL_le_bN k b (bF_le_bL k b h)
  refine t_bind (readsAll_T (J := JL t) (B := bN t) hB (by unfold bN; rw [show (Nat.beq 152 152 && (Nat.beq 1 1 || Nat.beq 1 15)) = true from rfl, Bool.or_true]) ?_ (fun u h => h.1.tp) (fun u v h o => JL_on o h) (fun u h q => JL_P h q) (fun u h => ⟨by have := h.2.2.1; omega, by have := h.2.2.2; omega⟩) (fun u h => t_mono (clauseHere_L (by omega) h) (fun r hr => ⟨hr.1.mono bL_le_bN, hr.2⟩)) (s := s3) (by rw [x3]; omega) (by rw [x3]; omega) ?_ ?_) (fun r hr => ?_)
  · refine bL_le_bN _ _ ?_
    unfold bL
    rw [bE_k (by omega) (by omega) rfl]
    rfl
  · rw [x3, hX]
    refine bL_le_bN _ _ (bE_le_bL _ _ ?_)
    unfold bE
    rw [show Nat.beq 155 155 = true from rfl, Nat.beq_refl, Bool.true_and, Bool.or_true, Bool.true_or]
  · rw [x3, hX]
    refine ⟨?_, ?_, ?_, ?_⟩
    · refine ⟨?_, ?_, ?_, ?_, Int.le_refl 0, ?_, ?_⟩
      · rw [wup_nb (by omega), wup_nb (by omega), wup_nb (by omega), wup_nb (by omega), wupI_n (by omega), T3]
        exact gT
      · rw [wup_nb (by omega), wup_nb (by omega), wup_same, wup_nb (by omega), wup_nb (by omega), wup_nb (by omega), wup_nb (by omega), wupI_n (by omega), T3]
        exact ⟨by decide, gT.1⟩
      · rw [wup_nb (by omega), wup_nb (by omega), wup_nb (by omega), wup_nb (by omega), wupI_n (by omega), x3]
        omega
      · rw [wupI_n (by omega), wupI_n (by omega), wupI_n (by omega), wupI_n (by omega), wup_same]
        decide
      · rw [wupI_n (by omega), wupI_n (by omega), wupI_n (by omega), wupI_n (by omega), wup_same]
        show (0 : Int32).toInt + 0 ≤ _
        rw [wup_nb (by omega), wup_nb (by omega), wup_same]
        decide
      · rw [wup_same]
        decide
    · intro j hj
      rw [wupI_n (by omega), wupI_n (by omega), wupI_n (by omega), wupI_n (by omega), wupI_n (by omega), c3, t_i0] at hj
      omega
    · rw [wupI_n (by omega), wupI_n (by omega), wupI_n (by omega), wupI_n (by omega), wupI_n (by omega), c3, wup_nb (by omega), wup_nb (by omega), wup_nb (by omega), wup_same]
      decide
    · rw [wup_nb (by omega), wup_nb (by omega), wup_nb (by omega), wup_same]
      decide
  · obtain ⟨t4, s5⟩ := r
    obtain ⟨a5, T5, h5⟩ := hr
    dsimp only at a5 T5 h5 ⊢
    have A : wA (bN t) s s5 := (h2.1.trans h3.1).trans a5
    have X5 := bN_XR A
    have e163 : s5.1 163 = s.1 163 := funext fun b => A 163 b bN_163
    have e2 : s5.1 152 2 = s.1 152 2 := A 152 2 bN_2
    have kept : ∀ l : Nat, (l : Int) < (s.1 152 2).toInt → qLW s5 l := fun l hl => qLW_keep A (by omega) (gW l hl)
    refine t_ite (fun _ => t_some ⟨⟨⟨?_, ?_, ?_⟩, ?_, ?_⟩, A.mono bN_le_bX, X5⟩) (fun c4 => ?_)
    · show qC (s5.1 163); rw [e163]; exact gC
    · show 0 ≤ (s5.1 152 2).toInt ∧ _; rw [e2]; exact gL
    · intro l hl
      have hl' : (l : Int) < (s5.1 152 2).toInt := hl
      rw [e2] at hl'
      exact kept l hl'
    · show 0 ≤ (s5.1 152 1).toInt ∧ (s5.1 152 1).toInt ≤ 400; rw [T5]; decide
    · exact IM_eq X5.2.1 X5.2.2 gI
    · obtain ⟨-, u, ju, e5, -⟩ := h5.resolve_left c4
      have e := t_p1 (x := s.1 152 2) gL.1 (by omega)
      refine t_bind (t_pfI (B := bX) rfl) (fun s8 h8 => t_some ?_)
      have f163 : s8.1 163 = s.1 163 := by rw [h8.2, wupI_n (by omega), e163]
      have f2 : (s8.1 152 2).toInt = (s.1 152 2).toInt + 1 := by rw [h8.2, wup_same, e2]; exact e
      have f1 : s8.1 152 1 = 0 := by rw [h8.2, wup_nb (by omega), T5]
      have f170 : s8.1 170 = s.1 170 := by rw [h8.2, wupI_n (by omega), X5.2.1]
      have f171 : s8.1 171 = s.1 171 := by rw [h8.2, wupI_n (by omega), X5.2.2]
      have f154 : s8.1 154 = s5.1 154 := by rw [h8.2, wupI_n (by omega)]
      have f156 : s8.1 156 = s5.1 156 := by rw [h8.2, wupI_n (by omega)]
      have f157 : s8.1 157 = s5.1 157 := by rw [h8.2, wupI_n (by omega)]
      refine ⟨⟨⟨?_, ?_, ?_⟩, ?_, ?_⟩, (A.mono bN_le_bX).trans h8.1, ?_, f170, f171⟩
      · show qC (s8.1 163); rw [f163]; exact gC
      · show 0 ≤ (s8.1 152 2).toInt ∧ (s8.1 152 2).toInt ≤ 6; omega
      · intro l hl
        have hl' : (l : Int) < (s8.1 152 2).toInt := hl
        rw [f2] at hl'
        by_cases hlt : l = t
        · subst hlt
          have j3 := ju.2.2.1
          have j4 := ju.2.2.2
          exact KL_qLW (s := u) (s' := s8) ju.2.1 j3.1 (by omega) (by rw [f154, e5, wupI_n (by omega)]) (by rw [f156, e5, wupI_n (by omega)]) (by rw [f157, e5, wupI_n (by omega)])
        · have k := kept l (by omega)
          show qLW s8 l
          unfold qLW at *
          rw [f154, f156, f157]
          exact k
      · show 0 ≤ (s8.1 152 1).toInt ∧ (s8.1 152 1).toInt ≤ 400; rw [f1]; decide
      · exact IM_eq f170 f171 gI
      · show s8.1 163 6 = _; rw [f163]
/-- only what stands of roads and of men in the court was written -/
noncomputable def bW (k b : Nat) : Bool := Nat.beq k 163 && Nat.ble 10 b
theorem bW_n {s r : wS} (h : wA bW s r) {k : Nat} (hk : k ≠ 163) : r.1 k = s.1 k := funext fun b => h k b (by
  unfold bW
  rw [nq_false hk]
  rfl)
theorem bW_l {s r : wS} (h : wA bW s r) {b : Nat} (hb : b < 10) : r.1 163 b = s.1 163 b := h 163 b (by
  unfold bW
  rw [nb_false hb]
  rfl)
theorem bW_t {b : Nat} (h : 10 ≤ b) : bW 163 b = true := by
  unfold bW
  rw [show Nat.beq 163 163 = true from rfl, Nat.ble_eq_true_of_le h]
  rfl
theorem t_10 {x d : Int32} {m : Nat} (hd : d.toInt = m) (hm : 10 ≤ m) (hm2 : m ≤ 26) (h : 0 ≤ x.toInt) (h2 : x.toInt < 16) : (d + x).toInt = m + x.toInt ∧ 10 ≤ (d + x).toNatClampNeg := by
  have e : (d + x).toInt = m + x.toInt := by rw [t_add (by rw [hd]; omega) (by rw [hd]; omega), hd]
  refine ⟨e, ?_⟩
  unfold Int32.toNatClampNeg
  rw [e]
  omega
theorem wX11_court_h100_T : ∀ (n : Nat) {x1 : Int32} {s : wS}, 0 ≤ (s.1 152 8).toInt → (s.1 152 8).toInt ≤ 8 → 0 ≤ x1.toInt → x1.toInt ≤ 16 → 16 - x1.toInt < (n : Int) → Tot (wX11_court_h100 n x1 s) (fun r => wA bW s r) := by
  intro n
  induction n with
  | zero => intro x1 s _ _ _ _ hm; exfalso; omega
  | succ n ih =>
    intro x1 s h0 h8 hx hx2 hm
    rw [wX11_court_h100]
    refine t_ite (fun c => ?_) (fun _ => t_some wA.refl)
    have hc := t_lt c
    rw [t_2p h0 (by omega)] at hc
    refine t_bind (t_ldI (n := 16) hx (by omega)) (fun t17 _ => ?_)
    obtain ⟨e, e'⟩ := t_10 (x := x1) (d := 10) (m := 10) rfl (by omega) (by omega) hx (by omega)
    refine t_bind (t_st1 (B := bW) (n := 262) (by omega) (by omega) (bW_t e')) (fun s18 h18 => ?_)
    have e1 := t_p1 (x := x1) hx (by omega)
    have k : s18.1 152 = s.1 152 := by rw [h18.2, wupI_n (by omega)]
    exact t_mono (ih (x1 := x1 + 1) (s := s18) (by rw [k]; exact h0) (by rw [k]; exact h8) (by omega) (by omega) (by omega)) (fun r hr => h18.1.trans hr)
theorem wX11_court_h133_T : ∀ (n : Nat) {x1 : Int32} {s : wS}, 0 ≤ (s.1 152 9).toInt → (s.1 152 9).toInt ≤ 8 → 0 ≤ x1.toInt → x1.toInt ≤ 16 → 16 - x1.toInt < (n : Int) → Tot (wX11_court_h133 n x1 s) (fun r => wA bW s r) := by
  intro n
  induction n with
  | zero => intro x1 s _ _ _ _ hm; exfalso; omega
  | succ n ih =>
    intro x1 s h0 h8 hx hx2 hm
    rw [wX11_court_h133]
    refine t_ite (fun c => ?_) (fun _ => t_some wA.refl)
    have hc := t_lt c
    rw [t_2p h0 (by omega)] at hc
    refine t_bind (t_ldI (n := 16) hx (by omega)) (fun t17 _ => ?_)
    obtain ⟨e, e'⟩ := t_10 (x := x1) (d := 26) (m := 26) rfl (by omega) (by omega) hx (by omega)
    refine t_bind (t_st1 (B := bW) (n := 262) (by omega) (by omega) (bW_t e')) (fun s18 h18 => ?_)
    have e1 := t_p1 (x := x1) hx (by omega)
    have k : s18.1 152 = s.1 152 := by rw [h18.2, wupI_n (by omega)]
    exact t_mono (ih (x1 := x1 + 1) (s := s18) (by rw [k]; exact h0) (by rw [k]; exact h8) (by omega) (by omega) (by omega)) (fun r hr => h18.1.trans hr)
theorem t_wf16 {x : Int32} (h : 0 ≤ x.toInt) : 16 - x.toInt < ((wFuel : Nat) : Int) := by
  have e : ((wFuel : Nat) : Int) = 1099511627776 := rfl
  omega
/-- a new court -/
theorem court_j56 {s0 s : wS} {y : Int32} (a : wA bX s0 s) (x : XR s0 s) (g : RI s) (hy : 0 ≤ y.toInt) (hy2 : y.toInt ≤ 8) (h8 : 0 < (s.1 152 8).toInt) (h8' : (s.1 152 8).toInt ≤ 8) (h9 : 0 < (s.1 152 9).toInt) (h9' : (s.1 152 9).toInt ≤ 8) : Tot (wX11_court_j56 0 y s) (fun r => RI r.2 ∧ wA bX s0 r.2 ∧ XR s0 r.2) := by
  obtain ⟨⟨gC, gL, gW⟩, gT, gI⟩ := g
  unfold wX11_court_j56
  refine t_bind (t_st1 (B := bX) (n := 262) (by decide) (by decide) rfl) (fun s10 h10 => ?_)
  refine t_bind (t_st1 (B := bX) (n := 262) (by decide) (by decide) rfl) (fun s11 h11 => ?_)
  refine t_bind (t_st1 (B := bX) (n := 262) (by decide) (by decide) rfl) (fun s12 h12 => ?_)
  refine t_bind (t_st1 (B := bX) (n := 262) (by decide) (by decide) rfl) (fun s13 h13 => ?_)
  refine t_bind (t_st1 (B := bX) (n := 262) (by decide) (by decide) rfl) (fun s14 h14 => ?_)
  refine t_bind (t_st1 (B := bX) (n := 262) (by decide) (by decide) rfl) (fun s15 h15 => ?_)
  rw [show (0 : Int32).toNatClampNeg = 0 from rfl] at h10
  rw [show (1 : Int32).toNatClampNeg = 1 from rfl] at h11
  rw [show (2 : Int32).toNatClampNeg = 2 from rfl] at h12
  rw [show (3 : Int32).toNatClampNeg = 3 from rfl] at h13
  rw [show (4 : Int32).toNatClampNeg = 4 from rfl] at h14
  rw [show (5 : Int32).toNatClampNeg = 5 from rfl] at h15
  have A15 : wA bX s0 s15 := (((((a.trans h10.1).trans h11.1).trans h12.1).trans h13.1).trans h14.1).trans h15.1
  have o15 : ∀ k, k ≠ 163 → s15.1 k = s.1 k := fun k hk => by
    rw [h15.2, wupI_n hk, h14.2, wupI_n hk, h13.2, wupI_n hk, h12.2, wupI_n hk, h11.2, wupI_n hk, h10.2, wupI_n hk]
  have r10 : s10.1 152 = s.1 152 := by rw [h10.2, wupI_n (by omega)]
  have r11 : s11.1 152 = s.1 152 := by rw [h11.2, wupI_n (by omega), r10]
  have v0 : s15.1 163 0 = y := by rw [h15.2, wup_nb (by omega), h14.2, wup_nb (by omega), h13.2, wup_nb (by omega), h12.2, wup_nb (by omega), h11.2, wup_nb (by omega), h10.2, wup_same]
  have v1 : s15.1 163 1 = s.1 152 8 := by rw [h15.2, wup_nb (by omega), h14.2, wup_nb (by omega), h13.2, wup_nb (by omega), h12.2, wup_nb (by omega), h11.2, wup_same, r10]
  have v2 : s15.1 163 2 = s.1 152 9 := by rw [h15.2, wup_nb (by omega), h14.2, wup_nb (by omega), h13.2, wup_nb (by omega), h12.2, wup_same, r11]
  have v3 : s15.1 163 3 = 0 := by rw [h15.2, wup_nb (by omega), h14.2, wup_nb (by omega), h13.2, wup_same]
  have v5 : s15.1 163 5 = 0 := by rw [h15.2, wup_same]
  have v6 : s15.1 163 6 = s.1 163 6 := by rw [h15.2, wup_nb (by omega), h14.2, wup_nb (by omega), h13.2, wup_nb (by omega), h12.2, wup_nb (by omega), h11.2, wup_nb (by omega), h10.2, wup_nb (by omega)]
  have o152 := o15 152 (by omega)
  refine t_bind (wX11_court_h100_T _ (s := s15) (by rw [o152]; omega) (by rw [o152]; exact h8') (by decide) (by decide) (t_wf16 (by decide))) (fun s20 a20 => ?_)
  have p152 : s20.1 152 = s.1 152 := by rw [bW_n a20 (by omega), o152]
  refine t_bind (wX11_court_h133_T _ (s := s20) (by rw [p152]; omega) (by rw [p152]; exact h9') (by decide) (by decide) (t_wf16 (by decide))) (fun s26 a26 => ?_)
  refine t_bind wX11_worlds_T (fun t28 _ => t_some ?_)
  have aw := a20.trans a26
  have o26 : ∀ k, k ≠ 163 → s26.1 k = s.1 k := fun k hk => by rw [bW_n aw hk, o15 k hk]
  have w0 : s26.1 163 0 = y := by rw [bW_l aw (by omega), v0]
  have w1 : s26.1 163 1 = s.1 152 8 := by rw [bW_l aw (by omega), v1]
  have w2 : s26.1 163 2 = s.1 152 9 := by rw [bW_l aw (by omega), v2]
  have w3 : s26.1 163 3 = 0 := by rw [bW_l aw (by omega), v3]
  have w5 : s26.1 163 5 = 0 := by rw [bW_l aw (by omega), v5]
  have w6 : s26.1 163 6 = s.1 163 6 := by rw [bW_l aw (by omega), v6]
  have bWX : ∀ k b, bW k b = true → bX k b = true := by
    intro k b h
    simp only [bW, bX, Bool.and_eq_true, Nat.ble_eq, Nat.beq_eq] at *
    omega
  refine ⟨⟨⟨?_, ?_⟩, ?_, ?_⟩, A15.trans (aw.mono bWX), ?_, ?_, ?_⟩
  · show qC (s26.1 163)
    unfold qC
    rw [w0, w1, w2, w3, w5, w6]
    refine ⟨⟨hy, hy2⟩, ⟨by omega, h8'⟩, ⟨by omega, h9'⟩, fun _ => ⟨h8, h9⟩, ⟨by decide, by decide⟩, ⟨by decide, by decide⟩, fun a ha => ?_, fun a ha => ?_, gC.2.2.2.2.2.2.2.2⟩
    · rw [t_i0] at ha; omega
    · rw [t_i0] at ha; omega
  · show qL s26
    unfold qL qLW at *
    rw [o26 152 (by omega), o26 154 (by omega), o26 156 (by omega), o26 157 (by omega)]
    exact ⟨gL, gW⟩
  · show 0 ≤ (s26.1 152 1).toInt ∧ _
    rw [o26 152 (by omega)]
    exact gT
  · exact IM_eq (o26 170 (by omega)) (o26 171 (by omega)) gI
  · show s26.1 163 6 = _
    rw [w6, x.1]
  · show s26.1 170 = _
    rw [o26 170 (by omega), x.2.1]
  · show s26.1 171 = _
    rw [o26 171 (by omega), x.2.2]
theorem wX11_court_T {s : wS} (g : RI s) : Tot (wX11_court s) (fun r => RI r.2 ∧ wA bX s r.2 ∧ XR s r.2) := by
  unfold wX11_court
  obtain ⟨⟨gC, gL, gW⟩, gT, gI⟩ := g
  refine t_bind (t_pfI (B := bN 6) rfl) (fun s1 h1 => ?_)
  refine t_bind (t_pfI (B := bN 6) rfl) (fun s2 h2 => ?_)
  refine t_bind (t_pfI (B := bN 6) rfl) (fun s3 h3 => ?_)
  refine t_bind (t_pfI (B := bN 6) rfl) (fun s4 h4 => ?_)
  have x4 : s4.1 152 15 = 6 := by rw [h4.2, wup_nb (by omega), h3.2, wup_nb (by omega), h2.2, wup_nb (by omega), h1.2, wup_same]
  have T4 : s4.1 152 1 = s.1 152 1 := by rw [h4.2, wup_nb (by omega), h3.2, wup_nb (by omega), h2.2, wup_nb (by omega), h1.2, wup_nb (by omega)]
  have c7 : s4.1 152 7 = 0 := by rw [h4.2, wup_nb (by omega), h3.2, wup_nb (by omega), h2.2, wup_same]
  have c8 : s4.1 152 8 = 0 := by rw [h4.2, wup_nb (by omega), h3.2, wup_same]
  have c9 : s4.1 152 9 = 0 := by rw [h4.2, wup_same]
  have A4 := ((h1.1.trans h2.1).trans h3.1).trans h4.1
  have hB : ∀ k b, bF k b = true → bN 6 k b = true := fun k b h => bL_le_bN k b (bF_le_bL k b h)
  refine t_bind (readsAll_T (J := JC) (B := bN 6) hB rfl rfl (fun u h => h.1.1) (fun u v h o => JC_on o h) (fun u h q => JC_P h q) (fun u h => h.2.2) (fun u h => t_mono (clauseHere_C h) (fun r hr => ⟨hr.1.mono bL_le_bN, hr.2⟩)) (s := s4) (by rw [x4]; decide) (by rw [x4]; decide) (by rw [x4]; rfl) ?_) (fun r hr => ?_)
  · rw [x4]
    refine ⟨⟨⟨?_, ?_⟩, ?_, ?_, ?_⟩, ?_, ?_⟩
    · rw [wup_nb (by omega), wup_nb (by omega), wup_nb (by omega), wup_nb (by omega), wupI_n (by omega), T4]
      exact gT
    · rw [wup_nb (by omega), wup_nb (by omega), wup_same, wup_nb (by omega), wup_nb (by omega), wup_nb (by omega), wup_nb (by omega), wupI_n (by omega), T4]
      exact ⟨by decide, gT.1⟩
    · rw [wup_nb (by omega), wup_nb (by omega), wup_nb (by omega), wup_nb (by omega), wupI_n (by omega), c7]
      decide
    · rw [wup_nb (by omega), wup_nb (by omega), wup_nb (by omega), wup_nb (by omega), wupI_n (by omega), c8]
      decide
    · rw [wup_nb (by omega), wup_nb (by omega), wup_nb (by omega), wup_nb (by omega), wupI_n (by omega), c9]
      decide
    · rw [wup_nb (by omega), wup_nb (by omega), wup_nb (by omega), wup_nb (by omega), wupI_n (by omega), x4]
      decide
    · rw [wup_nb (by omega), wup_nb (by omega), wup_nb (by omega), wup_same]
      decide
  · obtain ⟨t4, s5⟩ := r
    obtain ⟨a5, T5, h5⟩ := hr
    dsimp only at a5 T5 h5 ⊢
    have A : wA (bN 6) s s5 := A4.trans a5
    have X5 := bN_XR A
    have e163 : s5.1 163 = s.1 163 := funext fun b => A 163 b bN_163
    have e2 : s5.1 152 2 = s.1 152 2 := A 152 2 bN_2
    have R5 : RI s5 := by
      refine ⟨⟨?_, ?_, ?_⟩, ?_, ?_⟩
      · rw [e163]; exact gC
      · rw [e2]; exact gL
      · intro l hl
        rw [e2] at hl
        exact qLW_keep A (by omega) (gW l hl)
      · rw [T5]; decide
      · exact IM_eq X5.2.1 X5.2.2 gI
    refine t_ite (fun _ => t_some ⟨R5, A.mono bN_le_bX, X5⟩) (fun c4 => ?_)
    obtain ⟨-, u, ju, e5, hu⟩ := h5.resolve_left c4
    obtain ⟨⟨-, u7, u8, u9⟩, u15, -⟩ := ju
    have z := hu (Int32.toInt_inj.1 u15)
    have z8 := t_nq z.1
    have z9 := t_nq z.2
    rw [t_i0] at z8 z9
    have k7 : s5.1 152 7 = u.1 152 7 := by rw [e5, wup_nb (by omega)]
    have k8 : s5.1 152 8 = u.1 152 8 := by rw [e5, wup_nb (by omega)]
    have k9 : s5.1 152 9 = u.1 152 9 := by rw [e5, wup_nb (by omega)]
    have fin : ∀ y : Int32, 0 ≤ y.toInt → y.toInt ≤ 8 → Tot (wX11_court_j56 0 y s5) (fun r => RI r.2 ∧ wA bX s r.2 ∧ XR s r.2) := fun y h0 h1 => court_j56 (A.mono bN_le_bX) X5 R5 h0 h1 (by rw [k8]; omega) (by rw [k8]; exact u8.2) (by rw [k9]; omega) (by rw [k9]; exact u9.2)
    exact t_ite (fun _ => fin 1 (by decide) (by decide)) (fun _ => fin _ (by rw [k7]; exact u7.1) (by rw [k7]; exact u7.2))
end
section
/-! The reference: feed, end, answer, strike, only, seed, verdict, image, back. -/
theorem wX11_four_h3_T {x1 : Int32} : ∀ (n : Nat) {m : Nat} {x2 : Int32} {s : wS}, x2.toInt = 8 * (m : Int) - 8 → m ≤ 4 → 0 ≤ (s.1 152 1).toInt → (s.1 152 1).toInt + m ≤ 400 → m < n → Tot (wX11_four_h3 x1 n x2 s) (fun r => wA (fun k b => Nat.beq k 153 || (Nat.beq k 152 && Nat.beq b 1)) s r ∧ (r.1 152 1).toInt = (s.1 152 1).toInt + m) := by
  intro n
  induction n with
  | zero => intro m x2 s _ _ _ _ h; exact absurd h (by omega)
  | succ n ih =>
    intro m x2 s hx hm4 h0 h4 hm
    rw [wX11_four_h3]
    refine t_ite (fun c => t_some ⟨wA.refl, ?_⟩) (fun c => ?_)
    · have hc := t_lt c
      rw [t_i0] at hc
      omega
    · have hc := t_ge c
      rw [t_i0] at hc
      obtain ⟨k, rfl⟩ : ∃ k, m = k + 1 := ⟨m - 1, by omega⟩
      refine t_bind (t_stB (B := fun k b => Nat.beq k 153 || (Nat.beq k 152 && Nat.beq b 1)) (n := 400) h0 (by omega) (fun _ => rfl)) (fun s2 h2 => ?_)
      refine t_bind (t_pfI (B := fun k b => Nat.beq k 153 || (Nat.beq k 152 && Nat.beq b 1)) rfl) (fun s3 h3 => ?_)
      have e : (s3.1 152 1).toInt = (s.1 152 1).toInt + 1 := by
        rw [h3.2, wup_same, h2.2, wupI_n (by omega)]
        exact t_p1 h0 (by omega)
      have e8 : (x2 + (-8)).toInt = x2.toInt - 8 := by
        rw [t_add (by rw [show (-8 : Int32).toInt = -8 from rfl]; omega) (by rw [show (-8 : Int32).toInt = -8 from rfl]; omega), show (-8 : Int32).toInt = -8 from rfl]
        omega
      exact t_mono (ih (m := k) (x2 := x2 + (-8)) (s := s3) (by omega) (by omega) (by omega) (by omega) (by omega)) (fun r hr => ⟨(h2.1.trans h3.1).trans hr.1, by rw [hr.2]; omega⟩)
theorem wX11_four_T {x1 : Int32} {s : wS} (h0 : 0 ≤ (s.1 152 1).toInt) (h4 : (s.1 152 1).toInt + 4 ≤ 400) : Tot (wX11_four x1 s) (fun r => wA (fun k b => Nat.beq k 153 || (Nat.beq k 152 && Nat.beq b 1)) s r ∧ (r.1 152 1).toInt = (s.1 152 1).toInt + 4) := by
  unfold wX11_four
  exact t_bind (wX11_four_h3_T wFuel (m := 4) rfl (by omega) h0 h4 (by decide +kernel)) (fun s5 h => t_some h)
/-- what was told stays -/
theorem RI_taped {B : Nat → Nat → Bool} {s s' : wS} (h : wA B s s') (g : RI s) (h163 : ∀ b, B 163 b = false) (h157 : ∀ b, B 157 b = false) (h156 : ∀ b, B 156 b = false) (h154 : ∀ b, B 154 b = false) (h2 : B 152 2 = false) (h170 : ∀ b, B 170 b = false) (h171 : ∀ b, B 171 b = false) (hT : 0 ≤ (s'.1 152 1).toInt ∧ (s'.1 152 1).toInt ≤ 400) : RI s' ∧ XR s s' := by
  obtain ⟨g1, g2, g3⟩ := g
  have e170 : s'.1 170 = s.1 170 := funext fun b => h 170 b (h170 b)
  have e171 : s'.1 171 = s.1 171 := funext fun b => h 171 b (h171 b)
  exact ⟨⟨RQ_same ⟨funext fun b => h 163 b (h163 b), funext fun b => h 157 b (h157 b), funext fun b => h 156 b (h156 b), funext fun b => h 154 b (h154 b), h 152 2 h2⟩ g1, hT, IM_eq e170 e171 g3⟩, h 163 6 (h163 6), e170, e171⟩
theorem bQ_RI {s s' : wS} (h : wA bQ s s') (g : RI s) : RI s' ∧ XR s s' :=
  RI_taped h g (fun _ => rfl) (fun _ => rfl) (fun _ => rfl) (fun _ => rfl) rfl (fun _ => rfl) (fun _ => rfl) (by rw [h 152 1 rfl]; exact g.2.1)
theorem wX11_feed_T {x1 x2 x3 x4 x5 : Int32} {s : wS} (g : RI s) : Tot (wX11_feed x1 x2 x3 x4 x5 s) (fun r => RI r.2 ∧ wA bX s r.2 ∧ XR s r.2) := by
  unfold wX11_feed
  refine t_ite (fun _ => t_some ⟨g, wA.refl, rfl, rfl, rfl⟩) (fun c => ?_)
  have gT := g.2.1
  have hc := t_ge c
  have e20 : ((s.1 152 1) + 20).toInt = (s.1 152 1).toInt + 20 := t_pl rfl (by omega) (by omega) gT.1 (by omega)
  rw [e20, show (400 : Int32).toInt = 400 from rfl] at hc
  refine t_bind (wX11_four_T gT.1 (by omega)) (fun s3 h3 => ?_)
  refine t_bind (wX11_four_T (by omega) (by omega)) (fun s6 h6 => ?_)
  refine t_bind (wX11_four_T (by omega) (by omega)) (fun s9 h9 => ?_)
  refine t_bind (wX11_four_T (by omega) (by omega)) (fun s12 h12 => ?_)
  refine t_bind (wX11_four_T (by omega) (by omega)) (fun s15 h15 => t_some ?_)
  have A := (((h3.1.trans h6.1).trans h9.1).trans h12.1).trans h15.1
  have q := RI_taped A g (fun _ => rfl) (fun _ => rfl) (fun _ => rfl) (fun _ => rfl) rfl (fun _ => rfl) (fun _ => rfl) (by omega)
  refine ⟨q.1, A.mono ?_, q.2⟩
  intro k b h
  simp only [bX, Bool.or_eq_true, Bool.and_eq_true, Nat.ble_eq, Nat.beq_eq] at *
  omega
theorem wX11_end_T {x1 : Int32} {s : wS} (g : RI s) : Tot (wX11_end x1 s) (fun r => RI r.2 ∧ wA bX s r.2 ∧ XR s r.2) := by
  unfold wX11_end
  refine t_ite (fun _ => t_some ⟨g, wA.refl, rfl, rfl, rfl⟩) (fun c => t_ite (fun _ => t_some ⟨g, wA.refl, rfl, rfl, rfl⟩) (fun c2 => ?_))
  have gT := g.2.1
  have h1 := t_ge c
  rw [t_i0] at h1
  have h2 := t_ge c2
  refine t_bind (t_pfI (B := fun k b => Nat.beq k 152 && Nat.beq b 1) rfl) (fun s3 h3 => t_some ?_)
  have q := RI_taped h3.1 g (fun _ => rfl) (fun _ => rfl) (fun _ => rfl) (fun _ => rfl) rfl (fun _ => rfl) (fun _ => rfl) (by rw [h3.2, wup_same]; omega)
  refine ⟨q.1, h3.1.mono ?_, q.2⟩
  intro k b h
  simp only [bX, Bool.or_eq_true, Bool.and_eq_true, Nat.ble_eq, Nat.beq_eq] at *
  omega
/-- the places that matter -/
noncomputable def qI (j : Nat) : Prop := j < 4 ∨ j = 5 ∨ j = 6 ∨ (43 ≤ j ∧ j < 243 ∧ j % 5 ≠ 1 ∧ j % 5 ≠ 2) ∨ (243 ≤ j ∧ j < 262 ∧ j % 2 = 1)
theorem qC_congr {f f' : Nat → Int32} (h : ∀ j, qI j → f' j = f j) (g : qC f) : qC f' := by
  obtain ⟨g0, g1, g2, gp, g3, g5, ga, gv, g6⟩ := g
  unfold qC
  have e0 : f' 0 = f 0 := h 0 (Or.inl (by omega))
  have e1 : f' 1 = f 1 := h 1 (Or.inl (by omega))
  have e2 : f' 2 = f 2 := h 2 (Or.inl (by omega))
  have e3 : f' 3 = f 3 := h 3 (Or.inl (by omega))
  have e5 : f' 5 = f 5 := h 5 (Or.inr (Or.inl rfl))
  have e6 : f' 6 = f 6 := h 6 (Or.inr (Or.inr (Or.inl rfl)))
  rw [e0, e1, e2, e3, e5, e6]
  refine ⟨g0, g1, g2, gp, g3, g5, fun a hx => ?_, fun v hx => ?_, g6⟩
  · have q := ga a hx
    have d3 : f' (43 + 5 * a) = f (43 + 5 * a) := h _ (Or.inr (Or.inr (Or.inr (Or.inl ⟨by omega, by omega, by omega, by omega⟩))))
    have d4 : f' (44 + 5 * a) = f (44 + 5 * a) := h _ (Or.inr (Or.inr (Or.inr (Or.inl ⟨by omega, by omega, by omega, by omega⟩))))
    have d5 : f' (45 + 5 * a) = f (45 + 5 * a) := h _ (Or.inr (Or.inr (Or.inr (Or.inl ⟨by omega, by omega, by omega, by omega⟩))))
    unfold qA at *
    have dk : f' (f (43 + 5 * a)).toNatClampNeg = f (f (43 + 5 * a)).toNatClampNeg := h _ (Or.inl (by unfold Int32.toNatClampNeg; omega))
    rw [d3, d4, d5, dk]
    exact q
  · have d : f' (243 + 2 * v) = f (243 + 2 * v) := h _ (Or.inr (Or.inr (Or.inr (Or.inr ⟨by omega, by omega, by omega⟩))))
    rw [d]
    exact gv v hx
/-- the court was told something -/
theorem RI_163 {s : wS} (g : RI s) {f : Nat → Int32} (h : qC f) {s' : wS} (e : s'.1 = fun k => if k = 163 then f else s.1 k) : RI s' ∧ wA bX s s' ∧ s'.1 170 = s.1 170 ∧ s'.1 171 = s.1 171 ∧ s'.1 163 = f := by
  have o : ∀ k, k ≠ 163 → s'.1 k = s.1 k := fun k hk => by rw [e]; simp only [if_neg hk]
  have o3 : s'.1 163 = f := by rw [e]; simp only [if_true]
  obtain ⟨⟨gC, gL, gW⟩, gT, gI⟩ := g
  refine ⟨⟨⟨by rw [o3]; exact h, ?_⟩, by rw [o 152 (by omega)]; exact gT, IM_eq (o 170 (by omega)) (o 171 (by omega)) gI⟩, ?_, o 170 (by omega), o 171 (by omega), o3⟩
  · unfold qL qLW at *
    rw [o 152 (by omega), o 154 (by omega), o 156 (by omega), o 157 (by omega)]
    exact ⟨gL, gW⟩
  · intro k b hk
    by_cases hk3 : k = 163
    · subst hk3; cases hk
    · rw [o k hk3]
theorem wup_fun {s : wS} {k b : Nat} {v : Int32} : (wupI s k b v).1 = fun j => if j = k then upd (s.1 k) b v else s.1 j := rfl
theorem wX11_seed_T {x1 : Int32} {s : wS} (g : RI s) : Tot (wX11_seed x1 s) (fun r => RI r.2 ∧ wA bX s r.2 ∧ r.2.1 170 = s.1 170 ∧ r.2.1 171 = s.1 171 ∧ ((x1 < 0 ∧ r = (-1, s)) ∨ (¬ x1 < 0 ∧ r.1 = s.1 163 6 ∧ r.2.1 163 6 = x1))) := by
  unfold wX11_seed
  refine t_ite (fun c => t_some ⟨g, wA.refl, rfl, rfl, Or.inl ⟨c, rfl⟩⟩) (fun c => ?_)
  refine t_bind (t_st1 (B := bX) (n := 262) (by decide) (by decide) rfl) (fun s3 h3 => t_some ?_)
  rw [show (6 : Int32).toNatClampNeg = 6 from rfl] at h3
  have hc := t_ge c
  rw [t_i0] at hc
  have q := RI_163 g (f := upd (s.1 163) 6 x1) (s' := s3) (by
    obtain ⟨g0, g1, g2, gp, g3, g5, ga, gv, g6⟩ := g.1.1
    have u : ∀ j, j ≠ 6 → upd (s.1 163) 6 x1 j = s.1 163 j := fun j hj => by unfold upd; rw [if_neg hj]
    have u6 : upd (s.1 163) 6 x1 6 = x1 := by unfold upd; rw [if_pos rfl]
    unfold qC
    rw [u 0 (by omega), u 1 (by omega), u 2 (by omega), u 3 (by omega), u 5 (by omega), u6]
    refine ⟨g0, g1, g2, gp, g3, g5, fun a hx => ?_, fun v hx => ?_, hc⟩
    · have q := ga a hx
      unfold qA at *
      have dk : upd (s.1 163) 6 x1 (s.1 163 (43 + 5 * a)).toNatClampNeg = s.1 163 (s.1 163 (43 + 5 * a)).toNatClampNeg := u _ (by unfold Int32.toNatClampNeg; omega)
      rw [u (43 + 5 * a) (by omega), u (44 + 5 * a) (by omega), u (45 + 5 * a) (by omega), dk]
      exact q
    · rw [u (243 + 2 * v) (by omega)]
      exact gv v hx) (by rw [h3.2]; rfl)
  exact ⟨q.1, q.2.1, q.2.2.1, q.2.2.2.1, Or.inr ⟨c, rfl, by show s3.1 163 6 = x1; rw [q.2.2.2.2]; unfold upd; rw [if_pos rfl]⟩⟩
/-- a place that nothing depends on -/
theorem RI_up {s : wS} (g : RI s) {i : Nat} (hi : ¬ qI i) (h6 : i ≠ 6) (v : Int32) : RI (wupI s 163 i v) ∧ wA bX s (wupI s 163 i v) ∧ XR s (wupI s 163 i v) := by
  have q := RI_163 g (f := upd (s.1 163) i v) (s' := wupI s 163 i v) (qC_congr (fun j hj => by
    unfold upd
    rw [if_neg (fun (e : j = i) => hi (e ▸ hj))]) g.1.1) rfl
  exact ⟨q.1, q.2.1, by rw [wup_nb (by omega)], q.2.2.1, q.2.2.2.1⟩
theorem wX11_only_T {x1 : Int32} {s : wS} (g : RI s) : Tot (wX11_only x1 s) (fun r => RI r.2 ∧ wA bX s r.2 ∧ XR s r.2) := by
  unfold wX11_only
  refine t_bind wX11_in_T (fun t1 _ => t_ite (fun _ => t_some ⟨g, wA.refl, rfl, rfl, rfl⟩) (fun _ => ?_))
  refine t_bind (t_st1 (B := bX) (n := 262) (by decide) (by decide) rfl) (fun s5 h5 => t_some ?_)
  show RI s5 ∧ wA bX s s5 ∧ XR s s5
  rw [h5.2, show (4 : Int32).toNatClampNeg = 4 from rfl]
  exact RI_up g (by unfold qI; omega) (by omega) _
theorem wX11_strike_T {x1 x2 : Int32} {s : wS} (g : RI s) : Tot (wX11_strike x1 x2 s) (fun r => RI r.2 ∧ wA bX s r.2 ∧ XR s r.2) := by
  unfold wX11_strike
  refine t_bind wX11_isAnswer_T (fun t1 h1 => t_ite (fun _ => t_some ⟨g, wA.refl, rfl, rfl, rfl⟩) (fun c => ?_))
  have h2 : 0 ≤ x1.toInt ∧ x1.toInt < (s.1 163 3).toInt := by
    rcases h1 with h | h
    · exact h.2
    · exact absurd h c
  have b3 := (RQ_b g.1).2.2.2.1
  refine t_bind (wX11_answerOf_T h2.1 (by omega) (by decide) (by decide)) (fun t4 _ => ?_)
  have e := t_ans (a := x1) (w := 4) h2.1 (by omega) (by decide) (by decide)
  rw [show (4 : Int32).toInt = 4 from rfl] at e
  have j50 : ∀ y, Tot (wX11_strike_j50 ((42 + (5 * x1)) + 4) y s) (fun r => RI r.2 ∧ wA bX s r.2 ∧ XR s r.2) := by
    intro y
    unfold wX11_strike_j50
    refine t_bind (t_st1 (B := bX) (n := 262) (by omega) (by omega) rfl) (fun s9 h9 => t_some ?_)
    show RI s9 ∧ wA bX s s9 ∧ XR s s9
    have en : (((42 + (5 * x1)) + 4) : Int32).toNatClampNeg = 46 + 5 * x1.toNatClampNeg := by
      unfold Int32.toNatClampNeg
      omega
    have x40 : x1.toNatClampNeg < 40 := by unfold Int32.toNatClampNeg; omega
    rw [h9.2, en]
    exact RI_up g (by unfold qI; omega) (by omega) _
  have j23 : ∀ y, Tot (wX11_strike_j23 x1 x2 y s) (fun r => RI r.2 ∧ wA bX s r.2 ∧ XR s r.2) := by
    intro y
    unfold wX11_strike_j23
    exact t_ite (fun _ => t_some ⟨g, wA.refl, rfl, rfl, rfl⟩) (fun _ => t_ite (fun _ => j50 _) (fun _ => j50 _))
  exact t_ite (fun _ => j23 _) (fun _ => j23 _)
theorem t_in {x a b : Int32} {A B : Int} (hA : a.toInt = A) (hB : b.toInt = B) {t : Int32} (h : (t = 1 ∧ ((a : Int32).toInt64).toInt ≤ ((x : Int32).toInt64).toInt ∧ ((x : Int32).toInt64).toInt ≤ ((b : Int32).toInt64).toInt) ∨ t = 0) (c : ¬ t = 0) : A ≤ x.toInt ∧ x.toInt ≤ B := by
  have q := (h.resolve_right c).2
  rw [Int32.toInt_toInt64, Int32.toInt_toInt64, Int32.toInt_toInt64, hA, hB] at q
  exact q
theorem upd_s {f : Nat → Int32} {i : Nat} {v : Int32} : upd f i v i = v := by unfold upd; rw [if_pos rfl]
theorem upd_n {f : Nat → Int32} {i j : Nat} {v : Int32} (h : j ≠ i) : upd f i v j = f j := by unfold upd; rw [if_neg h]
/-- an answer more -/
theorem qC_answer {f f' : Nat → Int32} {n : Nat} (g : qC f) (hn : (n : Int) = (f 3).toInt) (hn2 : n < 40) (h : ∀ j, ¬ (42 + 5 * n ≤ j ∧ j ≤ 46 + 5 * n) → j ≠ 3 → f' j = f j) (h3 : (f' 3).toInt = n + 1) (hA : (0 ≤ (f' (43 + 5 * n)).toInt ∧ (f' (43 + 5 * n)).toInt ≤ 2) ∧ (0 ≤ (f' (44 + 5 * n)).toInt ∧ (f' (44 + 5 * n)).toInt < (f (f' (43 + 5 * n)).toNatClampNeg).toInt) ∧ (0 ≤ (f' (45 + 5 * n)).toInt ∧ (f' (45 + 5 * n)).toInt < (f (f' (43 + 5 * n)).toNatClampNeg).toInt)) : qC f' := by
  obtain ⟨g0, g1, g2, gp, g3, g5, ga, gv, g6⟩ := g
  unfold qC
  rw [h 0 (by omega) (by omega), h 1 (by omega) (by omega), h 2 (by omega) (by omega), h 5 (by omega) (by omega), h 6 (by omega) (by omega), h3]
  have dk : ∀ k : Int32, 0 ≤ k.toInt → k.toInt ≤ 2 → f' k.toNatClampNeg = f k.toNatClampNeg := fun k h0 h2 => h _ (by unfold Int32.toNatClampNeg; omega) (by unfold Int32.toNatClampNeg; omega)
  refine ⟨g0, g1, g2, gp, ⟨by omega, by omega⟩, g5, fun a hx => ?_, fun v hx => ?_, g6⟩
  · by_cases ha : a = n
    · subst ha
      unfold qA
      rw [dk _ hA.1.1 hA.1.2]
      exact hA
    · have q := ga a (by omega)
      unfold qA at *
      rw [h (43 + 5 * a) (by omega) (by omega), h (44 + 5 * a) (by omega) (by omega), h (45 + 5 * a) (by omega) (by omega), dk _ q.1.1 q.1.2]
      exact q
  · have q := gv v hx
    rw [h (243 + 2 * v) (by omega) (by omega)]
    omega
theorem wX11_answer_T {x1 x2 x3 x4 : Int32} {s : wS} (g : RI s) : Tot (wX11_answer x1 x2 x3 x4 s) (fun r => RI r.2 ∧ wA bX s r.2 ∧ XR s r.2) := by
  have stay : ∀ v : Int32, Tot (some (v, s)) (fun r => RI r.2 ∧ wA bX s r.2 ∧ XR s r.2) := fun v => t_some ⟨g, wA.refl, rfl, rfl, rfl⟩
  unfold wX11_answer
  refine t_ite (fun _ => stay _) (fun c40 => ?_)
  have hc := t_nq c40
  rw [show (40 : Int32).toInt = 40 from rfl] at hc
  have b3 := (RQ_b g.1).2.2.2.1
  refine t_bind wX11_isWitness_T (fun t3 _ => t_ite (fun _ => stay _) (fun _ => ?_))
  refine t_bind (wX11_isThing_T g.1) (fun t6 h6 => t_ite (fun _ => stay _) (fun c6 => ?_))
  refine t_bind (wX11_isThing_T g.1) (fun t9 h9 => t_ite (fun _ => stay _) (fun c9 => t_ite (fun _ => stay _) (fun _ => ?_)))
  refine t_bind (wX11_answersBy_T g.1) (fun t13 _ => t_ite (fun _ => stay _) (fun _ => ?_))
  have k6 := (h6.resolve_right c6).2
  have k9 := (h9.resolve_right c9).2
  obtain ⟨n, hn⟩ : ∃ n : Nat, (n : Int) = (s.1 163 3).toInt := ⟨(s.1 163 3).toInt.toNat, by omega⟩
  have e5 : (5 * s.1 163 3).toInt = 5 * n := by rw [t_mul (by rw [show (5 : Int32).toInt = 5 from rfl]; omega) (by rw [show (5 : Int32).toInt = 5 from rfl]; omega), show (5 : Int32).toInt = 5 from rfl]; omega
  have e0 : (42 + (5 * s.1 163 3)).toInt = 42 + 5 * n := by rw [t_add (by rw [e5, show (42 : Int32).toInt = 42 from rfl]; omega) (by rw [e5, show (42 : Int32).toInt = 42 from rfl]; omega), e5, show (42 : Int32).toInt = 42 from rfl]
  generalize hat : 42 + (5 * s.1 163 3) = at0 at *
  have en : ∀ {d : Int32} {m : Nat}, d.toInt = m → m ≤ 4 → (at0 + d).toInt = 42 + 5 * n + m ∧ (at0 + d).toNatClampNeg = 42 + 5 * n + m := by
    intro d m hd h4
    have e : (at0 + d).toInt = 42 + 5 * n + m := by rw [t_pl hd (by omega) (by omega) (by omega) (by omega), e0]
    refine ⟨e, ?_⟩
    unfold Int32.toNatClampNeg
    omega
  have n0 : at0.toNatClampNeg = 42 + 5 * n := by unfold Int32.toNatClampNeg; omega
  obtain ⟨e1, n1⟩ := en (d := 1) (m := 1) rfl (by omega)
  obtain ⟨e2, n2⟩ := en (d := 2) (m := 2) rfl (by omega)
  obtain ⟨e3, n3⟩ := en (d := 3) (m := 3) rfl (by omega)
  obtain ⟨e4, n4⟩ := en (d := 4) (m := 4) rfl (by omega)
  refine t_bind (t_st1 (B := bX) (n := 262) (by omega) (by omega) rfl) (fun s17 h17 => ?_)
  refine t_bind (t_st1 (B := bX) (n := 262) (by omega) (by omega) rfl) (fun s18 h18 => ?_)
  refine t_bind (t_st1 (B := bX) (n := 262) (by omega) (by omega) rfl) (fun s19 h19 => ?_)
  refine t_bind (t_st1 (B := bX) (n := 262) (by omega) (by omega) rfl) (fun s20 h20 => ?_)
  refine t_bind (t_st1 (B := bX) (n := 262) (by omega) (by omega) rfl) (fun s21 h21 => ?_)
  refine t_bind (t_st1 (B := bX) (n := 262) (by decide) (by decide) rfl) (fun s23 h23 => t_some ?_)
  rw [n0] at h17
  rw [n1] at h18
  rw [n2] at h19
  rw [n3] at h20
  rw [n4] at h21
  rw [show (3 : Int32).toNatClampNeg = 3 from rfl] at h23
  have r17 := h17.2
  have r18 := h18.2
  have r19 := h19.2
  have r20 := h20.2
  have r21 := h21.2
  have r23 := h23.2
  have o : ∀ k, k ≠ 163 → s23.1 k = s.1 k := fun k hk => by rw [r23, wupI_n hk, r21, wupI_n hk, r20, wupI_n hk, r19, wupI_n hk, r18, wupI_n hk, r17, wupI_n hk]
  have m3 : s21.1 163 3 = s.1 163 3 := by rw [r21, wup_nb (by omega), r20, wup_nb (by omega), r19, wup_nb (by omega), r18, wup_nb (by omega), r17, wup_nb (by omega)]
  have f3 : (s23.1 163 3).toInt = n + 1 := by
    rw [r23, wup_same, m3, hn]
    exact t_p1 b3.1 (by omega)
  have fo : ∀ j, ¬ (42 + 5 * n ≤ j ∧ j ≤ 46 + 5 * n) → j ≠ 3 → s23.1 163 j = s.1 163 j := fun j hj hj3 => by
    rw [r23, wup_nb hj3, r21, wup_nb (by omega), r20, wup_nb (by omega), r19, wup_nb (by omega), r18, wup_nb (by omega), r17, wup_nb (by omega)]
  have fk : s23.1 163 (43 + 5 * n) = x2 := by
    rw [r23, wup_nb (by omega), r21, wup_nb (by omega), r20, wup_nb (by omega), r19, wup_nb (by omega), r18, show 42 + 5 * n + 1 = 43 + 5 * n by omega, wup_same]
  have fa : s23.1 163 (44 + 5 * n) = x3 := by
    rw [r23, wup_nb (by omega), r21, wup_nb (by omega), r20, wup_nb (by omega), r19, show 42 + 5 * n + 2 = 44 + 5 * n by omega, wup_same]
  have fb : s23.1 163 (45 + 5 * n) = x4 := by
    rw [r23, wup_nb (by omega), r21, wup_nb (by omega), r20, show 42 + 5 * n + 3 = 45 + 5 * n by omega, wup_same]
  have q := RI_163 g (f := s23.1 163) (s' := s23) (qC_answer g.1.1 hn (by omega) fo f3 (by
    rw [fk, fa, fb]
    exact ⟨k6.1, ⟨k6.2.1, k6.2.2.2⟩, ⟨k9.2.1, k9.2.2.2⟩⟩)) (by
    funext k
    by_cases hk : k = 163
    · subst hk; simp only [if_true]
    · simp only [if_neg hk]; exact o k hk)
  exact ⟨q.1, q.2.1, fo 6 (by omega) (by omega), q.2.2.1, q.2.2.2.1⟩
theorem qC_verdict {f f' : Nat → Int32} {n : Nat} (g : qC f) (hn : (n : Int) = (f 5).toInt) (hn2 : n < 10) (h : ∀ j, j ≠ 242 + 2 * n → j ≠ 243 + 2 * n → j ≠ 5 → f' j = f j) (h5 : (f' 5).toInt = n + 1) (hv : f' (243 + 2 * n) = f 3) : qC f' := by
  obtain ⟨g0, g1, g2, gp, g3, g5, ga, gv, g6⟩ := g
  unfold qC
  rw [h 0 (by omega) (by omega) (by omega), h 1 (by omega) (by omega) (by omega), h 2 (by omega) (by omega) (by omega), h 3 (by omega) (by omega) (by omega), h 6 (by omega) (by omega) (by omega), h5]
  refine ⟨g0, g1, g2, gp, g3, ⟨by omega, by omega⟩, fun a hx => ?_, fun v hx => ?_, g6⟩
  · have q := ga a hx
    unfold qA at *
    rw [h (43 + 5 * a) (by omega) (by omega) (by omega), h (44 + 5 * a) (by omega) (by omega) (by omega), h (45 + 5 * a) (by omega) (by omega) (by omega), h (f (43 + 5 * a)).toNatClampNeg (by unfold Int32.toNatClampNeg; omega) (by unfold Int32.toNatClampNeg; omega) (by unfold Int32.toNatClampNeg; omega)]
    exact q
  · by_cases hvn : v = n
    · subst hvn
      rw [hv]
      exact ⟨g3.1, Int.le_refl _⟩
    · rw [h (243 + 2 * v) (by omega) (by omega) (by omega)]
      exact gv v (by omega)
theorem wX11_verdict_T {x1 : Int32} {s : wS} (g : RI s) : Tot (wX11_verdict x1 s) (fun r => RI r.2 ∧ wA bX s r.2 ∧ XR s r.2) := by
  have stay : ∀ v : Int32, Tot (some (v, s)) (fun r => RI r.2 ∧ wA bX s r.2 ∧ XR s r.2) := fun v => t_some ⟨g, wA.refl, rfl, rfl, rfl⟩
  unfold wX11_verdict
  refine t_ite (fun _ => ?_) (fun _ => ?_)
  · refine t_bind (t_st1 (B := bX) (n := 262) (by decide) (by decide) rfl) (fun s2 h2 => t_some ?_)
    show RI s2 ∧ wA bX s s2 ∧ XR s s2
    rw [h2.2, show (5 : Int32).toNatClampNeg = 5 from rfl]
    have q := RI_163 g (f := upd (s.1 163) 5 0) (s' := wupI s 163 5 0) (by
      obtain ⟨g0, g1, g2, gp, g3, g5, ga, gv, g6⟩ := g.1.1
      unfold qC
      rw [upd_n (by omega), upd_n (by omega), upd_n (by omega), upd_n (by omega), upd_s, upd_n (by omega)]
      refine ⟨g0, g1, g2, gp, g3, by decide, fun a hx => ?_, fun v hx => ?_, g6⟩
      · have q := ga a hx
        unfold qA at *
        rw [upd_n (j := 43 + 5 * a) (by omega), upd_n (j := 44 + 5 * a) (by omega), upd_n (j := 45 + 5 * a) (by omega), upd_n (j := (s.1 163 (43 + 5 * a)).toNatClampNeg) (by unfold Int32.toNatClampNeg; omega)]
        exact q
      · rw [t_i0] at hx; omega) rfl
    exact ⟨q.1, q.2.1, by rw [wup_nb (by omega)], q.2.2.1, q.2.2.2.1⟩
  · refine t_bind wX11_isWorld_T (fun t3 _ => t_ite (fun _ => stay _) (fun _ => t_ite (fun _ => stay _) (fun c10 => ?_)))
    have hc := t_nq c10
    rw [show (10 : Int32).toInt = 10 from rfl] at hc
    have b5 := (RQ_b g.1).2.2.2.2.1
    obtain ⟨n, hn⟩ : ∃ n : Nat, (n : Int) = (s.1 163 5).toInt := ⟨(s.1 163 5).toInt.toNat, by omega⟩
    have e0 := t_c2 (c := 242) (n := 242) (x := s.1 163 5) rfl (by omega) (by omega) b5.1 (by omega)
    have e1 := t_c2a (c := 242) (d := 1) (n := 242) (m := 1) (x := s.1 163 5) rfl rfl (by omega) (by omega) (by omega) (by omega) b5.1 (by omega)
    have n0 : (242 + 2 * s.1 163 5).toNatClampNeg = 242 + 2 * n := by unfold Int32.toNatClampNeg; omega
    have n1 : ((242 + 2 * s.1 163 5) + 1).toNatClampNeg = 243 + 2 * n := by unfold Int32.toNatClampNeg; omega
    refine t_bind (t_st1 (B := bX) (n := 262) (by omega) (by omega) rfl) (fun s9 h9 => ?_)
    rw [n0] at h9
    have r9 := h9.2
    have m5 : s9.1 163 5 = s.1 163 5 := by rw [r9, wup_nb (by omega)]
    have m3 : s9.1 163 3 = s.1 163 3 := by rw [r9, wup_nb (by omega)]
    refine t_bind (t_st1 (B := bX) (n := 262) (by rw [m5]; omega) (by rw [m5]; omega) rfl) (fun s12 h12 => ?_)
    rw [m5, n1, m3] at h12
    have r12 := h12.2
    have k5 : s12.1 163 5 = s.1 163 5 := by rw [r12, wup_nb (by omega), m5]
    refine t_bind (t_st1 (B := bX) (n := 262) (by decide) (by decide) rfl) (fun s14 h14 => t_some ?_)
    rw [k5, show (5 : Int32).toNatClampNeg = 5 from rfl] at h14
    have r14 := h14.2
    have o : ∀ k, k ≠ 163 → s14.1 k = s.1 k := fun k hk => by rw [r14, wupI_n hk, r12, wupI_n hk, r9, wupI_n hk]
    have f5 : (s14.1 163 5).toInt = n + 1 := by
      rw [r14, wup_same, hn]
      exact t_p1 b5.1 (by omega)
    have fo : ∀ j, j ≠ 242 + 2 * n → j ≠ 243 + 2 * n → j ≠ 5 → s14.1 163 j = s.1 163 j := fun j h1 h2 h3 => by
      rw [r14, wup_nb h3, r12, wup_nb h2, r9, wup_nb h1]
    have q := RI_163 g (f := s14.1 163) (s' := s14) (qC_verdict g.1.1 hn (by omega) fo f5 (by rw [r14, wup_nb (by omega), r12, wup_same])) (by
      funext k
      by_cases hk : k = 163
      · subst hk; simp only [if_true]
      · simp only [if_neg hk]; exact o k hk)
    exact ⟨q.1, q.2.1, fo 6 (by omega) (by omega) (by omega), q.2.2.1, q.2.2.2.1⟩
end
section
/-! The reference: IMAGES. -/
theorem t_262 {k i : Int32} (hk : 0 ≤ k.toInt) (hk2 : k.toInt ≤ 3) (hi : 0 ≤ i.toInt) (hi2 : i.toInt < 262) : ((262 * k) + i).toInt = 262 * k.toInt + i.toInt ∧ ((262 * k) + i).toNatClampNeg = 262 * k.toNatClampNeg + i.toNatClampNeg := by
  have e1 : (262 * k).toInt = 262 * k.toInt := by rw [t_mul (by rw [show (262 : Int32).toInt = 262 from rfl]; omega) (by rw [show (262 : Int32).toInt = 262 from rfl]; omega), show (262 : Int32).toInt = 262 from rfl]
  have e : ((262 * k) + i).toInt = 262 * k.toInt + i.toInt := by rw [t_add (by rw [e1]; omega) (by rw [e1]; omega), e1]
  refine ⟨e, ?_⟩
  unfold Int32.toNatClampNeg
  omega
theorem wX11_image_h23_T {x1 : Int32} (hk : 0 ≤ x1.toInt) (hk2 : x1.toInt ≤ 3) : ∀ (n : Nat) {x2 : Int32} {s : wS}, 0 ≤ x2.toInt → x2.toInt ≤ 262 → 262 - x2.toInt < (n : Int) → Tot (wX11_image_h23 x1 n x2 s) (fun r => (∀ k, k ≠ 170 → r.1 k = s.1 k) ∧ ∀ i, r.1 170 i = if 262 * x1.toNatClampNeg + x2.toNatClampNeg ≤ i ∧ i < 262 * x1.toNatClampNeg + 262 then s.1 163 (i - 262 * x1.toNatClampNeg) else s.1 170 i) := by
  intro n
  induction n with
  | zero => intro x2 s _ _ hm; exfalso; omega
  | succ n ih =>
    intro x2 s h0 h2 hm
    rw [wX11_image_h23]
    have e262 : (262 : Int32).toInt = 262 := rfl
    refine t_ite (fun c => ?_) (fun c => t_some ⟨fun _ _ => rfl, fun i => ?_⟩)
    · have hc := t_lt c
      rw [e262] at hc
      obtain ⟨e, en⟩ := t_262 (k := x1) (i := x2) hk hk2 h0 hc
      refine t_bind (t_ldI (n := 262) h0 (by omega)) (fun t6 h6 => ?_)
      refine t_bind (t_st1 (B := bX) (n := 1048) (by omega) (by omega) rfl) (fun s7 h7 => ?_)
      have r7 := h7.2
      rw [en] at r7
      have e1 := t_p1 (x := x2) h0 (by omega)
      refine t_mono (ih (x2 := x2 + 1) (s := s7) (by omega) (by omega) (by omega)) (fun r hr => ⟨fun k hk => ?_, fun i => ?_⟩)
      · rw [hr.1 k hk, r7, wupI_n hk]
      · have n1 : (x2 + 1).toNatClampNeg = x2.toNatClampNeg + 1 := by unfold Int32.toNatClampNeg; omega
        have nx : x2.toNatClampNeg < 262 := by unfold Int32.toNatClampNeg; omega
        rw [hr.2 i, n1]
        have q163 : s7.1 163 = s.1 163 := by rw [r7, wupI_n (by omega)]
        by_cases hi : i = 262 * x1.toNatClampNeg + x2.toNatClampNeg
        · subst hi
          rw [if_neg (by omega), if_pos (by omega), r7, wup_same, h6, Nat.add_sub_cancel_left]
        · rw [q163, r7, wup_nb hi]
          by_cases hr' : 262 * x1.toNatClampNeg + x2.toNatClampNeg ≤ i ∧ i < 262 * x1.toNatClampNeg + 262
          · rw [if_pos (by omega), if_pos hr']
          · rw [if_neg (by omega), if_neg hr']
    · have hc := t_ge c
      rw [e262] at hc
      have nx : 262 ≤ x2.toNatClampNeg := by unfold Int32.toNatClampNeg; omega
      rw [if_neg (by omega)]
theorem t_wf262 {x : Int32} (h : 0 ≤ x.toInt) : 262 - x.toInt < ((wFuel : Nat) : Int) := by
  have e : ((wFuel : Nat) : Int) = 1099511627776 := rfl
  omega
theorem qI_lt {j : Nat} (h : qI j) : j < 262 := by
  unfold qI at h
  omega
theorem wX11_image_T {x1 : Int32} {s : wS} (g : RI s) : Tot (wX11_image x1 s) (fun r => RI r.2 ∧ wA bX s r.2 ∧ ((r = (-1, s) ∧ ¬ (0 ≤ x1.toInt ∧ x1.toInt < 4)) ∨ ((0 ≤ x1.toInt ∧ x1.toInt < 4) ∧ r.2.1 163 = s.1 163 ∧ r.2.1 171 = upd (s.1 171) x1.toNatClampNeg 1 ∧ (∀ i, r.2.1 170 i = if 262 * x1.toNatClampNeg ≤ i ∧ i < 262 * x1.toNatClampNeg + 262 then s.1 163 (i - 262 * x1.toNatClampNeg) else s.1 170 i)))) := by
  unfold wX11_image
  refine t_bind wX11_in_T (fun t1 h1 => t_ite (fun c => t_some ⟨g, wA.refl, Or.inl ⟨rfl, ?_⟩⟩) (fun c => ?_))
  · rcases h1 with h | h
    · rw [h.1] at c; exact absurd c (by decide)
    · have q := h.2
      rw [Int32.toInt_toInt64, show ((0 : Int64)).toInt = 0 from rfl, show ((3 : Int64)).toInt = 3 from rfl] at q
      omega
  · have q := (h1.resolve_right (fun h => c h.1)).2
    rw [Int32.toInt_toInt64, show ((0 : Int64)).toInt = 0 from rfl, show ((3 : Int64)).toInt = 3 from rfl] at q
    refine t_bind (t_stZ (B := bX) (n := 4) q.1 (by omega) (fun _ => rfl)) (fun s4 h4 => ?_)
    refine t_bind (wX11_image_h23_T q.1 q.2 _ (s := s4) (by decide) (by decide) (t_wf262 (by decide))) (fun s9 h9 => t_some ?_)
    have r4 := h4.2
    rw [show vp_nar .boolean (1 : Int32) = 1 from rfl] at r4
    obtain ⟨o9, f9⟩ := h9
    have z : (0 : Int32).toNatClampNeg = 0 := rfl
    have m163 : s4.1 163 = s.1 163 := by rw [r4, wupI_n (by omega)]
    have m170 : s4.1 170 = s.1 170 := by rw [r4, wupI_n (by omega)]
    have e163 : s9.1 163 = s.1 163 := by rw [o9 163 (by omega), m163]
    have e171 : s9.1 171 = upd (s.1 171) x1.toNatClampNeg 1 := by rw [o9 171 (by omega), r4, wupI_k]
    have e170 : ∀ i, s9.1 170 i = if 262 * x1.toNatClampNeg ≤ i ∧ i < 262 * x1.toNatClampNeg + 262 then s.1 163 (i - 262 * x1.toNatClampNeg) else s.1 170 i := fun i => by
      rw [f9 i, z, m163, m170, Nat.add_zero]
    have o : ∀ k, k ≠ 170 → k ≠ 171 → s9.1 k = s.1 k := fun k h1 h2 => by rw [o9 k h1, r4, wupI_n h2]
    obtain ⟨⟨gC, gL, gW⟩, gT, gI⟩ := g
    refine ⟨⟨⟨?_, ?_⟩, ?_, fun k hk h => ?_⟩, fun k b hkb => ?_, Or.inr ⟨by omega, e163, e171, e170⟩⟩
    · show qC (s9.1 163); rw [e163]; exact gC
    · show qL s9
      unfold qL qLW at *
      rw [o 152 (by omega) (by omega), o 154 (by omega) (by omega), o 156 (by omega) (by omega), o 157 (by omega) (by omega)]
      exact ⟨gL, gW⟩
    · show 0 ≤ (s9.1 152 1).toInt ∧ (s9.1 152 1).toInt ≤ 400; rw [o 152 (by omega) (by omega)]; exact gT
    · show qC (fun i => s9.1 170 (262 * k + i))
      by_cases hx : k = x1.toNatClampNeg
      · refine qC_congr (f := s.1 163) (fun j hj => ?_) gC
        have := qI_lt hj
        show s9.1 170 (262 * k + j) = _
        rw [e170, if_pos (by omega), hx, Nat.add_sub_cancel_left]
      · have h' : ¬ s.1 171 k = 0 := by
          have h : ¬ s9.1 171 k = 0 := h
          rw [e171, upd_n hx] at h
          exact h
        refine qC_congr (f := fun i => s.1 170 (262 * k + i)) (fun j hj => ?_) (gI k hk h')
        have := qI_lt hj
        show s9.1 170 (262 * k + j) = _
        rw [e170, if_neg (by omega)]
    · show s9.1 k b = s.1 k b
      rw [o k (fun e => by subst e; cases hkb) (fun e => by subst e; cases hkb)]
theorem wX11_back_h25_T {x1 : Int32} (hk : 0 ≤ x1.toInt) (hk2 : x1.toInt ≤ 3) : ∀ (n : Nat) {x2 : Int32} {s : wS}, 0 ≤ x2.toInt → x2.toInt ≤ 262 → 262 - x2.toInt < (n : Int) → Tot (wX11_back_h25 x1 n x2 s) (fun r => (∀ k, k ≠ 163 → r.1 k = s.1 k) ∧ ∀ i, r.1 163 i = if x2.toNatClampNeg ≤ i ∧ i < 262 then s.1 170 (262 * x1.toNatClampNeg + i) else s.1 163 i) := by
  intro n
  induction n with
  | zero => intro x2 s _ _ hm; exfalso; omega
  | succ n ih =>
    intro x2 s h0 h2 hm
    rw [wX11_back_h25]
    have e262 : (262 : Int32).toInt = 262 := rfl
    refine t_ite (fun c => ?_) (fun c => t_some ⟨fun _ _ => rfl, fun i => ?_⟩)
    · have hc := t_lt c
      rw [e262] at hc
      obtain ⟨e, en⟩ := t_262 (k := x1) (i := x2) hk hk2 h0 hc
      refine t_bind (t_ldI (n := 1048) (by omega) (by omega)) (fun t6 h6 => ?_)
      rw [en] at h6
      refine t_bind (t_st1 (B := bX) (n := 262) h0 (by omega) rfl) (fun s7 h7 => ?_)
      have r7 := h7.2
      have e1 := t_p1 (x := x2) h0 (by omega)
      refine t_mono (ih (x2 := x2 + 1) (s := s7) (by omega) (by omega) (by omega)) (fun r hr => ⟨fun k hk => ?_, fun i => ?_⟩)
      · rw [hr.1 k hk, r7, wupI_n hk]
      · have n1 : (x2 + 1).toNatClampNeg = x2.toNatClampNeg + 1 := by unfold Int32.toNatClampNeg; omega
        have nx : x2.toNatClampNeg < 262 := by unfold Int32.toNatClampNeg; omega
        rw [hr.2 i, n1]
        have q170 : s7.1 170 = s.1 170 := by rw [r7, wupI_n (by omega)]
        by_cases hi : i = x2.toNatClampNeg
        · subst hi
          rw [if_neg (by omega), if_pos (by omega), r7, wup_same, h6]
        · rw [q170, r7, wup_nb hi]
          by_cases hr' : x2.toNatClampNeg ≤ i ∧ i < 262
          · rw [if_pos (by omega), if_pos hr']
          · rw [if_neg (by omega), if_neg hr']
    · have hc := t_ge c
      rw [e262] at hc
      have nx : 262 ≤ x2.toNatClampNeg := by unfold Int32.toNatClampNeg; omega
      rw [if_neg (by omega)]
theorem wX11_back_T {x1 : Int32} {s : wS} (g : RI s) : Tot (wX11_back x1 s) (fun r => RI r.2 ∧ wA bX s r.2 ∧ r.2.1 170 = s.1 170 ∧ r.2.1 171 = s.1 171 ∧ ((r = (-1, s) ∧ (¬ (0 ≤ x1.toInt ∧ x1.toInt < 4) ∨ s.1 171 x1.toNatClampNeg = 0)) ∨ ((0 ≤ x1.toInt ∧ x1.toInt < 4) ∧ ¬ s.1 171 x1.toNatClampNeg = 0 ∧ (∀ i, i < 262 → r.2.1 163 i = s.1 170 (262 * x1.toNatClampNeg + i))))) := by
  unfold wX11_back
  refine t_bind wX11_in_T (fun t1 h1 => t_ite (fun c => t_some ⟨g, wA.refl, rfl, rfl, Or.inl ⟨rfl, Or.inl ?_⟩⟩) (fun c => ?_))
  · rcases h1 with h | h
    · rw [h.1] at c; exact absurd c (by decide)
    · have q := h.2
      rw [Int32.toInt_toInt64, show ((0 : Int64)).toInt = 0 from rfl, show ((3 : Int64)).toInt = 3 from rfl] at q
      omega
  · have q := (h1.resolve_right (fun h => c h.1)).2
    rw [Int32.toInt_toInt64, show ((0 : Int64)).toInt = 0 from rfl, show ((3 : Int64)).toInt = 3 from rfl] at q
    refine t_bind (t_ldI (n := 4) q.1 (by omega)) (fun t4 h4 => t_ite (fun c4 => t_some ⟨g, wA.refl, rfl, rfl, Or.inl ⟨rfl, Or.inr (by rw [← h4]; exact c4)⟩⟩) (fun c4 => ?_))
    rw [h4] at c4
    refine t_bind (wX11_back_h25_T q.1 q.2 _ (s := s) (by decide) (by decide) (t_wf262 (by decide))) (fun s10 h10 => t_some ?_)
    obtain ⟨o10, f10⟩ := h10
    have z : (0 : Int32).toNatClampNeg = 0 := rfl
    have e163 : ∀ i, i < 262 → s10.1 163 i = s.1 170 (262 * x1.toNatClampNeg + i) := fun i hi => by rw [f10 i, z, if_pos (by omega)]
    have k := RI_163 g (f := s10.1 163) (s' := s10) (qC_congr (f := fun i => s.1 170 (262 * x1.toNatClampNeg + i)) (fun j hj => e163 j (qI_lt hj)) (g.2.2 x1.toNatClampNeg (by unfold Int32.toNatClampNeg; omega) c4)) (by
      funext k
      by_cases hk : k = 163
      · subst hk; simp only [if_true]
      · simp only [if_neg hk]; exact o10 k hk)
    exact ⟨k.1, k.2.1, k.2.2.1, k.2.2.2.1, Or.inr ⟨by omega, c4, e163⟩⟩
end
