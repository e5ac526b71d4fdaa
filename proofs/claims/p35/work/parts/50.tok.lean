/-! The reference reads: bytes, WORDS, NUMBERS. -/
noncomputable def b12 (k b : Nat) : Bool := Nat.beq k 152 && Nat.beq b 12
noncomputable def bF (k b : Nat) : Bool := Nat.beq k 152 && (Nat.beq b 12 || Nat.beq b 13 || Nat.beq b 14 || Nat.beq b 16)
noncomputable def bE (t k b : Nat) : Bool := (Nat.beq k 154 && (Nat.ble (400 * t) b && Nat.blt b (400 * t + 400))) || (Nat.beq k 155 && Nat.beq b t) || bF k b
noncomputable def bL (t k b : Nat) : Bool := bE t k b || (Nat.beq k 156 && (Nat.ble (60 * t) b && Nat.blt b (60 * t + 60))) || (Nat.beq k 157 && Nat.beq b t) || (Nat.ble 158 k && Nat.ble k 160) || (Nat.beq k 152 && ((Nat.ble 7 b && Nat.ble b 9) || Nat.beq b 17 || Nat.beq b 18 || Nat.beq b 20))
theorem b12_le_bF : ∀ k b, b12 k b = true → bF k b = true := by
  intro k b h
  simp only [b12, bF, Bool.or_eq_true, Bool.and_eq_true, Nat.ble_eq, Nat.beq_eq] at *
  omega
theorem bF_le_bE {t : Nat} : ∀ k b, bF k b = true → bE t k b = true := by
  intro k b h
  unfold bE
  rw [h, Bool.or_true]
theorem bE_le_bL {t : Nat} : ∀ k b, bE t k b = true → bL t k b = true := by
  intro k b h
  unfold bL
  rw [h, Bool.true_or, Bool.true_or, Bool.true_or, Bool.true_or]
theorem bF_le_bL {t : Nat} : ∀ k b, bF k b = true → bL t k b = true := fun k b h => bE_le_bL k b (bF_le_bE k b h)
/-- a place of a row -/
theorem t_st1 {B : Nat → Nat → Bool} {s : wS} {k n : Nat} {i v : Int32} (h0 : 0 ≤ i.toInt) (h1 : i.toInt < n) (hB : B k i.toNatClampNeg = true) : Tot (wstI s k n i v) (fun s' => wA B s s' ∧ s' = wupI s k i.toNatClampNeg v) := by
  refine ⟨_, ?_, wA_I hB, rfl⟩
  unfold wstI
  rw [if_neg (t_ix h0 h1)]
/-- the text is being read -/
noncomputable def PJ (oz : Int32 → Int) (t : Nat) (s : wS) : Prop := (0 ≤ (s.1 152 1).toInt ∧ (s.1 152 1).toInt ≤ 400) ∧ (0 ≤ (s.1 152 12).toInt ∧ (s.1 152 12).toInt ≤ (s.1 152 1).toInt) ∧ (s.1 152 15).toInt = t ∧ 0 ≤ (s.1 155 t).toInt ∧ 0 ≤ oz (s.1 152 20) ∧ (s.1 155 t).toInt + oz (s.1 152 20) ≤ (s.1 152 12).toInt ∧ (0 ≤ (s.1 152 16).toInt ∧ (s.1 152 16).toInt ≤ 60)
noncomputable abbrev PI (t : Nat) (s : wS) : Prop := PJ Int32.toInt t s
noncomputable def z0 (_ : Int32) : Int := 0
noncomputable abbrev PL (t : Nat) (s : wS) : Prop := PJ z0 t s
/-- only the place, the fault, the NUMBER, what was counted -/
noncomputable def sF (s s' : wS) : Prop := s'.1 152 1 = s.1 152 1 ∧ s'.1 152 15 = s.1 152 15 ∧ s'.1 152 20 = s.1 152 20 ∧ s'.1 155 = s.1 155 ∧ s'.1 153 = s.1 153 ∧ s'.1 154 = s.1 154 ∧ s'.1 160 = s.1 160
theorem sF_of {s s' : wS} (h : wA bF s s') : sF s s' := ⟨h 152 1 rfl, h 152 15 rfl, h 152 20 rfl, funext fun b => h 155 b rfl, funext fun b => h 153 b rfl, funext fun b => h 154 b rfl, funext fun b => h 160 b rfl⟩
theorem PI_F {oz : Int32 → Int} {t : Nat} {s s' : wS} (h : wA bF s s') (g : PJ oz t s) (hN : (s.1 152 12).toInt ≤ (s'.1 152 12).toInt) (hT : (s'.1 152 12).toInt ≤ (s.1 152 1).toInt) (hM : 0 ≤ (s'.1 152 16).toInt ∧ (s'.1 152 16).toInt ≤ 60) : PJ oz t s' := by
  obtain ⟨q1, q2, q3, q4, -⟩ := sF_of h
  obtain ⟨g1, g2, g3, g4, g5, g6, g7⟩ := g
  unfold PJ
  rw [q1, q2, q3, q4]
  exact ⟨g1, ⟨by omega, hT⟩, g3, g4, g5, by omega, hM⟩
theorem PI_12 {oz : Int32 → Int} {t : Nat} {s s' : wS} (h : wA b12 s s') (g : PJ oz t s) (hN : (s.1 152 12).toInt ≤ (s'.1 152 12).toInt) (hT : (s'.1 152 12).toInt ≤ (s.1 152 1).toInt) : PJ oz t s' :=
  PI_F (h.mono b12_le_bF) g hN hT (by rw [h 152 16 rfl]; exact g.2.2.2.2.2.2)
theorem t_p1 {x : Int32} (h : 0 ≤ x.toInt) (h2 : x.toInt ≤ 100000) : (x + 1).toInt = x.toInt + 1 := t_pl rfl (by omega) (by omega) h h2
/-- where the text can be read -/
noncomputable def TP (s : wS) : Prop := (0 ≤ (s.1 152 1).toInt ∧ (s.1 152 1).toInt ≤ 400) ∧ (0 ≤ (s.1 152 12).toInt ∧ (s.1 152 12).toInt ≤ (s.1 152 1).toInt)
theorem PJ.tp {oz : Int32 → Int} {t : Nat} {s : wS} (h : PJ oz t s) : TP s := ⟨h.1, h.2.1⟩
theorem TP_12 {s s' : wS} (h : wA b12 s s') (g : TP s) (hN : (s.1 152 12).toInt ≤ (s'.1 152 12).toInt) (hT : (s'.1 152 12).toInt ≤ (s.1 152 1).toInt) : TP s' := by
  unfold TP at *
  rw [h 152 1 rfl]
  exact ⟨g.1, by omega, hT⟩
/-- it only went on along the text -/
noncomputable def ON (s s' : wS) : Prop := wA b12 s s' ∧ (s.1 152 12).toInt ≤ (s'.1 152 12).toInt ∧ (s'.1 152 12).toInt ≤ (s.1 152 1).toInt
theorem ON.refl {s : wS} (h : TP s) : ON s s := ⟨wA.refl, by omega, h.2.2⟩
theorem ON.trans {s t u : wS} (h : ON s t) (g : ON t u) : ON s u := ⟨h.1.trans g.1, by have := h.2.1; have := g.2.1; omega, by have := g.2.2; rw [h.1 152 1 rfl] at this; exact this⟩
theorem ON.tp {s s' : wS} (h : ON s s') (g : TP s) : TP s' := TP_12 h.1 g h.2.1 h.2.2
theorem ON.pi {oz : Int32 → Int} {t : Nat} {s s' : wS} (h : ON s s') (g : PJ oz t s) : PJ oz t s' := PI_12 h.1 g h.2.1 h.2.2
/-- no blank stands here -/
noncomputable def SB (s : wS) : Prop := (s.1 152 12).toInt < (s.1 152 1).toInt → ¬ s.1 153 (s.1 152 12).toNatClampNeg = 32
theorem wX11_see_h0_T : ∀ (n : Nat) {s : wS}, TP s → (s.1 152 1).toInt - (s.1 152 12).toInt < (n : Int) → Tot (wX11_see_h0 n s) (fun r => ON s r ∧ SB r ∧ (SB s → r = s)) := by
  intro n
  induction n with
  | zero => intro s g hm; exfalso; have := g.2; omega
  | succ n ih =>
    intro s g hm
    rw [wX11_see_h0]
    refine t_ite (fun c => ?_) (fun c => t_some ⟨ON.refl g, fun q => absurd (Int32.lt_iff_toInt_lt.2 q) c, fun _ => rfl⟩)
    have hc := t_lt c
    obtain ⟨g1, g2⟩ := g
    refine t_bind (t_ldI (n := 400) g2.1 (by omega)) (fun t2 h2 => t_ite (fun c2 => ?_) (fun c2 => t_some ⟨ON.refl ⟨g1, g2⟩, fun _ => by rw [← h2]; exact c2, fun _ => rfl⟩))
    refine t_bind (t_pfI (B := b12) rfl) (fun s4 h4 => ?_)
    have e : (s4.1 152 12).toInt = (s.1 152 12).toInt + 1 := by rw [h4.2, wup_same]; exact t_p1 g2.1 (by omega)
    have o : ON s s4 := ⟨h4.1, by omega, by omega⟩
    exact t_mono (ih (o.tp ⟨g1, g2⟩) (by rw [h4.1 152 1 rfl]; omega)) (fun r h => ⟨o.trans h.1, h.2.1, fun q => absurd (h2 ▸ c2) (q hc)⟩)
theorem t_and255 (x : Int32) : (x &&& 255).toInt ≠ -1 := by
  intro h
  have e : x &&& 255 = -1 := Int32.toInt_inj.1 h
  have e2 : (x &&& 255) &&& 256 = 0 := by
    rw [Int32.and_assoc]
    have : (255 : Int32) &&& 256 = 0 := by decide
    rw [this, Int32.and_zero]
  rw [e] at e2
  exact absurd e2 (by decide)
theorem wX11_see_T {s : wS} (g : TP s) : Tot (wX11_see s) (fun r => ON s r.2 ∧ (r.1.toInt ≠ -1 → (r.2.1 152 12).toInt < (r.2.1 152 1).toInt) ∧ SB r.2 ∧ (SB s → r.2 = s)) := by
  unfold wX11_see wX11_see_j38
  refine t_bind (wX11_see_h0_T _ g (by have e : ((wFuel : Nat) : Int) = 1099511627776 := rfl; have := g.1; have := g.2; omega)) (fun s6 h6 => ?_)
  obtain ⟨h6, hb, he⟩ := h6
  have g6 := h6.tp g
  refine t_ite (fun c => ?_) (fun c => t_some ⟨h6, fun h => absurd rfl h, hb, he⟩)
  have hc := t_lt c
  exact t_bind (t_ldI (n := 400) g6.2.1 (by have := g6.1; omega)) (fun t8 _ => t_some ⟨h6, fun _ => hc, hb, he⟩)
theorem wX11_isDigit_T {x1 : Int32} {s : wS} (g : TP s) (h : 0 ≤ x1.toInt) : Tot (wX11_isDigit x1 s) (fun t => t = 0 ∨ (t = 1 ∧ x1.toInt < (s.1 152 1).toInt)) := by
  unfold wX11_isDigit
  refine t_ite (fun c => ?_) (fun _ => t_some (Or.inl rfl))
  have hc := t_lt c
  have := g.1
  refine t_bind (t_ldI (n := 400) h (by omega)) (fun t2 _ => t_ite (fun _ => t_some (Or.inl rfl)) (fun _ => ?_))
  exact t_bind (t_ldI (n := 400) h (by omega)) (fun t4 _ => t_ite (fun _ => t_some (Or.inl rfl)) (fun _ => t_some (Or.inr ⟨rfl, hc⟩)))
/-- a small letter at a place -/
noncomputable def LTx (s : wS) (i : Nat) : Prop := 97 ≤ (s.1 153 i).toInt ∧ (s.1 153 i).toInt ≤ 122
theorem wX11_isLetter_T {x1 : Int32} {s : wS} (g : TP s) (h : 0 ≤ x1.toInt) : Tot (wX11_isLetter x1 s) (fun t => (t = 0 ∧ ¬ (x1.toInt < (s.1 152 1).toInt ∧ LTx s x1.toNatClampNeg)) ∨ (t = 1 ∧ x1.toInt < (s.1 152 1).toInt ∧ LTx s x1.toNatClampNeg)) := by
  unfold wX11_isLetter
  refine t_ite (fun c => ?_) (fun c => t_some (Or.inl ⟨rfl, fun q => c (Int32.lt_iff_toInt_lt.2 q.1)⟩))
  have hc := t_lt c
  have := g.1
  have e97 : (97 : Int32).toInt = 97 := rfl
  have e122 : (122 : Int32).toInt = 122 := rfl
  refine t_bind (t_ldI (n := 400) h (by omega)) (fun t2 h2 => t_ite (fun c2 => t_some (Or.inl ⟨rfl, fun q => ?_⟩)) (fun c2 => ?_))
  · have h3 := t_lt c2
    rw [e97, h2] at h3
    have h4 := q.2.1
    omega
  · refine t_bind (t_ldI (n := 400) h (by omega)) (fun t4 h4 => t_ite (fun c4 => t_some (Or.inl ⟨rfl, fun q => ?_⟩)) (fun c4 => t_some (Or.inr ⟨rfl, hc, ?_, ?_⟩)))
    · have h3 := t_lt c4
      rw [e122, h4] at h3
      have h5 := q.2.2
      omega
    · have h3 := t_ge c2
      rw [e97, h2] at h3
      exact h3
    · have h3 := t_ge c4
      rw [e122, h4] at h3
      exact h3
/-- a WORD stands here -/
noncomputable def LT (s : wS) : Prop := (s.1 152 12).toInt < (s.1 152 1).toInt ∧ LTx s (s.1 152 12).toNatClampNeg
theorem wX11_isWord_h10_T {x1 : Int64} {s : wS} (g : TP s) : ∀ (n : Nat) {x3 : Int64} {x5 : Int32}, 0 ≤ x5.toInt → (0 < x5.toInt → LT s) → (s.1 152 12).toInt + x5.toInt ≤ (s.1 152 1).toInt → (s.1 152 1).toInt - (s.1 152 12).toInt - x5.toInt < (n : Int) → Tot (wX11_isWord_h10 x1 s n x3 x5) (fun r => 0 < r.2.toInt → LT s) := by
  intro n
  induction n with
  | zero => intro x3 x5 h0 hL hT hm; exfalso; omega
  | succ n ih =>
    intro x3 x5 h0 hL hT hm
    rw [wX11_isWord_h10]
    obtain ⟨g1, g2⟩ := g
    have e : (s.1 152 12 + x5).toInt = (s.1 152 12).toInt + x5.toInt := t_add (by omega) (by omega)
    refine t_bind (wX11_isLetter_T ⟨g1, g2⟩ (by omega)) (fun t4 h4 => t_ite (fun _ => t_some hL) (fun c => ?_))
    have h5 : (s.1 152 12 + x5).toInt < (s.1 152 1).toInt ∧ LTx s (s.1 152 12 + x5).toNatClampNeg := by
      rcases h4 with h | h
      · exact absurd h.1 c
      · exact h.2
    have hL2 : LT s := by
      by_cases hx : 0 < x5.toInt
      · exact hL hx
      · have e0 : x5.toInt = 0 := by omega
        have en : (s.1 152 12 + x5).toNatClampNeg = (s.1 152 12).toNatClampNeg := by unfold Int32.toNatClampNeg; rw [e, e0]; simp
        rw [en] at h5
        exact ⟨by omega, h5.2⟩
    have e1 := t_p1 (x := x5) h0 (by omega)
    refine t_ite (fun _ => ?_) (fun _ => ?_)
    · refine t_bind (t_ldI (n := 400) (by omega) (by omega)) (fun t8 _ => ?_)
      unfold wX11_isWord_j50
      exact ih (by omega) (fun _ => hL2) (by omega) (by omega)
    · unfold wX11_isWord_j50
      exact ih (by omega) (fun _ => hL2) (by omega) (by omega)
theorem wX11_isWord_T {x1 : Int64} {s : wS} (g : TP s) : Tot (wX11_isWord x1 s) (fun r => ON s r.2 ∧ (r.1 = 0 ∨ (r.1 = 1 ∧ LT r.2)) ∧ (SB s → r.2 = s)) := by
  unfold wX11_isWord
  refine t_bind (wX11_see_T g) (fun r h => ?_)
  obtain ⟨t1, s2⟩ := r
  have o := h.1
  dsimp only at o ⊢
  have g2 := o.tp g
  refine t_bind (wX11_isWord_h10_T g2 _ (by decide) (fun q => absurd q (by decide)) (by rw [t_i0]; have := g2.2; omega) (by have e : ((wFuel : Nat) : Int) = 1099511627776 := rfl; rw [t_i0]; have := g2.1; have := g2.2; omega)) (fun r h10 => ?_)
  obtain ⟨t10, t11⟩ := r
  dsimp only at h10 ⊢
  have hb := h.2.2.2
  refine t_ite (fun c => ?_) (fun _ => t_some ⟨o, Or.inl rfl, hb⟩)
  have hc := t_lt c
  rw [t_i0] at hc
  exact t_ite (fun _ => t_ite (fun _ => t_some ⟨o, Or.inr ⟨rfl, h10 hc⟩, hb⟩) (fun _ => t_some ⟨o, Or.inl rfl, hb⟩)) (fun _ => t_some ⟨o, Or.inl rfl, hb⟩)
theorem wX11_passWord_h0_T : ∀ (n : Nat) {s : wS}, TP s → (s.1 152 1).toInt - (s.1 152 12).toInt < (n : Int) → Tot (wX11_passWord_h0 n s) (fun r => ON s r ∧ (LT s → (s.1 152 12).toInt < (r.1 152 12).toInt)) := by
  intro n
  induction n with
  | zero => intro s g hm; exfalso; have := g.2; omega
  | succ n ih =>
    intro s g hm
    rw [wX11_passWord_h0]
    refine t_bind (wX11_isLetter_T g g.2.1) (fun t1 h1 => t_ite (fun c => t_some ⟨ON.refl g, fun q => ?_⟩) (fun c => ?_))
    · rcases h1 with h | h
      · exact absurd q h.2
      · rw [h.1] at c; exact absurd c (by decide)
    · have h2 : (s.1 152 12).toInt < (s.1 152 1).toInt := by
        rcases h1 with h | h
        · exact absurd h.1 c
        · exact h.2.1
      obtain ⟨g1, g2⟩ := g
      refine t_bind (t_pfI (B := b12) rfl) (fun s4 h4 => ?_)
      have e : (s4.1 152 12).toInt = (s.1 152 12).toInt + 1 := by rw [h4.2, wup_same]; exact t_p1 g2.1 (by omega)
      have o : ON s s4 := ⟨h4.1, by omega, by omega⟩
      exact t_mono (ih (o.tp ⟨g1, g2⟩) (by rw [h4.1 152 1 rfl]; omega)) (fun r h => ⟨o.trans h.1, fun _ => by have := h.1.2.1; omega⟩)
theorem t_wf {s : wS} (g : TP s) : (s.1 152 1).toInt - (s.1 152 12).toInt < ((wFuel : Nat) : Int) := by
  have e : ((wFuel : Nat) : Int) = 1099511627776 := rfl
  have := g.1
  have := g.2
  omega
theorem wX11_passWord_T {s : wS} (g : TP s) : Tot (wX11_passWord s) (fun r => ON s r ∧ (LT s → (s.1 152 12).toInt < (r.1 152 12).toInt)) := by
  unfold wX11_passWord
  exact t_bind (wX11_passWord_h0_T _ g (t_wf g)) (fun s6 h => t_some h)
theorem wX11_takesWord_T {x1 : Int64} {s : wS} (g : TP s) : Tot (wX11_takesWord x1 s) (fun r => ON s r.2 ∧ (r.1 = 0 ∨ (r.1 = 1 ∧ (s.1 152 12).toInt < (r.2.1 152 12).toInt))) := by
  unfold wX11_takesWord
  refine t_bind (wX11_isWord_T g) (fun r h => ?_)
  obtain ⟨t1, s2⟩ := r
  obtain ⟨o, h1, -⟩ := h
  dsimp only at o h1 ⊢
  refine t_ite (fun _ => t_some ⟨o, Or.inl rfl⟩) (fun c => ?_)
  have hL : LT s2 := by
    rcases h1 with h | h
    · exact absurd h c
    · exact h.2
  exact t_bind (wX11_passWord_T (o.tp g)) (fun s6 h6 => t_some ⟨o.trans h6.1, Or.inr ⟨rfl, by have := h6.2 hL; have := o.2.1; show (s.1 152 12).toInt < (s6.1 152 12).toInt; omega⟩⟩)
/-- a fault was told -/
noncomputable def FW (s : wS) : Prop := ¬ s.1 152 13 = 0
theorem fw_of {t : Int32} {A B : Prop} (h : (t = 0 ∧ A) ∨ (t = 1 ∧ B)) (c : t = 0) : A := by
  rcases h with q | q
  · exact q.2
  · rw [q.1] at c; exact absurd c (by decide)
theorem ok_of {t : Int32} {A B : Prop} (h : (t = 0 ∧ A) ∨ (t = 1 ∧ B)) (c : ¬ t = 0) : B := (h.resolve_left (fun q => c q.1)).2
theorem wX11_fails_T {x1 x2 : Int32} {s : wS} : Tot (wX11_fails x1 x2 s) (fun r => wA (fun k b => Nat.beq k 152 && Nat.beq b 13) s r.2 ∧ r.1 = 0 ∧ (0 ≤ x1.toInt → x1.toInt ≤ 10 → 0 ≤ x2.toInt → x2.toInt ≤ 1000 → FW r.2)) := by
  unfold wX11_fails
  refine t_ite (fun _ => ?_) (fun c => t_some ⟨wA.refl, rfl, fun _ _ _ _ => c⟩)
  refine t_bind (t_pfI (B := fun k b => Nat.beq k 152 && Nat.beq b 13) rfl) (fun s2 h => t_some ⟨h.1, rfl, fun a1 a2 a3 a4 => ?_⟩)
  show ¬ s2.1 152 13 = 0
  rw [h.2, wup_same]
  intro e
  have e8 : (8 : Int32).toInt = 8 := rfl
  have e1 : (1 : Int32).toInt = 1 := rfl
  have q1 : (8 * x2).toInt = 8 * x2.toInt := by rw [t_mul (by rw [e8]; omega) (by rw [e8]; omega), e8]
  have q2 : (1 + 8 * x2).toInt = 1 + 8 * x2.toInt := by rw [t_add (by rw [e1, q1]; omega) (by rw [e1, q1]; omega), e1, q1]
  have q3 : ((1 + 8 * x2) + x1).toInt = 1 + 8 * x2.toInt + x1.toInt := by rw [t_add (by rw [q2]; omega) (by rw [q2]; omega), q2]
  rw [e, t_i0] at q3
  omega
theorem b13_le_bF : ∀ k b, (Nat.beq k 152 && Nat.beq b 13) = true → bF k b = true := by
  intro k b h
  simp only [bF, Bool.or_eq_true, Bool.and_eq_true, Nat.beq_eq] at *
  omega
theorem fails_F {s s' : wS} (h : wA (fun k b => Nat.beq k 152 && Nat.beq b 13) s s') : wA bF s s' := h.mono b13_le_bF
/-- a NUMBER's digits: its end -/
theorem wX11_numberHere_h34_T {x1 x2 x3 : Int32} : ∀ (n : Nat) {x4 : Int32} {s : wS}, TP s → (s.1 152 1).toInt - (s.1 152 12).toInt < (n : Int) → Tot (wX11_numberHere_h34 x1 x2 x3 n x4 s) (fun r => ON s r.2) := by
  intro n
  induction n with
  | zero => intro x4 s g hm; exfalso; have := g.2; omega
  | succ n ih =>
    intro x4 s g hm
    rw [wX11_numberHere_h34]
    refine t_bind (wX11_isDigit_T g g.2.1) (fun t11 h1 => t_ite (fun c => t_some (ON.refl g)) (fun c => ?_))
    have h2 : (s.1 152 12).toInt < (s.1 152 1).toInt := by
      rcases h1 with h | h
      · exact absurd h c
      · exact h.2
    obtain ⟨g1, g2⟩ := g
    have j : ∀ y, Tot (wX11_numberHere_j75 (wX11_numberHere_h34 x1 x2 x3 n) x1 x2 x3 y s) (fun r => ON s r.2) := by
      intro y
      unfold wX11_numberHere_j75
      refine t_bind (t_pfI (B := b12) rfl) (fun s4 h4 => ?_)
      have e : (s4.1 152 12).toInt = (s.1 152 12).toInt + 1 := by rw [h4.2, wup_same]; exact t_p1 g2.1 (by omega)
      have o : ON s s4 := ⟨h4.1, by omega, by omega⟩
      exact t_mono (ih (o.tp ⟨g1, g2⟩) (by rw [h4.1 152 1 rfl]; omega)) (fun r h => o.trans h)
    refine t_ite (fun _ => ?_) (fun _ => j _)
    exact t_bind (t_ldI (n := 400) g2.1 (by omega)) (fun t15 _ => j _)
/-- behind a digit it has gone on -/
theorem wX11_numberHere_h34_S {x1 x2 x3 x4 : Int32} {s : wS} (g : TP s) (hd : ∃ t, wX11_isDigit (s.1 152 12) s = some t ∧ ¬ t = 0) : Tot (wX11_numberHere_h34 x1 x2 x3 wFuel x4 s) (fun r => ON s r.2 ∧ (s.1 152 12).toInt < (r.2.1 152 12).toInt) := by
  obtain ⟨t, et, ht⟩ := hd
  have e : wFuel = 1099511627775 + 1 := rfl
  rw [e, wX11_numberHere_h34, et]
  show Tot (if t = 0 then some (x4, s) else (if ((s.1 152 12) - x3) < 5 then ((wldI s 153 400 (s.1 152 12)).bind fun t15 => wX11_numberHere_j75 (wX11_numberHere_h34 x1 x2 x3 1099511627775) x1 x2 x3 (((10 * x4) + t15) - 48) s) else (wX11_numberHere_j75 (wX11_numberHere_h34 x1 x2 x3 1099511627775) x1 x2 x3 x4 s))) _
  have h2 : (s.1 152 12).toInt < (s.1 152 1).toInt := by
    obtain ⟨v, ev, hv⟩ := wX11_isDigit_T (x1 := s.1 152 12) g g.2.1
    rw [et] at ev
    obtain rfl := Option.some.inj ev
    rcases hv with h | h
    · exact absurd h ht
    · exact h.2
  obtain ⟨g1, g2⟩ := g
  have j : ∀ y, Tot (wX11_numberHere_j75 (wX11_numberHere_h34 x1 x2 x3 1099511627775) x1 x2 x3 y s) (fun r => ON s r.2 ∧ (s.1 152 12).toInt < (r.2.1 152 12).toInt) := by
    intro y
    unfold wX11_numberHere_j75
    refine t_bind (t_pfI (B := b12) rfl) (fun s4 h4 => ?_)
    have e : (s4.1 152 12).toInt = (s.1 152 12).toInt + 1 := by rw [h4.2, wup_same]; exact t_p1 g2.1 (by omega)
    have o : ON s s4 := ⟨h4.1, by omega, by omega⟩
    exact t_mono (wX11_numberHere_h34_T _ (o.tp ⟨g1, g2⟩) (by rw [h4.1 152 1 rfl]; omega)) (fun r h => ⟨o.trans h, by have := h.2.1; omega⟩)
  refine t_ite (fun c => absurd c ht) (fun _ => t_ite (fun _ => ?_) (fun _ => j _))
  exact t_bind (t_ldI (n := 400) g2.1 (by omega)) (fun t15 _ => j _)
/-- it went on along the text, and told a fault or a NUMBER -/
noncomputable def OF (s s' : wS) : Prop := wA (fun k b => Nat.beq k 152 && (Nat.beq b 12 || Nat.beq b 13 || Nat.beq b 14)) s s' ∧ (s.1 152 12).toInt ≤ (s'.1 152 12).toInt ∧ (s'.1 152 12).toInt ≤ (s.1 152 1).toInt
theorem OF_le_bF : ∀ k b, (Nat.beq k 152 && (Nat.beq b 12 || Nat.beq b 13 || Nat.beq b 14)) = true → bF k b = true := by
  intro k b h
  simp only [bF, Bool.or_eq_true, Bool.and_eq_true, Nat.beq_eq] at *
  omega
theorem b12_le_OF : ∀ k b, b12 k b = true → (Nat.beq k 152 && (Nat.beq b 12 || Nat.beq b 13 || Nat.beq b 14)) = true := by
  intro k b h
  simp only [b12, Bool.or_eq_true, Bool.and_eq_true, Nat.beq_eq] at *
  omega
theorem b13_le_OF : ∀ k b, (Nat.beq k 152 && Nat.beq b 13) = true → (Nat.beq k 152 && (Nat.beq b 12 || Nat.beq b 13 || Nat.beq b 14)) = true := by
  intro k b h
  simp only [Bool.or_eq_true, Bool.and_eq_true, Nat.beq_eq] at *
  omega
theorem ON.of {s s' : wS} (h : ON s s') : OF s s' := ⟨h.1.mono b12_le_OF, h.2⟩
theorem OF.trans {s t u : wS} (h : OF s t) (g : OF t u) : OF s u := ⟨h.1.trans g.1, by have := h.2.1; have := g.2.1; omega, by have := g.2.2; rw [h.1 152 1 rfl] at this; exact this⟩
theorem OF.fails {s t u : wS} (h : OF s t) (g : wA (fun k b => Nat.beq k 152 && Nat.beq b 13) t u) : OF s u := by
  refine ⟨h.1.trans (g.mono b13_le_OF), ?_, ?_⟩
  · rw [g 152 12 rfl]; exact h.2.1
  · rw [g 152 12 rfl]; exact h.2.2
theorem OF.pi {oz : Int32 → Int} {t : Nat} {s s' : wS} (h : OF s s') (g : PJ oz t s) : PJ oz t s' := PI_F (h.1.mono OF_le_bF) g h.2.1 h.2.2 (by rw [h.1 152 16 rfl]; exact g.2.2.2.2.2.2)
theorem OF.tp {s s' : wS} (h : OF s s') (g : TP s) : TP s' := by
  unfold TP at *
  rw [h.1 152 1 rfl]
  exact ⟨g.1, by have := h.2.1; omega, h.2.2⟩
theorem wX11_numberHere_T {x1 x2 : Int32} {s : wS} (g : TP s) : Tot (wX11_numberHere x1 x2 s) (fun r => OF s r.2 ∧ ((r.1 = 0 ∧ FW r.2) ∨ (r.1 = 1 ∧ (s.1 152 12).toInt < (r.2.1 152 12).toInt ∧ x1.toInt ≤ (r.2.1 152 14).toInt ∧ (r.2.1 152 14).toInt ≤ x2.toInt))) := by
  unfold wX11_numberHere
  refine t_bind (wX11_see_T g) (fun r h => ?_)
  obtain ⟨t1, s2⟩ := r
  have o := h.1
  dsimp only at o ⊢
  have g2 := o.tp g
  obtain ⟨t4, e4, h4⟩ := wX11_isDigit_T (x1 := s2.1 152 12) g2 g2.2.1
  rw [e4]
  show Tot (if t4 = 0 then _ else _) _
  refine t_ite (fun _ => ?_) (fun c => ?_)
  · refine t_bind wX11_fails_T (fun r h7 => ?_)
    obtain ⟨t7, s8⟩ := r
    dsimp only at h7 ⊢
    refine t_bind (t_rtZ (Or.inl h7.2.1)) (fun t10 h10 => t_some ⟨o.of.fails h7.1, Or.inl ⟨?_, h7.2.2 (by decide) (by decide) g2.2.1 (by have := g2.1; have := g2.2; omega)⟩⟩)
    show t10 = 0
    rw [h10, h7.2.1]
  · refine t_bind (wX11_numberHere_h34_S g2 ⟨t4, e4, c⟩) (fun r h18 => ?_)
    obtain ⟨t18, s19⟩ := r
    obtain ⟨o19, hp⟩ := h18
    dsimp only at o19 hp ⊢
    refine t_bind (t_pfI (B := fun k b => Nat.beq k 152 && (Nat.beq b 12 || Nat.beq b 13 || Nat.beq b 14)) rfl) (fun s20 h20 => ?_)
    have f12 : s20.1 152 12 = s19.1 152 12 := by rw [h20.2]; exact wup_nb (by decide)
    have f14 : s20.1 152 14 = t18 := by rw [h20.2]; exact wup_same
    have o20 : OF s19 s20 := ⟨h20.1, by rw [f12]; omega, by rw [f12]; exact (o19.tp g2).2.2⟩
    have oo : OF s s20 := (o.of.trans o19.of).trans o20
    have hN : (s.1 152 12).toInt < (s20.1 152 12).toInt := by rw [f12]; have := o.2.1; omega
    have bad : Tot (wX11_numberHere_j117 (s2.1 152 12) s20) (fun r => OF s r.2 ∧ ((r.1 = 0 ∧ FW r.2) ∨ (r.1 = 1 ∧ (s.1 152 12).toInt < (r.2.1 152 12).toInt ∧ x1.toInt ≤ (r.2.1 152 14).toInt ∧ (r.2.1 152 14).toInt ≤ x2.toInt))) := by
      unfold wX11_numberHere_j117
      refine t_bind wX11_fails_T (fun r h7 => ?_)
      obtain ⟨t22, s23⟩ := r
      dsimp only at h7 ⊢
      exact t_ite (fun _ => t_some ⟨oo.fails h7.1, Or.inl ⟨rfl, h7.2.2 (by decide) (by decide) g2.2.1 (by have := g2.1; have := g2.2; omega)⟩⟩) (fun c => absurd h7.2.1 c)
    refine t_ite (fun _ => bad) (fun _ => ?_)
    refine t_bind wX11_in_T (fun t26 h26 => t_ite (fun _ => bad) (fun c26 => ?_))
    unfold wX11_numberHere_j126
    rcases h26 with h | h
    · rw [Int32.toInt_toInt64, Int32.toInt_toInt64, Int32.toInt_toInt64] at h
      exact t_some ⟨oo, Or.inr ⟨rfl, hN, by show _ ≤ (s20.1 152 14).toInt; rw [f14]; exact h.2.1, by show (s20.1 152 14).toInt ≤ _; rw [f14]; exact h.2.2⟩⟩
    · exact absurd h.1 c26
theorem wX11_wordHere_T {s : wS} (g : TP s) : Tot (wX11_wordHere s) (fun r => ON s r.2 ∧ (r.1.toInt < 0 ∨ (0 ≤ r.1.toInt ∧ r.1.toInt ≤ 7 ∧ LT r.2))) := by
  unfold wX11_wordHere
  refine t_bind (wX11_isWord_T g) (fun r h1 => ?_)
  obtain ⟨t1, s2⟩ := r
  obtain ⟨o1, l1, -⟩ := h1
  dsimp only at o1 l1 ⊢
  refine t_ite (fun c1 => ?_) (fun c1 => t_some ⟨o1, Or.inr ⟨(by dsimp only; decide), (by dsimp only; decide), (l1.resolve_left c1).2⟩⟩)
  refine t_bind (wX11_isWord_T (o1.tp g)) (fun r h2 => ?_)
  obtain ⟨t5, s6⟩ := r
  obtain ⟨o2, l2, -⟩ := h2
  dsimp only at o2 l2 ⊢
  have p2 := o1.trans o2
  refine t_ite (fun c2 => ?_) (fun c2 => t_some ⟨p2, Or.inr ⟨(by dsimp only; decide), (by dsimp only; decide), (l2.resolve_left c2).2⟩⟩)
  refine t_bind (wX11_isWord_T (p2.tp g)) (fun r h3 => ?_)
  obtain ⟨t9, s10⟩ := r
  obtain ⟨o3, l3, -⟩ := h3
  dsimp only at o3 l3 ⊢
  have p3 := p2.trans o3
  refine t_ite (fun c3 => ?_) (fun c3 => t_some ⟨p3, Or.inr ⟨(by dsimp only; decide), (by dsimp only; decide), (l3.resolve_left c3).2⟩⟩)
  refine t_bind (wX11_isWord_T (p3.tp g)) (fun r h4 => ?_)
  obtain ⟨t13, s14⟩ := r
  obtain ⟨o4, l4, -⟩ := h4
  dsimp only at o4 l4 ⊢
  have p4 := p3.trans o4
  refine t_ite (fun c4 => ?_) (fun c4 => t_some ⟨p4, Or.inr ⟨(by dsimp only; decide), (by dsimp only; decide), (l4.resolve_left c4).2⟩⟩)
  refine t_bind (wX11_isWord_T (p4.tp g)) (fun r h5 => ?_)
  obtain ⟨t17, s18⟩ := r
  obtain ⟨o5, l5, -⟩ := h5
  dsimp only at o5 l5 ⊢
  have p5 := p4.trans o5
  refine t_ite (fun c5 => ?_) (fun c5 => t_some ⟨p5, Or.inr ⟨(by dsimp only; decide), (by dsimp only; decide), (l5.resolve_left c5).2⟩⟩)
  refine t_bind (wX11_isWord_T (p5.tp g)) (fun r h6 => ?_)
  obtain ⟨t21, s22⟩ := r
  obtain ⟨o6, l6, -⟩ := h6
  dsimp only at o6 l6 ⊢
  have p6 := p5.trans o6
  refine t_ite (fun c6 => ?_) (fun c6 => t_some ⟨p6, Or.inr ⟨(by dsimp only; decide), (by dsimp only; decide), (l6.resolve_left c6).2⟩⟩)
  refine t_bind (wX11_isWord_T (p6.tp g)) (fun r h7 => ?_)
  obtain ⟨t25, s26⟩ := r
  obtain ⟨o7, l7, -⟩ := h7
  dsimp only at o7 l7 ⊢
  have p7 := p6.trans o7
  refine t_ite (fun c7 => ?_) (fun c7 => t_some ⟨p7, Or.inr ⟨(by dsimp only; decide), (by dsimp only; decide), (l7.resolve_left c7).2⟩⟩)
  refine t_bind (wX11_isWord_T (p7.tp g)) (fun r h8 => ?_)
  obtain ⟨t29, s30⟩ := r
  obtain ⟨o8, l8, -⟩ := h8
  dsimp only at o8 l8 ⊢
  have p8 := p7.trans o8
  exact t_ite (fun c8 => t_some ⟨p8, Or.inl (by dsimp only; decide)⟩) (fun c8 => t_some ⟨p8, Or.inr ⟨(by dsimp only; decide), (by dsimp only; decide), (l8.resolve_left c8).2⟩⟩)
