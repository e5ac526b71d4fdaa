/-! How far, by the CLAUSES: the class. -/
/-- the code of a LAW as a row -/
noncomputable def cdL (x : lC) : Nat → Int32 := fun j => (x.2.2.1[j]?).getD 0
noncomputable def FV (w : Nat → Int64) (C : Nat → Int32) (kd : Int32) : List qT → Int64
  | [] => w 2
  | x :: q => if x.1 = kd then (if x.2.2.2.2 = true then (if VAL w C x.2.2.1 x.2.2.2.1 = 0 then FV w C kd q else VAL w C x.2.1 x.2.2.1) else VAL w C x.2.1 x.2.2.1) else FV w C kd q
/-- the CLAUSES' codes are well made -/
noncomputable def QW (C : Nat → Int32) (q : List qT) : Prop := ∀ (i : Nat) (x : qT), q[i]? = some x → hrun (fun j => rc (C j)) (x.2.2.1 - x.2.1) x.2.1 0 = some 1 ∧ (x.2.2.2.2 = true → hrun (fun j => rc (C j)) (x.2.2.2.1 - x.2.2.1) x.2.2.1 0 = some 1)
section FARC
variable {k0 : Nat} {s0 s : wS} {x : lC} {kd : Int32}
theorem CLc.code (h : CLc k0 x s) {j : Nat} (hj : j < x.2.2.1.length) : s.1 (k0 + 1) j = cdL x j ∧ okc (cdL x j) := by
  have e : x.2.2.1[j]? = some (x.2.2.1[j]) := List.getElem?_eq_getElem hj
  have c : cdL x j = x.2.2.1[j] := by unfold cdL; rw [e]; rfl
  rw [c]
  exact h.1.2.2 j _ e
/-- only the stack was touched -/
noncomputable def KC (k0 : Nat) (s0 s : wS) : Prop := (∀ k b, ¬ (k = k0 ∧ b = 9) → s.1 k b = s0.1 k b) ∧ (∀ k, k ≠ k0 + 7 → s.2 k = s0.2 k)
theorem KC.refl : KC k0 s s := ⟨fun _ _ _ => rfl, fun _ _ => rfl⟩
theorem KC.trans {s1 s2 s3 : wS} (a : KC k0 s1 s2) (b : KC k0 s2 s3) : KC k0 s1 s3 := ⟨fun k c h => (b.1 k c h).trans (a.1 k c h), fun k h => (b.2 k h).trans (a.2 k h)⟩
theorem CLc.fc {s' : wS} (h : CLc k0 x s) (f : KC k0 s s') : CLc k0 x s' := h.go (f.1 _ _ (by omega)) (f.1 _ _ (by omega)) (fun j h1 h2 => funext fun b => f.1 _ _ (by omega))
/-- a run between two places of the code -/
theorem run_L (hk0 : wkd k0 = 3) (h : CLc k0 x s) {b e : Nat} (hb : b ≤ e) (he : e ≤ x.2.2.1.length) (hr : hrun (fun j => rc (cdL x j)) (e - b) b 0 = some 1) : Tot (wX3_run k0 (Int32.ofNat b) (Int32.ofNat e) s) (fun p => p.1 = VAL (s.2 (k0 + 6)) (cdL x) b e ∧ KC k0 s p.2) :=
  t_mono (run_E hk0 hb (by have := h.1.2.1; omega) (fun j h1 h2 => h.code (by omega)) hr) (fun p hp => ⟨hp.1, hp.2⟩)
theorem farC_h (hk0 : wkd k0 = 3) (hQ : QW (cdL x) x.2.2.2) : ∀ (n : Nat) {i : Nat} {x2 : Int32} {s : wS}, x2 = Int32.ofNat i → i ≤ x.2.2.2.length → CLc k0 x s → x.2.2.2.length - i < n → Tot ((wX3_farByClauses_h2 k0 kd n x2 s).bind fun z15 => (match z15 with | .inl s16 => wX3_farByClauses_j95 k0 s16 | .inr (t22, s23) => wX3_farByClauses_j72 k0 t22 s23)) (fun p => p.1 = FV (s.2 (k0 + 6)) (cdL x) kd (x.2.2.2.drop i) ∧ KC k0 s p.2) := by
  intro n
  induction n with
  | zero => intro i x2 s _ _ _ hm; exact absurd hm (by omega)
  | succ n ih =>
    intro i x2 s h2 hi h hm
    obtain ⟨⟨q6, q12⟩, qx⟩ := h.2.1
    have lb := h.2.2
    have e2 : x2.toInt = i := by rw [h2, t_on (by omega)]
    have en : x2.toNatClampNeg = i := by unfold Int32.toNatClampNeg; omega
    have el : (Int32.ofNat x.2.2.2.length).toInt = x.2.2.2.length := t_on (by omega)
    rw [wX3_farByClauses_h2, q6]
    by_cases c : x2 < Int32.ofNat x.2.2.2.length
    · have hc := t_lt c
      rw [e2, el] at hc
      have hil : i < x.2.2.2.length := by omega
      have e : x.2.2.2[i]? = some (x.2.2.2[i]) := List.getElem?_eq_getElem hil
      obtain ⟨a1, a2, a3, a4, a5, ⟨a6, a7, a8⟩, -⟩ := qx i _ e
      obtain ⟨w1, w2⟩ := hQ i _ e
      have lbi := lb i _ e
      rw [List.drop_eq_getElem_cons hil]
      generalize x.2.2.2[i] = y at *
      have em : (Int32.ofNat y.2.2.1).toInt = y.2.2.1 := t_on (by omega)
      have et : (Int32.ofNat y.2.2.2.1).toInt = y.2.2.2.1 := t_on (by omega)
      have nx : ∀ s' : wS, KC k0 s s' → Tot ((wX3_farByClauses_j89 (wX3_farByClauses_h2 k0 kd n) k0 kd x2 s').bind fun z15 => (match z15 with | .inl s16 => wX3_farByClauses_j95 k0 s16 | .inr (t22, s23) => wX3_farByClauses_j72 k0 t22 s23)) (fun p => p.1 = FV (s.2 (k0 + 6)) (cdL x) kd (x.2.2.2.drop (i + 1)) ∧ KC k0 s p.2) := by
        intro s' f
        unfold wX3_farByClauses_j89
        refine t_mono (ih (by rw [h2, i_on1 (by omega)]) (by omega) (h.fc f) (by omega)) (fun p hp => ⟨?_, f.trans hp.2⟩)
        rw [hp.1, f.2 (k0 + 6) (by omega)]
      have fin : ∀ s' : wS, KC k0 s s' → Tot (wX3_farByClauses_j72 k0 x2 s') (fun p => p.1 = VAL (s.2 (k0 + 6)) (cdL x) y.2.1 y.2.2.1 ∧ KC k0 s p.2) := by
        intro s' f
        have b3 : s'.1 (k0 + 3) i = Int32.ofNat y.2.1 := by rw [f.1 _ _ (by omega)]; exact a2
        have b4 : s'.1 (k0 + 4) i = Int32.ofNat y.2.2.1 := by rw [f.1 _ _ (by omega)]; exact a3
        unfold wX3_farByClauses_j72
        rw [wld_E (by omega) (by omega), t_sbe, wld_E (by omega) (by omega), t_sbe, en, b3, b4]
        refine t_bind (run_L hk0 (h.fc f) a6 (by omega) w1) (fun p hp => ?_)
        obtain ⟨t28, s29⟩ := p
        obtain ⟨p1, p2⟩ := hp
        dsimp only at p1 p2 ⊢
        exact t_some ⟨by rw [p1, f.2 (k0 + 6) (by omega)], f.trans p2⟩
      rw [if_pos c, if_pos (Int32.lt_iff_toInt_lt.2 (by rw [show (12 : Int32).toInt = 12 from rfl]; omega)), wld_E (by omega) (by omega), t_sbe, wld_E (by omega) (by omega), t_sbe, en, a3, a4]
      show Tot _ (fun (p : Int64 × wS) => p.1 = (if y.1 = kd then (if y.2.2.2.2 = true then (if VAL (s.2 (k0 + 6)) (cdL x) y.2.2.1 y.2.2.2.1 = 0 then FV (s.2 (k0 + 6)) (cdL x) kd (x.2.2.2.drop (i + 1)) else VAL (s.2 (k0 + 6)) (cdL x) y.2.1 y.2.2.1) else VAL (s.2 (k0 + 6)) (cdL x) y.2.1 y.2.2.1) else FV (s.2 (k0 + 6)) (cdL x) kd (x.2.2.2.drop (i + 1))) ∧ KC k0 s p.2)
      unfold wX3_farByClauses_j36
      rw [wld_E (by omega) (by omega), t_sbe, t_sbe, en, a1]
      by_cases b : y.2.2.2.2 = true
      · rw [if_pos (Int32.lt_iff_toInt_lt.2 (by have := a5.1 b; omega))]
        by_cases k : y.1 = kd
        · rw [if_pos k, if_pos k, if_pos b, qi1, wld_E (by omega) (by omega), t_sbe, wld_E (by omega) (by omega), t_sbe, en, a3, a4]
          refine t_assoc (t_bind (run_L hk0 h a7 (by omega) (w2 b)) (fun p hp => ?_))
          obtain ⟨t11, s12⟩ := p
          obtain ⟨p1, p2⟩ := hp
          dsimp only at p1 p2 ⊢
          rw [p1]
          by_cases z : VAL (s.2 (k0 + 6)) (cdL x) y.2.2.1 y.2.2.2.1 = 0
          · rw [if_pos z, if_pos z]
            exact nx s12 p2
          · rw [if_neg z, if_neg z, t_sbe]
            exact fin s12 p2
        · rw [if_neg k, if_neg k]
          exact nx s KC.refl
      · rw [if_neg (fun q => b (a5.2 (by have := t_lt q; omega)))]
        by_cases k : y.1 = kd
        · rw [if_pos k, if_pos k, if_neg b, qi0, t_sbe]
          exact fin s KC.refl
        · rw [if_neg k, if_neg k]
          exact nx s KC.refl
    · have hc := t_ge c
      rw [e2, el] at hc
      obtain rfl : i = x.2.2.2.length := by omega
      rw [if_neg c, t_sbe, List.drop_length]
      dsimp only
      unfold wX3_farByClauses_j95
      rw [wordOf_E (by decide) (by decide), t_sbe]
      exact t_some ⟨rfl, KC.refl⟩
theorem farC_E (hk0 : wkd k0 = 3) (hQ : QW (cdL x) x.2.2.2) (h : CLc k0 x s) : Tot (wX3_farByClauses k0 kd s) (fun p => p.1 = FV (s.2 (k0 + 6)) (cdL x) kd x.2.2.2 ∧ KC k0 s p.2) := by
  unfold wX3_farByClauses
  have q12 := h.2.1.1.2
  exact farC_h hk0 hQ wFuel (i := 0) rfl (Nat.zero_le _) h (by
    have e : wFuel = 1099511627776 := rfl
    omega)
end FARC
