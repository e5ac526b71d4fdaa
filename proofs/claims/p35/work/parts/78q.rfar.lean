/-! How far, by the CLAUSES: the reference. -/
noncomputable def KR (s0 s : wS) : Prop := (∀ k b, ¬ (k = 152 ∧ b = 22) → s.1 k b = s0.1 k b) ∧ (∀ k, k ≠ 161 → s.2 k = s0.2 k)
theorem KR.refl {s : wS} : KR s s := ⟨fun _ _ _ => rfl, fun _ _ => rfl⟩
theorem KR.trans {s1 s2 s3 : wS} (a : KR s1 s2) (b : KR s2 s3) : KR s1 s3 := ⟨fun k c h => (b.1 k c h).trans (a.1 k c h), fun k h => (b.2 k h).trans (a.2 k h)⟩
section FARR
variable {s0 s : wS} {x : lC} {kd : Int32} {l : Nat}
theorem RLf.code (h : RLf l x s) {j : Nat} (hj : j < x.2.2.1.length) : s.1 154 (400 * l + j) = rc (cdL x j) := by
  have e : x.2.2.1[j]? = some (x.2.2.1[j]) := List.getElem?_eq_getElem hj
  have c : cdL x j = x.2.2.1[j] := by unfold cdL; rw [e]; rfl
  rw [c]
  exact h.1.2 j _ e
theorem RLf.kr {s' : wS} (h : RLf l x s) (f : KR s s') : RLf l x s' := h.keep (funext fun b => f.1 _ _ (by omega)) (funext fun b => f.1 _ _ (by omega)) (funext fun b => f.1 _ _ (by omega)) (funext fun b => f.1 _ _ (by omega))
theorem QW_of (hq : qLW s l) (h : RLf l x s) (lb : LB x.2.2.1.length x.2.2.2) (lq : ∀ (i : Nat) (y : qT), x.2.2.2[i]? = some y → y.2.1 ≤ y.2.2.1 ∧ y.2.2.1 ≤ y.2.2.2.1 ∧ y.2.2.2.1 ≤ 400) : QW (cdL x) x.2.2.2 := by
  intro i y hy
  obtain ⟨⟨c1, c2⟩, cs⟩ := h.2
  obtain ⟨-, qq⟩ := hq
  have hi := (List.getElem?_eq_some_iff.1 hy).1
  obtain ⟨b0, b1, b2, b3, b4⟩ := cs i y hy
  obtain ⟨l1, l2, l3⟩ := lq i y hy
  have lb := lb i y hy
  obtain ⟨w1, w2⟩ := qq i (by rw [c1, t_on (by omega)]; omega)
  rw [b3, b4] at w2
  rw [b1, b2] at w1
  have co : ∀ j, j < x.2.2.1.length → rc (cdL x j) = s.1 154 (400 * l + j) := fun j hj => (h.code hj).symm
  refine ⟨?_, fun f => ?_⟩
  · obtain ⟨-, -, -, w⟩ := w1
    rw [t_on (by omega), t_on (by omega)] at w
    rw [← hrun_congr (C := fun j => rc (cdL x j)) (C' := fun i => s.1 154 (400 * l + i)) (n := y.2.2.1 - y.2.1) (i := y.2.1) (h := 0) (fun j h1 h2 => (co j (by omega)).symm)]
    rw [show ((y.2.2.1 : Int) - (y.2.1 : Int)).toNat = y.2.2.1 - y.2.1 by omega, show ((y.2.1 : Int)).toNat = y.2.1 by omega] at w
    exact w
  · rw [if_pos f] at w2
    rcases w2 with w2 | ⟨-, -, -, w⟩
    · rw [t_on (by omega)] at w2; omega
    · rw [t_on (by omega), t_on (by omega)] at w
      rw [← hrun_congr (C := fun j => rc (cdL x j)) (C' := fun i => s.1 154 (400 * l + i)) (n := y.2.2.2.1 - y.2.2.1) (i := y.2.2.1) (h := 0) (fun j h1 h2 => (co j (by omega)).symm)]
      rw [show ((y.2.2.2.1 : Int) - (y.2.2.1 : Int)).toNat = y.2.2.2.1 - y.2.2.1 by omega, show ((y.2.2.1 : Int)).toNat = y.2.2.1 by omega] at w
      exact w
theorem reck_L {xl : Int32} (hxl : xl = Int32.ofNat l) (hl : l < 6) (h : RLf l x s) (hlen : x.2.2.1.length ≤ 400) (ok : ∀ j, j < x.2.2.1.length → okc (cdL x j)) {b e : Nat} (hb : b ≤ e) (he : e ≤ x.2.2.1.length) (hr : hrun (fun j => rc (cdL x j)) (e - b) b 0 = some 1) : Tot (wX11_reckons xl (Int32.ofNat b) (Int32.ofNat e) s) (fun p => p.1 = VAL (s.2 162) (cdL x) b e ∧ KR s p.2) :=
  t_mono (reck_E hxl hl hb (by omega) (fun j h1 h2 => ⟨h.code (by omega), ok j (by omega)⟩) hr) (fun p hp => ⟨hp.1, hp.2⟩)
theorem ad_E {xl y : Int32} {i : Nat} (hxl : xl = Int32.ofNat l) (hl : l < 6) (hy : y = Int32.ofNat i) (hi : i ≤ 12) : ((60 * xl) + (5 * y)).toInt = 60 * l + 5 * i ∧ ((60 * xl) + (5 * y)).toNatClampNeg = 60 * l + 5 * i := by
  have el : xl.toInt = l := by rw [hxl, t_on (by omega)]
  have ei : y.toInt = i := by rw [hy, t_on (by omega)]
  have e60 : (60 : Int32).toInt = 60 := rfl
  have e5 : (5 : Int32).toInt = 5 := rfl
  have q1 : (60 * xl).toInt = 60 * l := by rw [t_mul (by rw [e60, el]; omega) (by rw [e60, el]; omega), e60, el]
  have q2 : (5 * y).toInt = 5 * i := by rw [t_mul (by rw [e5, ei]; omega) (by rw [e5, ei]; omega), e5, ei]
  have q3 : ((60 * xl) + (5 * y)).toInt = 60 * l + 5 * i := by rw [t_add (by omega) (by omega), q1, q2]
  exact ⟨q3, by unfold Int32.toNatClampNeg; omega⟩
theorem ad_p {z : Int32} {a d : Nat} {c : Int32} (h : z.toInt = a) (ha : a ≤ 360) (hc : c.toInt = d) (hd : d ≤ 4) : (z + c).toInt = a + d ∧ (z + c).toNatClampNeg = a + d := by
  have e : (z + c).toInt = a + d := by rw [t_add (by omega) (by omega), h, hc]
  exact ⟨e, by unfold Int32.toNatClampNeg; omega⟩
theorem farR_h {xl : Int32} (hxl : xl = Int32.ofNat l) (hl : l < 6) (hlen : x.2.2.1.length ≤ 400) (ok : ∀ j, j < x.2.2.1.length → okc (cdL x j)) (lb : LB x.2.2.1.length x.2.2.2) (lq : ∀ (i : Nat) (y : qT), x.2.2.2[i]? = some y → y.2.1 ≤ y.2.2.1 ∧ y.2.2.1 ≤ y.2.2.2.1 ∧ y.2.2.2.1 ≤ 400) (hQ : QW (cdL x) x.2.2.2) : ∀ (n : Nat) {i : Nat} {x5 : Int32} {s : wS}, x5 = Int32.ofNat i → i ≤ x.2.2.2.length → RLf l x s → x.2.2.2.length - i < n → Tot ((wX11_farBy_h11 xl kd n x5 s).bind fun z16 => (match z16 with | .inl s17 => some ((s17.2 162 2), s17) | .inr (t25, s26) => wX11_farBy_j87 xl t25 s26)) (fun p => p.1 = FV (s.2 162) (cdL x) kd (x.2.2.2.drop i) ∧ KR s p.2) := by
  intro n
  induction n with
  | zero => intro i x5 s _ _ _ hm; exact absurd hm (by omega)
  | succ n ih =>
    intro i x5 s h5 hi h hm
    obtain ⟨⟨q6, q12⟩, qx⟩ := h.2
    have e5 : x5.toInt = i := by rw [h5, t_on (by omega)]
    have el : (Int32.ofNat x.2.2.2.length).toInt = x.2.2.2.length := t_on (by omega)
    have elx : xl.toInt = l := by rw [hxl, t_on (by omega)]
    have eln : xl.toNatClampNeg = l := by unfold Int32.toNatClampNeg; omega
    rw [wX11_farBy_h11, wld_E (by omega) (by omega), t_sbe, eln, q6]
    by_cases c : x5 < Int32.ofNat x.2.2.2.length
    · have hc := t_lt c
      rw [e5, el] at hc
      have hil : i < x.2.2.2.length := by omega
      have e : x.2.2.2[i]? = some (x.2.2.2[i]) := List.getElem?_eq_getElem hil
      obtain ⟨a0, a1, a2, a3, a4⟩ := qx i _ e
      obtain ⟨w1, w2⟩ := hQ i _ e
      obtain ⟨l1, l2, l3⟩ := lq i _ e
      have lbi := lb i _ e
      rw [List.drop_eq_getElem_cons hil]
      generalize x.2.2.2[i] = y at *
      obtain ⟨ad, adn⟩ := ad_E hxl hl h5 (by omega)
      have ad' : ((60 * xl) + (5 * x5)).toInt = (60 * l + 5 * i : Nat) := by rw [ad]; omega
      obtain ⟨d1, d1n⟩ := ad_p (c := 1) (d := 1) ad' (by omega) rfl (by decide)
      obtain ⟨d2, d2n⟩ := ad_p (c := 2) (d := 2) ad' (by omega) rfl (by decide)
      obtain ⟨d3, d3n⟩ := ad_p (c := 3) (d := 3) ad' (by omega) rfl (by decide)
      obtain ⟨d4, d4n⟩ := ad_p (c := 4) (d := 4) ad' (by omega) rfl (by decide)
      have nx : ∀ s' : wS, KR s s' → Tot ((wX11_farBy_j111 (wX11_farBy_h11 xl kd n) xl kd x5 s').bind fun z16 => (match z16 with | .inl s17 => some ((s17.2 162 2), s17) | .inr (t25, s26) => wX11_farBy_j87 xl t25 s26)) (fun p => p.1 = FV (s.2 162) (cdL x) kd (x.2.2.2.drop (i + 1)) ∧ KR s p.2) := by
        intro s' f
        unfold wX11_farBy_j111
        refine t_mono (ih (by rw [h5, i_on1 (by omega)]) (by omega) (h.kr f) (by omega)) (fun p hp => ⟨?_, f.trans hp.2⟩)
        rw [hp.1, f.2 162 (by omega)]
      have fin : ∀ s' : wS, KR s s' → Tot (wX11_farBy_j87 xl ((60 * xl) + (5 * x5)) s') (fun p => p.1 = VAL (s.2 162) (cdL x) y.2.1 y.2.2.1 ∧ KR s p.2) := by
        intro s' f
        have b1 : s'.1 156 (60 * l + 5 * i + 1) = Int32.ofNat y.2.1 := by rw [f.1 _ _ (by omega)]; exact a1
        have b2 : s'.1 156 (60 * l + 5 * i + 2) = Int32.ofNat y.2.2.1 := by rw [f.1 _ _ (by omega)]; exact a2
        unfold wX11_farBy_j87
        rw [wld_E (by omega) (by omega), t_sbe, wld_E (by omega) (by omega), t_sbe, d1n, d2n, b1, b2]
        refine t_bind (reck_L hxl hl (h.kr f) hlen ok l1 (by omega) w1) (fun p hp => ?_)
        obtain ⟨t28, s29⟩ := p
        obtain ⟨p1, p2⟩ := hp
        dsimp only at p1 p2 ⊢
        exact t_some ⟨by rw [p1, f.2 162 (by omega)], f.trans p2⟩
      rw [if_pos c, wld_E (by omega) (by omega), t_sbe, adn, a0]
      show Tot _ (fun (p : Int64 × wS) => p.1 = (if y.1 = kd then (if y.2.2.2.2 = true then (if VAL (s.2 162) (cdL x) y.2.2.1 y.2.2.2.1 = 0 then FV (s.2 162) (cdL x) kd (x.2.2.2.drop (i + 1)) else VAL (s.2 162) (cdL x) y.2.1 y.2.2.1) else VAL (s.2 162) (cdL x) y.2.1 y.2.2.1) else FV (s.2 162) (cdL x) kd (x.2.2.2.drop (i + 1))) ∧ KR s p.2)
      by_cases k : y.1 = kd
      · rw [if_pos k, if_pos k, wld_E (by omega) (by omega), t_sbe, d3n, a3]
        by_cases b : y.2.2.2.2 = true
        · rw [if_pos b, if_pos b, if_neg (fun q => by have := t_lt q; rw [t_on (by omega), t_i0] at this; omega), t_sbe, wld_E (by omega) (by omega), t_sbe, d4n, a4]
          refine t_assoc (t_bind (reck_L hxl hl h hlen ok l2 (by omega) (w2 b)) (fun p hp => ?_))
          obtain ⟨t11, s12⟩ := p
          obtain ⟨p1, p2⟩ := hp
          dsimp only at p1 p2 ⊢
          rw [p1]
          by_cases z : VAL (s.2 162) (cdL x) y.2.2.1 y.2.2.2.1 = 0
          · rw [if_pos z, if_pos z]
            exact nx s12 p2
          · rw [if_neg z, if_neg z, t_sbe]
            exact fin s12 p2
        · rw [if_neg b, if_neg b, if_pos (show (-1 : Int32) < 0 by decide), t_sbe]
          exact fin s KR.refl
      · rw [if_neg k, if_neg k]
        exact nx s KR.refl
    · have hc := t_ge c
      rw [e5, el] at hc
      obtain rfl : i = x.2.2.2.length := by omega
      rw [if_neg c, t_sbe, List.drop_length]
      dsimp only
      exact t_some ⟨rfl, KR.refl⟩
end FARR
