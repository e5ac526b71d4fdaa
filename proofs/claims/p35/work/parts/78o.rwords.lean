/-! The reference's words. -/
section RWORDS
variable {s : wS}
theorem apart_E {x y : Int32} : wX11_apart x y s = some (ap x y) := by
  unfold wX11_apart ap
  rw [ite_some]
theorem words_0 {x1 x2 x3 : Int32} : ∀ (n : Nat) {i : Nat} {x4 : Int32} {s : wS}, x4 = Int32.ofNat i → i ≤ 8 → 8 - i < n → Tot (wX11_words_h3 x1 x2 x3 n x4 s) (fun r => r.1 = s.1 ∧ (∀ k, k ≠ 162 → r.2 k = s.2 k) ∧ ∀ j, j < 8 → r.2 162 j = if i ≤ j then 0 else s.2 162 j) := by
  intro n
  induction n with
  | zero => intro i x4 s _ _ hm; exact absurd hm (by omega)
  | succ n ih =>
    intro i x4 s h4 hi hm
    have e4 : x4.toInt = i := by rw [h4, t_on (by omega)]
    have en : x4.toNatClampNeg = i := by unfold Int32.toNatClampNeg; omega
    rw [wX11_words_h3]
    by_cases c : x4 < 8
    · have hc := t_lt c
      rw [e4, show (8 : Int32).toInt = 8 from rfl] at hc
      rw [if_pos c, wstL_E (by omega) (by omega), t_sbe, en]
      refine t_mono (ih (i := i + 1) (by rw [h4, i_on1 (by omega)]) (by omega) (by omega)) (fun r hr => ⟨hr.1, fun k hk => by rw [hr.2.1 k hk, wupL_n hk], fun j hj => ?_⟩)
      rw [hr.2.2 j hj, wupL_k]
      by_cases q : j = i
      · rw [q, if_neg (by omega), if_pos (Nat.le_refl _), vpL_s]
      · rw [vpL_n q]
        by_cases p : i ≤ j
        · rw [if_pos (by omega), if_pos p]
        · rw [if_neg (by omega), if_neg p]
    · have hc := t_ge c
      rw [e4, show (8 : Int32).toInt = 8 from rfl] at hc
      rw [if_neg c]
      exact t_some ⟨rfl, fun k _ => rfl, fun j hj => by rw [if_neg (by omega)]⟩
theorem ix_E {c x : Int32} {m : Nat} (hc : c.toInt = m) (hm : m ≤ 30) (h0 : 0 ≤ x.toInt) (h1 : x.toInt < 8) : ((c + 2 * x).toInt = m + 2 * x.toInt ∧ (c + 2 * x).toNatClampNeg = m + 2 * x.toNatClampNeg) ∧ ((c + 2 * x + 1).toInt = m + 2 * x.toInt + 1 ∧ (c + 2 * x + 1).toNatClampNeg = m + 2 * x.toNatClampNeg + 1) := by
  have q1 := t_2p (x := x) h0 (by omega)
  have q2 : (c + 2 * x).toInt = m + 2 * x.toInt := by rw [t_add (by omega) (by omega), q1, hc]
  have q3 : (c + 2 * x + 1).toInt = m + 2 * x.toInt + 1 := by rw [t_add (by rw [show (1 : Int32).toInt = 1 from rfl]; omega) (by rw [show (1 : Int32).toInt = 1 from rfl]; omega), q2]; rfl
  refine ⟨⟨q2, ?_⟩, q3, ?_⟩ <;> unfold Int32.toNatClampNeg <;> omega
theorem ite_wupL {c : Prop} [Decidable c] {k j : Nat} {a b : Int64} : (if c then wupL s k j a else wupL s k j b) = wupL s k j (if c then a else b) := by
  by_cases h : c
  · rw [if_pos h, if_pos h]
  · rw [if_neg h, if_neg h]
theorem WD_v {f : Nat → Int32} {kd : Int32} {a b : Nat} : WD f kd a b 0 = (Int32.ofNat a).toInt64 ∧ WD f kd a b 1 = (Int32.ofNat b).toInt64 ∧ WD f kd a b 2 = (ap (Int32.ofNat a) (Int32.ofNat b)).toInt64 ∧ WD f kd a b 3 = (if kd = 1 then (ap (f (10 + 2 * a)) (f (10 + 2 * b))).toInt64 else 0) ∧ WD f kd a b 4 = (if kd = 1 then (ap (f (10 + 2 * a + 1)) (f (10 + 2 * b + 1))).toInt64 else 0) ∧ WD f kd a b 5 = (if kd = 2 then (f (26 + 2 * a)).toInt64 else 0) ∧ WD f kd a b 6 = (if kd = 2 then (ap (f (26 + 2 * a)) (f (26 + 2 * b))).toInt64 else 0) ∧ WD f kd a b 7 = (if kd = 2 then (if f (26 + 2 * a + 1) = f (26 + 2 * b + 1) then 1 else 0) else 0) := by
  unfold WD
  refine ⟨if_pos rfl, ?_, ?_, ?_, ?_, ?_, ?_, ?_⟩
  · exact (if_neg (show ¬ (1 : Nat) = 0 by decide)).trans ((if_pos rfl))
  · exact (if_neg (show ¬ (2 : Nat) = 0 by decide)).trans ((if_neg (show ¬ (2 : Nat) = 1 by decide)).trans ((if_pos rfl)))
  · exact (if_neg (show ¬ (3 : Nat) = 0 by decide)).trans ((if_neg (show ¬ (3 : Nat) = 1 by decide)).trans ((if_neg (show ¬ (3 : Nat) = 2 by decide)).trans ((if_pos rfl))))
  · exact (if_neg (show ¬ (4 : Nat) = 0 by decide)).trans ((if_neg (show ¬ (4 : Nat) = 1 by decide)).trans ((if_neg (show ¬ (4 : Nat) = 2 by decide)).trans ((if_neg (show ¬ (4 : Nat) = 3 by decide)).trans ((if_pos rfl)))))
  · exact (if_neg (show ¬ (5 : Nat) = 0 by decide)).trans ((if_neg (show ¬ (5 : Nat) = 1 by decide)).trans ((if_neg (show ¬ (5 : Nat) = 2 by decide)).trans ((if_neg (show ¬ (5 : Nat) = 3 by decide)).trans ((if_neg (show ¬ (5 : Nat) = 4 by decide)).trans ((if_pos rfl))))))
  · exact (if_neg (show ¬ (6 : Nat) = 0 by decide)).trans ((if_neg (show ¬ (6 : Nat) = 1 by decide)).trans ((if_neg (show ¬ (6 : Nat) = 2 by decide)).trans ((if_neg (show ¬ (6 : Nat) = 3 by decide)).trans ((if_neg (show ¬ (6 : Nat) = 4 by decide)).trans ((if_neg (show ¬ (6 : Nat) = 5 by decide)).trans ((if_pos rfl)))))))
  · exact (if_neg (show ¬ (7 : Nat) = 0 by decide)).trans ((if_neg (show ¬ (7 : Nat) = 1 by decide)).trans ((if_neg (show ¬ (7 : Nat) = 2 by decide)).trans ((if_neg (show ¬ (7 : Nat) = 3 by decide)).trans ((if_neg (show ¬ (7 : Nat) = 4 by decide)).trans ((if_neg (show ¬ (7 : Nat) = 5 by decide)).trans ((if_neg (show ¬ (7 : Nat) = 6 by decide))))))))
/-- three words -/
noncomputable abbrev W3 (s : wS) (i j k : Nat) (v0 v1 v2 : Int64) : wS := wupL (wupL (wupL s 162 i v0) 162 j v1) 162 k v2
theorem words_E (g : JA s) {kd x y : Int32} (hx : TH (s.1 163) kd x) (hy : TH (s.1 163) kd y) : Tot (wX11_words kd x y s) (fun r => r.1 = s.1 ∧ (∀ k, k ≠ 162 → r.2 k = s.2 k) ∧ ∀ j, j < 8 → r.2 162 j = WD (s.1 163) kd x.toNatClampNeg y.toNatClampNeg j) := by
  obtain ⟨x8, xo, xi, xl⟩ := th_ix g hx
  obtain ⟨y8, yo, yi, yl⟩ := th_ix g hy
  have a3 : ap x y = ap (Int32.ofNat x.toNatClampNeg) (Int32.ofNat y.toNatClampNeg) := by rw [← xo, ← yo]
  unfold wX11_words
  refine t_bind (words_0 wFuel (i := 0) rfl (by decide) (by
    have e : wFuel = 1099511627776 := rfl
    omega)) (fun s4 h4 => ?_)
  obtain ⟨z1, z2, z3⟩ := h4
  rw [wstL_E (by decide) (by decide), t_sbe, wstL_E (by decide) (by decide), t_sbe, apart_E, t_sbe, wstL_E (by decide) (by decide), t_sbe]
  have u : (wupL (wupL (wupL s4 162 (Int32.toNatClampNeg 0) x.toInt64) 162 (Int32.toNatClampNeg 1) y.toInt64) 162 (Int32.toNatClampNeg 2) (ap x y).toInt64).1 = s.1 := z1
  have w2 : ∀ k, k ≠ 162 → (wupL (wupL (wupL s4 162 (Int32.toNatClampNeg 0) x.toInt64) 162 (Int32.toNatClampNeg 1) y.toInt64) 162 (Int32.toNatClampNeg 2) (ap x y).toInt64).2 k = s.2 k := fun k hk => by rw [wupL_n hk, wupL_n hk, wupL_n hk, z2 k hk]
  have w3 : (wupL (wupL (wupL s4 162 (Int32.toNatClampNeg 0) x.toInt64) 162 (Int32.toNatClampNeg 1) y.toInt64) 162 (Int32.toNatClampNeg 2) (ap x y).toInt64).2 162 0 = x.toInt64 ∧ (wupL (wupL (wupL s4 162 (Int32.toNatClampNeg 0) x.toInt64) 162 (Int32.toNatClampNeg 1) y.toInt64) 162 (Int32.toNatClampNeg 2) (ap x y).toInt64).2 162 1 = y.toInt64 ∧ (wupL (wupL (wupL s4 162 (Int32.toNatClampNeg 0) x.toInt64) 162 (Int32.toNatClampNeg 1) y.toInt64) 162 (Int32.toNatClampNeg 2) (ap x y).toInt64).2 162 2 = (ap x y).toInt64 ∧ (wupL (wupL (wupL s4 162 (Int32.toNatClampNeg 0) x.toInt64) 162 (Int32.toNatClampNeg 1) y.toInt64) 162 (Int32.toNatClampNeg 2) (ap x y).toInt64).2 162 3 = 0 ∧ (wupL (wupL (wupL s4 162 (Int32.toNatClampNeg 0) x.toInt64) 162 (Int32.toNatClampNeg 1) y.toInt64) 162 (Int32.toNatClampNeg 2) (ap x y).toInt64).2 162 4 = 0 ∧ (wupL (wupL (wupL s4 162 (Int32.toNatClampNeg 0) x.toInt64) 162 (Int32.toNatClampNeg 1) y.toInt64) 162 (Int32.toNatClampNeg 2) (ap x y).toInt64).2 162 5 = 0 ∧ (wupL (wupL (wupL s4 162 (Int32.toNatClampNeg 0) x.toInt64) 162 (Int32.toNatClampNeg 1) y.toInt64) 162 (Int32.toNatClampNeg 2) (ap x y).toInt64).2 162 6 = 0 ∧ (wupL (wupL (wupL s4 162 (Int32.toNatClampNeg 0) x.toInt64) 162 (Int32.toNatClampNeg 1) y.toInt64) 162 (Int32.toNatClampNeg 2) (ap x y).toInt64).2 162 7 = 0 := by
    rw [wupL_k, wupL_k, wupL_k]
    refine ⟨?_, ?_, ?_, ?_, ?_, ?_, ?_, ?_⟩
    · rw [vpL_n (by decide), vpL_n (by decide)]; exact vpL_s
    · rw [vpL_n (by decide)]; exact vpL_s
    · exact vpL_s
    · rw [vpL_n (by decide), vpL_n (by decide), vpL_n (by decide), z3 _ (by decide), if_pos (Nat.zero_le _)]
    · rw [vpL_n (by decide), vpL_n (by decide), vpL_n (by decide), z3 _ (by decide), if_pos (Nat.zero_le _)]
    · rw [vpL_n (by decide), vpL_n (by decide), vpL_n (by decide), z3 _ (by decide), if_pos (Nat.zero_le _)]
    · rw [vpL_n (by decide), vpL_n (by decide), vpL_n (by decide), z3 _ (by decide), if_pos (Nat.zero_le _)]
    · rw [vpL_n (by decide), vpL_n (by decide), vpL_n (by decide), z3 _ (by decide), if_pos (Nat.zero_le _)]
  generalize wupL (wupL (wupL s4 162 (Int32.toNatClampNeg 0) x.toInt64) 162 (Int32.toNatClampNeg 1) y.toInt64) 162 (Int32.toNatClampNeg 2) (ap x y).toInt64 = s10 at *
  obtain ⟨⟨i1, i2⟩, i3, i4⟩ := ix_E (c := 10) (x := x) (m := 10) rfl (by decide) hx.2.1 xl
  obtain ⟨⟨j1, j2⟩, j3, j4⟩ := ix_E (c := 10) (x := y) (m := 10) rfl (by decide) hy.2.1 yl
  obtain ⟨⟨k1, k2⟩, k3, k4⟩ := ix_E (c := 26) (x := x) (m := 26) rfl (by decide) hx.2.1 xl
  obtain ⟨⟨l1, l2⟩, l3, l4⟩ := ix_E (c := 26) (x := y) (m := 26) rfl (by decide) hy.2.1 yl
  have cases8 : ∀ (P : Nat → Prop), P 0 → P 1 → P 2 → P 3 → P 4 → P 5 → P 6 → P 7 → ∀ j, j < 8 → P j := fun P p0 p1 p2 p3 p4 p5 p6 p7 j hj => by
    match j, hj with
    | 0, _ => exact p0
    | 1, _ => exact p1
    | 2, _ => exact p2
    | 3, _ => exact p3
    | 4, _ => exact p4
    | 5, _ => exact p5
    | 6, _ => exact p6
    | 7, _ => exact p7
  unfold wX11_words_j125 wX11_words_j221
  rcases (kind_3 hx.1).2 with rfl | rfl | rfl
  · rw [wn01, wn02]
    obtain ⟨d0, d1, d2, d3, d4, d5, d6, d7⟩ := WD_v (f := s.1 163) (kd := 0) (a := x.toNatClampNeg) (b := y.toNatClampNeg)
    rw [wn01] at d3 d4
    rw [wn02] at d5 d6 d7
    rw [← xo] at d0
    rw [← yo] at d1
    rw [← a3] at d2
    obtain ⟨c0, c1, c2, c3, c4, c5, c6, c7⟩ := w3
    exact t_some ⟨u, w2, cases8 _ (c0.trans d0.symm) (c1.trans d1.symm) (c2.trans d2.symm) (c3.trans d3.symm) (c4.trans d4.symm) (c5.trans d5.symm) (c6.trans d6.symm) (c7.trans d7.symm)⟩
  · rw [wn11, wld_E (by omega) (by omega), t_sbe, wld_E (by omega) (by omega), t_sbe, apart_E, t_sbe, wstL_E (by decide) (by decide), t_sbe, wld_E (by omega) (by omega), t_sbe, wld_E (by omega) (by omega), t_sbe, apart_E, t_sbe, wstL_E (by decide) (by decide), t_sbe, wn12, i2, j2, i4, j4]
    show Tot (some (wupL (wupL s10 162 3 (ap (s10.1 163 (10 + 2 * x.toNatClampNeg)) (s10.1 163 (10 + 2 * y.toNatClampNeg))).toInt64) 162 4 (ap (s10.1 163 (10 + 2 * x.toNatClampNeg + 1)) (s10.1 163 (10 + 2 * y.toNatClampNeg + 1))).toInt64)) _
    rw [u]
    refine t_some ⟨u, fun k hk => by rw [wupL_n hk, wupL_n hk, w2 k hk], ?_⟩
    obtain ⟨d0, d1, d2, d3, d4, d5, d6, d7⟩ := WD_v (f := s.1 163) (kd := 1) (a := x.toNatClampNeg) (b := y.toNatClampNeg)
    rw [wn11] at d3 d4
    rw [wn12] at d5 d6 d7
    rw [← xo] at d0
    rw [← yo] at d1
    rw [← a3] at d2
    obtain ⟨c0, c1, c2, c3, c4, c5, c6, c7⟩ := w3
    rw [wupL_k, wupL_k]
    refine cases8 _ ?_ ?_ ?_ ?_ ?_ ?_ ?_ ?_
    · rw [vpL_n (by decide), vpL_n (by decide)]; exact c0.trans d0.symm
    · rw [vpL_n (by decide), vpL_n (by decide)]; exact c1.trans d1.symm
    · rw [vpL_n (by decide), vpL_n (by decide)]; exact c2.trans d2.symm
    · rw [vpL_n (by decide), vpL_s]; exact d3.symm
    · rw [vpL_s]; exact d4.symm
    · rw [vpL_n (by decide), vpL_n (by decide)]; exact c5.trans d5.symm
    · rw [vpL_n (by decide), vpL_n (by decide)]; exact c6.trans d6.symm
    · rw [vpL_n (by decide), vpL_n (by decide)]; exact c7.trans d7.symm
  · rw [wn21, wn22, wld_E (by omega) (by omega), t_sbe, wstL_E (by decide) (by decide), t_sbe, wld_E (by omega) (by omega), t_sbe, wld_E (by omega) (by omega), t_sbe, apart_E, t_sbe, wstL_E (by decide) (by decide), t_sbe, wld_E (by omega) (by omega), t_sbe, wld_E (by omega) (by omega), t_sbe, k2, l2, k4, l4, wstL_E (by decide) (by decide), t_sbe, wstL_E (by decide) (by decide), t_sbe, ite_some, ite_wupL]
    show Tot (some (wupL (wupL (wupL s10 162 5 (s10.1 163 (26 + 2 * x.toNatClampNeg)).toInt64) 162 6 (ap (s10.1 163 (26 + 2 * x.toNatClampNeg)) (s10.1 163 (26 + 2 * y.toNatClampNeg))).toInt64) 162 7 (if s10.1 163 (26 + 2 * x.toNatClampNeg + 1) = s10.1 163 (26 + 2 * y.toNatClampNeg + 1) then 1 else 0))) _
    rw [u]
    refine t_some ⟨u, fun k hk => by rw [wupL_n hk, wupL_n hk, wupL_n hk, w2 k hk], ?_⟩
    obtain ⟨d0, d1, d2, d3, d4, d5, d6, d7⟩ := WD_v (f := s.1 163) (kd := 2) (a := x.toNatClampNeg) (b := y.toNatClampNeg)
    rw [wn21] at d3 d4
    rw [wn22] at d5 d6 d7
    rw [← xo] at d0
    rw [← yo] at d1
    rw [← a3] at d2
    obtain ⟨c0, c1, c2, c3, c4, c5, c6, c7⟩ := w3
    rw [wupL_k, wupL_k, wupL_k]
    refine cases8 _ ?_ ?_ ?_ ?_ ?_ ?_ ?_ ?_
    · rw [vpL_n (by decide), vpL_n (by decide), vpL_n (by decide)]; exact c0.trans d0.symm
    · rw [vpL_n (by decide), vpL_n (by decide), vpL_n (by decide)]; exact c1.trans d1.symm
    · rw [vpL_n (by decide), vpL_n (by decide), vpL_n (by decide)]; exact c2.trans d2.symm
    · rw [vpL_n (by decide), vpL_n (by decide), vpL_n (by decide)]; exact c3.trans d3.symm
    · rw [vpL_n (by decide), vpL_n (by decide), vpL_n (by decide)]; exact c4.trans d4.symm
    · rw [vpL_n (by decide), vpL_n (by decide), vpL_s]; exact d5.symm
    · rw [vpL_n (by decide), vpL_s]; exact d6.symm
    · rw [vpL_s]; exact d7.symm
end RWORDS
