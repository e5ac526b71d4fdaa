/-! The class's LAW, whole; both sides read the same. -/
/-- a LAW as the class holds it -/
noncomputable def CLc (k2 : Nat) (x : lC) (s : wS) : Prop := (s.1 k2 1 = Int32.ofNat x.2.2.1.length ∧ x.2.2.1.length ≤ 400 ∧ ∀ i v, x.2.2.1[i]? = some v → s.1 (k2 + 1) i = v ∧ okc v) ∧ LQ k2 x.2.2.2 s ∧ LB x.2.2.1.length x.2.2.2
theorem CLc.go {k2 : Nat} {x : lC} {s s' : wS} (h : CLc k2 x s) (h1 : s'.1 k2 1 = s.1 k2 1) (h6 : s'.1 k2 6 = s.1 k2 6) (ho : ∀ j, 1 ≤ j → j ≤ 5 → s'.1 (k2 + j) = s.1 (k2 + j)) : CLc k2 x s' := by
  obtain ⟨⟨g1, g2, g3⟩, g4, g5⟩ := h
  exact ⟨⟨by rw [h1]; exact g1, g2, by rw [ho 1 (by decide) (by decide)]; exact g3⟩, g4.go h6 (ho 2 (by decide) (by decide)) (ho 3 (by decide) (by decide)) (ho 4 (by decide) (by decide)) (ho 5 (by decide) (by decide)), g5⟩
/-- what the reading of a LAW writes -/
noncomputable def bLw (k2 k b : Nat) : Bool := (Nat.ble 3 k && Nat.ble k 6) || (Nat.beq k 8 || ((Nat.beq k 1 && Nat.beq b 1) || ((Nat.beq k 0 && Nat.beq b 6) || (Nat.ble k2 k && Nat.ble k (k2 + 5)))))
theorem bLw_n {k2 k b : Nat} (h3 : ¬ (3 ≤ k ∧ k ≤ 6)) (h8 : k ≠ 8) (h1 : ¬ (k = 1 ∧ b = 1)) (h0 : ¬ (k = 0 ∧ b = 6)) (h : ¬ (k2 ≤ k ∧ k ≤ k2 + 5)) : bLw k2 k b = false := by
  cases e : bLw k2 k b
  · rfl
  · exfalso
    simp only [bLw, Bool.or_eq_true, Bool.and_eq_true, Nat.beq_eq, Nat.ble_eq] at e
    omega
theorem bLw_p {k2 k b : Nat} (h : (3 ≤ k ∧ k ≤ 6) ∨ k = 8 ∨ (k = 1 ∧ b = 1) ∨ (k = 0 ∧ b = 6) ∨ (k2 ≤ k ∧ k ≤ k2 + 5)) : bLw k2 k b = true := by
  simp only [bLw, Bool.or_eq_true, Bool.and_eq_true, Nat.beq_eq, Nat.ble_eq]
  omega
theorem wX10_law_E {l : Nat} {s : wS} (hl : l < 6) (h6 : s.1 0 6 = Int32.ofNat l) (hT0 : 0 ≤ (s.1 1 1).toInt) (hT : (s.1 1 1).toInt ≤ 400) : Tot (wX10_law s) (fun q => wA (bLw (44 + 10 * l)) s q.2 ∧ q.2.1 1 1 = 0 ∧ ∃ S P N E K, TOKS s S P N E K ∧ (∀ e, Ev (lst S P N) (0, 0, [], []) (.inl e) → ¬ e = 0) ∧ ((∃ e, Ev (lst S P N) (0, 0, [], []) (.inl e) ∧ q.1 = (Int8.ofInt (-2)).toInt32 - e ∧ q.2.1 0 6 = s.1 0 6) ∨ (∃ c' : lC, Ev (lst S P N) (0, 0, [], []) (.inr c') ∧ q.1 = Int32.ofNat l ∧ q.2.1 0 6 = Int32.ofNat (l + 1) ∧ CLc (44 + 10 * l) c' q.2 ∧ q.2.1 (44 + 10 * l) 12 = 0))) := by
  have el : (Int32.ofNat l).toInt = l := t_on (by omega)
  have h44 : 44 ≤ 44 + 10 * l := by omega
  unfold wX10_law
  rw [h6, if_pos (Int32.lt_iff_toInt_lt.2 (by rw [el, show (6 : Int32).toInt = 6 from rfl]; omega))]
  refine t_bind (t_ldR3 (by omega) (by omega)) (fun k2 hk => ?_)
  obtain ⟨hk3, rfl⟩ := hk
  rw [t_nc (by omega)] at hk3 ⊢
  refine t_bind (wX9_cut_E hT0 hT) (fun s4 h4 => ?_)
  obtain ⟨a4, q34, q35, K, E, q33, tk⟩ := h4
  refine t_bind (t_pfI (B := fun k b => Nat.beq k 1 && Nat.beq b 1) rfl) (fun s6 h6' => ?_)
  have pb : ∀ j, j ≤ K → 0 ≤ (s4.1 5 j).toInt ∧ (s4.1 5 j).toInt ≤ 400 := fun j hj => by have := tk.p0 hT0 hj; omega
  have hK : K ≤ 400 := by have := tk.2.1; omega
  have ct : CT (s4.1 4) (s4.1 5) (s4.1 6) K 0 s6 := by
    refine ⟨⟨?_, ?_, ?_⟩, ⟨?_, hK⟩, ?_⟩
    · rw [h6'.2, wupI_n (by decide)]
    · rw [h6'.2, wupI_n (by decide)]
    · rw [h6'.2, wupI_n (by decide)]
    · rw [h6'.2, wupI_n (by decide), q33]
    · rw [h6'.2, wupI_n (by decide), q34]; rfl
  refine t_bind (t_and (read4_W (k2 := 44 + 10 * l) h44 ct (by rw [h6'.2, wupI_n (by decide)]; exact q35) tk.2.2.1 pb) (wX4_read_Z hk3)) (fun s8 h8 => ?_)
  obtain ⟨h8, b8⟩ := h8
  have le4 : wA (bLw (44 + 10 * l)) s s4 := a4.mono (fun k b hb => by
    simp only [bTk, Bool.or_eq_true, Bool.and_eq_true, Nat.beq_eq, Nat.ble_eq] at hb
    exact bLw_p (by omega))
  have le6 : wA (bLw (44 + 10 * l)) s4 s6 := h6'.1.mono (fun k b hb => by
    simp only [Bool.and_eq_true, Nat.beq_eq] at hb
    exact bLw_p (by omega))
  have le8 : wA (bLw (44 + 10 * l)) s6 s8 := b8.mono (fun k b hb => by
    simp only [bZ, Bool.or_eq_true, Bool.and_eq_true, Nat.beq_eq, Nat.ble_eq] at hb
    exact bLw_p (by omega))
  have A := (le4.trans le6).trans le8
  have z06 : s8.1 0 6 = s.1 0 6 := by rw [b8 0 6 (bZ_n (by decide) (by decide) (by omega)), h6'.2, wupI_n (by decide), a4 0 6 rfl]
  have z11 : s8.1 1 1 = 0 := by rw [b8 1 1 (bZ_n (by decide) (by decide) (by omega)), h6'.2, wup_same]
  rcases h8 with ⟨e, h1, h3⟩ | ⟨c', h1, ⟨h3, h5, h7, h9⟩, hlen⟩
  · rw [h3.2.1, if_neg h3.2.2.1]
    exact t_some ⟨A, z11, s4.1 4, s4.1 5, s4.1 6, E, K, tk, fun e' he' => by rw [← Sum.inl.inj (h1.det he')]; exact h3.2.2.1, Or.inl ⟨e, h1, rfl, z06.trans h6⟩⟩
  · rw [h3.2.1, if_pos rfl, z06, h6]
    have e1 : Int32.ofNat l + 1 = Int32.ofNat (l + 1) := Int32.toInt_inj.1 (by rw [t_p1 (by omega) (by omega), el, t_on (by omega)]; rfl)
    rw [e1]
    show Tot (some ((wupI s8 0 6 (Int32.ofNat (l + 1))).1 0 6 - 1, wupI s8 0 6 (Int32.ofNat (l + 1)))) _
    rw [wup_same]
    refine t_some ⟨A.trans (wA_I (bLw_p (by omega))), ?_, s4.1 4, s4.1 5, s4.1 6, E, K, tk, (fun e' he' => by cases h1.det he'), Or.inr ⟨c', h1, ?_, wup_same, ⟨⟨?_, hlen, ?_⟩, h5.go ?_ ?_ ?_ ?_ ?_, h9⟩, ?_⟩⟩
    · show (wupI s8 0 6 (Int32.ofNat (l + 1))).1 1 1 = 0
      rw [wupI_n (by decide)]; exact z11
    · exact Int32.toInt_inj.1 (by
        rw [t_sub (by rw [t_on (by omega), show (1 : Int32).toInt = 1 from rfl]; omega) (by rw [t_on (by omega), show (1 : Int32).toInt = 1 from rfl]; omega), t_on (by omega), el, show (1 : Int32).toInt = 1 from rfl]
        omega)
    · show (wupI s8 0 6 (Int32.ofNat (l + 1))).1 (44 + 10 * l) 1 = _
      rw [wupI_n (by omega)]; exact h3.2.2.2.1
    · show ∀ i v, _ → (wupI s8 0 6 (Int32.ofNat (l + 1))).1 (44 + 10 * l + 1) i = v ∧ okc v
      rw [wupI_n (by omega)]; exact h3.2.2.2.2
    all_goals
      first
        | (show (wupI s8 0 6 (Int32.ofNat (l + 1))).1 _ _ = s8.1 _ _; rw [wupI_n (by omega)]; done)
        | (show (wupI s8 0 6 (Int32.ofNat (l + 1))).1 _ = s8.1 _; rw [wupI_n (by omega)]; done)
        | (show (wupI s8 0 6 (Int32.ofNat (l + 1))).1 (44 + 10 * l) 12 = 0; rw [wupI_n (by omega)]; exact h7)
