/-! The class's COURT, whole. -/
theorem wcp_E {k n k1 n1 : Nat} {m : Int32} {s : wS} {l : Nat} (hm : m = Int32.ofNat l) (hl : l ≤ n) (hl1 : l ≤ n1) (hb : l < 1000) : wcpI s k n k1 n1 0 0 m = some (fun j => if j = k1 then va_cpy (s.1 k) (s.1 k1) 0 0 l else s.1 j, s.2) := by
  have e : m.toInt = l := by rw [hm, t_on (by omega)]
  have en : m.toNatClampNeg = l := by unfold Int32.toNatClampNeg; omega
  have z : Int32.toNatClampNeg 0 = 0 := rfl
  unfold wcpI
  rw [en, z, if_pos ⟨by decide, by decide, fun c => by have := t_lt c; rw [t_i0] at this; omega, by omega, by omega⟩]
theorem cpy_at {f g : Nat → Int32} {l j : Nat} (h : j < l) : va_cpy f g 0 0 l j = f j := by
  unfold va_cpy
  rw [if_pos (by omega), Nat.sub_zero, Nat.zero_add]
/-- a hearing is opened -/
theorem open_E {s : wS} : Tot (wX2_open 14 9 s) (fun u => wA (fun k b => (Nat.beq k 14 && Nat.blt b 11) || (Nat.ble 15 k && Nat.ble k 18)) s u ∧ (∀ j, j < 3 → u.1 16 j = s.1 10 j) ∧ (∀ j, j < 24 → u.1 17 j = s.1 11 j ∧ u.1 18 j = s.1 12 j) ∧ u.1 14 6 = 0 ∧ u.1 14 7 = -1 ∧ u.1 14 10 = 0 ∧ u.1 14 11 = s.1 14 11) := by
  unfold wX2_open wX0_becomes
  rw [wcp_E (l := 3) (m := 3) rfl (by decide) (by decide) (by decide), t_sbe, wcp_E (l := 24) (m := 24) rfl (by decide) (by decide) (by decide), t_sbe, wcp_E (l := 24) (m := 24) rfl (by decide) (by decide) (by decide), t_sbe, t_sbe]
  refine t_some ⟨?_, fun j hj => ?_, fun j hj => ⟨?_, ?_⟩, ?_, ?_, ?_, ?_⟩
  · refine (((wA.trans ?_ (wA_I rfl)).trans (wA_I rfl)).trans (wA_I rfl))
    intro k b hb
    dsimp only at hb ⊢
    by_cases c18 : k = 18
    · subst c18; exact absurd hb (by
        rw [show (Nat.beq 18 14 && Nat.blt b 11) = false from rfl]; decide)
    · by_cases c17 : k = 17
      · subst c17; exact absurd hb (by
          rw [show (Nat.beq 17 14 && Nat.blt b 11) = false from rfl]; decide)
      · by_cases c16 : k = 16
        · subst c16; exact absurd hb (by
            rw [show (Nat.beq 16 14 && Nat.blt b 11) = false from rfl]; decide)
        · rw [if_neg c18, if_neg c17, if_neg c16]
  · rw [wupI_n (by decide), wupI_n (by decide), wupI_n (by decide)]
    show va_cpy (s.1 10) (s.1 16) 0 0 3 j = _
    exact cpy_at hj
  · rw [wupI_n (by decide), wupI_n (by decide), wupI_n (by decide)]
    show va_cpy (s.1 11) (s.1 17) 0 0 24 j = _
    exact cpy_at hj
  · rw [wupI_n (by decide), wupI_n (by decide), wupI_n (by decide)]
    show va_cpy (s.1 12) (s.1 18) 0 0 24 j = _
    exact cpy_at hj
  · rw [wup_nb (by decide), wup_nb (by decide), wup_same]
  · rw [wup_nb (by decide), wup_same]
  · rw [wup_same]
  · rw [wup_nb (by decide), wup_nb (by decide), wup_nb (by decide)]
    rfl
/-- the hearing's COURT is that one -/
noncomputable def CO (h : Int32) (r m : Nat) (R M : Nat → Int32) (s : wS) : Prop := (s.1 16 0 = (if h = 0 then 1 else h) ∧ s.1 16 1 = Int32.ofNat r ∧ s.1 16 2 = Int32.ofNat m) ∧ (∀ i, i < r → s.1 17 (8 + i) = R (2 * i) ∧ s.1 18 (8 + i) = R (2 * i + 1)) ∧ (∀ i, i < m → s.1 17 (16 + i) = M (2 * i) ∧ s.1 18 (16 + i) = M (2 * i + 1)) ∧ (s.1 14 6 = 0 ∧ s.1 14 7 = -1 ∧ s.1 14 10 = 0) ∧ (r ≤ 8 ∧ m ≤ 8) ∧ (0 ≤ h.toInt ∧ h.toInt ≤ 8)
theorem worlds_E {h : Int32} {r m : Nat} {R M : Nat → Int32} {s : wS} (c : CO h r m R M s) : wX0_worlds 15 s = some (WNo h r m) := by
  unfold wX0_worlds
  rw [wld_E (by decide) (by decide), t_sbe, wld_E (by decide) (by decide), t_sbe, wld_E (by decide) (by decide), t_sbe]
  show some ((s.1 16 0 * s.1 16 1) * s.1 16 2) = _
  rw [c.1.1, c.1.2.1, c.1.2.2]
  rfl
/-- what of it all the class's COURT comes to -/
theorem wX10_court_E {s : wS} {R M : Nat → Int32} (hT0 : 0 ≤ (s.1 1 1).toInt) (hT : (s.1 1 1).toInt ≤ 400) : Tot (wX10_court s) (fun q => wA bK s q.2 ∧ q.2.1 1 1 = 0 ∧ q.2.1 2 = s.1 2 ∧ q.2.1 14 11 = s.1 14 11 ∧ ∃ S P N E K, TOKS s S P N E K ∧ ((∃ e, Ev (cst S P N) (0, 0, 0, 0, R, M) (.inl e) ∧ q.1 = (Int8.ofInt (-2)).toInt32 - e ∧ wA bR s (wupI q.2 1 1 (s.1 1 1))) ∨ (∃ c' : cC, Ev (cst S P N) (0, 0, 0, 0, R, M) (.inr c') ∧ CO c'.2.1 c'.2.2.1 c'.2.2.2.1 c'.2.2.2.2.1 c'.2.2.2.2.2 q.2 ∧ q.1 = WNo c'.2.1 c'.2.2.1 c'.2.2.2.1))) := by
  unfold wX10_court
  refine t_bind (t_and (wX9_cut_E hT0 hT) wX9_cut_T) (fun s2 h2 => ?_)
  obtain ⟨⟨a2, q34, q35, K, E, q33, tk⟩, b2⟩ := h2
  refine t_bind (t_pfI (B := fun k b => Nat.beq k 1 && Nat.beq b 1) rfl) (fun s4 h4 => ?_)
  have pb : ∀ j, j ≤ K → 0 ≤ (s2.1 5 j).toInt ∧ (s2.1 5 j).toInt ≤ 400 := fun j hj => by have := tk.p0 hT0 hj; omega
  have hK : K ≤ 400 := by have := tk.2.1; omega
  have ct : CT (s2.1 4) (s2.1 5) (s2.1 6) K 0 s4 := by
    refine ⟨⟨?_, ?_, ?_⟩, ⟨?_, hK⟩, ?_⟩
    · rw [h4.2, wupI_n (by decide)]
    · rw [h4.2, wupI_n (by decide)]
    · rw [h4.2, wupI_n (by decide)]
    · rw [h4.2, wupI_n (by decide), q33]
    · rw [h4.2, wupI_n (by decide), q34]; rfl
  refine t_bind (t_and (read_E (R := R) (M := M) ct (by rw [h4.2, wupI_n (by decide)]; exact q35) tk.2.2.1 pb) wX1_read_T) (fun s6 h6 => ?_)
  obtain ⟨h6, b6⟩ := h6
  have t1 : s6.1 1 1 = 0 := by rw [b6 1 1 rfl, h4.2, wup_same]
  have t2 : s6.1 2 = s.1 2 := by
    funext b
    rw [b6 2 b rfl, h4.2, wupI_n (by decide), b2 2 b rfl]
  have t11 : s6.1 14 11 = s.1 14 11 := by rw [b6 14 11 rfl, h4.2, wupI_n (by decide), b2 14 11 rfl]
  have A6 : wA bK s s6 := ((b2.mono bR_le_bK).trans (fun k b hb => h4.1 k b (by
    cases e : (Nat.beq k 1 && Nat.beq b 1)
    · exact e
    · exfalso
      simp only [Bool.and_eq_true, Nat.beq_eq] at e
      obtain ⟨rfl, rfl⟩ := e
      exact absurd hb (by decide)))).trans (b6.mono bR_le_bK)
  rcases h6 with ⟨e, h1, h3⟩ | ⟨c', h1, h3, cd⟩
  · rw [h3.2.1, if_neg h3.2.2.1]
    refine t_some ⟨A6, t1, t2, t11, s2.1 4, s2.1 5, s2.1 6, E, K, tk, Or.inl ⟨e, h1, rfl, fun k b hb => ?_⟩⟩
    by_cases c : k = 1
    · subst c
      by_cases d : b = 1
      · subst d; rw [wup_same]
      · rw [wup_nb d]
        show s6.1 1 b = _
        rw [b6 1 b rfl, h4.2, wup_nb d, b2 1 b rfl]
    · rw [wupI_n c]
      show s6.1 k b = _
      rw [b6 k b hb, h4.2, wupI_n c, b2 k b hb]
  · rw [h3, if_pos rfl]
    refine t_bind (t_and open_E wX2_open_T) (fun s10 h10 => t_bind wX10_courtIsAnother_T (fun s13 h13 => ?_))
    obtain ⟨⟨a10, o1, o2, o3, o4, o5, o6⟩, b10⟩ := h10
    have z : ∀ k, 14 ≤ k → k ≤ 18 → ∀ b, s13.1 k b = s10.1 k b := fun k h1 h2 b => h13 k b (by
      unfold bR bRa
      have e1 : Nat.ble k 12 = false := nb_false (by omega)
      have e2 : Nat.ble 28 k = false := nb_false (by omega)
      have e3 : Nat.ble 165 k = false := nb_false (by omega)
      have e4 : Nat.beq k 152 = false := nq_false (by omega)
      rw [e1, e2, e3, e4, Bool.and_false]
      rfl)
    obtain ⟨⟨g1, g2, g3⟩, g4, g5, g6, g7, g8⟩ := cd
    have co : CO c'.2.1 c'.2.2.1 c'.2.2.2.1 c'.2.2.2.2.1 c'.2.2.2.2.2 s13 := by
      refine ⟨⟨?_, ?_, ?_⟩, fun i hi => ?_, fun i hi => ?_, ⟨?_, ?_, ?_⟩, g7, g8⟩
      · rw [z 16 (by decide) (by decide), o1 0 (by decide)]; exact g1
      · rw [z 16 (by decide) (by decide), o1 1 (by decide)]; exact g2
      · rw [z 16 (by decide) (by decide), o1 2 (by decide)]; exact g3
      · rw [z 17 (by decide) (by decide), z 18 (by decide) (by decide), (o2 _ (by omega)).1, (o2 _ (by omega)).2]; exact g4 i hi
      · rw [z 17 (by decide) (by decide), z 18 (by decide) (by decide), (o2 _ (by omega)).1, (o2 _ (by omega)).2]; exact g5 i hi
      · rw [z 14 (by decide) (by decide)]; exact o3
      · rw [z 14 (by decide) (by decide)]; exact o4
      · rw [z 14 (by decide) (by decide)]; exact o5
    rw [worlds_E co, t_sbe]
    refine t_some ⟨(A6.trans b10).trans (h13.mono bR_le_bK), ?_, ?_, ?_, s2.1 4, s2.1 5, s2.1 6, E, K, tk, Or.inr ⟨c', h1, co, rfl⟩⟩
    · show s13.1 1 1 = 0
      rw [h13 1 1 rfl, a10 1 1 rfl, t1]
    · show s13.1 2 = s.1 2
      rw [← t2]
      funext b
      rw [h13 2 b rfl, a10 2 b rfl]
    · show s13.1 14 11 = _
      rw [z 14 (by decide) (by decide), o6, t11]
