/-! The reference reads a COURT. -/
theorem RG.go {G s s' : wS} (g : RG G s) (h1 : s'.1 153 = s.1 153) (h2 : s'.1 152 1 = s.1 152 1) : RG G s' := by
  unfold RG
  rw [h1, h2]
  exact g
/-- the reference stands before a token, no fault yet -/
noncomputable def RS (G : wS) (S P N : Nat → Int32) (E : Nat → Nat) (K k : Nat) (s : wS) : Prop := RG G s ∧ (∃ n : Nat, (s.1 152 12).toInt = n ∧ SK G n (P k).toNatClampNeg) ∧ s.1 152 13 = 0 ∧ k ≤ K
theorem TOKS.sk {G : wS} {S P N : Nat → Int32} {E : Nat → Nat} {K k : Nat} (tk : TOKS G S P N E K) (hk : k ≤ K) : SK G (pv E k) (P k).toNatClampNeg := by
  by_cases h : k = K
  · rw [h]; exact tk.2.2.2.2
  · exact (tk.1 k (by omega)).2.2
theorem TOKS.ne0 {G : wS} {S P N : Nat → Int32} {E : Nat → Nat} {K k : Nat} (tk : TOKS G S P N E K) (hk : k ≤ K) (h : ¬ S k = 0) : k < K := by
  by_cases q : k = K
  · rw [q] at h; exact absurd tk.2.2.1 h
  · omega
theorem isRoadHere_E {G : wS} {S P N : Nat → Int32} {E : Nat → Nat} {K k r : Nat} {s : wS} (g : RS G S P N E K k s) (tk : TOKS G S P N E K) (h8 : s.1 152 8 = Int32.ofNat r) (hr : r < 8) : Tot (wX11_isRoadHere s) (fun q => (∃ e, (num S P N k 0 99 = some e ∨ (num S P N k 0 99 = none ∧ num S P N (k + 1) 0 99 = some e)) ∧ q.1 = 0 ∧ q.2.1 152 13 = e) ∨ (num S P N k 0 99 = none ∧ num S P N (k + 1) 0 99 = none ∧ q.1 = 1 ∧ RS G S P N E K (k + 2) q.2 ∧ q.2.1 158 = upd (upd (s.1 158) (2 * r) (N k)) (2 * r + 1) (N (k + 1)) ∧ q.2.1 152 8 = Int32.ofNat (r + 1) ∧ wA (fun k b => Nat.beq k 158 || (Nat.beq k 152 && (Nat.beq b 12 || Nat.beq b 14 || Nat.beq b 8))) s q.2)) := by
  obtain ⟨g1, ⟨n, g2, g3⟩, g4, gk⟩ := g
  have hT := g1.2.2.1
  have er : (Int32.ofNat r).toInt = r := t_on (by omega)
  have i0 : ∀ j : Nat, j < 2 → ((2 * Int32.ofNat r) + Int32.ofNat j).toInt = 2 * r + j := fun j hj => by
    rw [t_2x (by omega) (by omega) (by rw [t_on (by omega)]; omega) (by rw [t_on (by omega)]; omega), er, t_on (by omega)]
  have inner : Tot (wX11_isRoadHere_h2 wFuel 0 s) (fun z => (∃ u, z = .inr u ∧ ∃ e, (num S P N k 0 99 = some e ∨ (num S P N k 0 99 = none ∧ num S P N (k + 1) 0 99 = some e)) ∧ u.1 152 13 = e) ∨ (∃ u, z = .inl u ∧ num S P N k 0 99 = none ∧ num S P N (k + 1) 0 99 = none ∧ RS G S P N E K (k + 2) u ∧ u.1 158 = upd (upd (s.1 158) (2 * r) (N k)) (2 * r + 1) (N (k + 1)) ∧ wA (fun k b => Nat.beq k 158 || (Nat.beq k 152 && (Nat.beq b 12 || Nat.beq b 14))) s u)) := by
    have e : wFuel = 1099511627773 + 1 + 1 + 1 := rfl
    rw [e, wX11_isRoadHere_h2, if_pos (by decide)]
    refine t_bind (numberHere_E g1 tk gk g2 g3 g4 (by decide)) (fun r1 h1 => ?_)
    rcases h1 with ⟨e, n1, q0, qe⟩ | ⟨n1, nS, rfl⟩
    · obtain ⟨t2, s3⟩ := r1
      exact t_ite (fun _ => t_some (Or.inl ⟨s3, rfl, e, Or.inl n1, qe⟩)) (fun c => absurd q0 c)
    · dsimp only
      rw [if_neg (by decide)]
      have hkK : k < K := tk.ne0 gk (by rw [nS]; decide)
      have z8 : (wupI (nxt s (Int32.ofNat (E k))) 152 14 (N k)).1 152 8 = Int32.ofNat r := by rw [wup_nb (by decide), wup_nb (by decide)]; exact h8
      have j0 := i0 0 (by omega)
      rw [z8, wup_same, wst_E (by show 0 ≤ ((2 * Int32.ofNat r) + Int32.ofNat 0).toInt; omega) (by show ((2 * Int32.ofNat r) + Int32.ofNat 0).toInt < _; omega), t_sbe]
      have c0 : ((2 * Int32.ofNat r) + 0).toNatClampNeg = 2 * r := by show ((2 * Int32.ofNat r) + Int32.ofNat 0).toNatClampNeg = _; unfold Int32.toNatClampNeg; omega
      rw [c0, wX11_isRoadHere_h2, if_pos (by decide)]
      let u : wS := wupI (wupI (nxt s (Int32.ofNat (E k))) 152 14 (N k)) 158 (2 * r) (N k)
      have ug : RG G u := g1.go (by show (wupI (wupI (nxt s _) 152 14 _) 158 _ _).1 153 = _; rw [wupI_n (by decide), wupI_n (by decide), wupI_n (by decide)]) (by show (wupI (wupI (nxt s _) 152 14 _) 158 _ _).1 152 1 = _; rw [wupI_n (by decide), wup_nb (by decide), wup_nb (by decide)])
      have hle := (tk.1 k hkK).2.1.le
      have u12 : (u.1 152 12).toInt = E k := by
        show ((wupI (wupI (nxt s _) 152 14 _) 158 _ _).1 152 12).toInt = _
        rw [wupI_n (by decide), wup_nb (by decide), nx_n, t_on (by omega)]
      have u13 : u.1 152 13 = 0 := by
        show (wupI (wupI (nxt s _) 152 14 _) 158 _ _).1 152 13 = _
        rw [wupI_n (by decide), wup_nb (by decide), wup_nb (by decide)]
        exact g4
      show Tot ((wX11_numberHere 0 99 u).bind _) _
      refine t_bind (numberHere_E (k := k + 1) (n := E k) ug tk (by omega) u12 (tk.sk (k := k + 1) (by omega)) u13 (by decide)) (fun r2 h2 => ?_)
      rcases h2 with ⟨e, m1, q0, qe⟩ | ⟨m1, mS, rfl⟩
      · obtain ⟨t2, s3⟩ := r2
        exact t_ite (fun _ => t_some (Or.inl ⟨s3, rfl, e, Or.inr ⟨n1, m1⟩, qe⟩)) (fun c => absurd q0 c)
      · dsimp only
        rw [if_neg (by decide)]
        have hkK2 : k + 1 < K := tk.ne0 (by omega) (by rw [mS]; decide)
        have y8 : (wupI (nxt u (Int32.ofNat (E (k + 1)))) 152 14 (N (k + 1))).1 152 8 = Int32.ofNat r := by
          rw [wup_nb (by decide), wup_nb (by decide)]
          show (wupI (wupI (nxt s _) 152 14 _) 158 _ _).1 152 8 = _
          rw [wupI_n (by decide)]
          exact z8
        have j1 := i0 1 (by omega)
        rw [y8, wup_same, wst_E (by show 0 ≤ ((2 * Int32.ofNat r) + Int32.ofNat 1).toInt; omega) (by show ((2 * Int32.ofNat r) + Int32.ofNat 1).toInt < _; omega), t_sbe]
        have c1 : ((2 * Int32.ofNat r) + (0 + 1)).toNatClampNeg = 2 * r + 1 := by show ((2 * Int32.ofNat r) + Int32.ofNat 1).toNatClampNeg = _; unfold Int32.toNatClampNeg; omega
        rw [c1, wX11_isRoadHere_h2, if_neg (by decide)]
        have hle2 := (tk.1 (k + 1) hkK2).2.1.le
        refine t_some (Or.inr ⟨_, rfl, n1, m1, ⟨ug.go ?_ ?_, ⟨E (k + 1), ?_, tk.sk (k := k + 2) (by omega)⟩, ?_, by omega⟩, ?_, ?_⟩)
        · rw [wupI_n (by decide), wupI_n (by decide), wupI_n (by decide)]
        · rw [wupI_n (by decide), wup_nb (by decide), wup_nb (by decide)]
        · rw [wupI_n (by decide), wup_nb (by decide), nx_n, t_on (by omega)]
        · rw [wupI_n (by decide), wup_nb (by decide), wup_nb (by decide)]; exact u13
        · rw [wupI_k, wupI_n (by decide), wupI_n (by decide)]
          show upd ((wupI (wupI (nxt s _) 152 14 _) 158 _ _).1 158) _ _ = _
          rw [wupI_k, wupI_n (by decide), wupI_n (by decide)]
        · exact ((((((wA.refl.trans (wA_I rfl)).trans (wA_I rfl)).trans (wA_I rfl)).trans (wA_I rfl)).trans (wA_I rfl)).trans (wA_I rfl))
  unfold wX11_isRoadHere
  refine t_bind inner (fun z hz => ?_)
  rcases hz with ⟨u, rfl, e, h1, h2⟩ | ⟨u, rfl, n1, m1, h1, h2, h3⟩
  · exact t_some (Or.inl ⟨e, h1, rfl, h2⟩)
  · have u8 : u.1 152 8 = Int32.ofNat r := by rw [h3 152 8 rfl]; exact h8
    have e1 : u.1 152 8 + 1 = Int32.ofNat (r + 1) := Int32.toInt_inj.1 (by rw [u8, t_p1 (by omega) (by omega), er, t_on (by omega)]; rfl)
    dsimp only
    rw [e1]
    refine t_some (Or.inr ⟨n1, m1, rfl, ?_, ?_, wup_same, ?_⟩)
    · obtain ⟨a1, ⟨n', a2, a3⟩, a4, a5⟩ := h1
      exact ⟨a1.go (wupI_n (by decide)) (wup_nb (by decide)), ⟨n', by rw [wup_nb (by decide)]; exact a2, a3⟩, by rw [wup_nb (by decide)]; exact a4, a5⟩
    · rw [wupI_n (by decide)]; exact h2
    · exact (h3.mono (fun k b hb => by
        simp only [Bool.or_eq_true, Bool.and_eq_true, Nat.beq_eq] at *
        omega)).trans (wA_I rfl)
theorem isManHere_E {G : wS} {S P N : Nat → Int32} {E : Nat → Nat} {K k r : Nat} {s : wS} (g : RS G S P N E K k s) (tk : TOKS G S P N E K) (h8 : s.1 152 9 = Int32.ofNat r) (hr : r < 8) : Tot (wX11_isManHere s) (fun q => (∃ e, (num S P N k 0 99 = some e ∨ (num S P N k 0 99 = none ∧ num S P N (k + 1) 0 9 = some e)) ∧ q.1 = 0 ∧ q.2.1 152 13 = e) ∨ (num S P N k 0 99 = none ∧ num S P N (k + 1) 0 9 = none ∧ q.1 = 1 ∧ RS G S P N E K (k + 2) q.2 ∧ q.2.1 159 = upd (upd (s.1 159) (2 * r) (N k)) (2 * r + 1) (N (k + 1)) ∧ q.2.1 152 9 = Int32.ofNat (r + 1) ∧ wA (fun k b => Nat.beq k 159 || (Nat.beq k 152 && (Nat.beq b 12 || Nat.beq b 14 || Nat.beq b 9))) s q.2)) := by
  obtain ⟨g1, ⟨n, g2, g3⟩, g4, gk⟩ := g
  have hT := g1.2.2.1
  have er : (Int32.ofNat r).toInt = r := t_on (by omega)
  have i0 : ∀ j : Nat, j < 2 → ((2 * Int32.ofNat r) + Int32.ofNat j).toInt = 2 * r + j := fun j hj => by
    rw [t_2x (by omega) (by omega) (by rw [t_on (by omega)]; omega) (by rw [t_on (by omega)]; omega), er, t_on (by omega)]
  have inner : Tot (wX11_isManHere_h2 wFuel 0 s) (fun z => (∃ u, z = .inr u ∧ ∃ e, (num S P N k 0 99 = some e ∨ (num S P N k 0 99 = none ∧ num S P N (k + 1) 0 9 = some e)) ∧ u.1 152 13 = e) ∨ (∃ u, z = .inl u ∧ num S P N k 0 99 = none ∧ num S P N (k + 1) 0 9 = none ∧ RS G S P N E K (k + 2) u ∧ u.1 159 = upd (upd (s.1 159) (2 * r) (N k)) (2 * r + 1) (N (k + 1)) ∧ wA (fun k b => Nat.beq k 159 || (Nat.beq k 152 && (Nat.beq b 12 || Nat.beq b 14))) s u)) := by
    have e : wFuel = 1099511627773 + 1 + 1 + 1 := rfl
    rw [e, wX11_isManHere_h2, if_pos (by decide)]
    rw [if_pos rfl]
    unfold wX11_isManHere_j20
    refine t_bind (numberHere_E g1 tk gk g2 g3 g4 (by decide)) (fun r1 h1 => ?_)
    rcases h1 with ⟨e, n1, q0, qe⟩ | ⟨n1, nS, rfl⟩
    · obtain ⟨t2, s3⟩ := r1
      exact t_ite (fun _ => t_some (Or.inl ⟨s3, rfl, e, Or.inl n1, qe⟩)) (fun c => absurd q0 c)
    · dsimp only
      rw [if_neg (by decide)]
      have hkK : k < K := tk.ne0 gk (by rw [nS]; decide)
      have z8 : (wupI (nxt s (Int32.ofNat (E k))) 152 14 (N k)).1 152 9 = Int32.ofNat r := by rw [wup_nb (by decide), wup_nb (by decide)]; exact h8
      have j0 := i0 0 (by omega)
      rw [z8, wup_same, wst_E (by show 0 ≤ ((2 * Int32.ofNat r) + Int32.ofNat 0).toInt; omega) (by show ((2 * Int32.ofNat r) + Int32.ofNat 0).toInt < _; omega), t_sbe]
      have c0 : ((2 * Int32.ofNat r) + 0).toNatClampNeg = 2 * r := by show ((2 * Int32.ofNat r) + Int32.ofNat 0).toNatClampNeg = _; unfold Int32.toNatClampNeg; omega
      rw [c0, wX11_isManHere_h2, if_pos (by decide)]
      rw [if_neg (by decide)]
      unfold wX11_isManHere_j20
      let u : wS := wupI (wupI (nxt s (Int32.ofNat (E k))) 152 14 (N k)) 159 (2 * r) (N k)
      have ug : RG G u := g1.go (by show (wupI (wupI (nxt s _) 152 14 _) 159 _ _).1 153 = _; rw [wupI_n (by decide), wupI_n (by decide), wupI_n (by decide)]) (by show (wupI (wupI (nxt s _) 152 14 _) 159 _ _).1 152 1 = _; rw [wupI_n (by decide), wup_nb (by decide), wup_nb (by decide)])
      have hle := (tk.1 k hkK).2.1.le
      have u12 : (u.1 152 12).toInt = E k := by
        show ((wupI (wupI (nxt s _) 152 14 _) 159 _ _).1 152 12).toInt = _
        rw [wupI_n (by decide), wup_nb (by decide), nx_n, t_on (by omega)]
      have u13 : u.1 152 13 = 0 := by
        show (wupI (wupI (nxt s _) 152 14 _) 159 _ _).1 152 13 = _
        rw [wupI_n (by decide), wup_nb (by decide), wup_nb (by decide)]
        exact g4
      show Tot ((wX11_numberHere 0 9 u).bind _) _
      refine t_bind (numberHere_E (k := k + 1) (n := E k) ug tk (by omega) u12 (tk.sk (k := k + 1) (by omega)) u13 (by decide)) (fun r2 h2 => ?_)
      rcases h2 with ⟨e, m1, q0, qe⟩ | ⟨m1, mS, rfl⟩
      · obtain ⟨t2, s3⟩ := r2
        exact t_ite (fun _ => t_some (Or.inl ⟨s3, rfl, e, Or.inr ⟨n1, m1⟩, qe⟩)) (fun c => absurd q0 c)
      · dsimp only
        rw [if_neg (by decide)]
        have hkK2 : k + 1 < K := tk.ne0 (by omega) (by rw [mS]; decide)
        have y8 : (wupI (nxt u (Int32.ofNat (E (k + 1)))) 152 14 (N (k + 1))).1 152 9 = Int32.ofNat r := by
          rw [wup_nb (by decide), wup_nb (by decide)]
          show (wupI (wupI (nxt s _) 152 14 _) 159 _ _).1 152 9 = _
          rw [wupI_n (by decide)]
          exact z8
        have j1 := i0 1 (by omega)
        rw [y8, wup_same, wst_E (by show 0 ≤ ((2 * Int32.ofNat r) + Int32.ofNat 1).toInt; omega) (by show ((2 * Int32.ofNat r) + Int32.ofNat 1).toInt < _; omega), t_sbe]
        have c1 : ((2 * Int32.ofNat r) + (0 + 1)).toNatClampNeg = 2 * r + 1 := by show ((2 * Int32.ofNat r) + Int32.ofNat 1).toNatClampNeg = _; unfold Int32.toNatClampNeg; omega
        rw [c1, wX11_isManHere_h2, if_neg (by decide)]
        have hle2 := (tk.1 (k + 1) hkK2).2.1.le
        refine t_some (Or.inr ⟨_, rfl, n1, m1, ⟨ug.go ?_ ?_, ⟨E (k + 1), ?_, tk.sk (k := k + 2) (by omega)⟩, ?_, by omega⟩, ?_, ?_⟩)
        · rw [wupI_n (by decide), wupI_n (by decide), wupI_n (by decide)]
        · rw [wupI_n (by decide), wup_nb (by decide), wup_nb (by decide)]
        · rw [wupI_n (by decide), wup_nb (by decide), nx_n, t_on (by omega)]
        · rw [wupI_n (by decide), wup_nb (by decide), wup_nb (by decide)]; exact u13
        · rw [wupI_k, wupI_n (by decide), wupI_n (by decide)]
          show upd ((wupI (wupI (nxt s _) 152 14 _) 159 _ _).1 159) _ _ = _
          rw [wupI_k, wupI_n (by decide), wupI_n (by decide)]
        · exact ((((((wA.refl.trans (wA_I rfl)).trans (wA_I rfl)).trans (wA_I rfl)).trans (wA_I rfl)).trans (wA_I rfl)).trans (wA_I rfl))
  unfold wX11_isManHere
  refine t_bind inner (fun z hz => ?_)
  rcases hz with ⟨u, rfl, e, h1, h2⟩ | ⟨u, rfl, n1, m1, h1, h2, h3⟩
  · exact t_some (Or.inl ⟨e, h1, rfl, h2⟩)
  · have u8 : u.1 152 9 = Int32.ofNat r := by rw [h3 152 9 rfl]; exact h8
    have e1 : u.1 152 9 + 1 = Int32.ofNat (r + 1) := Int32.toInt_inj.1 (by rw [u8, t_p1 (by omega) (by omega), er, t_on (by omega)]; rfl)
    dsimp only
    rw [e1]
    refine t_some (Or.inr ⟨n1, m1, rfl, ?_, ?_, wup_same, ?_⟩)
    · obtain ⟨a1, ⟨n', a2, a3⟩, a4, a5⟩ := h1
      exact ⟨a1.go (wupI_n (by decide)) (wup_nb (by decide)), ⟨n', by rw [wup_nb (by decide)]; exact a2, a3⟩, by rw [wup_nb (by decide)]; exact a4, a5⟩
    · rw [wupI_n (by decide)]; exact h2
    · exact (h3.mono (fun k b hb => by
        simp only [Bool.or_eq_true, Bool.and_eq_true, Nat.beq_eq] at *
        omega)).trans (wA_I rfl)
