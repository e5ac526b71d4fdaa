/-! The class reads a COURT. -/
section CCL
variable {S P N : Nat → Int32} {K k : Nat} {s : wS} {h : Int32} {r m : Nat} {R M : Nat → Int32}
theorem wA3 {s s' : wS} (a : wA (fun k b => Nat.beq k 3 && (Nat.beq b 4 || Nat.beq b 5)) s s') : wA (fun k _ => Nat.beq k 3) s s' := a.mono (fun k b hb => by
  simp only [Bool.and_eq_true] at hb
  exact hb.1)
theorem wA_hr {s : wS} {k : Nat} : wA (fun k _ => Nat.beq k 3) s (hr s k) := wA_I rfl
theorem updI_s {f : Nat → Int32} {k : Nat} {v : Int32} : upd f k v k = v := by unfold upd; rw [if_pos rfl]
theorem updI_n {f : Nat → Int32} {k j : Nat} {v : Int32} (h : j ≠ k) : upd f k v j = f j := by unfold upd; rw [if_neg h]
theorem CD.road {x y : Int32} (g : CD h r m R M s) (hr : r < 8) : CD h (r + 1) m (upd (upd R (2 * r) x) (2 * r + 1) y) M (wupI (wupI (wupI s 11 (8 * 1 + r) x) 12 (8 * 1 + r) y) 10 1 (Int32.ofNat (r + 1))) := by
  obtain ⟨⟨g1, g2, g3⟩, g4, g5, g6, g7, g8⟩ := g
  refine ⟨⟨?_, wup_same, ?_⟩, fun i hi => ?_, fun i hi => ?_, ?_, by omega, g8⟩
  · rw [wup_nb (by decide), wupI_n (by decide), wupI_n (by decide)]; exact g1
  · rw [wup_nb (by decide), wupI_n (by decide), wupI_n (by decide)]; exact g3
  · rw [wupI_n (by decide), wupI_n (by decide), wupI_k, wupI_n (by decide), wupI_k, wupI_n (by decide)]
    by_cases c : i = r
    · subst c
      rw [updI_s, updI_s, updI_n (by omega), updI_s, updI_s]
      exact ⟨rfl, rfl⟩
    · rw [updI_n (by omega), updI_n (by omega), updI_n (by omega), updI_n (by omega), updI_n (by omega), updI_n (by omega)]
      exact g4 i (by omega)
  · rw [wupI_n (by decide), wupI_n (by decide), wupI_k, wupI_n (by decide), wupI_k, wupI_n (by decide), updI_n (by omega), updI_n (by omega)]
    exact g5 i hi
  · rw [wupI_n (by decide), wupI_n (by decide), wupI_n (by decide)]; exact g6
theorem CD.man {x y : Int32} (g : CD h r m R M s) (hm : m < 8) : CD h r (m + 1) R (upd (upd M (2 * m) x) (2 * m + 1) y) (wupI (wupI (wupI s 11 (8 * 2 + m) x) 12 (8 * 2 + m) y) 10 2 (Int32.ofNat (m + 1))) := by
  obtain ⟨⟨g1, g2, g3⟩, g4, g5, g6, g7, g8⟩ := g
  refine ⟨⟨?_, ?_, wup_same⟩, fun i hi => ?_, fun i hi => ?_, ?_, by omega, g8⟩
  · rw [wup_nb (by decide), wupI_n (by decide), wupI_n (by decide)]; exact g1
  · rw [wup_nb (by decide), wupI_n (by decide), wupI_n (by decide)]; exact g2
  · rw [wupI_n (by decide), wupI_n (by decide), wupI_k, wupI_n (by decide), wupI_k, wupI_n (by decide), updI_n (by omega), updI_n (by omega)]
    exact g4 i hi
  · rw [wupI_n (by decide), wupI_n (by decide), wupI_k, wupI_n (by decide), wupI_k, wupI_n (by decide)]
    by_cases c : i = m
    · subst c
      rw [updI_s, updI_s, updI_n (by omega), updI_s, updI_s]
      exact ⟨rfl, rfl⟩
    · rw [updI_n (by omega), updI_n (by omega), updI_n (by omega), updI_n (by omega), updI_n (by omega), updI_n (by omega)]
      exact g5 i (by omega)
  · rw [wupI_n (by decide), wupI_n (by decide), wupI_n (by decide)]; exact g6
/-- what a CLAUSE comes to -/
noncomputable def RC (S P N : Nat → Int32) (K k : Nat) (q : Int32 ⊕ cC) (s' : wS) : Prop := (∃ e, q = .inl e ∧ CF S P N K e s') ∨ (∃ c' : cC, q = .inr c' ∧ k + 2 ≤ c'.1 ∧ c'.1 ≤ K ∧ CT S P N K c'.1 s' ∧ s'.1 3 5 = 0 ∧ CD c'.2.1 c'.2.2.1 c'.2.2.2.1 c'.2.2.2.2.1 c'.2.2.2.2.2 s')
/-- a second NUMBER, and what it makes -/
theorem j121_F {e y1 y2 y4 y5 : Int32} {s : wS} (hF : CF S P N K e s) : Tot (wX1_readClause_j121 9 y1 y2 y4 y5 s) (fun s' => CF S P N K e s') := by
  obtain ⟨v, ev⟩ := takeNumber_F (lo := y4) (hi := y5) hF
  unfold wX1_readClause_j121
  rw [ev]
  refine t_sb ?_
  dsimp only
  refine t_bind (wX0_add_T (k0 := 9) (B := bCt) rfl (fun _ => rfl) (fun _ => rfl) (fun _ => rfl)) (fun s30 h30 => t_some (hF.ct h30))
theorem pre_num {S P N : Nat → Int32} {k : Nat} {lo hi : Int32} : (∃ e, num S P N k lo hi = some e) ∨ num S P N k lo hi = none := by
  cases num S P N k lo hi with
  | none => exact Or.inr rfl
  | some e => exact Or.inl ⟨e, rfl⟩
theorem readClause_E (ct : CT S P N K k s) (hk : k ≤ K) (h0 : s.1 3 5 = 0) (hS : S K = 0) (pb : ∀ j, j ≤ K → 0 ≤ (P j).toInt ∧ (P j).toInt ≤ 400) (cd : CD h r m R M s) : Tot (wX1_readClause 9 s) (fun s' => RC S P N K k (ccl S P N k h r m R M) s') := by
  have hK := ct.2.1.2
  have full : Tot ((wX9_fail 4 s).bind fun s33 => some s33) (fun s' => CF S P N K (fl 4 (P k)) s') := by
    obtain ⟨q, e1, e2, -⟩ := ct.fault (c := 4) hk h0 hS (fl_0 (by decide) (by decide) (pb k hk).1 (pb k hk).2)
    rw [e1]
    exact t_some e2
  have cant : Tot ((wX9_fail 0 s).bind fun s7 => some s7) (fun s' => CF S P N K (fl 0 (P k)) s') := by
    obtain ⟨q, e1, e2, -⟩ := ct.fault (c := 0) hk h0 hS (fl_0 (by decide) (by decide) (pb k hk).1 (pb k hk).2)
    rw [e1]
    exact t_some e2
  have lt_K : ∀ x : Int32, S k = x → ¬ x = 0 → k < K := fun x e n => by
    by_cases q : k = K
    · rw [q, hS] at e; exact absurd e.symm n
    · omega
  unfold wX1_readClause
  rw [sign_E ct hk]
  refine t_sb ?_
  try dsimp only
  unfold wX1_kindOf ccl
  by_cases c15 : S k = 15
  · have hkK := lt_K 15 c15 (by decide)
    rw [if_pos c15, if_pos c15]
    refine t_sb ?_
    try dsimp only
    rw [if_neg (by decide), if_pos rfl]
    unfold wX1_readClause_j51
    have e7 := cd.2.2.2.1
    rw [e7]
    by_cases ch : h = 0
    · rw [if_pos ch, if_pos ch, if_pos rfl, skip_E ct hk, if_pos hkK]
      refine t_sb ?_
      try dsimp only
      rw [if_pos rfl]
      have ct1 : CT S P N K (k + 1) (hr s (k + 1)) := ct.hr
      have h01 : (hr s (k + 1)).1 3 5 = 0 := by rw [wup_nb (by decide)]; exact h0
      have cd1 := cd.of3 (wA_hr (k := k + 1))
      rcases takeNumber_E (lo := 1) (hi := 8) ct1 (by omega) h01 hS (pb _ (by omega)).1 (pb _ (by omega)).2 with ⟨n1, n2, n3⟩ | ⟨e, q, n1, n2, n3, n4⟩
      · obtain ⟨_, b1, b2⟩ := num_i n1
        rw [show (1 : Int32).toInt = 1 from rfl] at b1
        rw [show (8 : Int32).toInt = 8 from rfl] at b2
        rw [n3, n1]
        show Tot ((wX0_setHours 9 (N (k + 1)) (hr (hr s (k + 1)) (k + 2))).bind fun s19 => (wpfZ s19 7 0 1).bind fun s21 => some s21) _
        rw [setHours_E (by omega) b2]
        show Tot (some (wupI (wupI (hr (hr s (k + 1)) (k + 2)) 10 0 (N (k + 1))) 7 0 1)) _
        refine t_some (Or.inr ⟨_, rfl, Nat.le_refl _, n2, ?_, ?_, ?_⟩)
        · exact (ct1.hr (j := k + 2)).go (by rw [wupI_n (by decide), wupI_n (by decide)]) (by rw [wupI_n (by decide), wupI_n (by decide)]) (by rw [wupI_n (by decide), wupI_n (by decide)]) (by rw [wupI_n (by decide), wupI_n (by decide)]) (by rw [wupI_n (by decide), wupI_n (by decide)])
        · rw [wupI_n (by decide), wupI_n (by decide), wup_nb (by decide)]; exact h01
        · obtain ⟨⟨g1, g2, g3⟩, g4, g5, g6, g7, g8⟩ := cd1.of3 (wA_hr (k := k + 2))
          have hne : ¬ N (k + 1) = 0 := fun q => by rw [q, t_i0] at b1; omega
          refine ⟨⟨?_, ?_, ?_⟩, fun i hi => ?_, fun i hi => ?_, ?_, g7, by dsimp only; omega⟩
          · dsimp only
            rw [wupI_n (by decide), wup_same, if_neg hne]
          · rw [wupI_n (by decide), wup_nb (by decide)]; exact g2
          · rw [wupI_n (by decide), wup_nb (by decide)]; exact g3
          · rw [wupI_n (by decide), wupI_n (by decide), wupI_n (by decide), wupI_n (by decide)]; exact g4 i hi
          · rw [wupI_n (by decide), wupI_n (by decide), wupI_n (by decide), wupI_n (by decide)]; exact g5 i hi
          · dsimp only
            rw [wup_same, if_neg hne]
      · rw [n2, n1]
        show Tot ((wX0_setHours 9 (N (k + 1)) q).bind fun s19 => (wpfZ s19 7 0 1).bind fun s21 => some s21) _
        refine t_bind (wX0_setHours_T (B := bCt) rfl (fun _ => rfl)) (fun s19 h19 => ?_)
        refine t_some (Or.inl ⟨e, rfl, (n3.ct h19).go ?_ ?_ ?_ ?_⟩)
        all_goals rw [wupI_n (by decide)]
    · rw [if_neg ch, if_neg ch, if_neg (by decide)]
      exact t_mono full (fun s' q => Or.inl ⟨_, rfl, q⟩)
  · rw [if_neg c15, if_neg c15]
    -- a ROAD or a MAN
    have two : ∀ (kind n : Nat) (hi : Int32) (c' : Nat → cC) (hkind : kind = 1 ∨ kind = 2) (hkK : k < K) (hn : n < 8), s.1 10 kind = Int32.ofNat n → (∀ x y u, (∃ j, u = hr s j) → k + 2 ≤ (c' 0).1 → (c' 0).1 = k + 3 → N (k + 1) = x → N (k + 2) = y → CD (c' 0).2.1 (c' 0).2.2.1 (c' 0).2.2.2.1 (c' 0).2.2.2.2.1 (c' 0).2.2.2.2.2 (wupI (wupI (wupI u 11 (8 * kind + n) x) 12 (8 * kind + n) y) 10 kind (Int32.ofNat (n + 1)))) → (c' 0).1 = k + 3 → Tot ((wX9_takeNumber 0 99 (hr s (k + 1))).bind fun (t22, s23) => wX1_readClause_j121 9 (Int32.ofNat kind) t22 0 hi s23) (fun s' => RC S P N K k (match num S P N (k + 1) 0 99 with
        | some e => .inl e
        | none => (match num S P N (k + 2) 0 hi with
          | some e => .inl e
          | none => .inr (c' 0))) s') := by
      intro kind n hi c' hkind hkK hn hcell hcd hc'
      have ct1 : CT S P N K (k + 1) (hr s (k + 1)) := ct.hr
      have h01 : (hr s (k + 1)).1 3 5 = 0 := by rw [wup_nb (by decide)]; exact h0
      rcases takeNumber_E (lo := 0) (hi := 99) ct1 (by omega) h01 hS (pb _ (by omega)).1 (pb _ (by omega)).2 with ⟨n1, n2, n3⟩ | ⟨e, q, n1, n2, n3, n4⟩
      · rw [n3, n1]
        show Tot (wX1_readClause_j121 9 (Int32.ofNat kind) (N (k + 1)) 0 hi (hr (hr s (k + 1)) (k + 2))) _
        have eh : hr (hr s (k + 1)) (k + 2) = hr s (k + 2) := wup_wup
        rw [eh]
        have ct2 : CT S P N K (k + 2) (hr s (k + 2)) := ct.hr
        have h02 : (hr s (k + 2)).1 3 5 = 0 := by rw [wup_nb (by decide)]; exact h0
        unfold wX1_readClause_j121
        rcases takeNumber_E (lo := 0) (hi := hi) ct2 (by omega) h02 hS (pb _ (by omega)).1 (pb _ (by omega)).2 with ⟨m1, m2, m3⟩ | ⟨e, q, m1, m2, m3, m4⟩
        · rw [m3, m1]
          have eh : hr (hr s (k + 2)) (k + 2 + 1) = hr s (k + 3) := wup_wup
          show Tot ((wX0_add 9 (Int32.ofNat kind) (N (k + 1)) (N (k + 2)) (hr (hr s (k + 2)) (k + 2 + 1))).bind fun s30 => some s30) _
          rw [eh, add_E (by omega) hn (by rw [wupI_n (by decide)]; exact hcell)]
          refine t_some (Or.inr ⟨_, rfl, by omega, by omega, ?_, ?_, hcd _ _ _ ⟨k + 3, rfl⟩ (by omega) hc' rfl rfl⟩)
          · rw [hc']
            rcases hkind with rfl | rfl
            · exact (ct.hr (j := k + 3)).go (by rw [wupI_n (by decide), wupI_n (by decide), wupI_n (by decide)]) (by rw [wupI_n (by decide), wupI_n (by decide), wupI_n (by decide)]) (by rw [wupI_n (by decide), wupI_n (by decide), wupI_n (by decide)]) (by rw [wupI_n (by decide), wupI_n (by decide), wupI_n (by decide)]) (by rw [wupI_n (by decide), wupI_n (by decide), wupI_n (by decide)])
            · exact (ct.hr (j := k + 3)).go (by rw [wupI_n (by decide), wupI_n (by decide), wupI_n (by decide)]) (by rw [wupI_n (by decide), wupI_n (by decide), wupI_n (by decide)]) (by rw [wupI_n (by decide), wupI_n (by decide), wupI_n (by decide)]) (by rw [wupI_n (by decide), wupI_n (by decide), wupI_n (by decide)]) (by rw [wupI_n (by decide), wupI_n (by decide), wupI_n (by decide)])
          · rw [wupI_n (by decide), wupI_n (by decide), wupI_n (by decide), wup_nb (by decide)]; exact h0
        · rw [m2, m1]
          show Tot ((wX0_add 9 (Int32.ofNat kind) (N (k + 1)) (N (k + 2)) q).bind fun s30 => some s30) _
          refine t_bind (wX0_add_T (B := bCt) rfl (fun _ => rfl) (fun _ => rfl) (fun _ => rfl)) (fun s30 h30 => t_some (Or.inl ⟨e, rfl, m3.ct h30⟩))
      · rw [n2, n1]
        exact t_mono (j121_F n3) (fun s' q => Or.inl ⟨e, rfl, q⟩)
    by_cases c17 : S k = 17
    · have hkK := lt_K 17 c17 (by decide)
      rw [if_pos c17, if_pos c17]
      refine t_sb ?_
      try dsimp only
      rw [if_neg (by decide), if_neg (by decide)]
      have hm : wX0_manyOf 9 1 s = some (Int32.ofNat r) := by
        unfold wX0_manyOf
        rw [at_E (n := 3) rfl (by omega) (by decide) (by decide)]
        show some (s.1 10 1) = _
        rw [cd.1.2.1]
      rw [hm]
      have r8 := cd.2.2.2.2.1.1
      have er : (Int32.ofNat r).toInt = r := t_on (by omega)
      refine t_sb ?_
      try dsimp only
      by_cases cr : r = 8
      · rw [if_pos cr, if_neg (fun q => by have := t_lt q; rw [er, show (8 : Int32).toInt = 8 from rfl] at this; omega)]
        unfold wX1_readClause_j51
        rw [if_neg (by decide)]
        exact t_mono full (fun s' q => Or.inl ⟨_, rfl, q⟩)
      · rw [if_neg cr, if_pos (Int32.lt_iff_toInt_lt.2 (by rw [er, show (8 : Int32).toInt = 8 from rfl]; omega))]
        unfold wX1_readClause_j51
        rw [if_pos rfl, skip_E ct hk, if_pos hkK]
        refine t_sb ?_
        try dsimp only
        rw [if_neg (by decide)]
        show Tot ((wX9_takeNumber 0 99 (hr s (k + 1))).bind fun (t22, s23) => wX1_readClause_j121 9 (Int32.ofNat 1) t22 0 99 s23) _
        refine two 1 r 99 (fun _ => (k + 3, h, r + 1, m, upd (upd R (2 * r) (N (k + 1))) (2 * r + 1) (N (k + 2)), M)) (Or.inl rfl) hkK (by omega) cd.1.2.1 ?_ rfl
        rintro x y u ⟨j, rfl⟩ _ _ rfl rfl
        exact (cd.of3 (wA_hr (k := j))).road (by omega)
    · rw [if_neg c17, if_neg c17]
      by_cases c18 : S k = 18
      · have hkK := lt_K 18 c18 (by decide)
        rw [if_pos c18, if_pos c18]
        refine t_sb ?_
        try dsimp only
        rw [if_neg (by decide), if_neg (by decide)]
        have hm : wX0_manyOf 9 2 s = some (Int32.ofNat m) := by
          unfold wX0_manyOf
          rw [at_E (n := 3) rfl (by omega) (by decide) (by decide)]
          show some (s.1 10 2) = _
          rw [cd.1.2.2]
        rw [hm]
        have m8 := cd.2.2.2.2.1.2
        have em : (Int32.ofNat m).toInt = m := t_on (by omega)
        refine t_sb ?_
        try dsimp only
        by_cases cm : m = 8
        · rw [if_pos cm, if_neg (fun q => by have := t_lt q; rw [em, show (8 : Int32).toInt = 8 from rfl] at this; omega)]
          unfold wX1_readClause_j51
          rw [if_neg (by decide)]
          exact t_mono full (fun s' q => Or.inl ⟨_, rfl, q⟩)
        · rw [if_neg cm, if_pos (Int32.lt_iff_toInt_lt.2 (by rw [em, show (8 : Int32).toInt = 8 from rfl]; omega))]
          unfold wX1_readClause_j51
          rw [if_pos rfl, skip_E ct hk, if_pos hkK]
          refine t_sb ?_
          try dsimp only
          rw [if_neg (by decide)]
          show Tot ((wX9_takeNumber 0 99 (hr s (k + 1))).bind fun (t22, s23) => wX1_readClause_j121 9 (Int32.ofNat 2) t22 0 9 s23) _
          refine two 2 m 9 (fun _ => (k + 3, h, r, m + 1, R, upd (upd M (2 * m) (N (k + 1))) (2 * m + 1) (N (k + 2)))) (Or.inr rfl) hkK (by omega) cd.1.2.2 ?_ rfl
          rintro x y u ⟨j, rfl⟩ _ _ rfl rfl
          exact (cd.of3 (wA_hr (k := j))).man (by omega)
      · rw [if_neg c18, if_neg c18]
        refine t_sb ?_
        try dsimp only
        rw [if_pos rfl]
        exact t_mono cant (fun s' q => Or.inl ⟨_, rfl, q⟩)
/-- what a COURT's text comes to -/
noncomputable def RD (S P N : Nat → Int32) (K : Nat) (c : cC) (s' : wS) : Prop := (∃ e, Ev (cst S P N) c (.inl e) ∧ CF S P N K e s') ∨ (∃ c' : cC, Ev (cst S P N) c (.inr c') ∧ s'.1 3 5 = 0 ∧ CD c'.2.1 c'.2.2.1 c'.2.2.2.1 c'.2.2.2.2.1 c'.2.2.2.2.2 s')
/-- a COURT is told by ROADS and MEN -/
theorem isTold_E (cd : CD h r m R M s) : wX0_isTold 9 s = some (if r = 0 ∨ m = 0 then 0 else 1) := by
  obtain ⟨⟨g1, g2, g3⟩, -, -, -, ⟨g7, g8⟩, -⟩ := cd
  have er : (Int32.ofNat r).toInt = r := t_on (by omega)
  have em : (Int32.ofNat m).toInt = m := t_on (by omega)
  unfold wX0_isTold
  rw [wld_E (by decide) (by decide)]
  rw [t_sbe]
  try dsimp only
  rw [show s.1 (9 + 1) (Int32.toNatClampNeg 1) = Int32.ofNat r from g2]
  by_cases cr : r = 0
  · rw [if_neg (fun q => by have := t_lt q; rw [t_i0, er] at this; omega), if_pos (Or.inl cr)]
  · rw [if_pos (Int32.lt_iff_toInt_lt.2 (by rw [t_i0, er]; omega)), wld_E (by decide) (by decide)]
    rw [t_sbe]
    try dsimp only
    rw [show s.1 (9 + 1) (Int32.toNatClampNeg 2) = Int32.ofNat m from g3]
    by_cases cm : m = 0
    · rw [if_neg (fun q => by have := t_lt q; rw [t_i0, em] at this; omega), if_pos (Or.inr cm)]
    · rw [if_pos (Int32.lt_iff_toInt_lt.2 (by rw [t_i0, em]; omega)), if_neg (fun q => q.elim cr cm)]
/-- behind a fault the reading ends -/
theorem read_h14_F {e : Int32} {x4 : Int32} {s : wS} (n : Nat) (hF : CF S P N K e s) : wX1_read_h14 9 (n + 1) 0 x4 s = some s := by
  rw [wX1_read_h14]
  by_cases c : x4 < 400
  · rw [if_pos c, if_pos rfl]
  · rw [if_neg c]
theorem j44_F {e : Int32} {s : wS} (hF : CF S P N K e s) : Tot (wX1_read_j44 9 s) (fun s' => CF S P N K e s') := by
  unfold wX1_read_j44 wX1_read_j58
  rw [hF.sign]
  refine t_sb ?_
  try dsimp only
  rw [if_pos rfl]
  refine t_bind (wX0_isTold_T rfl) (fun t20 _ => t_ite (fun _ => ?_) (fun _ => t_some hF))
  rw [hF.fail]
  exact t_some hF
theorem read_h14_E (hS : S K = 0) (pb : ∀ j, j ≤ K → 0 ≤ (P j).toInt ∧ (P j).toInt ≤ 400) : ∀ (n : Nat) {i : Int32} {c : cC} {s : wS}, CT S P N K c.1 s → c.1 ≤ K → s.1 3 5 = 0 → CD c.2.1 c.2.2.1 c.2.2.2.1 c.2.2.2.2.1 c.2.2.2.2.2 s → 0 ≤ i.toInt → 2 * i.toInt ≤ c.1 → (K : Int) - c.1 + 1 < n → Tot ((wX1_read_h14 9 n 1 i s).bind fun s14 => wX1_read_j44 9 s14) (fun s' => RD S P N K c s') := by
  intro n
  induction n with
  | zero => intro i c s ct hk h0 cd i0 hi hm; exfalso; omega
  | succ n ih =>
    intro i c s ct hk h0 cd i0 hi hm
    have hK := ct.2.1.2
    rw [wX1_read_h14, if_pos (Int32.lt_iff_toInt_lt.2 (by rw [show (400 : Int32).toInt = 400 from rfl]; omega)), if_neg (by decide)]
    obtain ⟨s8, e8, h8⟩ := readClause_E ct hk h0 hS pb cd
    rw [e8]
    show Tot (((wX9_take 3 s8).bind fun (t10, s11) => wX1_read_h14 9 n t10 (i + 1) s11).bind fun s14 => wX1_read_j44 9 s14) _
    have pos : ∃ n', n = n' + 1 := ⟨n - 1, by omega⟩
    obtain ⟨n', rfl⟩ := pos
    rcases h8 with ⟨e, q1, q2⟩ | ⟨c', q1, q2, q3, q4, q5, q6⟩
    · rw [q2.take (by decide)]
      show Tot ((wX1_read_h14 9 (n' + 1) 0 (i + 1) s8).bind fun s14 => wX1_read_j44 9 s14) _
      rw [read_h14_F n' q2]
      refine t_mono (j44_F q2) (fun s' hs => Or.inl ⟨e, Ev.ret ?_, hs⟩)
      unfold cst
      rw [q1]
    · rw [take_E q4 q3]
      have ei := t_p1 (x := i) i0 (by omega)
      by_cases c3 : S c'.1 = 3
      · have hlt : c'.1 < K := by
          by_cases q : c'.1 = K
          · rw [q, hS] at c3; exact absurd c3 (by decide)
          · omega
        rw [if_pos c3, if_pos hlt]
        show Tot ((wX1_read_h14 9 (n' + 1) 1 (i + 1) (hr s8 (c'.1 + 1))).bind fun s14 => wX1_read_j44 9 s14) _
        refine t_mono (ih (i := i + 1) (c := (c'.1 + 1, c'.2)) (q4.hr) (by dsimp only; omega) (by rw [wup_nb (by decide)]; exact q5) (q6.of3 wA_hr) (by omega) (by dsimp only; omega) (by dsimp only; omega)) (fun s' hs => ?_)
        have st : cst S P N c = .inl (c'.1 + 1, c'.2) := by
          unfold cst
          rw [q1]
          dsimp only
          rw [if_pos c3]
        rcases hs with ⟨e, a, b⟩ | ⟨d, a, b⟩
        · exact Or.inl ⟨e, Ev.step st a, b⟩
        · exact Or.inr ⟨d, Ev.step st a, b⟩
      · rw [if_neg c3]
        show Tot ((wX1_read_h14 9 (n' + 1) 0 (i + 1) s8).bind fun s14 => wX1_read_j44 9 s14) _
        have stop : wX1_read_h14 9 (n' + 1) 0 (i + 1) s8 = some s8 := by
          rw [wX1_read_h14]
          by_cases c : i + 1 < 400
          · rw [if_pos c, if_pos rfl]
          · rw [if_neg c]
        rw [stop]
        show Tot (wX1_read_j44 9 s8) _
        unfold wX1_read_j44 wX1_read_j58
        rw [sign_E q4 q3]
        refine t_sb ?_
        try dsimp only
        have bad : (∀ x, cst S P N c = x → x = .inr (.inl (fl 0 (P c'.1)))) → Tot ((wX9_fail 0 s8).bind fun s24 => some s24) (fun s' => RD S P N K c s') := by
          intro hx
          obtain ⟨q, e1, e2, -⟩ := q4.fault (c := 0) q3 q5 hS (fl_0 (by decide) (by decide) (pb _ q3).1 (pb _ q3).2)
          rw [e1]
          exact t_some (Or.inl ⟨_, Ev.ret (hx _ rfl), e2⟩)
        by_cases cz : S c'.1 = 0
        · rw [if_pos cz, isTold_E q6]
          by_cases ct' : c'.2.2.1 = 0 ∨ c'.2.2.2.1 = 0
          · rw [if_pos ct']
            refine t_sb ?_
            try dsimp only
            rw [if_pos rfl]
            refine bad (fun x hx => ?_)
            rw [← hx]
            unfold cst
            rw [q1]
            dsimp only
            rw [if_neg c3, if_pos cz, if_pos ct']
          · rw [if_neg ct']
            refine t_sb ?_
            try dsimp only
            rw [if_neg (by decide)]
            refine t_some (Or.inr ⟨c', Ev.ret ?_, q5, q6⟩)
            unfold cst
            rw [q1]
            dsimp only
            rw [if_neg c3, if_pos cz, if_neg ct']
        · rw [if_neg cz]
          refine bad (fun x hx => ?_)
          rw [← hx]
          unfold cst
          rw [q1]
          dsimp only
          rw [if_neg c3, if_neg cz]
/-- from the tokens on -/
theorem read_E (ct : CT S P N K 0 s) (h0 : s.1 3 5 = 0) (hS : S K = 0) (pb : ∀ j, j ≤ K → 0 ≤ (P j).toInt ∧ (P j).toInt ≤ 400) : Tot (wX1_read 9 s) (fun s' => RD S P N K (0, 0, 0, 0, R, M) s') := by
  unfold wX1_read wX0_clear
  rw [wst_E (by decide) (by decide), t_sbe, wst_E (by decide) (by decide), t_sbe, wst_E (by decide) (by decide), t_sbe, t_sbe]
  show Tot ((wX1_read_h14 9 wFuel 1 0 (wupI (wupI (wupI (wupI s 10 0 1) 10 1 0) 10 2 0) 7 0 0)).bind fun s14 => wX1_read_j44 9 s14) _
  have hK := ct.2.1.2
  refine read_h14_E hS pb wFuel (c := (0, 0, 0, 0, R, M)) ?_ (Nat.zero_le _) ?_ ?_ (by decide) (by rw [t_i0]; dsimp only; omega) (by
    have e : ((wFuel : Nat) : Int) = 1099511627776 := rfl
    dsimp only
    omega)
  · refine ct.go ?_ ?_ ?_ ?_ ?_
    all_goals rw [wupI_n (by decide), wupI_n (by decide), wupI_n (by decide), wupI_n (by decide)]
  · rw [wupI_n (by decide), wupI_n (by decide), wupI_n (by decide), wupI_n (by decide)]; exact h0
  · refine ⟨⟨?_, ?_, ?_⟩, fun i hi => absurd hi (Nat.not_lt_zero i), fun i hi => absurd hi (Nat.not_lt_zero i), wup_same, ⟨Nat.zero_le _, Nat.zero_le _⟩, (by show 0 ≤ (0 : Int32).toInt; decide), (by show (0 : Int32).toInt ≤ 8; decide)⟩
    · rw [wupI_n (by decide), wup_nb (by decide), wup_nb (by decide), wup_same]; rfl
    · rw [wupI_n (by decide), wup_nb (by decide), wup_same]; rfl
    · rw [wupI_n (by decide), wup_same]; rfl
end CCL
