/-! The reference reads a LAW's whole text. -/
section RLX
variable {G : wS} {S P N : Nat → Int32} {E : Nat → Nat} {K t k c : Nat} {o : List Int32} {q : List qT} {s : wS}
/-- the LAW as it stands behind its reading -/
noncomputable def RLf (t : Nat) (x : lC) (s : wS) : Prop := (s.1 155 t = Int32.ofNat x.2.2.1.length ∧ ∀ i v, x.2.2.1[i]? = some v → s.1 154 (400 * t + i) = rc v) ∧ RQl t x.2.2.2 s
theorem RLf.go {x : lC} {s' : wS} (h : RLf t x s) (h5 : s'.1 155 t = s.1 155 t) (h4 : s'.1 154 = s.1 154) (h7 : s'.1 157 t = s.1 157 t) (h6 : s'.1 156 = s.1 156) : RLf t x s' := by
  obtain ⟨⟨g1, g2⟩, g3⟩ := h
  exact ⟨⟨by rw [h5]; exact g1, by rw [h4]; exact g2⟩, g3.go h7 h6⟩
noncomputable def RVl (S P N : Nat → Int32) (t : Nat) (x : lC) (p : Int32 × wS) : Prop := (∃ e, Ev (lst S P N) x (.inl e) ∧ p.1 = 0 ∧ p.2.1 152 13 = e) ∨ (∃ c' : lC, Ev (lst S P N) x (.inr c') ∧ p.1 = 1 ∧ RLf t c' p.2)
theorem lawAll_L (ht : t < 6) (tk : TOKS G S P N E K) : ∀ (n : Nat) {x : lC} {s : wS}, RLA G S P N E K t x s → x.2.2.1.length ≤ x.1 → (∀ e, Ev (lst S P N) x (.inl e) → ¬ e = 0) → K - x.1 + 1 < n → Tot ((wX11_clauseHere s).bind fun (t6, s7) => (wX11_readsAll_h35 n t6 s7).bind fun (t19, s20) => wX11_readsAll_j66 t19 s20) (fun p => RVl S P N t x p) := by
  intro n
  induction n with
  | zero => intro x s _ _ _ hm; exact absurd hm (by omega)
  | succ n ih =>
    intro x s g hl hE hm
    have hkx := g.1.1.2.2.2
    refine t_bind (lawClause_E ht tk g hl) (fun p hp => ?_)
    obtain ⟨t6, s7⟩ := p
    dsimp only
    rw [wX11_readsAll_h35]
    rcases hp with ⟨e, n1, q0, qe⟩ | ⟨c', n1, q0, h1, h2, h3⟩
    · dsimp only at q0 qe
      have ev : Ev (lst S P N) x (.inl e) := Ev.ret (by unfold lst; rw [n1])
      rw [if_pos q0, t_sbe]
      dsimp only
      unfold wX11_readsAll_j66 wX11_readsAll_j88
      rw [if_pos q0, if_pos q0]
      exact t_mono (j125_F qe (hE e ev)) (fun q hq => Or.inl ⟨e, ev, hq⟩)
    · dsimp only at q0 h1
      have ne : ¬ t6 = 0 := by rw [q0]; decide
      obtain ⟨g0, gq, g18⟩ := id h1
      rw [if_neg ne, see_R g0.1 tk, t_sbe]
      dsimp only
      have hk := g0.1.2.2.2
      have s3 := seen_S (c := 59) (g := 3) tk hk bsg_3 (by decide) (by decide) (by decide)
      have s0 := seen_n tk hk
      have ga : RLw G S P N E K t c'.1 c'.2.1 c'.2.2.1 (nxt s7 (P c'.1)) := ⟨g0.1.at tk, g0.2.nx⟩
      have eqw : nxt (nxt s7 (P c'.1)) (P c'.1) = nxt s7 (P c'.1) := wup_wup
      by_cases c3 : S c'.1 = 3
      · rw [if_pos (s3.2 c3)]
        obtain ⟨o1, o2⟩ := one_R g0.1 tk (by rw [c3]; decide) (by rw [c3]; decide) (by rw [c3]; decide) (by rw [c3]; decide)
        rw [nx_n, o2]
        have ex : wpfI (nxt s7 (P c'.1)) 152 12 (Int32.ofNat (E c'.1)) = some (nxt s7 (Int32.ofNat (E c'.1))) := congrArg some wup_wup
        rw [ex, t_sbe]
        have st : lst S P N x = .inl (c'.1 + 1, c'.2) := by
          unfold lst
          rw [n1]
          dsimp only
          rw [if_pos c3]
        have := ih (x := (c'.1 + 1, c'.2)) ⟨⟨g0.1.behind tk o1 rfl, g0.2.nx⟩, gq.go (by rw [wupI_n (by decide)]) (by rw [wupI_n (by decide)]), by rw [wup_nb (by decide)]; exact g18⟩ (by dsimp only; omega) (fun e he => hE e (Ev.step st he)) (by dsimp only; omega)
        refine t_assoc (t_mono this (fun q hq => ?_))
        rcases hq with ⟨e, a, b⟩ | ⟨d, a, b⟩
        · exact Or.inl ⟨e, Ev.step st a, b⟩
        · exact Or.inr ⟨d, Ev.step st a, b⟩
      · rw [if_neg (fun q => c3 (s3.1 q)), t_sbe]
        dsimp only
        unfold wX11_readsAll_j66
        rw [if_neg ne, see_R ga.1 tk, t_sbe, eqw]
        dsimp only
        have t6' : ¬ (nxt s7 (P c'.1)).1 152 15 = 6 := fun e => by
          have := congrArg Int32.toInt (ga.2.1.symm.trans e)
          rw [t_on (by omega), show (6 : Int32).toInt = 6 from rfl] at this
          omega
        by_cases c0 : S c'.1 = 0
        · rw [if_pos (s0.2 c0)]
          unfold wX11_readsAll_j88
          rw [if_neg ne, if_neg t6']
          unfold wX11_readsAll_j125
          show Tot (if (wupI (nxt s7 (P c'.1)) 152 1 0).1 152 13 = 0 then some ((1 : Int32), wupI (nxt s7 (P c'.1)) 152 1 0) else some (0, wupI (nxt s7 (P c'.1)) 152 1 0)) _
          rw [wup_nb (by decide), if_pos ga.1.2.2.1]
          refine t_some (Or.inr ⟨c', Ev.ret ?_, rfl, ⟨⟨?_, fun i v hv => ?_⟩, gq.go ?_ ?_⟩⟩)
          · unfold lst
            rw [n1]
            dsimp only
            rw [if_neg c3, if_pos c0]
          · show (wupI (nxt s7 (P c'.1)) 152 1 0).1 155 t = _
            rw [wupI_n (by decide), wupI_n (by decide)]
            exact g0.2.2.2.1
          · show (wupI (nxt s7 (P c'.1)) 152 1 0).1 154 _ = _
            rw [wupI_n (by decide), wupI_n (by decide)]
            exact g0.2.2.2.2 i v hv
          · rw [wupI_n (by decide), wupI_n (by decide)]
          · rw [wupI_n (by decide), wupI_n (by decide)]
        · rw [if_neg (fun q => c0 (s0.1 q))]
          have st : lst S P N x = .inr (.inl (fl 0 (P c'.1))) := by
            unfold lst
            rw [n1]
            dsimp only
            rw [if_neg c3, if_neg c0]
          rw [nx_n, fails_R ga.1, t_sbe]
          dsimp only
          unfold wX11_readsAll_j88
          rw [if_pos rfl]
          exact t_mono (j125_F wup_same (hE _ (Ev.ret st))) (fun q hq => Or.inl ⟨_, Ev.ret st, hq⟩)
/-- the start of a LAW's reading -/
noncomputable abbrev ls3 (t : Nat) (s : wS) : wS := wupI (wupI s 152 15 (Int32.ofNat t)) 157 t 0
/-- only so much is written in reading a LAW -/
theorem law_RA (ht : t < 6) (hL : s.1 152 2 = Int32.ofNat t) (g : RI s) : Tot (wX11_readsAll (ls3 t s)) (RA (JL t) (bN t) (ls3 t s)) := by
  obtain ⟨⟨gC, gL, gW⟩, gT, gI⟩ := g
  have x3 : (ls3 t s).1 152 15 = Int32.ofNat t := by rw [wupI_n (by omega), wup_same]
  have et : (Int32.ofNat t).toInt = t := t_on (by omega)
  have hX : (Int32.ofNat t).toNatClampNeg = t := t_nc (by omega)
  have T3 : (ls3 t s).1 152 1 = s.1 152 1 := by rw [wupI_n (by omega), wup_nb (by omega)]
  have c3 : (ls3 t s).1 157 t = 0 := wup_same
  generalize ls3 t s = s3 at x3 T3 c3
  have hB : ∀ k b, bF k b = true → bN t k b = true := fun k b h => bL_le_bN k b (bF_le_bL k b h)
  refine readsAll_T (J := JL t) (B := bN t) hB (by unfold bN; rw [show (Nat.beq 152 152 && (Nat.beq 1 1 || Nat.beq 1 15)) = true from rfl, Bool.or_true]) ?_ (fun u h => h.1.tp) (fun u v h o => JL_on o h) (fun u h q => JL_P h q) (fun u h => ⟨by have := h.2.2.1; omega, by have := h.2.2.2; omega⟩) (fun u h => t_mono (clauseHere_L (by omega) h) (fun r hr => ⟨hr.1.mono bL_le_bN, hr.2⟩)) (s := s3) (by rw [x3]; omega) (by rw [x3]; omega) ?_ ?_
  · refine bL_le_bN _ _ ?_
    unfold bL
    rw [bE_k (by omega) (by omega) rfl]
    rfl
  · rw [x3, hX]
    refine bL_le_bN _ _ (bE_le_bL _ _ ?_)
    unfold bE
    rw [show Nat.beq 155 155 = true from rfl, Nat.beq_refl, Bool.true_and, Bool.or_true, Bool.true_or]
  · rw [x3, hX]
    refine ⟨?_, ?_, ?_, ?_⟩
    · refine ⟨?_, ?_, ?_, ?_, Int.le_refl 0, ?_, ?_⟩
      · rw [wup_nb (by omega), wup_nb (by omega), wup_nb (by omega), wup_nb (by omega), wupI_n (by omega), T3]
        exact gT
      · rw [wup_nb (by omega), wup_nb (by omega), wup_same, wup_nb (by omega), wup_nb (by omega), wup_nb (by omega), wup_nb (by omega), wupI_n (by omega), T3]
        exact ⟨by decide, gT.1⟩
      · rw [wup_nb (by omega), wup_nb (by omega), wup_nb (by omega), wup_nb (by omega), wupI_n (by omega), x3]
        omega
      · rw [wupI_n (by omega), wupI_n (by omega), wupI_n (by omega), wupI_n (by omega), wup_same]
        decide
      · rw [wupI_n (by omega), wupI_n (by omega), wupI_n (by omega), wupI_n (by omega), wup_same]
        show (0 : Int32).toInt + 0 ≤ _
        rw [wup_nb (by omega), wup_nb (by omega), wup_same]
        decide
      · rw [wup_same]
        decide
    · intro j hj
      rw [wupI_n (by omega), wupI_n (by omega), wupI_n (by omega), wupI_n (by omega), wupI_n (by omega), c3, t_i0] at hj
      omega
    · rw [wupI_n (by omega), wupI_n (by omega), wupI_n (by omega), wupI_n (by omega), wupI_n (by omega), c3, wup_nb (by omega), wup_nb (by omega), wup_nb (by omega), wup_same]
      decide
    · rw [wup_nb (by omega), wup_nb (by omega), wup_nb (by omega), wup_same]
      decide
theorem law_RV (ht : t < 6) (g : RG G s) (tk : TOKS G S P N E K) (hE : ∀ e, Ev (lst S P N) (0, 0, [], []) (.inl e) → ¬ e = 0) : Tot (wX11_readsAll (ls3 t s)) (RVl S P N t (0, 0, [], [])) := by
  unfold wX11_readsAll
  have x3 : (ls3 t s).1 152 15 = Int32.ofNat t := by rw [wupI_n (by omega), wup_same]
  rw [x3, wst_E (by rw [t_on (by omega)]; omega) (by rw [t_on (by omega)]; omega), t_sbe, t_nc (by omega)]
  show Tot ((wX11_clauseHere (wupI (wupI (wupI (wupI (wupI (ls3 t s) 155 t 0) 152 18 0) 152 12 0) 152 13 0) 152 16 0)).bind fun (t6, s7) => (wX11_readsAll_h35 wFuel t6 s7).bind fun (t19, s20) => wX11_readsAll_j66 t19 s20) _
  refine lawAll_L ht tk wFuel (x := (0, 0, [], [])) ⟨⟨⟨g.go ?_ ?_, ⟨0, ?_, tk.sk (k := 0) (Nat.zero_le _)⟩, ?_, Nat.zero_le _⟩, ?_, ⟨?_, Nat.zero_le _⟩, ?_, fun i v hv => by cases hv⟩, ⟨⟨?_, Nat.zero_le _⟩, fun i v hv => by cases hv⟩, ?_⟩ (Nat.le_refl _) hE (by
    have e : wFuel = 1099511627776 := rfl
    have := tk.2.1
    have := g.2.2.1
    dsimp only
    omega)
  · rw [wupI_n (by decide), wupI_n (by decide), wupI_n (by decide), wupI_n (by decide), wupI_n (by decide), wupI_n (by decide), wupI_n (by decide)]
  · rw [wup_nb (by decide), wup_nb (by decide), wup_nb (by decide), wup_nb (by decide), wupI_n (by decide), wupI_n (by decide), wup_nb (by decide)]
  · rw [wup_nb (by decide), wup_nb (by decide), wup_same]; rfl
  · rw [wup_nb (by decide), wup_same]
  · rw [wup_nb (by decide), wup_nb (by decide), wup_nb (by decide), wup_nb (by decide), wupI_n (by decide)]; exact x3
  · rw [wup_same]; rfl
  · rw [wupI_n (by decide), wupI_n (by decide), wupI_n (by decide), wupI_n (by decide), wup_same]; rfl
  · rw [wupI_n (by decide), wupI_n (by decide), wupI_n (by decide), wupI_n (by decide), wupI_n (by decide), wup_same]; rfl
  · rw [wup_nb (by decide), wup_nb (by decide), wup_nb (by decide), wup_same]; rfl
noncomputable def bNl (t k b : Nat) : Bool := bN t k b || (Nat.beq k 152 && Nat.beq b 2)
theorem wX11_law_E (ht : t < 6) (hL : s.1 152 2 = Int32.ofNat t) (g : RG G s) (tk : TOKS G S P N E K) (hE : ∀ e, Ev (lst S P N) (0, 0, [], []) (.inl e) → ¬ e = 0) (ri : RI s) : Tot (wX11_law s) (fun p => wA (bNl t) s p.2 ∧ p.2.1 152 1 = 0 ∧ ((∃ e, Ev (lst S P N) (0, 0, [], []) (.inl e) ∧ p.1 = (Int8.ofInt (-2)).toInt32 - e ∧ p.2.1 152 2 = s.1 152 2) ∨ (∃ c' : lC, Ev (lst S P N) (0, 0, [], []) (.inr c') ∧ p.1 = Int32.ofNat t ∧ p.2.1 152 2 = Int32.ofNat (t + 1) ∧ RLf t c' p.2))) := by
  have et : (Int32.ofNat t).toInt = t := t_on (by omega)
  have ent : (Int32.ofNat t).toNatClampNeg = t := t_nc (by omega)
  have e6 : (6 : Int32).toInt = 6 := rfl
  unfold wX11_law
  rw [hL, if_neg (fun e => by have := congrArg Int32.toInt e; rw [et, e6] at this; omega)]
  show Tot ((wstI (wupI s 152 15 (Int32.ofNat t)) 157 6 ((wupI s 152 15 (Int32.ofNat t)).1 152 15) 0).bind _) _
  rw [wup_same, wst_E (by omega) (by omega), t_sbe, ent]
  refine t_bind (t_and (law_RA ht hL ri) (law_RV ht g tk hE)) (fun r hr => ?_)
  obtain ⟨t4, s5⟩ := r
  obtain ⟨⟨a1, a2, -⟩, hr⟩ := hr
  dsimp only at a1 a2 hr ⊢
  have le : ∀ k b, bN t k b = true → bNl t k b = true := fun k b h => by unfold bNl; rw [h]; rfl
  have A : wA (bN t) s s5 := by
    refine ((wA_I ?_).trans (wA_I ?_)).trans a1
    · unfold bN; rw [show (Nat.beq 152 152 && (Nat.beq 15 1 || Nat.beq 15 15)) = true from rfl, Bool.or_true]
    · exact bL_le_bN _ _ bL_157
  have e2 : s5.1 152 2 = s.1 152 2 := A 152 2 bN_2
  rcases hr with ⟨e, h1, q0, qe⟩ | ⟨c', h1, q0, h2⟩
  · dsimp only at q0 qe
    rw [if_pos q0, qe]
    exact t_some ⟨A.mono le, a2, Or.inl ⟨e, h1, rfl, e2.trans hL⟩⟩
  · dsimp only at q0 h2
    rw [if_neg (by rw [q0]; decide)]
    have e1 : s5.1 152 2 + 1 = Int32.ofNat (t + 1) := Int32.toInt_inj.1 (by rw [e2, hL, t_p1 (by omega) (by omega), et, t_on (by omega)]; rfl)
    rw [e1]
    show Tot (some ((wupI s5 152 2 (Int32.ofNat (t + 1))).1 152 2 - 1, wupI s5 152 2 (Int32.ofNat (t + 1)))) _
    rw [wup_same]
    refine t_some ⟨(A.mono le).trans (wA_I ?_), ?_, Or.inr ⟨c', h1, ?_, wup_same, h2.go (by rw [wupI_n (by decide)]) (by rw [wupI_n (by decide)]) (by rw [wupI_n (by decide)]) (by rw [wupI_n (by decide)])⟩⟩
    · unfold bNl; rw [show (Nat.beq 152 152 && Nat.beq 2 2) = true from rfl, Bool.or_true]
    · show (wupI s5 152 2 (Int32.ofNat (t + 1))).1 152 1 = 0
      rw [wup_nb (by decide)]; exact a2
    · exact Int32.toInt_inj.1 (by
        rw [t_sub (by rw [t_on (by omega), show (1 : Int32).toInt = 1 from rfl]; omega) (by rw [t_on (by omega), show (1 : Int32).toInt = 1 from rfl]; omega), t_on (by omega), et, show (1 : Int32).toInt = 1 from rfl]
        omega)
end RLX
