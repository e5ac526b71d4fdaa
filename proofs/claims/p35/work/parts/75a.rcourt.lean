/-! The reference's COURT, whole. -/
theorem t_and {α : Type} {x : Option α} {P Q : α → Prop} (h : Tot x P) (g : Tot x Q) : Tot x (fun a => P a ∧ Q a) := by
  obtain ⟨a, e, p⟩ := h
  obtain ⟨b, f, q⟩ := g
  rw [e] at f
  exact ⟨a, e, p, by rw [Option.some.inj f]; exact q⟩
theorem court_h100_E {r : Nat} (hr : r ≤ 8) : ∀ (n : Nat) {i : Nat} {x1 : Int32} {s : wS}, s.1 152 8 = Int32.ofNat r → x1 = Int32.ofNat i → i ≤ 2 * r → 2 * r - i < n → Tot (wX11_court_h100 n x1 s) (fun u => (∀ k, k ≠ 163 → u.1 k = s.1 k) ∧ ∀ j, u.1 163 j = if 10 + i ≤ j ∧ j < 10 + 2 * r then s.1 158 (j - 10) else s.1 163 j) := by
  intro n
  induction n with
  | zero => intro i x1 s _ _ _ hm; exact absurd hm (by omega)
  | succ n ih =>
    intro i x1 s h8 hx hi hm
    have er : (Int32.ofNat r).toInt = r := t_on (by omega)
    have ei : x1.toInt = i := by rw [hx, t_on (by omega)]
    rw [wX11_court_h100, h8]
    have e2 : (2 * Int32.ofNat r).toInt = 2 * r := by rw [t_2p (by omega) (by omega), er]
    refine t_ite (fun c => ?_) (fun c => ?_)
    · have hc := t_lt c
      rw [e2, ei] at hc
      refine t_bind (t_ldI (n := 16) (by omega) (by omega)) (fun t17 h17 => ?_)
      have eB : (10 : Int32).toInt = 10 := rfl
      have e : (10 + x1).toInt = 10 + i := by rw [t_add (by omega) (by omega), ei, eB]
      have en : (10 + x1).toNatClampNeg = 10 + i := by unfold Int32.toNatClampNeg; omega
      have exn : x1.toNatClampNeg = i := by unfold Int32.toNatClampNeg; omega
      rw [wst_E (by omega) (by omega), t_sbe, en]
      have e1 : x1 + 1 = Int32.ofNat (i + 1) := Int32.toInt_inj.1 (by rw [t_p1 (by omega) (by omega), t_on (by omega), ei]; rfl)
      refine t_mono (ih (i := i + 1) (s := wupI s 163 (10 + i) t17) (by rw [wupI_n (by decide)]; exact h8) e1 (by omega) (by omega)) (fun u hu => ⟨fun k hk => by rw [hu.1 k hk, wupI_n hk], fun j => ?_⟩)
      rw [hu.2 j, wupI_n (by decide)]
      by_cases c1 : 10 + (i + 1) ≤ j ∧ j < 10 + 2 * r
      · rw [if_pos c1, if_pos (by omega)]
      · rw [if_neg c1]
        by_cases c2 : j = 10 + i
        · subst c2
          rw [wup_same, if_pos (by omega), h17, exn, Nat.add_sub_cancel_left]
        · rw [wup_nb c2, if_neg (by omega)]
    · have hc := t_ge c
      rw [e2, ei] at hc
      exact t_some ⟨fun k _ => rfl, fun j => by rw [if_neg (by omega)]⟩
theorem court_h133_E {r : Nat} (hr : r ≤ 8) : ∀ (n : Nat) {i : Nat} {x1 : Int32} {s : wS}, s.1 152 9 = Int32.ofNat r → x1 = Int32.ofNat i → i ≤ 2 * r → 2 * r - i < n → Tot (wX11_court_h133 n x1 s) (fun u => (∀ k, k ≠ 163 → u.1 k = s.1 k) ∧ ∀ j, u.1 163 j = if 26 + i ≤ j ∧ j < 26 + 2 * r then s.1 159 (j - 26) else s.1 163 j) := by
  intro n
  induction n with
  | zero => intro i x1 s _ _ _ hm; exact absurd hm (by omega)
  | succ n ih =>
    intro i x1 s h8 hx hi hm
    have er : (Int32.ofNat r).toInt = r := t_on (by omega)
    have ei : x1.toInt = i := by rw [hx, t_on (by omega)]
    rw [wX11_court_h133, h8]
    have e2 : (2 * Int32.ofNat r).toInt = 2 * r := by rw [t_2p (by omega) (by omega), er]
    refine t_ite (fun c => ?_) (fun c => ?_)
    · have hc := t_lt c
      rw [e2, ei] at hc
      refine t_bind (t_ldI (n := 16) (by omega) (by omega)) (fun t17 h17 => ?_)
      have eB : (26 : Int32).toInt = 26 := rfl
      have e : (26 + x1).toInt = 26 + i := by rw [t_add (by omega) (by omega), ei, eB]
      have en : (26 + x1).toNatClampNeg = 26 + i := by unfold Int32.toNatClampNeg; omega
      have exn : x1.toNatClampNeg = i := by unfold Int32.toNatClampNeg; omega
      rw [wst_E (by omega) (by omega), t_sbe, en]
      have e1 : x1 + 1 = Int32.ofNat (i + 1) := Int32.toInt_inj.1 (by rw [t_p1 (by omega) (by omega), t_on (by omega), ei]; rfl)
      refine t_mono (ih (i := i + 1) (s := wupI s 163 (26 + i) t17) (by rw [wupI_n (by decide)]; exact h8) e1 (by omega) (by omega)) (fun u hu => ⟨fun k hk => by rw [hu.1 k hk, wupI_n hk], fun j => ?_⟩)
      rw [hu.2 j, wupI_n (by decide)]
      by_cases c1 : 26 + (i + 1) ≤ j ∧ j < 26 + 2 * r
      · rw [if_pos c1, if_pos (by omega)]
      · rw [if_neg c1]
        by_cases c2 : j = 26 + i
        · subst c2
          rw [wup_same, if_pos (by omega), h17, exn, Nat.add_sub_cancel_left]
        · rw [wup_nb c2, if_neg (by omega)]
    · have hc := t_ge c
      rw [e2, ei] at hc
      exact t_some ⟨fun k _ => rfl, fun j => by rw [if_neg (by omega)]⟩
/-- the new COURT in the row of all that is told -/
noncomputable def CSr (h : Int32) (r m : Nat) (R M f f' : Nat → Int32) : Prop := (f' 0 = (if h = 0 then 1 else h) ∧ f' 1 = Int32.ofNat r ∧ f' 2 = Int32.ofNat m) ∧ (f' 3 = 0 ∧ f' 4 = -1 ∧ f' 5 = 0 ∧ f' 6 = f 6) ∧ (∀ i, i < 2 * r → f' (10 + i) = R i) ∧ (∀ i, i < 2 * m → f' (26 + i) = M i)
noncomputable def WNo (h : Int32) (r m : Nat) : Int32 := ((if h = 0 then 1 else h) * Int32.ofNat r) * Int32.ofNat m
theorem court_j56_E {h y : Int32} {r m : Nat} {R M : Nat → Int32} {s : wS} (hr : r ≤ 8) (hm : m ≤ 8) (h8 : s.1 152 8 = Int32.ofNat r) (h9 : s.1 152 9 = Int32.ofNat m) (hR : s.1 158 = R) (hM : s.1 159 = M) (hy : y = if h = 0 then 1 else h) : Tot (wX11_court_j56 0 y s) (fun q => (∀ k, k ≠ 163 → q.2.1 k = s.1 k) ∧ CSr h r m R M (s.1 163) (q.2.1 163) ∧ q.1 = WNo h r m) := by
  unfold wX11_court_j56
  rw [wst_E (by decide) (by decide), t_sbe, wst_E (by decide) (by decide), t_sbe, wst_E (by decide) (by decide), t_sbe, wst_E (by decide) (by decide), t_sbe, wst_E (by decide) (by decide), t_sbe, wst_E (by decide) (by decide), t_sbe]
  have r10 : (wupI s 163 (Int32.toNatClampNeg 0) y).1 152 8 = Int32.ofNat r := by rw [wupI_n (by decide)]; exact h8
  rw [r10]
  have r11 : (wupI (wupI s 163 (Int32.toNatClampNeg 0) y) 163 (Int32.toNatClampNeg 1) (Int32.ofNat r)).1 152 9 = Int32.ofNat m := by rw [wupI_n (by decide), wupI_n (by decide)]; exact h9
  rw [r11]
  generalize hu : wupI (wupI (wupI (wupI (wupI (wupI s 163 (Int32.toNatClampNeg 0) y) 163 (Int32.toNatClampNeg 1) (Int32.ofNat r)) 163 (Int32.toNatClampNeg 2) (Int32.ofNat m)) 163 (Int32.toNatClampNeg 3) 0) 163 (Int32.toNatClampNeg 4) (-1)) 163 (Int32.toNatClampNeg 5) 0 = u
  have n0 : Int32.toNatClampNeg 0 = 0 := rfl
  have n1 : Int32.toNatClampNeg 1 = 1 := rfl
  have n2 : Int32.toNatClampNeg 2 = 2 := rfl
  have n3 : Int32.toNatClampNeg 3 = 3 := rfl
  have n4 : Int32.toNatClampNeg 4 = 4 := rfl
  have n5 : Int32.toNatClampNeg 5 = 5 := rfl
  rw [n0, n1, n2, n3, n4, n5] at hu
  have uk : ∀ k, k ≠ 163 → u.1 k = s.1 k := fun k hk => by rw [← hu, wupI_n hk, wupI_n hk, wupI_n hk, wupI_n hk, wupI_n hk, wupI_n hk]
  have u0 : u.1 163 0 = y := by rw [← hu, wup_nb (by decide), wup_nb (by decide), wup_nb (by decide), wup_nb (by decide), wup_nb (by decide), wup_same]
  have u1 : u.1 163 1 = Int32.ofNat r := by rw [← hu, wup_nb (by decide), wup_nb (by decide), wup_nb (by decide), wup_nb (by decide), wup_same]
  have u2 : u.1 163 2 = Int32.ofNat m := by rw [← hu, wup_nb (by decide), wup_nb (by decide), wup_nb (by decide), wup_same]
  have u3 : u.1 163 3 = 0 := by rw [← hu, wup_nb (by decide), wup_nb (by decide), wup_same]
  have u4 : u.1 163 4 = -1 := by rw [← hu, wup_nb (by decide), wup_same]
  have u5 : u.1 163 5 = 0 := by rw [← hu, wup_same]
  have u6 : u.1 163 6 = s.1 163 6 := by rw [← hu, wup_nb (by decide), wup_nb (by decide), wup_nb (by decide), wup_nb (by decide), wup_nb (by decide), wup_nb (by decide)]
  have wf : ∀ q : Nat, q ≤ 8 → 2 * q - 0 < wFuel := fun q hq => by
    have e : wFuel = 1099511627776 := rfl
    omega
  refine t_bind (court_h100_E hr wFuel (i := 0) (s := u) (by rw [uk 152 (by decide)]; exact h8) rfl (Nat.zero_le _) (wf r hr)) (fun s20 h20 => ?_)
  refine t_bind (court_h133_E hm wFuel (i := 0) (s := s20) (by rw [h20.1 152 (by decide), uk 152 (by decide)]; exact h9) rfl (Nat.zero_le _) (wf m hm)) (fun s26 h26 => ?_)
  have v : ∀ j, j < 10 → s26.1 163 j = u.1 163 j := fun j hj => by rw [h26.2 j, if_neg (by omega), h20.2 j, if_neg (by omega)]
  unfold wX11_worlds
  rw [t_sbe]
  refine t_some ⟨fun k hk => by show s26.1 k = _; rw [h26.1 k hk, h20.1 k hk, uk k hk], ⟨⟨?_, ?_, ?_⟩, ⟨?_, ?_, ?_, ?_⟩, fun i hi => ?_, fun i hi => ?_⟩, ?_⟩
  · show s26.1 163 0 = _
    rw [v 0 (by decide), u0, hy]
  · show s26.1 163 1 = _
    rw [v 1 (by decide), u1]
  · show s26.1 163 2 = _
    rw [v 2 (by decide), u2]
  · show s26.1 163 3 = _
    rw [v 3 (by decide), u3]
  · show s26.1 163 4 = _
    rw [v 4 (by decide), u4]
  · show s26.1 163 5 = _
    rw [v 5 (by decide), u5]
  · show s26.1 163 6 = _
    rw [v 6 (by decide), u6]
  · show s26.1 163 (10 + i) = _
    rw [h26.2, if_neg (by omega), h20.2, if_pos (by omega), uk 158 (by decide), hR, Nat.add_sub_cancel_left]
  · show s26.1 163 (26 + i) = _
    rw [h26.2, if_pos (by omega), h20.1 159 (by decide), uk 159 (by decide), hM, Nat.add_sub_cancel_left]
  · show (s26.1 163 0 * s26.1 163 1) * s26.1 163 2 = _
    rw [v 0 (by decide), v 1 (by decide), v 2 (by decide), u0, u1, u2, hy]
    rfl
/-- the start of a COURT's reading -/
noncomputable abbrev cs4 (s : wS) : wS := wupI (wupI (wupI (wupI s 152 15 6) 152 7 0) 152 8 0) 152 9 0
/-- only so much is written in reading a COURT -/
theorem court_RA {s : wS} (g : RI s) : Tot (wX11_readsAll (cs4 s)) (RA JC (bN 6) (cs4 s)) := by
  obtain ⟨⟨gC, gL, gW⟩, gT, gI⟩ := g
  have x4 : (cs4 s).1 152 15 = 6 := by rw [wup_nb (by omega), wup_nb (by omega), wup_nb (by omega), wup_same]
  have T4 : (cs4 s).1 152 1 = s.1 152 1 := by rw [wup_nb (by omega), wup_nb (by omega), wup_nb (by omega), wup_nb (by omega)]
  have c7 : (cs4 s).1 152 7 = 0 := by rw [wup_nb (by omega), wup_nb (by omega), wup_same]
  have c8 : (cs4 s).1 152 8 = 0 := by rw [wup_nb (by omega), wup_same]
  have c9 : (cs4 s).1 152 9 = 0 := by rw [wup_same]
  generalize cs4 s = s4 at x4 T4 c7 c8 c9
  have hB : ∀ k b, bF k b = true → bN 6 k b = true := fun k b h => bL_le_bN k b (bF_le_bL k b h)
  refine readsAll_T (J := JC) (B := bN 6) hB rfl rfl (fun u h => h.1.1) (fun u v h o => JC_on o h) (fun u h q => JC_P h q) (fun u h => h.2.2) (fun u h => t_mono (clauseHere_C h) (fun r hr => ⟨hr.1.mono bL_le_bN, hr.2⟩)) (s := s4) (by rw [x4]; decide) (by rw [x4]; decide) (by rw [x4]; rfl) ?_
  rw [x4]
  refine ⟨⟨⟨?_, ?_⟩, ?_, ?_, ?_⟩, ?_, ?_⟩
  · rw [wup_nb (by omega), wup_nb (by omega), wup_nb (by omega), wup_nb (by omega), wupI_n (by omega), T4]
    exact gT
  · rw [wup_nb (by omega), wup_nb (by omega), wup_same, wup_nb (by omega), wup_nb (by omega), wup_nb (by omega), wup_nb (by omega), wupI_n (by omega), T4]
    exact ⟨by decide, gT.1⟩
  · rw [wup_nb (by omega), wup_nb (by omega), wup_nb (by omega), wup_nb (by omega), wupI_n (by omega), c7]
    decide
  · rw [wup_nb (by omega), wup_nb (by omega), wup_nb (by omega), wup_nb (by omega), wupI_n (by omega), c8]
    decide
  · rw [wup_nb (by omega), wup_nb (by omega), wup_nb (by omega), wup_nb (by omega), wupI_n (by omega), c9]
    decide
  · rw [wup_nb (by omega), wup_nb (by omega), wup_nb (by omega), wup_nb (by omega), wupI_n (by omega), x4]
    decide
  · rw [wup_nb (by omega), wup_nb (by omega), wup_nb (by omega), wup_same]
    decide
/-- what it comes to -/
theorem court_RV {G : wS} {S P N : Nat → Int32} {E : Nat → Nat} {K : Nat} {s : wS} (g : RG G s) (tk : TOKS G S P N E K) : Tot (wX11_readsAll (cs4 s)) (RV S P N (0, 0, 0, 0, s.1 158, s.1 159)) := by
  have hT := g.2.2.1
  have pb : ∀ j, j ≤ K → 0 ≤ (P j).toInt ∧ (P j).toInt ≤ 400 := fun j hj => by have := tk.p0 hT.1 hj; omega
  unfold wX11_readsAll
  have x4 : (cs4 s).1 152 15 = 6 := by rw [wup_nb (by omega), wup_nb (by omega), wup_nb (by omega), wup_same]
  rw [x4, wst_E (by decide) (by decide), t_sbe]
  show Tot ((wX11_clauseHere (wupI (wupI (wupI (wupI (wupI (cs4 s) 155 6 0) 152 18 0) 152 12 0) 152 13 0) 152 16 0)).bind fun (t6, s7) => (wX11_readsAll_h35 wFuel t6 s7).bind fun (t19, s20) => wX11_readsAll_j66 t19 s20) _
  have a : wA (fun k b => Nat.beq k 155 || (Nat.beq k 152 && (Nat.beq b 15 || (Nat.beq b 7 || (Nat.beq b 8 || (Nat.beq b 9 || (Nat.beq b 18 || (Nat.beq b 12 || (Nat.beq b 13 || Nat.beq b 16))))))))) s (wupI (wupI (wupI (wupI (wupI (cs4 s) 155 6 0) 152 18 0) 152 12 0) 152 13 0) 152 16 0) := (((((((((wA_I rfl).trans (wA_I rfl)).trans (wA_I rfl)).trans (wA_I rfl)).trans (wA_I rfl)).trans (wA_I rfl)).trans (wA_I rfl)).trans (wA_I rfl)).trans (wA_I rfl))
  refine readsAll_L tk pb wFuel (c := (0, 0, 0, 0, s.1 158, s.1 159)) ⟨?_, ⟨0, ?_, tk.sk (k := 0) (Nat.zero_le _)⟩, ?_, Nat.zero_le _⟩ ⟨⟨?_, ?_, ?_⟩, ⟨?_, ?_⟩, ?_, ⟨Nat.zero_le _, Nat.zero_le _⟩, (by show 0 ≤ (0 : Int32).toInt; decide), (by show (0 : Int32).toInt ≤ 8; decide)⟩ ?_ ?_
  · exact g.go (funext fun b => a 153 b rfl) (a 152 1 rfl)
  · rw [wup_nb (by decide), wup_nb (by decide), wup_same]; rfl
  · rw [wup_nb (by decide), wup_same]
  · rw [wup_nb (by decide), wup_nb (by decide), wup_nb (by decide), wup_nb (by decide), wupI_n (by decide), wup_nb (by decide), wup_nb (by decide), wup_same]
  · rw [wup_nb (by decide), wup_nb (by decide), wup_nb (by decide), wup_nb (by decide), wupI_n (by decide), wup_nb (by decide), wup_same]
    rfl
  · rw [wup_nb (by decide), wup_nb (by decide), wup_nb (by decide), wup_nb (by decide), wupI_n (by decide), wup_same]
    rfl
  · exact funext fun b => a 158 b rfl
  · exact funext fun b => a 159 b rfl
  · rw [wup_nb (by decide), wup_nb (by decide), wup_nb (by decide), wup_nb (by decide), wupI_n (by decide)]
    exact x4
  · rw [wup_nb (by decide), wup_nb (by decide), wup_nb (by decide), wup_same]
    rfl
  · have e : ((wFuel : Nat) : Int) = 1099511627776 := rfl
    have := tk.2.1
    dsimp only
    omega
noncomputable def bNs (k b : Nat) : Bool := bN 6 k b || Nat.beq k 163
theorem wX11_court_E {G : wS} {S P N : Nat → Int32} {E : Nat → Nat} {K : Nat} {s : wS} (g : RG G s) (tk : TOKS G S P N E K) (ri : RI s) : Tot (wX11_court s) (fun q => wA bNs s q.2 ∧ q.2.1 152 1 = 0 ∧ ((∃ e, Ev (cst S P N) (0, 0, 0, 0, s.1 158, s.1 159) (.inl e) ∧ q.1 = (Int8.ofInt (-2)).toInt32 - e ∧ q.2.1 163 = s.1 163) ∨ (∃ c' : cC, Ev (cst S P N) (0, 0, 0, 0, s.1 158, s.1 159) (.inr c') ∧ CSr c'.2.1 c'.2.2.1 c'.2.2.2.1 c'.2.2.2.2.1 c'.2.2.2.2.2 (s.1 163) (q.2.1 163) ∧ q.1 = WNo c'.2.1 c'.2.2.1 c'.2.2.2.1))) := by
  unfold wX11_court
  show Tot ((wX11_readsAll (cs4 s)).bind _) _
  refine t_bind (t_and (court_RA ri) (court_RV g tk)) (fun r hr => ?_)
  obtain ⟨t5, s6⟩ := r
  obtain ⟨⟨a1, a2, -⟩, hr⟩ := hr
  dsimp only at a1 a2 hr ⊢
  have le : ∀ k b, bN 6 k b = true → bNs k b = true := fun k b h => by unfold bNs; rw [h]; rfl
  have A : wA (bN 6) s s6 := ((((wA_I rfl).trans (wA_I rfl)).trans (wA_I rfl)).trans (wA_I rfl)).trans a1
  have e163 : s6.1 163 = s.1 163 := funext fun b => A 163 b bN_163
  rcases hr with ⟨e, h1, q0, qe⟩ | ⟨c', h1, q0, rt⟩
  · dsimp only at q0 qe
    rw [if_pos q0, qe]
    exact t_some ⟨A.mono le, a2, Or.inl ⟨e, h1, rfl, e163⟩⟩
  · dsimp only at q0 rt
    obtain ⟨⟨d1, d2, d3⟩, ⟨d4, d5⟩, d6, d7, d8⟩ := rt
    rw [if_neg (by rw [q0]; decide), d1]
    have fin : ∀ y, y = (if c'.2.1 = 0 then 1 else c'.2.1) → Tot (wX11_court_j56 0 y s6) (fun q => wA bNs s q.2 ∧ q.2.1 152 1 = 0 ∧ ((∃ e, Ev (cst S P N) (0, 0, 0, 0, s.1 158, s.1 159) (.inl e) ∧ q.1 = (Int8.ofInt (-2)).toInt32 - e ∧ q.2.1 163 = s.1 163) ∨ (∃ c' : cC, Ev (cst S P N) (0, 0, 0, 0, s.1 158, s.1 159) (.inr c') ∧ CSr c'.2.1 c'.2.2.1 c'.2.2.2.1 c'.2.2.2.2.1 c'.2.2.2.2.2 (s.1 163) (q.2.1 163) ∧ q.1 = WNo c'.2.1 c'.2.2.1 c'.2.2.2.1))) := by
      intro y hy
      refine t_mono (court_j56_E (h := c'.2.1) d7.1 d7.2 d2 d3 d4 d5 hy) (fun q hq => ⟨(A.mono le).trans (fun k b hb => ?_), ?_, Or.inr ⟨c', h1, ?_, hq.2.2⟩⟩)
      · rw [hq.1 k (fun e => by rw [e] at hb; unfold bNs at hb; rw [show Nat.beq 163 163 = true from rfl, Bool.or_true] at hb; cases hb)]
      · rw [hq.1 152 (by decide)]; exact a2
      · have := hq.2.1
        rw [e163] at this
        exact this
    by_cases c0 : c'.2.1 = 0
    · rw [if_pos c0]
      exact fin 1 (by rw [if_pos c0])
    · rw [if_neg c0]
      exact fin _ (by rw [if_neg c0])
