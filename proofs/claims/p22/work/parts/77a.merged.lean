section
/-! The reference reads VALUES and SUMS. -/
/-- a sign of the class's code, as the reference puts it -/
noncomputable def rc (v : Int32) : Int32 := if 100 ≤ v then 16 * (v - 100) else if 23 ≤ v then 1 + 16 * (v - 23) else if v = 22 then 11 else if v = 21 then 12 else if v = 20 then 13 else v - 4
/-- the code so far, what was made -/
noncomputable def RK (t c : Nat) (o : List Int32) (s : wS) : Prop := s.1 152 15 = Int32.ofNat t ∧ ((s.1 152 16).toInt = c ∧ c ≤ 60) ∧ s.1 155 t = Int32.ofNat o.length ∧ ∀ i v, o[i]? = some v → s.1 154 (400 * t + i) = rc v
noncomputable def RLw (G : wS) (S P N : Nat → Int32) (E : Nat → Nat) (K t k c : Nat) (o : List Int32) (s : wS) : Prop := RS G S P N E K k s ∧ RK t c o s
/-- what its reading writes -/
noncomputable def bLT (t k b : Nat) : Bool := (Nat.beq k 154 || (Nat.beq k 155 && Nat.beq b t)) || (Nat.beq k 152 && (Nat.beq b 12 || (Nat.beq b 13 || (Nat.beq b 14 || Nat.beq b 16))))
theorem bLT_p {t k b : Nat} (h : k = 154 ∨ (k = 155 ∧ b = t) ∨ (k = 152 ∧ (b = 12 ∨ b = 13 ∨ b = 14 ∨ b = 16))) : bLT t k b = true := by
  simp only [bLT, Bool.or_eq_true, Bool.and_eq_true, Nat.beq_eq]
  omega
section RSM
variable {G : wS} {S P N : Nat → Int32} {E : Nat → Nat} {K t k c : Nat} {o : List Int32} {s : wS}
theorem RS.go {s' : wS} (g : RS G S P N E K k s) (h153 : s'.1 153 = s.1 153) (h1 : s'.1 152 1 = s.1 152 1) (h12 : s'.1 152 12 = s.1 152 12) (h13 : s'.1 152 13 = s.1 152 13) : RS G S P N E K k s' := by
  obtain ⟨g1, ⟨n, g2, g3⟩, g4, gk⟩ := g
  exact ⟨g1.go h153 h1, ⟨n, by rw [h12]; exact g2, g3⟩, by rw [h13]; exact g4, gk⟩
theorem RK.go {s' : wS} (h : RK t c o s) (h15 : s'.1 152 15 = s.1 152 15) (h16 : s'.1 152 16 = s.1 152 16) (h155 : s'.1 155 t = s.1 155 t) (h154 : s'.1 154 = s.1 154) : RK t c o s' := by
  unfold RK
  rw [h15, h16, h155, h154]
  exact h
theorem RK.nx {v : Int32} (h : RK t c o s) : RK t c o (nxt s v) := h.go (wup_nb (by decide)) (wup_nb (by decide)) (by rw [wupI_n (by decide)]) (wupI_n (by decide))
theorem RK.f14 {v : Int32} (h : RK t c o s) : RK t c o (wupI s 152 14 v) := h.go (wup_nb (by decide)) (wup_nb (by decide)) (by rw [wupI_n (by decide)]) (wupI_n (by decide))
theorem puts_E {x1 x2 v : Int32} (ht : t < 6) (h : RK t c o s) (hl : o.length < 400) (hv : x1 + (16 * x2) = rc v) : ∃ s', wX11_puts x1 x2 s = some s' ∧ RK t c (o ++ [v]) s' ∧ wA (fun k b => Nat.beq k 154 || (Nat.beq k 155 && Nat.beq b t)) s s' := by
  obtain ⟨h15, h16, h155, h154⟩ := h
  have et : (Int32.ofNat t).toInt = t := t_on (by omega)
  have ent : (Int32.ofNat t).toNatClampNeg = t := t_nc (by omega)
  have el : (Int32.ofNat o.length).toInt = o.length := t_on (by omega)
  have e400 : (400 : Int32).toInt = 400 := rfl
  have q1 : (400 * Int32.ofNat t).toInt = 400 * t := by rw [t_mul (by rw [e400, et]; omega) (by rw [e400, et]; omega), e400, et]
  have q2 : (400 * Int32.ofNat t + Int32.ofNat o.length).toInt = 400 * t + o.length := by rw [t_add (by omega) (by omega), q1, el]
  have q3 : (400 * Int32.ofNat t + Int32.ofNat o.length).toNatClampNeg = 400 * t + o.length := by unfold Int32.toNatClampNeg; omega
  have q4 : Int32.ofNat o.length + 1 = Int32.ofNat (o.length + 1) := Int32.toInt_inj.1 (by rw [t_p1 (by omega) (by omega), el, t_on (by omega)]; rfl)
  refine ⟨wupI (wupI s 154 (400 * t + o.length) (rc v)) 155 t (Int32.ofNat (o.length + 1)), ?_, ⟨?_, ⟨?_, h16.2⟩, ?_, fun i x hx => ?_⟩, ?_⟩
  · unfold wX11_puts
    rw [h15, wld_E (by omega) (by omega), t_sbe, ent, h155, wst_E (by omega) (by omega), t_sbe, q3, wupI_n (by decide), h15, wld_E (by omega) (by omega), t_sbe, ent, wupI_n (by decide), h155, wst_E (by omega) (by omega), t_sbe, ent, q4, hv]
  · rw [wupI_n (by decide), wupI_n (by decide)]; exact h15
  · rw [wupI_n (by decide), wupI_n (by decide)]; exact h16.1
  · rw [wup_same, List.length_append]; rfl
  · rw [wupI_n (by decide), wupI_k]
    by_cases c : i = o.length
    · subst c
      rw [updI_s]
      rw [List.getElem?_append_right (Nat.le_refl _), Nat.sub_self] at hx
      rw [← Option.some.inj hx]
    · rw [updI_n (by omega)]
      have hi : i < o.length := by
        have := (List.getElem?_eq_some_iff.1 hx).1
        rw [List.length_append] at this
        have e1 : [v].length = 1 := rfl
        omega
      rw [List.getElem?_append_left hi] at hx
      exact h154 i x hx
  · refine (wA_I (B := fun k b => Nat.beq k 154 || (Nat.beq k 155 && Nat.beq b t)) rfl).trans (wA_I ?_)
    show (Nat.beq 155 154 || (Nat.beq 155 155 && Nat.beq t t)) = true
    rw [show Nat.beq 155 155 = true from rfl, Nat.beq_refl]
    rfl
theorem RLw.puts {x1 x2 v : Int32} (ht : t < 6) (h : RLw G S P N E K t k c o s) (hl : o.length < 400) (hv : x1 + (16 * x2) = rc v) : Tot (wX11_puts x1 x2 s) (fun s' => RLw G S P N E K t k c (o ++ [v]) s' ∧ wA (bLT t) s s') := by
  obtain ⟨s', e, h1, h2⟩ := puts_E ht h.2 hl hv
  have z : ∀ k b, k < 154 → s'.1 k b = s.1 k b := fun k b hk => h2 k b (by
    dsimp only
    rw [nq_false (show k ≠ 154 by omega), nq_false (show k ≠ 155 by omega)]
    rfl)
  refine ⟨s', e, ⟨h.1.go (funext fun b => z 153 b (by decide)) (z 152 1 (by decide)) (z 152 12 (by decide)) (z 152 13 (by decide)), h1⟩, h2.mono (fun k b hb => ?_)⟩
  simp only [Bool.or_eq_true, Bool.and_eq_true, Nat.beq_eq] at hb
  exact bLT_p (by omega)
theorem makes_E (g : RLw G S P N E K t k c o s) {p : Int32} : (c = 60 ∧ wX11_makes p s = some (0, wupI s 152 13 (fl 3 p))) ∨ (c < 60 ∧ ∃ s', wX11_makes p s = some (1, s') ∧ RLw G S P N E K t k (c + 1) o s' ∧ s'.1 152 12 = s.1 152 12 ∧ s'.1 152 14 = s.1 152 14 ∧ wA (bLT t) s s') := by
  obtain ⟨g1, h15, ⟨h16, hc⟩, h155, h154⟩ := g
  unfold wX11_makes
  by_cases c6 : c = 60
  · left
    refine ⟨c6, ?_⟩
    rw [if_pos (Int32.toInt_inj.1 (by rw [h16, c6]; rfl)), fails_R g1, t_sbe]
    rfl
  · right
    refine ⟨by omega, wupI s 152 16 (s.1 152 16 + 1), ?_, ⟨g1.go (wupI_n (by decide)) (wup_nb (by decide)) (wup_nb (by decide)) (wup_nb (by decide)), ?_, ⟨?_, by omega⟩, ?_, ?_⟩, wup_nb (by decide), wup_nb (by decide), wA_I (bLT_p (by omega))⟩
    · rw [if_neg (fun q => by rw [q] at h16; have e : (60 : Int32).toInt = 60 := rfl; omega)]
      rfl
    · rw [wup_nb (by decide)]; exact h15
    · rw [wup_same, t_p1 (by omega) (by omega), h16]; rfl
    · rw [wupI_n (by decide)]; exact h155
    · rw [wupI_n (by decide)]; exact h154
/-- which WORD of a VALUE -/
noncomputable def wh (x : Int32) : Int32 := if x = 23 then 0 else if x = 24 then 1 else if x = 25 then 2 else if x = 26 then 3 else if x = 27 then 4 else if x = 28 then 5 else if x = 29 then 6 else if x = 30 then 7 else -1
theorem wordHere_E (g : RS G S P N E K k s) (tk : TOKS G S P N E K) : wX11_wordHere s = some (wh (S k), nxt s (P k)) := by
  have eqw : nxt (nxt s (P k)) (P k) = nxt s (P k) := wup_wup
  have g1 := g.at tk
  unfold wX11_wordHere wh
  have w : ∀ (z : Nat) (c : Int64) (f : Int32 × wS → Option (Int32 × wS)), z < 16 → wpk z = c → (wX11_isWord c (nxt s (P k))).bind f = f (if S k = Int32.ofNat (15 + z) then 1 else 0, nxt s (P k)) := by
    intro z c f hz hc
    rw [isWord_R g1 tk hc hz, t_sbe, eqw]
  rw [isWord_R (c := 418548245860) (z := 8) g tk rfl (by decide), t_sbe]
  dsimp only
  rw [show Int32.ofNat (15 + 8) = 23 from rfl]
  by_cases c23 : S k = 23
  · rw [if_pos c23, if_neg (by decide), if_pos c23]
  · rw [if_neg c23, if_pos rfl, if_neg c23, w 9 1936024942 _ (by decide) rfl]
    dsimp only
    rw [show Int32.ofNat (15 + 9) = 24 from rfl]
    by_cases c24 : S k = 24
    · rw [if_pos c24, if_neg (by decide), if_pos c24]
    · rw [if_neg c24, if_pos rfl, if_neg c24, w 10 418497262196 _ (by decide) rfl]
      dsimp only
      rw [show Int32.ofNat (15 + 10) = 25 from rfl]
      by_cases c25 : S k = 25
      · rw [if_pos c25, if_neg (by decide), if_pos c25]
      · rw [if_neg c25, if_pos rfl, if_neg c25, w 11 25720 _ (by decide) rfl]
        dsimp only
        rw [show Int32.ofNat (15 + 11) = 26 from rfl]
        by_cases c26 : S k = 26
        · rw [if_pos c26, if_neg (by decide), if_pos c26]
        · rw [if_neg c26, if_pos rfl, if_neg c26, w 12 25721 _ (by decide) rfl]
          dsimp only
          rw [show Int32.ofNat (15 + 12) = 27 from rfl]
          by_cases c27 : S k = 27
          · rw [if_pos c27, if_neg (by decide), if_pos c27]
          · rw [if_neg c27, if_pos rfl, if_neg c27, w 13 521391927923 _ (by decide) rfl]
            dsimp only
            rw [show Int32.ofNat (15 + 13) = 28 from rfl]
            by_cases c28 : S k = 28
            · rw [if_pos c28, if_neg (by decide), if_pos c28]
            · rw [if_neg c28, if_pos rfl, if_neg c28, w 14 110472554705523 _ (by decide) rfl]
              dsimp only
              rw [show Int32.ofNat (15 + 14) = 29 from rfl]
              by_cases c29 : S k = 29
              · rw [if_pos c29, if_neg (by decide), if_pos c29]
              · rw [if_neg c29, if_pos rfl, if_neg c29, w 15 7039342 _ (by decide) rfl]
                dsimp only
                rw [show Int32.ofNat (15 + 15) = 30 from rfl]
                by_cases c30 : S k = 30
                · rw [if_pos c30, if_neg (by decide), if_pos c30]
                · rw [if_neg c30, if_pos rfl, if_neg c30]
theorem wh_ok {x : Int32} (h1 : ¬ x < 23) (h2 : ¬ 30 < x) : 0 ≤ (wh x).toInt ∧ 1 + 16 * wh x = rc x ∧ ¬ wh x < 0 := by
  have a := t_ge h1
  have b := t_ge h2
  rw [show (23 : Int32).toInt = 23 from rfl] at a
  rw [show (30 : Int32).toInt = 30 from rfl] at b
  have k : ∀ n : Nat, n < 8 → 0 ≤ (wh (Int32.ofInt (23 + n))).toInt ∧ 1 + 16 * wh (Int32.ofInt (23 + n)) = rc (Int32.ofInt (23 + n)) ∧ ¬ wh (Int32.ofInt (23 + n)) < 0 := by decide +kernel
  have e : x = Int32.ofInt (23 + ((x.toInt - 23).toNat : Int)) := by
    rw [show (23 + ((x.toInt - 23).toNat : Int)) = x.toInt by omega, Int32.ofInt_toInt]
  rw [e]
  exact k _ (by omega)
theorem wh_no {x : Int32} (h : x < 23 ∨ 30 < x) : wh x < 0 := by
  unfold wh
  have n : ∀ y : Int32, 23 ≤ y.toInt → y.toInt ≤ 30 → ¬ x = y := by
    intro y a b q
    subst q
    rcases h with h | h
    · have := t_lt h; rw [show (23 : Int32).toInt = 23 from rfl] at this; omega
    · have := t_lt h; rw [show (30 : Int32).toInt = 30 from rfl] at this; omega
  rw [if_neg (n 23 (by decide) (by decide)), if_neg (n 24 (by decide) (by decide)), if_neg (n 25 (by decide) (by decide)), if_neg (n 26 (by decide) (by decide)), if_neg (n 27 (by decide) (by decide)), if_neg (n 28 (by decide) (by decide)), if_neg (n 29 (by decide) (by decide)), if_neg (n 30 (by decide) (by decide))]
  decide
theorem rc_num {n : Int32} (h0 : 0 ≤ n.toInt) (h1 : n.toInt ≤ 99999) : 0 + 16 * n = rc (100 + n) := by
  have e100 : (100 : Int32).toInt = 100 := rfl
  have e : (100 + n).toInt = 100 + n.toInt := by rw [t_add (by omega) (by omega), e100]
  unfold rc
  rw [if_pos (Int32.le_iff_toInt_le.2 (by omega)), Int32.zero_add, Int32.add_comm, Int32.add_sub_cancel]
/-- what a part of the reading comes to -/
theorem value_E (ht : t < 6) (tk : TOKS G S P N E K) (g : RLw G S P N E K t k c o s) (hl : o.length ≤ k) : Tot (wX11_value s) (fun q => (∃ e, vS S P N k c = .inl e ∧ q.1 = 0 ∧ q.2.1 152 13 = e) ∨ (∃ v, vS S P N k c = .inr v ∧ k < K ∧ q.1 = 1 ∧ RLw G S P N E K t (k + 1) (c + 1) (o ++ [v]) q.2 ∧ wA (bLT t) s q.2)) := by
  obtain ⟨gs, gk⟩ := id g
  have hT := gs.1.2.2.1
  have hK := tk.2.1
  have p := gs.p0 tk
  have g1 := gs.at tk
  have gk1 := gk.nx (v := P k)
  have eqw : nxt (nxt s (P k)) (P k) = nxt s (P k) := wup_wup
  have hd := dg_S tk hT.1 gs.2.2.2
  unfold wX11_value
  rw [see_R gs tk, t_sbe]
  dsimp only
  rw [nx_n]
  refine t_bind (isDigit_E g1.1 p.1) (fun t4 h4 => t_ite (fun c4 => ?_) (fun c4 => ?_))
  · have nd : ¬ S k = 2 := fun q => (h4.resolve_right (fun q => by rw [q.1] at c4; exact absurd c4 (by decide))).2 (hd.2 q)
    rw [wordHere_E g1 tk, t_sbe, eqw]
    dsimp only
    by_cases cw : S k < 23 ∨ 30 < S k
    · rw [if_pos (wh_no cw), fails_R g1, t_sbe]
      dsimp only
      refine t_bind (t_rtZ (v := 0) (Or.inl rfl)) (fun t14 h14 => t_some (Or.inl ⟨fl 0 (P k), ?_, h14, wup_same⟩))
      unfold vS
      rw [if_neg nd, if_pos cw]
    · obtain ⟨w0, w1, w2⟩ := wh_ok (fun q => cw (Or.inl q)) (fun q => cw (Or.inr q))
      have a := t_ge (fun q => cw (Or.inl q))
      rw [show (23 : Int32).toInt = 23 from rfl] at a
      rw [if_neg w2]
      rcases makes_E (p := P k) ⟨g1, gk1⟩ with ⟨c6, m1⟩ | ⟨c6, s', m1, m2, m3, -, m4⟩
      · rw [m1, t_sbe]
        dsimp only
        rw [if_pos rfl]
        refine t_some (Or.inl ⟨fl 3 (P k), ?_, rfl, wup_same⟩)
        unfold vS
        rw [if_neg nd, if_neg cw, if_pos c6]
      · rw [m1, t_sbe]
        dsimp only
        rw [if_neg (by decide)]
        obtain ⟨hkK, hpw⟩ := passWord_R m2.1 tk (by omega) (by rw [m3, nx_n])
        rw [hpw, t_sbe]
        have g2 : RLw G S P N E K t (k + 1) (c + 1) o (nxt s' (Int32.ofNat (E k))) := ⟨m2.1.behind tk hkK rfl, m2.2.nx⟩
        refine t_bind (g2.puts ht (by omega) w1) (fun s23 h23 => t_some (Or.inr ⟨S k, ?_, hkK, rfl, h23.1, ((wA_I (bLT_p (by omega))).trans m4).trans ((wA_I (bLT_p (by omega))).trans h23.2)⟩))
        unfold vS
        rw [if_neg nd, if_neg cw, if_neg (by omega)]
  · have yd : S k = 2 := hd.1 (h4.resolve_left (fun q => c4 q.1)).2
    have g1' := g1
    obtain ⟨a1, ⟨n, a2, a3⟩, a4, ak⟩ := g1'
    refine t_bind (numberHere_E a1 tk ak a2 a3 a4 (by decide)) (fun q hq => ?_)
    rcases hq with ⟨e, n1, q0, qe⟩ | ⟨n1, nS, rfl⟩
    · obtain ⟨t25, s26⟩ := q
      refine t_ite (fun _ => t_some (Or.inl ⟨e, ?_, rfl, qe⟩)) (fun c => absurd q0 c)
      unfold num at n1
      unfold vS
      rw [if_pos yd] at n1 ⊢
      by_cases cN : N k < 0 ∨ 99999 < N k
      · rw [if_pos cN] at n1 ⊢
        rw [Option.some.inj n1]
      · rw [if_neg cN] at n1; cases n1
    · dsimp only
      rw [if_neg (by decide)]
      obtain ⟨_, b1, b2⟩ := num_i n1
      rw [t_i0] at b1
      rw [show (99999 : Int32).toInt = 99999 from rfl] at b2
      have hkK : k < K := tk.ne0 ak (by rw [nS]; decide)
      have cN : ¬ (N k < 0 ∨ 99999 < N k) := by
        rintro (q | q)
        · have := t_lt q; rw [t_i0] at this; omega
        · have := t_lt q; rw [show (99999 : Int32).toInt = 99999 from rfl] at this; omega
      have g2 : RLw G S P N E K t (k + 1) c o (wupI (nxt (nxt s (P k)) (Int32.ofNat (E k))) 152 14 (N k)) := by
        have q := (RS.behind ⟨a1, ⟨n, a2, a3⟩, a4, ak⟩ tk hkK (v := Int32.ofNat (E k)) rfl)
        exact ⟨q.go (wupI_n (by decide)) (wup_nb (by decide)) (wup_nb (by decide)) (wup_nb (by decide)), gk1.nx.f14⟩
      rcases makes_E (p := P k) g2 with ⟨c6, m1⟩ | ⟨c6, s', m1, m2, -, m3, m4⟩
      · rw [m1, t_sbe]
        dsimp only
        rw [if_pos rfl]
        refine t_some (Or.inl ⟨fl 3 (P k), ?_, rfl, wup_same⟩)
        unfold vS
        rw [if_pos yd, if_neg cN, if_pos c6]
      · rw [m1, t_sbe]
        dsimp only
        rw [if_neg (by decide), m3, wup_same]
        refine t_bind (m2.puts ht (by omega) (rc_num b1 b2)) (fun s34 h34 => t_some (Or.inr ⟨100 + N k, ?_, hkK, rfl, h34.1, (((wA_I (bLT_p (by omega))).trans (wA_I (bLT_p (by omega)))).trans (wA_I (bLT_p (by omega)))).trans (m4.trans h34.2)⟩))
        unfold vS
        rw [if_pos yd, if_neg cN, if_neg (by omega)]
theorem bsg_8 (x d : Int32) : bsg x d = 8 ↔ x = 42 := by
  unfold bsg
  constructor
  · repeat' (first | (intro q; exact absurd q (by decide)) | (intro _; assumption) | split)
  · intro q; subst q; rfl
theorem bsg_9 (x d : Int32) : bsg x d = 9 ↔ x = 47 := by
  unfold bsg
  constructor
  · repeat' (first | (intro q; exact absurd q (by decide)) | (intro _; assumption) | split)
  · intro q; subst q; rfl
theorem bsg_6 (x d : Int32) : bsg x d = 6 ↔ x = 43 := by
  unfold bsg
  constructor
  · repeat' (first | (intro q; exact absurd q (by decide)) | (intro _; assumption) | split)
  · intro q; subst q; rfl
theorem bsg_7 (x d : Int32) : bsg x d = 7 ↔ x = 45 := by
  unfold bsg
  constructor
  · repeat' (first | (intro q; exact absurd q (by decide)) | (intro _; assumption) | split)
  · intro q; subst q; rfl
/-- the raw byte where it stands -/
theorem raw_R (g : RS G S P N E K k s) (tk : TOKS G S P N E K) (hk : k < K) (hn : s.1 152 12 = P k) : ∃ x, wldI s 153 400 (s.1 152 12) = some x ∧ ∀ c : Int32, 0 ≤ c.toInt → c.toInt < 128 → (x = c ↔ bt G (P k).toNatClampNeg = c) := by
  have p := g.p0 tk
  have hT := g.1.2.2.1
  have hle := (tk.1 k hk).2.1.le.1
  have hc := t_cln p.1
  refine ⟨s.1 153 (P k).toNatClampNeg, by rw [hn]; exact wld_E p.1 (by omega), fun c c0 c1 => ?_⟩
  rw [g.1.1]
  exact (bt_eq g.1.2.2.2 hle c0 c1).symm
/-- behind a sign of one byte -/
theorem step_R (g : RLw G S P N E K t k c o s) (tk : TOKS G S P N E K) (h3 : 3 ≤ (S k).toInt) (h14 : (S k).toInt ≤ 14) (h11 : ¬ S k = 11) (h13 : ¬ S k = 13) (hn : s.1 152 12 = P k) : k < K ∧ RLw G S P N E K t (k + 1) c o (wupI s 152 12 (s.1 152 12 + 1)) := by
  obtain ⟨o1, o2⟩ := one_R g.1 tk h3 h14 h11 h13
  refine ⟨o1, ?_, g.2.nx⟩
  rw [hn, o2]
  exact g.1.behind tk o1 rfl
theorem term_h9_E (ht : t < 6) (tk : TOKS G S P N E K) : ∀ (n : Nat) {k c : Nat} {o : List Int32} {s : wS}, RLw G S P N E K t k c o s → o.length ≤ k → K - k < n → Tot (wX11_term_h9 n s) (fun z => (∃ u e, z = .inr u ∧ u.1 152 13 = e ∧ ∀ w, Ev (sst S P N) (k, c, w, o) (.inl e)) ∨ (∃ u k' c' o', z = .inl u ∧ RLw G S P N E K t k' c' o' u ∧ wA (bLT t) s u ∧ (¬ S k' = 8 ∧ ¬ S k' = 9) ∧ (k ≤ k' ∧ o'.length + k ≤ o.length + k' ∧ o.length ≤ o'.length) ∧ ∀ w r, Ev (sst S P N) (k', c', w, o') r → Ev (sst S P N) (k, c, w, o) r)) := by
  intro n
  induction n with
  | zero => intro k c o s _ _ hm; exact absurd hm (by omega)
  | succ n ih =>
    intro k c o s g hl hm
    have hk := g.1.2.2.2
    have hK := tk.2.1
    have hT := g.1.1.2.2.1
    have g1 : RLw G S P N E K t k c o (nxt s (P k)) := ⟨g.1.at tk, g.2.nx⟩
    have eqw : nxt (nxt s (P k)) (P k) = nxt s (P k) := wup_wup
    have s8 := seen_S (c := 42) (g := 8) tk hk bsg_8 (by decide) (by decide) (by decide)
    have s9 := seen_S (c := 47) (g := 9) tk hk bsg_9 (by decide) (by decide) (by decide)
    have go : ∀ y : Int32, (S k = 8 ∨ S k = 9) → y + 16 * 0 = rc (S k) → Tot (wX11_term_j46 (wX11_term_h9 n) y (nxt s (P k))) (fun z => (∃ u e, z = .inr u ∧ u.1 152 13 = e ∧ ∀ w, Ev (sst S P N) (k, c, w, o) (.inl e)) ∨ (∃ u k' c' o', z = .inl u ∧ RLw G S P N E K t k' c' o' u ∧ wA (bLT t) s u ∧ (¬ S k' = 8 ∧ ¬ S k' = 9) ∧ (k ≤ k' ∧ o'.length + k ≤ o.length + k' ∧ o.length ≤ o'.length) ∧ ∀ w r, Ev (sst S P N) (k', c', w, o') r → Ev (sst S P N) (k, c, w, o) r)) := by
      intro y h89 hy
      obtain ⟨hkK, g2⟩ := step_R g1 tk (by rcases h89 with q | q <;> rw [q] <;> decide) (by rcases h89 with q | q <;> rw [q] <;> decide) (by rcases h89 with q | q <;> rw [q] <;> decide) (by rcases h89 with q | q <;> rw [q] <;> decide) nx_n
      unfold wX11_term_j46
      show Tot ((wX11_value (wupI (nxt s (P k)) 152 12 ((nxt s (P k)).1 152 12 + 1))).bind _) _
      refine t_bind (value_E ht tk g2 (by omega)) (fun q hq => ?_)
      obtain ⟨t12, s13⟩ := q
      have a2 : wA (bLT t) s (wupI (nxt s (P k)) 152 12 ((nxt s (P k)).1 152 12 + 1)) := (wA_I (bLT_p (by omega))).trans (wA_I (bLT_p (by omega)))
      rcases hq with ⟨e, v1, q0, qe⟩ | ⟨v, v1, v2, q0, v4, v5⟩
      · dsimp only at q0 qe ⊢
        rw [if_pos q0]
        refine t_some (Or.inl ⟨s13, e, rfl, qe, fun w => Ev.ret ?_⟩)
        unfold sst
        dsimp only
        rw [if_pos h89, v1]
      · dsimp only at q0 v4 v5 ⊢
        rw [if_neg (by rw [q0]; decide)]
        have l1 : (o ++ [v]).length = o.length + 1 := by rw [List.length_append]; rfl
        refine t_bind (v4.puts ht (by omega) hy) (fun s17 h17 => ?_)
        have l2 : (o ++ [v] ++ [S k]).length = o.length + 2 := by rw [List.length_append, l1]; rfl
        refine t_mono (ih (k := k + 2) h17.1 (by omega) (by omega)) (fun z hz => ?_)
        have st : ∀ w, sst S P N (k, c, w, o) = .inl (k + 2, c + 1, w, o ++ [v] ++ [S k]) := by
          intro w
          unfold sst
          dsimp only
          rw [if_pos h89, v1]
        rcases hz with ⟨u, e, z1, z2, z3⟩ | ⟨u, k', c', o', z1, z2, z3, z4, ⟨z5, z6, z7⟩, z8⟩
        · exact Or.inl ⟨u, e, z1, z2, fun w => Ev.step (st w) (z3 w)⟩
        · exact Or.inr ⟨u, k', c', o', z1, z2, ((a2.trans v5).trans h17.2).trans z3, z4, ⟨by omega, by omega, by omega⟩, fun w r hr => Ev.step (st w) (z8 w r hr)⟩
    rw [wX11_term_h9, see_R g.1 tk, t_sbe]
    dsimp only
    by_cases c8 : S k = 8
    · rw [if_pos (s8.2 c8)]
      unfold wX11_term_j27
      have hkK : k < K := tk.ne0 hk (by rw [c8]; decide)
      obtain ⟨x, e1, e2⟩ := raw_R g1.1 tk hkK nx_n
      rw [e1, t_sbe, if_pos ((e2 42 (by decide) (by decide)).2 ((byte_S tk hkK bsg_8 (by decide) (by decide) (by decide)).2 c8))]
      exact go 4 (Or.inl c8) (by rw [c8]; decide)
    · rw [if_neg (fun q => c8 (s8.1 q)), see_R g1.1 tk, t_sbe, eqw]
      dsimp only
      by_cases c9 : S k = 9
      · rw [if_pos (s9.2 c9)]
        unfold wX11_term_j27
        have hkK : k < K := tk.ne0 hk (by rw [c9]; decide)
        obtain ⟨x, e1, e2⟩ := raw_R g1.1 tk hkK nx_n
        rw [e1, t_sbe, if_neg (fun q => c8 ((byte_S tk hkK bsg_8 (by decide) (by decide) (by decide)).1 ((e2 42 (by decide) (by decide)).1 q)))]
        exact go 5 (Or.inr c9) (by rw [c9]; decide)
      · rw [if_neg (fun q => c9 (s9.1 q))]
        exact t_some (Or.inr ⟨_, k, c, o, rfl, g1, wA_I (bLT_p (by omega)), ⟨c8, c9⟩, ⟨Nat.le_refl _, Nat.le_refl _, Nat.le_refl _⟩, fun w r hr => hr⟩)
theorem term_E (ht : t < 6) (tk : TOKS G S P N E K) (g : RLw G S P N E K t k c o s) (hl : o.length ≤ k) : Tot (wX11_term s) (fun q => (∃ e, q.1 = 0 ∧ q.2.1 152 13 = e ∧ (vS S P N k c = .inl e ∨ ∃ v, vS S P N k c = .inr v ∧ ∀ w, Ev (sst S P N) (k + 1, c + 1, w, o ++ [v]) (.inl e))) ∨ (∃ v k' c' o', vS S P N k c = .inr v ∧ q.1 = 1 ∧ RLw G S P N E K t k' c' o' q.2 ∧ wA (bLT t) s q.2 ∧ (¬ S k' = 8 ∧ ¬ S k' = 9) ∧ (k < k' ∧ o'.length + k ≤ o.length + k' ∧ o.length < o'.length) ∧ ∀ w r, Ev (sst S P N) (k', c', w, o') r → Ev (sst S P N) (k + 1, c + 1, w, o ++ [v]) r)) := by
  have hK := tk.2.1
  have hT := g.1.1.2.2.1
  unfold wX11_term
  refine t_bind (value_E ht tk g hl) (fun q hq => ?_)
  obtain ⟨t1, s2⟩ := q
  rcases hq with ⟨e, v1, q0, qe⟩ | ⟨v, v1, v2, q0, v4, v5⟩
  · dsimp only at q0 qe ⊢
    rw [if_pos q0]
    exact t_some (Or.inl ⟨e, rfl, qe, Or.inl v1⟩)
  · dsimp only at q0 v4 v5 ⊢
    rw [if_neg (by rw [q0]; decide)]
    have l1 : (o ++ [v]).length = o.length + 1 := by rw [List.length_append]; rfl
    refine t_bind (term_h9_E ht tk wFuel v4 (by omega) (by
      have e : wFuel = 1099511627776 := rfl
      omega)) (fun z hz => ?_)
    rcases hz with ⟨u, e, rfl, z2, z3⟩ | ⟨u, k', c', o', rfl, z2, z3, z4, ⟨z5, z6, z7⟩, z8⟩
    · exact t_some (Or.inl ⟨e, rfl, z2, Or.inr ⟨v, v1, z3⟩⟩)
    · exact t_some (Or.inr ⟨v, k', c', o', v1, rfl, z2, v5.trans z3, z4, ⟨by omega, by omega, by omega⟩, z8⟩)
theorem sum_h9_E (ht : t < 6) (tk : TOKS G S P N E K) : ∀ (n : Nat) {k c : Nat} {o : List Int32} {s : wS}, RLw G S P N E K t k c o s → o.length ≤ k → (¬ S k = 8 ∧ ¬ S k = 9) → K - k < n → Tot (wX11_sum_h9 n s) (fun z => (∃ u e, z = .inr u ∧ u.1 152 13 = e ∧ ∀ w o1, o1 ++ wl w = o → Ev (sst S P N) (k, c, w, o1) (.inl e)) ∨ (∃ u k' c' o', z = .inl u ∧ RLw G S P N E K t k' c' o' u ∧ wA (bLT t) s u ∧ (k ≤ k' ∧ o'.length + k ≤ o.length + k' ∧ o.length ≤ o'.length) ∧ ∀ w o1, o1 ++ wl w = o → Ev (sst S P N) (k, c, w, o1) (.inr (k', c', o')))) := by
  intro n
  induction n with
  | zero => intro k c o s _ _ _ hm; exact absurd hm (by omega)
  | succ n ih =>
    intro k c o s g hl n89 hm
    have hk := g.1.2.2.2
    have hK := tk.2.1
    have hT := g.1.1.2.2.1
    have g1 : RLw G S P N E K t k c o (nxt s (P k)) := ⟨g.1.at tk, g.2.nx⟩
    have eqw : nxt (nxt s (P k)) (P k) = nxt s (P k) := wup_wup
    have s6 := seen_S (c := 43) (g := 6) tk hk bsg_6 (by decide) (by decide) (by decide)
    have s7 := seen_S (c := 45) (g := 7) tk hk bsg_7 (by decide) (by decide) (by decide)
    have n89' : ¬ (S k = 8 ∨ S k = 9) := fun q => q.elim n89.1 n89.2
    have go : ∀ y : Int32, (S k = 6 ∨ S k = 7) → y + 16 * 0 = rc (S k) → Tot (wX11_sum_j46 (wX11_sum_h9 n) y (nxt s (P k))) (fun z => (∃ u e, z = .inr u ∧ u.1 152 13 = e ∧ ∀ w o1, o1 ++ wl w = o → Ev (sst S P N) (k, c, w, o1) (.inl e)) ∨ (∃ u k' c' o', z = .inl u ∧ RLw G S P N E K t k' c' o' u ∧ wA (bLT t) s u ∧ (k ≤ k' ∧ o'.length + k ≤ o.length + k' ∧ o.length ≤ o'.length) ∧ ∀ w o1, o1 ++ wl w = o → Ev (sst S P N) (k, c, w, o1) (.inr (k', c', o')))) := by
      intro y h67 hy
      have Sk0 : ¬ S k = 0 := fun q => by rw [q] at h67; rcases h67 with q | q <;> exact absurd q (by decide)
      obtain ⟨hkK, g2⟩ := step_R g1 tk (by rcases h67 with q | q <;> rw [q] <;> decide) (by rcases h67 with q | q <;> rw [q] <;> decide) (by rcases h67 with q | q <;> rw [q] <;> decide) (by rcases h67 with q | q <;> rw [q] <;> decide) nx_n
      unfold wX11_sum_j46
      show Tot ((wX11_term (wupI (nxt s (P k)) 152 12 ((nxt s (P k)).1 152 12 + 1))).bind _) _
      refine t_bind (term_E ht tk g2 (by omega)) (fun q hq => ?_)
      obtain ⟨t12, s13⟩ := q
      have a2 : wA (bLT t) s (wupI (nxt s (P k)) 152 12 ((nxt s (P k)).1 152 12 + 1)) := (wA_I (bLT_p (by omega))).trans (wA_I (bLT_p (by omega)))
      have st : ∀ v w o1, o1 ++ wl w = o → vS S P N (k + 1) c = .inr v → sst S P N (k, c, w, o1) = .inl (k + 2, c + 1, S k, o ++ [v]) := by
        intro v w o1 ho hv
        unfold sst
        dsimp only
        rw [if_neg n89', if_pos h67, hv, ho]
      rcases hq with ⟨e, q0, qe, h1⟩ | ⟨v, k', c', o', v1, q0, v4, v5, v6, ⟨v7, v8, v9⟩, v10⟩
      · dsimp only at q0 qe ⊢
        rw [if_pos q0]
        refine t_some (Or.inl ⟨s13, e, rfl, qe, fun w o1 ho => ?_⟩)
        rcases h1 with h1 | ⟨v, h1, h2⟩
        · refine Ev.ret ?_
          unfold sst
          dsimp only
          rw [if_neg n89', if_pos h67, h1]
        · exact Ev.step (st v w o1 ho h1) (h2 (S k))
      · dsimp only at q0 v4 v5 ⊢
        rw [if_neg (by rw [q0]; decide)]
        have hk' := v4.1.2.2.2
        refine t_bind (v4.puts ht (by omega) hy) (fun s17 h17 => ?_)
        have l2 : (o' ++ [S k]).length = o'.length + 1 := by rw [List.length_append]; rfl
        refine t_mono (ih h17.1 (by omega) v6 (by omega)) (fun z hz => ?_)
        rcases hz with ⟨u, e, z1, z2, z3⟩ | ⟨u, k'', c'', o'', z1, z2, z3, ⟨z5, z6, z7⟩, z8⟩
        · exact Or.inl ⟨u, e, z1, z2, fun w o1 ho => Ev.step (st v w o1 ho v1) (v10 _ _ (z3 (S k) o' (by rw [wl_1 Sk0])))⟩
        · exact Or.inr ⟨u, k'', c'', o'', z1, z2, ((a2.trans v5).trans h17.2).trans z3, ⟨by omega, by omega, by omega⟩, fun w o1 ho => Ev.step (st v w o1 ho v1) (v10 _ _ (z8 (S k) o' (by rw [wl_1 Sk0])))⟩
    rw [wX11_sum_h9, see_R g.1 tk, t_sbe]
    dsimp only
    by_cases c6 : S k = 6
    · rw [if_pos (s6.2 c6)]
      unfold wX11_sum_j27
      have hkK : k < K := tk.ne0 hk (by rw [c6]; decide)
      obtain ⟨x, e1, e2⟩ := raw_R g1.1 tk hkK nx_n
      rw [e1, t_sbe, if_pos ((e2 43 (by decide) (by decide)).2 ((byte_S tk hkK bsg_6 (by decide) (by decide) (by decide)).2 c6))]
      exact go 2 (Or.inl c6) (by rw [c6]; decide)
    · rw [if_neg (fun q => c6 (s6.1 q)), see_R g1.1 tk, t_sbe, eqw]
      dsimp only
      by_cases c7 : S k = 7
      · rw [if_pos (s7.2 c7)]
        unfold wX11_sum_j27
        have hkK : k < K := tk.ne0 hk (by rw [c7]; decide)
        obtain ⟨x, e1, e2⟩ := raw_R g1.1 tk hkK nx_n
        rw [e1, t_sbe, if_neg (fun q => c6 ((byte_S tk hkK bsg_6 (by decide) (by decide) (by decide)).1 ((e2 43 (by decide) (by decide)).1 q)))]
        exact go 3 (Or.inr c7) (by rw [c7]; decide)
      · rw [if_neg (fun q => c7 (s7.1 q))]
        refine t_some (Or.inr ⟨_, k, c, o, rfl, g1, wA_I (bLT_p (by omega)), ⟨Nat.le_refl _, Nat.le_refl _, Nat.le_refl _⟩, fun w o1 ho => Ev.ret ?_⟩)
        unfold sst
        dsimp only
        rw [if_neg n89', if_neg (fun q => q.elim c6 c7), ho]
theorem sum_E (ht : t < 6) (tk : TOKS G S P N E K) (g : RLw G S P N E K t k c o s) (hl : o.length ≤ k) : Tot (wX11_sum s) (fun q => (∃ e, SumE S P N k c o (.inl e) ∧ q.1 = 0 ∧ q.2.1 152 13 = e) ∨ (∃ k' c' o', SumE S P N k c o (.inr (k', c', o')) ∧ q.1 = 1 ∧ RLw G S P N E K t k' c' o' q.2 ∧ wA (bLT t) s q.2 ∧ (k < k' ∧ o'.length + k ≤ o.length + k' ∧ o.length < o'.length))) := by
  have hK := tk.2.1
  have hT := g.1.1.2.2.1
  unfold wX11_sum
  refine t_bind (term_E ht tk g hl) (fun q hq => ?_)
  obtain ⟨t1, s2⟩ := q
  rcases hq with ⟨e, q0, qe, h1⟩ | ⟨v, k', c', o', v1, q0, v4, v5, v6, ⟨v7, v8, v9⟩, v10⟩
  · dsimp only at q0 qe ⊢
    rw [if_pos q0]
    refine t_some (Or.inl ⟨e, ?_, rfl, qe⟩)
    rcases h1 with h1 | ⟨v, h1, h2⟩
    · exact Or.inl ⟨e, h1, rfl⟩
    · exact Or.inr ⟨v, h1, h2 0⟩
  · dsimp only at q0 v4 v5 ⊢
    rw [if_neg (by rw [q0]; decide)]
    refine t_bind (sum_h9_E ht tk wFuel v4 (by omega) v6 (by
      have e : wFuel = 1099511627776 := rfl
      omega)) (fun z hz => ?_)
    have w0 : ∀ o1 : List Int32, o1 ++ wl 0 = o1 := fun o1 => by rw [show wl 0 = [] from rfl, List.append_nil]
    rcases hz with ⟨u, e, rfl, z2, z3⟩ | ⟨u, k'', c'', o'', rfl, z2, z3, ⟨z5, z6, z7⟩, z8⟩
    · exact t_some (Or.inl ⟨e, Or.inr ⟨v, v1, v10 _ _ (z3 0 o' (w0 _))⟩, rfl, z2⟩)
    · exact t_some (Or.inr ⟨k'', c'', o'', Or.inr ⟨v, v1, v10 _ _ (z8 0 o' (w0 _))⟩, rfl, z2, v5.trans z3, ⟨by omega, by omega, by omega⟩⟩)
end RSM
end
section
/-! The reference compares; its stack of what is open. -/
/-- a FACT without not and brackets -/
noncomputable def cmpV (S P N : Nat → Int32) (k c : Nat) (o : List Int32) : sR :=
  match sumV S P N k c o with
  | .inl e => .inl e
  | .inr y => if S y.1 < 10 ∨ 14 < S y.1 then .inl (fl 0 (P y.1)) else if y.2.1 = 60 then .inl (fl 3 (P y.1)) else (match sumV S P N (y.1 + 1) (y.2.1 + 1) y.2.2 with
    | .inl e => .inl e
    | .inr z => .inr (z.1, z.2.1, z.2.2 ++ [S y.1]))
theorem tst_cmp {S P N : Nat → Int32} {k c : Nat} {o q : List Int32} (h : ¬ (S k = 22 ∨ S k = 4)) : tst S P N (true, q, k, c, o) = (match cmpV S P N k c o with
    | .inl e => .inr (.inl e)
    | .inr z => .inl (false, (stl 3 q z.2.2).1, z.1, z.2.1, (stl 3 q z.2.2).2)) := by
  unfold tst cmpV
  dsimp only
  rw [if_pos rfl, if_neg h]
  cases sumV S P N k c o with
  | inl e => rfl
  | inr y =>
    dsimp only
    by_cases c1 : S y.1 < 10 ∨ 14 < S y.1
    · rw [if_pos c1, if_pos c1]
    · rw [if_neg c1, if_neg c1]
      by_cases c2 : y.2.1 = 60
      · rw [if_pos c2, if_pos c2]
      · rw [if_neg c2, if_neg c2]
        cases sumV S P N (y.1 + 1) (y.2.1 + 1) y.2.2 with
        | inl e => rfl
        | inr z => rfl
/-- a sign on the reference's stack -/
noncomputable def ro (x : Int32) : Int32 := if x = 22 then 11 else if x = 4 then 91 else if x = 21 then 12 else if x = 20 then 13 else 0
noncomputable def okq (q : List Int32) : Prop := ∀ x, x ∈ q → x = 22 ∨ x = 4 ∨ x = 21 ∨ x = 20
noncomputable def STK : List Int32 → (Nat → Int32) → Prop
  | [], _ => True
  | x :: q, f => f q.length = ro x ∧ STK q f
theorem STK.upd {v : Int32} {n : Nat} {f : Nat → Int32} : ∀ {q : List Int32}, q.length ≤ n → STK q f → STK q (upd f n v) := by
  intro q
  induction q with
  | nil => intro _ _; exact trivial
  | cons x q ih =>
    intro h g
    have hl : q.length + 1 ≤ n := h
    exact ⟨by rw [updI_n (by omega)]; exact g.1, ih (by omega) g.2⟩
/-- a TEST is read -/
noncomputable def RTs (G : wS) (S P N : Nat → Int32) (E : Nat → Nat) (K t k c : Nat) (o q : List Int32) (s : wS) : Prop := RLw G S P N E K t k c o s ∧ s.1 152 20 = Int32.ofNat q.length ∧ STK q (s.1 160) ∧ (s.1 152 17).toInt = deep q ∧ okq q ∧ o.length + q.length ≤ k
section RCM
variable {G : wS} {S P N : Nat → Int32} {E : Nat → Nat} {K t k c : Nat} {o q : List Int32} {s : wS}
theorem deep_le : ∀ {q : List Int32}, deep q ≤ q.length := by
  intro q
  induction q with
  | nil => exact Nat.le_refl _
  | cons x q ih =>
    show (if x = 22 ∨ x = 4 then 1 else 0) + deep q ≤ q.length + 1
    by_cases c : x = 22 ∨ x = 4
    · rw [if_pos c]; omega
    · rw [if_neg c]; omega
/-- frames that leave the stack alone -/
theorem RTs.go {s' : wS} (g : RTs G S P N E K t k c o q s) {k' c' : Nat} {o' : List Int32} (h : RLw G S P N E K t k' c' o' s') (h20 : s'.1 152 20 = s.1 152 20) (h160 : s'.1 160 = s.1 160) (h17 : s'.1 152 17 = s.1 152 17) (hl : o'.length + q.length ≤ k') : RTs G S P N E K t k' c' o' q s' := by
  obtain ⟨g1, g2, g3, g4, g5, g6⟩ := g
  exact ⟨h, by rw [h20]; exact g2, by rw [h160]; exact g3, by rw [h17]; exact g4, g5, hl⟩
/-- what the reading of TESTS writes -/
noncomputable def bLU (t k b : Nat) : Bool := bLT t k b || (Nat.beq k 160 || (Nat.beq k 152 && (Nat.beq b 17 || Nat.beq b 20)))
theorem bLT_le_bLU {t : Nat} : ∀ k b, bLT t k b = true → bLU t k b = true := fun k b h => by unfold bLU; rw [h]; rfl
theorem bLU_p {t k b : Nat} (h : k = 154 ∨ (k = 155 ∧ b = t) ∨ k = 160 ∨ (k = 152 ∧ (b = 12 ∨ b = 13 ∨ b = 14 ∨ b = 16 ∨ b = 17 ∨ b = 20))) : bLU t k b = true := by
  simp only [bLU, bLT, Bool.or_eq_true, Bool.and_eq_true, Nat.beq_eq]
  omega
/-- sums leave the stack alone -/
theorem RTs.lt {s' : wS} (g : RTs G S P N E K t k c o q s) (a : wA (bLT t) s s') {k' c' : Nat} {o' : List Int32} (h : RLw G S P N E K t k' c' o' s') (hl : o'.length + q.length ≤ k') : RTs G S P N E K t k' c' o' q s' :=
  g.go h (a 152 20 rfl) (funext fun b => a 160 b rfl) (a 152 17 rfl) hl
theorem bsg_10 (x d : Int32) : (bsg x d = 10 ∨ bsg x d = 11) ↔ x = 60 := by
  unfold bsg
  constructor
  · repeat' (first | (rintro (q | q) <;> exact absurd q (by decide)) | (intro _; assumption) | split)
  · intro q
    subst q
    by_cases h : d = 61
    · right; rw [if_neg (by decide), if_neg (by decide), if_neg (by decide), if_neg (by decide), if_neg (by decide), if_pos rfl, if_pos h]
    · left; rw [if_neg (by decide), if_neg (by decide), if_neg (by decide), if_neg (by decide), if_neg (by decide), if_pos rfl, if_neg h]
theorem bsg_11 (x d : Int32) : bsg x d = 11 ↔ x = 60 ∧ d = 61 := by
  unfold bsg
  constructor
  · repeat' (first | (intro q; exact absurd q (by decide)) | (intro _; exact ⟨by assumption, by assumption⟩) | split)
  · rintro ⟨rfl, rfl⟩; rfl
theorem bsg_12 (x d : Int32) : bsg x d = 12 ↔ x = 61 := by
  unfold bsg
  constructor
  · repeat' (first | (intro q; exact absurd q (by decide)) | (intro _; assumption) | split)
  · intro q; subst q; rfl
theorem bsg_13 (x d : Int32) : bsg x d = 13 ↔ x = 62 ∧ d = 61 := by
  unfold bsg
  constructor
  · repeat' (first | (intro q; exact absurd q (by decide)) | (intro _; exact ⟨by assumption, by assumption⟩) | split)
  · rintro ⟨rfl, rfl⟩; rfl
theorem bsg_14 (x d : Int32) : bsg x d = 14 ↔ x = 62 ∧ ¬ d = 61 := by
  unfold bsg
  constructor
  · repeat' (first | (intro q; exact absurd q (by decide)) | (intro _; exact ⟨by assumption, by assumption⟩) | split)
  · rintro ⟨rfl, h⟩
    rw [if_neg (by decide), if_neg (by decide), if_neg (by decide), if_neg (by decide), if_neg (by decide), if_neg (by decide), if_neg (by decide), if_pos rfl, if_neg h]
/-- a sign of comparing, by its bytes -/
theorem cmp_S (tk : TOKS G S P N E K) (hk : k ≤ K) : (seen G P K k = 60 ∨ seen G P K k = 61 ∨ seen G P K k = 62) ↔ ¬ (S k < 10 ∨ 14 < S k) := by
  have e10 : (10 : Int32).toInt = 10 := rfl
  have e14 : (14 : Int32).toInt = 14 := rfl
  have n : ∀ x : Int32, ¬ (x < 10 ∨ 14 < x) ↔ (10 ≤ x.toInt ∧ x.toInt ≤ 14) := fun x => by
    constructor
    · intro q
      have a := t_ge (fun e => q (Or.inl e))
      have b := t_ge (fun e => q (Or.inr e))
      omega
    · rintro ⟨a, b⟩ (q | q)
      · have := t_lt q; omega
      · have := t_lt q; omega
  rw [n]
  unfold seen
  by_cases hkK : k < K
  · rw [if_pos hkK]
    obtain ⟨-, ⟨-, w | w | w⟩, -⟩ := tk.1 k hkK
    · have a := t_ge w.1.1
      rw [show (97 : Int32).toInt = 97 from rfl] at a
      constructor
      · intro q
        exfalso
        rcases q with q | q | q <;> rw [q] at a <;> exact absurd a (by decide)
      · intro q
        exfalso
        rcases WS_ge w.2.2.2 with x | x
        · rw [x, show (1 : Int32).toInt = 1 from rfl] at q; omega
        · omega
    · have a := t_ge w.1.1
      have b := t_ge w.1.2
      rw [show (57 : Int32).toInt = 57 from rfl] at b
      constructor
      · intro q
        exfalso
        rcases q with q | q | q <;> rw [q] at b <;> exact absurd b (by decide)
      · intro q
        exfalso
        rw [w.2.2.2.1, show (2 : Int32).toInt = 2 from rfl] at q
        omega
    · rw [w.2.2.2.2.1]
      generalize bt G (P k).toNatClampNeg = x
      generalize bt G ((P k).toNatClampNeg + 1) = d
      constructor
      · rintro (q | q | q)
        · rcases (bsg_10 x d).2 q with r | r <;> rw [r] <;> decide
        · rw [(bsg_12 x d).2 q]; decide
        · by_cases hd : d = 61
          · rw [(bsg_13 x d).2 ⟨q, hd⟩]; decide
          · rw [(bsg_14 x d).2 ⟨q, hd⟩]; decide
      · intro q
        have c5 : (bsg x d).toInt = 10 ∨ (bsg x d).toInt = 11 ∨ (bsg x d).toInt = 12 ∨ (bsg x d).toInt = 13 ∨ (bsg x d).toInt = 14 := by omega
        rcases c5 with r | r | r | r | r
        · exact Or.inl ((bsg_10 x d).1 (Or.inl (Int32.toInt_inj.1 r)))
        · exact Or.inl ((bsg_10 x d).1 (Or.inr (Int32.toInt_inj.1 r)))
        · exact Or.inr (Or.inl ((bsg_12 x d).1 (Int32.toInt_inj.1 r)))
        · exact Or.inr (Or.inr ((bsg_13 x d).1 (Int32.toInt_inj.1 r)).1)
        · exact Or.inr (Or.inr ((bsg_14 x d).1 (Int32.toInt_inj.1 r)).1)
  · obtain rfl : k = K := by omega
    rw [if_neg hkK, tk.2.2.1, t_i0]
    constructor
    · intro q; rcases q with q | q | q <;> exact absurd q (by decide)
    · intro q; omega
/-- behind a sign of comparing: which of the three bytes, and whether = stands behind it -/
theorem cmp_step (g : RLw G S P N E K t k c o s) (tk : TOKS G S P N E K) (hn : s.1 152 12 = P k) (hs : ¬ (S k < 10 ∨ 14 < S k)) : k < K ∧ ∃ (x3 : Int32) (s' : wS), wX11_compare_j44 (seen G P K k) (P k) s = wX11_compare_j105 (seen G P K k) (P k) x3 s' ∧ RLw G S P N E K t (k + 1) c o s' ∧ wA (bLT t) s s' ∧ ((S k = 10 ∧ seen G P K k = 60 ∧ x3 = 0) ∨ (S k = 11 ∧ seen G P K k = 60 ∧ x3 = 1) ∨ (S k = 12 ∧ seen G P K k = 61 ∧ x3 = 0) ∨ (S k = 13 ∧ seen G P K k = 62 ∧ x3 = 1) ∨ (S k = 14 ∧ seen G P K k = 62 ∧ x3 = 0)) := by
  have p := g.1.p0 tk
  have hT := g.1.1.2.2.1
  have a := t_ge (fun e => hs (Or.inl e))
  have b := t_ge (fun e => hs (Or.inr e))
  rw [show (10 : Int32).toInt = 10 from rfl] at a
  rw [show (14 : Int32).toInt = 14 from rfl] at b
  have hpc := t_cln p.1
  rcases tk.kind g.1.2.2.2 with w | ⟨hk, w0, w | w | w⟩
  · rw [w.2.1, t_i0] at a; omega
  · exfalso
    rcases WS_ge w.2.2.2 with x | x
    · rw [x, show (1 : Int32).toInt = 1 from rfl] at a; omega
    · omega
  · exfalso
    rw [w.2.2.2.1, show (2 : Int32).toInt = 2 from rfl] at a; omega
  · refine ⟨hk, ?_⟩
    obtain ⟨w1, w2, w3, w4, w5, w6⟩ := w
    have sn : seen G P K k = bt G (P k).toNatClampNeg := by unfold seen; rw [if_pos hk]
    have hle := (tk.1 k hk).2.1.le
    have n1 : (P k + 1).toInt = (P k).toInt + 1 := t_p1 p.1 (by omega)
    have n1n : (P k + 1).toNatClampNeg = (P k).toNatClampNeg + 1 := by unfold Int32.toNatClampNeg; omega
    have one : ¬ (S k = 11 ∨ S k = 13) → RLw G S P N E K t (k + 1) c o (nxt s (P k + 1)) := fun h => by
      rw [if_neg h] at w6
      exact ⟨g.1.behind tk hk (Int32.toInt_inj.1 (by rw [n1, t_on (by omega)]; omega)), g.2.nx⟩
    have two : (S k = 11 ∨ S k = 13) → RLw G S P N E K t (k + 1) c o (nxt (nxt s (P k + 1)) (P k + 1 + 1)) := fun h => by
      rw [if_pos h] at w6
      have e : nxt (nxt s (P k + 1)) (P k + 1 + 1) = nxt s (P k + 1 + 1) := wup_wup
      rw [e]
      exact ⟨g.1.behind tk hk (Int32.toInt_inj.1 (by rw [t_p1 (by omega) (by omega), n1, t_on (by omega)]; omega)), g.2.nx⟩
    have A1 : wA (bLT t) s (nxt s (P k + 1)) := wA_I (bLT_p (by omega))
    have A2 : wA (bLT t) s (nxt (nxt s (P k + 1)) (P k + 1 + 1)) := A1.trans (wA_I (bLT_p (by omega)))
    have j44 : wX11_compare_j44 (seen G P K k) (P k) s = if seen G P K k = 61 then (wX11_compare_j89 (seen G P K k) (P k) (nxt s (P k + 1))) else (if P k + 1 < G.1 1 1 then ((wldI (nxt s (P k + 1)) 153 400 (P k + 1)).bind fun t29 => if t29 = 61 then (wX11_compare_j90 (seen G P K k) (P k) 1 (nxt s (P k + 1))) else (wX11_compare_j89 (seen G P K k) (P k) (nxt s (P k + 1)))) else (wX11_compare_j89 (seen G P K k) (P k) (nxt s (P k + 1)))) := by
      unfold wX11_compare_j44
      rw [hn]
      show (if seen G P K k = 61 then (wX11_compare_j89 (seen G P K k) (P k) (nxt s (P k + 1))) else (if ((nxt s (P k + 1)).1 152 12) < ((nxt s (P k + 1)).1 152 1) then ((wldI (nxt s (P k + 1)) 153 400 ((nxt s (P k + 1)).1 152 12)).bind fun t29 => if t29 = 61 then (wX11_compare_j90 (seen G P K k) (P k) 1 (nxt s (P k + 1))) else (wX11_compare_j89 (seen G P K k) (P k) (nxt s (P k + 1)))) else (wX11_compare_j89 (seen G P K k) (P k) (nxt s (P k + 1))))) = _
      rw [nx_n, (g.1.1.nx (v := P k + 1)).2.1]
    have j89 : ∀ x u, wX11_compare_j89 x (P k) u = wX11_compare_j105 x (P k) 0 u := fun x u => by
      unfold wX11_compare_j89 wX11_compare_j90
      rw [if_pos rfl]
    have j90 : ∀ x, wX11_compare_j90 x (P k) 1 (nxt s (P k + 1)) = wX11_compare_j105 x (P k) 1 (nxt (nxt s (P k + 1)) (P k + 1 + 1)) := fun x => by
      unfold wX11_compare_j90
      rw [if_neg (by decide), nx_n]
      rfl
    -- whether = stands behind
    have eq : ¬ seen G P K k = 61 → (bt G ((P k).toNatClampNeg + 1) = 61 → wX11_compare_j44 (seen G P K k) (P k) s = wX11_compare_j105 (seen G P K k) (P k) 1 (nxt (nxt s (P k + 1)) (P k + 1 + 1))) ∧ (¬ bt G ((P k).toNatClampNeg + 1) = 61 → wX11_compare_j44 (seen G P K k) (P k) s = wX11_compare_j105 (seen G P K k) (P k) 0 (nxt s (P k + 1))) := by
      intro h61
      rw [j44, if_neg h61]
      by_cases cT : P k + 1 < G.1 1 1
      · have hcT := t_lt cT
        rw [if_pos cT, wld_E (by omega) (by omega), t_sbe, n1n, (g.1.1.nx (v := P k + 1)).1]
        have hb := bt_eq (i := (P k).toNatClampNeg + 1) (c := 61) g.1.1.2.2.2 (by omega) (by decide) (by decide)
        constructor
        · intro q
          rw [if_pos (hb.1 q), j90]
        · intro q
          rw [if_neg (fun e => q (hb.2 e)), j89]
      · have hcT := t_ge cT
        rw [if_neg cT, j89]
        refine ⟨fun q => ?_, fun _ => rfl⟩
        have := bt_lt (G := G) (i := (P k).toNatClampNeg + 1) (by rw [q]; decide)
        omega
    have c5 : (S k).toInt = 10 ∨ (S k).toInt = 11 ∨ (S k).toInt = 12 ∨ (S k).toInt = 13 ∨ (S k).toInt = 14 := by omega
    rcases c5 with r | r | r | r | r
    · have r' : S k = 10 := Int32.toInt_inj.1 r
      have x60 : bt G (P k).toNatClampNeg = 60 := (bsg_10 _ _).1 (Or.inl (w5.symm.trans r'))
      have n61 : ¬ bt G ((P k).toNatClampNeg + 1) = 61 := fun q => by
        have := (bsg_11 _ _).2 ⟨x60, q⟩
        rw [← w5, r'] at this
        exact absurd this (by decide)
      have h61 : ¬ seen G P K k = 61 := by rw [sn, x60]; decide
      exact ⟨0, _, (eq h61).2 n61, one (by rw [r']; decide), A1, Or.inl ⟨r', by rw [sn, x60], rfl⟩⟩
    · have r' : S k = 11 := Int32.toInt_inj.1 r
      obtain ⟨x60, y61⟩ := (bsg_11 _ _).1 (w5.symm.trans r')
      have h61 : ¬ seen G P K k = 61 := by rw [sn, x60]; decide
      exact ⟨1, _, (eq h61).1 y61, two (Or.inl r'), A2, Or.inr (Or.inl ⟨r', by rw [sn, x60], rfl⟩)⟩
    · have r' : S k = 12 := Int32.toInt_inj.1 r
      have x61 : bt G (P k).toNatClampNeg = 61 := (bsg_12 _ _).1 (w5.symm.trans r')
      have h61 : seen G P K k = 61 := by rw [sn, x61]
      refine ⟨0, _, ?_, one (by rw [r']; decide), A1, Or.inr (Or.inr (Or.inl ⟨r', h61, rfl⟩))⟩
      rw [j44, if_pos h61, j89]
    · have r' : S k = 13 := Int32.toInt_inj.1 r
      obtain ⟨x60, y61⟩ := (bsg_13 _ _).1 (w5.symm.trans r')
      have h61 : ¬ seen G P K k = 61 := by rw [sn, x60]; decide
      exact ⟨1, _, (eq h61).1 y61, two (Or.inr r'), A2, Or.inr (Or.inr (Or.inr (Or.inl ⟨r', by rw [sn, x60], rfl⟩)))⟩
    · have r' : S k = 14 := Int32.toInt_inj.1 r
      obtain ⟨x60, y61⟩ := (bsg_14 _ _).1 (w5.symm.trans r')
      have h61 : ¬ seen G P K k = 61 := by rw [sn, x60]; decide
      exact ⟨0, _, (eq h61).2 y61, one (by rw [r']; decide), A1, Or.inr (Or.inr (Or.inr (Or.inr ⟨r', by rw [sn, x60], rfl⟩)))⟩
theorem compare_E (ht : t < 6) (tk : TOKS G S P N E K) (g : RLw G S P N E K t k c o s) (hl : o.length ≤ k) : Tot (wX11_compare s) (fun q => (∃ e, cmpV S P N k c o = .inl e ∧ q.1 = 0 ∧ q.2.1 152 13 = e) ∨ (∃ k' c' o', cmpV S P N k c o = .inr (k', c', o') ∧ q.1 = 1 ∧ RLw G S P N E K t k' c' o' q.2 ∧ wA (bLT t) s q.2 ∧ (k < k' ∧ o'.length + k ≤ o.length + k' ∧ o.length < o'.length))) := by
  have hK := tk.2.1
  have hT := g.1.1.2.2.1
  unfold wX11_compare
  refine t_bind (sum_E ht tk g hl) (fun q hq => ?_)
  obtain ⟨t1, s2⟩ := q
  rcases hq with ⟨e, h1, q0, qe⟩ | ⟨k1, c1, o1, h1, q0, g2, a2, ⟨b1, b2, b3⟩⟩
  · dsimp only at q0 qe ⊢
    rw [if_pos q0]
    refine t_some (Or.inl ⟨e, ?_, rfl, qe⟩)
    unfold cmpV
    rw [sumV_eq h1]
  · dsimp only at q0 g2 a2 ⊢
    rw [if_neg (by rw [q0]; decide)]
    have hk1 := g2.1.2.2.2
    rw [see_R g2.1 tk, t_sbe]
    dsimp only
    have g3 : RLw G S P N E K t k1 c1 o1 (nxt s2 (P k1)) := ⟨g2.1.at tk, g2.2.nx⟩
    have a3 : wA (bLT t) s (nxt s2 (P k1)) := a2.trans (wA_I (bLT_p (by omega)))
    rw [nx_n]
    have cs := cmp_S tk hk1
    by_cases hs : S k1 < 10 ∨ 14 < S k1
    · have n : ∀ v : Int32, v = 60 ∨ v = 61 ∨ v = 62 → ¬ seen G P K k1 = v := fun v hv q => by
        rw [← q] at hv
        exact cs.1 hv hs
      rw [if_neg (n 60 (Or.inl rfl)), if_neg (n 61 (Or.inr (Or.inl rfl))), if_neg (n 62 (Or.inr (Or.inr rfl))), fails_R g3.1, t_sbe]
      dsimp only
      refine t_bind (t_rtZ (v := 0) (Or.inl rfl)) (fun t10 h10 => t_some (Or.inl ⟨fl 0 (P k1), ?_, h10, wup_same⟩))
      unfold cmpV
      rw [sumV_eq h1]
      dsimp only
      rw [if_pos hs]
    · obtain ⟨hkK, x3, s', e1, g4, a4, hx⟩ := cmp_step g3 tk nx_n hs
      have all : (if seen G P K k1 = 60 then wX11_compare_j44 (seen G P K k1) (P k1) (nxt s2 (P k1)) else if seen G P K k1 = 61 then wX11_compare_j44 (seen G P K k1) (P k1) (nxt s2 (P k1)) else if seen G P K k1 = 62 then wX11_compare_j44 (seen G P K k1) (P k1) (nxt s2 (P k1)) else ((wX11_fails 0 (P k1) (nxt s2 (P k1))).bind fun (t33, s34) => (wrtZ t33).bind fun t36 => some (t36, s34))) = wX11_compare_j44 (seen G P K k1) (P k1) (nxt s2 (P k1)) := by
        rcases cs.2 hs with q | q | q
        · rw [if_pos q]
        · rw [if_neg (by rw [q]; decide), if_pos q]
        · rw [if_neg (by rw [q]; decide), if_neg (by rw [q]; decide), if_pos q]
      rw [all, e1]
      unfold wX11_compare_j105
      rcases makes_E (p := P k1) g4 with ⟨c6, m1⟩ | ⟨c6, s'', m1, m2, -, -, m4⟩
      · rw [m1, t_sbe]
        dsimp only
        rw [if_pos rfl]
        refine t_some (Or.inl ⟨fl 3 (P k1), ?_, rfl, wup_same⟩)
        unfold cmpV
        rw [sumV_eq h1]
        dsimp only
        rw [if_neg hs, if_pos c6]
      · rw [m1, t_sbe]
        dsimp only
        rw [if_neg (by decide)]
        have fin : ∀ y : Int32, 6 + y + 16 * 0 = rc (S k1) → Tot (wX11_compare_j152 y s'') (fun q => (∃ e, cmpV S P N k c o = .inl e ∧ q.1 = 0 ∧ q.2.1 152 13 = e) ∨ (∃ k' c' o', cmpV S P N k c o = .inr (k', c', o') ∧ q.1 = 1 ∧ RLw G S P N E K t k' c' o' q.2 ∧ wA (bLT t) s q.2 ∧ (k < k' ∧ o'.length + k ≤ o.length + k' ∧ o.length < o'.length))) := by
          intro y hy
          unfold wX11_compare_j152
          refine t_bind (sum_E ht tk m2 (by omega)) (fun q hq => ?_)
          obtain ⟨t18, s19⟩ := q
          rcases hq with ⟨e, h2, q0, qe⟩ | ⟨k2, c2, o2, h2, q0, g5, a5, ⟨d1, d2, d3⟩⟩
          · dsimp only at q0 qe ⊢
            rw [if_pos q0]
            refine t_some (Or.inl ⟨e, ?_, rfl, qe⟩)
            unfold cmpV
            rw [sumV_eq h1]
            dsimp only
            rw [if_neg hs, if_neg (by omega), sumV_eq h2]
          · dsimp only at q0 g5 a5 ⊢
            rw [if_neg (by rw [q0]; decide)]
            have hk2 := g5.1.2.2.2
            refine t_bind (g5.puts ht (by omega) hy) (fun s23 h23 => t_some (Or.inr ⟨k2, c2, o2 ++ [S k1], ?_, rfl, h23.1, (((a3.trans a4).trans m4).trans a5).trans h23.2, ⟨by omega, by rw [List.length_append]; show o2.length + 1 + k ≤ _; omega, by rw [List.length_append]; show _ < o2.length + 1; omega⟩⟩))
            unfold cmpV
            rw [sumV_eq h1]
            dsimp only
            rw [if_neg hs, if_neg (by omega), sumV_eq h2]
        rcases hx with ⟨x1, x2, rfl⟩ | ⟨x1, x2, rfl⟩ | ⟨x1, x2, rfl⟩ | ⟨x1, x2, rfl⟩ | ⟨x1, x2, rfl⟩
        · rw [if_pos x2, if_pos rfl]; exact fin 0 (by rw [x1]; decide)
        · rw [if_pos x2, if_neg (by decide)]; exact fin 1 (by rw [x1]; decide)
        · rw [if_neg (by rw [x2]; decide), if_pos x2]; exact fin 2 (by rw [x1]; decide)
        · rw [if_neg (by rw [x2]; decide), if_neg (by rw [x2]; decide), if_neg (by decide)]; exact fin 3 (by rw [x1]; decide)
        · rw [if_neg (by rw [x2]; decide), if_neg (by rw [x2]; decide), if_pos rfl]; exact fin 4 (by rw [x1]; decide)
/-- what waits on the stack is put -/
theorem strength_E {x : Int32} (h : x = 22 ∨ x = 4 ∨ x = 21 ∨ x = 20) : wX11_strength (ro x) s = some (Int32.ofNat (stC x)) := by
  unfold wX11_strength
  rcases h with rfl | rfl | rfl | rfl <;> rfl
theorem rc_ro {x : Int32} (h : x = 22 ∨ x = 21 ∨ x = 20) : ro x + 16 * 0 = rc x := by
  rcases h with rfl | rfl | rfl <;> decide
theorem settles_h0_E {m : Nat} {x1 : Int32} (ht : t < 6) (hm1 : 1 ≤ m) (hm3 : m ≤ 3) (hx : x1.toInt = m) (tk : TOKS G S P N E K) : ∀ (n : Nat) {o q : List Int32} {s : wS}, RTs G S P N E K t k c o q s → q.length < n → Tot (wX11_settles_h0 x1 n s) (fun s' => RTs G S P N E K t k c (stl m q o).2 (stl m q o).1 s' ∧ wA (bLU t) s s' ∧ s'.1 152 12 = s.1 152 12) := by
  intro n
  induction n with
  | zero => intro o q s _ hm; exact absurd hm (by omega)
  | succ n ih =>
    intro o q s g hn
    obtain ⟨g1, g2, g3, g4, g5, g6⟩ := id g
    have hk := g1.1.2.2.2
    have hK := tk.2.1
    have hT := g1.1.1.2.2.1
    have el : (Int32.ofNat q.length).toInt = q.length := t_on (by omega)
    rw [wX11_settles_h0, g2]
    cases q with
    | nil =>
      rw [if_neg (fun c => by have := t_lt c; rw [t_i0, el] at this; exact absurd this (by show ¬ (0 : Int) < (0 : Nat); omega))]
      exact t_some ⟨g, wA.refl, rfl⟩
    | cons x q =>
      have ql : (x :: q).length = q.length + 1 := rfl
      have hx4 := g5 x (List.mem_cons_self)
      rw [ql] at el g6 hn
      have e1 : (Int32.ofNat (q.length + 1) - 1).toInt = q.length := by
        rw [t_sub (by rw [show (1 : Int32).toInt = 1 from rfl]; omega) (by rw [show (1 : Int32).toInt = 1 from rfl]; omega), show (1 : Int32).toInt = 1 from rfl]
        omega
      have e1n : (Int32.ofNat (q.length + 1) - 1).toNatClampNeg = q.length := by unfold Int32.toNatClampNeg; omega
      have e1e : Int32.ofNat (q.length + 1) - 1 = Int32.ofNat q.length := Int32.toInt_inj.1 (by rw [e1, t_on (by omega)])
      rw [ql, if_pos (Int32.lt_iff_toInt_lt.2 (by rw [t_i0]; omega)), wld_E (by omega) (by omega), t_sbe, e1n, g3.1, strength_E hx4, t_sbe]
      have es : (Int32.ofNat (stC x)).toInt = stC x := t_on (by unfold stC; repeat' (first | decide | split))
      by_cases cs : Int32.ofNat (stC x) < x1
      · have := t_lt cs
        rw [es, hx] at this
        rw [if_pos cs, stl_stop (by omega)]
        exact t_some ⟨g, wA.refl, rfl⟩
      · have hcs := t_ge cs
        rw [es, hx] at hcs
        rw [if_neg cs, e1e]
        have hx3 : x = 22 ∨ x = 21 ∨ x = 20 := by
          rcases hx4 with r | r | r | r
          · exact Or.inl r
          · rw [r, show stC 4 = 0 from rfl] at hcs; omega
          · exact Or.inr (Or.inl r)
          · exact Or.inr (Or.inr r)
        show Tot ((wldI (wupI s 152 20 (Int32.ofNat q.length)) 160 400 ((wupI s 152 20 (Int32.ofNat q.length)).1 152 20)).bind _) _
        rw [wup_same, wld_E (by rw [t_on (by omega)]; omega) (by rw [t_on (by omega)]; omega), t_sbe, t_nc (by omega), wupI_n (by decide), g3.1]
        have h6 : RLw G S P N E K t k c o (wupI s 152 20 (Int32.ofNat q.length)) := ⟨g1.1.go (wupI_n (by decide)) (wup_nb (by decide)) (wup_nb (by decide)) (wup_nb (by decide)), g1.2.go (wup_nb (by decide)) (wup_nb (by decide)) (by rw [wupI_n (by decide)]) (wupI_n (by decide))⟩
        have p12 : (wupI s 152 20 (Int32.ofNat q.length)).1 152 12 = s.1 152 12 := wup_nb (by decide)
        obtain ⟨s9, e9, h9, a9⟩ := h6.puts ht (v := x) (x1 := ro x) (x2 := 0) (by omega) (rc_ro hx3)
        rw [e9, t_sbe]
        have z20 : s9.1 152 20 = Int32.ofNat q.length := by rw [a9 152 20 rfl, wup_same]
        have z160 : s9.1 160 = s.1 160 := by
          have : s9.1 160 = (wupI s 152 20 (Int32.ofNat q.length)).1 160 := funext fun b => a9 160 b rfl
          rw [this, wupI_n (by decide)]
        have z17 : s9.1 152 17 = s.1 152 17 := by rw [a9 152 17 rfl, wup_nb (by decide)]
        have z12 : s9.1 152 12 = s.1 152 12 := by
          obtain ⟨s9', e9', -, a9'⟩ := puts_E ht h6.2 (x1 := ro x) (x2 := 0) (v := x) (by omega) (rc_ro hx3)
          rw [e9] at e9'
          rw [Option.some.inj e9', a9' 152 12 rfl, p12]
        rw [z20, wld_E (by rw [t_on (by omega)]; omega) (by rw [t_on (by omega)]; omega), t_sbe, t_nc (by omega), z160, g3.1]
        have a69 : wA (bLU t) s s9 := (wA_I (bLU_p (by omega))).trans (a9.mono bLT_le_bLU)
        have lo : (o ++ [x]).length = o.length + 1 := by rw [List.length_append]; rfl
        have st : stl m (x :: q) o = stl m q (o ++ [x]) := by
          show (if m ≤ stC x then stl m q (o ++ [x]) else (x :: q, o)) = _
          rw [if_pos (by omega)]
        rw [st]
        by_cases c22 : x = 22
        · rw [if_pos (by rw [c22]; decide)]
          have d1 : deep (x :: q) = 1 + deep q := by
            show (if x = 22 ∨ x = 4 then 1 else 0) + deep q = _
            rw [if_pos (Or.inl c22)]
          rw [d1] at g4
          have dl := deep_le (q := q)
          show Tot (wX11_settles_h0 x1 n (wupI s9 152 17 (s9.1 152 17 - 1))) _
          have e17 : (s9.1 152 17 - 1).toInt = deep q := by
            rw [z17, t_sub (by rw [show (1 : Int32).toInt = 1 from rfl]; omega) (by rw [show (1 : Int32).toInt = 1 from rfl]; omega), show (1 : Int32).toInt = 1 from rfl]
            omega
          refine t_mono (ih (q := q) (o := o ++ [x]) ⟨⟨h9.1.go (wupI_n (by decide)) (wup_nb (by decide)) (wup_nb (by decide)) (wup_nb (by decide)), h9.2.go (wup_nb (by decide)) (wup_nb (by decide)) (by rw [wupI_n (by decide)]) (wupI_n (by decide))⟩, ?_, ?_, ?_, fun y hy => g5 y (List.mem_cons_of_mem _ hy), by omega⟩ (by omega)) (fun s' hs => ⟨hs.1, (a69.trans (wA_I (bLU_p (by omega)))).trans hs.2.1, ?_⟩)
          · rw [wup_nb (by decide)]; exact z20
          · rw [wupI_n (by decide), z160]; exact g3.2
          · rw [wup_same]; exact e17
          · rw [hs.2.2, wup_nb (by decide)]; exact z12
        · have nr : ¬ ro x = 11 := by
            rcases hx3 with r | r | r
            · exact absurd r c22
            · rw [r]; decide
            · rw [r]; decide
          rw [if_neg nr]
          have d1 : deep (x :: q) = deep q := by
            show (if x = 22 ∨ x = 4 then 1 else 0) + deep q = _
            rw [if_neg (fun e => by rcases hx3 with r | r | r <;> rw [r] at e <;> first | exact c22 r | exact absurd e (by decide)), Nat.zero_add]
          rw [d1] at g4
          refine t_mono (ih (q := q) (o := o ++ [x]) ⟨h9, z20, by rw [z160]; exact g3.2, by rw [z17]; exact g4, fun y hy => g5 y (List.mem_cons_of_mem _ hy), by omega⟩ (by omega)) (fun s' hs => ⟨hs.1, a69.trans hs.2.1, by rw [hs.2.2]; exact z12⟩)
theorem settles_E {m : Nat} {x1 : Int32} (ht : t < 6) (hm1 : 1 ≤ m) (hm3 : m ≤ 3) (hx : x1.toInt = m) (tk : TOKS G S P N E K) (g : RTs G S P N E K t k c o q s) : Tot (wX11_settles x1 s) (fun s' => RTs G S P N E K t k c (stl m q o).2 (stl m q o).1 s' ∧ wA (bLU t) s s' ∧ s'.1 152 12 = s.1 152 12) := by
  have hk := g.1.1.2.2.2
  have hK := tk.2.1
  have hT := g.1.1.1.2.2.1
  have gl := g.2.2.2.2.2
  unfold wX11_settles
  refine t_bind (settles_h0_E ht hm1 hm3 hx tk wFuel g (by
    have e : wFuel = 1099511627776 := rfl
    omega)) (fun s' hs => t_some hs)
end RCM
end
section
/-! The reference reads FACTS and TESTS. -/
section RTE
variable {G : wS} {S P N : Nat → Int32} {E : Nat → Nat} {K t k c : Nat} {o q : List Int32} {s : wS}
theorem ro_91 {x : Int32} (h : x = 22 ∨ x = 4 ∨ x = 21 ∨ x = 20) : ro x = 91 ↔ x = 4 := by
  rcases h with rfl | rfl | rfl | rfl <;> decide
theorem STK_91 {f : Nat → Int32} : ∀ {q : List Int32}, STK q f → okq q → ((∃ i, i < q.length ∧ f i = 91) ↔ (4 : Int32) ∈ q) := by
  intro q
  induction q with
  | nil =>
    intro _ _
    constructor
    · rintro ⟨i, hi, -⟩; exact absurd hi (Nat.not_lt_zero i)
    · intro h; cases h
  | cons x q ih =>
    intro h hk
    have ih' := ih h.2 (fun y hy => hk y (List.mem_cons_of_mem _ hy))
    have hx := ro_91 (hk x (List.mem_cons_self))
    constructor
    · rintro ⟨i, hi, e⟩
      by_cases c : i = q.length
      · rw [c, h.1] at e
        rw [hx.1 e]
        exact List.mem_cons_self
      · have hi' : i < q.length := by
          have : (x :: q).length = q.length + 1 := rfl
          omega
        exact List.mem_cons_of_mem _ (ih'.1 ⟨i, hi', e⟩)
    · intro h4
      rcases List.mem_cons.1 h4 with e | e
      · exact ⟨q.length, Nat.lt_succ_self _, by rw [h.1]; exact hx.2 e.symm⟩
      · obtain ⟨i, hi, e'⟩ := ih'.2 e
        exact ⟨i, Nat.lt_succ_of_lt hi, e'⟩
theorem isInside_h2_E {l : Nat} (h20 : s.1 152 20 = Int32.ofNat l) (hl : l ≤ 400) : ∀ (n : Nat) {i : Nat} {x1 : Int32}, x1 = Int32.ofNat i → i ≤ l → l - i < n → Tot (wX11_isInside_h2 s n x1) (fun z => (z = .inl () ∧ ¬ ∃ j, i ≤ j ∧ j < l ∧ s.1 160 j = 91) ∨ (z = .inr () ∧ ∃ j, i ≤ j ∧ j < l ∧ s.1 160 j = 91)) := by
  intro n
  induction n with
  | zero => intro i x1 _ _ hm; exact absurd hm (by omega)
  | succ n ih =>
    intro i x1 hx hi hm
    have ei : x1.toInt = i := by rw [hx, t_on (by omega)]
    have ein : x1.toNatClampNeg = i := by rw [hx, t_nc (by omega)]
    have el : (Int32.ofNat l).toInt = l := t_on (by omega)
    rw [wX11_isInside_h2, h20]
    refine t_ite (fun c => ?_) (fun c => ?_)
    · have hc := t_lt c
      rw [ei, el] at hc
      rw [wld_E (by omega) (by omega), t_sbe, ein]
      refine t_ite (fun c9 => t_some (Or.inr ⟨rfl, i, Nat.le_refl _, by omega, c9⟩)) (fun c9 => ?_)
      have e1 : x1 + 1 = Int32.ofNat (i + 1) := Int32.toInt_inj.1 (by rw [t_p1 (by omega) (by omega), t_on (by omega), ei]; rfl)
      refine t_mono (ih e1 (by omega) (by omega)) (fun z hz => ?_)
      rcases hz with ⟨z1, z2⟩ | ⟨z1, j, z2, z3, z4⟩
      · refine Or.inl ⟨z1, ?_⟩
        rintro ⟨j, j1, j2, j3⟩
        by_cases hj : j = i
        · rw [hj] at j3; exact c9 j3
        · exact z2 ⟨j, by omega, j2, j3⟩
      · exact Or.inr ⟨z1, j, by omega, z3, z4⟩
    · have hc := t_ge c
      rw [ei, el] at hc
      refine t_some (Or.inl ⟨rfl, ?_⟩)
      rintro ⟨j, j1, j2, j3⟩
      omega
theorem isInside_E (tk : TOKS G S P N E K) (g : RTs G S P N E K t k c o q s) : wX11_isInside s = some (if (4 : Int32) ∈ q then 1 else 0) := by
  obtain ⟨g1, g2, g3, g4, g5, g6⟩ := id g
  have hk := g1.1.2.2.2
  have hK := tk.2.1
  have hT := g1.1.1.2.2.1
  have h91 := STK_91 g3 g5
  obtain ⟨z, e, h⟩ := isInside_h2_E (s := s) g2 (by omega) wFuel (i := 0) (x1 := 0) rfl (Nat.zero_le _) (by
    have e : wFuel = 1099511627776 := rfl
    omega)
  unfold wX11_isInside
  rw [e, t_sbe]
  rcases h with ⟨rfl, h⟩ | ⟨rfl, j, h1, h2, h3⟩
  · rw [if_neg (fun m => by
      obtain ⟨i, i1, i2⟩ := h91.2 m
      exact h ⟨i, Nat.zero_le _, i1, i2⟩)]
  · rw [if_pos (h91.1 ⟨j, h2, h3⟩)]
/-- something is opened -/
theorem opens_E {x : Int32} (tk : TOKS G S P N E K) (g : RTs G S P N E K t k c o q s) (hkK : k < K) (hn : s.1 152 12 = P k) : (deep q = 10 ∧ Tot (wX11_opens (ro x) s) (fun r => r.1 = 0 ∧ r.2.1 152 13 = fl 2 (P k))) ∨ (¬ deep q = 10 ∧ ∃ s', wX11_opens (ro x) s = some (1, s') ∧ RLw G S P N E K t k c o s' ∧ s'.1 152 20 = Int32.ofNat (q.length + 1) ∧ STK (x :: q) (s'.1 160) ∧ (s'.1 152 17).toInt = deep q + 1 ∧ s'.1 152 12 = P k ∧ wA (bLU t) s s') := by
  obtain ⟨g1, g2, g3, g4, g5, g6⟩ := id g
  have hK := tk.2.1
  have hT := g1.1.1.2.2.1
  have dl := deep_le (q := q)
  unfold wX11_opens
  by_cases c10 : deep q = 10
  · left
    refine ⟨c10, ?_⟩
    rw [if_pos (Int32.toInt_inj.1 (by rw [g4, c10]; rfl)), hn, fails_R g1.1, t_sbe]
    dsimp only
    exact t_bind (t_rtZ (v := 0) (Or.inl rfl)) (fun t5 h5 => t_some ⟨h5, wup_same⟩)
  · right
    refine ⟨c10, wupI (wupI (wupI s 152 17 (s.1 152 17 + 1)) 160 q.length (ro x)) 152 20 (Int32.ofNat (q.length + 1)), ?_, ⟨g1.1.go ?_ ?_ ?_ ?_, g1.2.go ?_ ?_ ?_ ?_⟩, wup_same, ?_, ?_, ?_, ?_⟩
    · rw [if_neg (fun e => c10 (by rw [e, show (10 : Int32).toInt = 10 from rfl] at g4; omega))]
      show ((wstI (wupI s 152 17 (s.1 152 17 + 1)) 160 400 ((wupI s 152 17 (s.1 152 17 + 1)).1 152 20) (ro x)).bind _) = _
      have z : (wupI s 152 17 (s.1 152 17 + 1)).1 152 20 = Int32.ofNat q.length := by rw [wup_nb (by decide)]; exact g2
      rw [z, wst_E (by rw [t_on (by omega)]; omega) (by rw [t_on (by omega)]; omega), t_sbe, t_nc (by omega)]
      have z' : (wupI (wupI s 152 17 (s.1 152 17 + 1)) 160 q.length (ro x)).1 152 20 = Int32.ofNat q.length := by rw [wupI_n (by decide)]; exact z
      rw [z']
      have : Int32.ofNat q.length + 1 = Int32.ofNat (q.length + 1) := Int32.toInt_inj.1 (by rw [t_p1 (by rw [t_on (by omega)]; omega) (by rw [t_on (by omega)]; omega), t_on (by omega), t_on (by omega)]; rfl)
      rw [this]
      rfl
    · rw [wupI_n (by decide), wupI_n (by decide), wupI_n (by decide)]
    · rw [wup_nb (by decide), wupI_n (by decide), wup_nb (by decide)]
    · rw [wup_nb (by decide), wupI_n (by decide), wup_nb (by decide)]
    · rw [wup_nb (by decide), wupI_n (by decide), wup_nb (by decide)]
    · rw [wup_nb (by decide), wupI_n (by decide), wup_nb (by decide)]
    · rw [wup_nb (by decide), wupI_n (by decide), wup_nb (by decide)]
    · rw [wupI_n (by decide), wupI_n (by decide), wupI_n (by decide)]
    · rw [wupI_n (by decide), wupI_n (by decide), wupI_n (by decide)]
    · rw [wupI_n (by decide), wupI_k]
      exact ⟨updI_s, STK.upd (Nat.le_refl _) (by rw [wupI_n (by decide)]; exact g3)⟩
    · rw [wup_nb (by decide), wupI_n (by decide), wup_same, t_p1 (by omega) (by omega), g4]
    · rw [wup_nb (by decide), wupI_n (by decide), wup_nb (by decide)]; exact hn
    · exact ((wA_I (bLU_p (by omega))).trans (wA_I (bLU_p (by omega)))).trans (wA_I (bLU_p (by omega)))
theorem bsg_4 (x d : Int32) : bsg x d = 4 ↔ x = 91 := by
  unfold bsg
  constructor
  · repeat' (first | (intro q; exact absurd q (by decide)) | (intro _; assumption) | split)
  · intro q; subst q; rfl
theorem bsg_5 (x d : Int32) : bsg x d = 5 ↔ x = 93 := by
  unfold bsg
  constructor
  · repeat' (first | (intro q; exact absurd q (by decide)) | (intro _; assumption) | split)
  · intro q; subst q; rfl
theorem RTs.at (g : RTs G S P N E K t k c o q s) (tk : TOKS G S P N E K) : RTs G S P N E K t k c o q (nxt s (P k)) ∧ wA (bLU t) s (nxt s (P k)) :=
  ⟨g.go ⟨g.1.1.at tk, g.1.2.nx⟩ (wup_nb (by decide)) (wupI_n (by decide)) (wup_nb (by decide)) g.2.2.2.2.2, wA_I (bLU_p (by omega))⟩
theorem fact_h2_E (tk : TOKS G S P N E K) : ∀ (n : Nat) {k : Nat} {q : List Int32} {s : wS}, RTs G S P N E K t k c o q s → K - k + 1 < n → Tot (wX11_fact_h2 n 1 s) (fun z => (∃ u e, (z = .inr (.inl u) ∨ z = .inr (.inr u)) ∧ u.1 152 13 = e ∧ Ev (tst S P N) (true, q, k, c, o) (.inl e)) ∨ (∃ u k' q', z = .inl u ∧ RTs G S P N E K t k' c o q' u ∧ wA (bLU t) s u ∧ k ≤ k' ∧ ¬ (S k' = 22 ∨ S k' = 4) ∧ q'.length + k ≤ q.length + k' ∧ ∀ r, Ev (tst S P N) (true, q', k', c, o) r → Ev (tst S P N) (true, q, k, c, o) r)) := by
  intro n
  induction n with
  | zero => intro k q s _ hm; exact absurd hm (by omega)
  | succ n ih =>
    intro k q s g hm
    have hk := g.1.1.2.2.2
    have hK := tk.2.1
    have hT := g.1.1.1.2.2.1
    obtain ⟨n', rfl⟩ : ∃ n', n = n' + 1 := ⟨n - 1, by omega⟩
    obtain ⟨ga, aa⟩ := g.at tk
    have eqw : nxt (nxt s (P k)) (P k) = nxt s (P k) := wup_wup
    have s4 := seen_S (c := 91) (g := 4) tk hk bsg_4 (by decide) (by decide) (by decide)
    rw [wX11_fact_h2, if_neg (by decide), see_R g.1.1 tk, t_sbe]
    dsimp only
    rw [isWord_R (c := 7237492) (z := 7) ga.1.1 tk rfl (by decide), t_sbe, eqw]
    dsimp only
    rw [show Int32.ofNat (15 + 7) = 22 from rfl]
    have push : ∀ x : Int32, (x = 22 ∨ x = 4) → S k = x → ¬ deep q = 10 → tst S P N (true, q, k, c, o) = .inl (true, x :: q, k + 1, c, o) := by
      intro x hx hS hd
      unfold tst
      dsimp only
      rw [if_pos rfl, if_pos (by rw [hS]; exact hx), if_neg hd, hS]
    have full : (S k = 22 ∨ S k = 4) → deep q = 10 → tst S P N (true, q, k, c, o) = .inr (.inl (fl 2 (P k))) := by
      intro hS hd
      unfold tst
      dsimp only
      rw [if_pos rfl, if_pos hS, if_pos hd]
    have dp : ∀ x : Int32, (x = 22 ∨ x = 4) → deep (x :: q) = deep q + 1 := by
      intro x hx
      show (if x = 22 ∨ x = 4 then 1 else 0) + deep q = _
      rw [if_pos hx, Nat.add_comm]
    -- behind what opens
    have go : ∀ (x : Int32) (s' : wS), (x = 22 ∨ x = 4) → S k = x → ¬ deep q = 10 → RLw G S P N E K t (k + 1) c o s' → s'.1 152 20 = Int32.ofNat (q.length + 1) → STK (x :: q) (s'.1 160) → (s'.1 152 17).toInt = deep q + 1 → wA (bLU t) s s' → Tot (wX11_fact_j72 (wX11_fact_h2 (n' + 1)) 1 s') (fun z => (∃ u e, (z = .inr (.inl u) ∨ z = .inr (.inr u)) ∧ u.1 152 13 = e ∧ Ev (tst S P N) (true, q, k, c, o) (.inl e)) ∨ (∃ u k' q', z = .inl u ∧ RTs G S P N E K t k' c o q' u ∧ wA (bLU t) s u ∧ k ≤ k' ∧ ¬ (S k' = 22 ∨ S k' = 4) ∧ q'.length + k ≤ q.length + k' ∧ ∀ r, Ev (tst S P N) (true, q', k', c, o) r → Ev (tst S P N) (true, q, k, c, o) r)) := by
      intro x s' hx hS hd g' h20 h160 h17 a'
      have lq : (x :: q).length = q.length + 1 := rfl
      have gl := g.2.2.2.2.2
      have hkK : k < K := tk.ne0 hk (by rw [hS]; rcases hx with r | r <;> rw [r] <;> decide)
      unfold wX11_fact_j72
      refine t_mono (ih (k := k + 1) (q := x :: q) ⟨g', by rw [lq]; exact h20, h160, by rw [h17, dp x hx]; rfl, fun y hy => ?_, by rw [lq]; omega⟩ (by omega)) (fun z hz => ?_)
      · rcases List.mem_cons.1 hy with e | e
        · rw [e]
          rcases hx with r | r
          · exact Or.inl r
          · exact Or.inr (Or.inl r)
        · exact g.2.2.2.2.1 y e
      · rcases hz with ⟨u, e, z1, z2, z3⟩ | ⟨u, k', q', z1, z2, z3, z4, z5, z6, z7⟩
        · exact Or.inl ⟨u, e, z1, z2, Ev.step (push x hx hS hd) z3⟩
        · exact Or.inr ⟨u, k', q', z1, z2, a'.trans z3, by omega, z5, by rw [lq] at z6; omega, fun r hr => Ev.step (push x hx hS hd) (z7 r hr)⟩
    by_cases c22 : S k = 22
    · rw [if_pos c22, if_neg (by decide)]
      have hkK : k < K := tk.ne0 hk (by rw [c22]; decide)
      show Tot ((wX11_opens (ro 22) (nxt s (P k))).bind _) _
      rcases opens_E (x := 22) tk ga hkK nx_n with ⟨d1, d2⟩ | ⟨d1, s', d2, d3, d4, d5, d6, d7, d8⟩
      · refine t_bind d2 (fun r hr => ?_)
        obtain ⟨t15, s16⟩ := r
        dsimp only at hr ⊢
        rw [if_pos hr.1]
        exact t_some (Or.inl ⟨s16, _, Or.inl rfl, hr.2, Ev.ret (full (Or.inl c22) d1)⟩)
      · rw [d2, t_sbe]
        dsimp only
        rw [if_neg (by decide)]
        obtain ⟨-, hpw⟩ := passWord_R d3.1 tk (by rw [c22]; decide) d7
        rw [hpw, t_sbe]
        refine go 22 _ (Or.inl rfl) c22 d1 ⟨d3.1.behind tk hkK rfl, d3.2.nx⟩ ?_ ?_ ?_ ((aa.trans d8).trans (wA_I (bLU_p (by omega))))
        · rw [wup_nb (by decide)]; exact d4
        · rw [wupI_n (by decide)]; exact d5
        · rw [wup_nb (by decide)]; exact d6
    · rw [if_neg c22, if_pos rfl]
      by_cases c4 : S k = 4
      · rw [if_pos (s4.2 c4)]
        have hkK : k < K := tk.ne0 hk (by rw [c4]; decide)
        show Tot ((wX11_opens (ro 4) (nxt s (P k))).bind _) _
        rcases opens_E (x := 4) tk ga hkK nx_n with ⟨d1, d2⟩ | ⟨d1, s', d2, d3, d4, d5, d6, d7, d8⟩
        · refine t_bind d2 (fun r hr => ?_)
          obtain ⟨t10, s11⟩ := r
          dsimp only at hr ⊢
          rw [if_pos hr.1]
          exact t_some (Or.inl ⟨s11, _, Or.inr rfl, hr.2, Ev.ret (full (Or.inr c4) d1)⟩)
        · rw [d2, t_sbe]
          dsimp only
          rw [if_neg (by decide)]
          obtain ⟨-, g5⟩ := step_R d3 tk (by rw [c4]; decide) (by rw [c4]; decide) (by rw [c4]; decide) (by rw [c4]; decide) d7
          show Tot (wX11_fact_j72 (wX11_fact_h2 (n' + 1)) 1 (wupI s' 152 12 (s'.1 152 12 + 1))) _
          refine go 4 _ (Or.inr rfl) c4 d1 g5 ?_ ?_ ?_ ((aa.trans d8).trans (wA_I (bLU_p (by omega))))
          · rw [wup_nb (by decide)]; exact d4
          · rw [wupI_n (by decide)]; exact d5
          · rw [wup_nb (by decide)]; exact d6
      · rw [if_neg (fun e => c4 (s4.1 e))]
        unfold wX11_fact_j72
        rw [wX11_fact_h2, if_pos rfl]
        exact t_some (Or.inr ⟨_, k, q, rfl, ga, aa, Nat.le_refl _, fun e => e.elim c22 c4, Nat.le_refl _, fun r hr => hr⟩)
theorem fact_E (ht : t < 6) (tk : TOKS G S P N E K) (g : RTs G S P N E K t k c o q s) : Tot (wX11_fact s) (fun p => (∃ e, p.1 = 0 ∧ p.2.1 152 13 = e ∧ Ev (tst S P N) (true, q, k, c, o) (.inl e)) ∨ (∃ k' c' o' q', p.1 = 1 ∧ RTs G S P N E K t k' c' o' q' p.2 ∧ wA (bLU t) s p.2 ∧ (k < k' ∧ o'.length + q'.length + k ≤ o.length + q.length + k') ∧ ∀ r, Ev (tst S P N) (false, (stl 3 q' o').1, k', c', (stl 3 q' o').2) r → Ev (tst S P N) (true, q, k, c, o) r)) := by
  have hk := g.1.1.2.2.2
  have hK := tk.2.1
  have hT := g.1.1.1.2.2.1
  unfold wX11_fact
  refine t_bind (fact_h2_E tk wFuel g (by
    have e : wFuel = 1099511627776 := rfl
    omega)) (fun z hz => ?_)
  rcases hz with ⟨u, e, z1, z2, z3⟩ | ⟨u, k', q', rfl, z2, z3, z4, z5, z6, z7⟩
  · rcases z1 with rfl | rfl
    · exact t_some (Or.inl ⟨e, rfl, z2, z3⟩)
    · exact t_some (Or.inl ⟨e, rfl, z2, z3⟩)
  · dsimp only
    have gl := z2.2.2.2.2.2
    refine t_bind (compare_E ht tk z2.1 (by omega)) (fun p hp => ?_)
    obtain ⟨t26, s27⟩ := p
    rcases hp with ⟨e, h1, q0, qe⟩ | ⟨k2, c2, o2, h1, q0, h2, h3, ⟨h4, h5, h6⟩⟩
    · dsimp only at q0 qe ⊢
      refine t_bind (t_rtZ (Or.inl q0)) (fun t29 h29 => t_some (Or.inl ⟨e, h29.trans q0, qe, z7 _ (Ev.ret ?_)⟩))
      rw [tst_cmp z5, h1]
    · dsimp only at q0 h2 h3 ⊢
      refine t_bind (t_rtZ (Or.inr q0)) (fun t29 h29 => t_some (Or.inr ⟨k2, c2, o2, q', h29.trans q0, z2.lt h3 h2 (by omega), z3.trans (h3.mono bLT_le_bLU), ⟨by omega, by omega⟩, fun r hr => z7 _ (Ev.step (c' := (false, (stl 3 q' o2).1, k2, c2, (stl 3 q' o2).2)) ?_ hr)⟩))
      rw [tst_cmp z5, h1]
theorem stl_len {m : Nat} : ∀ {q o : List Int32}, (stl m q o).2.length + (stl m q o).1.length = o.length + q.length := by
  intro q
  induction q with
  | nil => intro o; rfl
  | cons x q ih =>
    intro o
    show (if m ≤ stC x then stl m q (o ++ [x]) else (x :: q, o)).2.length + (if m ≤ stC x then stl m q (o ++ [x]) else (x :: q, o)).1.length = o.length + (q.length + 1)
    by_cases c : m ≤ stC x
    · rw [if_pos c, ih, List.length_append]
      show o.length + 1 + q.length = _
      omega
    · rw [if_neg c]; rfl
theorem stl_4 : ∀ {q o : List Int32}, okq q → (4 : Int32) ∈ q → ∃ p, (stl 1 q o).1 = 4 :: p := by
  intro q
  induction q with
  | nil => intro o _ h; cases h
  | cons x q ih =>
    intro o hk h
    have hx := hk x (List.mem_cons_self)
    by_cases c : x = 4
    · subst c
      exact ⟨q, by rw [stl_stop (by decide)]⟩
    · have h1 : 1 ≤ stC x := by
        rcases hx with r | r | r | r
        · rw [r]; decide
        · exact absurd r c
        · rw [r]; decide
        · rw [r]; decide
      have h4 : (4 : Int32) ∈ q := by
        rcases List.mem_cons.1 h with e | e
        · exact absurd e.symm c
        · exact e
      obtain ⟨p, e⟩ := ih (o := o ++ [x]) (fun y hy => hk y (List.mem_cons_of_mem _ hy)) h4
      refine ⟨p, ?_⟩
      show (if 1 ≤ stC x then stl 1 q (o ++ [x]) else (x :: q, o)).1 = _
      rw [if_pos h1]
      exact e
theorem closes_h5_E (ht : t < 6) (tk : TOKS G S P N E K) : ∀ (n : Nat) {k : Nat} {o q : List Int32} {s : wS}, RTs G S P N E K t k c o q s → K - k < n → Tot (wX11_closes_h5 n s) (fun s' => ∃ k' o' q', RTs G S P N E K t k' c o' q' s' ∧ wA (bLU t) s s' ∧ ¬ (S k' = 5 ∧ (4 : Int32) ∈ q') ∧ (k ≤ k' ∧ o'.length + q'.length ≤ o.length + q.length) ∧ ∀ r, Ev (tst S P N) (false, q', k', c, o') r → Ev (tst S P N) (false, q, k, c, o) r) := by
  intro n
  induction n with
  | zero => intro k o q s _ hm; exact absurd hm (by omega)
  | succ n ih =>
    intro k o q s g hm
    have hk := g.1.1.2.2.2
    have hK := tk.2.1
    have hT := g.1.1.1.2.2.1
    obtain ⟨ga, aa⟩ := g.at tk
    have gl := g.2.2.2.2.2
    have s5 := seen_S (c := 93) (g := 5) tk hk bsg_5 (by decide) (by decide) (by decide)
    rw [wX11_closes_h5, see_R g.1.1 tk, t_sbe]
    dsimp only
    by_cases c5 : S k = 5
    · rw [if_pos (s5.2 c5), isInside_E tk ga, t_sbe]
      by_cases c4 : (4 : Int32) ∈ q
      · rw [if_pos c4, if_neg (by decide)]
        obtain ⟨p, hp⟩ := stl_4 (o := o) g.2.2.2.2.1 c4
        refine t_bind (settles_E (m := 1) ht (by decide) (by decide) rfl tk ga) (fun s12 h12 => ?_)
        obtain ⟨h12, a12, n12⟩ := h12
        have sl := stl_len (m := 1) (q := q) (o := o)
        rw [hp] at h12 sl
        obtain ⟨r1, r2, r3, r4, r5, r6⟩ := h12
        have lp : ((4 : Int32) :: p).length = p.length + 1 := rfl
        rw [lp] at r2 r6 sl
        rw [nx_n] at n12
        obtain ⟨hkK, -⟩ := step_R r1 tk (by rw [c5]; decide) (by rw [c5]; decide) (by rw [c5]; decide) (by rw [c5]; decide) n12
        have d1 : deep (4 :: p) = deep p + 1 := by
          show (if (4 : Int32) = 22 ∨ (4 : Int32) = 4 then 1 else 0) + deep p = _
          rw [if_pos (Or.inr rfl), Nat.add_comm]
        rw [d1] at r4
        have dl := deep_le (q := p)
        have e1i : (1 : Int32).toInt = 1 := rfl
        have e20 : s12.1 152 20 - 1 = Int32.ofNat p.length := Int32.toInt_inj.1 (by
          rw [r2, t_sub (by rw [t_on (by omega), e1i]; omega) (by rw [t_on (by omega), e1i]; omega), t_on (by omega), t_on (by omega), e1i]
          omega)
        have e17 : (s12.1 152 17 - 1).toInt = deep p := by rw [t_sub (by rw [e1i]; omega) (by rw [e1i]; omega), e1i]; omega
        -- the three fields
        show Tot ((wX11_settles 3 (wupI (wupI (wupI s12 152 20 (s12.1 152 20 - 1)) 152 17 ((wupI s12 152 20 (s12.1 152 20 - 1)).1 152 17 - 1)) 152 12 ((wupI (wupI s12 152 20 (s12.1 152 20 - 1)) 152 17 ((wupI s12 152 20 (s12.1 152 20 - 1)).1 152 17 - 1)).1 152 12 + 1))).bind _) _
        have w17 : (wupI s12 152 20 (s12.1 152 20 - 1)).1 152 17 = s12.1 152 17 := wup_nb (by decide)
        rw [w17, e20]
        have h15 : RLw G S P N E K t k c (stl 1 q o).2 (wupI (wupI s12 152 20 (Int32.ofNat p.length)) 152 17 (s12.1 152 17 - 1)) := by
          refine ⟨r1.1.go ?_ ?_ ?_ ?_, r1.2.go ?_ ?_ ?_ ?_⟩
          · rw [wupI_n (by decide), wupI_n (by decide)]
          · rw [wup_nb (by decide), wup_nb (by decide)]
          · rw [wup_nb (by decide), wup_nb (by decide)]
          · rw [wup_nb (by decide), wup_nb (by decide)]
          · rw [wup_nb (by decide), wup_nb (by decide)]
          · rw [wup_nb (by decide), wup_nb (by decide)]
          · rw [wupI_n (by decide), wupI_n (by decide)]
          · rw [wupI_n (by decide), wupI_n (by decide)]
        have n15 : (wupI (wupI s12 152 20 (Int32.ofNat p.length)) 152 17 (s12.1 152 17 - 1)).1 152 12 = P k := by rw [wup_nb (by decide), wup_nb (by decide)]; exact n12
        obtain ⟨-, h16⟩ := step_R h15 tk (by rw [c5]; decide) (by rw [c5]; decide) (by rw [c5]; decide) (by rw [c5]; decide) n15
        have a16 : wA (bLU t) s12 (wupI (wupI (wupI s12 152 20 (Int32.ofNat p.length)) 152 17 (s12.1 152 17 - 1)) 152 12 ((wupI (wupI s12 152 20 (Int32.ofNat p.length)) 152 17 (s12.1 152 17 - 1)).1 152 12 + 1)) := ((wA_I (bLU_p (by omega))).trans (wA_I (bLU_p (by omega)))).trans (wA_I (bLU_p (by omega)))
        have g16 : RTs G S P N E K t (k + 1) c (stl 1 q o).2 p (wupI (wupI (wupI s12 152 20 (Int32.ofNat p.length)) 152 17 (s12.1 152 17 - 1)) 152 12 ((wupI (wupI s12 152 20 (Int32.ofNat p.length)) 152 17 (s12.1 152 17 - 1)).1 152 12 + 1)) := by
          refine ⟨h16, ?_, ?_, ?_, fun y hy => r5 y (List.mem_cons_of_mem _ hy), by omega⟩
          · rw [wup_nb (by decide), wup_nb (by decide), wup_same]
          · rw [wupI_n (by decide), wupI_n (by decide), wupI_n (by decide)]; exact r3.2
          · rw [wup_nb (by decide), wup_same]; exact e17
        refine t_bind (settles_E (m := 3) ht (by decide) (by decide) rfl tk g16) (fun s18 h18 => ?_)
        obtain ⟨h18, a18, -⟩ := h18
        have sl3 := stl_len (m := 3) (q := p) (o := (stl 1 q o).2)
        refine t_mono (ih h18 (by omega)) (fun s' hs => ?_)
        obtain ⟨k', o', q', f1, f2, f3, ⟨f4, f5⟩, f6⟩ := hs
        refine ⟨k', o', q', f1, (((aa.trans a12).trans a16).trans a18).trans f2, f3, ⟨by omega, by omega⟩, fun r hr => Ev.step (c' := (false, (stl 3 p (stl 1 q o).2).1, k + 1, c, (stl 3 p (stl 1 q o).2).2)) ?_ (f6 r hr)⟩
        unfold tst
        dsimp only
        rw [if_neg (by decide), if_pos ⟨c5, c4⟩, hp]
        rfl
      · rw [if_neg c4, if_pos rfl]
        exact t_some ⟨k, o, q, ga, aa, fun e => c4 e.2, ⟨Nat.le_refl _, Nat.le_refl _⟩, fun r hr => hr⟩
    · rw [if_neg (fun e => c5 (s5.1 e))]
      exact t_some ⟨k, o, q, ga, aa, fun e => c5 e.1, ⟨Nat.le_refl _, Nat.le_refl _⟩, fun r hr => hr⟩
theorem closes_E (ht : t < 6) (tk : TOKS G S P N E K) (g : RTs G S P N E K t k c o q s) : Tot (wX11_closes s) (fun s' => ∃ k' o' q', RTs G S P N E K t k' c o' q' s' ∧ wA (bLU t) s s' ∧ ¬ (S k' = 5 ∧ (4 : Int32) ∈ q') ∧ (k ≤ k' ∧ o'.length + q'.length ≤ o.length + q.length) ∧ ∀ r, Ev (tst S P N) (false, q', k', c, o') r → Ev (tst S P N) (false, (stl 3 q o).1, k, c, (stl 3 q o).2) r) := by
  have hk := g.1.1.2.2.2
  have hK := tk.2.1
  have hT := g.1.1.1.2.2.1
  unfold wX11_closes
  refine t_bind (settles_E (m := 3) ht (by decide) (by decide) rfl tk g) (fun s2 h2 => ?_)
  have sl3 := stl_len (m := 3) (q := q) (o := o)
  refine t_bind (closes_h5_E ht tk wFuel h2.1 (by
    have e : wFuel = 1099511627776 := rfl
    omega)) (fun s' hs => t_some ?_)
  obtain ⟨k', o', q', f1, f2, f3, ⟨f4, f5⟩, f6⟩ := hs
  exact ⟨k', o', q', f1, h2.2.1.trans f2, f3, ⟨f4, by omega⟩, f6⟩
theorem tested_h12_E (ht : t < 6) (tk : TOKS G S P N E K) : ∀ (n : Nat) {k c : Nat} {o q : List Int32} {s : wS}, RTs G S P N E K t k c o q s → K - k + 1 < n → Tot (wX11_tested_h12 n 1 s) (fun z => (∃ u e, z = .inr u ∧ u.1 152 13 = e ∧ Ev (tst S P N) (true, q, k, c, o) (.inl e)) ∨ (∃ u k' c' o' q', z = .inl u ∧ RTs G S P N E K t k' c' o' q' u ∧ wA (bLU t) s u ∧ ¬ (S k' = 5 ∧ (4 : Int32) ∈ q') ∧ (¬ S k' = 21 ∧ ¬ S k' = 20) ∧ (k ≤ k' ∧ o'.length + q'.length + k ≤ o.length + q.length + k') ∧ ∀ r, Ev (tst S P N) (false, q', k', c', o') r → Ev (tst S P N) (true, q, k, c, o) r)) := by
  intro n
  induction n with
  | zero => intro k c o q s _ hm; exact absurd hm (by omega)
  | succ n ih =>
    intro k c o q s g hm
    have hk := g.1.1.2.2.2
    have hK := tk.2.1
    have hT := g.1.1.1.2.2.1
    obtain ⟨n', rfl⟩ : ∃ n', n = n' + 1 := ⟨n - 1, by omega⟩
    rw [wX11_tested_h12, if_neg (by decide)]
    refine t_bind (fact_E ht tk g) (fun p hp => ?_)
    obtain ⟨t4, s5⟩ := p
    rcases hp with ⟨e, q0, qe, h1⟩ | ⟨k1, c1, o1, q1, q0, g1, a1, ⟨b1, b2⟩, h1⟩
    · dsimp only at q0 qe ⊢
      rw [if_pos q0]
      exact t_some (Or.inl ⟨s5, e, rfl, qe, h1⟩)
    · dsimp only at q0 g1 a1 ⊢
      rw [if_neg (by rw [q0]; decide)]
      refine t_bind (closes_E ht tk g1) (fun s9 h9 => ?_)
      obtain ⟨k2, o2, q2, g2, a2, f3, ⟨f4, f5⟩, f6⟩ := h9
      have hk2 := g2.1.1.2.2.2
      obtain ⟨ga, aa⟩ := g2.at tk
      have eqw : nxt (nxt s9 (P k2)) (P k2) = nxt s9 (P k2) := wup_wup
      have gl := g2.2.2.2.2.2
      -- and, or
      have go : ∀ (x : Int32) (m : Nat) (y : Int32), (x = 21 ∧ m = 2 ∧ y = 12) ∨ (x = 20 ∧ m = 1 ∧ y = 13) → S k2 = x → Tot (wX11_tested_j76 (wX11_tested_h12 (n' + 1)) 1 y (nxt s9 (P k2))) (fun z => (∃ u e, z = .inr u ∧ u.1 152 13 = e ∧ Ev (tst S P N) (true, q, k, c, o) (.inl e)) ∨ (∃ u k' c' o' q', z = .inl u ∧ RTs G S P N E K t k' c' o' q' u ∧ wA (bLU t) s u ∧ ¬ (S k' = 5 ∧ (4 : Int32) ∈ q') ∧ (¬ S k' = 21 ∧ ¬ S k' = 20) ∧ (k ≤ k' ∧ o'.length + q'.length + k ≤ o.length + q.length + k') ∧ ∀ r, Ev (tst S P N) (false, q', k', c', o') r → Ev (tst S P N) (true, q, k, c, o) r)) := by
        intro x m y hx hS
        have hx15 : 15 ≤ (S k2).toInt := by rw [hS]; rcases hx with ⟨r, -, -⟩ | ⟨r, -, -⟩ <;> rw [r] <;> decide
        have hxo : x = 22 ∨ x = 4 ∨ x = 21 ∨ x = 20 := by
          rcases hx with ⟨r, -, -⟩ | ⟨r, -, -⟩
          · exact Or.inr (Or.inr (Or.inl r))
          · exact Or.inr (Or.inr (Or.inr r))
        have hm13 : 1 ≤ m ∧ m ≤ 3 := by rcases hx with ⟨-, r, -⟩ | ⟨-, r, -⟩ <;> omega
        have hyr : y = ro x := by rcases hx with ⟨r, -, r'⟩ | ⟨r, -, r'⟩ <;> rw [r, r'] <;> rfl
        have hst : stC x = m := by rcases hx with ⟨r, r', -⟩ | ⟨r, r', -⟩ <;> rw [r, r'] <;> rfl
        have d0 : ∀ q, deep (x :: q) = deep q := fun q => by
          show (if x = 22 ∨ x = 4 then 1 else 0) + deep q = _
          rw [if_neg (by rcases hx with ⟨r, -, -⟩ | ⟨r, -, -⟩ <;> rw [r] <;> decide), Nat.zero_add]
        have st : tst S P N (false, q2, k2, c1, o2) = .inl (true, x :: (stl m q2 o2).1, k2 + 1, c1, (stl m q2 o2).2) := by
          unfold tst
          dsimp only
          rw [if_neg (by decide), if_neg f3]
          rcases hx with ⟨r, r', -⟩ | ⟨r, r', -⟩
          · rw [if_pos (by rw [hS, r]), r, r']
          · rw [if_neg (by rw [hS, r]; decide), if_pos (by rw [hS, r]), r, r']
        unfold wX11_tested_j76
        obtain ⟨hkK, hpw⟩ := passWord_R ga.1.1 tk hx15 nx_n
        rw [hpw, t_sbe, hyr, strength_E hxo, t_sbe, hst]
        have g25 : RTs G S P N E K t (k2 + 1) c1 o2 q2 (nxt (nxt s9 (P k2)) (Int32.ofNat (E k2))) := ga.go ⟨ga.1.1.behind tk hkK rfl, ga.1.2.nx⟩ (wup_nb (by decide)) (wupI_n (by decide)) (wup_nb (by decide)) (by omega)
        refine t_bind (settles_E (m := m) ht hm13.1 hm13.2 (t_on (by omega)) tk g25) (fun s30 h30 => ?_)
        obtain ⟨⟨r1, r2, r3, r4, r5, r6⟩, a30, -⟩ := h30
        have sl := stl_len (m := m) (q := q2) (o := o2)
        rw [r2, wst_E (by rw [t_on (by omega)]; omega) (by rw [t_on (by omega)]; omega), t_sbe, t_nc (by omega)]
        have z20 : (wupI s30 160 (stl m q2 o2).1.length (ro x)).1 152 20 = Int32.ofNat (stl m q2 o2).1.length := by rw [wupI_n (by decide)]; exact r2
        rw [z20]
        have e1 : Int32.ofNat (stl m q2 o2).1.length + 1 = Int32.ofNat ((stl m q2 o2).1.length + 1) := Int32.toInt_inj.1 (by rw [t_p1 (by rw [t_on (by omega)]; omega) (by rw [t_on (by omega)]; omega), t_on (by omega), t_on (by omega)]; rfl)
        rw [e1]
        show Tot (wX11_tested_h12 (n' + 1) 1 (wupI (wupI s30 160 (stl m q2 o2).1.length (ro x)) 152 20 (Int32.ofNat ((stl m q2 o2).1.length + 1)))) _
        have lx : (x :: (stl m q2 o2).1).length = (stl m q2 o2).1.length + 1 := rfl
        have g33 : RTs G S P N E K t (k2 + 1) c1 (stl m q2 o2).2 (x :: (stl m q2 o2).1) (wupI (wupI s30 160 (stl m q2 o2).1.length (ro x)) 152 20 (Int32.ofNat ((stl m q2 o2).1.length + 1))) := by
          refine ⟨⟨r1.1.go ?_ ?_ ?_ ?_, r1.2.go ?_ ?_ ?_ ?_⟩, wup_same, ?_, ?_, fun y hy => ?_, by rw [lx]; omega⟩
          · rw [wupI_n (by decide), wupI_n (by decide)]
          · rw [wup_nb (by decide), wupI_n (by decide)]
          · rw [wup_nb (by decide), wupI_n (by decide)]
          · rw [wup_nb (by decide), wupI_n (by decide)]
          · rw [wup_nb (by decide), wupI_n (by decide)]
          · rw [wup_nb (by decide), wupI_n (by decide)]
          · rw [wupI_n (by decide), wupI_n (by decide)]
          · rw [wupI_n (by decide), wupI_n (by decide)]
          · rw [wupI_n (by decide), wupI_k]
            exact ⟨updI_s, STK.upd (Nat.le_refl _) r3⟩
          · rw [wup_nb (by decide), wupI_n (by decide), d0]; exact r4
          · rcases List.mem_cons.1 hy with e | e
            · rw [e]; exact hxo
            · exact r5 y e
        have a33 : wA (bLU t) s (wupI (wupI s30 160 (stl m q2 o2).1.length (ro x)) 152 20 (Int32.ofNat ((stl m q2 o2).1.length + 1))) := (((((a1.trans a2).trans aa).trans (wA_I (bLU_p (by omega)))).trans a30).trans (wA_I (bLU_p (by omega)))).trans (wA_I (bLU_p (by omega)))
        refine t_mono (ih g33 (by omega)) (fun z hz => ?_)
        rcases hz with ⟨u, e, z1, z2, z3⟩ | ⟨u, k', c', o', q', z1, z2, z3, z4, z5, ⟨z6, z7⟩, z8⟩
        · exact Or.inl ⟨u, e, z1, z2, h1 _ (f6 _ (Ev.step st z3))⟩
        · exact Or.inr ⟨u, k', c', o', q', z1, z2, a33.trans z3, z4, z5, ⟨by omega, by rw [lx] at z7; omega⟩, fun r hr => h1 _ (f6 _ (Ev.step st (z8 r hr)))⟩
      have w6 : ∀ (u : wS) (f : Int32 × wS → Option (wS ⊕ wS)), u = nxt s9 (P k2) → (wX11_isWord 6385252 u).bind f = f (if S k2 = 21 then 1 else 0, nxt s9 (P k2)) := by
        intro u f hu
        rw [hu, isWord_R (c := 6385252) (z := 6) ga.1.1 tk rfl (by decide), t_sbe, eqw]
        rfl
      rw [isWord_R (c := 6385252) (z := 6) g2.1.1 tk rfl (by decide), t_sbe]
      dsimp only
      rw [show Int32.ofNat (15 + 6) = 21 from rfl]
      by_cases c21 : S k2 = 21
      · rw [if_pos c21, if_neg (by decide)]
        unfold wX11_tested_j49 wX11_tested_j54
        rw [if_neg (by decide), w6 _ _ rfl, if_pos c21]
        dsimp only
        rw [if_neg (by decide)]
        exact go 21 2 12 (Or.inl ⟨rfl, rfl, rfl⟩) c21
      · rw [if_neg c21, if_pos rfl, isWord_R (c := 28530) (z := 5) ga.1.1 tk rfl (by decide), t_sbe, eqw]
        dsimp only
        rw [show Int32.ofNat (15 + 5) = 20 from rfl]
        by_cases c20 : S k2 = 20
        · rw [if_pos c20, if_neg (by decide)]
          unfold wX11_tested_j49 wX11_tested_j54
          rw [if_neg (by decide), w6 _ _ rfl, if_neg c21]
          dsimp only
          rw [if_pos rfl]
          exact go 20 1 13 (Or.inr ⟨rfl, rfl, rfl⟩) c20
        · rw [if_neg c20, if_pos rfl]
          unfold wX11_tested_j54
          rw [if_pos rfl, wX11_tested_h12, if_pos rfl]
          exact t_some (Or.inr ⟨_, k2, c1, o2, q2, rfl, ga, (a1.trans a2).trans aa, f3, ⟨c21, c20⟩, ⟨by omega, by omega⟩, fun r hr => h1 _ (f6 _ hr)⟩)
theorem tested_E (ht : t < 6) (tk : TOKS G S P N E K) (g : RLw G S P N E K t k c o s) (hl : o.length ≤ k) : Tot (wX11_tested s) (fun p => (∃ e, TestE S P N k c o (.inl e) ∧ p.1 = 0 ∧ p.2.1 152 13 = e) ∨ (∃ k' c' o', TestE S P N k c o (.inr (k', c', o')) ∧ p.1 = 1 ∧ RLw G S P N E K t k' c' o' p.2 ∧ wA (bLU t) s p.2 ∧ (k ≤ k' ∧ o'.length + k ≤ o.length + k'))) := by
  have hk := g.1.2.2.2
  have hK := tk.2.1
  have hT := g.1.1.2.2.1
  unfold wX11_tested
  show Tot ((wX11_tested_h12 wFuel 1 (wupI (wupI s 152 20 0) 152 17 0)).bind _) _
  have g2 : RTs G S P N E K t k c o [] (wupI (wupI s 152 20 0) 152 17 0) := by
    refine ⟨⟨g.1.go ?_ ?_ ?_ ?_, g.2.go ?_ ?_ ?_ ?_⟩, ?_, trivial, ?_, (fun y hy => by cases hy), hl⟩
    · rw [wupI_n (by decide), wupI_n (by decide)]
    · rw [wup_nb (by decide), wup_nb (by decide)]
    · rw [wup_nb (by decide), wup_nb (by decide)]
    · rw [wup_nb (by decide), wup_nb (by decide)]
    · rw [wup_nb (by decide), wup_nb (by decide)]
    · rw [wup_nb (by decide), wup_nb (by decide)]
    · rw [wupI_n (by decide), wupI_n (by decide)]
    · rw [wupI_n (by decide), wupI_n (by decide)]
    · rw [wup_nb (by decide), wup_same]; rfl
    · rw [wup_same]; rfl
  have a2 : wA (bLU t) s (wupI (wupI s 152 20 0) 152 17 0) := (wA_I (bLU_p (by omega))).trans (wA_I (bLU_p (by omega)))
  refine t_bind (tested_h12_E ht tk wFuel g2 (by
    have e : wFuel = 1099511627776 := rfl
    omega)) (fun z hz => ?_)
  rcases hz with ⟨u, e, rfl, z2, z3⟩ | ⟨u, k', c', o', q', rfl, z2, z3, z4, z5, ⟨z6, z7⟩, z8⟩
  · exact t_some (Or.inl ⟨e, z3, rfl, z2⟩)
  · dsimp only
    have hl0 : ([] : List Int32).length = 0 := rfl
    rw [hl0] at z7
    rw [isInside_E tk z2, t_sbe]
    by_cases c4 : (4 : Int32) ∈ q'
    · rw [if_pos c4, if_neg (by decide), see_R z2.1.1 tk, t_sbe]
      dsimp only
      rw [nx_n, fails_R (z2.1.1.at tk), t_sbe]
      dsimp only
      refine t_bind (t_rtZ (v := 0) (Or.inl rfl)) (fun t50 h50 => t_some (Or.inl ⟨fl 0 (P k'), z8 _ (Ev.ret ?_), h50, wup_same⟩))
      unfold tst
      dsimp only
      rw [if_neg (by decide), if_neg z4, if_neg z5.1, if_neg z5.2, if_pos c4]
    · rw [if_neg c4, if_pos rfl]
      refine t_bind (settles_E (m := 1) ht (by decide) (by decide) rfl tk z2) (fun s42 h42 => t_some (Or.inr ⟨k', c', (stl 1 q' o').2, z8 _ (Ev.ret ?_), rfl, h42.1.1, (a2.trans z3).trans h42.2.1, ⟨z6, ?_⟩⟩))
      · unfold tst
        dsimp only
        rw [if_neg (by decide), if_neg z4, if_neg z5.1, if_neg z5.2, if_neg c4]
      · have sl := stl_len (m := 1) (q := q') (o := o')
        omega
end RTE
end
section
/-! The reference reads a LAW. -/
/-- the CLAUSES so far -/
noncomputable def RQl (t : Nat) (q : List qT) (s : wS) : Prop := (s.1 157 t = Int32.ofNat q.length ∧ q.length ≤ 12) ∧ ∀ i x, q[i]? = some x → s.1 156 (60 * t + 5 * i) = x.1 ∧ s.1 156 (60 * t + 5 * i + 1) = Int32.ofNat x.2.1 ∧ s.1 156 (60 * t + 5 * i + 2) = Int32.ofNat x.2.2.1 ∧ s.1 156 (60 * t + 5 * i + 3) = (if x.2.2.2.2 = true then Int32.ofNat x.2.2.1 else -1) ∧ s.1 156 (60 * t + 5 * i + 4) = Int32.ofNat x.2.2.2.1
section RLW
variable {G : wS} {S P N : Nat → Int32} {E : Nat → Nat} {K t k c : Nat} {o : List Int32} {q : List qT} {s : wS}
theorem RQl.go {s' : wS} (h : RQl t q s) (h7 : s'.1 157 t = s.1 157 t) (h6 : s'.1 156 = s.1 156) : RQl t q s' := by
  unfold RQl
  rw [h7, h6]
  exact h
theorem RQl.lu {s' : wS} (h : RQl t q s) (a : wA (bLU t) s s') : RQl t q s' := h.go (a 157 t rfl) (funext fun b => a 156 b rfl)
theorem RQl.lt {s' : wS} (h : RQl t q s) (a : wA (bLT t) s s') : RQl t q s' := h.lu (a.mono bLT_le_bLU)
theorem RQl.app {s' : wS} {kd v3 : Int32} {l0 l1 l2 : Nat} {b : Bool} (h : RQl t q s) (hq : q.length < 12) (h7 : s'.1 157 t = Int32.ofNat (q.length + 1)) (h6 : s'.1 156 = upd (upd (upd (upd (upd (s.1 156) (60 * t + 5 * q.length) kd) (60 * t + 5 * q.length + 1) (Int32.ofNat l0)) (60 * t + 5 * q.length + 2) (Int32.ofNat l1)) (60 * t + 5 * q.length + 3) v3) (60 * t + 5 * q.length + 4) (Int32.ofNat l2)) (h3 : v3 = if b = true then Int32.ofNat l1 else -1) : RQl t (q ++ [(kd, l0, l1, l2, b)]) s' := by
  have ql : (q ++ [(kd, l0, l1, l2, b)]).length = q.length + 1 := by rw [List.length_append]; rfl
  refine ⟨⟨by rw [h7, ql], by omega⟩, fun i x hx => ?_⟩
  rw [h6]
  by_cases c : i = q.length
  · subst c
    rw [List.getElem?_append_right (Nat.le_refl _), Nat.sub_self] at hx
    obtain rfl := Option.some.inj hx
    dsimp only
    refine ⟨?_, ?_, ?_, ?_, ?_⟩
    · rw [updI_n (by omega), updI_n (by omega), updI_n (by omega), updI_n (by omega), updI_s]
    · rw [updI_n (by omega), updI_n (by omega), updI_n (by omega), updI_s]
    · rw [updI_n (by omega), updI_n (by omega), updI_s]
    · rw [updI_n (by omega), updI_s, h3]
    · rw [updI_s]
  · have hi : i < q.length := by
      have := (List.getElem?_eq_some_iff.1 hx).1
      omega
    rw [List.getElem?_append_left hi] at hx
    have z : ∀ n, n < 60 * t + 5 * q.length → upd (upd (upd (upd (upd (s.1 156) (60 * t + 5 * q.length) kd) (60 * t + 5 * q.length + 1) (Int32.ofNat l0)) (60 * t + 5 * q.length + 2) (Int32.ofNat l1)) (60 * t + 5 * q.length + 3) v3) (60 * t + 5 * q.length + 4) (Int32.ofNat l2) n = s.1 156 n := fun n hn => by
      rw [updI_n (by omega), updI_n (by omega), updI_n (by omega), updI_n (by omega), updI_n (by omega)]
    rw [z (60 * t + 5 * i) (by omega), z (60 * t + 5 * i + 1) (by omega), z (60 * t + 5 * i + 2) (by omega), z (60 * t + 5 * i + 3) (by omega), z (60 * t + 5 * i + 4) (by omega)]
    exact h.2 i x hx
theorem RLw.o6 {k0 b : Nat} {v : Int32} (h : RLw G S P N E K t k c o s) (hk : k0 = 156 ∨ k0 = 157) : RLw G S P N E K t k c o (wupI s k0 b v) := by
  refine ⟨h.1.go ?_ ?_ ?_ ?_, h.2.go ?_ ?_ ?_ ?_⟩
  all_goals rw [wupI_n (by omega)]
/-- a place in a CLAUSE's row -/
theorem ix156 {j : Nat} {d : Int32} (ht : t < 6) (hq : q.length < 12) (hd : d.toInt = j) (hj : j < 5) : (((60 * Int32.ofNat t) + (5 * Int32.ofNat q.length)) + d).toInt = 60 * t + 5 * q.length + j ∧ ((60 * Int32.ofNat t) + (5 * Int32.ofNat q.length)).toInt = 60 * t + 5 * q.length := by
  have et : (Int32.ofNat t).toInt = t := t_on (by omega)
  have el : (Int32.ofNat q.length).toInt = q.length := t_on (by omega)
  have e60 : (60 : Int32).toInt = 60 := rfl
  have e5 : (5 : Int32).toInt = 5 := rfl
  have q1 : (60 * Int32.ofNat t).toInt = 60 * t := by rw [t_mul (by rw [e60, et]; omega) (by rw [e60, et]; omega), e60, et]
  have q2 : (5 * Int32.ofNat q.length).toInt = 5 * q.length := by rw [t_mul (by rw [e5, el]; omega) (by rw [e5, el]; omega), e5, el]
  have q3 : ((60 * Int32.ofNat t) + (5 * Int32.ofNat q.length)).toInt = 60 * t + 5 * q.length := by rw [t_add (by omega) (by omega), q1, q2]
  exact ⟨by rw [t_add (by omega) (by omega), q3, hd], q3⟩
theorem st156 {j : Nat} {d v : Int32} {u : wS} (ht : t < 6) (hq : q.length < 12) (hd : d.toInt = j) (hj : j < 5) : wstI u 156 360 (((60 * Int32.ofNat t) + (5 * Int32.ofNat q.length)) + d) v = some (wupI u 156 (60 * t + 5 * q.length + j) v) := by
  obtain ⟨e, -⟩ := ix156 (t := t) (q := q) ht hq hd hj
  rw [wst_E (by omega) (by omega)]
  have : ((((60 * Int32.ofNat t) + (5 * Int32.ofNat q.length)) + d).toNatClampNeg) = 60 * t + 5 * q.length + j := by unfold Int32.toNatClampNeg; omega
  rw [this]
theorem st156_0 {v : Int32} {u : wS} (ht : t < 6) (hq : q.length < 12) : wstI u 156 360 ((60 * Int32.ofNat t) + (5 * Int32.ofNat q.length)) v = some (wupI u 156 (60 * t + 5 * q.length) v) := by
  obtain ⟨-, e⟩ := ix156 (t := t) (q := q) (d := 0) (j := 0) ht hq rfl (by decide)
  rw [wst_E (by omega) (by omega)]
  have : (((60 * Int32.ofNat t) + (5 * Int32.ofNat q.length)).toNatClampNeg) = 60 * t + 5 * q.length := by unfold Int32.toNatClampNeg; omega
  rw [this]
theorem RLw.ln (ht : t < 6) (h : RLw G S P N E K t k c o s) : wldI s 155 7 (s.1 152 15) = some (Int32.ofNat o.length) := by
  rw [h.2.1, wld_E (by rw [t_on (by omega)]; omega) (by rw [t_on (by omega)]; omega), t_nc (by omega), h.2.2.2.1]
theorem takesWord_E (g : RLw G S P N E K t k c o s) (tk : TOKS G S P N E K) : wX11_takesWord 26982 s = some (if S k = 19 then (1, nxt s (Int32.ofNat (E k))) else (0, nxt s (P k))) := by
  unfold wX11_takesWord
  rw [isWord_R (c := 26982) (z := 4) g.1 tk rfl (by decide), t_sbe]
  dsimp only
  rw [show Int32.ofNat (15 + 4) = 19 from rfl]
  by_cases c19 : S k = 19
  · rw [if_pos c19, if_neg (by decide), if_pos c19]
    obtain ⟨hkK, hpw⟩ := passWord_R (g.1.at tk) tk (by rw [c19]; decide) nx_n
    rw [hpw, t_sbe]
    exact congrArg (fun u => some ((1 : Int32), u)) wup_wup
  · rw [if_neg c19, if_pos rfl, if_neg c19]
/-- a LAW is read so far -/
noncomputable def RLA (G : wS) (S P N : Nat → Int32) (E : Nat → Nat) (K t : Nat) (x : lC) (s : wS) : Prop := RLw G S P N E K t x.1 x.2.1 x.2.2.1 s ∧ RQl t x.2.2.2 s ∧ (s.1 152 18).toInt = x.2.2.2.length
/-- what a CLAUSE comes to -/
noncomputable def RX (G : wS) (S P N : Nat → Int32) (E : Nat → Nat) (K t k : Nat) (y : Int32 ⊕ lC) (p : Int32 × wS) : Prop := (∃ e, y = .inl e ∧ p.1 = 0 ∧ p.2.1 152 13 = e) ∨ (∃ c' : lC, y = .inr c' ∧ p.1 = 1 ∧ RLA G S P N E K t c' p.2 ∧ k + 2 ≤ c'.1 ∧ c'.2.2.1.length ≤ c'.1)
theorem j119_E {kd v3 : Int32} {l0 l1 : Nat} {b : Bool} {u : wS} {c' : lC} (ht : t < 6) (hq : q.length < 12) (g : RLw G S P N E K t k c o u) (hc : c' = (k, c, o, q ++ [(kd, l0, l1, o.length, b)])) (h7 : u.1 157 t = Int32.ofNat q.length) (h6 : u.1 156 = upd (upd (upd (upd (s.1 156) (60 * t + 5 * q.length) kd) (60 * t + 5 * q.length + 1) (Int32.ofNat l0)) (60 * t + 5 * q.length + 2) (Int32.ofNat l1)) (60 * t + 5 * q.length + 3) v3) (h3 : v3 = if b = true then Int32.ofNat l1 else -1) (hs : RQl t q s) (h18 : (u.1 152 18).toInt = q.length + 1) : Tot (wX11_clauseOf_j119 ((60 * Int32.ofNat t) + (5 * Int32.ofNat q.length)) u) (fun p => p.1 = 1 ∧ RLA G S P N E K t c' p.2) := by
  have et : (Int32.ofNat t).toInt = t := t_on (by omega)
  unfold wX11_clauseOf_j119
  rw [g.ln ht, t_sbe, st156 (j := 4) ht hq rfl (by decide), t_sbe]
  have z15 : (wupI u 156 (60 * t + 5 * q.length + 4) (Int32.ofNat o.length)).1 152 15 = Int32.ofNat t := by rw [wupI_n (by decide)]; exact g.2.1
  rw [z15, wld_E (by omega) (by omega), t_sbe, t_nc (by omega), wupI_n (by decide), h7, wst_E (by omega) (by omega), t_sbe, t_nc (by omega)]
  have e1 : Int32.ofNat q.length + 1 = Int32.ofNat (q.length + 1) := Int32.toInt_inj.1 (by rw [t_p1 (by rw [t_on (by omega)]; omega) (by rw [t_on (by omega)]; omega), t_on (by omega), t_on (by omega)]; rfl)
  rw [e1, hc]
  refine t_some ⟨rfl, (g.o6 (Or.inl rfl)).o6 (Or.inr rfl), RQl.app hs hq wup_same ?_ h3, ?_⟩
  · show (wupI (wupI u 156 _ _) 157 _ _).1 156 = _
    rw [wupI_n (by decide), wupI_k, h6]
  · show ((wupI (wupI u 156 _ _) 157 _ _).1 152 18).toInt = _
    rw [wupI_n (by decide), wupI_n (by decide), h18, List.length_append]
    rfl
theorem clauseOf_E {x : lC} (ht : t < 6) (tk : TOKS G S P N E K) (g : RLw G S P N E K t x.1 x.2.1 x.2.2.1 s) (hq : RQl t x.2.2.2 s) (h18 : (s.1 152 18).toInt = x.2.2.2.length + 1) (hn : s.1 152 12 = P x.1) (hl : x.2.2.1.length ≤ x.1) (cw : S x.1 = 16 ∨ S x.1 = 17 ∨ S x.1 = 18) (h12 : ¬ x.2.2.2.length = 12) : Tot (wX11_clauseOf (kdL (S x.1)) s) (fun p => RX G S P N E K t x.1 (lcl S P N x) p) := by
  have hT := g.1.1.2.2.1
  have hK := tk.2.1
  have hk := g.1.2.2.2
  have hq12 : x.2.2.2.length < 12 := by have := hq.1.2; omega
  have et : (Int32.ofNat t).toInt = t := t_on (by omega)
  unfold wX11_clauseOf
  obtain ⟨hkK, hpw⟩ := passWord_R g.1 tk (by rcases cw with r | r | r <;> rw [r] <;> decide) hn
  rw [hpw, t_sbe]
  have g2 : RLw G S P N E K t (x.1 + 1) x.2.1 x.2.2.1 (nxt s (Int32.ofNat (E x.1))) := ⟨g.1.behind tk hkK rfl, g.2.nx⟩
  have z15 : (nxt s (Int32.ofNat (E x.1))).1 152 15 = Int32.ofNat t := g2.2.1
  have z157 : (nxt s (Int32.ofNat (E x.1))).1 157 t = Int32.ofNat x.2.2.2.length := by rw [wupI_n (by decide)]; exact hq.1.1
  rw [z15, wld_E (by omega) (by omega), t_sbe, t_nc (by omega), z157, st156_0 ht hq12, t_sbe]
  have g5 : RLw G S P N E K t (x.1 + 1) x.2.1 x.2.2.1 (wupI (nxt s (Int32.ofNat (E x.1))) 156 (60 * t + 5 * x.2.2.2.length) (kdL (S x.1))) := g2.o6 (Or.inl rfl)
  rw [g5.ln ht, t_sbe, st156 (j := 1) ht hq12 rfl (by decide), t_sbe]
  have g7 : RLw G S P N E K t (x.1 + 1) x.2.1 x.2.2.1 (wupI (wupI (nxt s (Int32.ofNat (E x.1))) 156 (60 * t + 5 * x.2.2.2.length) (kdL (S x.1))) 156 (60 * t + 5 * x.2.2.2.length + 1) (Int32.ofNat x.2.2.1.length)) := g5.o6 (Or.inl rfl)
  refine t_bind (sum_E ht tk g7 (by omega)) (fun p hp => ?_)
  obtain ⟨t8, s9⟩ := p
  rcases hp with ⟨e, h1, q0, qe⟩ | ⟨k1, c1, o1, h1, q0, g9, a9, ⟨b1, b2, b3⟩⟩
  · dsimp only at q0 qe ⊢
    rw [if_pos q0]
    refine t_some (Or.inl ⟨e, ?_, rfl, qe⟩)
    unfold lcl
    rw [if_pos cw, if_neg h12, sumV_eq h1]
  · dsimp only at q0 g9 a9 ⊢
    rw [if_neg (by rw [q0]; decide), g9.ln ht, t_sbe, st156 (j := 2) ht hq12 rfl (by decide), t_sbe, st156 (j := 3) ht hq12 rfl (by decide), t_sbe]
    have g14 : RLw G S P N E K t k1 c1 o1 (wupI (wupI s9 156 (60 * t + 5 * x.2.2.2.length + 2) (Int32.ofNat o1.length)) 156 (60 * t + 5 * x.2.2.2.length + 3) (-1)) := (g9.o6 (Or.inl rfl)).o6 (Or.inl rfl)
    rw [takesWord_E g14 tk, t_sbe]
    have f9 : s9.1 156 = upd (upd (s.1 156) (60 * t + 5 * x.2.2.2.length) (kdL (S x.1))) (60 * t + 5 * x.2.2.2.length + 1) (Int32.ofNat x.2.2.1.length) := by
      have : s9.1 156 = (wupI (wupI (nxt s (Int32.ofNat (E x.1))) 156 (60 * t + 5 * x.2.2.2.length) (kdL (S x.1))) 156 (60 * t + 5 * x.2.2.2.length + 1) (Int32.ofNat x.2.2.1.length)).1 156 := funext fun b => a9 156 b rfl
      rw [this, wupI_k, wupI_k, wupI_n (by decide)]
    have f7 : s9.1 157 t = Int32.ofNat x.2.2.2.length := by
      rw [a9 157 t rfl, wupI_n (by decide), wupI_n (by decide)]
      exact z157
    have f18 : s9.1 152 18 = s.1 152 18 := by
      rw [a9 152 18 rfl, wupI_n (by decide), wupI_n (by decide), wup_nb (by decide)]
    by_cases c19 : S k1 = 19
    · have hkK1 : k1 < K := tk.ne0 g9.1.2.2.2 (by rw [c19]; decide)
      rw [if_pos c19]
      dsimp only
      rw [if_neg (by decide)]
      have g16 : RLw G S P N E K t (k1 + 1) c1 o1 (nxt (wupI (wupI s9 156 (60 * t + 5 * x.2.2.2.length + 2) (Int32.ofNat o1.length)) 156 (60 * t + 5 * x.2.2.2.length + 3) (-1)) (Int32.ofNat (E k1))) := ⟨g14.1.behind tk hkK1 rfl, g14.2.nx⟩
      rw [g16.ln ht, t_sbe, st156 (j := 3) ht hq12 rfl (by decide), t_sbe]
      have g24 := g16.o6 (k0 := 156) (b := 60 * t + 5 * x.2.2.2.length + 3) (v := Int32.ofNat o1.length) (Or.inl rfl)
      refine t_bind (tested_E ht tk g24 (by omega)) (fun p hp => ?_)
      obtain ⟨t25, s26⟩ := p
      rcases hp with ⟨e, h2, q0, qe⟩ | ⟨k2, c2, o2, h2, q0, g26, a26, ⟨d1, d2⟩⟩
      · dsimp only at q0 qe ⊢
        rw [if_pos q0]
        refine t_some (Or.inl ⟨e, ?_, rfl, qe⟩)
        unfold lcl
        rw [if_pos cw, if_neg h12, sumV_eq h1]
        dsimp only
        rw [if_pos c19, testV_eq h2]
      · dsimp only at q0 g26 a26 ⊢
        rw [if_neg (by rw [q0]; decide)]
        have u7 : s26.1 157 t = Int32.ofNat x.2.2.2.length := by
          rw [a26 157 t rfl, wupI_n (by decide), wupI_n (by decide), wupI_n (by decide), wupI_n (by decide)]; exact f7
        have u18 : (s26.1 152 18).toInt = x.2.2.2.length + 1 := by
          rw [a26 152 18 rfl, wupI_n (by decide), wup_nb (by decide), wupI_n (by decide), wupI_n (by decide), f18]; exact h18
        have u6 : s26.1 156 = upd (upd (upd (upd (s.1 156) (60 * t + 5 * x.2.2.2.length) (kdL (S x.1))) (60 * t + 5 * x.2.2.2.length + 1) (Int32.ofNat x.2.2.1.length)) (60 * t + 5 * x.2.2.2.length + 2) (Int32.ofNat o1.length)) (60 * t + 5 * x.2.2.2.length + 3) (Int32.ofNat o1.length) := by
          have : s26.1 156 = (wupI (nxt (wupI (wupI s9 156 (60 * t + 5 * x.2.2.2.length + 2) (Int32.ofNat o1.length)) 156 (60 * t + 5 * x.2.2.2.length + 3) (-1)) (Int32.ofNat (E k1))) 156 (60 * t + 5 * x.2.2.2.length + 3) (Int32.ofNat o1.length)).1 156 := funext fun b => a26 156 b rfl
          rw [this, wupI_k, wupI_n (by decide), wupI_k, wupI_k, f9]
          funext j
          unfold upd
          by_cases hj : j = 60 * t + 5 * x.2.2.2.length + 3
          · rw [if_pos hj, if_pos hj]
          · rw [if_neg hj, if_neg hj, if_neg hj]
        refine t_mono (j119_E (s := s) (c' := (k2, c2, o2, x.2.2.2 ++ [(kdL (S x.1), x.2.2.1.length, o1.length, o2.length, true)])) (b := true) ht hq12 g26 rfl u7 u6 (if_pos rfl).symm hq u18) (fun p hp => Or.inr ⟨_, ?_, hp.1, hp.2, by dsimp only; omega, by dsimp only; omega⟩)
        unfold lcl
        rw [if_pos cw, if_neg h12, sumV_eq h1]
        dsimp only
        rw [if_pos c19, testV_eq h2]
    · rw [if_neg c19]
      dsimp only
      rw [if_pos rfl]
      have g16 : RLw G S P N E K t k1 c1 o1 (nxt (wupI (wupI s9 156 (60 * t + 5 * x.2.2.2.length + 2) (Int32.ofNat o1.length)) 156 (60 * t + 5 * x.2.2.2.length + 3) (-1)) (P k1)) := ⟨g14.1.at tk, g14.2.nx⟩
      refine t_mono (j119_E (s := s) (c' := (k1, c1, o1, x.2.2.2 ++ [(kdL (S x.1), x.2.2.1.length, o1.length, o1.length, false)])) (b := false) (v3 := -1) ht hq12 g16 rfl ?_ ?_ (if_neg (by decide)).symm hq ?_) (fun p hp => Or.inr ⟨_, ?_, hp.1, hp.2, by dsimp only; omega, by dsimp only; omega⟩)
      · rw [wupI_n (by decide), wupI_n (by decide), wupI_n (by decide)]; exact f7
      · rw [wupI_n (by decide), wupI_k, wupI_k, f9]
      · rw [wup_nb (by decide), wupI_n (by decide), wupI_n (by decide), f18]; exact h18
      · unfold lcl
        rw [if_pos cw, if_neg h12, sumV_eq h1]
        dsimp only
        rw [if_neg c19]
theorem lawClause_E {x : lC} (ht : t < 6) (tk : TOKS G S P N E K) (g : RLA G S P N E K t x s) (hl : x.2.2.1.length ≤ x.1) : Tot (wX11_clauseHere s) (fun p => RX G S P N E K t x.1 (lcl S P N x) p) := by
  obtain ⟨g0, gq, g18⟩ := g
  have hT := g0.1.1.2.2.1
  have hK := tk.2.1
  have q12 := gq.1.2
  have eqw : nxt (nxt s (P x.1)) (P x.1) = nxt s (P x.1) := wup_wup
  have ga : RLw G S P N E K t x.1 x.2.1 x.2.2.1 (nxt s (P x.1)) := ⟨g0.1.at tk, g0.2.nx⟩
  have t6 : ¬ (nxt s (P x.1)).1 152 15 = 6 := fun e => by
    have := congrArg Int32.toInt (ga.2.1.symm.trans e)
    rw [t_on (by omega), show (6 : Int32).toInt = 6 from rfl] at this
    omega
  have n18 : (nxt s (P x.1)).1 152 18 = s.1 152 18 := wup_nb (by decide)
  unfold wX11_clauseHere
  rw [see_R g0.1 tk, t_sbe]
  dsimp only
  rw [if_neg t6, nx_n]
  unfold wX11_clauseHere_j24
  have line : (S x.1 = 16 ∨ S x.1 = 17 ∨ S x.1 = 18) → Tot (wX11_clauseHere_j65 (P x.1) 0 (nxt s (P x.1))) (fun p => RX G S P N E K t x.1 (lcl S P N x) p) := by
    intro cw
    unfold wX11_clauseHere_j65 wX11_clauseHere_j70
    rw [if_neg (by decide), if_pos rfl]
    unfold wX11_clauseHere_j97
    rw [n18]
    by_cases c12 : x.2.2.2.length = 12
    · rw [if_pos (Int32.toInt_inj.1 (by rw [g18, c12]; rfl)), fails_R ga.1, t_sbe]
      dsimp only
      refine t_bind (t_rtZ (v := 0) (Or.inl rfl)) (fun t10 h10 => t_some (Or.inl ⟨fl 4 (P x.1), ?_, h10, wup_same⟩))
      unfold lcl
      rw [if_pos cw, if_pos c12]
    · rw [if_neg (fun e => by rw [e, show (12 : Int32).toInt = 12 from rfl] at g18; omega)]
      have e1 : (s.1 152 18 + 1).toInt = x.2.2.2.length + 1 := by rw [t_p1 (by omega) (by omega), g18]
      show Tot (if (0 : Int32) = 0 then ((wX11_isWord 1752135026 (wupI (nxt s (P x.1)) 152 18 (s.1 152 18 + 1))).bind fun (t31, s32) => if t31 = 0 then ((wX11_isWord 1919902052 s32).bind fun (t35, s36) => if t35 = 0 then (wX11_clauseHere_j157 2 s36) else (wX11_clauseHere_j157 1 s36)) else (wX11_clauseHere_j157 0 s32)) else ((wX11_courtLineHere (P x.1) (wupI (nxt s (P x.1)) 152 18 (s.1 152 18 + 1))).bind fun (t43, s44) => (wrtZ t43).bind fun t46 => some (t46, s44))) _
      rw [if_pos rfl]
      have gb : RLw G S P N E K t x.1 x.2.1 x.2.2.1 (wupI (nxt s (P x.1)) 152 18 (s.1 152 18 + 1)) := by
        refine ⟨ga.1.go ?_ ?_ ?_ ?_, ga.2.go ?_ ?_ ?_ ?_⟩
        · rw [wupI_n (by decide)]
        · rw [wup_nb (by decide)]
        · rw [wup_nb (by decide)]
        · rw [wup_nb (by decide)]
        · rw [wup_nb (by decide)]
        · rw [wup_nb (by decide)]
        · rw [wupI_n (by decide)]
        · rw [wupI_n (by decide)]
      have nb : (wupI (nxt s (P x.1)) 152 18 (s.1 152 18 + 1)).1 152 12 = P x.1 := by rw [wup_nb (by decide), nx_n]
      have idb : nxt (wupI (nxt s (P x.1)) 152 18 (s.1 152 18 + 1)) (P x.1) = wupI (nxt s (P x.1)) 152 18 (s.1 152 18 + 1) := by
        have := wup_id (s := wupI (nxt s (P x.1)) 152 18 (s.1 152 18 + 1)) (k := 152) (b := 12)
        rw [nb] at this
        exact this
      have qb : RQl t x.2.2.2 (wupI (nxt s (P x.1)) 152 18 (s.1 152 18 + 1)) := gq.go (by rw [wupI_n (by decide), wupI_n (by decide)]) (by rw [wupI_n (by decide), wupI_n (by decide)])
      have fin : ∀ y, y = kdL (S x.1) → Tot (wX11_clauseHere_j157 y (wupI (nxt s (P x.1)) 152 18 (s.1 152 18 + 1))) (fun p => RX G S P N E K t x.1 (lcl S P N x) p) := by
        intro y hy
        unfold wX11_clauseHere_j157
        rw [hy]
        refine t_bind (clauseOf_E ht tk gb qb (by rw [wup_same]; exact e1) nb hl cw c12) (fun p hp => ?_)
        obtain ⟨t39, s40⟩ := p
        rcases hp with ⟨e, h1, q0, qe⟩ | ⟨c', h1, q0, h2⟩
        · dsimp only at q0 qe ⊢
          exact t_bind (t_rtZ (Or.inl q0)) (fun t42 h42 => t_some (Or.inl ⟨e, h1, h42.trans q0, qe⟩))
        · dsimp only at q0 h2 ⊢
          exact t_bind (t_rtZ (Or.inr q0)) (fun t42 h42 => t_some (Or.inr ⟨c', h1, h42.trans q0, h2⟩))
      rw [isWord_R (c := 1752135026) (z := 1) gb.1 tk rfl (by decide), t_sbe, idb]
      dsimp only
      rw [show Int32.ofNat (15 + 1) = 16 from rfl]
      by_cases c16 : S x.1 = 16
      · rw [if_pos c16, if_neg (by decide)]
        exact fin 0 (by rw [c16]; rfl)
      · rw [if_neg c16, if_pos rfl, isWord_R (c := 1919902052) (z := 2) gb.1 tk rfl (by decide), t_sbe, idb]
        dsimp only
        rw [show Int32.ofNat (15 + 2) = 17 from rfl]
        by_cases c17 : S x.1 = 17
        · rw [if_pos c17, if_neg (by decide)]
          exact fin 1 (by rw [c17]; rfl)
        · rw [if_neg c17, if_pos rfl]
          exact fin 2 (by unfold kdL; rw [if_neg c16, if_neg c17])
  rw [isWord_R (c := 1919902052) (z := 2) ga.1 tk rfl (by decide), t_sbe, eqw]
  dsimp only
  rw [show Int32.ofNat (15 + 2) = 17 from rfl]
  by_cases c17 : S x.1 = 17
  · rw [if_pos c17, if_neg (by decide)]
    exact line (Or.inr (Or.inl c17))
  · rw [if_neg c17, if_pos rfl, isWord_R (c := 7168366) (z := 3) ga.1 tk rfl (by decide), t_sbe, eqw]
    dsimp only
    rw [show Int32.ofNat (15 + 3) = 18 from rfl]
    by_cases c18 : S x.1 = 18
    · rw [if_pos c18, if_neg (by decide)]
      exact line (Or.inr (Or.inr c18))
    · rw [if_neg c18, if_pos rfl, if_pos rfl]
      unfold wX11_clauseHere_j59
      rw [isWord_R (c := 1752135026) (z := 1) ga.1 tk rfl (by decide), t_sbe, eqw]
      dsimp only
      rw [show Int32.ofNat (15 + 1) = 16 from rfl]
      by_cases c16 : S x.1 = 16
      · rw [if_pos c16, if_neg (by decide)]
        exact line (Or.inl c16)
      · rw [if_neg c16, if_pos rfl]
        unfold wX11_clauseHere_j70
        rw [if_pos rfl, fails_R ga.1, t_sbe]
        dsimp only
        refine t_bind (t_rtZ (v := 0) (Or.inl rfl)) (fun t10 h10 => t_some (Or.inl ⟨fl 0 (P x.1), ?_, h10, wup_same⟩))
        unfold lcl
        rw [if_neg (fun e => by rcases e with e | e | e <;> contradiction)]
end RLW
end
section
/-! The reference reads a LAW's whole text. -/
section RLX
variable {G : wS} {S P N : Nat → Int32} {E : Nat → Nat} {K t k c : Nat} {o : List Int32} {q : List qT} {s : wS}
/-- the LAW as it stands behind its reading -/
noncomputable def RLf (t : Nat) (x : lC) (s : wS) : Prop := (s.1 155 t = Int32.ofNat x.2.2.1.length ∧ ∀ i v, x.2.2.1[i]? = some v → s.1 154 (400 * t + i) = rc v) ∧ RQl t x.2.2.2 s
theorem RLf.go {x : lC} {s' : wS} (h : RLf t x s) (h5 : s'.1 155 t = s.1 155 t) (h4 : s'.1 154 = s.1 154) (h7 : s'.1 157 t = s.1 157 t) (h6 : s'.1 156 = s.1 156) : RLf t x s' := by
  obtain ⟨⟨g1, g2⟩, g3⟩ := h
  exact ⟨⟨by rw [h5]; exact g1, by rw [h4]; exact g2⟩, g3.go h7 h6⟩
noncomputable def RVl (S P N : Nat → Int32) (t : Nat) (x : lC) (p : Int32 × wS) : Prop := (∃ e, Ev (lst S P N) x (.inl e) ∧ p.1 = 0 ∧ p.2.1 152 13 = e) ∨ (∃ c' : lC, Ev (lst S P N) x (.inr c') ∧ p.1 = 1 ∧ RLf t c' p.2)
theorem lawAll_L (ht : t < 6) (tk : TOKS G S P N E K) : ∀ (n : Nat) {x : lC} {s : wS}, RLA G S P N E K t x s → x.2.2.1.length ≤ x.1 → (∀ e, Ev (lst S P N) x (.inl e) → ¬ e = 0) → K - x.1 + 1 < n → Tot ((wX11_clauseHere s).bind fun (t6, s7) => (wX11_readsAll_h35 n t6 s7).bind fun (t19, s20) => wX11_readsAll_j66 t19 s20) (fun p => RVl S P N t x p) := by
  intro n
  induction n with
  | zero => intro x s _ _ _ hm; exact absurd hm (by omega)
  | succ n ih =>
    intro x s g hl hE hm
    have hkx := g.1.1.2.2.2
    refine t_bind (lawClause_E ht tk g hl) (fun p hp => ?_)
    obtain ⟨t6, s7⟩ := p
    dsimp only
    rw [wX11_readsAll_h35]
    rcases hp with ⟨e, n1, q0, qe⟩ | ⟨c', n1, q0, h1, h2, h3⟩
    · dsimp only at q0 qe
      have ev : Ev (lst S P N) x (.inl e) := Ev.ret (by unfold lst; rw [n1])
      rw [if_pos q0, t_sbe]
      dsimp only
      unfold wX11_readsAll_j66 wX11_readsAll_j88
      rw [if_pos q0, if_pos q0]
      exact t_mono (j125_F qe (hE e ev)) (fun q hq => Or.inl ⟨e, ev, hq⟩)
    · dsimp only at q0 h1
      have ne : ¬ t6 = 0 := by rw [q0]; decide
      obtain ⟨g0, gq, g18⟩ := id h1
      rw [if_neg ne, see_R g0.1 tk, t_sbe]
      dsimp only
      have hk := g0.1.2.2.2
      have s3 := seen_S (c := 59) (g := 3) tk hk bsg_3 (by decide) (by decide) (by decide)
      have s0 := seen_n tk hk
      have ga : RLw G S P N E K t c'.1 c'.2.1 c'.2.2.1 (nxt s7 (P c'.1)) := ⟨g0.1.at tk, g0.2.nx⟩
      have eqw : nxt (nxt s7 (P c'.1)) (P c'.1) = nxt s7 (P c'.1) := wup_wup
      by_cases c3 : S c'.1 = 3
      · rw [if_pos (s3.2 c3)]
        obtain ⟨o1, o2⟩ := one_R g0.1 tk (by rw [c3]; decide) (by rw [c3]; decide) (by rw [c3]; decide) (by rw [c3]; decide)
        rw [nx_n, o2]
        have ex : wpfI (nxt s7 (P c'.1)) 152 12 (Int32.ofNat (E c'.1)) = some (nxt s7 (Int32.ofNat (E c'.1))) := congrArg some wup_wup
        rw [ex, t_sbe]
        have st : lst S P N x = .inl (c'.1 + 1, c'.2) := by
          unfold lst
          rw [n1]
          dsimp only
          rw [if_pos c3]
        have := ih (x := (c'.1 + 1, c'.2)) ⟨⟨g0.1.behind tk o1 rfl, g0.2.nx⟩, gq.go (by rw [wupI_n (by decide)]) (by rw [wupI_n (by decide)]), by rw [wup_nb (by decide)]; exact g18⟩ (by dsimp only; omega) (fun e he => hE e (Ev.step st he)) (by dsimp only; omega)
        refine t_assoc (t_mono this (fun q hq => ?_))
        rcases hq with ⟨e, a, b⟩ | ⟨d, a, b⟩
        · exact Or.inl ⟨e, Ev.step st a, b⟩
        · exact Or.inr ⟨d, Ev.step st a, b⟩
      · rw [if_neg (fun q => c3 (s3.1 q)), t_sbe]
        dsimp only
        unfold wX11_readsAll_j66
        rw [if_neg ne, see_R ga.1 tk, t_sbe, eqw]
        dsimp only
        have t6' : ¬ (nxt s7 (P c'.1)).1 152 15 = 6 := fun e => by
          have := congrArg Int32.toInt (ga.2.1.symm.trans e)
          rw [t_on (by omega), show (6 : Int32).toInt = 6 from rfl] at this
          omega
        by_cases c0 : S c'.1 = 0
        · rw [if_pos (s0.2 c0)]
          unfold wX11_readsAll_j88
          rw [if_neg ne, if_neg t6']
          unfold wX11_readsAll_j125
          show Tot (if (wupI (nxt s7 (P c'.1)) 152 1 0).1 152 13 = 0 then some ((1 : Int32), wupI (nxt s7 (P c'.1)) 152 1 0) else some (0, wupI (nxt s7 (P c'.1)) 152 1 0)) _
          rw [wup_nb (by decide), if_pos ga.1.2.2.1]
          refine t_some (Or.inr ⟨c', Ev.ret ?_, rfl, ⟨⟨?_, fun i v hv => ?_⟩, gq.go ?_ ?_⟩⟩)
          · unfold lst
            rw [n1]
            dsimp only
            rw [if_neg c3, if_pos c0]
          · show (wupI (nxt s7 (P c'.1)) 152 1 0).1 155 t = _
            rw [wupI_n (by decide), wupI_n (by decide)]
            exact g0.2.2.2.1
          · show (wupI (nxt s7 (P c'.1)) 152 1 0).1 154 _ = _
            rw [wupI_n (by decide), wupI_n (by decide)]
            exact g0.2.2.2.2 i v hv
          · rw [wupI_n (by decide), wupI_n (by decide)]
          · rw [wupI_n (by decide), wupI_n (by decide)]
        · rw [if_neg (fun q => c0 (s0.1 q))]
          have st : lst S P N x = .inr (.inl (fl 0 (P c'.1))) := by
            unfold lst
            rw [n1]
            dsimp only
            rw [if_neg c3, if_neg c0]
          rw [nx_n, fails_R ga.1, t_sbe]
          dsimp only
          unfold wX11_readsAll_j88
          rw [if_pos rfl]
          exact t_mono (j125_F wup_same (hE _ (Ev.ret st))) (fun q hq => Or.inl ⟨_, Ev.ret st, hq⟩)
/-- the start of a LAW's reading -/
noncomputable abbrev ls3 (t : Nat) (s : wS) : wS := wupI (wupI s 152 15 (Int32.ofNat t)) 157 t 0
/-- only so much is written in reading a LAW -/
theorem law_RA (ht : t < 6) (hL : s.1 152 2 = Int32.ofNat t) (g : RI s) : Tot (wX11_readsAll (ls3 t s)) (RA (JL t) (bN t) (ls3 t s)) := by
  obtain ⟨⟨gC, gL, gW⟩, gT, gI⟩ := g
  have x3 : (ls3 t s).1 152 15 = Int32.ofNat t := by rw [wupI_n (by omega), wup_same]
  have et : (Int32.ofNat t).toInt = t := t_on (by omega)
  have hX : (Int32.ofNat t).toNatClampNeg = t := t_nc (by omega)
  have T3 : (ls3 t s).1 152 1 = s.1 152 1 := by rw [wupI_n (by omega), wup_nb (by omega)]
  have c3 : (ls3 t s).1 157 t = 0 := wup_same
  generalize ls3 t s = s3 at x3 T3 c3
  have hB : ∀ k b, bF k b = true → bN t k b = true := fun k b h => bL_le_bN k b (bF_le_bL k b h)
  refine readsAll_T (J := JL t) (B := bN t) hB (by unfold bN; rw [show (Nat.beq 152 152 && (Nat.beq 1 1 || Nat.beq 1 15)) = true from rfl, Bool.or_true]) ?_ (fun u h => h.1.tp) (fun u v h o => JL_on o h) (fun u h q => JL_P h q) (fun u h => ⟨by have := h.2.2.1; omega, by have := h.2.2.2; omega⟩) (fun u h => t_mono (clauseHere_L (by omega) h) (fun r hr => ⟨hr.1.mono bL_le_bN, hr.2⟩)) (s := s3) (by rw [x3]; omega) (by rw [x3]; omega) ?_ ?_
  · refine bL_le_bN _ _ ?_
    unfold bL
    rw [bE_k (by omega) (by omega) rfl]
    rfl
  · rw [x3, hX]
    refine bL_le_bN _ _ (bE_le_bL _ _ ?_)
    unfold bE
    rw [show Nat.beq 155 155 = true from rfl, Nat.beq_refl, Bool.true_and, Bool.or_true, Bool.true_or]
  · rw [x3, hX]
    refine ⟨?_, ?_, ?_, ?_⟩
    · refine ⟨?_, ?_, ?_, ?_, Int.le_refl 0, ?_, ?_⟩
      · rw [wup_nb (by omega), wup_nb (by omega), wup_nb (by omega), wup_nb (by omega), wupI_n (by omega), T3]
        exact gT
      · rw [wup_nb (by omega), wup_nb (by omega), wup_same, wup_nb (by omega), wup_nb (by omega), wup_nb (by omega), wup_nb (by omega), wupI_n (by omega), T3]
        exact ⟨by decide, gT.1⟩
      · rw [wup_nb (by omega), wup_nb (by omega), wup_nb (by omega), wup_nb (by omega), wupI_n (by omega), x3]
        omega
      · rw [wupI_n (by omega), wupI_n (by omega), wupI_n (by omega), wupI_n (by omega), wup_same]
        decide
      · rw [wupI_n (by omega), wupI_n (by omega), wupI_n (by omega), wupI_n (by omega), wup_same]
        show (0 : Int32).toInt + 0 ≤ _
        rw [wup_nb (by omega), wup_nb (by omega), wup_same]
        decide
      · rw [wup_same]
        decide
    · intro j hj
      rw [wupI_n (by omega), wupI_n (by omega), wupI_n (by omega), wupI_n (by omega), wupI_n (by omega), c3, t_i0] at hj
      omega
    · rw [wupI_n (by omega), wupI_n (by omega), wupI_n (by omega), wupI_n (by omega), wupI_n (by omega), c3, wup_nb (by omega), wup_nb (by omega), wup_nb (by omega), wup_same]
      decide
    · rw [wup_nb (by omega), wup_nb (by omega), wup_nb (by omega), wup_same]
      decide
theorem law_RV (ht : t < 6) (g : RG G s) (tk : TOKS G S P N E K) (hE : ∀ e, Ev (lst S P N) (0, 0, [], []) (.inl e) → ¬ e = 0) : Tot (wX11_readsAll (ls3 t s)) (RVl S P N t (0, 0, [], [])) := by
  unfold wX11_readsAll
  have x3 : (ls3 t s).1 152 15 = Int32.ofNat t := by rw [wupI_n (by omega), wup_same]
  rw [x3, wst_E (by rw [t_on (by omega)]; omega) (by rw [t_on (by omega)]; omega), t_sbe, t_nc (by omega)]
  show Tot ((wX11_clauseHere (wupI (wupI (wupI (wupI (wupI (ls3 t s) 155 t 0) 152 18 0) 152 12 0) 152 13 0) 152 16 0)).bind fun (t6, s7) => (wX11_readsAll_h35 wFuel t6 s7).bind fun (t19, s20) => wX11_readsAll_j66 t19 s20) _
  refine lawAll_L ht tk wFuel (x := (0, 0, [], [])) ⟨⟨⟨g.go ?_ ?_, ⟨0, ?_, tk.sk (k := 0) (Nat.zero_le _)⟩, ?_, Nat.zero_le _⟩, ?_, ⟨?_, Nat.zero_le _⟩, ?_, fun i v hv => by cases hv⟩, ⟨⟨?_, Nat.zero_le _⟩, fun i v hv => by cases hv⟩, ?_⟩ (Nat.le_refl _) hE (by
    have e : wFuel = 1099511627776 := rfl
    have := tk.2.1
    have := g.2.2.1
    dsimp only
    omega)
  · rw [wupI_n (by decide), wupI_n (by decide), wupI_n (by decide), wupI_n (by decide), wupI_n (by decide), wupI_n (by decide), wupI_n (by decide)]
  · rw [wup_nb (by decide), wup_nb (by decide), wup_nb (by decide), wup_nb (by decide), wupI_n (by decide), wupI_n (by decide), wup_nb (by decide)]
  · rw [wup_nb (by decide), wup_nb (by decide), wup_same]; rfl
  · rw [wup_nb (by decide), wup_same]
  · rw [wup_nb (by decide), wup_nb (by decide), wup_nb (by decide), wup_nb (by decide), wupI_n (by decide)]; exact x3
  · rw [wup_same]; rfl
  · rw [wupI_n (by decide), wupI_n (by decide), wupI_n (by decide), wupI_n (by decide), wup_same]; rfl
  · rw [wupI_n (by decide), wupI_n (by decide), wupI_n (by decide), wupI_n (by decide), wupI_n (by decide), wup_same]; rfl
  · rw [wup_nb (by decide), wup_nb (by decide), wup_nb (by decide), wup_same]; rfl
noncomputable def bNl (t k b : Nat) : Bool := bN t k b || (Nat.beq k 152 && Nat.beq b 2)
theorem wX11_law_E (ht : t < 6) (hL : s.1 152 2 = Int32.ofNat t) (g : RG G s) (tk : TOKS G S P N E K) (hE : ∀ e, Ev (lst S P N) (0, 0, [], []) (.inl e) → ¬ e = 0) (ri : RI s) : Tot (wX11_law s) (fun p => wA (bNl t) s p.2 ∧ p.2.1 152 1 = 0 ∧ ((∃ e, Ev (lst S P N) (0, 0, [], []) (.inl e) ∧ p.1 = (Int8.ofInt (-2)).toInt32 - e ∧ p.2.1 152 2 = s.1 152 2) ∨ (∃ c' : lC, Ev (lst S P N) (0, 0, [], []) (.inr c') ∧ p.1 = Int32.ofNat t ∧ p.2.1 152 2 = Int32.ofNat (t + 1) ∧ RLf t c' p.2))) := by
  have et : (Int32.ofNat t).toInt = t := t_on (by omega)
  have ent : (Int32.ofNat t).toNatClampNeg = t := t_nc (by omega)
  have e6 : (6 : Int32).toInt = 6 := rfl
  unfold wX11_law
  rw [hL, if_neg (fun e => by have := congrArg Int32.toInt e; rw [et, e6] at this; omega)]
  show Tot ((wstI (wupI s 152 15 (Int32.ofNat t)) 157 6 ((wupI s 152 15 (Int32.ofNat t)).1 152 15) 0).bind _) _
  rw [wup_same, wst_E (by omega) (by omega), t_sbe, ent]
  refine t_bind (t_and (law_RA ht hL ri) (law_RV ht g tk hE)) (fun r hr => ?_)
  obtain ⟨t4, s5⟩ := r
  obtain ⟨⟨a1, a2, -⟩, hr⟩ := hr
  dsimp only at a1 a2 hr ⊢
  have le : ∀ k b, bN t k b = true → bNl t k b = true := fun k b h => by unfold bNl; rw [h]; rfl
  have A : wA (bN t) s s5 := by
    refine ((wA_I ?_).trans (wA_I ?_)).trans a1
    · unfold bN; rw [show (Nat.beq 152 152 && (Nat.beq 15 1 || Nat.beq 15 15)) = true from rfl, Bool.or_true]
    · exact bL_le_bN _ _ bL_157
  have e2 : s5.1 152 2 = s.1 152 2 := A 152 2 bN_2
  rcases hr with ⟨e, h1, q0, qe⟩ | ⟨c', h1, q0, h2⟩
  · dsimp only at q0 qe
    rw [if_pos q0, qe]
    exact t_some ⟨A.mono le, a2, Or.inl ⟨e, h1, rfl, e2.trans hL⟩⟩
  · dsimp only at q0 h2
    rw [if_neg (by rw [q0]; decide)]
    have e1 : s5.1 152 2 + 1 = Int32.ofNat (t + 1) := Int32.toInt_inj.1 (by rw [e2, hL, t_p1 (by omega) (by omega), et, t_on (by omega)]; rfl)
    rw [e1]
    show Tot (some ((wupI s5 152 2 (Int32.ofNat (t + 1))).1 152 2 - 1, wupI s5 152 2 (Int32.ofNat (t + 1)))) _
    rw [wup_same]
    refine t_some ⟨(A.mono le).trans (wA_I ?_), ?_, Or.inr ⟨c', h1, ?_, wup_same, h2.go (by rw [wupI_n (by decide)]) (by rw [wupI_n (by decide)]) (by rw [wupI_n (by decide)]) (by rw [wupI_n (by decide)])⟩⟩
    · unfold bNl; rw [show (Nat.beq 152 152 && Nat.beq 2 2) = true from rfl, Bool.or_true]
    · show (wupI s5 152 2 (Int32.ofNat (t + 1))).1 152 1 = 0
      rw [wup_nb (by decide)]; exact a2
    · exact Int32.toInt_inj.1 (by
        rw [t_sub (by rw [t_on (by omega), show (1 : Int32).toInt = 1 from rfl]; omega) (by rw [t_on (by omega), show (1 : Int32).toInt = 1 from rfl]; omega), t_on (by omega), et, show (1 : Int32).toInt = 1 from rfl]
        omega)
end RLX
end
section
/-! The class's LAW, whole; both sides read the same. -/
/-- a LAW as the class holds it -/
noncomputable def CLc (k2 : Nat) (x : lC) (s : wS) : Prop := (s.1 k2 1 = Int32.ofNat x.2.2.1.length ∧ x.2.2.1.length ≤ 400 ∧ ∀ i v, x.2.2.1[i]? = some v → s.1 (k2 + 1) i = v ∧ okc v) ∧ LQ k2 x.2.2.2 s ∧ LB x.2.2.1.length x.2.2.2
theorem CLc.go {k2 : Nat} {x : lC} {s s' : wS} (h : CLc k2 x s) (h1 : s'.1 k2 1 = s.1 k2 1) (h6 : s'.1 k2 6 = s.1 k2 6) (ho : ∀ j, 1 ≤ j → j ≤ 5 → s'.1 (k2 + j) = s.1 (k2 + j)) : CLc k2 x s' := by
  obtain ⟨⟨g1, g2, g3⟩, g4, g5⟩ := h
  exact ⟨⟨by rw [h1]; exact g1, g2, by rw [ho 1 (by decide) (by decide)]; exact g3⟩, g4.go h6 (ho 2 (by decide) (by decide)) (ho 3 (by decide) (by decide)) (ho 4 (by decide) (by decide)) (ho 5 (by decide) (by decide)), g5⟩
/-- what the reading of a LAW writes -/
noncomputable def bLw (k2 k b : Nat) : Bool := (Nat.ble 3 k && Nat.ble k 6) || (Nat.beq k 8 || ((Nat.beq k 1 && Nat.beq b 1) || ((Nat.beq k 0 && Nat.beq b 6) || (Nat.ble k2 k && Nat.ble k (k2 + 5)))))
theorem bLw_n {k2 k b : Nat} (h3 : ¬ (3 ≤ k ∧ k ≤ 6)) (h8 : k ≠ 8) (h1 : ¬ (k = 1 ∧ b = 1)) (h0 : ¬ (k = 0 ∧ b = 6)) (h : ¬ (k2 ≤ k ∧ k ≤ k2 + 5)) : bLw k2 k b = false := by
  cases e : bLw k2 k b
  · rfl
  · exfalso
    simp only [bLw, Bool.or_eq_true, Bool.and_eq_true, Nat.beq_eq, Nat.ble_eq] at e
    omega
theorem bLw_p {k2 k b : Nat} (h : (3 ≤ k ∧ k ≤ 6) ∨ k = 8 ∨ (k = 1 ∧ b = 1) ∨ (k = 0 ∧ b = 6) ∨ (k2 ≤ k ∧ k ≤ k2 + 5)) : bLw k2 k b = true := by
  simp only [bLw, Bool.or_eq_true, Bool.and_eq_true, Nat.beq_eq, Nat.ble_eq]
  omega
theorem wX10_law_E {l : Nat} {s : wS} (hl : l < 6) (h6 : s.1 0 6 = Int32.ofNat l) (hT0 : 0 ≤ (s.1 1 1).toInt) (hT : (s.1 1 1).toInt ≤ 400) : Tot (wX10_law s) (fun q => wA (bLw (44 + 10 * l)) s q.2 ∧ q.2.1 1 1 = 0 ∧ ∃ S P N E K, TOKS s S P N E K ∧ (∀ e, Ev (lst S P N) (0, 0, [], []) (.inl e) → ¬ e = 0) ∧ ((∃ e, Ev (lst S P N) (0, 0, [], []) (.inl e) ∧ q.1 = (Int8.ofInt (-2)).toInt32 - e ∧ q.2.1 0 6 = s.1 0 6) ∨ (∃ c' : lC, Ev (lst S P N) (0, 0, [], []) (.inr c') ∧ q.1 = Int32.ofNat l ∧ q.2.1 0 6 = Int32.ofNat (l + 1) ∧ CLc (44 + 10 * l) c' q.2 ∧ q.2.1 (44 + 10 * l) 12 = 0))) := by
  have el : (Int32.ofNat l).toInt = l := t_on (by omega)
  have h44 : 44 ≤ 44 + 10 * l := by omega
  unfold wX10_law
  rw [h6, if_pos (Int32.lt_iff_toInt_lt.2 (by rw [el, show (6 : Int32).toInt = 6 from rfl]; omega))]
  refine t_bind (t_ldR3 (by omega) (by omega)) (fun k2 hk => ?_)
  obtain ⟨hk3, rfl⟩ := hk
  rw [t_nc (by omega)] at hk3 ⊢
  refine t_bind (wX9_cut_E hT0 hT) (fun s4 h4 => ?_)
  obtain ⟨a4, q34, q35, K, E, q33, tk⟩ := h4
  refine t_bind (t_pfI (B := fun k b => Nat.beq k 1 && Nat.beq b 1) rfl) (fun s6 h6' => ?_)
  have pb : ∀ j, j ≤ K → 0 ≤ (s4.1 5 j).toInt ∧ (s4.1 5 j).toInt ≤ 400 := fun j hj => by have := tk.p0 hT0 hj; omega
  have hK : K ≤ 400 := by have := tk.2.1; omega
  have ct : CT (s4.1 4) (s4.1 5) (s4.1 6) K 0 s6 := by
    refine ⟨⟨?_, ?_, ?_⟩, ⟨?_, hK⟩, ?_⟩
    · rw [h6'.2, wupI_n (by decide)]
    · rw [h6'.2, wupI_n (by decide)]
    · rw [h6'.2, wupI_n (by decide)]
    · rw [h6'.2, wupI_n (by decide), q33]
    · rw [h6'.2, wupI_n (by decide), q34]; rfl
  refine t_bind (t_and (read4_W (k2 := 44 + 10 * l) h44 ct (by rw [h6'.2, wupI_n (by decide)]; exact q35) tk.2.2.1 pb) (wX4_read_Z hk3)) (fun s8 h8 => ?_)
  obtain ⟨h8, b8⟩ := h8
  have le4 : wA (bLw (44 + 10 * l)) s s4 := a4.mono (fun k b hb => by
    simp only [bTk, Bool.or_eq_true, Bool.and_eq_true, Nat.beq_eq, Nat.ble_eq] at hb
    exact bLw_p (by omega))
  have le6 : wA (bLw (44 + 10 * l)) s4 s6 := h6'.1.mono (fun k b hb => by
    simp only [Bool.and_eq_true, Nat.beq_eq] at hb
    exact bLw_p (by omega))
  have le8 : wA (bLw (44 + 10 * l)) s6 s8 := b8.mono (fun k b hb => by
    simp only [bZ, Bool.or_eq_true, Bool.and_eq_true, Nat.beq_eq, Nat.ble_eq] at hb
    exact bLw_p (by omega))
  have A := (le4.trans le6).trans le8
  have z06 : s8.1 0 6 = s.1 0 6 := by rw [b8 0 6 (bZ_n (by decide) (by decide) (by omega)), h6'.2, wupI_n (by decide), a4 0 6 rfl]
  have z11 : s8.1 1 1 = 0 := by rw [b8 1 1 (bZ_n (by decide) (by decide) (by omega)), h6'.2, wup_same]
  rcases h8 with ⟨e, h1, h3⟩ | ⟨c', h1, ⟨h3, h5, h7, h9⟩, hlen⟩
  · rw [h3.2.1, if_neg h3.2.2.1]
    exact t_some ⟨A, z11, s4.1 4, s4.1 5, s4.1 6, E, K, tk, fun e' he' => by rw [← Sum.inl.inj (h1.det he')]; exact h3.2.2.1, Or.inl ⟨e, h1, rfl, z06.trans h6⟩⟩
  · rw [h3.2.1, if_pos rfl, z06, h6]
    have e1 : Int32.ofNat l + 1 = Int32.ofNat (l + 1) := Int32.toInt_inj.1 (by rw [t_p1 (by omega) (by omega), el, t_on (by omega)]; rfl)
    rw [e1]
    show Tot (some ((wupI s8 0 6 (Int32.ofNat (l + 1))).1 0 6 - 1, wupI s8 0 6 (Int32.ofNat (l + 1)))) _
    rw [wup_same]
    refine t_some ⟨A.trans (wA_I (bLw_p (by omega))), ?_, s4.1 4, s4.1 5, s4.1 6, E, K, tk, (fun e' he' => by cases h1.det he'), Or.inr ⟨c', h1, ?_, wup_same, ⟨⟨?_, hlen, ?_⟩, h5.go ?_ ?_ ?_ ?_ ?_, h9⟩, ?_⟩⟩
    · show (wupI s8 0 6 (Int32.ofNat (l + 1))).1 1 1 = 0
      rw [wupI_n (by decide)]; exact z11
    · exact Int32.toInt_inj.1 (by
        rw [t_sub (by rw [t_on (by omega), show (1 : Int32).toInt = 1 from rfl]; omega) (by rw [t_on (by omega), show (1 : Int32).toInt = 1 from rfl]; omega), t_on (by omega), el, show (1 : Int32).toInt = 1 from rfl]
        omega)
    · show (wupI s8 0 6 (Int32.ofNat (l + 1))).1 (44 + 10 * l) 1 = _
      rw [wupI_n (by omega)]; exact h3.2.2.2.1
    · show ∀ i v, _ → (wupI s8 0 6 (Int32.ofNat (l + 1))).1 (44 + 10 * l + 1) i = v ∧ okc v
      rw [wupI_n (by omega)]; exact h3.2.2.2.2
    all_goals
      first
        | (show (wupI s8 0 6 (Int32.ofNat (l + 1))).1 _ _ = s8.1 _ _; rw [wupI_n (by omega)]; done)
        | (show (wupI s8 0 6 (Int32.ofNat (l + 1))).1 _ = s8.1 _; rw [wupI_n (by omega)]; done)
        | (show (wupI s8 0 6 (Int32.ofNat (l + 1))).1 (44 + 10 * l) 12 = 0; rw [wupI_n (by omega)]; exact h7)
end
