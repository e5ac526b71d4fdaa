/-! The reference reads VALUES and SUMS. -/
/-- a sign of the class's code, as the reference puts it -/
noncomputable def rc (v : Int32) : Int32 := if 100 ≤ v then 16 * (v - 100) else if 23 ≤ v then 1 + 16 * (v - 23) else if v = 22 then 11 else if v = 21 then 12 else if v = 20 then 13 else v - 4
/-- the code so far, what was made -/
noncomputable def RK (t c : Nat) (o : List Int32) (s : wS) : Prop := s.1 152 15 = Int32.ofNat t ∧ ((s.1 152 16).toInt = c ∧ c ≤ 60) ∧ s.1 155 t = Int32.ofNat o.length ∧ ∀ i v, o[i]? = some v → s.1 154 (400 * t + i) = rc v
noncomputable def RLw (G : wS) (S P N : Nat → Int32) (E : Nat → Nat) (K t k c : Nat) (o : List Int32) (s : wS) : Prop := RS G S P N E K k s ∧ RK t c o s
/-- what its reading writes -/
noncomputable def bLT (t k b : Nat) : Bool := (Nat.beq k 154 || (Nat.beq k 155 && Nat.beq b t)) || (Nat.beq k 152 && (Nat.beq b 12 || (Nat.beq b 13 || (Nat.beq b 14 || Nat.beq b 16))))
theorem bLT_p {t k b : Nat} (h : k = 154 ∨ (k = 155 ∧ b = t) ∨ (k = 152 ∧ (b = 12 ∨ b = 13 ∨ b = 14 ∨ b = 16))) : bLT t k b = true := by
  simp only [bLT, Bool.or_eq_true, Bool.and_eq_true, Nat.beq_eq]
  omega
section RSM
variable {G : wS} {S P N : Nat → Int32} {E : Nat → Nat} {K t k c : Nat} {o : List Int32} {s : wS}
theorem RS.go {s' : wS} (g : RS G S P N E K k s) (h153 : s'.1 153 = s.1 153) (h1 : s'.1 152 1 = s.1 152 1) (h12 : s'.1 152 12 = s.1 152 12) (h13 : s'.1 152 13 = s.1 152 13) : RS G S P N E K k s' := by
  obtain ⟨g1, ⟨n, g2, g3⟩, g4, gk⟩ := g
  exact ⟨g1.go h153 h1, ⟨n, by rw [h12]; exact g2, g3⟩, by rw [h13]; exact g4, gk⟩
theorem RK.go {s' : wS} (h : RK t c o s) (h15 : s'.1 152 15 = s.1 152 15) (h16 : s'.1 152 16 = s.1 152 16) (h155 : s'.1 155 t = s.1 155 t) (h154 : s'.1 154 = s.1 154) : RK t c o s' := by
  unfold RK
  rw [h15, h16, h155, h154]
  exact h
theorem RK.nx {v : Int32} (h : RK t c o s) : RK t c o (nxt s v) := h.go (wup_nb (by decide)) (wup_nb (by decide)) (by rw [wupI_n (by decide)]) (wupI_n (by decide))
theorem RK.f14 {v : Int32} (h : RK t c o s) : RK t c o (wupI s 152 14 v) := h.go (wup_nb (by decide)) (wup_nb (by decide)) (by rw [wupI_n (by decide)]) (wupI_n (by decide))
theorem puts_E {x1 x2 v : Int32} (ht : t < 6) (h : RK t c o s) (hl : o.length < 400) (hv : x1 + (16 * x2) = rc v) : ∃ s', wX11_puts x1 x2 s = some s' ∧ RK t c (o ++ [v]) s' ∧ wA (fun k b => Nat.beq k 154 || (Nat.beq k 155 && Nat.beq b t)) s s' := by
  obtain ⟨h15, h16, h155, h154⟩ := h
  have et : (Int32.ofNat t).toInt = t := t_on (by omega)
  have ent : (Int32.ofNat t).toNatClampNeg = t := t_nc (by omega)
  have el : (Int32.ofNat o.length).toInt = o.length := t_on (by omega)
  have e400 : (400 : Int32).toInt = 400 := rfl
  have q1 : (400 * Int32.ofNat t).toInt = 400 * t := by rw [t_mul (by rw [e400, et]; omega) (by rw [e400, et]; omega), e400, et]
  have q2 : (400 * Int32.ofNat t + Int32.ofNat o.length).toInt = 400 * t + o.length := by rw [t_add (by omega) (by omega), q1, el]
  have q3 : (400 * Int32.ofNat t + Int32.ofNat o.length).toNatClampNeg = 400 * t + o.length := by unfold Int32.toNatClampNeg; omega
  have q4 : Int32.ofNat o.length + 1 = Int32.ofNat (o.length + 1) := Int32.toInt_inj.1 (by rw [t_p1 (by omega) (by omega), el, t_on (by omega)]; rfl)
  refine ⟨wupI (wupI s 154 (400 * t + o.length) (rc v)) 155 t (Int32.ofNat (o.length + 1)), ?_, ⟨?_, ⟨?_, h16.2⟩, ?_, fun i x hx => ?_⟩, ?_⟩
  · unfold wX11_puts
    rw [h15, wld_E (by omega) (by omega), t_sbe, ent, h155, wst_E (by omega) (by omega), t_sbe, q3, wupI_n (by decide), h15, wld_E (by omega) (by omega), t_sbe, ent, wupI_n (by decide), h155, wst_E (by omega) (by omega), t_sbe, ent, q4, hv]
  · rw [wupI_n (by decide), wupI_n (by decide)]; exact h15
  · rw [wupI_n (by decide), wupI_n (by decide)]; exact h16.1
  · rw [wup_same, List.length_append]; rfl
  · rw [wupI_n (by decide), wupI_k]
    by_cases c : i = o.length
    · subst c
      rw [updI_s]
      rw [List.getElem?_append_right (Nat.le_refl _), Nat.sub_self] at hx
      rw [← Option.some.inj hx]
    · rw [updI_n (by omega)]
      have hi : i < o.length := by
        have := (List.getElem?_eq_some_iff.1 hx).1
        rw [List.length_append] at this
        have e1 : [v].length = 1 := rfl
        omega
      rw [List.getElem?_append_left hi] at hx
      exact h154 i x hx
  · refine (wA_I (B := fun k b => Nat.beq k 154 || (Nat.beq k 155 && Nat.beq b t)) rfl).trans (wA_I ?_)
    show (Nat.beq 155 154 || (Nat.beq 155 155 && Nat.beq t t)) = true
    rw [show Nat.beq 155 155 = true from rfl, Nat.beq_refl]
    rfl
theorem RLw.puts {x1 x2 v : Int32} (ht : t < 6) (h : RLw G S P N E K t k c o s) (hl : o.length < 400) (hv : x1 + (16 * x2) = rc v) : Tot (wX11_puts x1 x2 s) (fun s' => RLw G S P N E K t k c (o ++ [v]) s' ∧ wA (bLT t) s s') := by
  obtain ⟨s', e, h1, h2⟩ := puts_E ht h.2 hl hv
  have z : ∀ k b, k < 154 → s'.1 k b = s.1 k b := fun k b hk => h2 k b (by
    dsimp only
    rw [nq_false (show k ≠ 154 by omega), nq_false (show k ≠ 155 by omega)]
    rfl)
  refine ⟨s', e, ⟨h.1.go (funext fun b => z 153 b (by decide)) (z 152 1 (by decide)) (z 152 12 (by decide)) (z 152 13 (by decide)), h1⟩, h2.mono (fun k b hb => ?_)⟩
  simp only [Bool.or_eq_true, Bool.and_eq_true, Nat.beq_eq] at hb
  exact bLT_p (by omega)
theorem makes_E (g : RLw G S P N E K t k c o s) {p : Int32} : (c = 60 ∧ wX11_makes p s = some (0, wupI s 152 13 (fl 3 p))) ∨ (c < 60 ∧ ∃ s', wX11_makes p s = some (1, s') ∧ RLw G S P N E K t k (c + 1) o s' ∧ s'.1 152 12 = s.1 152 12 ∧ s'.1 152 14 = s.1 152 14 ∧ wA (bLT t) s s') := by
  obtain ⟨g1, h15, ⟨h16, hc⟩, h155, h154⟩ := g
  unfold wX11_makes
  by_cases c6 : c = 60
  · left
    refine ⟨c6, ?_⟩
    rw [if_pos (Int32.toInt_inj.1 (by rw [h16, c6]; rfl)), fails_R g1, t_sbe]
    rfl
  · right
    refine ⟨by omega, wupI s 152 16 (s.1 152 16 + 1), ?_, ⟨g1.go (wupI_n (by decide)) (wup_nb (by decide)) (wup_nb (by decide)) (wup_nb (by decide)), ?_, ⟨?_, by omega⟩, ?_, ?_⟩, wup_nb (by decide), wup_nb (by decide), wA_I (bLT_p (by omega))⟩
    · rw [if_neg (fun q => by rw [q] at h16; have e : (60 : Int32).toInt = 60 := rfl; omega)]
      rfl
    · rw [wup_nb (by decide)]; exact h15
    · rw [wup_same, t_p1 (by omega) (by omega), h16]; rfl
    · rw [wupI_n (by decide)]; exact h155
    · rw [wupI_n (by decide)]; exact h154
/-- which WORD of a VALUE -/
noncomputable def wh (x : Int32) : Int32 := if x = 23 then 0 else if x = 24 then 1 else if x = 25 then 2 else if x = 26 then 3 else if x = 27 then 4 else if x = 28 then 5 else if x = 29 then 6 else if x = 30 then 7 else -1
theorem wordHere_E (g : RS G S P N E K k s) (tk : TOKS G S P N E K) : wX11_wordHere s = some (wh (S k), nxt s (P k)) := by
  have eqw : nxt (nxt s (P k)) (P k) = nxt s (P k) := wup_wup
  have g1 := g.at tk
  unfold wX11_wordHere wh
  have w : ∀ (z : Nat) (c : Int64) (f : Int32 × wS → Option (Int32 × wS)), z < 16 → wpk z = c → (wX11_isWord c (nxt s (P k))).bind f = f (if S k = Int32.ofNat (15 + z) then 1 else 0, nxt s (P k)) := by
    intro z c f hz hc
    rw [isWord_R g1 tk hc hz, t_sbe, eqw]
  rw [isWord_R (c := 418548245860) (z := 8) g tk rfl (by decide), t_sbe]
  dsimp only
  rw [show Int32.ofNat (15 + 8) = 23 from rfl]
  by_cases c23 : S k = 23
  · rw [if_pos c23, if_neg (by decide), if_pos c23]
  · rw [if_neg c23, if_pos rfl, if_neg c23, w 9 1936024942 _ (by decide) rfl]
    dsimp only
    rw [show Int32.ofNat (15 + 9) = 24 from rfl]
    by_cases c24 : S k = 24
    · rw [if_pos c24, if_neg (by decide), if_pos c24]
    · rw [if_neg c24, if_pos rfl, if_neg c24, w 10 418497262196 _ (by decide) rfl]
      dsimp only
      rw [show Int32.ofNat (15 + 10) = 25 from rfl]
      by_cases c25 : S k = 25
      · rw [if_pos c25, if_neg (by decide), if_pos c25]
      · rw [if_neg c25, if_pos rfl, if_neg c25, w 11 25720 _ (by decide) rfl]
        dsimp only
        rw [show Int32.ofNat (15 + 11) = 26 from rfl]
        by_cases c26 : S k = 26
        · rw [if_pos c26, if_neg (by decide), if_pos c26]
        · rw [if_neg c26, if_pos rfl, if_neg c26, w 12 25721 _ (by decide) rfl]
          dsimp only
          rw [show Int32.ofNat (15 + 12) = 27 from rfl]
          by_cases c27 : S k = 27
          · rw [if_pos c27, if_neg (by decide), if_pos c27]
          · rw [if_neg c27, if_pos rfl, if_neg c27, w 13 521391927923 _ (by decide) rfl]
            dsimp only
            rw [show Int32.ofNat (15 + 13) = 28 from rfl]
            by_cases c28 : S k = 28
            · rw [if_pos c28, if_neg (by decide), if_pos c28]
            · rw [if_neg c28, if_pos rfl, if_neg c28, w 14 110472554705523 _ (by decide) rfl]
              dsimp only
              rw [show Int32.ofNat (15 + 14) = 29 from rfl]
              by_cases c29 : S k = 29
              · rw [if_pos c29, if_neg (by decide), if_pos c29]
              · rw [if_neg c29, if_pos rfl, if_neg c29, w 15 7039342 _ (by decide) rfl]
                dsimp only
                rw [show Int32.ofNat (15 + 15) = 30 from rfl]
                by_cases c30 : S k = 30
                · rw [if_pos c30, if_neg (by decide), if_pos c30]
                · rw [if_neg c30, if_pos rfl, if_neg c30]
theorem wh_ok {x : Int32} (h1 : ¬ x < 23) (h2 : ¬ 30 < x) : 0 ≤ (wh x).toInt ∧ 1 + 16 * wh x = rc x ∧ ¬ wh x < 0 := by
  have a := t_ge h1
  have b := t_ge h2
  rw [show (23 : Int32).toInt = 23 from rfl] at a
  rw [show (30 : Int32).toInt = 30 from rfl] at b
  have k : ∀ n : Nat, n < 8 → 0 ≤ (wh (Int32.ofInt (23 + n))).toInt ∧ 1 + 16 * wh (Int32.ofInt (23 + n)) = rc (Int32.ofInt (23 + n)) ∧ ¬ wh (Int32.ofInt (23 + n)) < 0 := by decide +kernel
  have e : x = Int32.ofInt (23 + ((x.toInt - 23).toNat : Int)) := by
    rw [show (23 + ((x.toInt - 23).toNat : Int)) = x.toInt by omega, Int32.ofInt_toInt]
  rw [e]
  exact k _ (by omega)
theorem wh_no {x : Int32} (h : x < 23 ∨ 30 < x) : wh x < 0 := by
  unfold wh
  have n : ∀ y : Int32, 23 ≤ y.toInt → y.toInt ≤ 30 → ¬ x = y := by
    intro y a b q
    subst q
    rcases h with h | h
    · have := t_lt h; rw [show (23 : Int32).toInt = 23 from rfl] at this; omega
    · have := t_lt h; rw [show (30 : Int32).toInt = 30 from rfl] at this; omega
  rw [if_neg (n 23 (by decide) (by decide)), if_neg (n 24 (by decide) (by decide)), if_neg (n 25 (by decide) (by decide)), if_neg (n 26 (by decide) (by decide)), if_neg (n 27 (by decide) (by decide)), if_neg (n 28 (by decide) (by decide)), if_neg (n 29 (by decide) (by decide)), if_neg (n 30 (by decide) (by decide))]
  decide
theorem rc_num {n : Int32} (h0 : 0 ≤ n.toInt) (h1 : n.toInt ≤ 99999) : 0 + 16 * n = rc (100 + n) := by
  have e100 : (100 : Int32).toInt = 100 := rfl
  have e : (100 + n).toInt = 100 + n.toInt := by rw [t_add (by omega) (by omega), e100]
  unfold rc
  rw [if_pos (Int32.le_iff_toInt_le.2 (by omega)), Int32.zero_add, Int32.add_comm, Int32.add_sub_cancel]
/-- what a part of the reading comes to -/
theorem value_E (ht : t < 6) (tk : TOKS G S P N E K) (g : RLw G S P N E K t k c o s) (hl : o.length ≤ k) : Tot (wX11_value s) (fun q => (∃ e, vS S P N k c = .inl e ∧ q.1 = 0 ∧ q.2.1 152 13 = e) ∨ (∃ v, vS S P N k c = .inr v ∧ k < K ∧ q.1 = 1 ∧ RLw G S P N E K t (k + 1) (c + 1) (o ++ [v]) q.2 ∧ wA (bLT t) s q.2)) := by
  obtain ⟨gs, gk⟩ := id g
  have hT := gs.1.2.2.1
  have hK := tk.2.1
  have p := gs.p0 tk
  have g1 := gs.at tk
  have gk1 := gk.nx (v := P k)
  have eqw : nxt (nxt s (P k)) (P k) = nxt s (P k) := wup_wup
  have hd := dg_S tk hT.1 gs.2.2.2
  unfold wX11_value
  rw [see_R gs tk, t_sbe]
  dsimp only
  rw [nx_n]
  refine t_bind (isDigit_E g1.1 p.1) (fun t4 h4 => t_ite (fun c4 => ?_) (fun c4 => ?_))
  · have nd : ¬ S k = 2 := fun q => (h4.resolve_right (fun q => by rw [q.1] at c4; exact absurd c4 (by decide))).2 (hd.2 q)
    rw [wordHere_E g1 tk, t_sbe, eqw]
    dsimp only
    by_cases cw : S k < 23 ∨ 30 < S k
    · rw [if_pos (wh_no cw), fails_R g1, t_sbe]
      dsimp only
      refine t_bind (t_rtZ (v := 0) (Or.inl rfl)) (fun t14 h14 => t_some (Or.inl ⟨fl 0 (P k), ?_, h14, wup_same⟩))
      unfold vS
      rw [if_neg nd, if_pos cw]
    · obtain ⟨w0, w1, w2⟩ := wh_ok (fun q => cw (Or.inl q)) (fun q => cw (Or.inr q))
      have a := t_ge (fun q => cw (Or.inl q))
      rw [show (23 : Int32).toInt = 23 from rfl] at a
      rw [if_neg w2]
      rcases makes_E (p := P k) ⟨g1, gk1⟩ with ⟨c6, m1⟩ | ⟨c6, s', m1, m2, m3, -, m4⟩
      · rw [m1, t_sbe]
        dsimp only
        rw [if_pos rfl]
        refine t_some (Or.inl ⟨fl 3 (P k), ?_, rfl, wup_same⟩)
        unfold vS
        rw [if_neg nd, if_neg cw, if_pos c6]
      · rw [m1, t_sbe]
        dsimp only
        rw [if_neg (by decide)]
        obtain ⟨hkK, hpw⟩ := passWord_R m2.1 tk (by omega) (by rw [m3, nx_n])
        rw [hpw, t_sbe]
        have g2 : RLw G S P N E K t (k + 1) (c + 1) o (nxt s' (Int32.ofNat (E k))) := ⟨m2.1.behind tk hkK rfl, m2.2.nx⟩
        refine t_bind (g2.puts ht (by omega) w1) (fun s23 h23 => t_some (Or.inr ⟨S k, ?_, hkK, rfl, h23.1, ((wA_I (bLT_p (by omega))).trans m4).trans ((wA_I (bLT_p (by omega))).trans h23.2)⟩))
        unfold vS
        rw [if_neg nd, if_neg cw, if_neg (by omega)]
  · have yd : S k = 2 := hd.1 (h4.resolve_left (fun q => c4 q.1)).2
    have g1' := g1
    obtain ⟨a1, ⟨n, a2, a3⟩, a4, ak⟩ := g1'
    refine t_bind (numberHere_E a1 tk ak a2 a3 a4 (by decide)) (fun q hq => ?_)
    rcases hq with ⟨e, n1, q0, qe⟩ | ⟨n1, nS, rfl⟩
    · obtain ⟨t25, s26⟩ := q
      refine t_ite (fun _ => t_some (Or.inl ⟨e, ?_, rfl, qe⟩)) (fun c => absurd q0 c)
      unfold num at n1
      unfold vS
      rw [if_pos yd] at n1 ⊢
      by_cases cN : N k < 0 ∨ 99999 < N k
      · rw [if_pos cN] at n1 ⊢
        rw [Option.some.inj n1]
      · rw [if_neg cN] at n1; cases n1
    · dsimp only
      rw [if_neg (by decide)]
      obtain ⟨_, b1, b2⟩ := num_i n1
      rw [t_i0] at b1
      rw [show (99999 : Int32).toInt = 99999 from rfl] at b2
      have hkK : k < K := tk.ne0 ak (by rw [nS]; decide)
      have cN : ¬ (N k < 0 ∨ 99999 < N k) := by
        rintro (q | q)
        · have := t_lt q; rw [t_i0] at this; omega
        · have := t_lt q; rw [show (99999 : Int32).toInt = 99999 from rfl] at this; omega
      have g2 : RLw G S P N E K t (k + 1) c o (wupI (nxt (nxt s (P k)) (Int32.ofNat (E k))) 152 14 (N k)) := by
        have q := (RS.behind ⟨a1, ⟨n, a2, a3⟩, a4, ak⟩ tk hkK (v := Int32.ofNat (E k)) rfl)
        exact ⟨q.go (wupI_n (by decide)) (wup_nb (by decide)) (wup_nb (by decide)) (wup_nb (by decide)), gk1.nx.f14⟩
      rcases makes_E (p := P k) g2 with ⟨c6, m1⟩ | ⟨c6, s', m1, m2, -, m3, m4⟩
      · rw [m1, t_sbe]
        dsimp only
        rw [if_pos rfl]
        refine t_some (Or.inl ⟨fl 3 (P k), ?_, rfl, wup_same⟩)
        unfold vS
        rw [if_pos yd, if_neg cN, if_pos c6]
      · rw [m1, t_sbe]
        dsimp only
        rw [if_neg (by decide), m3, wup_same]
        refine t_bind (m2.puts ht (by omega) (rc_num b1 b2)) (fun s34 h34 => t_some (Or.inr ⟨100 + N k, ?_, hkK, rfl, h34.1, (((wA_I (bLT_p (by omega))).trans (wA_I (bLT_p (by omega)))).trans (wA_I (bLT_p (by omega)))).trans (m4.trans h34.2)⟩))
        unfold vS
        rw [if_pos yd, if_neg cN, if_neg (by omega)]
theorem bsg_8 (x d : Int32) : bsg x d = 8 ↔ x = 42 := by
  unfold bsg
  constructor
  · repeat' (first | (intro q; exact absurd q (by decide)) | (intro _; assumption) | split)
  · intro q; subst q; rfl
theorem bsg_9 (x d : Int32) : bsg x d = 9 ↔ x = 47 := by
  unfold bsg
  constructor
  · repeat' (first | (intro q; exact absurd q (by decide)) | (intro _; assumption) | split)
  · intro q; subst q; rfl
theorem bsg_6 (x d : Int32) : bsg x d = 6 ↔ x = 43 := by
  unfold bsg
  constructor
  · repeat' (first | (intro q; exact absurd q (by decide)) | (intro _; assumption) | split)
  · intro q; subst q; rfl
theorem bsg_7 (x d : Int32) : bsg x d = 7 ↔ x = 45 := by
  unfold bsg
  constructor
  · repeat' (first | (intro q; exact absurd q (by decide)) | (intro _; assumption) | split)
  · intro q; subst q; rfl
/-- the raw byte where it stands -/
theorem raw_R (g : RS G S P N E K k s) (tk : TOKS G S P N E K) (hk : k < K) (hn : s.1 152 12 = P k) : ∃ x, wldI s 153 400 (s.1 152 12) = some x ∧ ∀ c : Int32, 0 ≤ c.toInt → c.toInt < 128 → (x = c ↔ bt G (P k).toNatClampNeg = c) := by
  have p := g.p0 tk
  have hT := g.1.2.2.1
  have hle := (tk.1 k hk).2.1.le.1
  have hc := t_cln p.1
  refine ⟨s.1 153 (P k).toNatClampNeg, by rw [hn]; exact wld_E p.1 (by omega), fun c c0 c1 => ?_⟩
  rw [g.1.1]
  exact (bt_eq g.1.2.2.2 hle c0 c1).symm
/-- behind a sign of one byte -/
theorem step_R (g : RLw G S P N E K t k c o s) (tk : TOKS G S P N E K) (h3 : 3 ≤ (S k).toInt) (h14 : (S k).toInt ≤ 14) (h11 : ¬ S k = 11) (h13 : ¬ S k = 13) (hn : s.1 152 12 = P k) : k < K ∧ RLw G S P N E K t (k + 1) c o (wupI s 152 12 (s.1 152 12 + 1)) := by
  obtain ⟨o1, o2⟩ := one_R g.1 tk h3 h14 h11 h13
  refine ⟨o1, ?_, g.2.nx⟩
  rw [hn, o2]
  exact g.1.behind tk o1 rfl
theorem term_h9_E (ht : t < 6) (tk : TOKS G S P N E K) : ∀ (n : Nat) {k c : Nat} {o : List Int32} {s : wS}, RLw G S P N E K t k c o s → o.length ≤ k → K - k < n → Tot (wX11_term_h9 n s) (fun z => (∃ u e, z = .inr u ∧ u.1 152 13 = e ∧ ∀ w, Ev (sst S P N) (k, c, w, o) (.inl e)) ∨ (∃ u k' c' o', z = .inl u ∧ RLw G S P N E K t k' c' o' u ∧ wA (bLT t) s u ∧ (¬ S k' = 8 ∧ ¬ S k' = 9) ∧ (k ≤ k' ∧ o'.length + k ≤ o.length + k' ∧ o.length ≤ o'.length) ∧ ∀ w r, Ev (sst S P N) (k', c', w, o') r → Ev (sst S P N) (k, c, w, o) r)) := by
  intro n
  induction n with
  | zero => intro k c o s _ _ hm; exact absurd hm (by omega)
  | succ n ih =>
    intro k c o s g hl hm
    have hk := g.1.2.2.2
    have hK := tk.2.1
    have hT := g.1.1.2.2.1
    have g1 : RLw G S P N E K t k c o (nxt s (P k)) := ⟨g.1.at tk, g.2.nx⟩
    have eqw : nxt (nxt s (P k)) (P k) = nxt s (P k) := wup_wup
    have s8 := seen_S (c := 42) (g := 8) tk hk bsg_8 (by decide) (by decide) (by decide)
    have s9 := seen_S (c := 47) (g := 9) tk hk bsg_9 (by decide) (by decide) (by decide)
    have go : ∀ y : Int32, (S k = 8 ∨ S k = 9) → y + 16 * 0 = rc (S k) → Tot (wX11_term_j46 (wX11_term_h9 n) y (nxt s (P k))) (fun z => (∃ u e, z = .inr u ∧ u.1 152 13 = e ∧ ∀ w, Ev (sst S P N) (k, c, w, o) (.inl e)) ∨ (∃ u k' c' o', z = .inl u ∧ RLw G S P N E K t k' c' o' u ∧ wA (bLT t) s u ∧ (¬ S k' = 8 ∧ ¬ S k' = 9) ∧ (k ≤ k' ∧ o'.length + k ≤ o.length + k' ∧ o.length ≤ o'.length) ∧ ∀ w r, Ev (sst S P N) (k', c', w, o') r → Ev (sst S P N) (k, c, w, o) r)) := by
      intro y h89 hy
      obtain ⟨hkK, g2⟩ := step_R g1 tk (by rcases h89 with q | q <;> rw [q] <;> decide) (by rcases h89 with q | q <;> rw [q] <;> decide) (by rcases h89 with q | q <;> rw [q] <;> decide) (by rcases h89 with q | q <;> rw [q] <;> decide) nx_n
      unfold wX11_term_j46
      show Tot ((wX11_value (wupI (nxt s (P k)) 152 12 ((nxt s (P k)).1 152 12 + 1))).bind _) _
      refine t_bind (value_E ht tk g2 (by omega)) (fun q hq => ?_)
      obtain ⟨t12, s13⟩ := q
      have a2 : wA (bLT t) s (wupI (nxt s (P k)) 152 12 ((nxt s (P k)).1 152 12 + 1)) := (wA_I (bLT_p (by omega))).trans (wA_I (bLT_p (by omega)))
      rcases hq with ⟨e, v1, q0, qe⟩ | ⟨v, v1, v2, q0, v4, v5⟩
      · dsimp only at q0 qe ⊢
        rw [if_pos q0]
        refine t_some (Or.inl ⟨s13, e, rfl, qe, fun w => Ev.ret ?_⟩)
        unfold sst
        dsimp only
        rw [if_pos h89, v1]
      · dsimp only at q0 v4 v5 ⊢
        rw [if_neg (by rw [q0]; decide)]
        have l1 : (o ++ [v]).length = o.length + 1 := by rw [List.length_append]; rfl
        refine t_bind (v4.puts ht (by omega) hy) (fun s17 h17 => ?_)
        have l2 : (o ++ [v] ++ [S k]).length = o.length + 2 := by rw [List.length_append, l1]; rfl
        refine t_mono (ih (k := k + 2) h17.1 (by omega) (by omega)) (fun z hz => ?_)
        have st : ∀ w, sst S P N (k, c, w, o) = .inl (k + 2, c + 1, w, o ++ [v] ++ [S k]) := by
          intro w
          unfold sst
          dsimp only
          rw [if_pos h89, v1]
        rcases hz with ⟨u, e, z1, z2, z3⟩ | ⟨u, k', c', o', z1, z2, z3, z4, ⟨z5, z6, z7⟩, z8⟩
        · exact Or.inl ⟨u, e, z1, z2, fun w => Ev.step (st w) (z3 w)⟩
        · exact Or.inr ⟨u, k', c', o', z1, z2, ((a2.trans v5).trans h17.2).trans z3, z4, ⟨by omega, by omega, by omega⟩, fun w r hr => Ev.step (st w) (z8 w r hr)⟩
    rw [wX11_term_h9, see_R g.1 tk, t_sbe]
    dsimp only
    by_cases c8 : S k = 8
    · rw [if_pos (s8.2 c8)]
      unfold wX11_term_j27
      have hkK : k < K := tk.ne0 hk (by rw [c8]; decide)
      obtain ⟨x, e1, e2⟩ := raw_R g1.1 tk hkK nx_n
      rw [e1, t_sbe, if_pos ((e2 42 (by decide) (by decide)).2 ((byte_S tk hkK bsg_8 (by decide) (by decide) (by decide)).2 c8))]
      exact go 4 (Or.inl c8) (by rw [c8]; decide)
    · rw [if_neg (fun q => c8 (s8.1 q)), see_R g1.1 tk, t_sbe, eqw]
      dsimp only
      by_cases c9 : S k = 9
      · rw [if_pos (s9.2 c9)]
        unfold wX11_term_j27
        have hkK : k < K := tk.ne0 hk (by rw [c9]; decide)
        obtain ⟨x, e1, e2⟩ := raw_R g1.1 tk hkK nx_n
        rw [e1, t_sbe, if_neg (fun q => c8 ((byte_S tk hkK bsg_8 (by decide) (by decide) (by decide)).1 ((e2 42 (by decide) (by decide)).1 q)))]
        exact go 5 (Or.inr c9) (by rw [c9]; decide)
      · rw [if_neg (fun q => c9 (s9.1 q))]
        exact t_some (Or.inr ⟨_, k, c, o, rfl, g1, wA_I (bLT_p (by omega)), ⟨c8, c9⟩, ⟨Nat.le_refl _, Nat.le_refl _, Nat.le_refl _⟩, fun w r hr => hr⟩)
theorem term_E (ht : t < 6) (tk : TOKS G S P N E K) (g : RLw G S P N E K t k c o s) (hl : o.length ≤ k) : Tot (wX11_term s) (fun q => (∃ e, q.1 = 0 ∧ q.2.1 152 13 = e ∧ (vS S P N k c = .inl e ∨ ∃ v, vS S P N k c = .inr v ∧ ∀ w, Ev (sst S P N) (k + 1, c + 1, w, o ++ [v]) (.inl e))) ∨ (∃ v k' c' o', vS S P N k c = .inr v ∧ q.1 = 1 ∧ RLw G S P N E K t k' c' o' q.2 ∧ wA (bLT t) s q.2 ∧ (¬ S k' = 8 ∧ ¬ S k' = 9) ∧ (k < k' ∧ o'.length + k ≤ o.length + k' ∧ o.length < o'.length) ∧ ∀ w r, Ev (sst S P N) (k', c', w, o') r → Ev (sst S P N) (k + 1, c + 1, w, o ++ [v]) r)) := by
  have hK := tk.2.1
  have hT := g.1.1.2.2.1
  unfold wX11_term
  refine t_bind (value_E ht tk g hl) (fun q hq => ?_)
  obtain ⟨t1, s2⟩ := q
  rcases hq with ⟨e, v1, q0, qe⟩ | ⟨v, v1, v2, q0, v4, v5⟩
  · dsimp only at q0 qe ⊢
    rw [if_pos q0]
    exact t_some (Or.inl ⟨e, rfl, qe, Or.inl v1⟩)
  · dsimp only at q0 v4 v5 ⊢
    rw [if_neg (by rw [q0]; decide)]
    have l1 : (o ++ [v]).length = o.length + 1 := by rw [List.length_append]; rfl
    refine t_bind (term_h9_E ht tk wFuel v4 (by omega) (by
      have e : wFuel = 1099511627776 := rfl
      omega)) (fun z hz => ?_)
    rcases hz with ⟨u, e, rfl, z2, z3⟩ | ⟨u, k', c', o', rfl, z2, z3, z4, ⟨z5, z6, z7⟩, z8⟩
    · exact t_some (Or.inl ⟨e, rfl, z2, Or.inr ⟨v, v1, z3⟩⟩)
    · exact t_some (Or.inr ⟨v, k', c', o', v1, rfl, z2, v5.trans z3, z4, ⟨by omega, by omega, by omega⟩, z8⟩)
theorem sum_h9_E (ht : t < 6) (tk : TOKS G S P N E K) : ∀ (n : Nat) {k c : Nat} {o : List Int32} {s : wS}, RLw G S P N E K t k c o s → o.length ≤ k → (¬ S k = 8 ∧ ¬ S k = 9) → K - k < n → Tot (wX11_sum_h9 n s) (fun z => (∃ u e, z = .inr u ∧ u.1 152 13 = e ∧ ∀ w o1, o1 ++ wl w = o → Ev (sst S P N) (k, c, w, o1) (.inl e)) ∨ (∃ u k' c' o', z = .inl u ∧ RLw G S P N E K t k' c' o' u ∧ wA (bLT t) s u ∧ (k ≤ k' ∧ o'.length + k ≤ o.length + k' ∧ o.length ≤ o'.length) ∧ ∀ w o1, o1 ++ wl w = o → Ev (sst S P N) (k, c, w, o1) (.inr (k', c', o')))) := by
  intro n
  induction n with
  | zero => intro k c o s _ _ _ hm; exact absurd hm (by omega)
  | succ n ih =>
    intro k c o s g hl n89 hm
    have hk := g.1.2.2.2
    have hK := tk.2.1
    have hT := g.1.1.2.2.1
    have g1 : RLw G S P N E K t k c o (nxt s (P k)) := ⟨g.1.at tk, g.2.nx⟩
    have eqw : nxt (nxt s (P k)) (P k) = nxt s (P k) := wup_wup
    have s6 := seen_S (c := 43) (g := 6) tk hk bsg_6 (by decide) (by decide) (by decide)
    have s7 := seen_S (c := 45) (g := 7) tk hk bsg_7 (by decide) (by decide) (by decide)
    have n89' : ¬ (S k = 8 ∨ S k = 9) := fun q => q.elim n89.1 n89.2
    have go : ∀ y : Int32, (S k = 6 ∨ S k = 7) → y + 16 * 0 = rc (S k) → Tot (wX11_sum_j46 (wX11_sum_h9 n) y (nxt s (P k))) (fun z => (∃ u e, z = .inr u ∧ u.1 152 13 = e ∧ ∀ w o1, o1 ++ wl w = o → Ev (sst S P N) (k, c, w, o1) (.inl e)) ∨ (∃ u k' c' o', z = .inl u ∧ RLw G S P N E K t k' c' o' u ∧ wA (bLT t) s u ∧ (k ≤ k' ∧ o'.length + k ≤ o.length + k' ∧ o.length ≤ o'.length) ∧ ∀ w o1, o1 ++ wl w = o → Ev (sst S P N) (k, c, w, o1) (.inr (k', c', o')))) := by
      intro y h67 hy
      have Sk0 : ¬ S k = 0 := fun q => by rw [q] at h67; rcases h67 with q | q <;> exact absurd q (by decide)
      obtain ⟨hkK, g2⟩ := step_R g1 tk (by rcases h67 with q | q <;> rw [q] <;> decide) (by rcases h67 with q | q <;> rw [q] <;> decide) (by rcases h67 with q | q <;> rw [q] <;> decide) (by rcases h67 with q | q <;> rw [q] <;> decide) nx_n
      unfold wX11_sum_j46
      show Tot ((wX11_term (wupI (nxt s (P k)) 152 12 ((nxt s (P k)).1 152 12 + 1))).bind _) _
      refine t_bind (term_E ht tk g2 (by omega)) (fun q hq => ?_)
      obtain ⟨t12, s13⟩ := q
      have a2 : wA (bLT t) s (wupI (nxt s (P k)) 152 12 ((nxt s (P k)).1 152 12 + 1)) := (wA_I (bLT_p (by omega))).trans (wA_I (bLT_p (by omega)))
      have st : ∀ v w o1, o1 ++ wl w = o → vS S P N (k + 1) c = .inr v → sst S P N (k, c, w, o1) = .inl (k + 2, c + 1, S k, o ++ [v]) := by
        intro v w o1 ho hv
        unfold sst
        dsimp only
        rw [if_neg n89', if_pos h67, hv, ho]
      rcases hq with ⟨e, q0, qe, h1⟩ | ⟨v, k', c', o', v1, q0, v4, v5, v6, ⟨v7, v8, v9⟩, v10⟩
      · dsimp only at q0 qe ⊢
        rw [if_pos q0]
        refine t_some (Or.inl ⟨s13, e, rfl, qe, fun w o1 ho => ?_⟩)
        rcases h1 with h1 | ⟨v, h1, h2⟩
        · refine Ev.ret ?_
          unfold sst
          dsimp only
          rw [if_neg n89', if_pos h67, h1]
        · exact Ev.step (st v w o1 ho h1) (h2 (S k))
      · dsimp only at q0 v4 v5 ⊢
        rw [if_neg (by rw [q0]; decide)]
        have hk' := v4.1.2.2.2
        refine t_bind (v4.puts ht (by omega) hy) (fun s17 h17 => ?_)
        have l2 : (o' ++ [S k]).length = o'.length + 1 := by rw [List.length_append]; rfl
        refine t_mono (ih h17.1 (by omega) v6 (by omega)) (fun z hz => ?_)
        rcases hz with ⟨u, e, z1, z2, z3⟩ | ⟨u, k'', c'', o'', z1, z2, z3, ⟨z5, z6, z7⟩, z8⟩
        · exact Or.inl ⟨u, e, z1, z2, fun w o1 ho => Ev.step (st v w o1 ho v1) (v10 _ _ (z3 (S k) o' (by rw [wl_1 Sk0])))⟩
        · exact Or.inr ⟨u, k'', c'', o'', z1, z2, ((a2.trans v5).trans h17.2).trans z3, ⟨by omega, by omega, by omega⟩, fun w o1 ho => Ev.step (st v w o1 ho v1) (v10 _ _ (z8 (S k) o' (by rw [wl_1 Sk0])))⟩
    rw [wX11_sum_h9, see_R g.1 tk, t_sbe]
    dsimp only
    by_cases c6 : S k = 6
    · rw [if_pos (s6.2 c6)]
      unfold wX11_sum_j27
      have hkK : k < K := tk.ne0 hk (by rw [c6]; decide)
      obtain ⟨x, e1, e2⟩ := raw_R g1.1 tk hkK nx_n
      rw [e1, t_sbe, if_pos ((e2 43 (by decide) (by decide)).2 ((byte_S tk hkK bsg_6 (by decide) (by decide) (by decide)).2 c6))]
      exact go 2 (Or.inl c6) (by rw [c6]; decide)
    · rw [if_neg (fun q => c6 (s6.1 q)), see_R g1.1 tk, t_sbe, eqw]
      dsimp only
      by_cases c7 : S k = 7
      · rw [if_pos (s7.2 c7)]
        unfold wX11_sum_j27
        have hkK : k < K := tk.ne0 hk (by rw [c7]; decide)
        obtain ⟨x, e1, e2⟩ := raw_R g1.1 tk hkK nx_n
        rw [e1, t_sbe, if_neg (fun q => c6 ((byte_S tk hkK bsg_6 (by decide) (by decide) (by decide)).1 ((e2 43 (by decide) (by decide)).1 q)))]
        exact go 3 (Or.inr c7) (by rw [c7]; decide)
      · rw [if_neg (fun q => c7 (s7.1 q))]
        refine t_some (Or.inr ⟨_, k, c, o, rfl, g1, wA_I (bLT_p (by omega)), ⟨Nat.le_refl _, Nat.le_refl _, Nat.le_refl _⟩, fun w o1 ho => Ev.ret ?_⟩)
        unfold sst
        dsimp only
        rw [if_neg n89', if_neg (fun q => q.elim c6 c7), ho]
theorem sum_E (ht : t < 6) (tk : TOKS G S P N E K) (g : RLw G S P N E K t k c o s) (hl : o.length ≤ k) : Tot (wX11_sum s) (fun q => (∃ e, SumE S P N k c o (.inl e) ∧ q.1 = 0 ∧ q.2.1 152 13 = e) ∨ (∃ k' c' o', SumE S P N k c o (.inr (k', c', o')) ∧ q.1 = 1 ∧ RLw G S P N E K t k' c' o' q.2 ∧ wA (bLT t) s q.2 ∧ (k < k' ∧ o'.length + k ≤ o.length + k' ∧ o.length < o'.length))) := by
  have hK := tk.2.1
  have hT := g.1.1.2.2.1
  unfold wX11_sum
  refine t_bind (term_E ht tk g hl) (fun q hq => ?_)
  obtain ⟨t1, s2⟩ := q
  rcases hq with ⟨e, q0, qe, h1⟩ | ⟨v, k', c', o', v1, q0, v4, v5, v6, ⟨v7, v8, v9⟩, v10⟩
  · dsimp only at q0 qe ⊢
    rw [if_pos q0]
    refine t_some (Or.inl ⟨e, ?_, rfl, qe⟩)
    rcases h1 with h1 | ⟨v, h1, h2⟩
    · exact Or.inl ⟨e, h1, rfl⟩
    · exact Or.inr ⟨v, h1, h2 0⟩
  · dsimp only at q0 v4 v5 ⊢
    rw [if_neg (by rw [q0]; decide)]
    refine t_bind (sum_h9_E ht tk wFuel v4 (by omega) v6 (by
      have e : wFuel = 1099511627776 := rfl
      omega)) (fun z hz => ?_)
    have w0 : ∀ o1 : List Int32, o1 ++ wl 0 = o1 := fun o1 => by rw [show wl 0 = [] from rfl, List.append_nil]
    rcases hz with ⟨u, e, rfl, z2, z3⟩ | ⟨u, k'', c'', o'', rfl, z2, z3, ⟨z5, z6, z7⟩, z8⟩
    · exact t_some (Or.inl ⟨e, Or.inr ⟨v, v1, v10 _ _ (z3 0 o' (w0 _))⟩, rfl, z2⟩)
    · exact t_some (Or.inr ⟨k'', c'', o'', Or.inr ⟨v, v1, v10 _ _ (z8 0 o' (w0 _))⟩, rfl, z2, v5.trans z3, ⟨by omega, by omega, by omega⟩⟩)
end RSM
