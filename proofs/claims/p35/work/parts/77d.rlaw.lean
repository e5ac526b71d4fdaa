/-! The reference reads a LAW. -/
/-- the CLAUSES so far -/
noncomputable def RQl (t : Nat) (q : List qT) (s : wS) : Prop := (s.1 157 t = Int32.ofNat q.length ∧ q.length ≤ 12) ∧ ∀ i x, q[i]? = some x → s.1 156 (60 * t + 5 * i) = x.1 ∧ s.1 156 (60 * t + 5 * i + 1) = Int32.ofNat x.2.1 ∧ s.1 156 (60 * t + 5 * i + 2) = Int32.ofNat x.2.2.1 ∧ s.1 156 (60 * t + 5 * i + 3) = (if x.2.2.2.2 = true then Int32.ofNat x.2.2.1 else -1) ∧ s.1 156 (60 * t + 5 * i + 4) = Int32.ofNat x.2.2.2.1
section RLW
variable {G : wS} {S P N : Nat → Int32} {E : Nat → Nat} {K t k c : Nat} {o : List Int32} {q : List qT} {s : wS}
theorem RQl.go {s' : wS} (h : RQl t q s) (h7 : s'.1 157 t = s.1 157 t) (h6 : s'.1 156 = s.1 156) : RQl t q s' := by
  unfold RQl
  rw [h7, h6]
  exact h
theorem RQl.lu {s' : wS} (h : RQl t q s) (a : wA (bLU t) s s') : RQl t q s' := h.go (a 157 t rfl) (funext fun b => a 156 b rfl)
theorem RQl.lt {s' : wS} (h : RQl t q s) (a : wA (bLT t) s s') : RQl t q s' := h.lu (a.mono bLT_le_bLU)
theorem RQl.app {s' : wS} {kd v3 : Int32} {l0 l1 l2 : Nat} {b : Bool} (h : RQl t q s) (hq : q.length < 12) (h7 : s'.1 157 t = Int32.ofNat (q.length + 1)) (h6 : s'.1 156 = upd (upd (upd (upd (upd (s.1 156) (60 * t + 5 * q.length) kd) (60 * t + 5 * q.length + 1) (Int32.ofNat l0)) (60 * t + 5 * q.length + 2) (Int32.ofNat l1)) (60 * t + 5 * q.length + 3) v3) (60 * t + 5 * q.length + 4) (Int32.ofNat l2)) (h3 : v3 = if b = true then Int32.ofNat l1 else -1) : RQl t (q ++ [(kd, l0, l1, l2, b)]) s' := by
  have ql : (q ++ [(kd, l0, l1, l2, b)]).length = q.length + 1 := by rw [List.length_append]; rfl
  refine ⟨⟨by rw [h7, ql], by omega⟩, fun i x hx => ?_⟩
  rw [h6]
  by_cases c : i = q.length
  · subst c
    rw [List.getElem?_append_right (Nat.le_refl _), Nat.sub_self] at hx
    obtain rfl := Option.some.inj hx
    dsimp only
    refine ⟨?_, ?_, ?_, ?_, ?_⟩
    · rw [updI_n (by omega), updI_n (by omega), updI_n (by omega), updI_n (by omega), updI_s]
    · rw [updI_n (by omega), updI_n (by omega), updI_n (by omega), updI_s]
    · rw [updI_n (by omega), updI_n (by omega), updI_s]
    · rw [updI_n (by omega), updI_s, h3]
    · rw [updI_s]
  · have hi : i < q.length := by
      have := (List.getElem?_eq_some_iff.1 hx).1
      omega
    rw [List.getElem?_append_left hi] at hx
    have z : ∀ n, n < 60 * t + 5 * q.length → upd (upd (upd (upd (upd (s.1 156) (60 * t + 5 * q.length) kd) (60 * t + 5 * q.length + 1) (Int32.ofNat l0)) (60 * t + 5 * q.length + 2) (Int32.ofNat l1)) (60 * t + 5 * q.length + 3) v3) (60 * t + 5 * q.length + 4) (Int32.ofNat l2) n = s.1 156 n := fun n hn => by
      rw [updI_n (by omega), updI_n (by omega), updI_n (by omega), updI_n (by omega), updI_n (by omega)]
    rw [z (60 * t + 5 * i) (by omega), z (60 * t + 5 * i + 1) (by omega), z (60 * t + 5 * i + 2) (by omega), z (60 * t + 5 * i + 3) (by omega), z (60 * t + 5 * i + 4) (by omega)]
    exact h.2 i x hx
theorem RLw.o6 {k0 b : Nat} {v : Int32} (h : RLw G S P N E K t k c o s) (hk : k0 = 156 ∨ k0 = 157) : RLw G S P N E K t k c o (wupI s k0 b v) := by
  refine ⟨h.1.go ?_ ?_ ?_ ?_, h.2.go ?_ ?_ ?_ ?_⟩
  all_goals rw [wupI_n (by omega)]
/-- a place in a CLAUSE's row -/
theorem ix156 {j : Nat} {d : Int32} (ht : t < 6) (hq : q.length < 12) (hd : d.toInt = j) (hj : j < 5) : (((60 * Int32.ofNat t) + (5 * Int32.ofNat q.length)) + d).toInt = 60 * t + 5 * q.length + j ∧ ((60 * Int32.ofNat t) + (5 * Int32.ofNat q.length)).toInt = 60 * t + 5 * q.length := by
  have et : (Int32.ofNat t).toInt = t := t_on (by omega)
  have el : (Int32.ofNat q.length).toInt = q.length := t_on (by omega)
  have e60 : (60 : Int32).toInt = 60 := rfl
  have e5 : (5 : Int32).toInt = 5 := rfl
  have q1 : (60 * Int32.ofNat t).toInt = 60 * t := by rw [t_mul (by rw [e60, et]; omega) (by rw [e60, et]; omega), e60, et]
  have q2 : (5 * Int32.ofNat q.length).toInt = 5 * q.length := by rw [t_mul (by rw [e5, el]; omega) (by rw [e5, el]; omega), e5, el]
  have q3 : ((60 * Int32.ofNat t) + (5 * Int32.ofNat q.length)).toInt = 60 * t + 5 * q.length := by rw [t_add (by omega) (by omega), q1, q2]
  exact ⟨by rw [t_add (by omega) (by omega), q3, hd], q3⟩
theorem st156 {j : Nat} {d v : Int32} {u : wS} (ht : t < 6) (hq : q.length < 12) (hd : d.toInt = j) (hj : j < 5) : wstI u 156 360 (((60 * Int32.ofNat t) + (5 * Int32.ofNat q.length)) + d) v = some (wupI u 156 (60 * t + 5 * q.length + j) v) := by
  obtain ⟨e, -⟩ := ix156 (t := t) (q := q) ht hq hd hj
  rw [wst_E (by omega) (by omega)]
  have : ((((60 * Int32.ofNat t) + (5 * Int32.ofNat q.length)) + d).toNatClampNeg) = 60 * t + 5 * q.length + j := by unfold Int32.toNatClampNeg; omega
  rw [this]
theorem st156_0 {v : Int32} {u : wS} (ht : t < 6) (hq : q.length < 12) : wstI u 156 360 ((60 * Int32.ofNat t) + (5 * Int32.ofNat q.length)) v = some (wupI u 156 (60 * t + 5 * q.length) v) := by
  obtain ⟨-, e⟩ := ix156 (t := t) (q := q) (d := 0) (j := 0) ht hq rfl (by decide)
  rw [wst_E (by omega) (by omega)]
  have : (((60 * Int32.ofNat t) + (5 * Int32.ofNat q.length)).toNatClampNeg) = 60 * t + 5 * q.length := by unfold Int32.toNatClampNeg; omega
  rw [this]
theorem RLw.ln (ht : t < 6) (h : RLw G S P N E K t k c o s) : wldI s 155 7 (s.1 152 15) = some (Int32.ofNat o.length) := by
  rw [h.2.1, wld_E (by rw [t_on (by omega)]; omega) (by rw [t_on (by omega)]; omega), t_nc (by omega), h.2.2.2.1]
theorem takesWord_E (g : RLw G S P N E K t k c o s) (tk : TOKS G S P N E K) : wX11_takesWord 26982 s = some (if S k = 19 then (1, nxt s (Int32.ofNat (E k))) else (0, nxt s (P k))) := by
  unfold wX11_takesWord
  rw [isWord_R (c := 26982) (z := 4) g.1 tk rfl (by decide), t_sbe]
  dsimp only
  rw [show Int32.ofNat (15 + 4) = 19 from rfl]
  by_cases c19 : S k = 19
  · rw [if_pos c19, if_neg (by decide), if_pos c19]
    obtain ⟨hkK, hpw⟩ := passWord_R (g.1.at tk) tk (by rw [c19]; decide) nx_n
    rw [hpw, t_sbe]
    exact congrArg (fun u => some ((1 : Int32), u)) wup_wup
  · rw [if_neg c19, if_pos rfl, if_neg c19]
/-- a LAW is read so far -/
noncomputable def RLA (G : wS) (S P N : Nat → Int32) (E : Nat → Nat) (K t : Nat) (x : lC) (s : wS) : Prop := RLw G S P N E K t x.1 x.2.1 x.2.2.1 s ∧ RQl t x.2.2.2 s ∧ (s.1 152 18).toInt = x.2.2.2.length
/-- what a CLAUSE comes to -/
noncomputable def RX (G : wS) (S P N : Nat → Int32) (E : Nat → Nat) (K t k : Nat) (y : Int32 ⊕ lC) (p : Int32 × wS) : Prop := (∃ e, y = .inl e ∧ p.1 = 0 ∧ p.2.1 152 13 = e) ∨ (∃ c' : lC, y = .inr c' ∧ p.1 = 1 ∧ RLA G S P N E K t c' p.2 ∧ k + 2 ≤ c'.1 ∧ c'.2.2.1.length ≤ c'.1)
theorem j119_E {kd v3 : Int32} {l0 l1 : Nat} {b : Bool} {u : wS} {c' : lC} (ht : t < 6) (hq : q.length < 12) (g : RLw G S P N E K t k c o u) (hc : c' = (k, c, o, q ++ [(kd, l0, l1, o.length, b)])) (h7 : u.1 157 t = Int32.ofNat q.length) (h6 : u.1 156 = upd (upd (upd (upd (s.1 156) (60 * t + 5 * q.length) kd) (60 * t + 5 * q.length + 1) (Int32.ofNat l0)) (60 * t + 5 * q.length + 2) (Int32.ofNat l1)) (60 * t + 5 * q.length + 3) v3) (h3 : v3 = if b = true then Int32.ofNat l1 else -1) (hs : RQl t q s) (h18 : (u.1 152 18).toInt = q.length + 1) : Tot (wX11_clauseOf_j119 ((60 * Int32.ofNat t) + (5 * Int32.ofNat q.length)) u) (fun p => p.1 = 1 ∧ RLA G S P N E K t c' p.2) := by
  have et : (Int32.ofNat t).toInt = t := t_on (by omega)
  unfold wX11_clauseOf_j119
  rw [g.ln ht, t_sbe, st156 (j := 4) ht hq rfl (by decide), t_sbe]
  have z15 : (wupI u 156 (60 * t + 5 * q.length + 4) (Int32.ofNat o.length)).1 152 15 = Int32.ofNat t := by rw [wupI_n (by decide)]; exact g.2.1
  rw [z15, wld_E (by omega) (by omega), t_sbe, t_nc (by omega), wupI_n (by decide), h7, wst_E (by omega) (by omega), t_sbe, t_nc (by omega)]
  have e1 : Int32.ofNat q.length + 1 = Int32.ofNat (q.length + 1) := Int32.toInt_inj.1 (by rw [t_p1 (by rw [t_on (by omega)]; omega) (by rw [t_on (by omega)]; omega), t_on (by omega), t_on (by omega)]; rfl)
  rw [e1, hc]
  refine t_some ⟨rfl, (g.o6 (Or.inl rfl)).o6 (Or.inr rfl), RQl.app hs hq wup_same ?_ h3, ?_⟩
  · show (wupI (wupI u 156 _ _) 157 _ _).1 156 = _
    rw [wupI_n (by decide), wupI_k, h6]
  · show ((wupI (wupI u 156 _ _) 157 _ _).1 152 18).toInt = _
    rw [wupI_n (by decide), wupI_n (by decide), h18, List.length_append]
    rfl
theorem clauseOf_E {x : lC} (ht : t < 6) (tk : TOKS G S P N E K) (g : RLw G S P N E K t x.1 x.2.1 x.2.2.1 s) (hq : RQl t x.2.2.2 s) (h18 : (s.1 152 18).toInt = x.2.2.2.length + 1) (hn : s.1 152 12 = P x.1) (hl : x.2.2.1.length ≤ x.1) (cw : S x.1 = 16 ∨ S x.1 = 17 ∨ S x.1 = 18) (h12 : ¬ x.2.2.2.length = 12) : Tot (wX11_clauseOf (kdL (S x.1)) s) (fun p => RX G S P N E K t x.1 (lcl S P N x) p) := by
  have hT := g.1.1.2.2.1
  have hK := tk.2.1
  have hk := g.1.2.2.2
  have hq12 : x.2.2.2.length < 12 := by have := hq.1.2; omega
  have et : (Int32.ofNat t).toInt = t := t_on (by omega)
  unfold wX11_clauseOf
  obtain ⟨hkK, hpw⟩ := passWord_R g.1 tk (by rcases cw with r | r | r <;> rw [r] <;> decide) hn
  rw [hpw, t_sbe]
  have g2 : RLw G S P N E K t (x.1 + 1) x.2.1 x.2.2.1 (nxt s (Int32.ofNat (E x.1))) := ⟨g.1.behind tk hkK rfl, g.2.nx⟩
  have z15 : (nxt s (Int32.ofNat (E x.1))).1 152 15 = Int32.ofNat t := g2.2.1
  have z157 : (nxt s (Int32.ofNat (E x.1))).1 157 t = Int32.ofNat x.2.2.2.length := by rw [wupI_n (by decide)]; exact hq.1.1
  rw [z15, wld_E (by omega) (by omega), t_sbe, t_nc (by omega), z157, st156_0 ht hq12, t_sbe]
  have g5 : RLw G S P N E K t (x.1 + 1) x.2.1 x.2.2.1 (wupI (nxt s (Int32.ofNat (E x.1))) 156 (60 * t + 5 * x.2.2.2.length) (kdL (S x.1))) := g2.o6 (Or.inl rfl)
  rw [g5.ln ht, t_sbe, st156 (j := 1) ht hq12 rfl (by decide), t_sbe]
  have g7 : RLw G S P N E K t (x.1 + 1) x.2.1 x.2.2.1 (wupI (wupI (nxt s (Int32.ofNat (E x.1))) 156 (60 * t + 5 * x.2.2.2.length) (kdL (S x.1))) 156 (60 * t + 5 * x.2.2.2.length + 1) (Int32.ofNat x.2.2.1.length)) := g5.o6 (Or.inl rfl)
  refine t_bind (sum_E ht tk g7 (by omega)) (fun p hp => ?_)
  obtain ⟨t8, s9⟩ := p
  rcases hp with ⟨e, h1, q0, qe⟩ | ⟨k1, c1, o1, h1, q0, g9, a9, ⟨b1, b2, b3⟩⟩
  · dsimp only at q0 qe ⊢
    rw [if_pos q0]
    refine t_some (Or.inl ⟨e, ?_, rfl, qe⟩)
    unfold lcl
    rw [if_pos cw, if_neg h12, sumV_eq h1]
  · dsimp only at q0 g9 a9 ⊢
    rw [if_neg (by rw [q0]; decide), g9.ln ht, t_sbe, st156 (j := 2) ht hq12 rfl (by decide), t_sbe, st156 (j := 3) ht hq12 rfl (by decide), t_sbe]
    have g14 : RLw G S P N E K t k1 c1 o1 (wupI (wupI s9 156 (60 * t + 5 * x.2.2.2.length + 2) (Int32.ofNat o1.length)) 156 (60 * t + 5 * x.2.2.2.length + 3) (-1)) := (g9.o6 (Or.inl rfl)).o6 (Or.inl rfl)
    rw [takesWord_E g14 tk, t_sbe]
    have f9 : s9.1 156 = upd (upd (s.1 156) (60 * t + 5 * x.2.2.2.length) (kdL (S x.1))) (60 * t + 5 * x.2.2.2.length + 1) (Int32.ofNat x.2.2.1.length) := by
      have : s9.1 156 = (wupI (wupI (nxt s (Int32.ofNat (E x.1))) 156 (60 * t + 5 * x.2.2.2.length) (kdL (S x.1))) 156 (60 * t + 5 * x.2.2.2.length + 1) (Int32.ofNat x.2.2.1.length)).1 156 := funext fun b => a9 156 b rfl
      rw [this, wupI_k, wupI_k, wupI_n (by decide)]
    have f7 : s9.1 157 t = Int32.ofNat x.2.2.2.length := by
      rw [a9 157 t rfl, wupI_n (by decide), wupI_n (by decide)]
      exact z157
    have f18 : s9.1 152 18 = s.1 152 18 := by
      rw [a9 152 18 rfl, wupI_n (by decide), wupI_n (by decide), wup_nb (by decide)]
    by_cases c19 : S k1 = 19
    · have hkK1 : k1 < K := tk.ne0 g9.1.2.2.2 (by rw [c19]; decide)
      rw [if_pos c19]
      dsimp only
      rw [if_neg (by decide)]
      have g16 : RLw G S P N E K t (k1 + 1) c1 o1 (nxt (wupI (wupI s9 156 (60 * t + 5 * x.2.2.2.length + 2) (Int32.ofNat o1.length)) 156 (60 * t + 5 * x.2.2.2.length + 3) (-1)) (Int32.ofNat (E k1))) := ⟨g14.1.behind tk hkK1 rfl, g14.2.nx⟩
      rw [g16.ln ht, t_sbe, st156 (j := 3) ht hq12 rfl (by decide), t_sbe]
      have g24 := g16.o6 (k0 := 156) (b := 60 * t + 5 * x.2.2.2.length + 3) (v := Int32.ofNat o1.length) (Or.inl rfl)
      refine t_bind (tested_E ht tk g24 (by omega)) (fun p hp => ?_)
      obtain ⟨t25, s26⟩ := p
      rcases hp with ⟨e, h2, q0, qe⟩ | ⟨k2, c2, o2, h2, q0, g26, a26, ⟨d1, d2⟩⟩
      · dsimp only at q0 qe ⊢
        rw [if_pos q0]
        refine t_some (Or.inl ⟨e, ?_, rfl, qe⟩)
        unfold lcl
        rw [if_pos cw, if_neg h12, sumV_eq h1]
        dsimp only
        rw [if_pos c19, testV_eq h2]
      · dsimp only at q0 g26 a26 ⊢
        rw [if_neg (by rw [q0]; decide)]
        have u7 : s26.1 157 t = Int32.ofNat x.2.2.2.length := by
          rw [a26 157 t rfl, wupI_n (by decide), wupI_n (by decide), wupI_n (by decide), wupI_n (by decide)]; exact f7
        have u18 : (s26.1 152 18).toInt = x.2.2.2.length + 1 := by
          rw [a26 152 18 rfl, wupI_n (by decide), wup_nb (by decide), wupI_n (by decide), wupI_n (by decide), f18]; exact h18
        have u6 : s26.1 156 = upd (upd (upd (upd (s.1 156) (60 * t + 5 * x.2.2.2.length) (kdL (S x.1))) (60 * t + 5 * x.2.2.2.length + 1) (Int32.ofNat x.2.2.1.length)) (60 * t + 5 * x.2.2.2.length + 2) (Int32.ofNat o1.length)) (60 * t + 5 * x.2.2.2.length + 3) (Int32.ofNat o1.length) := by
          have : s26.1 156 = (wupI (nxt (wupI (wupI s9 156 (60 * t + 5 * x.2.2.2.length + 2) (Int32.ofNat o1.length)) 156 (60 * t + 5 * x.2.2.2.length + 3) (-1)) (Int32.ofNat (E k1))) 156 (60 * t + 5 * x.2.2.2.length + 3) (Int32.ofNat o1.length)).1 156 := funext fun b => a26 156 b rfl
          rw [this, wupI_k, wupI_n (by decide), wupI_k, wupI_k, f9]
          funext j
          unfold upd
          by_cases hj : j = 60 * t + 5 * x.2.2.2.length + 3
          · rw [if_pos hj, if_pos hj]
          · rw [if_neg hj, if_neg hj, if_neg hj]
        refine t_mono (j119_E (s := s) (c' := (k2, c2, o2, x.2.2.2 ++ [(kdL (S x.1), x.2.2.1.length, o1.length, o2.length, true)])) (b := true) ht hq12 g26 rfl u7 u6 (if_pos rfl).symm hq u18) (fun p hp => Or.inr ⟨_, ?_, hp.1, hp.2, by dsimp only; omega, by dsimp only; omega⟩)
        unfold lcl
        rw [if_pos cw, if_neg h12, sumV_eq h1]
        dsimp only
        rw [if_pos c19, testV_eq h2]
    · rw [if_neg c19]
      dsimp only
      rw [if_pos rfl]
      have g16 : RLw G S P N E K t k1 c1 o1 (nxt (wupI (wupI s9 156 (60 * t + 5 * x.2.2.2.length + 2) (Int32.ofNat o1.length)) 156 (60 * t + 5 * x.2.2.2.length + 3) (-1)) (P k1)) := ⟨g14.1.at tk, g14.2.nx⟩
      refine t_mono (j119_E (s := s) (c' := (k1, c1, o1, x.2.2.2 ++ [(kdL (S x.1), x.2.2.1.length, o1.length, o1.length, false)])) (b := false) (v3 := -1) ht hq12 g16 rfl ?_ ?_ (if_neg (by decide)).symm hq ?_) (fun p hp => Or.inr ⟨_, ?_, hp.1, hp.2, by dsimp only; omega, by dsimp only; omega⟩)
      · rw [wupI_n (by decide), wupI_n (by decide), wupI_n (by decide)]; exact f7
      · rw [wupI_n (by decide), wupI_k, wupI_k, f9]
      · rw [wup_nb (by decide), wupI_n (by decide), wupI_n (by decide), f18]; exact h18
      · unfold lcl
        rw [if_pos cw, if_neg h12, sumV_eq h1]
        dsimp only
        rw [if_neg c19]
theorem lawClause_E {x : lC} (ht : t < 6) (tk : TOKS G S P N E K) (g : RLA G S P N E K t x s) (hl : x.2.2.1.length ≤ x.1) : Tot (wX11_clauseHere s) (fun p => RX G S P N E K t x.1 (lcl S P N x) p) := by
  obtain ⟨g0, gq, g18⟩ := g
  have hT := g0.1.1.2.2.1
  have hK := tk.2.1
  have q12 := gq.1.2
  have eqw : nxt (nxt s (P x.1)) (P x.1) = nxt s (P x.1) := wup_wup
  have ga : RLw G S P N E K t x.1 x.2.1 x.2.2.1 (nxt s (P x.1)) := ⟨g0.1.at tk, g0.2.nx⟩
  have t6 : ¬ (nxt s (P x.1)).1 152 15 = 6 := fun e => by
    have := congrArg Int32.toInt (ga.2.1.symm.trans e)
    rw [t_on (by omega), show (6 : Int32).toInt = 6 from rfl] at this
    omega
  have n18 : (nxt s (P x.1)).1 152 18 = s.1 152 18 := wup_nb (by decide)
  unfold wX11_clauseHere
  rw [see_R g0.1 tk, t_sbe]
  dsimp only
  rw [if_neg t6, nx_n]
  unfold wX11_clauseHere_j24
  have line : (S x.1 = 16 ∨ S x.1 = 17 ∨ S x.1 = 18) → Tot (wX11_clauseHere_j65 (P x.1) 0 (nxt s (P x.1))) (fun p => RX G S P N E K t x.1 (lcl S P N x) p) := by
    intro cw
    unfold wX11_clauseHere_j65 wX11_clauseHere_j70
    rw [if_neg (by decide), if_pos rfl]
    unfold wX11_clauseHere_j97
    rw [n18]
    by_cases c12 : x.2.2.2.length = 12
    · rw [if_pos (Int32.toInt_inj.1 (by rw [g18, c12]; rfl)), fails_R ga.1, t_sbe]
      dsimp only
      refine t_bind (t_rtZ (v := 0) (Or.inl rfl)) (fun t10 h10 => t_some (Or.inl ⟨fl 4 (P x.1), ?_, h10, wup_same⟩))
      unfold lcl
      rw [if_pos cw, if_pos c12]
    · rw [if_neg (fun e => by rw [e, show (12 : Int32).toInt = 12 from rfl] at g18; omega)]
      have e1 : (s.1 152 18 + 1).toInt = x.2.2.2.length + 1 := by rw [t_p1 (by omega) (by omega), g18]
      show Tot (if (0 : Int32) = 0 then ((wX11_isWord 1752135026 (wupI (nxt s (P x.1)) 152 18 (s.1 152 18 + 1))).bind fun (t31, s32) => if t31 = 0 then ((wX11_isWord 1919902052 s32).bind fun (t35, s36) => if t35 = 0 then (wX11_clauseHere_j157 2 s36) else (wX11_clauseHere_j157 1 s36)) else (wX11_clauseHere_j157 0 s32)) else ((wX11_courtLineHere (P x.1) (wupI (nxt s (P x.1)) 152 18 (s.1 152 18 + 1))).bind fun (t43, s44) => (wrtZ t43).bind fun t46 => some (t46, s44))) _
      rw [if_pos rfl]
      have gb : RLw G S P N E K t x.1 x.2.1 x.2.2.1 (wupI (nxt s (P x.1)) 152 18 (s.1 152 18 + 1)) := by
        refine ⟨ga.1.go ?_ ?_ ?_ ?_, ga.2.go ?_ ?_ ?_ ?_⟩
        · rw [wupI_n (by decide)]
        · rw [wup_nb (by decide)]
        · rw [wup_nb (by decide)]
        · rw [wup_nb (by decide)]
        · rw [wup_nb (by decide)]
        · rw [wup_nb (by decide)]
        · rw [wupI_n (by decide)]
        · rw [wupI_n (by decide)]
      have nb : (wupI (nxt s (P x.1)) 152 18 (s.1 152 18 + 1)).1 152 12 = P x.1 := by rw [wup_nb (by decide), nx_n]
      have idb : nxt (wupI (nxt s (P x.1)) 152 18 (s.1 152 18 + 1)) (P x.1) = wupI (nxt s (P x.1)) 152 18 (s.1 152 18 + 1) := by
        have := wup_id (s := wupI (nxt s (P x.1)) 152 18 (s.1 152 18 + 1)) (k := 152) (b := 12)
        rw [nb] at this
        exact this
      have qb : RQl t x.2.2.2 (wupI (nxt s (P x.1)) 152 18 (s.1 152 18 + 1)) := gq.go (by rw [wupI_n (by decide), wupI_n (by decide)]) (by rw [wupI_n (by decide), wupI_n (by decide)])
      have fin : ∀ y, y = kdL (S x.1) → Tot (wX11_clauseHere_j157 y (wupI (nxt s (P x.1)) 152 18 (s.1 152 18 + 1))) (fun p => RX G S P N E K t x.1 (lcl S P N x) p) := by
        intro y hy
        unfold wX11_clauseHere_j157
        rw [hy]
        refine t_bind (clauseOf_E ht tk gb qb (by rw [wup_same]; exact e1) nb hl cw c12) (fun p hp => ?_)
        obtain ⟨t39, s40⟩ := p
        rcases hp with ⟨e, h1, q0, qe⟩ | ⟨c', h1, q0, h2⟩
        · dsimp only at q0 qe ⊢
          exact t_bind (t_rtZ (Or.inl q0)) (fun t42 h42 => t_some (Or.inl ⟨e, h1, h42.trans q0, qe⟩))
        · dsimp only at q0 h2 ⊢
          exact t_bind (t_rtZ (Or.inr q0)) (fun t42 h42 => t_some (Or.inr ⟨c', h1, h42.trans q0, h2⟩))
      rw [isWord_R (c := 1752135026) (z := 1) gb.1 tk rfl (by decide), t_sbe, idb]
      dsimp only
      rw [show Int32.ofNat (15 + 1) = 16 from rfl]
      by_cases c16 : S x.1 = 16
      · rw [if_pos c16, if_neg (by decide)]
        exact fin 0 (by rw [c16]; rfl)
      · rw [if_neg c16, if_pos rfl, isWord_R (c := 1919902052) (z := 2) gb.1 tk rfl (by decide), t_sbe, idb]
        dsimp only
        rw [show Int32.ofNat (15 + 2) = 17 from rfl]
        by_cases c17 : S x.1 = 17
        · rw [if_pos c17, if_neg (by decide)]
          exact fin 1 (by rw [c17]; rfl)
        · rw [if_neg c17, if_pos rfl]
          exact fin 2 (by unfold kdL; rw [if_neg c16, if_neg c17])
  rw [isWord_R (c := 1919902052) (z := 2) ga.1 tk rfl (by decide), t_sbe, eqw]
  dsimp only
  rw [show Int32.ofNat (15 + 2) = 17 from rfl]
  by_cases c17 : S x.1 = 17
  · rw [if_pos c17, if_neg (by decide)]
    exact line (Or.inr (Or.inl c17))
  · rw [if_neg c17, if_pos rfl, isWord_R (c := 7168366) (z := 3) ga.1 tk rfl (by decide), t_sbe, eqw]
    dsimp only
    rw [show Int32.ofNat (15 + 3) = 18 from rfl]
    by_cases c18 : S x.1 = 18
    · rw [if_pos c18, if_neg (by decide)]
      exact line (Or.inr (Or.inr c18))
    · rw [if_neg c18, if_pos rfl, if_pos rfl]
      unfold wX11_clauseHere_j59
      rw [isWord_R (c := 1752135026) (z := 1) ga.1 tk rfl (by decide), t_sbe, eqw]
      dsimp only
      rw [show Int32.ofNat (15 + 1) = 16 from rfl]
      by_cases c16 : S x.1 = 16
      · rw [if_pos c16, if_neg (by decide)]
        exact line (Or.inl c16)
      · rw [if_neg c16, if_pos rfl]
        unfold wX11_clauseHere_j70
        rw [if_pos rfl, fails_R ga.1, t_sbe]
        dsimp only
        refine t_bind (t_rtZ (v := 0) (Or.inl rfl)) (fun t10 h10 => t_some (Or.inl ⟨fl 0 (P x.1), ?_, h10, wup_same⟩))
        unfold lcl
        rw [if_neg (fun e => by rcases e with e | e | e <;> contradiction)]
end RLW
