/-! Tokens: what the class cuts the text into. -/
theorem t_sb {α β : Type} {a : α} {f : α → Option β} {Q : β → Prop} (h : Tot (f a) Q) : Tot ((some a).bind f) Q := h
theorem t_sbe {α β : Type} {a : α} {f : α → Option β} : (some a).bind f = f a := rfl
/-- a byte's sign -/
noncomputable def bsg (c d : Int32) : Int32 := if c = 42 then 8 else if c = 43 then 6 else if c = 45 then 7 else if c = 47 then 9 else if c = 59 then 3 else if c = 60 then (if d = 61 then 11 else 10) else if c = 61 then 12 else if c = 62 then (if d = 61 then 13 else 14) else if c = 91 then 4 else if c = 93 then 5 else 1
theorem wX9_byteSign_E {c d y : Int32} {s : wS} (hy : (d = 61 ∧ y = 1) ∨ (¬ d = 61 ∧ y = 0)) : wX9_byteSign c y s = some (bsg c d) := by
  unfold wX9_byteSign bsg
  rcases hy with ⟨h, rfl⟩ | ⟨h, rfl⟩
  · simp only [h, if_true, show ¬ ((1 : Int32) = 0) by decide, if_false]
    repeat' (first | rfl | split)
  · simp only [h, if_true, if_false]
    repeat' (first | rfl | split)
/-- only the tokens were written -/
noncomputable def bTk (k b : Nat) : Bool := (Nat.ble 4 k && Nat.ble k 6) || (Nat.beq k 3 && Nat.beq b 3)
theorem wX9_put_E {x1 x2 x3 : Int32} {s : wS} (h0 : 0 ≤ (s.1 3 3).toInt) (h1 : (s.1 3 3).toInt ≤ 400) : Tot (wX9_put x1 x2 x3 s) (fun r => wA bTk s r ∧ (r.1 3 3).toInt = (s.1 3 3).toInt + 1 ∧ r.1 4 = upd (s.1 4) (s.1 3 3).toNatClampNeg x1 ∧ r.1 5 = upd (s.1 5) (s.1 3 3).toNatClampNeg x2 ∧ r.1 6 = upd (s.1 6) (s.1 3 3).toNatClampNeg x3) := by
  have e401 : (401 : Int32).toInt = 401 := rfl
  unfold wX9_put
  refine t_bind wX10_isOutside_T (fun t1 ht => ?_)
  have ht1 : t1 = 0 := by
    rcases ht with h | h
    · exact h.1
    · exact absurd ⟨h0, by omega⟩ h.2
  refine t_ite (fun _ => ?_) (fun c => absurd ht1 c)
  refine t_bind (t_stI (B := bTk) (n := 401) h0 (by omega) (fun _ => rfl)) (fun s4 h4 => ?_)
  have z4 : s4.1 3 = s.1 3 := by rw [h4.2, wupI_n (by omega)]
  refine t_bind (t_stI (B := bTk) (n := 401) (by rw [z4]; exact h0) (by rw [z4]; omega) (fun _ => rfl)) (fun s5 h5 => ?_)
  have z5 : s5.1 3 = s.1 3 := by rw [h5.2, wupI_n (by omega), z4]
  refine t_bind (t_stI (B := bTk) (n := 401) (by rw [z5]; exact h0) (by rw [z5]; omega) (fun _ => rfl)) (fun s6 h6 => ?_)
  have z6 : s6.1 3 = s.1 3 := by rw [h6.2, wupI_n (by omega), z5]
  refine t_bind (t_pfI (B := bTk) rfl) (fun s7 h7 => t_some ⟨((h4.1.trans h5.1).trans h6.1).trans h7.1, ?_, ?_, ?_, ?_⟩)
  · rw [h7.2, wup_same, z6]
    exact t_p1 h0 (by omega)
  · rw [h7.2, wupI_n (by omega), h6.2, wupI_n (by omega), h5.2, wupI_n (by omega), h4.2, wupI_k]
  · rw [h7.2, wupI_n (by omega), h6.2, wupI_n (by omega), h5.2, wupI_k, z4, h4.2, wupI_n (by omega)]
  · rw [h7.2, wupI_n (by omega), h6.2, wupI_k, z5, h5.2, wupI_n (by omega), h4.2, wupI_n (by omega)]
/-- letters, digits -/
noncomputable abbrev lt (G : wS) (i : Nat) : Prop := bw G 97 122 i
noncomputable abbrev dg (G : wS) (i : Nat) : Prop := bw G 48 57 i
/-- a token from a place to its end -/
noncomputable def TOK (G : wS) (p : Nat) (sg nm : Int32) (e : Nat) : Prop :=
  p < e ∧ ((lt G p ∧ (∀ j, p ≤ j → j < e → lt G j) ∧ ¬ lt G e ∧ WS G p (e - p) sg)
  ∨ (dg G p ∧ (∀ j, p ≤ j → j < e → dg G j) ∧ ¬ dg G e ∧ sg = 2 ∧ nm = (if 5 < e - p then -1 else nv G p (e - p) 0))
  ∨ (¬ lt G p ∧ ¬ dg G p ∧ ¬ bt G p = 32 ∧ (p : Int) < (G.1 1 1).toInt ∧ sg = bsg (bt G p) (bt G (p + 1)) ∧ e = if sg = 11 ∨ sg = 13 then p + 2 else p + 1))
theorem bt_lt {G : wS} {i : Nat} (h : ¬ bt G i = 0) : (i : Int) < (G.1 1 1).toInt := by
  unfold bt at h
  by_cases c : (i : Int) < (G.1 1 1).toInt
  · exact c
  · rw [if_neg c] at h; exact absurd rfl h
theorem bw_lt {G : wS} {lo hi : Int32} {i : Nat} (h0 : 0 < lo.toInt) (h : bw G lo hi i) : (i : Int) < (G.1 1 1).toInt := by
  apply bt_lt
  intro e
  have := h.1
  rw [e] at this
  have := t_ge this
  rw [t_i0] at this
  omega
theorem lt_lt {G : wS} {i : Nat} (h : lt G i) : (i : Int) < (G.1 1 1).toInt := bw_lt (by decide) h
theorem dg_lt {G : wS} {i : Nat} (h : dg G i) : (i : Int) < (G.1 1 1).toInt := bw_lt (by decide) h
/-- a token ends in the text -/
theorem TOK.le {G : wS} {p e : Nat} {sg nm : Int32} (h : TOK G p sg nm e) : (p : Int) < (G.1 1 1).toInt ∧ (e : Int) ≤ (G.1 1 1).toInt := by
  obtain ⟨h0, h | h | h⟩ := h
  · have := lt_lt (h.2.1 (e - 1) (by omega) (by omega))
    exact ⟨lt_lt h.1, by omega⟩
  · have := dg_lt (h.2.1 (e - 1) (by omega) (by omega))
    exact ⟨dg_lt h.1, by omega⟩
  · obtain ⟨_, _, _, h4, h5, h6⟩ := h
    refine ⟨h4, ?_⟩
    by_cases c : sg = 11 ∨ sg = 13
    · rw [if_pos c] at h6
      have : ¬ bt G (p + 1) = 0 := by
        intro z
        unfold bsg at h5
        rw [z] at h5
        simp only [show ¬ ((0 : Int32) = 61) by decide, if_false] at h5
        have key : ∀ c : Int32, (if c = 42 then (8 : Int32) else if c = 43 then 6 else if c = 45 then 7 else if c = 47 then 9 else if c = 59 then 3 else if c = 60 then 10 else if c = 61 then 12 else if c = 62 then 14 else if c = 91 then 4 else if c = 93 then 5 else 1) ≠ 11 ∧ (if c = 42 then (8 : Int32) else if c = 43 then 6 else if c = 45 then 7 else if c = 47 then 9 else if c = 59 then 3 else if c = 60 then 10 else if c = 61 then 12 else if c = 62 then 14 else if c = 91 then 4 else if c = 93 then 5 else 1) ≠ 13 := by
          intro c
          repeat' (first | exact ⟨by decide, by decide⟩ | split)
        rcases c with c | c
        · exact (key (bt G p)).1 (h5.symm.trans c)
        · exact (key (bt G p)).2 (h5.symm.trans c)
      have := bt_lt this
      omega
    · rw [if_neg c] at h6
      omega
/-- blanks from a place to the next -/
noncomputable def SK (G : wS) (n p : Nat) : Prop := n ≤ p ∧ (p : Int) ≤ (G.1 1 1).toInt ∧ (∀ j, n ≤ j → j < p → bt G j = 32) ∧ ¬ bt G p = 32
theorem SK.uniq {G : wS} {n p q : Nat} (h : SK G n p) (g : SK G n q) : p = q := by
  obtain ⟨h1, _, h3, h4⟩ := h
  obtain ⟨g1, _, g3, g4⟩ := g
  by_cases c : p < q
  · exact absurd (g3 p h1 c) h4
  · by_cases d : q < p
    · exact absurd (h3 q g1 d) g4
    · omega
noncomputable def pv (E : Nat → Nat) : Nat → Nat
  | 0 => 0
  | k + 1 => E k
noncomputable def upd' (E : Nat → Nat) (m e : Nat) : Nat → Nat := fun k => if k = m then e else E k
/-- the tokens up to one -/
noncomputable def TKs (G : wS) (S P N : Nat → Int32) (E : Nat → Nat) (m : Nat) : Prop := ∀ k, k < m → 0 ≤ (P k).toInt ∧ TOK G (P k).toNatClampNeg (S k) (N k) (E k) ∧ SK G (pv E k) (P k).toNatClampNeg
theorem bt_congr {s G : wS} (h1 : s.1 1 1 = G.1 1 1) (h2 : s.1 2 = G.1 2) (i : Nat) : bt s i = bt G i := by
  unfold bt
  rw [h1, h2]
theorem bt_fun {s G : wS} (h1 : s.1 1 1 = G.1 1 1) (h2 : s.1 2 = G.1 2) : bt s = bt G := funext (bt_congr h1 h2)
theorem nv_congr {s G : wS} (h : bt s = bt G) : ∀ {m i : Nat} {v : Int32}, nv s i m v = nv G i m v := by
  intro m
  induction m with
  | zero => intro i v; rfl
  | succ m ih => intro i v; show nv s (i + 1) m (v * 10 + bt s i - 48) = nv G (i + 1) m (v * 10 + bt G i - 48); rw [h, ih]
theorem TOK_congr {s G : wS} {p e : Nat} {sg nm : Int32} (h1 : s.1 1 1 = G.1 1 1) (h2 : s.1 2 = G.1 2) (h : TOK s p sg nm e) : TOK G p sg nm e := by
  have e := bt_fun h1 h2
  have e2 : ∀ (m i : Nat) (v : Int32), nv s i m v = nv G i m v := fun m i v => nv_congr e
  unfold TOK WS sp lt dg bw at *
  rw [e, h1, e2] at h
  exact h
theorem wX9_cutOne_E {x2 : Int32} {s : wS} (hT : (s.1 1 1).toInt ≤ 400) (h0 : 0 ≤ x2.toInt) (hx : x2.toInt < (s.1 1 1).toInt) (hm0 : 0 ≤ (s.1 3 3).toInt) (hm1 : (s.1 3 3).toInt ≤ 400) : Tot (wX9_cutOne x2 s) (fun r => (bt s x2.toNatClampNeg = 32 ∧ r.1.toInt = x2.toInt + 1 ∧ r.2 = s) ∨ (¬ bt s x2.toNatClampNeg = 32 ∧ ∃ (sg nm : Int32) (e : Nat), TOK s x2.toNatClampNeg sg nm e ∧ r.1.toInt = e ∧ wA bTk s r.2 ∧ (r.2.1 3 3).toInt = (s.1 3 3).toInt + 1 ∧ r.2.1 4 = upd (s.1 4) (s.1 3 3).toNatClampNeg sg ∧ r.2.1 5 = upd (s.1 5) (s.1 3 3).toNatClampNeg x2 ∧ r.2.1 6 = upd (s.1 6) (s.1 3 3).toNatClampNeg nm)) := by
  have ex1 := t_p1 (x := x2) h0 (by omega)
  have enx : ((x2.toNatClampNeg : Nat) : Int) = x2.toInt := by unfold Int32.toNatClampNeg; omega
  have en1 : (x2 + 1).toNatClampNeg = x2.toNatClampNeg + 1 := by unfold Int32.toNatClampNeg; omega
  unfold wX9_cutOne
  rw [wX8_byteAt_E h0 hT]
  show Tot (if bt s x2.toNatClampNeg = 32 then _ else _) _
  refine t_ite (fun c => t_some (Or.inl ⟨c, ex1, rfl⟩)) (fun c => ?_)
  refine t_bind (wX8_isBetween_E h0 hT) (fun t4 h4 => t_ite (fun c4 => ?_) (fun c4 => ?_))
  · have nl : ¬ lt s x2.toNatClampNeg := (h4.resolve_right (fun h => by rw [h.1] at c4; exact absurd c4 (by decide))).2
    refine t_bind (wX8_isBetween_E h0 hT) (fun t7 h7 => t_ite (fun c7 => ?_) (fun c7 => ?_))
    · have nd : ¬ dg s x2.toNatClampNeg := (h7.resolve_right (fun h => by rw [h.1] at c7; exact absurd c7 (by decide))).2
      rw [wX8_byteAt_E (by omega) hT, en1]
      show Tot (if bt s (x2.toNatClampNeg + 1) = 61 then wX9_cutOne_j108 x2 (bt s x2.toNatClampNeg) 1 s else wX9_cutOne_j108 x2 (bt s x2.toNatClampNeg) 0 s) _
      have key : ∀ y : Int32, ((bt s (x2.toNatClampNeg + 1) = 61 ∧ y = 1) ∨ (¬ bt s (x2.toNatClampNeg + 1) = 61 ∧ y = 0)) → Tot (wX9_cutOne_j108 x2 (bt s x2.toNatClampNeg) y s) (fun r => (bt s x2.toNatClampNeg = 32 ∧ r.1.toInt = x2.toInt + 1 ∧ r.2 = s) ∨ (¬ bt s x2.toNatClampNeg = 32 ∧ ∃ (sg nm : Int32) (e : Nat), TOK s x2.toNatClampNeg sg nm e ∧ r.1.toInt = e ∧ wA bTk s r.2 ∧ (r.2.1 3 3).toInt = (s.1 3 3).toInt + 1 ∧ r.2.1 4 = upd (s.1 4) (s.1 3 3).toNatClampNeg sg ∧ r.2.1 5 = upd (s.1 5) (s.1 3 3).toNatClampNeg x2 ∧ r.2.1 6 = upd (s.1 6) (s.1 3 3).toNatClampNeg nm)) := by
        intro y hy
        unfold wX9_cutOne_j108 wX9_cutOne_j131
        rw [wX9_byteSign_E hy]
        refine t_sb ?_
        refine t_bind (wX9_put_E hm0 hm1) (fun s18 h18 => ?_)
        have ex2 : (x2 + 2).toInt = x2.toInt + 2 := t_pl rfl (by omega) (by omega) h0 (by omega)
        have q2 : (bsg (bt s x2.toNatClampNeg) (bt s (x2.toNatClampNeg + 1)) = 11 ∨ bsg (bt s x2.toNatClampNeg) (bt s (x2.toNatClampNeg + 1)) = 13) → ∃ e : Nat, TOK s x2.toNatClampNeg (bsg (bt s x2.toNatClampNeg) (bt s (x2.toNatClampNeg + 1))) 0 e ∧ (x2 + 2).toInt = e := fun c => ⟨x2.toNatClampNeg + 2, ⟨by omega, Or.inr (Or.inr ⟨nl, nd, by assumption, by omega, rfl, (if_pos c).symm⟩)⟩, by omega⟩
        refine t_ite (fun c => ?_) (fun c => t_ite (fun c' => ?_) (fun c' => ?_))
        · obtain ⟨e, a1, a2⟩ := q2 (Or.inl c)
          exact t_some (Or.inr ⟨by assumption, _, 0, e, a1, a2, h18⟩)
        · obtain ⟨e, a1, a2⟩ := q2 (Or.inr c')
          exact t_some (Or.inr ⟨by assumption, _, 0, e, a1, a2, h18⟩)
        · refine t_some (Or.inr ⟨by assumption, _, 0, x2.toNatClampNeg + 1, ⟨by omega, Or.inr (Or.inr ⟨nl, nd, by assumption, by omega, rfl, (if_neg (fun q => q.elim c c')).symm⟩)⟩, ?_, h18⟩)
          show (x2 + 1).toInt = _
          omega
      exact t_ite (fun c => key 1 (Or.inl ⟨c, rfl⟩)) (fun c => key 0 (Or.inr ⟨c, rfl⟩))
    · have yd : dg s x2.toNatClampNeg := (h7.resolve_left (fun h => c7 h.1)).2
      refine t_bind (wX9_endOf_E hT h0 (by omega)) (fun t22 h22 => ?_)
      rw [wX9_numberAt_E hT h0 (by omega) (by omega)]
      refine t_sb ?_
      refine t_bind (wX9_put_E hm0 hm1) (fun s27 h27 => t_some (Or.inr ⟨c, 2, _, t22.toNatClampNeg, ⟨?_, Or.inr (Or.inl ⟨yd, ?_, ?_, rfl, ?_⟩)⟩, ?_, h27⟩))
      · unfold Int32.toNatClampNeg; omega
      · intro j h1 h2
        by_cases hj : j = x2.toNatClampNeg
        · rw [hj]; exact yd
        · exact h22.2.2.1 j (by omega) (by unfold Int32.toNatClampNeg at h2; omega)
      · by_cases h4 : t22.toInt < 400
        · exact h22.2.2.2 h4
        · intro q
          have := dg_lt q
          unfold Int32.toNatClampNeg at this
          omega
      · have e1 : (t22.toInt - x2.toInt).toNat = t22.toNatClampNeg - x2.toNatClampNeg := by unfold Int32.toNatClampNeg; omega
        rw [e1]
        by_cases h5 : 5 < t22.toInt - x2.toInt
        · rw [if_pos h5, if_pos (by omega)]
        · rw [if_neg h5, if_neg (by omega)]
      · show t22.toInt = _
        unfold Int32.toNatClampNeg
        omega
  · have yl : lt s x2.toNatClampNeg := (h4.resolve_left (fun h => c4 h.1)).2
    refine t_bind (wX9_endOf_E hT h0 (by omega)) (fun t29 h29 => ?_)
    refine t_bind (wX9_wordSign_E hT h0 (by omega) (by omega)) (fun t31 h31 => ?_)
    refine t_bind (wX9_put_E hm0 hm1) (fun s34 h34 => t_some (Or.inr ⟨c, t31, 0, t29.toNatClampNeg, ⟨?_, Or.inl ⟨yl, ?_, ?_, ?_⟩⟩, ?_, h34⟩))
    · unfold Int32.toNatClampNeg; omega
    · intro j h1 h2
      by_cases hj : j = x2.toNatClampNeg
      · rw [hj]; exact yl
      · exact h29.2.2.1 j (by omega) (by unfold Int32.toNatClampNeg at h2; omega)
    · by_cases h4 : t29.toInt < 400
      · exact h29.2.2.2 h4
      · intro q
        have := lt_lt q
        unfold Int32.toNatClampNeg at this
        omega
    · have e1 : (t29.toInt - x2.toInt).toNat = t29.toNatClampNeg - x2.toNatClampNeg := by unfold Int32.toNatClampNeg; omega
      rw [← e1]
      exact h31
    · show t29.toInt = _
      unfold Int32.toNatClampNeg
      omega
/-- a part of the tokens is cut, up to a place -/
noncomputable def CUT (G : wS) (s : wS) (m : Nat) (x : Nat) (E : Nat → Nat) : Prop := (s.1 1 1 = G.1 1 1 ∧ s.1 2 = G.1 2) ∧ (s.1 3 3).toInt = m ∧ m ≤ x ∧ (x : Int) ≤ (G.1 1 1).toInt ∧ TKs G (s.1 4) (s.1 5) (s.1 6) E m ∧ pv E m ≤ x ∧ ∀ j, pv E m ≤ j → j < x → bt G j = 32
theorem pv_congr {E F : Nat → Nat} {m : Nat} (h : ∀ k, k < m → F k = E k) : ∀ k, k ≤ m → pv F k = pv E k := by
  intro k hk
  cases k with
  | zero => rfl
  | succ k => exact h k (by omega)
theorem wX9_cut_h19_E {G : wS} (hT : (G.1 1 1).toInt ≤ 400) : ∀ (n : Nat) {m : Nat} {E : Nat → Nat} {x2 x3 : Int32} {s : wS}, 0 ≤ x2.toInt → CUT G s m x2.toNatClampNeg E → 0 ≤ x3.toInt → x3.toInt ≤ x2.toInt → (G.1 1 1).toInt - x2.toInt < n → Tot (wX9_cut_h19 n x2 x3 s) (fun r => wA bTk s r ∧ ∃ m E, CUT G r m (G.1 1 1).toNatClampNeg E) := by
  intro n
  induction n with
  | zero => intro m E x2 x3 s h0 g _ _ hm; exfalso; have := g.2.2.2.1; unfold Int32.toNatClampNeg at this; omega
  | succ n ih =>
    intro m E x2 x3 s h0 g h30 h32 hm
    obtain ⟨⟨gT, gB⟩, g1, g2, g3, g4, g5, g6⟩ := g
    have enx : ((x2.toNatClampNeg : Nat) : Int) = x2.toInt := by unfold Int32.toNatClampNeg; omega
    have hb := bt_fun gT gB
    have fin : ¬ x2.toInt < (G.1 1 1).toInt → Tot (some s) (fun r => wA bTk s r ∧ ∃ m E, CUT G r m (G.1 1 1).toNatClampNeg E) := fun c => t_some ⟨wA.refl, m, E, by
      have : x2.toNatClampNeg = (G.1 1 1).toNatClampNeg := by unfold Int32.toNatClampNeg; omega
      rw [← this]
      exact ⟨⟨gT, gB⟩, g1, g2, g3, g4, g5, g6⟩⟩
    rw [wX9_cut_h19]
    have e400 : (400 : Int32).toInt = 400 := rfl
    refine t_ite (fun c3 => ?_) (fun c3 => fin (by have := t_ge c3; omega))
    have hc3 := t_lt c3
    refine t_ite (fun c => ?_) (fun c => fin (by have := t_ge c; rw [gT] at this; omega))
    have hc := t_lt c
    rw [gT] at hc
    refine t_bind (wX9_cutOne_E (by rw [gT]; exact hT) h0 (by rw [gT]; exact hc) (by omega) (by omega)) (fun r h => ?_)
    obtain ⟨t6, s7⟩ := r
    dsimp only at h ⊢
    have e3 := t_p1 (x := x3) h30 (by omega)
    rcases h with ⟨hb32, ht, hs⟩ | ⟨hn32, sg, nm, e, htok, ht, hA, hm1, q4, q5, q6⟩
    · subst hs
      have en : t6.toNatClampNeg = x2.toNatClampNeg + 1 := by unfold Int32.toNatClampNeg; omega
      refine ih (m := m) (E := E) (by omega) ⟨⟨gT, gB⟩, g1, by omega, by omega, g4, by omega, fun j h1 h2 => ?_⟩ (by omega) (by omega) (by omega)
      by_cases hj : j = x2.toNatClampNeg
      · rw [hj, ← hb]; exact hb32
      · exact g6 j h1 (by omega)
    · have htok' : TOK G x2.toNatClampNeg sg nm e := TOK_congr gT gB htok
      have hle := htok'.le
      have hpe := htok'.1
      have en : t6.toNatClampNeg = e := by unfold Int32.toNatClampNeg; omega
      have em : (s.1 3 3).toNatClampNeg = m := by unfold Int32.toNatClampNeg; omega
      rw [em] at q4 q5 q6
      have hE : ∀ k, k < m → upd' E m e k = E k := fun k hk => by unfold upd'; rw [if_neg (by omega)]
      refine t_mono (ih (m := m + 1) (E := upd' E m e) (x2 := t6) (x3 := x3 + 1) (s := s7) (by omega) ⟨⟨by rw [hA 1 1 rfl]; exact gT, by rw [← gB]; exact funext fun b => hA 2 b rfl⟩, by omega, by omega, by omega, fun k hk => ?_, ?_, ?_⟩ (by omega) (by omega) (by omega)) (fun r hr => ⟨hA.trans hr.1, hr.2⟩)
      · by_cases hkm : k = m
        · subst hkm
          rw [q4, q5, q6]
          unfold upd
          rw [if_pos rfl, if_pos rfl, if_pos rfl]
          refine ⟨h0, ?_, ?_⟩
          · unfold upd'; rw [if_pos rfl]; exact htok'
          · rw [pv_congr hE k (Nat.le_refl _)]
            exact ⟨g5, by omega, g6, by rw [← hb]; exact hn32⟩
        · have hk' : k < m := by omega
          obtain ⟨a1, a2, a3⟩ := g4 k hk'
          rw [q4, q5, q6]
          unfold upd
          rw [if_neg hkm, if_neg hkm, if_neg hkm, hE k hk', pv_congr hE k (by omega)]
          exact ⟨a1, a2, a3⟩
      · show upd' E m e m ≤ _
        unfold upd'; rw [if_pos rfl]; omega
      · intro j h1 h2
        have : pv (upd' E m e) (m + 1) = e := by show upd' E m e m = e; unfold upd'; rw [if_pos rfl]
        omega
/-- all tokens of a text -/
noncomputable def TOKS (G : wS) (S P N : Nat → Int32) (E : Nat → Nat) (K : Nat) : Prop := TKs G S P N E K ∧ K ≤ (G.1 1 1).toInt ∧ S K = 0 ∧ P K = G.1 1 1 ∧ SK G (pv E K) (P K).toNatClampNeg
theorem wX9_cut_E {s : wS} (hT0 : 0 ≤ (s.1 1 1).toInt) (hT : (s.1 1 1).toInt ≤ 400) : Tot (wX9_cut s) (fun r => wA (fun k b => bTk k b || (Nat.beq k 3 && (Nat.beq b 4 || Nat.beq b 5))) s r ∧ r.1 3 4 = 0 ∧ r.1 3 5 = 0 ∧ ∃ K E, (r.1 3 3).toInt = (K : Nat) + 1 ∧ TOKS s (r.1 4) (r.1 5) (r.1 6) E K) := by
  let B : Nat → Nat → Bool := fun k b => bTk k b || (Nat.beq k 3 && (Nat.beq b 4 || Nat.beq b 5))
  have hB : ∀ k b, bTk k b = true → B k b = true := fun k b h => by show (bTk k b || _) = true; rw [h]; rfl
  unfold wX9_cut
  refine t_bind (t_pfI (B := B) rfl) (fun s1 h1 => t_bind (t_pfI (B := B) rfl) (fun s2 h2 => t_bind (t_pfI (B := B) rfl) (fun s3 h3 => ?_)))
  have A3 := (h1.1.trans h2.1).trans h3.1
  have z33 : s3.1 3 3 = 0 := by rw [h3.2, wup_nb (by decide), h2.2, wup_nb (by decide), h1.2, wup_same]
  have z34 : s3.1 3 4 = 0 := by rw [h3.2, wup_nb (by decide), h2.2, wup_same]
  have z35 : s3.1 3 5 = 0 := by rw [h3.2, wup_same]
  have z11 : s3.1 1 1 = s.1 1 1 := A3 1 1 rfl
  have z2 : s3.1 2 = s.1 2 := funext fun b => A3 2 b rfl
  refine t_bind (wX9_cut_h19_E (G := s) hT wFuel (m := 0) (E := fun _ => 0) (x2 := 0) (x3 := 0) (by decide) ⟨⟨z11, z2⟩, by rw [z33]; rfl, Nat.zero_le _, by show ((0 : Nat) : Int) ≤ _; omega, fun k hk => absurd hk (by omega), Nat.zero_le _, fun j h1 h2 => absurd h2 (by show ¬ j < 0; omega)⟩ (by decide) (by decide) (by
    have e : ((wFuel : Nat) : Int) = 1099511627776 := rfl
    rw [t_i0]
    omega)) (fun s10 h10 => ?_)
  obtain ⟨A10, m, E, ⟨gT, gB⟩, g1, g2, g3, g4, g5, g6⟩ := h10
  unfold wX9_cut_j47
  have enT : (((s.1 1 1).toNatClampNeg : Nat) : Int) = (s.1 1 1).toInt := by unfold Int32.toNatClampNeg; omega
  refine t_bind (wX9_put_E (by omega) (by omega)) (fun s14 h14 => t_some ⟨(A3.trans (A10.mono hB)).trans (h14.1.mono hB), ?_, ?_, m, E, by omega, ?_⟩)
  · rw [h14.1 3 4 rfl, A10 3 4 rfl, z34]
  · rw [h14.1 3 5 rfl, A10 3 5 rfl, z35]
  · obtain ⟨_, _, q4, q5, q6⟩ := h14
    have em : (s10.1 3 3).toNatClampNeg = m := by unfold Int32.toNatClampNeg; omega
    rw [em] at q4 q5 q6
    rw [q4, q5, q6]
    have u : ∀ (f : Nat → Int32) (v : Int32), upd f m v m = v := fun f v => by unfold upd; rw [if_pos rfl]
    have u' : ∀ (f : Nat → Int32) (v : Int32) (k : Nat), k < m → upd f m v k = f k := fun f v k hk => by unfold upd; rw [if_neg (by omega)]
    refine ⟨fun k hk => ?_, by omega, u _ _, by rw [u, gT], ?_⟩
    · rw [u' _ _ k hk, u' _ _ k hk, u' _ _ k hk]
      exact g4 k hk
    · rw [u, gT]
      refine ⟨g5, by omega, g6, fun q => ?_⟩
      have := bt_lt (G := s) (i := (s.1 1 1).toNatClampNeg) (by rw [q]; decide)
      omega
