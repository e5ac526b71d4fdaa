/-! A LAW's CLAUSES; the class reads a LAW. -/
noncomputable abbrev qT : Type := Int32 × Nat × Nat × Nat × Bool
noncomputable abbrev lC : Type := Nat × Nat × List Int32 × List qT
noncomputable def kdL (x : Int32) : Int32 := if x = 16 then 0 else if x = 17 then 1 else 2
noncomputable def lcl (S P N : Nat → Int32) (x : lC) : Int32 ⊕ lC :=
  if S x.1 = 16 ∨ S x.1 = 17 ∨ S x.1 = 18 then (if x.2.2.2.length = 12 then .inl (fl 4 (P x.1)) else (match sumV S P N (x.1 + 1) x.2.1 x.2.2.1 with
    | .inl e => .inl e
    | .inr y => if S y.1 = 19 then (match testV S P N (y.1 + 1) y.2.1 y.2.2 with
        | .inl e => .inl e
        | .inr z => .inr (z.1, z.2.1, z.2.2, x.2.2.2 ++ [(kdL (S x.1), x.2.2.1.length, y.2.2.length, z.2.2.length, true)]))
      else .inr (y.1, y.2.1, y.2.2, x.2.2.2 ++ [(kdL (S x.1), x.2.2.1.length, y.2.2.length, y.2.2.length, false)])))
  else .inl (fl 0 (P x.1))
noncomputable def lst (S P N : Nat → Int32) (x : lC) : lC ⊕ (Int32 ⊕ lC) :=
  match lcl S P N x with
  | .inl e => .inr (.inl e)
  | .inr c' => if S c'.1 = 3 then .inl (c'.1 + 1, c'.2) else if S c'.1 = 0 then .inr (.inr c') else .inr (.inl (fl 0 (P c'.1)))
/-- the CLAUSES so far -/
noncomputable def LQ (k2 : Nat) (q : List qT) (s : wS) : Prop := (s.1 k2 6 = Int32.ofNat q.length ∧ q.length ≤ 12) ∧ ∀ i x, q[i]? = some x → s.1 (k2 + 2) i = x.1 ∧ s.1 (k2 + 3) i = Int32.ofNat x.2.1 ∧ s.1 (k2 + 4) i = Int32.ofNat x.2.2.1 ∧ s.1 (k2 + 5) i = Int32.ofNat x.2.2.2.1 ∧ (x.2.2.2.2 = true ↔ x.2.2.1 < x.2.2.2.1) ∧ (x.2.1 ≤ x.2.2.1 ∧ x.2.2.1 ≤ x.2.2.2.1 ∧ x.2.2.2.1 ≤ 400) ∧ (x.1 = 0 ∨ x.1 = 1 ∨ x.1 = 2)
noncomputable def bQc (k2 k b : Nat) : Bool := (Nat.beq k k2 && Nat.beq b 6) || (Nat.ble (k2 + 2) k && Nat.ble k (k2 + 5))
theorem bQc_n {k2 k b : Nat} (h1 : ¬ (k = k2 ∧ b = 6)) (h2 : ¬ (k2 + 2 ≤ k ∧ k ≤ k2 + 5)) : bQc k2 k b = false := by
  cases e : bQc k2 k b
  · rfl
  · exfalso
    simp only [bQc, Bool.or_eq_true, Bool.and_eq_true, Nat.beq_eq, Nat.ble_eq] at e
    omega
theorem bQc_p {k2 k b : Nat} (h : (k = k2 ∧ b = 6) ∨ (k2 + 2 ≤ k ∧ k ≤ k2 + 5)) : bQc k2 k b = true := by
  simp only [bQc, Bool.or_eq_true, Bool.and_eq_true, Nat.beq_eq, Nat.ble_eq]
  omega
section LAWQ
variable {S P N : Nat → Int32} {K k2 k c : Nat} {o : List Int32} {q : List qT} {s : wS}
theorem LQ.go {s' : wS} (h : LQ k2 q s) (h6 : s'.1 k2 6 = s.1 k2 6) (h2 : s'.1 (k2 + 2) = s.1 (k2 + 2)) (h3 : s'.1 (k2 + 3) = s.1 (k2 + 3)) (h4 : s'.1 (k2 + 4) = s.1 (k2 + 4)) (h5 : s'.1 (k2 + 5) = s.1 (k2 + 5)) : LQ k2 q s' := by
  unfold LQ
  rw [h6, h2, h3, h4, h5]
  exact h
theorem LQ.lr {s' : wS} (h44 : 44 ≤ k2) (h : LQ k2 q s) (a : wA (bLR k2) s s') : LQ k2 q s' :=
  h.go (a _ _ (bLR_n (by omega) (by omega) (by omega) (by omega))) (funext fun b => a _ b (bLR_n (by omega) (by omega) (by omega) (by omega))) (funext fun b => a _ b (bLR_n (by omega) (by omega) (by omega) (by omega))) (funext fun b => a _ b (bLR_n (by omega) (by omega) (by omega) (by omega))) (funext fun b => a _ b (bLR_n (by omega) (by omega) (by omega) (by omega)))
theorem LSt.qc {s' : wS} (h44 : 44 ≤ k2) (h : LSt S P N K k2 k c o s) (a : wA (bQc k2) s s') : LSt S P N K k2 k c o s' := by
  obtain ⟨ct, h0, ⟨q1, q1'⟩, q2, q3⟩ := h
  have z : ∀ k b, k < 44 → s'.1 k b = s.1 k b := fun k b hk => a k b (bQc_n (by omega) (by omega))
  refine ⟨ct.go (funext fun b => z 4 b (by omega)) (funext fun b => z 5 b (by omega)) (funext fun b => z 6 b (by omega)) (z 3 3 (by omega)) (z 3 4 (by omega)), by rw [z 3 5 (by omega)]; exact h0, ⟨by rw [z 8 0 (by omega)]; exact q1, q1'⟩, by rw [a k2 1 (bQc_n (by omega) (by omega))]; exact q2, fun i v hv => by rw [a (k2 + 1) i (bQc_n (by omega) (by omega))]; exact q3 i v hv⟩
theorem CF.qc {e : Int32} {s' : wS} (h44 : 44 ≤ k2) (h : CF S P N K e s) (a : wA (bQc k2) s s') : CF S P N K e s' := by
  have z : ∀ k b, k < 44 → s'.1 k b = s.1 k b := fun k b hk => a k b (bQc_n (by omega) (by omega))
  exact h.go (funext fun b => z 4 b (by omega)) (funext fun b => z 5 b (by omega)) (funext fun b => z 6 b (by omega)) (funext fun b => z 3 b (by omega))
theorem addClause_A {x1 x2 x3 : Int32} : Tot (wX3_addClause k2 x1 x2 x3 s) (fun s' => wA (bQc k2) s s') := by
  unfold wX3_addClause
  refine t_bind wX10_isOutside_T (fun t1 ht => t_ite (fun c => ?_) (fun _ => t_some wA.refl))
  have ht' : 0 ≤ (s.1 k2 6).toInt ∧ (s.1 k2 6).toInt < 12 := by
    rcases ht with h | h
    · exact h.2
    · rw [h.1] at c; exact absurd c (by decide)
  have e : ∀ u : wS, u.1 k2 = s.1 k2 → 0 ≤ (u.1 k2 6).toInt ∧ (u.1 k2 6).toInt < 12 := fun u hu => by rw [hu]; exact ht'
  refine t_bind (t_stI (B := bQc k2) (n := 12) ht'.1 ht'.2 (fun b => bQc_p (by omega))) (fun s4 h4 => ?_)
  have z4 : s4.1 k2 = s.1 k2 := by rw [h4.2, wupI_n (by omega)]
  refine t_bind (t_stI (B := bQc k2) (n := 12) (e s4 z4).1 (e s4 z4).2 (fun b => bQc_p (by omega))) (fun s5 h5 => ?_)
  have z5 : s5.1 k2 = s.1 k2 := by rw [h5.2, wupI_n (by omega), z4]
  refine t_bind (t_stI (B := bQc k2) (n := 12) (e s5 z5).1 (e s5 z5).2 (fun b => bQc_p (by omega))) (fun s6 h6 => ?_)
  have z6 : s6.1 k2 = s.1 k2 := by rw [h6.2, wupI_n (by omega), z5]
  refine t_bind (t_stI (B := bQc k2) (n := 12) (e s6 z6).1 (e s6 z6).2 (fun b => bQc_p (by omega))) (fun s7 h7 => ?_)
  exact t_bind (t_pfI (B := bQc k2) (bQc_p (by omega))) (fun s8 h8 => t_some ((((h4.1.trans h5.1).trans h6.1).trans h7.1).trans h8.1))
theorem addClause_E {kd : Int32} {l0 l1 : Nat} {b : Bool} (h : LQ k2 q s) (hq : q.length < 12) (hk : s.1 k2 1 = Int32.ofNat o.length) (hb : b = true ↔ l1 < o.length) (hl : l0 ≤ l1 ∧ l1 ≤ o.length ∧ o.length ≤ 400) (hkd : kd = 0 ∨ kd = 1 ∨ kd = 2) : Tot (wX3_addClause k2 kd (Int32.ofNat l0) (Int32.ofNat l1) s) (fun s' => LQ k2 (q ++ [(kd, l0, l1, o.length, b)]) s') := by
  obtain ⟨⟨h6, h12⟩, hx⟩ := h
  have el : (Int32.ofNat q.length).toInt = q.length := t_on (by omega)
  have en : (Int32.ofNat q.length).toNatClampNeg = q.length := t_nc (by omega)
  unfold wX3_addClause
  rw [h6, isOutside_E, if_pos ⟨by omega, by rw [el, show (12 : Int32).toInt = 12 from rfl]; omega⟩, t_sbe, if_pos rfl]
  rw [wst_E (by omega) (by omega), t_sbe, en, wupI_n (by omega), h6, wst_E (by omega) (by omega), t_sbe, en, wupI_n (by omega), wupI_n (by omega), h6, wst_E (by omega) (by omega), t_sbe, en, wupI_n (by omega), wupI_n (by omega), wupI_n (by omega), h6, hk, wst_E (by omega) (by omega), t_sbe, en, wupI_n (by omega), wupI_n (by omega), wupI_n (by omega), wupI_n (by omega), h6]
  have : Int32.ofNat q.length + 1 = Int32.ofNat (q.length + 1) := Int32.toInt_inj.1 (by rw [t_p1 (by omega) (by omega), el, t_on (by omega)]; rfl)
  rw [this]
  have ql : (q ++ [(kd, l0, l1, o.length, b)]).length = q.length + 1 := by rw [List.length_append]; rfl
  refine t_some ⟨⟨by rw [wup_same, ql], by omega⟩, fun i x hxi => ?_⟩
  rw [wupI_n (by omega), wupI_n (by omega), wupI_n (by omega), wupI_n (by omega), wupI_k, wupI_n (by omega), wupI_n (by omega), wupI_n (by omega), wupI_k, wupI_n (by omega), wupI_n (by omega), wupI_n (by omega), wupI_k, wupI_n (by omega), wupI_n (by omega), wupI_n (by omega), wupI_k, wupI_n (by omega), wupI_n (by omega), wupI_n (by omega)]
  by_cases c : i = q.length
  · subst c
    rw [List.getElem?_append_right (Nat.le_refl _), Nat.sub_self] at hxi
    obtain rfl := Option.some.inj hxi
    rw [updI_s, updI_s, updI_s, updI_s]
    exact ⟨rfl, rfl, rfl, rfl, hb, hl, hkd⟩
  · rw [updI_n c, updI_n c, updI_n c, updI_n c]
    have hi : i < q.length := by
      have := (List.getElem?_eq_some_iff.1 hxi).1
      omega
    rw [List.getElem?_append_left hi] at hxi
    exact hx i x hxi
/-- the whole of a LAW, as it is read -/
noncomputable def LB (n : Nat) (q : List qT) : Prop := ∀ (i : Nat) (x : qT), q[i]? = some x → x.2.2.2.1 ≤ n
theorem LB.snoc {n m : Nat} {q : List qT} {y : qT} (h : LB n q) (hn : n ≤ m) (hy : y.2.2.2.1 ≤ m) : LB m (q ++ [y]) := by
  intro i x hx
  by_cases c : i < q.length
  · rw [List.getElem?_append_left c] at hx
    exact Nat.le_trans (h i x hx) hn
  · have c' : q.length ≤ i := by omega
    rw [List.getElem?_append_right c'] at hx
    have : i - q.length = 0 := by
      have := (List.getElem?_eq_some_iff.1 hx).1
      simp only [List.length_singleton] at this
      omega
    rw [this] at hx
    obtain rfl := Option.some.inj hx
    exact hy
noncomputable def LW (S P N : Nat → Int32) (K k2 : Nat) (x : lC) (s : wS) : Prop := LSt S P N K k2 x.1 x.2.1 x.2.2.1 s ∧ LQ k2 x.2.2.2 s ∧ s.1 k2 12 = 0 ∧ LB x.2.2.1.length x.2.2.2
noncomputable def LV (S P N : Nat → Int32) (K k2 : Nat) (x : lC) (s' : wS) : Prop := (∃ e, Ev (lst S P N) x (.inl e) ∧ CF S P N K e s') ∨ (∃ c' : lC, Ev (lst S P N) x (.inr c') ∧ LW S P N K k2 c' s' ∧ c'.2.2.1.length ≤ 400)
theorem read4_h14_0 {i : Int32} {n : Nat} : wX4_read_h14 k2 (n + 1) 0 i s = some s := by
  rw [wX4_read_h14]
  by_cases c : i < 400
  · rw [if_pos c, if_pos rfl]
  · rw [if_neg c]
theorem j123_F {e : Int32} (h : CF S P N K e s) : wX4_read_j123 s = some s := by
  unfold wX4_read_j123
  rw [h.sign, t_sbe, if_pos rfl]
theorem j101_F {e i x5 x6 x7 : Int32} {n : Nat} (h44 : 44 ≤ k2) (h : CF S P N K e s) : Tot ((wX4_read_j101 (wX4_read_h14 k2 (n + 1)) k2 i x5 x6 x7 s).bind fun s39 => wX4_read_j123 s39) (fun s' => CF S P N K e s') := by
  unfold wX4_read_j101
  refine t_assoc (t_bind addClause_A (fun s26 h26 => ?_))
  have h' := h.qc h44 h26
  rw [h'.take (by decide), t_sbe]
  dsimp only
  rw [read4_h14_0, t_sbe, j123_F h']
  exact t_some h'
theorem j63_F {e i x5 : Int32} {n : Nat} (h44 : 44 ≤ k2) (h : CF S P N K e s) : Tot ((wX4_read_j63 (wX4_read_h14 k2 (n + 1)) k2 i x5 s).bind fun s39 => wX4_read_j123 s39) (fun s' => CF S P N K e s') := by
  unfold wX4_read_j63
  rw [h.skip, t_sbe]
  refine t_assoc (t_bind (readSum_F h44 h) (fun s19 h19 => ?_))
  rw [h19.take (by decide), t_sbe]
  dsimp only
  rw [if_pos rfl]
  exact j101_F h44 h19
theorem kind4 : wX4_kindOf (S k) s = some (if S k = 16 ∨ S k = 17 ∨ S k = 18 then kdL (S k) else -1) := by
  unfold wX4_kindOf kdL
  by_cases c16 : S k = 16
  · rw [if_pos c16, if_pos (Or.inl c16), if_pos c16]
  · rw [if_neg c16]
    by_cases c17 : S k = 17
    · rw [if_pos c17, if_pos (Or.inr (Or.inl c17)), if_neg c16, if_pos c17]
    · rw [if_neg c17]
      by_cases c18 : S k = 18
      · rw [if_pos c18, if_pos (Or.inr (Or.inr c18)), if_neg c16, if_neg c17]
      · rw [if_neg c18, if_neg (fun q => by rcases q with q | q | q <;> contradiction)]
theorem kdL_3 {x : Int32} : kdL x = 0 ∨ kdL x = 1 ∨ kdL x = 2 := by
  unfold kdL
  by_cases c : x = 16
  · rw [if_pos c]; exact Or.inl rfl
  · rw [if_neg c]
    by_cases d : x = 17
    · rw [if_pos d]; exact Or.inr (Or.inl rfl)
    · rw [if_neg d]; exact Or.inr (Or.inr rfl)
theorem read4_E (h44 : 44 ≤ k2) (hS : S K = 0) (pb : ∀ j, j ≤ K → 0 ≤ (P j).toInt ∧ (P j).toInt ≤ 400) : ∀ (n : Nat) {i : Int32} {x : lC} {s : wS}, LW S P N K k2 x s → x.1 ≤ K → x.2.2.1.length ≤ x.1 → 0 ≤ i.toInt → 2 * i.toInt ≤ x.1 → K - x.1 + 1 < n → Tot ((wX4_read_h14 k2 n 1 i s).bind fun s39 => wX4_read_j123 s39) (fun s' => LV S P N K k2 x s') := by
  intro n
  induction n with
  | zero => intro i x s _ _ _ _ _ hm; exact absurd hm (by omega)
  | succ n ih =>
    intro i x s hw hk hl i0 hi hm
    obtain ⟨h, hq, h12, hlb⟩ := hw
    have hK := h.1.2.1.2
    have ei := t_p1 (x := i) i0 (by omega)
    have nf : ∀ j (z : Int32), j ≤ K → 0 ≤ z.toInt → z.toInt ≤ 7 → ¬ fl z (P j) = 0 := fun j z hj a b => fl_0 a b (pb j hj).1 (pb j hj).2
    obtain ⟨n', rfl⟩ : ∃ n', n = n' + 1 := ⟨n - 1, by omega⟩
    rw [wX4_read_h14, if_pos (Int32.lt_iff_toInt_lt.2 (by rw [show (400 : Int32).toInt = 400 from rfl]; omega)), if_neg (by decide), sign_E h.1 hk, t_sbe, kind4]
    have bad : ∀ z x5 : Int32, 0 ≤ z.toInt → z.toInt ≤ 7 → lcl S P N x = .inl (fl z (P x.1)) → Tot (((wX9_fail z s).bind fun s13 => wX4_read_j63 (wX4_read_h14 k2 (n' + 1)) k2 i x5 s13).bind fun s39 => wX4_read_j123 s39) (fun s' => LV S P N K k2 x s') := by
      intro z x5 z0 z7 hz
      obtain ⟨r, e1, e2⟩ := h.fail (x := z) hk hS (nf _ _ hk z0 z7)
      rw [e1, t_sbe]
      refine t_mono (j63_F h44 e2) (fun s' hs => Or.inl ⟨_, Ev.ret ?_, hs⟩)
      unfold lst
      rw [hz]
    by_cases cw : S x.1 = 16 ∨ S x.1 = 17 ∨ S x.1 = 18
    · rw [if_pos cw, t_sbe, if_neg (by rcases kdL_3 (x := S x.1) with q | q | q <;> rw [q] <;> decide)]
      have hkK : x.1 < K := by
        by_cases q : x.1 = K
        · rw [q, hS] at cw; rcases cw with q | q | q <;> exact absurd q (by decide)
        · omega
      obtain ⟨⟨q6, ql⟩, qx⟩ := id hq
      have eql : (Int32.ofNat x.2.2.2.length).toInt = x.2.2.2.length := t_on (by omega)
      rw [q6]
      by_cases c12 : x.2.2.2.length = 12
      · rw [if_neg (fun q => by have := t_lt q; rw [eql, show (12 : Int32).toInt = 12 from rfl] at this; omega)]
        refine bad 4 _ (by decide) (by decide) ?_
        unfold lcl
        rw [if_pos cw, if_pos c12]
      · rw [if_pos (Int32.lt_iff_toInt_lt.2 (by rw [eql, show (12 : Int32).toInt = 12 from rfl]; omega))]
        unfold wX4_read_j63
        rw [skip_E h.1 hk, if_pos hkK, t_sbe]
        have h1 := h.hr (j := x.1 + 1) h44
        have q1 : LQ k2 x.2.2.2 (hr s (x.1 + 1)) := hq.lr h44 h1.2
        have m1 : (hr s (x.1 + 1)).1 k2 1 = Int32.ofNat x.2.2.1.length := h1.1.2.2.2.1
        have b1 : (hr s (x.1 + 1)).1 k2 12 = 0 := by rw [wupI_n (by omega)]; exact h12
        rw [m1]
        refine t_assoc (t_bind (readSum_E h44 hS pb h1.1 (by omega) (by omega)) (fun s19 h19 => ?_))
        rcases h19 with ⟨e, f1, f2⟩ | ⟨k', c', o', f1, f2, f3, f4, f5, f6, f7⟩
        · rw [f2.take (by decide), t_sbe]
          dsimp only
          rw [if_pos rfl]
          refine t_mono (j101_F h44 f2) (fun s' hs => Or.inl ⟨e, Ev.ret ?_, hs⟩)
          unfold lst lcl
          rw [if_pos cw, if_neg c12, sumV_eq f1]
        · have q2 : LQ k2 x.2.2.2 s19 := q1.lr h44 f3
          have b2 : s19.1 k2 12 = 0 := by rw [f3 k2 12 (bLR_n (by omega) (by omega) (by omega) (by omega))]; exact b1
          have m2 : s19.1 k2 1 = Int32.ofNat o'.length := f2.2.2.2.1
          rw [m2]
          -- behind the CLAUSE
          have fin : ∀ (u : wS) (k'' c'' : Nat) (o'' : List Int32) (b : Bool), LSt S P N K k2 k'' c'' o'' u → LQ k2 x.2.2.2 u → u.1 k2 12 = 0 → (b = true ↔ o'.length < o''.length) → o'.length ≤ o''.length → k' ≤ k'' → k'' ≤ K → o''.length ≤ k'' → lcl S P N x = .inr (k'', c'', o'', x.2.2.2 ++ [(kdL (S x.1), x.2.2.1.length, o'.length, o''.length, b)]) → Tot ((wX4_read_j101 (wX4_read_h14 k2 (n' + 1)) k2 i (kdL (S x.1)) (Int32.ofNat x.2.2.1.length) (Int32.ofNat o'.length) u).bind fun s39 => wX4_read_j123 s39) (fun s' => LV S P N K k2 x s') := by
            intro u k'' c'' o'' b hu qu bu hb hlo hkk hkk2 hlen hcl
            unfold wX4_read_j101
            refine t_assoc (t_bind (t_and (addClause_E (l0 := x.2.2.1.length) (l1 := o'.length) (o := o'') (b := b) qu (by omega) hu.2.2.2.1 hb ⟨by omega, hlo, by omega⟩ kdL_3) addClause_A) (fun s26 h26 => ?_))
            obtain ⟨q26, a26⟩ := h26
            have w26 : LSt S P N K k2 k'' c'' o'' s26 := hu.qc h44 a26
            have b26 : s26.1 k2 12 = 0 := by rw [a26 k2 12 (bQc_n (by omega) (by omega))]; exact bu
            rw [take_E w26.1 hkk2, t_sbe]
            by_cases c3 : S k'' = 3
            · have hkK' : k'' < K := by
                by_cases q : k'' = K
                · rw [q, hS] at c3; exact absurd c3 (by decide)
                · omega
              rw [if_pos c3, if_pos hkK']
              dsimp only
              have h3 := w26.hr (j := k'' + 1) h44
              have st : lst S P N x = .inl (k'' + 1, c'', o'', x.2.2.2 ++ [(kdL (S x.1), x.2.2.1.length, o'.length, o''.length, b)]) := by
                unfold lst
                rw [hcl]
                dsimp only
                rw [if_pos c3]
              refine t_mono (ih (i := i + 1) (x := (k'' + 1, c'', o'', x.2.2.2 ++ [(kdL (S x.1), x.2.2.1.length, o'.length, o''.length, b)])) ⟨h3.1, q26.lr h44 h3.2, by rw [wupI_n (by omega)]; exact b26, hlb.snoc (by dsimp only; omega) (Nat.le_refl _)⟩ (by dsimp only; omega) (by dsimp only; omega) (by omega) (by dsimp only; omega) (by dsimp only; omega)) (fun s' hs => ?_)
              rcases hs with ⟨e, a, b⟩ | ⟨d, a, b⟩
              · exact Or.inl ⟨e, Ev.step st a, b⟩
              · exact Or.inr ⟨d, Ev.step st a, b⟩
            · rw [if_neg c3]
              dsimp only
              rw [read4_h14_0, t_sbe]
              unfold wX4_read_j123
              rw [sign_E w26.1 hkk2, t_sbe]
              by_cases c0 : S k'' = 0
              · rw [if_pos c0]
                refine t_some (Or.inr ⟨(k'', c'', o'', x.2.2.2 ++ [(kdL (S x.1), x.2.2.1.length, o'.length, o''.length, b)]), Ev.ret ?_, ⟨w26, q26, b26, hlb.snoc (by dsimp only; omega) (Nat.le_refl _)⟩, by dsimp only; omega⟩)
                unfold lst
                rw [hcl]
                dsimp only
                rw [if_neg c3, if_pos c0]
              · rw [if_neg c0]
                obtain ⟨r, e1, e2⟩ := w26.fail (x := 0) hkk2 hS (nf _ _ hkk2 (by decide) (by decide))
                rw [e1, t_sbe]
                refine t_some (Or.inl ⟨_, Ev.ret ?_, e2⟩)
                unfold lst
                rw [hcl]
                dsimp only
                rw [if_neg c3, if_neg c0]
          rw [take_E f2.1 f5, t_sbe]
          by_cases c19 : S k' = 19
          · have hkK' : k' < K := by
              by_cases q : k' = K
              · rw [q, hS] at c19; exact absurd c19 (by decide)
              · omega
            rw [if_pos c19, if_pos hkK']
            dsimp only
            rw [if_neg (by decide)]
            have h3 := f2.hr (j := k' + 1) h44
            refine t_assoc (t_bind (readTest_W h44 hS pb h3.1 (by omega) (by omega)) (fun s32 h32 => ?_))
            rcases h32 with ⟨e, g1, g2⟩ | ⟨k'', c'', o'', g1, g2, g3, g4, g5, g6, g7⟩
            · refine t_mono (j101_F h44 g2) (fun s' hs => Or.inl ⟨e, Ev.ret ?_, hs⟩)
              unfold lst lcl
              rw [if_pos cw, if_neg c12, sumV_eq f1]
              dsimp only
              rw [if_pos c19, testV_eq g1]
            · refine fin s32 k'' c'' o'' true g2 ((q2.lr h44 h3.2).lr h44 g3) (by rw [g3 k2 12 (bLR_n (by omega) (by omega) (by omega) (by omega)), wupI_n (by omega)]; exact b2) ⟨fun _ => g7, fun _ => rfl⟩ (by omega) (by omega) g5 (by omega) ?_
              unfold lcl
              rw [if_pos cw, if_neg c12, sumV_eq f1]
              dsimp only
              rw [if_pos c19, testV_eq g1]
          · rw [if_neg c19]
            dsimp only
            rw [if_pos rfl]
            refine fin s19 k' c' o' false f2 q2 b2 ⟨fun q => absurd q (by decide), fun q => absurd q (by omega)⟩ (Nat.le_refl _) (Nat.le_refl _) f5 (by omega) ?_
            unfold lcl
            rw [if_pos cw, if_neg c12, sumV_eq f1]
            dsimp only
            rw [if_neg c19]
    · rw [if_neg cw, t_sbe, if_pos rfl]
      refine bad 0 _ (by decide) (by decide) ?_
      unfold lcl
      rw [if_neg cw]
/-- from the tokens on -/
theorem read4_W (h44 : 44 ≤ k2) (ct : CT S P N K 0 s) (h0 : s.1 3 5 = 0) (hS : S K = 0) (pb : ∀ j, j ≤ K → 0 ≤ (P j).toInt ∧ (P j).toInt ≤ 400) : Tot (wX4_read k2 s) (fun s' => LV S P N K k2 (0, 0, [], []) s') := by
  have hK := ct.2.1.2
  unfold wX4_read wX3_clear
  show Tot ((wX4_read_h14 k2 wFuel 1 0 (wupI (wupI (wupI (wupI s 8 0 0) k2 1 0) k2 6 0) k2 12 0)).bind fun s39 => wX4_read_j123 s39) _
  refine read4_E h44 hS pb wFuel (x := (0, 0, [], [])) ⟨⟨ct.go ?_ ?_ ?_ ?_ ?_, ?_, ⟨?_, Nat.zero_le _⟩, ?_, fun i v hv => by cases hv⟩, ⟨⟨?_, Nat.zero_le _⟩, fun i v hv => by cases hv⟩, wup_same, fun i v hv => by cases hv⟩ (Nat.zero_le _) (Nat.le_refl _) (by decide) (by rw [t_i0]; dsimp only; omega) (by
    have e : wFuel = 1099511627776 := rfl
    dsimp only
    omega)
  · rw [wupI_n (by omega), wupI_n (by omega), wupI_n (by omega), wupI_n (by omega)]
  · rw [wupI_n (by omega), wupI_n (by omega), wupI_n (by omega), wupI_n (by omega)]
  · rw [wupI_n (by omega), wupI_n (by omega), wupI_n (by omega), wupI_n (by omega)]
  · rw [wupI_n (by omega), wupI_n (by omega), wupI_n (by omega), wupI_n (by omega)]
  · rw [wupI_n (by omega), wupI_n (by omega), wupI_n (by omega), wupI_n (by omega)]
  · rw [wupI_n (by omega), wupI_n (by omega), wupI_n (by omega), wupI_n (by omega)]; exact h0
  · rw [wupI_n (by omega), wupI_n (by omega), wupI_n (by omega), wup_same]; rfl
  · rw [wup_nb (by decide), wup_nb (by decide), wup_same]; rfl
  · rw [wup_nb (by decide), wup_same]; rfl
end LAWQ
