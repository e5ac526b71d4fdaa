section
/-! A LAW's text: what both sides read. -/
/-- a VALUE -/
noncomputable def vS (S P N : Nat → Int32) (k c : Nat) : Int32 ⊕ Int32 :=
  if S k = 2 then (if N k < 0 ∨ 99999 < N k then .inl (fl 1 (P k)) else if c = 60 then .inl (fl 3 (P k)) else .inr (100 + N k))
  else if S k < 23 ∨ 30 < S k then .inl (fl 0 (P k)) else if c = 60 then .inl (fl 3 (P k)) else .inr (S k)
noncomputable def wl (w : Int32) : List Int32 := if w = 0 then [] else [w]
noncomputable abbrev sC : Type := Nat × Nat × Int32 × List Int32
noncomputable abbrev sR : Type := Int32 ⊕ (Nat × Nat × List Int32)
/-- a SUM, behind its first VALUE -/
noncomputable def sst (S P N : Nat → Int32) (x : sC) : sC ⊕ sR :=
  if S x.1 = 8 ∨ S x.1 = 9 then (match vS S P N (x.1 + 1) x.2.1 with
    | .inl e => .inr (.inl e)
    | .inr v => .inl (x.1 + 2, x.2.1 + 1, x.2.2.1, x.2.2.2 ++ [v] ++ [S x.1]))
  else if S x.1 = 6 ∨ S x.1 = 7 then (match vS S P N (x.1 + 1) x.2.1 with
    | .inl e => .inr (.inl e)
    | .inr v => .inl (x.1 + 2, x.2.1 + 1, S x.1, x.2.2.2 ++ wl x.2.2.1 ++ [v]))
  else .inr (.inr (x.1, x.2.1, x.2.2.2 ++ wl x.2.2.1))
noncomputable def SumE (S P N : Nat → Int32) (k c : Nat) (o : List Int32) (r : sR) : Prop := (∃ e, vS S P N k c = .inl e ∧ r = .inl e) ∨ (∃ v, vS S P N k c = .inr v ∧ Ev (sst S P N) (k + 1, c + 1, 0, o ++ [v]) r)
theorem SumE.det {S P N : Nat → Int32} {k c : Nat} {o : List Int32} {r r' : sR} (h : SumE S P N k c o r) (g : SumE S P N k c o r') : r = r' := by
  rcases h with ⟨e, h1, h2⟩ | ⟨v, h1, h2⟩
  · rcases g with ⟨e', g1, g2⟩ | ⟨v', g1, g2⟩
    · rw [h1] at g1
      rw [h2, g2, Sum.inl.inj g1]
    · rw [h1] at g1; cases g1
  · rcases g with ⟨e', g1, g2⟩ | ⟨v', g1, g2⟩
    · rw [h1] at g1; cases g1
    · rw [h1] at g1
      obtain rfl := Sum.inr.inj g1
      exact h2.det g2
noncomputable def sumV (S P N : Nat → Int32) (k c : Nat) (o : List Int32) : sR := @Classical.epsilon sR ⟨.inl 0⟩ (fun r => SumE S P N k c o r)
theorem sumV_eq {S P N : Nat → Int32} {k c : Nat} {o : List Int32} {r : sR} (h : SumE S P N k c o r) : sumV S P N k c o = r := (Classical.epsilon_spec (p := fun r => SumE S P N k c o r) ⟨r, h⟩).det h
/-- only what a LAW's reading writes of its code -/
noncomputable def bLR (k2 k b : Nat) : Bool := (Nat.beq k 3 && (Nat.beq b 4 || Nat.beq b 5)) || ((Nat.beq k 8 && Nat.beq b 0) || ((Nat.beq k k2 && Nat.beq b 1) || Nat.beq k (k2 + 1)))
theorem bLR_n {k2 k b : Nat} (h1 : ¬ (k = 3 ∧ (b = 4 ∨ b = 5))) (h2 : ¬ (k = 8 ∧ b = 0)) (h3 : ¬ (k = k2 ∧ b = 1)) (h4 : k ≠ k2 + 1) : bLR k2 k b = false := by
  cases e : bLR k2 k b
  · rfl
  · exfalso
    simp only [bLR, Bool.or_eq_true, Bool.and_eq_true, Nat.beq_eq] at e
    omega
theorem bLR_p {k2 k b : Nat} (h : (k = 3 ∧ (b = 4 ∨ b = 5)) ∨ (k = 8 ∧ b = 0) ∨ (k = k2 ∧ b = 1) ∨ k = k2 + 1) : bLR k2 k b = true := by
  simp only [bLR, Bool.or_eq_true, Bool.and_eq_true, Nat.beq_eq]
  omega
/-- a sign of a LAW's code -/
noncomputable def okc (v : Int32) : Prop := (100 ≤ v.toInt ∧ v.toInt ≤ 100099) ∨ (20 ≤ v.toInt ∧ v.toInt ≤ 30) ∨ (6 ≤ v.toInt ∧ v.toInt ≤ 14)
/-- the code so far, what was counted -/
noncomputable def CK (k2 c : Nat) (o : List Int32) (s : wS) : Prop := ((s.1 8 0).toInt = c ∧ c ≤ 60) ∧ s.1 k2 1 = Int32.ofNat o.length ∧ ∀ i v, o[i]? = some v → s.1 (k2 + 1) i = v ∧ okc v
/-- a LAW's text is read, no fault yet -/
noncomputable def LSt (S P N : Nat → Int32) (K k2 k c : Nat) (o : List Int32) (s : wS) : Prop := CT S P N K k s ∧ s.1 3 5 = 0 ∧ CK k2 c o s
section LAWR
variable {S P N : Nat → Int32} {K k2 k c : Nat} {o : List Int32} {s : wS}
theorem CF.kk {e : Int32} {s' : wS} (h44 : 44 ≤ k2) (h : CF S P N K e s) (a : wA (fun k _ => Nat.beq k k2 || Nat.beq k (k2 + 1)) s s') : CF S P N K e s' := by
  have z : ∀ k b, k < 44 → s'.1 k b = s.1 k b := fun k b hk => a k b (by
    dsimp only
    rw [nq_false (by omega), nq_false (by omega)]
    rfl)
  exact h.go (funext fun b => z 4 b (by omega)) (funext fun b => z 5 b (by omega)) (funext fun b => z 6 b (by omega)) (funext fun b => z 3 b (by omega))
theorem put_T {v : Int32} : Tot (wX3_put k2 v s) (fun s' => wA (fun k _ => Nat.beq k k2 || Nat.beq k (k2 + 1)) s s') := by
  have h1 : ∀ b, (fun k (_ : Nat) => Nat.beq k k2 || Nat.beq k (k2 + 1)) (k2 + 1) b = true := fun b => by
    dsimp only
    rw [Nat.beq_refl, Bool.or_true]
  have h0 : ∀ b, (fun k (_ : Nat) => Nat.beq k k2 || Nat.beq k (k2 + 1)) k2 b = true := fun b => by
    dsimp only
    rw [Nat.beq_refl]
    rfl
  unfold wX3_put
  refine t_ite (fun _ => t_some wA.refl) (fun _ => t_ite (fun _ => t_some wA.refl) (fun c0 => t_ite (fun c1 => ?_) (fun _ => t_some wA.refl)))
  have a := t_ge c0
  have b := t_lt c1
  rw [t_i0] at a
  rw [show (400 : Int32).toInt = 400 from rfl] at b
  refine t_bind (t_stI (B := fun k _ => Nat.beq k k2 || Nat.beq k (k2 + 1)) (n := 400) a (by omega) h1) (fun s4 h4 => ?_)
  exact t_bind (t_pfI (B := fun k _ => Nat.beq k k2 || Nat.beq k (k2 + 1)) (h0 1)) (fun s5 h5 => t_some (h4.1.trans h5.1))
theorem put_F {e v : Int32} (h44 : 44 ≤ k2) (h : CF S P N K e s) : Tot (wX3_put k2 v s) (fun s' => CF S P N K e s') := t_mono put_T (fun _ a => h.kk h44 a)
theorem put_E {v : Int32} (h44 : 44 ≤ k2) (h : CK k2 c o s) (hv : ¬ v = 0) (hok : okc v) (hl : o.length < 400) : ∃ s', wX3_put k2 v s = some s' ∧ CK k2 c (o ++ [v]) s' ∧ wA (fun k b => (Nat.beq k k2 && Nat.beq b 1) || Nat.beq k (k2 + 1)) s s' := by
  obtain ⟨h1, h2, h3⟩ := h
  have el : (Int32.ofNat o.length).toInt = o.length := t_on (by omega)
  have en : (Int32.ofNat o.length).toNatClampNeg = o.length := t_nc (by omega)
  have e400 : (400 : Int32).toInt = 400 := rfl
  refine ⟨wupI (wupI s (k2 + 1) o.length v) k2 1 (Int32.ofNat (o.length + 1)), ?_, ⟨?_, ?_, fun i x hx => ?_⟩, ?_⟩
  · unfold wX3_put
    rw [if_neg hv, h2, if_neg (fun q => by have := t_lt q; rw [t_i0] at this; omega), if_pos (Int32.lt_iff_toInt_lt.2 (by omega)), wst_E (by omega) (by omega), t_sbe, en, wupI_n (by omega), h2]
    have : Int32.ofNat o.length + 1 = Int32.ofNat (o.length + 1) := Int32.toInt_inj.1 (by rw [t_p1 (by omega) (by omega), el, t_on (by omega)]; rfl)
    rw [this]
    rfl
  · rw [wupI_n (by omega), wupI_n (by omega)]; exact h1
  · rw [wup_same, List.length_append]; rfl
  · rw [wupI_n (by omega), wupI_k]
    by_cases c : i = o.length
    · subst c
      rw [updI_s]
      rw [List.getElem?_append_right (Nat.le_refl _), Nat.sub_self] at hx
      rw [← Option.some.inj hx]
      exact ⟨rfl, hok⟩
    · rw [updI_n c]
      have hi : i < o.length := by
        have := (List.getElem?_eq_some_iff.1 hx).1
        rw [List.length_append] at this
        have e1 : [v].length = 1 := rfl
        omega
      rw [List.getElem?_append_left hi] at hx
      exact h3 i x hx
  · refine (wA_I (B := fun k b => (Nat.beq k k2 && Nat.beq b 1) || Nat.beq k (k2 + 1)) ?_).trans (wA_I ?_)
    · rw [Nat.beq_refl, Bool.or_true]
    · rw [Nat.beq_refl]
      rfl
theorem LSt.ct (h : LSt S P N K k2 k c o s) : CT S P N K k s := h.1
theorem LSt.put {v : Int32} (h44 : 44 ≤ k2) (h : LSt S P N K k2 k c o s) (hok : okc v) (hl : o.length < 400) : Tot (wX3_put k2 v s) (fun s' => LSt S P N K k2 k c (o ++ [v]) s' ∧ wA (bLR k2) s s') := by
  obtain ⟨ct, h0, ck⟩ := h
  have hv : ¬ v = 0 := fun e => by unfold okc at hok; rw [e, t_i0] at hok; omega
  obtain ⟨s', e, ck', a⟩ := put_E h44 ck hv hok hl
  have z : ∀ k b, k < 44 → s'.1 k b = s.1 k b := fun k b hk => a k b (by
    dsimp only
    rw [nq_false (show k ≠ k2 by omega), nq_false (show k ≠ k2 + 1 by omega)]
    rfl)
  refine ⟨s', e, ⟨ct.go (funext fun b => z 4 b (by omega)) (funext fun b => z 5 b (by omega)) (funext fun b => z 6 b (by omega)) (z 3 3 (by omega)) (z 3 4 (by omega)), by rw [z 3 5 (by omega)]; exact h0, ck'⟩, a.mono (fun k b hb => ?_)⟩
  simp only [Bool.or_eq_true, Bool.and_eq_true, Nat.beq_eq] at hb
  exact bLR_p (by omega)
theorem LSt.putw {v : Int32} (h44 : 44 ≤ k2) (h : LSt S P N K k2 k c o s) (hw : v = 0 ∨ okc v) (hl : (o ++ wl v).length ≤ 400) : Tot (wX3_put k2 v s) (fun s' => LSt S P N K k2 k c (o ++ wl v) s' ∧ wA (bLR k2) s s') := by
  unfold wl at *
  by_cases c : v = 0
  · rw [if_pos c, List.append_nil]
    unfold wX3_put
    rw [if_pos c]
    exact t_some ⟨h, wA.refl⟩
  · rw [if_neg c] at hl ⊢
    rw [List.length_append] at hl
    have e1 : [v].length = 1 := rfl
    exact h.put h44 (hw.resolve_left c) (by omega)
theorem LSt.hr {j : Nat} (h44 : 44 ≤ k2) (h : LSt S P N K k2 k c o s) : LSt S P N K k2 j c o (hr s j) ∧ wA (bLR k2) s (hr s j) := by
  obtain ⟨ct, h0, h1, h2, h3⟩ := h
  refine ⟨⟨ct.hr, by rw [wup_nb (by decide)]; exact h0, by rw [wupI_n (by decide)]; exact h1, by rw [wupI_n (by omega)]; exact h2, by rw [wupI_n (by omega)]; exact h3⟩, wA_I (bLR_p (Or.inl ⟨rfl, Or.inl rfl⟩))⟩
theorem LSt.fail {x : Int32} (h : LSt S P N K k2 k c o s) (hk : k ≤ K) (hS : S K = 0) (hf : ¬ fl x (P k) = 0) : ∃ r, wX9_fail x s = some r ∧ CF S P N K (fl x (P k)) r := by
  obtain ⟨r, e1, e2, -⟩ := h.1.fault hk h.2.1 hS hf
  exact ⟨r, e1, e2⟩
/-- behind a fault nothing is read -/
theorem readValue_F {e : Int32} (h : CF S P N K e s) : wX4_readValue k2 s = some s := by
  unfold wX4_readValue
  rw [h.sign, t_sbe, if_neg (by decide)]
  unfold wX4_readValue_j15
  rw [if_pos rfl, if_pos (by decide)]
  unfold wX4_readValue_j34
  rw [h.fail]
  rfl
theorem readValue_E (h44 : 44 ≤ k2) (h : LSt S P N K k2 k c o s) (hk : k ≤ K) (hS : S K = 0) (pb : ∀ j, j ≤ K → 0 ≤ (P j).toInt ∧ (P j).toInt ≤ 400) (hl : o.length ≤ k) : Tot (wX4_readValue k2 s) (fun s' => (∃ e, vS S P N k c = .inl e ∧ CF S P N K e s') ∨ (∃ v, vS S P N k c = .inr v ∧ k < K ∧ ¬ v = 0 ∧ LSt S P N K k2 (k + 1) (c + 1) (o ++ [v]) s' ∧ wA (bLR k2) s s')) := by
  have hK := h.1.2.1.2
  obtain ⟨⟨hc, hc60⟩, -⟩ := h.2.2
  have nf : ∀ x : Int32, 0 ≤ x.toInt → x.toInt ≤ 7 → ¬ fl x (P k) = 0 := fun x a b => fl_0 a b (pb k hk).1 (pb k hk).2
  have bad : ∀ x : Int32, 0 ≤ x.toInt → x.toInt ≤ 7 → vS S P N k c = .inl (fl x (P k)) → Tot ((wX9_fail x s).bind fun s7 => some s7) (fun s' => (∃ e, vS S P N k c = .inl e ∧ CF S P N K e s') ∨ (∃ v, vS S P N k c = .inr v ∧ k < K ∧ ¬ v = 0 ∧ LSt S P N K k2 (k + 1) (c + 1) (o ++ [v]) s' ∧ wA (bLR k2) s s')) := by
    intro x a b hv
    obtain ⟨r, e1, e2⟩ := h.fail hk hS (nf x a b)
    rw [e1]
    exact t_some (Or.inl ⟨_, hv, e2⟩)
  have h60 : (s.1 8 0 < 60) ↔ ¬ c = 60 := by
    rw [Int32.lt_iff_toInt_lt, hc, show (60 : Int32).toInt = 60 from rfl]
    omega
  have good : ∀ v : Int32, vS S P N k c = .inr v → ¬ v = 0 → okc v → k < K → Tot (wX4_readValue_j111 k2 v (wupI s 8 0 (s.1 8 0 + 1))) (fun s' => (∃ e, vS S P N k c = .inl e ∧ CF S P N K e s') ∨ (∃ v, vS S P N k c = .inr v ∧ k < K ∧ ¬ v = 0 ∧ LSt S P N K k2 (k + 1) (c + 1) (o ++ [v]) s' ∧ wA (bLR k2) s s')) ∨ c = 60 := by
    intro v hv v0 vok hkK
    by_cases c6 : c = 60
    · exact Or.inr c6
    · left
      have e1 : (s.1 8 0 + 1).toInt = c + 1 := by rw [t_p1 (by omega) (by omega), hc]
      have h1 : LSt S P N K k2 k (c + 1) o (wupI s 8 0 (s.1 8 0 + 1)) := by
        obtain ⟨ct, h0, q1, q2, q3⟩ := h
        refine ⟨ct.go (wupI_n (by decide)) (wupI_n (by decide)) (wupI_n (by decide)) (by rw [wupI_n (by decide)]) (by rw [wupI_n (by decide)]), by rw [wupI_n (by decide)]; exact h0, ⟨by rw [wup_same]; exact e1, by omega⟩, by rw [wupI_n (by omega)]; exact q2, by rw [wupI_n (by omega)]; exact q3⟩
      unfold wX4_readValue_j111
      refine t_bind (h1.put h44 vok (by omega)) (fun s15 h15 => ?_)
      rw [skip_E h15.1.1 hk, if_pos hkK]
      have h2 := h15.1.hr (j := k + 1) h44
      exact t_some (Or.inr ⟨v, hv, hkK, v0, h2.1, ((wA_I (bLR_p (Or.inr (Or.inl ⟨rfl, rfl⟩)))).trans h15.2).trans h2.2⟩)
  have lt_K : ¬ S k = 0 → k < K := fun n => by
    by_cases q : k = K
    · rw [q, hS] at n; exact absurd rfl n
    · omega
  unfold wX4_readValue
  rw [sign_E h.1 hk, t_sbe]
  have e23 : (23 : Int32).toInt = 23 := rfl
  have e30 : (30 : Int32).toInt = 30 := rfl
  by_cases c2 : S k = 2
  · rw [if_pos c2]
    unfold wX4_readValue_j15
    rw [if_neg (by decide)]
    unfold wX4_readValue_j42
    rw [if_neg (by decide), number_E h.1 hk, t_sbe, isOutside_E]
    have e1 : (100000 : Int32).toInt = 100000 := rfl
    by_cases cN : N k < 0 ∨ 99999 < N k
    · rw [if_neg (fun q => by
        rcases cN with a | a
        · have := t_lt a; rw [t_i0] at this; omega
        · have := t_lt a; rw [show (99999 : Int32).toInt = 99999 from rfl] at this; omega), t_sbe, if_neg (by decide)]
      exact bad 1 (by decide) (by decide) (by unfold vS; rw [if_pos c2, if_pos cN])
    · have n0 := t_ge (fun q => cN (Or.inl q))
      have n1 := t_ge (fun q => cN (Or.inr q))
      rw [t_i0] at n0
      rw [show (99999 : Int32).toInt = 99999 from rfl] at n1
      rw [if_pos (by omega), t_sbe, if_pos rfl]
      unfold wX4_readValue_j67
      by_cases c6 : c = 60
      · rw [if_neg (fun q => (h60.1 q) c6)]
        exact bad 3 (by decide) (by decide) (by unfold vS; rw [if_pos c2, if_neg cN, if_pos c6])
      · rw [if_pos (h60.2 c6)]
        have ev : (100 + N k).toInt = 100 + (N k).toInt := by rw [t_add (by rw [show (100 : Int32).toInt = 100 from rfl]; omega) (by rw [show (100 : Int32).toInt = 100 from rfl]; omega)]; rfl
        have v0 : ¬ 100 + N k = 0 := fun q => by rw [q, t_i0] at ev; omega
        show Tot (if (1 : Int32) = 0 then wX4_readValue_j111 k2 (S k) (wupI s 8 0 (s.1 8 0 + 1)) else ((wX9_number (wupI s 8 0 (s.1 8 0 + 1))).bind fun t20 => wX4_readValue_j111 k2 (100 + t20) (wupI s 8 0 (s.1 8 0 + 1)))) _
        rw [if_neg (by decide), number_E (h.1.go (wupI_n (by decide)) (wupI_n (by decide)) (wupI_n (by decide)) (by rw [wupI_n (by decide)]) (by rw [wupI_n (by decide)])) hk, t_sbe]
        exact (good (100 + N k) (by unfold vS; rw [if_pos c2, if_neg cN, if_neg c6]) v0 (Or.inl (by omega)) (lt_K (by rw [c2]; decide))).resolve_right c6
  · rw [if_neg c2]
    unfold wX4_readValue_j15
    rw [if_pos rfl]
    unfold wX4_readValue_j34
    by_cases ca : S k < 23
    · rw [if_pos ca]
      exact bad 0 (by decide) (by decide) (by unfold vS; rw [if_neg c2, if_pos (Or.inl ca)])
    · rw [if_neg ca]
      by_cases cb : 30 < S k
      · rw [if_pos cb]
        exact bad 0 (by decide) (by decide) (by unfold vS; rw [if_neg c2, if_pos (Or.inr cb)])
      · rw [if_neg cb]
        unfold wX4_readValue_j42
        rw [if_pos rfl]
        unfold wX4_readValue_j67
        by_cases c6 : c = 60
        · rw [if_neg (fun q => (h60.1 q) c6)]
          exact bad 3 (by decide) (by decide) (by unfold vS; rw [if_neg c2, if_neg (fun q => q.elim ca cb), if_pos c6])
        · rw [if_pos (h60.2 c6)]
          have v0 : ¬ S k = 0 := fun q => ca (by rw [q]; decide)
          show Tot (if (0 : Int32) = 0 then wX4_readValue_j111 k2 (S k) (wupI s 8 0 (s.1 8 0 + 1)) else ((wX9_number (wupI s 8 0 (s.1 8 0 + 1))).bind fun t20 => wX4_readValue_j111 k2 (100 + t20) (wupI s 8 0 (s.1 8 0 + 1)))) _
          rw [if_pos rfl]
          exact (good (S k) (by unfold vS; rw [if_neg c2, if_neg (fun q => q.elim ca cb), if_neg c6]) v0 (Or.inr (Or.inl (by have a := t_ge ca; have b := t_ge cb; rw [e23] at a; rw [e30] at b; omega))) (lt_K v0)).resolve_right c6
end LAWR
end
section
/-! The class reads a SUM. -/
section LAWS
variable {S P N : Nat → Int32} {K k2 k c : Nat} {o : List Int32} {s : wS}
/-- behind a SUM's loop -/
noncomputable abbrev sfin (k2 : Nat) (z : (Int32 × wS) ⊕ (Int32 × wS)) : Option wS := match z with
  | .inl (t27, s28) => wX4_readSum_j95 k2 t27 s28
  | .inr (t34, s35) => wX4_readSum_j95 k2 t34 s35
theorem j95_F {e w : Int32} (h44 : 44 ≤ k2) (h : CF S P N K e s) : Tot (wX4_readSum_j95 k2 w s) (fun s' => CF S P N K e s') := by
  unfold wX4_readSum_j95
  exact t_bind (put_F h44 h) (fun s' hs => t_some hs)
theorem h11_F {e w i : Int32} {n : Nat} (h44 : 44 ≤ k2) (h : CF S P N K e s) : Tot ((wX4_readSum_h11 k2 (n + 1) w i s).bind (sfin k2)) (fun s' => CF S P N K e s') := by
  rw [wX4_readSum_h11]
  by_cases c : i < 400
  · rw [if_pos c, h.sign, t_sbe, if_pos (by decide), t_sbe]
    exact j95_F h44 h
  · rw [if_neg c, t_sbe]
    exact j95_F h44 h
theorem readSum_F {e : Int32} (h44 : 44 ≤ k2) (h : CF S P N K e s) : Tot (wX4_readSum k2 s) (fun s' => CF S P N K e s') := by
  unfold wX4_readSum
  rw [readValue_F h, t_sbe]
  have e : wFuel = 1099511627775 + 1 := rfl
  rw [e]
  exact h11_F h44 h
theorem wl_len {w : Int32} : (wl w).length ≤ 1 := by
  unfold wl
  by_cases c : w = 0
  · rw [if_pos c]; exact Nat.zero_le _
  · rw [if_neg c]; exact Nat.le_refl _
theorem wl_1 {w : Int32} (h : ¬ w = 0) : wl w = [w] := by
  unfold wl
  rw [if_neg h]
/-- what a SUM's reading comes to -/
noncomputable def SQ (S P N : Nat → Int32) (K k2 k c : Nat) (l0 : Nat) (R : sR → Prop) (s s' : wS) : Prop := (∃ e, R (.inl e) ∧ CF S P N K e s') ∨ (∃ k' c' o', R (.inr (k', c', o')) ∧ LSt S P N K k2 k' c' o' s' ∧ wA (bLR k2) s s' ∧ k ≤ k' ∧ k' ≤ K ∧ o'.length + k ≤ l0 + k' ∧ l0 ≤ o'.length)
theorem h11_E (h44 : 44 ≤ k2) (hS : S K = 0) (pb : ∀ j, j ≤ K → 0 ≤ (P j).toInt ∧ (P j).toInt ≤ 400) : ∀ (n : Nat) {k c : Nat} {w i : Int32} {o : List Int32} {s : wS}, LSt S P N K k2 k c o s → (w = 0 ∨ okc w) → k ≤ K → (o ++ wl w).length ≤ k → 0 ≤ i.toInt → i.toInt ≤ k → K - k < n → Tot ((wX4_readSum_h11 k2 n w i s).bind (sfin k2)) (fun s' => SQ S P N K k2 k c (o ++ wl w).length (Ev (sst S P N) (k, c, w, o)) s s') := by
  intro n
  induction n with
  | zero => intro k c w i o s _ _ _ _ _ _ hm; exact absurd hm (by omega)
  | succ n ih =>
    intro k c w i o s h hw hk hl i0 hi hm
    have hK := h.1.2.1.2
    have lw := wl_len (w := w)
    have lo : (o ++ wl w).length = o.length + (wl w).length := List.length_append
    have e6 : (6 : Int32).toInt = 6 := rfl
    have e9 : (9 : Int32).toInt = 9 := rfl
    -- the end
    have stop : ¬ (S k = 8 ∨ S k = 9) → ¬ (S k = 6 ∨ S k = 7) → Tot (wX4_readSum_j95 k2 w s) (fun s' => SQ S P N K k2 k c (o ++ wl w).length (Ev (sst S P N) (k, c, w, o)) s s') := by
      intro n8 n6
      unfold wX4_readSum_j95
      refine t_bind (h.putw h44 hw (by omega)) (fun s' hs => t_some (Or.inr ⟨k, c, o ++ wl w, Ev.ret ?_, hs.1, hs.2, Nat.le_refl _, hk, Nat.le_refl _, Nat.le_refl _⟩))
      unfold sst
      dsimp only
      rw [if_neg n8, if_neg n6]
    rw [wX4_readSum_h11]
    by_cases c4 : i < 400
    · rw [if_pos c4, sign_E h.1 hk, t_sbe]
      by_cases c6 : S k < 6
      · have := t_lt c6
        rw [if_pos c6, t_sbe]
        exact stop (fun q => by rcases q with q | q <;> rw [q] at this <;> exact absurd this (by decide)) (fun q => by rcases q with q | q <;> rw [q] at this <;> exact absurd this (by decide))
      · rw [if_neg c6]
        by_cases c9 : 9 < S k
        · have := t_lt c9
          rw [if_pos c9, t_sbe]
          exact stop (fun q => by rcases q with q | q <;> rw [q] at this <;> exact absurd this (by decide)) (fun q => by rcases q with q | q <;> rw [q] at this <;> exact absurd this (by decide))
        · rw [if_neg c9]
          have g6 := t_ge c6
          have g9 := t_ge c9
          rw [e6] at g6
          rw [e9] at g9
          have hkK : k < K := by
            by_cases q : k = K
            · rw [q, hS, t_i0] at g6; omega
            · omega
          rw [skip_E h.1 hk, if_pos hkK, t_sbe]
          have h1 := h.hr (j := k + 1) h44
          have ei := t_p1 (x := i) i0 (by omega)
          obtain ⟨n', rfl⟩ : ∃ n', n = n' + 1 := ⟨n - 1, by omega⟩
          by_cases c89 : S k = 8 ∨ S k = 9
          · have mul : Tot ((wX4_readSum_j60 (wX4_readSum_h11 k2 (n' + 1)) k2 w i (S k) (hr s (k + 1))).bind (sfin k2)) (fun s' => SQ S P N K k2 k c (o ++ wl w).length (Ev (sst S P N) (k, c, w, o)) s s') := by
              unfold wX4_readSum_j60
              obtain ⟨s14, e14, h14⟩ := readValue_E h44 h1.1 (by omega) hS pb (by omega)
              rw [e14, t_sbe]
              rcases h14 with ⟨e, v1, v2⟩ | ⟨v, v1, v2, v3, v4, v5⟩
              · refine t_assoc (t_bind (put_F h44 v2) (fun s17 h17 => ?_))
                unfold wX4_readSum_j89
                refine t_mono (h11_F h44 h17) (fun s' hs => Or.inl ⟨e, Ev.ret ?_, hs⟩)
                unfold sst
                dsimp only
                rw [if_pos c89, v1]
              · have l1 : (o ++ [v]).length = o.length + 1 := by rw [List.length_append]; rfl
                have Sk0 : ¬ S k = 0 := fun q => by rw [q, t_i0] at g6; omega
                refine t_assoc (t_bind (v4.put h44 (Or.inr (Or.inr (by omega))) (by omega)) (fun s17 h17 => ?_))
                unfold wX4_readSum_j89
                have l2 : (o ++ [v] ++ [S k]).length = o.length + 2 := by rw [List.length_append, l1]; rfl
                have l3 : (o ++ [v] ++ [S k] ++ wl w).length = o.length + 2 + (wl w).length := by rw [List.length_append, l2]
                have st : sst S P N (k, c, w, o) = .inl (k + 2, c + 1, w, o ++ [v] ++ [S k]) := by
                  unfold sst
                  dsimp only
                  rw [if_pos c89, v1]
                refine t_mono (ih (k := k + 2) (c := c + 1) (w := w) (o := o ++ [v] ++ [S k]) h17.1 hw (by omega) (by omega) (by omega) (by omega) (by omega)) (fun s' hs => ?_)
                rcases hs with ⟨e, a, b⟩ | ⟨k', c', o', a, b, d, f1, f2, f3, f4⟩
                · exact Or.inl ⟨e, Ev.step st a, b⟩
                · exact Or.inr ⟨k', c', o', Ev.step st a, b, ((h1.2.trans v5).trans h17.2).trans d, by omega, f2, by omega, by omega⟩
            by_cases c8 : S k = 8
            · rw [if_pos c8]
              exact mul
            · rw [if_neg c8, if_pos (c89.resolve_left c8)]
              exact mul
          · rw [if_neg (fun q => c89 (Or.inl q)), if_neg (fun q => c89 (Or.inr q))]
            have c67 : S k = 6 ∨ S k = 7 := by
              have n8 : (S k).toInt ≠ 8 := fun q => c89 (Or.inl (Int32.toInt_inj.1 q))
              have n9 : (S k).toInt ≠ 9 := fun q => c89 (Or.inr (Int32.toInt_inj.1 q))
              by_cases q : (S k).toInt = 6
              · exact Or.inl (Int32.toInt_inj.1 q)
              · exact Or.inr (Int32.toInt_inj.1 (by show _ = (7 : Int); omega))
            have Sk0 : ¬ S k = 0 := fun q => by rw [q, t_i0] at g6; omega
            refine t_assoc (t_bind (h1.1.putw h44 (v := w) hw (by omega)) (fun s21 h21 => ?_))
            obtain ⟨s24, e24, h24⟩ := readValue_E h44 h21.1 (by omega) hS pb (by omega)
            rw [e24, t_sbe]
            unfold wX4_readSum_j89
            rcases h24 with ⟨e, v1, v2⟩ | ⟨v, v1, v2, v3, v4, v5⟩
            · refine t_mono (h11_F h44 v2) (fun s' hs => Or.inl ⟨e, Ev.ret ?_, hs⟩)
              unfold sst
              dsimp only
              rw [if_neg c89, if_pos c67, v1]
            · have l1 : (o ++ wl w ++ [v]).length = (o ++ wl w).length + 1 := by rw [List.length_append]; rfl
              have l3 : (o ++ wl w ++ [v] ++ wl (S k)).length = (o ++ wl w).length + 2 := by rw [List.length_append, l1, wl_1 Sk0]; rfl
              have st : sst S P N (k, c, w, o) = .inl (k + 2, c + 1, S k, o ++ wl w ++ [v]) := by
                unfold sst
                dsimp only
                rw [if_neg c89, if_pos c67, v1]
              refine t_mono (ih (k := k + 2) (c := c + 1) (w := S k) (o := o ++ wl w ++ [v]) v4 (Or.inr (Or.inr (Or.inr (by omega)))) (by omega) (by omega) (by omega) (by omega) (by omega)) (fun s' hs => ?_)
              rcases hs with ⟨e, a, b⟩ | ⟨k', c', o', a, b, d, f1, f2, f3, f4⟩
              · exact Or.inl ⟨e, Ev.step st a, b⟩
              · exact Or.inr ⟨k', c', o', Ev.step st a, b, ((h1.2.trans h21.2).trans v5).trans d, by omega, f2, by omega, by omega⟩
    · have := t_ge c4
      rw [show (400 : Int32).toInt = 400 from rfl] at this
      obtain rfl : k = K := by omega
      rw [if_neg c4, t_sbe]
      exact stop (fun q => by rcases q with q | q <;> rw [hS] at q <;> exact absurd q (by decide)) (fun q => by rcases q with q | q <;> rw [hS] at q <;> exact absurd q (by decide))
theorem readSum_E (h44 : 44 ≤ k2) (hS : S K = 0) (pb : ∀ j, j ≤ K → 0 ≤ (P j).toInt ∧ (P j).toInt ≤ 400) (h : LSt S P N K k2 k c o s) (hk : k ≤ K) (hl : o.length ≤ k) : Tot (wX4_readSum k2 s) (fun s' => SQ S P N K k2 (k + 1) c (o.length + 1) (SumE S P N k c o) s s') := by
  have hK := h.1.2.1.2
  unfold wX4_readSum
  obtain ⟨s2, e2, h2⟩ := readValue_E h44 h hk hS pb hl
  rw [e2, t_sbe]
  rcases h2 with ⟨e, v1, v2⟩ | ⟨v, v1, v2, v3, v4, v5⟩
  · have ef : wFuel = 1099511627775 + 1 := rfl
    rw [ef]
    exact t_mono (h11_F h44 v2) (fun s' hs => Or.inl ⟨e, Or.inl ⟨e, v1, rfl⟩, hs⟩)
  · have l1 : (o ++ [v]).length = o.length + 1 := by rw [List.length_append]; rfl
    have w0 : wl 0 = [] := rfl
    have l2 : (o ++ [v] ++ wl 0).length = o.length + 1 := by rw [w0, List.append_nil, l1]
    refine t_mono (h11_E h44 hS pb wFuel (k := k + 1) (c := c + 1) (w := 0) (i := 0) (o := o ++ [v]) v4 (Or.inl rfl) (by omega) (by omega) (by decide) (by rw [t_i0]; omega) (by
      have e : wFuel = 1099511627776 := rfl
      omega)) (fun s' hs => ?_)
    rw [l2] at hs
    rcases hs with ⟨e, a, b⟩ | ⟨k', c', o', a, b, d, f1, f2, f3, f4⟩
    · exact Or.inl ⟨e, Or.inr ⟨v, v1, a⟩, b⟩
    · exact Or.inr ⟨k', c', o', Or.inr ⟨v, v1, a⟩, b, v5.trans d, f1, f2, f3, f4⟩
end LAWS
end
section
/-! A TEST: what both sides read; the class. -/
noncomputable def stC (x : Int32) : Nat := if x = 20 then 1 else if x = 21 then 2 else if x = 22 then 3 else 0
noncomputable def stl (t : Nat) : List Int32 → List Int32 → List Int32 × List Int32
  | [], o => ([], o)
  | x :: q, o => if t ≤ stC x then stl t q (o ++ [x]) else (x :: q, o)
noncomputable def deep : List Int32 → Nat
  | [] => 0
  | x :: q => (if x = 22 ∨ x = 4 then 1 else 0) + deep q
noncomputable abbrev tC : Type := Bool × List Int32 × Nat × Nat × List Int32
noncomputable def tst (S P N : Nat → Int32) (x : tC) : tC ⊕ sR :=
  if x.1 = true then (if S x.2.2.1 = 22 ∨ S x.2.2.1 = 4 then (if deep x.2.1 = 10 then .inr (.inl (fl 2 (P x.2.2.1))) else .inl (true, S x.2.2.1 :: x.2.1, x.2.2.1 + 1, x.2.2.2.1, x.2.2.2.2))
    else (match sumV S P N x.2.2.1 x.2.2.2.1 x.2.2.2.2 with
      | .inl e => .inr (.inl e)
      | .inr y => if S y.1 < 10 ∨ 14 < S y.1 then .inr (.inl (fl 0 (P y.1))) else if y.2.1 = 60 then .inr (.inl (fl 3 (P y.1))) else (match sumV S P N (y.1 + 1) (y.2.1 + 1) y.2.2 with
        | .inl e => .inr (.inl e)
        | .inr z => .inl (false, (stl 3 x.2.1 (z.2.2 ++ [S y.1])).1, z.1, z.2.1, (stl 3 x.2.1 (z.2.2 ++ [S y.1])).2))))
  else (if S x.2.2.1 = 5 ∧ 4 ∈ x.2.1 then .inl (false, (stl 3 (stl 1 x.2.1 x.2.2.2.2).1.tail (stl 1 x.2.1 x.2.2.2.2).2).1, x.2.2.1 + 1, x.2.2.2.1, (stl 3 (stl 1 x.2.1 x.2.2.2.2).1.tail (stl 1 x.2.1 x.2.2.2.2).2).2)
    else if S x.2.2.1 = 21 then .inl (true, 21 :: (stl 2 x.2.1 x.2.2.2.2).1, x.2.2.1 + 1, x.2.2.2.1, (stl 2 x.2.1 x.2.2.2.2).2)
    else if S x.2.2.1 = 20 then .inl (true, 20 :: (stl 1 x.2.1 x.2.2.2.2).1, x.2.2.1 + 1, x.2.2.2.1, (stl 1 x.2.1 x.2.2.2.2).2)
    else if 4 ∈ x.2.1 then .inr (.inl (fl 0 (P x.2.2.1))) else .inr (.inr (x.2.2.1, x.2.2.2.1, (stl 1 x.2.1 x.2.2.2.2).2)))
theorem stl_app {t : Nat} {q : List Int32} : ∀ {a o : List Int32}, (∀ x, x ∈ a → t ≤ stC x) → stl t (a ++ q) o = stl t q (o ++ a) := by
  intro a
  induction a with
  | nil => intro o _; rw [List.append_nil]; rfl
  | cons x a ih =>
    intro o h
    show (if t ≤ stC x then stl t (a ++ q) (o ++ [x]) else (x :: (a ++ q), o)) = _
    rw [if_pos (h x (List.mem_cons_self)), ih (fun y hy => h y (List.mem_cons_of_mem _ hy)), List.append_assoc]
    rfl
theorem stl_stop {t : Nat} {x : Int32} {q o : List Int32} (h : stC x < t) : stl t (x :: q) o = (x :: q, o) := by
  show (if t ≤ stC x then stl t q (o ++ [x]) else (x :: q, o)) = _
  rw [if_neg (by omega)]
noncomputable def bot (q : List Int32) : Prop := q = [] ∨ ∃ p, q = 4 :: p
theorem stl_bot {t : Nat} {q o : List Int32} (ht : 1 ≤ t) (h : bot q) : stl t q o = (q, o) := by
  rcases h with rfl | ⟨p, rfl⟩
  · rfl
  · exact stl_stop (by rw [show stC 4 = 0 from rfl]; omega)
theorem deep_app {q : List Int32} : ∀ {a : List Int32}, (∀ x, x ∈ a → x = 20 ∨ x = 21) → deep (a ++ q) = deep q := by
  intro a
  induction a with
  | nil => intro _; rfl
  | cons x a ih =>
    intro h
    show (if x = 22 ∨ x = 4 then 1 else 0) + deep (a ++ q) = _
    rw [ih (fun y hy => h y (List.mem_cons_of_mem _ hy)), if_neg (fun e => ?_), Nat.zero_add]
    rcases h x (List.mem_cons_self) with r | r <;> rw [r] at e <;> exact absurd e (by decide)
/-- what waits: and, or -/
noncomputable def tau (p : Bool) (w : Int32) : List Int32 := (if p = true then [21] else []) ++ (if w = 0 then [] else [20])
theorem tau_m {p : Bool} {w x : Int32} (h : x ∈ tau p w) : x = 20 ∨ x = 21 := by
  unfold tau at h
  rcases List.mem_append.1 h with h | h
  · by_cases c : p = true
    · rw [if_pos c] at h; exact Or.inr (List.mem_singleton.1 h)
    · rw [if_neg c] at h; cases h
  · by_cases c : w = 0
    · rw [if_pos c] at h; cases h
    · rw [if_neg c] at h; exact Or.inl (List.mem_singleton.1 h)
theorem st_20 {x : Int32} (h : x = 20 ∨ x = 21) : 1 ≤ stC x := by
  rcases h with rfl | rfl <;> decide
theorem tau_2 {p : Bool} {w : Int32} {q o : List Int32} (hq : bot q) : stl 2 (tau p w ++ q) o = (tau false w ++ q, o ++ (if p = true then [21] else [])) := by
  have z : stl 2 (tau false w ++ q) (o ++ (if p = true then [21] else [])) = (tau false w ++ q, o ++ (if p = true then [21] else [])) := by
    unfold tau
    by_cases c : w = 0
    · rw [if_pos c]
      exact stl_bot (by decide) hq
    · rw [if_neg c]
      exact stl_stop (by decide)
  rw [← z]
  have e : tau p w ++ q = (if p = true then [21] else []) ++ (tau false w ++ q) := by
    unfold tau
    rw [List.append_assoc]
    rfl
  rw [e, stl_app (fun x hx => ?_)]
  by_cases c : p = true
  · rw [if_pos c] at hx
    rw [List.mem_singleton.1 hx]
    decide
  · rw [if_neg c] at hx; cases hx
theorem tau_1 {p : Bool} {w : Int32} {q o : List Int32} (hq : bot q) : stl 1 (tau p w ++ q) o = (q, o ++ tau p w) := by
  rw [stl_app (fun x hx => st_20 (tau_m hx)), stl_bot (by decide) hq]
section LAWT
variable {S P N : Nat → Int32} {K k2 k c : Nat} {o : List Int32} {s : wS}
/-- what a FACT comes to -/
noncomputable def FQ (S P N : Nat → Int32) (K k2 A k c : Nat) (o : List Int32) (s s' : wS) : Prop := (∃ e, CF S P N K e s' ∧ ∀ q, deep q = A → Ev (tst S P N) (true, q, k, c, o) (.inl e)) ∨ (∃ k' c' o', LSt S P N K k2 k' c' o' s' ∧ wA (bLR k2) s s' ∧ (k < k' ∧ k' ≤ K ∧ o'.length + k ≤ o.length + k' ∧ o.length < o'.length) ∧ ∀ q r, deep q = A → Ev (tst S P N) (false, (stl 3 q o').1, k', c', (stl 3 q o').2) r → Ev (tst S P N) (true, q, k, c, o) r)
/-- what a TEST comes to -/
noncomputable def TQ (S P N : Nat → Int32) (K k2 A k c : Nat) (o : List Int32) (b : Bool) (a0 : List Int32) (s s' : wS) : Prop := (∃ e, CF S P N K e s' ∧ ∀ q, bot q → deep q = A → Ev (tst S P N) (b, a0 ++ q, k, c, o) (.inl e)) ∨ (∃ k' c' o' a o1, LSt S P N K k2 k' c' o' s' ∧ wA (bLR k2) s s' ∧ (k ≤ k' ∧ k' ≤ K ∧ o'.length + k ≤ (o ++ a0).length + k' ∧ (o ++ a0).length ≤ o'.length) ∧ (¬ S k' = 20 ∧ ¬ S k' = 21) ∧ (∀ x, x ∈ a → x = 20 ∨ x = 21) ∧ o' = o1 ++ a ∧ ∀ q r, bot q → deep q = A → Ev (tst S P N) (false, a ++ q, k', c', o1) r → Ev (tst S P N) (b, a0 ++ q, k, c, o) r)
theorem j82_F {e w : Int32} {q : Nat → Int32 → wS → Option wS} (h44 : 44 ≤ k2) (h : CF S P N K e s) : Tot (wX4_readTest_j82 q k2 w s) (fun s' => CF S P N K e s') := by
  unfold wX4_readTest_j82
  exact t_ite (fun _ => t_some h) (fun _ => t_bind (put_F h44 h) (fun s' hs => t_some hs))
theorem h13_F {e w i a : Int32} {q : Nat → Int32 → wS → Option wS} {n : Nat} (h44 : 44 ≤ k2) (h : CF S P N K e s) : Tot ((wX4_readTest_h13 q k2 a (n + 1) w i s).bind fun (t27, s28) => wX4_readTest_j82 q k2 t27 s28) (fun s' => CF S P N K e s') := by
  rw [wX4_readTest_h13]
  by_cases c : i < 400
  · rw [if_pos c, h.take (by decide), t_sbe]
    dsimp only
    rw [if_pos rfl, h.take (by decide), t_sbe]
    dsimp only
    rw [if_pos rfl, t_sbe]
    exact j82_F h44 h
  · rw [if_neg c, t_sbe]
    exact j82_F h44 h
theorem h13_E {A : Nat} {a : Int32} {q : Nat → Int32 → wS → Option wS} (h44 : 44 ≤ k2) (hS : S K = 0) (hq : ∀ {k c : Nat} {o : List Int32} {s : wS}, LSt S P N K k2 k c o s → k ≤ K → o.length ≤ k → Tot (q k2 a s) (fun s' => FQ S P N K k2 A k c o s s')) : ∀ (n : Nat) {k c : Nat} {p : Bool} {w i : Int32} {o o1 : List Int32} {s : wS}, LSt S P N K k2 k c o s → k ≤ K → o = o1 ++ (if p = true then [21] else []) → (o1 ++ tau p w).length ≤ k → 0 ≤ i.toInt → i.toInt ≤ k → K - k + 1 < n → Tot ((wX4_readTest_h13 q k2 a n w i s).bind fun (t27, s28) => wX4_readTest_j82 q k2 t27 s28) (fun s' => TQ S P N K k2 A k c o1 false (tau p w) s s') := by
  intro n
  induction n with
  | zero => intro k c p w i o o1 s _ _ _ _ _ _ hm; exact absurd hm (by omega)
  | succ n ih =>
    intro k c p w i o o1 s h hk ho hl i0 hi hm
    have hK := h.1.2.1.2
    have ei := t_p1 (x := i) i0 (by omega)
    obtain ⟨n', rfl⟩ : ∃ n', n = n' + 1 := ⟨n - 1, by omega⟩
    have lw : (if w = 0 then ([] : List Int32) else [20]).length ≤ 1 := by
      by_cases cw : w = 0
      · rw [if_pos cw]; exact Nat.zero_le _
      · rw [if_neg cw]; exact Nat.le_refl _
    have eo : o1 ++ tau p w = o ++ (if w = 0 then [] else [20]) := by
      rw [ho]
      unfold tau
      rw [List.append_assoc]
    have el : (o1 ++ tau p w).length = o.length + (if w = 0 then ([] : List Int32) else [20]).length := by rw [eo, List.length_append]
    -- the end
    have stop : ¬ S k = 20 → ¬ S k = 21 → Tot (wX4_readTest_j82 q k2 w s) (fun s' => TQ S P N K k2 A k c o1 false (tau p w) s s') := by
      intro n20 n21
      unfold wX4_readTest_j82
      by_cases cw : w = 0
      · rw [if_pos cw]
        rw [if_pos cw, List.append_nil] at eo
        exact t_some (Or.inr ⟨k, c, o, tau p w, o1, h, wA.refl, ⟨Nat.le_refl _, hk, by rw [eo]; omega, by rw [eo]; exact Nat.le_refl _⟩, ⟨n20, n21⟩, fun x hx => tau_m hx, eo.symm, fun q r _ _ e => e⟩)
      · rw [if_neg cw]
        rw [if_neg cw] at eo
        have e1 : (o ++ [20]).length = o.length + 1 := by rw [List.length_append]; rfl
        rw [if_neg cw] at el
        have e2 : ([20] : List Int32).length = 1 := rfl
        refine t_bind (h.put h44 (v := 20) (Or.inr (Or.inl (by decide))) (by omega)) (fun s' hs => t_some (Or.inr ⟨k, c, o ++ [20], tau p w, o1, hs.1, hs.2, ⟨Nat.le_refl _, hk, by rw [eo]; omega, by rw [eo]; exact Nat.le_refl _⟩, ⟨n20, n21⟩, fun x hx => tau_m hx, eo.symm, fun q r _ _ e => e⟩))
    rw [wX4_readTest_h13]
    by_cases c4 : i < 400
    · rw [if_pos c4, take_E h.1 hk, t_sbe]
      by_cases c21 : S k = 21
      · have hkK : k < K := by
          by_cases q : k = K
          · rw [q, hS] at c21; exact absurd c21 (by decide)
          · omega
        rw [if_pos c21, if_pos hkK]
        dsimp only
        rw [if_neg (by decide)]
        have h1 := h.hr (j := k + 1) h44
        have st : ∀ q, bot q → tst S P N (false, tau p w ++ q, k, c, o1) = .inl (true, 21 :: (tau false w ++ q), k + 1, c, o) := by
          intro q hb
          unfold tst
          dsimp only
          rw [if_neg (by decide), if_neg (fun e => by rw [c21] at e; exact absurd e.1 (by decide)), if_pos c21, tau_2 hb, ho]
        have dp : ∀ q, deep q = A → deep (21 :: (tau false w ++ q)) = A := by
          intro q hd
          show (if (21 : Int32) = 22 ∨ (21 : Int32) = 4 then 1 else 0) + deep (tau false w ++ q) = A
          rw [deep_app (fun x hx => tau_m hx), if_neg (by decide), hd, Nat.zero_add]
        refine t_assoc (t_bind (hq h1.1 (by omega) (by omega)) (fun s21 h21 => t_assoc ?_))
        rcases h21 with ⟨e, f1, f2⟩ | ⟨k', c', o', f1, f2, ⟨f3, f4, f5, f6⟩, f7⟩
        · refine t_bind (put_F h44 f1) (fun s24 h24 => ?_)
          unfold wX4_readTest_j76
          exact t_mono (h13_F h44 h24) (fun s' hs => Or.inl ⟨e, hs, fun q hb hd => Ev.step (st q hb) (f2 _ (dp q hd))⟩)
        · refine t_bind (f1.put h44 (v := 21) (Or.inr (Or.inl (by decide))) (by omega)) (fun s24 h24 => ?_)
          unfold wX4_readTest_j76
          have l1 : (o' ++ tau true w).length = o'.length + 1 + (if w = 0 then ([] : List Int32) else [20]).length := by
            unfold tau
            rw [List.length_append, List.length_append]
            show o'.length + (1 + _) = _
            omega
          refine t_mono (ih (k := k') (c := c') (p := true) (w := w) (o := o' ++ [21]) (o1 := o') h24.1 f4 rfl (by omega) (by omega) (by omega) (by omega)) (fun s' hs => ?_)
          have back : ∀ q r, bot q → deep q = A → Ev (tst S P N) (false, tau true w ++ q, k', c', o') r → Ev (tst S P N) (false, tau p w ++ q, k, c, o1) r := by
            intro q r hb hd hr
            refine Ev.step (st q hb) (f7 _ _ (dp q hd) ?_)
            rw [stl_stop (show stC 21 < 3 by decide)]
            exact hr
          rcases hs with ⟨e, a1, a2⟩ | ⟨k'', c'', o'', a', o1', a1, a2, ⟨a3, a4, a5, a6⟩, a7, a8, a9, a10⟩
          · exact Or.inl ⟨e, a1, fun q hb hd => back q _ hb hd (a2 q hb hd)⟩
          · exact Or.inr ⟨k'', c'', o'', a', o1', a1, ((h1.2.trans f2).trans h24.2).trans a2, ⟨by omega, a4, by omega, by omega⟩, a7, a8, a9, fun q r hb hd hr => back q r hb hd (a10 q r hb hd hr)⟩
      · rw [if_neg c21]
        dsimp only
        rw [if_pos rfl, take_E h.1 hk, t_sbe]
        by_cases c20 : S k = 20
        · have hkK : k < K := by
            by_cases q : k = K
            · rw [q, hS] at c20; exact absurd c20 (by decide)
            · omega
          rw [if_pos c20, if_pos hkK]
          dsimp only
          rw [if_neg (by decide)]
          have h1 := h.hr (j := k + 1) h44
          have st : ∀ q, bot q → tst S P N (false, tau p w ++ q, k, c, o1) = .inl (true, 20 :: q, k + 1, c, o1 ++ tau p w) := by
            intro q hb
            unfold tst
            dsimp only
            rw [if_neg (by decide), if_neg (fun e => by rw [c20] at e; exact absurd e.1 (by decide)), if_neg c21, if_pos c20, tau_1 hb]
          have dp : ∀ q, deep q = A → deep (20 :: q) = A := by
            intro q hd
            show (if (20 : Int32) = 22 ∨ (20 : Int32) = 4 then 1 else 0) + deep q = A
            rw [if_neg (by decide), hd, Nat.zero_add]
          have go : ∀ u, LSt S P N K k2 (k + 1) c (o1 ++ tau p w) u → wA (bLR k2) s u → Tot ((wX4_readTest_j66 q (wX4_readTest_h13 q k2 a (n' + 1)) k2 a i u).bind fun (t27, s28) => wX4_readTest_j82 q k2 t27 s28) (fun s' => TQ S P N K k2 A k c o1 false (tau p w) s s') := by
            intro u hu au
            unfold wX4_readTest_j66
            refine t_assoc (t_bind (hq hu (by omega) (by omega)) (fun s15 h15 => ?_))
            unfold wX4_readTest_j76
            rcases h15 with ⟨e, f1, f2⟩ | ⟨k', c', o', f1, f2, ⟨f3, f4, f5, f6⟩, f7⟩
            · exact t_mono (h13_F h44 f1) (fun s' hs => Or.inl ⟨e, hs, fun q hb hd => Ev.step (st q hb) (f2 _ (dp q hd))⟩)
            · have l1 : (o' ++ tau false 1).length = o'.length + 1 := by
                unfold tau
                rw [List.length_append]
                rfl
              refine t_mono (ih (k := k') (c := c') (p := false) (w := 1) (o := o') (o1 := o') f1 f4 (by rw [if_neg (by decide), List.append_nil]) (by omega) (by omega) (by omega) (by omega)) (fun s' hs => ?_)
              have back : ∀ q r, bot q → deep q = A → Ev (tst S P N) (false, tau false 1 ++ q, k', c', o') r → Ev (tst S P N) (false, tau p w ++ q, k, c, o1) r := by
                intro q r hb hd hr
                refine Ev.step (st q hb) (f7 _ _ (dp q hd) ?_)
                rw [stl_stop (show stC 20 < 3 by decide)]
                exact hr
              rcases hs with ⟨e, a1, a2⟩ | ⟨k'', c'', o'', a', o1', a1, a2, ⟨a3, a4, a5, a6⟩, a7, a8, a9, a10⟩
              · exact Or.inl ⟨e, a1, fun q hb hd => back q _ hb hd (a2 q hb hd)⟩
              · exact Or.inr ⟨k'', c'', o'', a', o1', a1, (au.trans f2).trans a2, ⟨by omega, a4, by omega, by omega⟩, a7, a8, a9, fun q r hb hd hr => back q r hb hd (a10 q r hb hd hr)⟩
          by_cases cw : w = 0
          · rw [if_pos cw]
            rw [if_pos cw, List.append_nil] at eo
            exact go _ (by rw [eo]; exact h1.1) h1.2
          · rw [if_neg cw]
            rw [if_neg cw] at eo el
            have e2 : ([20] : List Int32).length = 1 := rfl
            refine t_assoc (t_bind (h1.1.put h44 (v := 20) (Or.inr (Or.inl (by decide))) (by omega)) (fun s18 h18 => ?_))
            exact go _ (by rw [eo]; exact h18.1) (h1.2.trans h18.2)
        · rw [if_neg c20]
          dsimp only
          rw [if_pos rfl, t_sbe]
          exact stop c20 c21
    · have := t_ge c4
      rw [show (400 : Int32).toInt = 400 from rfl] at this
      obtain rfl : k = K := by omega
      rw [if_neg c4, t_sbe]
      exact stop (by rw [hS]; decide) (by rw [hS]; decide)
theorem readTest_E {A : Nat} {a : Int32} {q : Nat → Int32 → wS → Option wS} (h44 : 44 ≤ k2) (hS : S K = 0) (hq : ∀ {k c : Nat} {o : List Int32} {s : wS}, LSt S P N K k2 k c o s → k ≤ K → o.length ≤ k → Tot (q k2 a s) (fun s' => FQ S P N K k2 A k c o s s')) (h : LSt S P N K k2 k c o s) (hk : k ≤ K) (hl : o.length ≤ k) : Tot (wX4_readTest_b q k2 a s) (fun s' => TQ S P N K k2 A k c o true [] s s' ∧ ((∃ e, CF S P N K e s') ∨ (s'.1 k2 1).toInt > o.length)) := by
  have hK := h.1.2.1.2
  unfold wX4_readTest_b
  refine t_bind (hq h hk hl) (fun s2 h2 => ?_)
  have ef : wFuel = 1099511627775 + 1 := rfl
  rcases h2 with ⟨e, f1, f2⟩ | ⟨k', c', o', f1, f2, ⟨f3, f4, f5, f6⟩, f7⟩
  · rw [ef]
    exact t_mono (h13_F h44 f1) (fun s' hs => ⟨Or.inl ⟨e, hs, fun q _ hd => f2 q hd⟩, Or.inl ⟨e, hs⟩⟩)
  · have t0 : tau false 0 = [] := rfl
    refine t_mono (h13_E h44 hS hq wFuel (k := k') (c := c') (p := false) (w := 0) (i := 0) (o := o') (o1 := o') f1 f4 (by rw [if_neg (by decide), List.append_nil]) (by rw [t0, List.append_nil]; omega) (by decide) (by rw [t_i0]; omega) (by
      have e : wFuel = 1099511627776 := rfl
      omega)) (fun s' hs => ?_)
    have back : ∀ q r, bot q → deep q = A → Ev (tst S P N) (false, tau false 0 ++ q, k', c', o') r → Ev (tst S P N) (true, [] ++ q, k, c, o) r := by
      intro q r hb hd hr
      refine f7 q r hd ?_
      rw [stl_bot (by decide) hb]
      exact hr
    rcases hs with ⟨e, a1, a2⟩ | ⟨k'', c'', o'', a', o1', a1, a2, ⟨a3, a4, a5, a6⟩, a7, a8, a9, a10⟩
    · exact ⟨Or.inl ⟨e, a1, fun q hb hd => back q _ hb hd (a2 q hb hd)⟩, Or.inl ⟨e, a1⟩⟩
    · rw [t0, List.append_nil] at a5 a6
      refine ⟨Or.inr ⟨k'', c'', o'', a', o1', a1, f2.trans a2, ⟨by omega, a4, by rw [List.append_nil]; omega, by rw [List.append_nil]; omega⟩, a7, a8, a9, fun q r hb hd hr => back q r hb hd (a10 q r hb hd hr)⟩, Or.inr ?_⟩
      rw [a1.2.2.2.1, t_on (by omega)]
      omega
end LAWT
end
section
/-! The class reads FACTS. -/
section LAWF
variable {S P N : Nat → Int32} {K k2 k c : Nat} {o : List Int32} {s : wS}
theorem count_F {e v : Int32} (h : CF S P N K e s) : CF S P N K e (wupI s 8 0 v) := h.go (wupI_n (by decide)) (wupI_n (by decide)) (wupI_n (by decide)) (wupI_n (by decide))
theorem j153_F {e x : Int32} {q : Nat → Int32 → wS → Option wS} (h44 : 44 ≤ k2) (h : CF S P N K e s) : Tot (wX4_readFact_j153 q k2 x s) (fun s' => CF S P N K e s') := by
  unfold wX4_readFact_j153
  show Tot ((wX9_skip (wupI s 8 0 (s.1 8 0 + 1))).bind _) _
  rw [(count_F h).skip, t_sbe]
  refine t_bind (readSum_F h44 (count_F h)) (fun s27 h27 => t_bind (put_F h44 h27) (fun s30 h30 => t_some h30))
theorem seven_0 (x : Int32) (h : x < 10) : ¬ x = 22 ∧ ¬ x = 4 ∨ x = 4 := by
  by_cases c : x = 4
  · exact Or.inr c
  · exact Or.inl ⟨fun q => by rw [q] at h; exact absurd h (by decide), c⟩
theorem readFact_E (h44 : 44 ≤ k2) (hS : S K = 0) (pb : ∀ j, j ≤ K → 0 ≤ (P j).toInt ∧ (P j).toInt ≤ 400) : ∀ (n : Nat) {A : Nat} {a : Int32} {k c : Nat} {o : List Int32} {s : wS}, a.toInt = A → A ≤ 10 → 10 - A < n → LSt S P N K k2 k c o s → k ≤ K → o.length ≤ k → Tot (wX4_readFact n k2 a s) (fun s' => FQ S P N K k2 A k c o s s') := by
  intro n
  induction n with
  | zero => intro A a k c o s _ _ hm; exact absurd hm (by omega)
  | succ n ih =>
    intro A a k c o s ha hA hm h hk hl
    have hK := h.1.2.1.2
    have e10 : (10 : Int32).toInt = 10 := rfl
    have nf : ∀ j (x : Int32), j ≤ K → 0 ≤ x.toInt → x.toInt ≤ 7 → ¬ fl x (P j) = 0 := fun j x hj a b => fl_0 a b (pb j hj).1 (pb j hj).2
    show Tot (wX4_readFact_b (wX4_readFact n) k2 a s) _
    unfold wX4_readFact_b
    rw [sign_E h.1 hk, t_sbe]
    by_cases cop : S k = 22 ∨ S k = 4
    · have hkK : k < K := by
        by_cases q : k = K
        · rw [q, hS] at cop; rcases cop with q | q <;> exact absurd q (by decide)
        · omega
      have e1 : wX4_readFact_j19 (wX4_readFact n) k2 a s = wX4_readFact_j24 (wX4_readFact n) k2 a 1 s := rfl
      have two : (if S k = 22 then wX4_readFact_j19 (wX4_readFact n) k2 a s else if S k = 4 then wX4_readFact_j19 (wX4_readFact n) k2 a s else wX4_readFact_j24 (wX4_readFact n) k2 a 0 s) = wX4_readFact_j24 (wX4_readFact n) k2 a 1 s := by
        by_cases q : S k = 22
        · rw [if_pos q, e1]
        · rw [if_neg q, if_pos (cop.resolve_left q), e1]
      rw [two]
      unfold wX4_readFact_j24
      rw [if_neg (by decide)]
      by_cases cA : a < 10
      · have hA10 := t_lt cA
        rw [ha, e10] at hA10
        rw [if_pos cA]
        have h1 := h.hr (j := k + 1) h44
        have ea : (a + 1).toInt = (A + 1 : Nat) := by rw [t_p1 (by omega) (by omega), ha]; rfl
        have st : ∀ q, deep q = A → tst S P N (true, q, k, c, o) = .inl (true, S k :: q, k + 1, c, o) := by
          intro q hd
          unfold tst
          dsimp only
          rw [if_pos rfl, if_pos cop, if_neg (by omega)]
        have dp : ∀ q, deep q = A → deep (S k :: q) = A + 1 := by
          intro q hd
          show (if S k = 22 ∨ S k = 4 then 1 else 0) + deep q = A + 1
          rw [if_pos cop, hd, Nat.add_comm]
        unfold wX4_readFact_j45
        rw [take_E h.1 hk, t_sbe]
        by_cases c22 : S k = 22
        · rw [if_pos c22, if_pos hkK]
          dsimp only
          rw [if_neg (by decide)]
          refine t_bind (ih (A := A + 1) (a := a + 1) (k := k + 1) ea (by omega) (by omega) h1.1 (by omega) (by omega)) (fun s48 h48 => ?_)
          rcases h48 with ⟨e, f1, f2⟩ | ⟨k', c', o', f1, f2, ⟨f3, f4, f5, f6⟩, f7⟩
          · refine t_bind (put_F h44 f1) (fun s51 h51 => t_some (Or.inl ⟨e, h51, fun q hd => Ev.step (st q hd) (f2 _ (dp q hd))⟩))
          · refine t_bind (f1.put h44 (v := 22) (Or.inr (Or.inl (by decide))) (by omega)) (fun s51 h51 => t_some (Or.inr ⟨k', c', o' ++ [22], h51.1, (h1.2.trans f2).trans h51.2, ⟨by omega, f4, by rw [List.length_append]; show o'.length + 1 + k ≤ _; omega, by rw [List.length_append]; show _ < o'.length + 1; omega⟩, fun q r hd hr => Ev.step (st q hd) (f7 _ r (dp q hd) ?_)⟩))
            rw [c22]
            show Ev (tst S P N) (false, (if 3 ≤ stC 22 then stl 3 q (o' ++ [22]) else (22 :: q, o')).1, k', c', (if 3 ≤ stC 22 then stl 3 q (o' ++ [22]) else (22 :: q, o')).2) r
            rw [if_pos (by decide)]
            exact hr
        · have c4 : S k = 4 := cop.resolve_left c22
          rw [if_neg c22]
          dsimp only
          rw [if_pos rfl, take_E h.1 hk, t_sbe, if_pos c4, if_pos hkK]
          dsimp only
          rw [if_neg (by decide)]
          refine t_bind (readTest_E (A := A + 1) (a := a + 1) (q := wX4_readFact n) h44 hS (fun g1 g2 g3 => ih (A := A + 1) ea (by omega) (by omega) g1 g2 g3) h1.1 (by omega) (by omega)) (fun s38 h38 => ?_)
          obtain ⟨h38, hgr⟩ := h38
          rcases h38 with ⟨e, f1, f2⟩ | ⟨k', c', o', a', o1, f1, f2, ⟨f3, f4, f5, f6⟩, ⟨f7, f8⟩, f9, f10, f11⟩
          · rw [f1.take (by decide), t_sbe]
            dsimp only
            rw [if_pos rfl, f1.fail, t_sbe]
            refine t_some (Or.inl ⟨e, f1, fun q hd => Ev.step (st q hd) ?_⟩)
            have := f2 (S k :: q) (by rw [c4]; exact Or.inr ⟨q, rfl⟩) (dp q hd)
            exact this
          · have gr : o.length < o'.length := by
              rcases hgr with ⟨e, he⟩ | hg
              · exact absurd f1.2.1 (by rw [he.2.1]; exact he.2.2.1)
              · rw [f1.2.2.2.1, t_on (by rw [List.append_nil] at f5; omega)] at hg
                omega
            rw [List.append_nil] at f5 f6
            have stk : ∀ q : List Int32, (4 : Int32) ∈ a' ++ 4 :: q := fun q => List.mem_append_right _ (List.mem_cons_self)
            rw [take_E f1.1 f4, t_sbe]
            by_cases c5 : S k' = 5
            · have hkK' : k' < K := by
                by_cases q : k' = K
                · rw [q, hS] at c5; exact absurd c5 (by decide)
                · omega
              rw [if_pos c5, if_pos hkK']
              dsimp only
              rw [if_neg (by decide)]
              have h2 := f1.hr (j := k' + 1) h44
              refine t_some (Or.inr ⟨k' + 1, c', o', h2.1, (h1.2.trans f2).trans h2.2, ⟨by omega, by omega, by omega, gr⟩, fun q r hd hr => Ev.step (st q hd) ?_⟩)
              refine f11 (S k :: q) r (by rw [c4]; exact Or.inr ⟨q, rfl⟩) (dp q hd) ?_
              rw [c4]
              refine Ev.step (c' := (false, (stl 3 q o').1, k' + 1, c', (stl 3 q o').2)) ?_ hr
              unfold tst
              dsimp only
              rw [if_neg (by decide), if_pos ⟨c5, stk q⟩, stl_app (fun x hx => st_20 (f9 x hx)), stl_stop (show stC 4 < 1 by decide), ← f10]
              rfl
            · rw [if_neg c5]
              dsimp only
              obtain ⟨r, e1, e2⟩ := f1.fail (x := 0) f4 hS (nf _ _ f4 (by decide) (by decide))
              rw [if_pos rfl, e1, t_sbe]
              refine t_some (Or.inl ⟨_, e2, fun q hd => Ev.step (st q hd) (f11 (S k :: q) _ (by rw [c4]; exact Or.inr ⟨q, rfl⟩) (dp q hd) (Ev.ret ?_))⟩)
              rw [c4]
              unfold tst
              dsimp only
              rw [if_neg (by decide), if_neg (fun e => c5 e.1), if_neg f8, if_neg f7, if_pos (stk q)]
      · have hA10 := t_ge cA
        rw [ha, e10] at hA10
        rw [if_neg cA]
        obtain ⟨r, e1, e2⟩ := h.fail (x := 2) hk hS (nf _ _ hk (by decide) (by decide))
        rw [e1, t_sbe]
        refine t_some (Or.inl ⟨_, e2, fun q hd => Ev.ret ?_⟩)
        unfold tst
        dsimp only
        rw [if_pos rfl, if_pos cop, if_pos (by omega)]
    · rw [if_neg (fun q => cop (Or.inl q)), if_neg (fun q => cop (Or.inr q))]
      unfold wX4_readFact_j24
      rw [if_pos rfl]
      unfold wX4_readFact_j45
      rw [take_E h.1 hk, t_sbe, if_neg (fun q => cop (Or.inl q))]
      dsimp only
      rw [if_pos rfl, take_E h.1 hk, t_sbe, if_neg (fun q => cop (Or.inr q))]
      dsimp only
      rw [if_pos rfl]
      refine t_bind (readSum_E h44 hS pb h hk hl) (fun s14 h14 => ?_)
      rcases h14 with ⟨e, f1, f2⟩ | ⟨k', c', o', f1, f2, f3, f4, f5, f6, f7⟩
      · rw [f2.sign, t_sbe, if_pos (by decide)]
        unfold wX4_readFact_j131
        rw [f2.fail, t_sbe]
        refine t_mono (j153_F h44 f2) (fun s' hs => Or.inl ⟨e, hs, fun q hd => Ev.ret ?_⟩)
        unfold tst
        dsimp only
        rw [if_pos rfl, if_neg cop, sumV_eq f1]
      · rw [sign_E f2.1 f5, t_sbe]
        have bad : ∀ x : Int32, 0 ≤ x.toInt → x.toInt ≤ 7 → (∀ q, tst S P N (true, q, k, c, o) = .inr (.inl (fl x (P k')))) → Tot ((wX9_fail x s14).bind fun s20 => wX4_readFact_j153 (wX4_readFact n) k2 (S k') s20) (fun s' => FQ S P N K k2 A k c o s s') := by
          intro x x0 x7 hx
          obtain ⟨r, e1, e2⟩ := f2.fail (x := x) f5 hS (nf _ _ f5 x0 x7)
          rw [e1, t_sbe]
          exact t_mono (j153_F h44 e2) (fun s' hs => Or.inl ⟨_, hs, fun q _ => Ev.ret (hx q)⟩)
        by_cases c10 : S k' < 10
        · rw [if_pos c10]
          unfold wX4_readFact_j131
          refine bad 0 (by decide) (by decide) (fun q => ?_)
          unfold tst
          dsimp only
          rw [if_pos rfl, if_neg cop, sumV_eq f1]
          dsimp only
          rw [if_pos (Or.inl c10)]
        · rw [if_neg c10]
          by_cases c14 : 14 < S k'
          · rw [if_pos c14]
            unfold wX4_readFact_j131
            refine bad 0 (by decide) (by decide) (fun q => ?_)
            unfold tst
            dsimp only
            rw [if_pos rfl, if_neg cop, sumV_eq f1]
            dsimp only
            rw [if_pos (Or.inr c14)]
          · rw [if_neg c14]
            obtain ⟨⟨hc, hc60⟩, -⟩ := f2.2.2
            have h60 : (s14.1 8 0 < 60) ↔ ¬ c' = 60 := by
              rw [Int32.lt_iff_toInt_lt, hc, show (60 : Int32).toInt = 60 from rfl]
              omega
            by_cases c60 : c' = 60
            · rw [if_neg (fun q => (h60.1 q) c60)]
              refine bad 3 (by decide) (by decide) (fun q => ?_)
              unfold tst
              dsimp only
              rw [if_pos rfl, if_neg cop, sumV_eq f1]
              dsimp only
              rw [if_neg (fun q => q.elim c10 c14), if_pos c60]
            · rw [if_pos (h60.2 c60)]
              have g10 := t_ge c10
              rw [e10] at g10
              have Sk0 : ¬ S k' = 0 := fun q => by rw [q, t_i0] at g10; omega
              have hkK : k' < K := by
                by_cases q : k' = K
                · rw [q, hS] at Sk0; exact absurd rfl Sk0
                · omega
              have e1 : (s14.1 8 0 + 1).toInt = c' + 1 := by rw [t_p1 (by omega) (by omega), hc]
              have h2 : LSt S P N K k2 k' (c' + 1) o' (wupI s14 8 0 (s14.1 8 0 + 1)) := by
                obtain ⟨ct, h0, q1, q2, q3⟩ := f2
                refine ⟨ct.go (wupI_n (by decide)) (wupI_n (by decide)) (wupI_n (by decide)) (by rw [wupI_n (by decide)]) (by rw [wupI_n (by decide)]), by rw [wupI_n (by decide)]; exact h0, ⟨by rw [wup_same]; exact e1, by omega⟩, by rw [wupI_n (by omega)]; exact q2, by rw [wupI_n (by omega)]; exact q3⟩
              unfold wX4_readFact_j153
              show Tot ((wX9_skip (wupI s14 8 0 (s14.1 8 0 + 1))).bind _) _
              rw [skip_E h2.1 f5, if_pos hkK, t_sbe]
              have h3 := h2.hr (j := k' + 1) h44
              have a3 : wA (bLR k2) s14 (hr (wupI s14 8 0 (s14.1 8 0 + 1)) (k' + 1)) := (wA_I (bLR_p (Or.inr (Or.inl ⟨rfl, rfl⟩)))).trans h3.2
              refine t_bind (readSum_E h44 hS pb h3.1 (by omega) (by omega)) (fun s27 h27 => ?_)
              rcases h27 with ⟨e, g1, g2⟩ | ⟨k'', c'', o'', g1, g2, g3, g4, g5, g6, g7⟩
              · refine t_bind (put_F h44 g2) (fun s30 h30 => t_some (Or.inl ⟨e, h30, fun q hd => Ev.ret ?_⟩))
                unfold tst
                dsimp only
                rw [if_pos rfl, if_neg cop, sumV_eq f1]
                dsimp only
                rw [if_neg (fun q => q.elim c10 c14), if_neg c60, sumV_eq g1]
              · refine t_bind (g2.put h44 (v := S k') (Or.inr (Or.inr (by have g14 := t_ge c14; rw [show (14 : Int32).toInt = 14 from rfl] at g14; omega))) (by omega)) (fun s30 h30 => t_some (Or.inr ⟨k'', c'', o'' ++ [S k'], h30.1, ((f3.trans a3).trans g3).trans h30.2, ⟨by omega, g5, by rw [List.length_append]; show o''.length + 1 + k ≤ _; omega, by rw [List.length_append]; show _ < o''.length + 1; omega⟩, fun q r hd hr => Ev.step (c' := (false, (stl 3 q (o'' ++ [S k'])).1, k'', c'', (stl 3 q (o'' ++ [S k'])).2)) ?_ hr⟩))
                unfold tst
                dsimp only
                rw [if_pos rfl, if_neg cop, sumV_eq f1]
                dsimp only
                rw [if_neg (fun q => q.elim c10 c14), if_neg c60, sumV_eq g1]
/-- a whole TEST -/
noncomputable def TestE (S P N : Nat → Int32) (k c : Nat) (o : List Int32) (r : sR) : Prop := Ev (tst S P N) (true, [], k, c, o) r
noncomputable def testV (S P N : Nat → Int32) (k c : Nat) (o : List Int32) : sR := @Classical.epsilon sR ⟨.inl 0⟩ (fun r => TestE S P N k c o r)
theorem testV_eq {S P N : Nat → Int32} {k c : Nat} {o : List Int32} {r : sR} (h : TestE S P N k c o r) : testV S P N k c o = r := (Classical.epsilon_spec (p := fun r => TestE S P N k c o r) ⟨r, h⟩).det h
theorem readTest_W (h44 : 44 ≤ k2) (hS : S K = 0) (pb : ∀ j, j ≤ K → 0 ≤ (P j).toInt ∧ (P j).toInt ≤ 400) (h : LSt S P N K k2 k c o s) (hk : k ≤ K) (hl : o.length ≤ k) : Tot (wX4_readTest k2 0 s) (fun s' => (∃ e, TestE S P N k c o (.inl e) ∧ CF S P N K e s') ∨ (∃ k' c' o', TestE S P N k c o (.inr (k', c', o')) ∧ LSt S P N K k2 k' c' o' s' ∧ wA (bLR k2) s s' ∧ k ≤ k' ∧ k' ≤ K ∧ o'.length + k ≤ o.length + k' ∧ o.length < o'.length)) := by
  have hK := h.1.2.1.2
  unfold wX4_readTest
  refine t_mono (readTest_E (A := 0) (a := 0) (q := wX4_readFact 16) h44 hS (fun g1 g2 g3 => readFact_E h44 hS pb 16 (A := 0) (by decide) (by decide) (by decide) g1 g2 g3) h hk hl) (fun s' hs => ?_)
  obtain ⟨hs, hgr⟩ := hs
  rcases hs with ⟨e, f1, f2⟩ | ⟨k', c', o', a', o1, f1, f2, ⟨f3, f4, f5, f6⟩, ⟨f7, f8⟩, f9, f10, f11⟩
  · exact Or.inl ⟨e, f2 [] (Or.inl rfl) rfl, f1⟩
  · rw [List.append_nil] at f5 f6
    have gr : o.length < o'.length := by
      rcases hgr with ⟨e, he⟩ | hg
      · exact absurd f1.2.1 (by rw [he.2.1]; exact he.2.2.1)
      · rw [f1.2.2.2.1, t_on (by omega)] at hg
        omega
    refine Or.inr ⟨k', c', o', f11 [] _ (Or.inl rfl) rfl (Ev.ret ?_), f1, f2, f3, f4, f5, gr⟩
    have n4 : ¬ (4 : Int32) ∈ a' ++ [] := by
      rw [List.append_nil]
      intro q
      rcases f9 4 q with r | r <;> exact absurd r (by decide)
    unfold tst
    dsimp only
    rw [if_neg (by decide), if_neg (fun e => n4 e.2), if_neg f8, if_neg f7, if_neg n4, stl_app (fun x hx => st_20 (f9 x hx)), f10]
    rfl
end LAWF
end
section
/-! A LAW's CLAUSES; the class reads a LAW. -/
noncomputable abbrev qT : Type := Int32 × Nat × Nat × Nat × Bool
noncomputable abbrev lC : Type := Nat × Nat × List Int32 × List qT
noncomputable def kdL (x : Int32) : Int32 := if x = 16 then 0 else if x = 17 then 1 else 2
noncomputable def lcl (S P N : Nat → Int32) (x : lC) : Int32 ⊕ lC :=
  if S x.1 = 16 ∨ S x.1 = 17 ∨ S x.1 = 18 then (if x.2.2.2.length = 12 then .inl (fl 4 (P x.1)) else (match sumV S P N (x.1 + 1) x.2.1 x.2.2.1 with
    | .inl e => .inl e
    | .inr y => if S y.1 = 19 then (match testV S P N (y.1 + 1) y.2.1 y.2.2 with
        | .inl e => .inl e
        | .inr z => .inr (z.1, z.2.1, z.2.2, x.2.2.2 ++ [(kdL (S x.1), x.2.2.1.length, y.2.2.length, z.2.2.length, true)]))
      else .inr (y.1, y.2.1, y.2.2, x.2.2.2 ++ [(kdL (S x.1), x.2.2.1.length, y.2.2.length, y.2.2.length, false)])))
  else .inl (fl 0 (P x.1))
noncomputable def lst (S P N : Nat → Int32) (x : lC) : lC ⊕ (Int32 ⊕ lC) :=
  match lcl S P N x with
  | .inl e => .inr (.inl e)
  | .inr c' => if S c'.1 = 3 then .inl (c'.1 + 1, c'.2) else if S c'.1 = 0 then .inr (.inr c') else .inr (.inl (fl 0 (P c'.1)))
/-- the CLAUSES so far -/
noncomputable def LQ (k2 : Nat) (q : List qT) (s : wS) : Prop := (s.1 k2 6 = Int32.ofNat q.length ∧ q.length ≤ 12) ∧ ∀ i x, q[i]? = some x → s.1 (k2 + 2) i = x.1 ∧ s.1 (k2 + 3) i = Int32.ofNat x.2.1 ∧ s.1 (k2 + 4) i = Int32.ofNat x.2.2.1 ∧ s.1 (k2 + 5) i = Int32.ofNat x.2.2.2.1 ∧ (x.2.2.2.2 = true ↔ x.2.2.1 < x.2.2.2.1) ∧ (x.2.1 ≤ x.2.2.1 ∧ x.2.2.1 ≤ x.2.2.2.1 ∧ x.2.2.2.1 ≤ 400) ∧ (x.1 = 0 ∨ x.1 = 1 ∨ x.1 = 2)
noncomputable def bQc (k2 k b : Nat) : Bool := (Nat.beq k k2 && Nat.beq b 6) || (Nat.ble (k2 + 2) k && Nat.ble k (k2 + 5))
theorem bQc_n {k2 k b : Nat} (h1 : ¬ (k = k2 ∧ b = 6)) (h2 : ¬ (k2 + 2 ≤ k ∧ k ≤ k2 + 5)) : bQc k2 k b = false := by
  cases e : bQc k2 k b
  · rfl
  · exfalso
    simp only [bQc, Bool.or_eq_true, Bool.and_eq_true, Nat.beq_eq, Nat.ble_eq] at e
    omega
theorem bQc_p {k2 k b : Nat} (h : (k = k2 ∧ b = 6) ∨ (k2 + 2 ≤ k ∧ k ≤ k2 + 5)) : bQc k2 k b = true := by
  simp only [bQc, Bool.or_eq_true, Bool.and_eq_true, Nat.beq_eq, Nat.ble_eq]
  omega
section LAWQ
variable {S P N : Nat → Int32} {K k2 k c : Nat} {o : List Int32} {q : List qT} {s : wS}
theorem LQ.go {s' : wS} (h : LQ k2 q s) (h6 : s'.1 k2 6 = s.1 k2 6) (h2 : s'.1 (k2 + 2) = s.1 (k2 + 2)) (h3 : s'.1 (k2 + 3) = s.1 (k2 + 3)) (h4 : s'.1 (k2 + 4) = s.1 (k2 + 4)) (h5 : s'.1 (k2 + 5) = s.1 (k2 + 5)) : LQ k2 q s' := by
  unfold LQ
  rw [h6, h2, h3, h4, h5]
  exact h
theorem LQ.lr {s' : wS} (h44 : 44 ≤ k2) (h : LQ k2 q s) (a : wA (bLR k2) s s') : LQ k2 q s' :=
  h.go (a _ _ (bLR_n (by omega) (by omega) (by omega) (by omega))) (funext fun b => a _ b (bLR_n (by omega) (by omega) (by omega) (by omega))) (funext fun b => a _ b (bLR_n (by omega) (by omega) (by omega) (by omega))) (funext fun b => a _ b (bLR_n (by omega) (by omega) (by omega) (by omega))) (funext fun b => a _ b (bLR_n (by omega) (by omega) (by omega) (by omega)))
theorem LSt.qc {s' : wS} (h44 : 44 ≤ k2) (h : LSt S P N K k2 k c o s) (a : wA (bQc k2) s s') : LSt S P N K k2 k c o s' := by
  obtain ⟨ct, h0, ⟨q1, q1'⟩, q2, q3⟩ := h
  have z : ∀ k b, k < 44 → s'.1 k b = s.1 k b := fun k b hk => a k b (bQc_n (by omega) (by omega))
  refine ⟨ct.go (funext fun b => z 4 b (by omega)) (funext fun b => z 5 b (by omega)) (funext fun b => z 6 b (by omega)) (z 3 3 (by omega)) (z 3 4 (by omega)), by rw [z 3 5 (by omega)]; exact h0, ⟨by rw [z 8 0 (by omega)]; exact q1, q1'⟩, by rw [a k2 1 (bQc_n (by omega) (by omega))]; exact q2, fun i v hv => by rw [a (k2 + 1) i (bQc_n (by omega) (by omega))]; exact q3 i v hv⟩
theorem CF.qc {e : Int32} {s' : wS} (h44 : 44 ≤ k2) (h : CF S P N K e s) (a : wA (bQc k2) s s') : CF S P N K e s' := by
  have z : ∀ k b, k < 44 → s'.1 k b = s.1 k b := fun k b hk => a k b (bQc_n (by omega) (by omega))
  exact h.go (funext fun b => z 4 b (by omega)) (funext fun b => z 5 b (by omega)) (funext fun b => z 6 b (by omega)) (funext fun b => z 3 b (by omega))
theorem addClause_A {x1 x2 x3 : Int32} : Tot (wX3_addClause k2 x1 x2 x3 s) (fun s' => wA (bQc k2) s s') := by
  unfold wX3_addClause
  refine t_bind wX10_isOutside_T (fun t1 ht => t_ite (fun c => ?_) (fun _ => t_some wA.refl))
  have ht' : 0 ≤ (s.1 k2 6).toInt ∧ (s.1 k2 6).toInt < 12 := by
    rcases ht with h | h
    · exact h.2
    · rw [h.1] at c; exact absurd c (by decide)
  have e : ∀ u : wS, u.1 k2 = s.1 k2 → 0 ≤ (u.1 k2 6).toInt ∧ (u.1 k2 6).toInt < 12 := fun u hu => by rw [hu]; exact ht'
  refine t_bind (t_stI (B := bQc k2) (n := 12) ht'.1 ht'.2 (fun b => bQc_p (by omega))) (fun s4 h4 => ?_)
  have z4 : s4.1 k2 = s.1 k2 := by rw [h4.2, wupI_n (by omega)]
  refine t_bind (t_stI (B := bQc k2) (n := 12) (e s4 z4).1 (e s4 z4).2 (fun b => bQc_p (by omega))) (fun s5 h5 => ?_)
  have z5 : s5.1 k2 = s.1 k2 := by rw [h5.2, wupI_n (by omega), z4]
  refine t_bind (t_stI (B := bQc k2) (n := 12) (e s5 z5).1 (e s5 z5).2 (fun b => bQc_p (by omega))) (fun s6 h6 => ?_)
  have z6 : s6.1 k2 = s.1 k2 := by rw [h6.2, wupI_n (by omega), z5]
  refine t_bind (t_stI (B := bQc k2) (n := 12) (e s6 z6).1 (e s6 z6).2 (fun b => bQc_p (by omega))) (fun s7 h7 => ?_)
  exact t_bind (t_pfI (B := bQc k2) (bQc_p (by omega))) (fun s8 h8 => t_some ((((h4.1.trans h5.1).trans h6.1).trans h7.1).trans h8.1))
theorem addClause_E {kd : Int32} {l0 l1 : Nat} {b : Bool} (h : LQ k2 q s) (hq : q.length < 12) (hk : s.1 k2 1 = Int32.ofNat o.length) (hb : b = true ↔ l1 < o.length) (hl : l0 ≤ l1 ∧ l1 ≤ o.length ∧ o.length ≤ 400) (hkd : kd = 0 ∨ kd = 1 ∨ kd = 2) : Tot (wX3_addClause k2 kd (Int32.ofNat l0) (Int32.ofNat l1) s) (fun s' => LQ k2 (q ++ [(kd, l0, l1, o.length, b)]) s') := by
  obtain ⟨⟨h6, h12⟩, hx⟩ := h
  have el : (Int32.ofNat q.length).toInt = q.length := t_on (by omega)
  have en : (Int32.ofNat q.length).toNatClampNeg = q.length := t_nc (by omega)
  unfold wX3_addClause
  rw [h6, isOutside_E, if_pos ⟨by omega, by rw [el, show (12 : Int32).toInt = 12 from rfl]; omega⟩, t_sbe, if_pos rfl]
  rw [wst_E (by omega) (by omega), t_sbe, en, wupI_n (by omega), h6, wst_E (by omega) (by omega), t_sbe, en, wupI_n (by omega), wupI_n (by omega), h6, wst_E (by omega) (by omega), t_sbe, en, wupI_n (by omega), wupI_n (by omega), wupI_n (by omega), h6, hk, wst_E (by omega) (by omega), t_sbe, en, wupI_n (by omega), wupI_n (by omega), wupI_n (by omega), wupI_n (by omega), h6]
  have : Int32.ofNat q.length + 1 = Int32.ofNat (q.length + 1) := Int32.toInt_inj.1 (by rw [t_p1 (by omega) (by omega), el, t_on (by omega)]; rfl)
  rw [this]
  have ql : (q ++ [(kd, l0, l1, o.length, b)]).length = q.length + 1 := by rw [List.length_append]; rfl
  refine t_some ⟨⟨by rw [wup_same, ql], by omega⟩, fun i x hxi => ?_⟩
  rw [wupI_n (by omega), wupI_n (by omega), wupI_n (by omega), wupI_n (by omega), wupI_k, wupI_n (by omega), wupI_n (by omega), wupI_n (by omega), wupI_k, wupI_n (by omega), wupI_n (by omega), wupI_n (by omega), wupI_k, wupI_n (by omega), wupI_n (by omega), wupI_n (by omega), wupI_k, wupI_n (by omega), wupI_n (by omega), wupI_n (by omega)]
  by_cases c : i = q.length
  · subst c
    rw [List.getElem?_append_right (Nat.le_refl _), Nat.sub_self] at hxi
    obtain rfl := Option.some.inj hxi
    rw [updI_s, updI_s, updI_s, updI_s]
    exact ⟨rfl, rfl, rfl, rfl, hb, hl, hkd⟩
  · rw [updI_n c, updI_n c, updI_n c, updI_n c]
    have hi : i < q.length := by
      have := (List.getElem?_eq_some_iff.1 hxi).1
      omega
    rw [List.getElem?_append_left hi] at hxi
    exact hx i x hxi
/-- the whole of a LAW, as it is read -/
noncomputable def LB (n : Nat) (q : List qT) : Prop := ∀ (i : Nat) (x : qT), q[i]? = some x → x.2.2.2.1 ≤ n
theorem LB.snoc {n m : Nat} {q : List qT} {y : qT} (h : LB n q) (hn : n ≤ m) (hy : y.2.2.2.1 ≤ m) : LB m (q ++ [y]) := by
  intro i x hx
  by_cases c : i < q.length
  · rw [List.getElem?_append_left c] at hx
    exact Nat.le_trans (h i x hx) hn
  · have c' : q.length ≤ i := by omega
    rw [List.getElem?_append_right c'] at hx
    have : i - q.length = 0 := by
      have := (List.getElem?_eq_some_iff.1 hx).1
      simp only [List.length_singleton] at this
      omega
    rw [this] at hx
    obtain rfl := Option.some.inj hx
    exact hy
noncomputable def LW (S P N : Nat → Int32) (K k2 : Nat) (x : lC) (s : wS) : Prop := LSt S P N K k2 x.1 x.2.1 x.2.2.1 s ∧ LQ k2 x.2.2.2 s ∧ s.1 k2 12 = 0 ∧ LB x.2.2.1.length x.2.2.2
noncomputable def LV (S P N : Nat → Int32) (K k2 : Nat) (x : lC) (s' : wS) : Prop := (∃ e, Ev (lst S P N) x (.inl e) ∧ CF S P N K e s') ∨ (∃ c' : lC, Ev (lst S P N) x (.inr c') ∧ LW S P N K k2 c' s' ∧ c'.2.2.1.length ≤ 400)
theorem read4_h14_0 {i : Int32} {n : Nat} : wX4_read_h14 k2 (n + 1) 0 i s = some s := by
  rw [wX4_read_h14]
  by_cases c : i < 400
  · rw [if_pos c, if_pos rfl]
  · rw [if_neg c]
theorem j123_F {e : Int32} (h : CF S P N K e s) : wX4_read_j123 s = some s := by
  unfold wX4_read_j123
  rw [h.sign, t_sbe, if_pos rfl]
theorem j101_F {e i x5 x6 x7 : Int32} {n : Nat} (h44 : 44 ≤ k2) (h : CF S P N K e s) : Tot ((wX4_read_j101 (wX4_read_h14 k2 (n + 1)) k2 i x5 x6 x7 s).bind fun s39 => wX4_read_j123 s39) (fun s' => CF S P N K e s') := by
  unfold wX4_read_j101
  refine t_assoc (t_bind addClause_A (fun s26 h26 => ?_))
  have h' := h.qc h44 h26
  rw [h'.take (by decide), t_sbe]
  dsimp only
  rw [read4_h14_0, t_sbe, j123_F h']
  exact t_some h'
theorem j63_F {e i x5 : Int32} {n : Nat} (h44 : 44 ≤ k2) (h : CF S P N K e s) : Tot ((wX4_read_j63 (wX4_read_h14 k2 (n + 1)) k2 i x5 s).bind fun s39 => wX4_read_j123 s39) (fun s' => CF S P N K e s') := by
  unfold wX4_read_j63
  rw [h.skip, t_sbe]
  refine t_assoc (t_bind (readSum_F h44 h) (fun s19 h19 => ?_))
  rw [h19.take (by decide), t_sbe]
  dsimp only
  rw [if_pos rfl]
  exact j101_F h44 h19
theorem kind4 : wX4_kindOf (S k) s = some (if S k = 16 ∨ S k = 17 ∨ S k = 18 then kdL (S k) else -1) := by
  unfold wX4_kindOf kdL
  by_cases c16 : S k = 16
  · rw [if_pos c16, if_pos (Or.inl c16), if_pos c16]
  · rw [if_neg c16]
    by_cases c17 : S k = 17
    · rw [if_pos c17, if_pos (Or.inr (Or.inl c17)), if_neg c16, if_pos c17]
    · rw [if_neg c17]
      by_cases c18 : S k = 18
      · rw [if_pos c18, if_pos (Or.inr (Or.inr c18)), if_neg c16, if_neg c17]
      · rw [if_neg c18, if_neg (fun q => by rcases q with q | q | q <;> contradiction)]
theorem kdL_3 {x : Int32} : kdL x = 0 ∨ kdL x = 1 ∨ kdL x = 2 := by
  unfold kdL
  by_cases c : x = 16
  · rw [if_pos c]; exact Or.inl rfl
  · rw [if_neg c]
    by_cases d : x = 17
    · rw [if_pos d]; exact Or.inr (Or.inl rfl)
    · rw [if_neg d]; exact Or.inr (Or.inr rfl)
theorem read4_E (h44 : 44 ≤ k2) (hS : S K = 0) (pb : ∀ j, j ≤ K → 0 ≤ (P j).toInt ∧ (P j).toInt ≤ 400) : ∀ (n : Nat) {i : Int32} {x : lC} {s : wS}, LW S P N K k2 x s → x.1 ≤ K → x.2.2.1.length ≤ x.1 → 0 ≤ i.toInt → 2 * i.toInt ≤ x.1 → K - x.1 + 1 < n → Tot ((wX4_read_h14 k2 n 1 i s).bind fun s39 => wX4_read_j123 s39) (fun s' => LV S P N K k2 x s') := by
  intro n
  induction n with
  | zero => intro i x s _ _ _ _ _ hm; exact absurd hm (by omega)
  | succ n ih =>
    intro i x s hw hk hl i0 hi hm
    obtain ⟨h, hq, h12, hlb⟩ := hw
    have hK := h.1.2.1.2
    have ei := t_p1 (x := i) i0 (by omega)
    have nf : ∀ j (z : Int32), j ≤ K → 0 ≤ z.toInt → z.toInt ≤ 7 → ¬ fl z (P j) = 0 := fun j z hj a b => fl_0 a b (pb j hj).1 (pb j hj).2
    obtain ⟨n', rfl⟩ : ∃ n', n = n' + 1 := ⟨n - 1, by omega⟩
    rw [wX4_read_h14, if_pos (Int32.lt_iff_toInt_lt.2 (by rw [show (400 : Int32).toInt = 400 from rfl]; omega)), if_neg (by decide), sign_E h.1 hk, t_sbe, kind4]
    have bad : ∀ z x5 : Int32, 0 ≤ z.toInt → z.toInt ≤ 7 → lcl S P N x = .inl (fl z (P x.1)) → Tot (((wX9_fail z s).bind fun s13 => wX4_read_j63 (wX4_read_h14 k2 (n' + 1)) k2 i x5 s13).bind fun s39 => wX4_read_j123 s39) (fun s' => LV S P N K k2 x s') := by
      intro z x5 z0 z7 hz
      obtain ⟨r, e1, e2⟩ := h.fail (x := z) hk hS (nf _ _ hk z0 z7)
      rw [e1, t_sbe]
      refine t_mono (j63_F h44 e2) (fun s' hs => Or.inl ⟨_, Ev.ret ?_, hs⟩)
      unfold lst
      rw [hz]
    by_cases cw : S x.1 = 16 ∨ S x.1 = 17 ∨ S x.1 = 18
    · rw [if_pos cw, t_sbe, if_neg (by rcases kdL_3 (x := S x.1) with q | q | q <;> rw [q] <;> decide)]
      have hkK : x.1 < K := by
        by_cases q : x.1 = K
        · rw [q, hS] at cw; rcases cw with q | q | q <;> exact absurd q (by decide)
        · omega
      obtain ⟨⟨q6, ql⟩, qx⟩ := id hq
      have eql : (Int32.ofNat x.2.2.2.length).toInt = x.2.2.2.length := t_on (by omega)
      rw [q6]
      by_cases c12 : x.2.2.2.length = 12
      · rw [if_neg (fun q => by have := t_lt q; rw [eql, show (12 : Int32).toInt = 12 from rfl] at this; omega)]
        refine bad 4 _ (by decide) (by decide) ?_
        unfold lcl
        rw [if_pos cw, if_pos c12]
      · rw [if_pos (Int32.lt_iff_toInt_lt.2 (by rw [eql, show (12 : Int32).toInt = 12 from rfl]; omega))]
        unfold wX4_read_j63
        rw [skip_E h.1 hk, if_pos hkK, t_sbe]
        have h1 := h.hr (j := x.1 + 1) h44
        have q1 : LQ k2 x.2.2.2 (hr s (x.1 + 1)) := hq.lr h44 h1.2
        have m1 : (hr s (x.1 + 1)).1 k2 1 = Int32.ofNat x.2.2.1.length := h1.1.2.2.2.1
        have b1 : (hr s (x.1 + 1)).1 k2 12 = 0 := by rw [wupI_n (by omega)]; exact h12
        rw [m1]
        refine t_assoc (t_bind (readSum_E h44 hS pb h1.1 (by omega) (by omega)) (fun s19 h19 => ?_))
        rcases h19 with ⟨e, f1, f2⟩ | ⟨k', c', o', f1, f2, f3, f4, f5, f6, f7⟩
        · rw [f2.take (by decide), t_sbe]
          dsimp only
          rw [if_pos rfl]
          refine t_mono (j101_F h44 f2) (fun s' hs => Or.inl ⟨e, Ev.ret ?_, hs⟩)
          unfold lst lcl
          rw [if_pos cw, if_neg c12, sumV_eq f1]
        · have q2 : LQ k2 x.2.2.2 s19 := q1.lr h44 f3
          have b2 : s19.1 k2 12 = 0 := by rw [f3 k2 12 (bLR_n (by omega) (by omega) (by omega) (by omega))]; exact b1
          have m2 : s19.1 k2 1 = Int32.ofNat o'.length := f2.2.2.2.1
          rw [m2]
          -- behind the CLAUSE
          have fin : ∀ (u : wS) (k'' c'' : Nat) (o'' : List Int32) (b : Bool), LSt S P N K k2 k'' c'' o'' u → LQ k2 x.2.2.2 u → u.1 k2 12 = 0 → (b = true ↔ o'.length < o''.length) → o'.length ≤ o''.length → k' ≤ k'' → k'' ≤ K → o''.length ≤ k'' → lcl S P N x = .inr (k'', c'', o'', x.2.2.2 ++ [(kdL (S x.1), x.2.2.1.length, o'.length, o''.length, b)]) → Tot ((wX4_read_j101 (wX4_read_h14 k2 (n' + 1)) k2 i (kdL (S x.1)) (Int32.ofNat x.2.2.1.length) (Int32.ofNat o'.length) u).bind fun s39 => wX4_read_j123 s39) (fun s' => LV S P N K k2 x s') := by
            intro u k'' c'' o'' b hu qu bu hb hlo hkk hkk2 hlen hcl
            unfold wX4_read_j101
            refine t_assoc (t_bind (t_and (addClause_E (l0 := x.2.2.1.length) (l1 := o'.length) (o := o'') (b := b) qu (by omega) hu.2.2.2.1 hb ⟨by omega, hlo, by omega⟩ kdL_3) addClause_A) (fun s26 h26 => ?_))
            obtain ⟨q26, a26⟩ := h26
            have w26 : LSt S P N K k2 k'' c'' o'' s26 := hu.qc h44 a26
            have b26 : s26.1 k2 12 = 0 := by rw [a26 k2 12 (bQc_n (by omega) (by omega))]; exact bu
            rw [take_E w26.1 hkk2, t_sbe]
            by_cases c3 : S k'' = 3
            · have hkK' : k'' < K := by
                by_cases q : k'' = K
                · rw [q, hS] at c3; exact absurd c3 (by decide)
                · omega
              rw [if_pos c3, if_pos hkK']
              dsimp only
              have h3 := w26.hr (j := k'' + 1) h44
              have st : lst S P N x = .inl (k'' + 1, c'', o'', x.2.2.2 ++ [(kdL (S x.1), x.2.2.1.length, o'.length, o''.length, b)]) := by
                unfold lst
                rw [hcl]
                dsimp only
                rw [if_pos c3]
              refine t_mono (ih (i := i + 1) (x := (k'' + 1, c'', o'', x.2.2.2 ++ [(kdL (S x.1), x.2.2.1.length, o'.length, o''.length, b)])) ⟨h3.1, q26.lr h44 h3.2, by rw [wupI_n (by omega)]; exact b26, hlb.snoc (by dsimp only; omega) (Nat.le_refl _)⟩ (by dsimp only; omega) (by dsimp only; omega) (by omega) (by dsimp only; omega) (by dsimp only; omega)) (fun s' hs => ?_)
              rcases hs with ⟨e, a, b⟩ | ⟨d, a, b⟩
              · exact Or.inl ⟨e, Ev.step st a, b⟩
              · exact Or.inr ⟨d, Ev.step st a, b⟩
            · rw [if_neg c3]
              dsimp only
              rw [read4_h14_0, t_sbe]
              unfold wX4_read_j123
              rw [sign_E w26.1 hkk2, t_sbe]
              by_cases c0 : S k'' = 0
              · rw [if_pos c0]
                refine t_some (Or.inr ⟨(k'', c'', o'', x.2.2.2 ++ [(kdL (S x.1), x.2.2.1.length, o'.length, o''.length, b)]), Ev.ret ?_, ⟨w26, q26, b26, hlb.snoc (by dsimp only; omega) (Nat.le_refl _)⟩, by dsimp only; omega⟩)
                unfold lst
                rw [hcl]
                dsimp only
                rw [if_neg c3, if_pos c0]
              · rw [if_neg c0]
                obtain ⟨r, e1, e2⟩ := w26.fail (x := 0) hkk2 hS (nf _ _ hkk2 (by decide) (by decide))
                rw [e1, t_sbe]
                refine t_some (Or.inl ⟨_, Ev.ret ?_, e2⟩)
                unfold lst
                rw [hcl]
                dsimp only
                rw [if_neg c3, if_neg c0]
          rw [take_E f2.1 f5, t_sbe]
          by_cases c19 : S k' = 19
          · have hkK' : k' < K := by
              by_cases q : k' = K
              · rw [q, hS] at c19; exact absurd c19 (by decide)
              · omega
            rw [if_pos c19, if_pos hkK']
            dsimp only
            rw [if_neg (by decide)]
            have h3 := f2.hr (j := k' + 1) h44
            refine t_assoc (t_bind (readTest_W h44 hS pb h3.1 (by omega) (by omega)) (fun s32 h32 => ?_))
            rcases h32 with ⟨e, g1, g2⟩ | ⟨k'', c'', o'', g1, g2, g3, g4, g5, g6, g7⟩
            · refine t_mono (j101_F h44 g2) (fun s' hs => Or.inl ⟨e, Ev.ret ?_, hs⟩)
              unfold lst lcl
              rw [if_pos cw, if_neg c12, sumV_eq f1]
              dsimp only
              rw [if_pos c19, testV_eq g1]
            · refine fin s32 k'' c'' o'' true g2 ((q2.lr h44 h3.2).lr h44 g3) (by rw [g3 k2 12 (bLR_n (by omega) (by omega) (by omega) (by omega)), wupI_n (by omega)]; exact b2) ⟨fun _ => g7, fun _ => rfl⟩ (by omega) (by omega) g5 (by omega) ?_
              unfold lcl
              rw [if_pos cw, if_neg c12, sumV_eq f1]
              dsimp only
              rw [if_pos c19, testV_eq g1]
          · rw [if_neg c19]
            dsimp only
            rw [if_pos rfl]
            refine fin s19 k' c' o' false f2 q2 b2 ⟨fun q => absurd q (by decide), fun q => absurd q (by omega)⟩ (Nat.le_refl _) (Nat.le_refl _) f5 (by omega) ?_
            unfold lcl
            rw [if_pos cw, if_neg c12, sumV_eq f1]
            dsimp only
            rw [if_neg c19]
    · rw [if_neg cw, t_sbe, if_pos rfl]
      refine bad 0 _ (by decide) (by decide) ?_
      unfold lcl
      rw [if_neg cw]
/-- from the tokens on -/
theorem read4_W (h44 : 44 ≤ k2) (ct : CT S P N K 0 s) (h0 : s.1 3 5 = 0) (hS : S K = 0) (pb : ∀ j, j ≤ K → 0 ≤ (P j).toInt ∧ (P j).toInt ≤ 400) : Tot (wX4_read k2 s) (fun s' => LV S P N K k2 (0, 0, [], []) s') := by
  have hK := ct.2.1.2
  unfold wX4_read wX3_clear
  show Tot ((wX4_read_h14 k2 wFuel 1 0 (wupI (wupI (wupI (wupI s 8 0 0) k2 1 0) k2 6 0) k2 12 0)).bind fun s39 => wX4_read_j123 s39) _
  refine read4_E h44 hS pb wFuel (x := (0, 0, [], [])) ⟨⟨ct.go ?_ ?_ ?_ ?_ ?_, ?_, ⟨?_, Nat.zero_le _⟩, ?_, fun i v hv => by cases hv⟩, ⟨⟨?_, Nat.zero_le _⟩, fun i v hv => by cases hv⟩, wup_same, fun i v hv => by cases hv⟩ (Nat.zero_le _) (Nat.le_refl _) (by decide) (by rw [t_i0]; dsimp only; omega) (by
    have e : wFuel = 1099511627776 := rfl
    dsimp only
    omega)
  · rw [wupI_n (by omega), wupI_n (by omega), wupI_n (by omega), wupI_n (by omega)]
  · rw [wupI_n (by omega), wupI_n (by omega), wupI_n (by omega), wupI_n (by omega)]
  · rw [wupI_n (by omega), wupI_n (by omega), wupI_n (by omega), wupI_n (by omega)]
  · rw [wupI_n (by omega), wupI_n (by omega), wupI_n (by omega), wupI_n (by omega)]
  · rw [wupI_n (by omega), wupI_n (by omega), wupI_n (by omega), wupI_n (by omega)]
  · rw [wupI_n (by omega), wupI_n (by omega), wupI_n (by omega), wupI_n (by omega)]; exact h0
  · rw [wupI_n (by omega), wupI_n (by omega), wupI_n (by omega), wup_same]; rfl
  · rw [wup_nb (by decide), wup_nb (by decide), wup_same]; rfl
  · rw [wup_nb (by decide), wup_same]; rfl
end LAWQ
end
section
/-! The frames of the class's LAW reader. -/
noncomputable def bZ (k2 k b : Nat) : Bool := Nat.beq k 3 || (Nat.beq k 8 || (Nat.ble k2 k && Nat.ble k (k2 + 5) && (Nat.ble 0 b)))
theorem bZ_p {k2 k b : Nat} (h : k2 ≤ k ∧ k ≤ k2 + 5) : bZ k2 k b = true := by
  simp only [bZ, Bool.or_eq_true, Bool.and_eq_true, Nat.beq_eq, Nat.ble_eq]
  omega
theorem bZ_n {k2 k b : Nat} (h3 : k ≠ 3) (h8 : k ≠ 8) (h : ¬ (k2 ≤ k ∧ k ≤ k2 + 5)) : bZ k2 k b = false := by
  cases e : bZ k2 k b
  · rfl
  · exfalso
    simp only [bZ, Bool.or_eq_true, Bool.and_eq_true, Nat.beq_eq, Nat.ble_eq] at e
    omega
theorem wX9_skip_Z {kk : Nat} {s : wS}  : Tot (wX9_skip s) (fun (r : wS) => wA (bZ kk) s r) := by
  unfold wX9_skip
  refine t_ite (fun c1 => ?_) (fun c1 => ?_)
  · refine t_bind (t_pfI (B := (bZ kk)) rfl) (fun s2 h2 => ?_)
    exact t_some h2.1
  · exact t_some wA.refl
theorem wX9_fail_j29_Z {kk : Nat} {s : wS}  : Tot (wX9_fail_j29 s) (fun (r : wS) => wA (bZ kk) s r) := by
  unfold wX9_fail_j29
  refine t_bind (t_pfI (B := (bZ kk)) rfl) (fun s5 h1 => ?_)
  exact t_some h1.1
theorem wX9_fail_Z {kk : Nat} {x1 : Int32} {s : wS}  : Tot (wX9_fail x1 s) (fun (r : wS) => wA (bZ kk) s r) := by
  unfold wX9_fail
  refine t_ite (fun c1 => ?_) (fun c1 => ?_)
  · refine t_bind (wX10_at_T rfl) (fun t2 h2 => ?_)
    refine t_bind (t_pfI (B := (bZ kk)) rfl) (fun s4 h3 => ?_)
    exact t_mono ((wX9_fail_j29_Z (kk := kk))) (fun r h => (h3.1.trans h))
  · exact t_mono ((wX9_fail_j29_Z (kk := kk))) (fun r h => h)
theorem wX9_take_Z {kk : Nat} {x1 : Int32} {s : wS} : Tot (wX9_take x1 s) (fun (r : Int32 × wS) => wA (bZ kk) s r.2 ∧ ((r.1 = 1 ∧ sv s = x1) ∨ r = (0, s))) := by
  unfold wX9_take
  refine t_bind (wX10_at_T rfl) (fun t1 h => ?_)
  refine t_ite (fun c => ?_) (fun c => t_some ⟨wA.refl, Or.inr rfl⟩)
  refine t_bind (wX9_skip_Z (kk := kk)) (fun s5 h5 => t_some ⟨h5, Or.inl ⟨rfl, ?_⟩⟩)
  rw [← c, h]
  rfl
theorem wX3_clear_Z {k0 : Nat} {s : wS} (hk0 : wkd k0 = 3) : Tot (wX3_clear k0 s) (fun (r : wS) => wA (bZ k0) s r) := by
  unfold wX3_clear
  refine t_bind (t_pfI (B := (bZ k0)) (bZ_p (by omega))) (fun s1 h1 => ?_)
  refine t_bind (t_pfI (B := (bZ k0)) (bZ_p (by omega))) (fun s2 h2 => ?_)
  have a3 := h1.1.trans h2.1
  refine t_bind (t_pfZ (B := (bZ k0)) (by decide) (bZ_p (by omega))) (fun s3 h4 => ?_)
  have a5 := a3.trans h4.1
  exact t_some a5
theorem wX3_put_Z {k0 : Nat} {x1 : Int32} {s : wS} (hk0 : wkd k0 = 3) : Tot (wX3_put k0 x1 s) (fun (r : wS) => wA (bZ k0) s r) := by
  unfold wX3_put
  refine t_ite (fun c1 => ?_) (fun c1 => ?_)
  · exact t_some wA.refl
  · refine t_ite (fun c2 => ?_) (fun c2 => ?_)
    · exact t_some wA.refl
    · refine t_ite (fun c3 => ?_) (fun c3 => ?_)
      · refine t_bind (t_stI (B := (bZ k0)) (n := 400) (by (try simp only [Int32.lt_iff_toInt_lt, Int32.le_iff_toInt_le, ← Int32.toInt_inj, Int32.reduceToInt] at *) <;> omega) (by (try simp only [Int32.lt_iff_toInt_lt, Int32.le_iff_toInt_le, ← Int32.toInt_inj, Int32.reduceToInt] at *) <;> omega) (fun b => bZ_p (by omega))) (fun s4 h4 => ?_)
        have f5 : s4.1 k0 1 = s.1 k0 1 := by rw [h4.2, wupI_n (by omega)]
        refine t_bind (t_pfI (B := (bZ k0)) (bZ_p (by omega))) (fun s5 h6 => ?_)
        have a7 := h4.1.trans h6.1
        exact t_some a7
      · exact t_some wA.refl
theorem wX3_addClause_Z {k0 : Nat} {x1 : Int32} {x2 : Int32} {x3 : Int32} {s : wS} (hk0 : wkd k0 = 3) : Tot (wX3_addClause k0 x1 x2 x3 s) (fun (r : wS) => wA (bZ k0) s r) := by
  unfold wX3_addClause
  refine t_bind (wX10_isOutside_T) (fun t1 h1 => ?_)
  refine t_ite (fun c2 => ?_) (fun c2 => ?_)
  · refine t_bind (t_stI (B := (bZ k0)) (n := 12) (by (try simp only [Int32.lt_iff_toInt_lt, Int32.le_iff_toInt_le, ← Int32.toInt_inj, Int32.reduceToInt] at *) <;> omega) (by (try simp only [Int32.lt_iff_toInt_lt, Int32.le_iff_toInt_le, ← Int32.toInt_inj, Int32.reduceToInt] at *) <;> omega) (fun b => bZ_p (by omega))) (fun s4 h3 => ?_)
    have f4 : s4.1 k0 6 = s.1 k0 6 := by rw [h3.2, wupI_n (by omega)]
    refine t_bind (t_stI (B := (bZ k0)) (n := 12) (by (try simp only [Int32.lt_iff_toInt_lt, Int32.le_iff_toInt_le, ← Int32.toInt_inj, Int32.reduceToInt] at *) <;> omega) (by (try simp only [Int32.lt_iff_toInt_lt, Int32.le_iff_toInt_le, ← Int32.toInt_inj, Int32.reduceToInt] at *) <;> omega) (fun b => bZ_p (by omega))) (fun s5 h5 => ?_)
    have a6 := h3.1.trans h5.1
    have f7 : s5.1 k0 6 = s4.1 k0 6 := by rw [h5.2, wupI_n (by omega)]
    refine t_bind (t_stI (B := (bZ k0)) (n := 12) (by (try simp only [Int32.lt_iff_toInt_lt, Int32.le_iff_toInt_le, ← Int32.toInt_inj, Int32.reduceToInt] at *) <;> omega) (by (try simp only [Int32.lt_iff_toInt_lt, Int32.le_iff_toInt_le, ← Int32.toInt_inj, Int32.reduceToInt] at *) <;> omega) (fun b => bZ_p (by omega))) (fun s6 h8 => ?_)
    have a9 := a6.trans h8.1
    have f10 : s6.1 k0 6 = s5.1 k0 6 := by rw [h8.2, wupI_n (by omega)]
    have f11 : s6.1 k0 1 = s5.1 k0 1 := by rw [h8.2, wupI_n (by omega)]
    refine t_bind (t_stI (B := (bZ k0)) (n := 12) (by (try simp only [Int32.lt_iff_toInt_lt, Int32.le_iff_toInt_le, ← Int32.toInt_inj, Int32.reduceToInt] at *) <;> omega) (by (try simp only [Int32.lt_iff_toInt_lt, Int32.le_iff_toInt_le, ← Int32.toInt_inj, Int32.reduceToInt] at *) <;> omega) (fun b => bZ_p (by omega))) (fun s7 h12 => ?_)
    have a13 := a9.trans h12.1
    have f14 : s7.1 k0 6 = s6.1 k0 6 := by rw [h12.2, wupI_n (by omega)]
    refine t_bind (t_pfI (B := (bZ k0)) (bZ_p (by omega))) (fun s8 h15 => ?_)
    have a16 := a13.trans h15.1
    exact t_some a16
  · exact t_some wA.refl
theorem wX4_readValue_j34_Z {kk : Nat} {s : wS}  : Tot (wX4_readValue_j34 s) (fun (r : wS) => wA (bZ kk) s r) := by
  unfold wX4_readValue_j34
  refine t_bind ((wX9_fail_Z (kk := kk))) (fun s7 h1 => ?_)
  exact t_some h1
theorem wX4_readValue_j111_Z {k100 : Nat} {y1 : Int32} {s : wS} (hk100 : wkd k100 = 3) : Tot (wX4_readValue_j111 k100 y1 s) (fun (r : wS) => wA (bZ k100) s r) := by
  unfold wX4_readValue_j111
  refine t_bind (wX3_put_Z hk100) (fun s15 h1 => ?_)
  refine t_bind ((wX9_skip_Z (kk := k100))) (fun s18 h2 => ?_)
  have a3 := h1.trans h2
  exact t_some a3
theorem wX4_readValue_j67_Z {k2 : Nat} {x3 : Int32} {x4 : Int32} {s : wS} (hk2 : wkd k2 = 3) : Tot (wX4_readValue_j67 k2 x3 x4 s) (fun (r : wS) => wA (bZ k2) s r) := by
  unfold wX4_readValue_j67
  refine t_ite (fun c1 => ?_) (fun c1 => ?_)
  · refine t_bind (t_pfI (B := (bZ k2)) rfl) (fun s12 h2 => ?_)
    refine t_ite (fun c3 => ?_) (fun c3 => ?_)
    · exact t_mono (wX4_readValue_j111_Z hk2) (fun r h => (h2.1.trans h))
    · refine t_bind (wX9_number_T) (fun t20 h4 => ?_)
      exact t_mono (wX4_readValue_j111_Z hk2) (fun r h => (h2.1.trans h))
  · refine t_bind ((wX9_fail_Z (kk := k2))) (fun s23 h5 => ?_)
    exact t_some h5
theorem wX4_readValue_j42_Z {k2 : Nat} {x3 : Int32} {x4 : Int32} {s : wS} (hk2 : wkd k2 = 3) : Tot (wX4_readValue_j42 k2 x3 x4 s) (fun (r : wS) => wA (bZ k2) s r) := by
  unfold wX4_readValue_j42
  refine t_ite (fun c1 => ?_) (fun c1 => ?_)
  · exact t_mono (wX4_readValue_j67_Z hk2) (fun r h => h)
  · refine t_bind (wX9_number_T) (fun t25 h2 => ?_)
    refine t_bind (wX10_isOutside_T) (fun t27 h3 => ?_)
    refine t_ite (fun c4 => ?_) (fun c4 => ?_)
    · exact t_mono (wX4_readValue_j67_Z hk2) (fun r h => h)
    · refine t_bind ((wX9_fail_Z (kk := k2))) (fun s31 h5 => ?_)
      exact t_some h5
theorem wX4_readValue_j15_Z {k2 : Nat} {x3 : Int32} {y0 : Int32} {s : wS} (hk2 : wkd k2 = 3) : Tot (wX4_readValue_j15 k2 x3 y0 s) (fun (r : wS) => wA (bZ k2) s r) := by
  unfold wX4_readValue_j15
  refine t_ite (fun c1 => ?_) (fun c1 => ?_)
  · refine t_ite (fun c2 => ?_) (fun c2 => ?_)
    · exact t_mono ((wX4_readValue_j34_Z (kk := k2))) (fun r h => h)
    · refine t_ite (fun c3 => ?_) (fun c3 => ?_)
      · exact t_mono ((wX4_readValue_j34_Z (kk := k2))) (fun r h => h)
      · exact t_mono (wX4_readValue_j42_Z hk2) (fun r h => h)
  · exact t_mono (wX4_readValue_j42_Z hk2) (fun r h => h)
theorem wX4_readValue_Z {k2 : Nat} {s : wS} (hk2 : wkd k2 = 3) : Tot (wX4_readValue k2 s) (fun (r : wS) => wA (bZ k2) s r) := by
  unfold wX4_readValue
  refine t_bind (wX9_sign_T) (fun t1 h1 => ?_)
  refine t_ite (fun c2 => ?_) (fun c2 => ?_)
  · exact t_mono (wX4_readValue_j15_Z hk2) (fun r h => h)
  · exact t_mono (wX4_readValue_j15_Z hk2) (fun r h => h)
theorem wX4_readSum_h11_Z {k2 : Nat} (hk2 : wkd k2 = 3)  : ∀ (n : Nat) {x3 : Int32} {x4 : Int32} {s : wS}, 2147483648 - x4.toInt < (n : Int) → Tot (wX4_readSum_h11 k2 n x3 x4 s) (Sum.elim (fun (r : Int32 × wS) => wA (bZ k2) s r.2) (fun (r : Int32 × wS) => wA (bZ k2) s r.2)) := by
  intro n
  induction n with
  | zero =>
    intro x3 x4 s hm
    exact (t_m0 hm).elim
  | succ n ih =>
    intro x3 x4 s hm
    rw [wX4_readSum_h11]
    refine t_ite (fun c1 => ?_) (fun c1 => ?_)
    · refine t_bind (wX9_sign_T) (fun t5 h2 => ?_)
      refine t_ite (fun c3 => ?_) (fun c3 => ?_)
      · exact t_some wA.refl
      · refine t_ite (fun c4 => ?_) (fun c4 => ?_)
        · exact t_some wA.refl
        · refine t_bind ((wX9_skip_Z (kk := k2))) (fun s10 h5 => ?_)
          refine t_ite (fun c6 => ?_) (fun c6 => ?_)
          · unfold wX4_readSum_j60
            refine t_bind (wX4_readValue_Z hk2) (fun s14 h7 => ?_)
            have a8 := h5.trans h7
            refine t_bind (wX3_put_Z hk2) (fun s17 h9 => ?_)
            have a10 := a8.trans h9
            unfold wX4_readSum_j89
            exact t_mono (ih (t_m1 c1 hm)) (fun r h => match r, h with | .inl r, h => (a10.trans h) | .inr r, h => (a10.trans h))
          · refine t_ite (fun c11 => ?_) (fun c11 => ?_)
            · unfold wX4_readSum_j60
              refine t_bind (wX4_readValue_Z hk2) (fun s14 h12 => ?_)
              have a13 := h5.trans h12
              refine t_bind (wX3_put_Z hk2) (fun s17 h14 => ?_)
              have a15 := a13.trans h14
              unfold wX4_readSum_j89
              exact t_mono (ih (t_m1 c1 hm)) (fun r h => match r, h with | .inl r, h => (a15.trans h) | .inr r, h => (a15.trans h))
            · refine t_bind (wX3_put_Z hk2) (fun s21 h16 => ?_)
              have a17 := h5.trans h16
              refine t_bind (wX4_readValue_Z hk2) (fun s24 h18 => ?_)
              have a19 := a17.trans h18
              unfold wX4_readSum_j89
              exact t_mono (ih (t_m1 c1 hm)) (fun r h => match r, h with | .inl r, h => (a19.trans h) | .inr r, h => (a19.trans h))
    · exact t_some wA.refl
theorem wX4_readSum_j95_Z {k2 : Nat} {x3 : Int32} {s : wS} (hk2 : wkd k2 = 3) : Tot (wX4_readSum_j95 k2 x3 s) (fun (r : wS) => wA (bZ k2) s r) := by
  unfold wX4_readSum_j95
  refine t_bind (wX3_put_Z hk2) (fun s32 h1 => ?_)
  exact t_some h1
theorem wX4_readSum_Z {k2 : Nat} {s : wS} (hk2 : wkd k2 = 3) : Tot (wX4_readSum k2 s) (fun (r : wS) => wA (bZ k2) s r) := by
  unfold wX4_readSum
  refine t_bind (wX4_readValue_Z hk2) (fun s2 h1 => ?_)
  refine t_bind (wX4_readSum_h11_Z hk2 _   t_mi) (fun z26 h2 => ?_)
  rcases z26 with z26 | z26
  · obtain ⟨t27, s28⟩ := z26
    simp only [Sum.elim_inl, Sum.elim_inr] at h2
    dsimp only
    have a3 := h1.trans h2
    exact t_mono (wX4_readSum_j95_Z hk2) (fun r h => (a3.trans h))
  · obtain ⟨t34, s35⟩ := z26
    simp only [Sum.elim_inl, Sum.elim_inr] at h2
    dsimp only
    have a4 := h1.trans h2
    exact t_mono (wX4_readSum_j95_Z hk2) (fun r h => (a4.trans h))
theorem wX4_readTest_h13_Z {q : Nat → Int32 → wS → Option wS} {k2 : Nat} {x3 : Int32} (hq : ∀ s1, Tot (q k2 x3 s1) (fun r => wA (bZ k2) s1 r)) (hk2 : wkd k2 = 3)  : ∀ (n : Nat) {x4 : Int32} {x5 : Int32} {s : wS}, 2147483648 - x5.toInt < (n : Int) → Tot (wX4_readTest_h13 q k2 x3 n x4 x5 s) (fun (r : Int32 × wS) => wA (bZ k2) s r.2) := by
  intro n
  induction n with
  | zero =>
    intro x4 x5 s hm
    exact (t_m0 hm).elim
  | succ n ih =>
    intro x4 x5 s hm
    rw [wX4_readTest_h13]
    refine t_ite (fun c1 => ?_) (fun c1 => ?_)
    · refine t_bind ((wX9_take_Z (kk := k2))) (fun r3 h2 => ?_)
      obtain ⟨t5, s6⟩ := r3
      dsimp only at h2 ⊢
      refine t_ite (fun c4 => ?_) (fun c4 => ?_)
      · refine t_bind ((wX9_take_Z (kk := k2))) (fun r6 h5 => ?_)
        obtain ⟨t9, s10⟩ := r6
        dsimp only at h5 ⊢
        have a7 := h2.1.trans h5.1
        refine t_ite (fun c8 => ?_) (fun c8 => ?_)
        · exact t_some a7
        · refine t_ite (fun c9 => ?_) (fun c9 => ?_)
          · unfold wX4_readTest_j66
            refine t_bind (hq _) (fun s15 h10 => ?_)
            have a11 := a7.trans h10
            unfold wX4_readTest_j76
            exact t_mono (ih (t_m1 c1 hm)) (fun r h => (a11.trans h))
          · refine t_bind (wX3_put_Z hk2) (fun s18 h12 => ?_)
            have a13 := a7.trans h12
            unfold wX4_readTest_j66
            refine t_bind (hq _) (fun s15 h14 => ?_)
            have a15 := a13.trans h14
            unfold wX4_readTest_j76
            exact t_mono (ih (t_m1 c1 hm)) (fun r h => (a15.trans h))
      · refine t_bind (hq _) (fun s21 h16 => ?_)
        have a17 := h2.1.trans h16
        refine t_bind (wX3_put_Z hk2) (fun s24 h18 => ?_)
        have a19 := a17.trans h18
        unfold wX4_readTest_j76
        exact t_mono (ih (t_m1 c1 hm)) (fun r h => (a19.trans h))
    · exact t_some wA.refl
theorem wX4_readTest_j82_Z {q : Nat → Int32 → wS → Option wS} {k2 : Nat} {x4 : Int32} {s : wS} (hk2 : wkd k2 = 3) : Tot (wX4_readTest_j82 q k2 x4 s) (fun (r : wS) => wA (bZ k2) s r) := by
  unfold wX4_readTest_j82
  refine t_ite (fun c1 => ?_) (fun c1 => ?_)
  · exact t_some wA.refl
  · refine t_bind (wX3_put_Z hk2) (fun s33 h2 => ?_)
    exact t_some h2
theorem wX4_readTest_b_Z {q : Nat → Int32 → wS → Option wS} {k2 : Nat} {x3 : Int32} {s : wS} (hq : ∀ s1, Tot (q k2 x3 s1) (fun r => wA (bZ k2) s1 r)) (hk2 : wkd k2 = 3) : Tot (wX4_readTest_b q k2 x3 s) (fun (r : wS) => wA (bZ k2) s r) := by
  unfold wX4_readTest_b
  refine t_bind (hq _) (fun s2 h1 => ?_)
  refine t_bind (wX4_readTest_h13_Z hq hk2 _   t_mi) (fun r3 h2 => ?_)
  obtain ⟨t27, s28⟩ := r3
  dsimp only at h2 ⊢
  have a4 := h1.trans h2
  exact t_mono (wX4_readTest_j82_Z hk2) (fun r h => (a4.trans h))
theorem wX4_readFact_j153_Z {q : Nat → Int32 → wS → Option wS} {k2 : Nat} {x6 : Int32} {s : wS} (hk2 : wkd k2 = 3) : Tot (wX4_readFact_j153 q k2 x6 s) (fun (r : wS) => wA (bZ k2) s r) := by
  unfold wX4_readFact_j153
  refine t_bind (t_pfI (B := (bZ k2)) rfl) (fun s22 h1 => ?_)
  refine t_bind ((wX9_skip_Z (kk := k2))) (fun s24 h2 => ?_)
  have a3 := h1.1.trans h2
  refine t_bind (wX4_readSum_Z hk2) (fun s27 h4 => ?_)
  have a5 := a3.trans h4
  refine t_bind (wX3_put_Z hk2) (fun s30 h6 => ?_)
  have a7 := a5.trans h6
  exact t_some a7
theorem wX4_readFact_j131_Z {q : Nat → Int32 → wS → Option wS} {k2 : Nat} {x6 : Int32} {s : wS} (hk2 : wkd k2 = 3) : Tot (wX4_readFact_j131 q k2 x6 s) (fun (r : wS) => wA (bZ k2) s r) := by
  unfold wX4_readFact_j131
  refine t_bind ((wX9_fail_Z (kk := k2))) (fun s20 h1 => ?_)
  exact t_mono (wX4_readFact_j153_Z hk2) (fun r h => (h1.trans h))
theorem wX4_readFact_j45_Z {q : Nat → Int32 → wS → Option wS} {k2 : Nat} {x3 : Int32} {s : wS} (hk2 : wkd k2 = 3) (hq : (sv s = 22 ∨ sv s = 4) → ∀ s1, Tot (q k2 (x3 + 1) s1) (fun r => wA (bZ k2) s1 r)) : Tot (wX4_readFact_j45 q k2 x3 s) (fun (r : wS) => wA (bZ k2) s r) := by
  unfold wX4_readFact_j45
  refine t_bind (wX9_take_Z (kk := k2)) (fun r h1 => ?_)
  obtain ⟨t5, s6⟩ := r
  obtain ⟨h1, h2⟩ := h1
  dsimp only at h1 h2 ⊢
  refine t_ite (fun c5 => ?_) (fun c5 => ?_)
  · rcases h2 with ⟨h2, -⟩ | h2
    · rw [c5] at h2; exact absurd h2 (by decide)
    obtain ⟨-, rfl⟩ := Prod.mk.inj h2
    refine t_bind (wX9_take_Z (kk := k2)) (fun r h3 => ?_)
    obtain ⟨t9, s10⟩ := r
    obtain ⟨h3, h4⟩ := h3
    dsimp only at h3 h4 ⊢
    refine t_ite (fun c9 => ?_) (fun c9 => ?_)
    · refine t_bind (wX4_readSum_Z hk2) (fun s14 h14 => ?_)
      have a := h3.trans h14
      refine t_bind wX9_sign_T (fun t16 h16 => ?_)
      have z131 : Tot (wX4_readFact_j131 q k2 t16 s14) (fun (r : wS) => wA (bZ k2) s6 r) := t_mono (wX4_readFact_j131_Z hk2) (fun r h => a.trans h)
      refine t_ite (fun _ => z131) (fun _ => t_ite (fun _ => z131) (fun _ => t_ite (fun _ => ?_) (fun _ => ?_)))
      · exact t_mono (wX4_readFact_j153_Z hk2) (fun r h => a.trans h)
      · refine t_bind (wX9_fail_Z (kk := k2)) (fun s35 h35 => ?_)
        exact t_mono (wX4_readFact_j153_Z hk2) (fun r h => (a.trans h35).trans h)
    · have h5 : sv s6 = 4 := by
        rcases h4 with h4 | h4
        · exact h4.2
        · exact absurd (Prod.mk.inj h4).1 c9
      refine t_bind (wX4_readTest_b_Z (hq (Or.inr h5)) hk2) (fun s38 h38 => ?_)
      have a := h3.trans h38
      refine t_bind (wX9_take_Z (kk := k2)) (fun r h6 => ?_)
      obtain ⟨t40, s41⟩ := r
      obtain ⟨h6, -⟩ := h6
      dsimp only at h6 ⊢
      refine t_ite (fun _ => ?_) (fun _ => t_some (a.trans h6))
      exact t_bind (wX9_fail_Z (kk := k2)) (fun s45 h45 => t_some ((a.trans h6).trans h45))
  · have h5 : sv s = 22 := by
      rcases h2 with h4 | h4
      · exact h4.2
      · exact absurd (Prod.mk.inj h4).1 c5
    refine t_bind (hq (Or.inl h5) _) (fun s48 h48 => ?_)
    refine t_bind (wX3_put_Z hk2) (fun s51 h51 => t_some ((h1.trans h48).trans h51))
theorem wX4_readFact_b_Z {q : Nat → Int32 → wS → Option wS} {k2 : Nat} {x3 : Int32} {s : wS} (hk2 : wkd k2 = 3) (hq : x3 < 10 → ∀ s1, Tot (q k2 (x3 + 1) s1) (fun r => wA (bZ k2) s1 r)) : Tot (wX4_readFact_b q k2 x3 s) (fun (r : wS) => wA (bZ k2) s r) := by
  unfold wX4_readFact_b
  have j : Tot (wX4_readFact_j19 q k2 x3 s) (fun (r : wS) => wA (bZ k2) s r) := by
    unfold wX4_readFact_j19 wX4_readFact_j24
    refine t_ite (fun c => absurd c (by decide)) (fun _ => t_ite (fun c => wX4_readFact_j45_Z hk2 (fun _ => hq c)) (fun _ => ?_))
    exact t_bind (wX9_fail_Z (kk := k2)) (fun s55 h => t_some h)
  refine t_bind wX9_sign_T (fun t1 h1 => t_ite (fun _ => j) (fun c1 => t_ite (fun _ => j) (fun c2 => ?_)))
  unfold wX4_readFact_j24
  refine t_ite (fun _ => wX4_readFact_j45_Z hk2 (fun h => ?_)) (fun c => absurd rfl c)
  rw [← h1] at h
  rcases h with h | h
  · exact absurd h c1
  · exact absurd h c2
theorem wX4_readFact_Z : ∀ (n : Nat) {k : Nat} {a : Int32} {s : wS}, wkd k = 3 → 10 - a.toInt < (n : Int) → a.toInt ≤ 10 → Tot (wX4_readFact n k a s) (fun (r : wS) => wA (bZ k) s r) := by
  intro n
  induction n with
  | zero => intro k a s hk h1 h2; exfalso; omega
  | succ n ih =>
    intro k a s hk h1 h2
    rw [wX4_readFact]
    refine wX4_readFact_b_Z hk (fun c s1 => ?_)
    have e := t_inc c
    have h3 := t_lt c
    have e10 : (10 : Int32).toInt = 10 := rfl
    rw [e10] at h3
    exact ih hk (by rw [e]; omega) (by rw [e]; omega)
theorem wX4_readTest_Z {k : Nat} {s : wS} (hk : wkd k = 3) : Tot (wX4_readTest k 0 s) (fun (r : wS) => wA (bZ k) s r) := by
  unfold wX4_readTest
  exact wX4_readTest_b_Z (fun s1 => wX4_readFact_Z 16 hk (by decide) (by decide)) hk
theorem wX4_read_h14_Z {k2 : Nat} (hk2 : wkd k2 = 3)  : ∀ (n : Nat) {x3 : Int32} {x4 : Int32} {s : wS}, 2147483648 - x4.toInt < (n : Int) → Tot (wX4_read_h14 k2 n x3 x4 s) (fun (r : wS) => wA (bZ k2) s r) := by
  intro n
  induction n with
  | zero =>
    intro x3 x4 s hm
    exact (t_m0 hm).elim
  | succ n ih =>
    intro x3 x4 s hm
    rw [wX4_read_h14]
    refine t_ite (fun c1 => ?_) (fun c1 => ?_)
    · refine t_ite (fun c2 => ?_) (fun c2 => ?_)
      · exact t_some wA.refl
      · refine t_bind (wX9_sign_T) (fun t7 h3 => ?_)
        refine t_bind (wX4_kindOf_T) (fun t9 h4 => ?_)
        refine t_ite (fun c5 => ?_) (fun c5 => ?_)
        · refine t_bind ((wX9_fail_Z (kk := k2))) (fun s13 h6 => ?_)
          unfold wX4_read_j63
          refine t_bind ((wX9_skip_Z (kk := k2))) (fun s16 h7 => ?_)
          have a8 := h6.trans h7
          refine t_bind (wX4_readSum_Z hk2) (fun s19 h9 => ?_)
          have a10 := a8.trans h9
          refine t_bind ((wX9_take_Z (kk := k2))) (fun r12 h11 => ?_)
          obtain ⟨t21, s22⟩ := r12
          dsimp only at h11 ⊢
          have a13 := a10.trans h11.1
          refine t_ite (fun c14 => ?_) (fun c14 => ?_)
          · unfold wX4_read_j101
            refine t_bind (wX3_addClause_Z hk2) (fun s26 h15 => ?_)
            have a16 := a13.trans h15
            refine t_bind ((wX9_take_Z (kk := k2))) (fun r18 h17 => ?_)
            obtain ⟨t28, s29⟩ := r18
            dsimp only at h17 ⊢
            have a19 := a16.trans h17.1
            exact t_mono (ih (t_m1 c1 hm)) (fun r h => (a19.trans h))
          · refine t_bind (wX4_readTest_Z hk2) (fun s32 h20 => ?_)
            have a21 := a13.trans h20
            unfold wX4_read_j101
            refine t_bind (wX3_addClause_Z hk2) (fun s26 h22 => ?_)
            have a23 := a21.trans h22
            refine t_bind ((wX9_take_Z (kk := k2))) (fun r25 h24 => ?_)
            obtain ⟨t28, s29⟩ := r25
            dsimp only at h24 ⊢
            have a26 := a23.trans h24.1
            exact t_mono (ih (t_m1 c1 hm)) (fun r h => (a26.trans h))
        · refine t_ite (fun c27 => ?_) (fun c27 => ?_)
          · unfold wX4_read_j63
            refine t_bind ((wX9_skip_Z (kk := k2))) (fun s16 h28 => ?_)
            refine t_bind (wX4_readSum_Z hk2) (fun s19 h29 => ?_)
            have a30 := h28.trans h29
            refine t_bind ((wX9_take_Z (kk := k2))) (fun r32 h31 => ?_)
            obtain ⟨t21, s22⟩ := r32
            dsimp only at h31 ⊢
            have a33 := a30.trans h31.1
            refine t_ite (fun c34 => ?_) (fun c34 => ?_)
            · unfold wX4_read_j101
              refine t_bind (wX3_addClause_Z hk2) (fun s26 h35 => ?_)
              have a36 := a33.trans h35
              refine t_bind ((wX9_take_Z (kk := k2))) (fun r38 h37 => ?_)
              obtain ⟨t28, s29⟩ := r38
              dsimp only at h37 ⊢
              have a39 := a36.trans h37.1
              exact t_mono (ih (t_m1 c1 hm)) (fun r h => (a39.trans h))
            · refine t_bind (wX4_readTest_Z hk2) (fun s32 h40 => ?_)
              have a41 := a33.trans h40
              unfold wX4_read_j101
              refine t_bind (wX3_addClause_Z hk2) (fun s26 h42 => ?_)
              have a43 := a41.trans h42
              refine t_bind ((wX9_take_Z (kk := k2))) (fun r45 h44 => ?_)
              obtain ⟨t28, s29⟩ := r45
              dsimp only at h44 ⊢
              have a46 := a43.trans h44.1
              exact t_mono (ih (t_m1 c1 hm)) (fun r h => (a46.trans h))
          · refine t_bind ((wX9_fail_Z (kk := k2))) (fun s36 h47 => ?_)
            unfold wX4_read_j63
            refine t_bind ((wX9_skip_Z (kk := k2))) (fun s16 h48 => ?_)
            have a49 := h47.trans h48
            refine t_bind (wX4_readSum_Z hk2) (fun s19 h50 => ?_)
            have a51 := a49.trans h50
            refine t_bind ((wX9_take_Z (kk := k2))) (fun r53 h52 => ?_)
            obtain ⟨t21, s22⟩ := r53
            dsimp only at h52 ⊢
            have a54 := a51.trans h52.1
            refine t_ite (fun c55 => ?_) (fun c55 => ?_)
            · unfold wX4_read_j101
              refine t_bind (wX3_addClause_Z hk2) (fun s26 h56 => ?_)
              have a57 := a54.trans h56
              refine t_bind ((wX9_take_Z (kk := k2))) (fun r59 h58 => ?_)
              obtain ⟨t28, s29⟩ := r59
              dsimp only at h58 ⊢
              have a60 := a57.trans h58.1
              exact t_mono (ih (t_m1 c1 hm)) (fun r h => (a60.trans h))
            · refine t_bind (wX4_readTest_Z hk2) (fun s32 h61 => ?_)
              have a62 := a54.trans h61
              unfold wX4_read_j101
              refine t_bind (wX3_addClause_Z hk2) (fun s26 h63 => ?_)
              have a64 := a62.trans h63
              refine t_bind ((wX9_take_Z (kk := k2))) (fun r66 h65 => ?_)
              obtain ⟨t28, s29⟩ := r66
              dsimp only at h65 ⊢
              have a67 := a64.trans h65.1
              exact t_mono (ih (t_m1 c1 hm)) (fun r h => (a67.trans h))
    · exact t_some wA.refl
theorem wX4_read_j123_Z {kk : Nat} {s : wS}  : Tot (wX4_read_j123 s) (fun (r : wS) => wA (bZ kk) s r) := by
  unfold wX4_read_j123
  refine t_bind (wX9_sign_T) (fun t46 h1 => ?_)
  refine t_ite (fun c2 => ?_) (fun c2 => ?_)
  · exact t_some wA.refl
  · refine t_bind ((wX9_fail_Z (kk := kk))) (fun s50 h3 => ?_)
    exact t_some h3
theorem wX4_read_Z {k2 : Nat} {s : wS} (hk2 : wkd k2 = 3) : Tot (wX4_read k2 s) (fun (r : wS) => wA (bZ k2) s r) := by
  unfold wX4_read
  refine t_bind (t_pfI (B := (bZ k2)) rfl) (fun s1 h1 => ?_)
  refine t_bind (wX3_clear_Z hk2) (fun s3 h2 => ?_)
  have a3 := h1.1.trans h2
  refine t_bind (wX4_read_h14_Z hk2 _   t_mi) (fun s39 h4 => ?_)
  have a5 := a3.trans h4
  exact t_mono ((wX4_read_j123_Z (kk := k2))) (fun r h => (a5.trans h))
end
