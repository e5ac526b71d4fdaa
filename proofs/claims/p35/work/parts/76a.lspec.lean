/-! A LAW's text: what both sides read. -/
/-- a VALUE -/
noncomputable def vS (S P N : Nat → Int32) (k c : Nat) : Int32 ⊕ Int32 :=
  if S k = 2 then (if N k < 0 ∨ 99999 < N k then .inl (fl 1 (P k)) else if c = 60 then .inl (fl 3 (P k)) else .inr (100 + N k))
  else if S k < 23 ∨ 30 < S k then .inl (fl 0 (P k)) else if c = 60 then .inl (fl 3 (P k)) else .inr (S k)
noncomputable def wl (w : Int32) : List Int32 := if w = 0 then [] else [w]
noncomputable abbrev sC : Type := Nat × Nat × Int32 × List Int32
noncomputable abbrev sR : Type := Int32 ⊕ (Nat × Nat × List Int32)
/-- a SUM, behind its first VALUE -/
noncomputable def sst (S P N : Nat → Int32) (x : sC) : sC ⊕ sR :=
  if S x.1 = 8 ∨ S x.1 = 9 then (match vS S P N (x.1 + 1) x.2.1 with
    | .inl e => .inr (.inl e)
    | .inr v => .inl (x.1 + 2, x.2.1 + 1, x.2.2.1, x.2.2.2 ++ [v] ++ [S x.1]))
  else if S x.1 = 6 ∨ S x.1 = 7 then (match vS S P N (x.1 + 1) x.2.1 with
    | .inl e => .inr (.inl e)
    | .inr v => .inl (x.1 + 2, x.2.1 + 1, S x.1, x.2.2.2 ++ wl x.2.2.1 ++ [v]))
  else .inr (.inr (x.1, x.2.1, x.2.2.2 ++ wl x.2.2.1))
noncomputable def SumE (S P N : Nat → Int32) (k c : Nat) (o : List Int32) (r : sR) : Prop := (∃ e, vS S P N k c = .inl e ∧ r = .inl e) ∨ (∃ v, vS S P N k c = .inr v ∧ Ev (sst S P N) (k + 1, c + 1, 0, o ++ [v]) r)
theorem SumE.det {S P N : Nat → Int32} {k c : Nat} {o : List Int32} {r r' : sR} (h : SumE S P N k c o r) (g : SumE S P N k c o r') : r = r' := by
  rcases h with ⟨e, h1, h2⟩ | ⟨v, h1, h2⟩
  · rcases g with ⟨e', g1, g2⟩ | ⟨v', g1, g2⟩
    · rw [h1] at g1
      rw [h2, g2, Sum.inl.inj g1]
    · rw [h1] at g1; cases g1
  · rcases g with ⟨e', g1, g2⟩ | ⟨v', g1, g2⟩
    · rw [h1] at g1; cases g1
    · rw [h1] at g1
      obtain rfl := Sum.inr.inj g1
      exact h2.det g2
noncomputable def sumV (S P N : Nat → Int32) (k c : Nat) (o : List Int32) : sR := @Classical.epsilon sR ⟨.inl 0⟩ (fun r => SumE S P N k c o r)
theorem sumV_eq {S P N : Nat → Int32} {k c : Nat} {o : List Int32} {r : sR} (h : SumE S P N k c o r) : sumV S P N k c o = r := (Classical.epsilon_spec (p := fun r => SumE S P N k c o r) ⟨r, h⟩).det h
/-- only what a LAW's reading writes of its code -/
noncomputable def bLR (k2 k b : Nat) : Bool := (Nat.beq k 3 && (Nat.beq b 4 || Nat.beq b 5)) || ((Nat.beq k 8 && Nat.beq b 0) || ((Nat.beq k k2 && Nat.beq b 1) || Nat.beq k (k2 + 1)))
theorem bLR_n {k2 k b : Nat} (h1 : ¬ (k = 3 ∧ (b = 4 ∨ b = 5))) (h2 : ¬ (k = 8 ∧ b = 0)) (h3 : ¬ (k = k2 ∧ b = 1)) (h4 : k ≠ k2 + 1) : bLR k2 k b = false := by
  cases e : bLR k2 k b
  · rfl
  · exfalso
    simp only [bLR, Bool.or_eq_true, Bool.and_eq_true, Nat.beq_eq] at e
    omega
theorem bLR_p {k2 k b : Nat} (h : (k = 3 ∧ (b = 4 ∨ b = 5)) ∨ (k = 8 ∧ b = 0) ∨ (k = k2 ∧ b = 1) ∨ k = k2 + 1) : bLR k2 k b = true := by
  simp only [bLR, Bool.or_eq_true, Bool.and_eq_true, Nat.beq_eq]
  omega
/-- a sign of a LAW's code -/
noncomputable def okc (v : Int32) : Prop := (100 ≤ v.toInt ∧ v.toInt ≤ 100099) ∨ (20 ≤ v.toInt ∧ v.toInt ≤ 30) ∨ (6 ≤ v.toInt ∧ v.toInt ≤ 14)
/-- the code so far, what was counted -/
noncomputable def CK (k2 c : Nat) (o : List Int32) (s : wS) : Prop := ((s.1 8 0).toInt = c ∧ c ≤ 60) ∧ s.1 k2 1 = Int32.ofNat o.length ∧ ∀ i v, o[i]? = some v → s.1 (k2 + 1) i = v ∧ okc v
/-- a LAW's text is read, no fault yet -/
noncomputable def LSt (S P N : Nat → Int32) (K k2 k c : Nat) (o : List Int32) (s : wS) : Prop := CT S P N K k s ∧ s.1 3 5 = 0 ∧ CK k2 c o s
section LAWR
variable {S P N : Nat → Int32} {K k2 k c : Nat} {o : List Int32} {s : wS}
theorem CF.kk {e : Int32} {s' : wS} (h44 : 44 ≤ k2) (h : CF S P N K e s) (a : wA (fun k _ => Nat.beq k k2 || Nat.beq k (k2 + 1)) s s') : CF S P N K e s' := by
  have z : ∀ k b, k < 44 → s'.1 k b = s.1 k b := fun k b hk => a k b (by
    dsimp only
    rw [nq_false (by omega), nq_false (by omega)]
    rfl)
  exact h.go (funext fun b => z 4 b (by omega)) (funext fun b => z 5 b (by omega)) (funext fun b => z 6 b (by omega)) (funext fun b => z 3 b (by omega))
theorem put_T {v : Int32} : Tot (wX3_put k2 v s) (fun s' => wA (fun k _ => Nat.beq k k2 || Nat.beq k (k2 + 1)) s s') := by
  have h1 : ∀ b, (fun k (_ : Nat) => Nat.beq k k2 || Nat.beq k (k2 + 1)) (k2 + 1) b = true := fun b => by
    dsimp only
    rw [Nat.beq_refl, Bool.or_true]
  have h0 : ∀ b, (fun k (_ : Nat) => Nat.beq k k2 || Nat.beq k (k2 + 1)) k2 b = true := fun b => by
    dsimp only
    rw [Nat.beq_refl]
    rfl
  unfold wX3_put
  refine t_ite (fun _ => t_some wA.refl) (fun _ => t_ite (fun _ => t_some wA.refl) (fun c0 => t_ite (fun c1 => ?_) (fun _ => t_some wA.refl)))
  have a := t_ge c0
  have b := t_lt c1
  rw [t_i0] at a
  rw [show (400 : Int32).toInt = 400 from rfl] at b
  refine t_bind (t_stI (B := fun k _ => Nat.beq k k2 || Nat.beq k (k2 + 1)) (n := 400) a (by omega) h1) (fun s4 h4 => ?_)
  exact t_bind (t_pfI (B := fun k _ => Nat.beq k k2 || Nat.beq k (k2 + 1)) (h0 1)) (fun s5 h5 => t_some (h4.1.trans h5.1))
theorem put_F {e v : Int32} (h44 : 44 ≤ k2) (h : CF S P N K e s) : Tot (wX3_put k2 v s) (fun s' => CF S P N K e s') := t_mono put_T (fun _ a => h.kk h44 a)
theorem put_E {v : Int32} (h44 : 44 ≤ k2) (h : CK k2 c o s) (hv : ¬ v = 0) (hok : okc v) (hl : o.length < 400) : ∃ s', wX3_put k2 v s = some s' ∧ CK k2 c (o ++ [v]) s' ∧ wA (fun k b => (Nat.beq k k2 && Nat.beq b 1) || Nat.beq k (k2 + 1)) s s' := by
  obtain ⟨h1, h2, h3⟩ := h
  have el : (Int32.ofNat o.length).toInt = o.length := t_on (by omega)
  have en : (Int32.ofNat o.length).toNatClampNeg = o.length := t_nc (by omega)
  have e400 : (400 : Int32).toInt = 400 := rfl
  refine ⟨wupI (wupI s (k2 + 1) o.length v) k2 1 (Int32.ofNat (o.length + 1)), ?_, ⟨?_, ?_, fun i x hx => ?_⟩, ?_⟩
  · unfold wX3_put
    rw [if_neg hv, h2, if_neg (fun q => by have := t_lt q; rw [t_i0] at this; omega), if_pos (Int32.lt_iff_toInt_lt.2 (by omega)), wst_E (by omega) (by omega), t_sbe, en, wupI_n (by omega), h2]
    have : Int32.ofNat o.length + 1 = Int32.ofNat (o.length + 1) := Int32.toInt_inj.1 (by rw [t_p1 (by omega) (by omega), el, t_on (by omega)]; rfl)
    rw [this]
    rfl
  · rw [wupI_n (by omega), wupI_n (by omega)]; exact h1
  · rw [wup_same, List.length_append]; rfl
  · rw [wupI_n (by omega), wupI_k]
    by_cases c : i = o.length
    · subst c
      rw [updI_s]
      rw [List.getElem?_append_right (Nat.le_refl _), Nat.sub_self] at hx
      rw [← Option.some.inj hx]
      exact ⟨rfl, hok⟩
    · rw [updI_n c]
      have hi : i < o.length := by
        have := (List.getElem?_eq_some_iff.1 hx).1
        rw [List.length_append] at this
        have e1 : [v].length = 1 := rfl
        omega
      rw [List.getElem?_append_left hi] at hx
      exact h3 i x hx
  · refine (wA_I (B := fun k b => (Nat.beq k k2 && Nat.beq b 1) || Nat.beq k (k2 + 1)) ?_).trans (wA_I ?_)
    · rw [Nat.beq_refl, Bool.or_true]
    · rw [Nat.beq_refl]
      rfl
theorem LSt.ct (h : LSt S P N K k2 k c o s) : CT S P N K k s := h.1
theorem LSt.put {v : Int32} (h44 : 44 ≤ k2) (h : LSt S P N K k2 k c o s) (hok : okc v) (hl : o.length < 400) : Tot (wX3_put k2 v s) (fun s' => LSt S P N K k2 k c (o ++ [v]) s' ∧ wA (bLR k2) s s') := by
  obtain ⟨ct, h0, ck⟩ := h
  have hv : ¬ v = 0 := fun e => by unfold okc at hok; rw [e, t_i0] at hok; omega
  obtain ⟨s', e, ck', a⟩ := put_E h44 ck hv hok hl
  have z : ∀ k b, k < 44 → s'.1 k b = s.1 k b := fun k b hk => a k b (by
    dsimp only
    rw [nq_false (show k ≠ k2 by omega), nq_false (show k ≠ k2 + 1 by omega)]
    rfl)
  refine ⟨s', e, ⟨ct.go (funext fun b => z 4 b (by omega)) (funext fun b => z 5 b (by omega)) (funext fun b => z 6 b (by omega)) (z 3 3 (by omega)) (z 3 4 (by omega)), by rw [z 3 5 (by omega)]; exact h0, ck'⟩, a.mono (fun k b hb => ?_)⟩
  simp only [Bool.or_eq_true, Bool.and_eq_true, Nat.beq_eq] at hb
  exact bLR_p (by omega)
theorem LSt.putw {v : Int32} (h44 : 44 ≤ k2) (h : LSt S P N K k2 k c o s) (hw : v = 0 ∨ okc v) (hl : (o ++ wl v).length ≤ 400) : Tot (wX3_put k2 v s) (fun s' => LSt S P N K k2 k c (o ++ wl v) s' ∧ wA (bLR k2) s s') := by
  unfold wl at *
  by_cases c : v = 0
  · rw [if_pos c, List.append_nil]
    unfold wX3_put
    rw [if_pos c]
    exact t_some ⟨h, wA.refl⟩
  · rw [if_neg c] at hl ⊢
    rw [List.length_append] at hl
    have e1 : [v].length = 1 := rfl
    exact h.put h44 (hw.resolve_left c) (by omega)
theorem LSt.hr {j : Nat} (h44 : 44 ≤ k2) (h : LSt S P N K k2 k c o s) : LSt S P N K k2 j c o (hr s j) ∧ wA (bLR k2) s (hr s j) := by
  obtain ⟨ct, h0, h1, h2, h3⟩ := h
  refine ⟨⟨ct.hr, by rw [wup_nb (by decide)]; exact h0, by rw [wupI_n (by decide)]; exact h1, by rw [wupI_n (by omega)]; exact h2, by rw [wupI_n (by omega)]; exact h3⟩, wA_I (bLR_p (Or.inl ⟨rfl, Or.inl rfl⟩))⟩
theorem LSt.fail {x : Int32} (h : LSt S P N K k2 k c o s) (hk : k ≤ K) (hS : S K = 0) (hf : ¬ fl x (P k) = 0) : ∃ r, wX9_fail x s = some r ∧ CF S P N K (fl x (P k)) r := by
  obtain ⟨r, e1, e2, -⟩ := h.1.fault hk h.2.1 hS hf
  exact ⟨r, e1, e2⟩
/-- behind a fault nothing is read -/
theorem readValue_F {e : Int32} (h : CF S P N K e s) : wX4_readValue k2 s = some s := by
  unfold wX4_readValue
  rw [h.sign, t_sbe, if_neg (by decide)]
  unfold wX4_readValue_j15
  rw [if_pos rfl, if_pos (by decide)]
  unfold wX4_readValue_j34
  rw [h.fail]
  rfl
theorem readValue_E (h44 : 44 ≤ k2) (h : LSt S P N K k2 k c o s) (hk : k ≤ K) (hS : S K = 0) (pb : ∀ j, j ≤ K → 0 ≤ (P j).toInt ∧ (P j).toInt ≤ 400) (hl : o.length ≤ k) : Tot (wX4_readValue k2 s) (fun s' => (∃ e, vS S P N k c = .inl e ∧ CF S P N K e s') ∨ (∃ v, vS S P N k c = .inr v ∧ k < K ∧ ¬ v = 0 ∧ LSt S P N K k2 (k + 1) (c + 1) (o ++ [v]) s' ∧ wA (bLR k2) s s')) := by
  have hK := h.1.2.1.2
  obtain ⟨⟨hc, hc60⟩, -⟩ := h.2.2
  have nf : ∀ x : Int32, 0 ≤ x.toInt → x.toInt ≤ 7 → ¬ fl x (P k) = 0 := fun x a b => fl_0 a b (pb k hk).1 (pb k hk).2
  have bad : ∀ x : Int32, 0 ≤ x.toInt → x.toInt ≤ 7 → vS S P N k c = .inl (fl x (P k)) → Tot ((wX9_fail x s).bind fun s7 => some s7) (fun s' => (∃ e, vS S P N k c = .inl e ∧ CF S P N K e s') ∨ (∃ v, vS S P N k c = .inr v ∧ k < K ∧ ¬ v = 0 ∧ LSt S P N K k2 (k + 1) (c + 1) (o ++ [v]) s' ∧ wA (bLR k2) s s')) := by
    intro x a b hv
    obtain ⟨r, e1, e2⟩ := h.fail hk hS (nf x a b)
    rw [e1]
    exact t_some (Or.inl ⟨_, hv, e2⟩)
  have h60 : (s.1 8 0 < 60) ↔ ¬ c = 60 := by
    rw [Int32.lt_iff_toInt_lt, hc, show (60 : Int32).toInt = 60 from rfl]
    omega
  have good : ∀ v : Int32, vS S P N k c = .inr v → ¬ v = 0 → okc v → k < K → Tot (wX4_readValue_j111 k2 v (wupI s 8 0 (s.1 8 0 + 1))) (fun s' => (∃ e, vS S P N k c = .inl e ∧ CF S P N K e s') ∨ (∃ v, vS S P N k c = .inr v ∧ k < K ∧ ¬ v = 0 ∧ LSt S P N K k2 (k + 1) (c + 1) (o ++ [v]) s' ∧ wA (bLR k2) s s')) ∨ c = 60 := by
    intro v hv v0 vok hkK
    by_cases c6 : c = 60
    · exact Or.inr c6
    · left
      have e1 : (s.1 8 0 + 1).toInt = c + 1 := by rw [t_p1 (by omega) (by omega), hc]
      have h1 : LSt S P N K k2 k (c + 1) o (wupI s 8 0 (s.1 8 0 + 1)) := by
        obtain ⟨ct, h0, q1, q2, q3⟩ := h
        refine ⟨ct.go (wupI_n (by decide)) (wupI_n (by decide)) (wupI_n (by decide)) (by rw [wupI_n (by decide)]) (by rw [wupI_n (by decide)]), by rw [wupI_n (by decide)]; exact h0, ⟨by rw [wup_same]; exact e1, by omega⟩, by rw [wupI_n (by omega)]; exact q2, by rw [wupI_n (by omega)]; exact q3⟩
      unfold wX4_readValue_j111
      refine t_bind (h1.put h44 vok (by omega)) (fun s15 h15 => ?_)
      rw [skip_E h15.1.1 hk, if_pos hkK]
      have h2 := h15.1.hr (j := k + 1) h44
      exact t_some (Or.inr ⟨v, hv, hkK, v0, h2.1, ((wA_I (bLR_p (Or.inr (Or.inl ⟨rfl, rfl⟩)))).trans h15.2).trans h2.2⟩)
  have lt_K : ¬ S k = 0 → k < K := fun n => by
    by_cases q : k = K
    · rw [q, hS] at n; exact absurd rfl n
    · omega
  unfold wX4_readValue
  rw [sign_E h.1 hk, t_sbe]
  have e23 : (23 : Int32).toInt = 23 := rfl
  have e30 : (30 : Int32).toInt = 30 := rfl
  by_cases c2 : S k = 2
  · rw [if_pos c2]
    unfold wX4_readValue_j15
    rw [if_neg (by decide)]
    unfold wX4_readValue_j42
    rw [if_neg (by decide), number_E h.1 hk, t_sbe, isOutside_E]
    have e1 : (100000 : Int32).toInt = 100000 := rfl
    by_cases cN : N k < 0 ∨ 99999 < N k
    · rw [if_neg (fun q => by
        rcases cN with a | a
        · have := t_lt a; rw [t_i0] at this; omega
        · have := t_lt a; rw [show (99999 : Int32).toInt = 99999 from rfl] at this; omega), t_sbe, if_neg (by decide)]
      exact bad 1 (by decide) (by decide) (by unfold vS; rw [if_pos c2, if_pos cN])
    · have n0 := t_ge (fun q => cN (Or.inl q))
      have n1 := t_ge (fun q => cN (Or.inr q))
      rw [t_i0] at n0
      rw [show (99999 : Int32).toInt = 99999 from rfl] at n1
      rw [if_pos (by omega), t_sbe, if_pos rfl]
      unfold wX4_readValue_j67
      by_cases c6 : c = 60
      · rw [if_neg (fun q => (h60.1 q) c6)]
        exact bad 3 (by decide) (by decide) (by unfold vS; rw [if_pos c2, if_neg cN, if_pos c6])
      · rw [if_pos (h60.2 c6)]
        have ev : (100 + N k).toInt = 100 + (N k).toInt := by rw [t_add (by rw [show (100 : Int32).toInt = 100 from rfl]; omega) (by rw [show (100 : Int32).toInt = 100 from rfl]; omega)]; rfl
        have v0 : ¬ 100 + N k = 0 := fun q => by rw [q, t_i0] at ev; omega
        show Tot (if (1 : Int32) = 0 then wX4_readValue_j111 k2 (S k) (wupI s 8 0 (s.1 8 0 + 1)) else ((wX9_number (wupI s 8 0 (s.1 8 0 + 1))).bind fun t20 => wX4_readValue_j111 k2 (100 + t20) (wupI s 8 0 (s.1 8 0 + 1)))) _
        rw [if_neg (by decide), number_E (h.1.go (wupI_n (by decide)) (wupI_n (by decide)) (wupI_n (by decide)) (by rw [wupI_n (by decide)]) (by rw [wupI_n (by decide)])) hk, t_sbe]
        exact (good (100 + N k) (by unfold vS; rw [if_pos c2, if_neg cN, if_neg c6]) v0 (Or.inl (by omega)) (lt_K (by rw [c2]; decide))).resolve_right c6
  · rw [if_neg c2]
    unfold wX4_readValue_j15
    rw [if_pos rfl]
    unfold wX4_readValue_j34
    by_cases ca : S k < 23
    · rw [if_pos ca]
      exact bad 0 (by decide) (by decide) (by unfold vS; rw [if_neg c2, if_pos (Or.inl ca)])
    · rw [if_neg ca]
      by_cases cb : 30 < S k
      · rw [if_pos cb]
        exact bad 0 (by decide) (by decide) (by unfold vS; rw [if_neg c2, if_pos (Or.inr cb)])
      · rw [if_neg cb]
        unfold wX4_readValue_j42
        rw [if_pos rfl]
        unfold wX4_readValue_j67
        by_cases c6 : c = 60
        · rw [if_neg (fun q => (h60.1 q) c6)]
          exact bad 3 (by decide) (by decide) (by unfold vS; rw [if_neg c2, if_neg (fun q => q.elim ca cb), if_pos c6])
        · rw [if_pos (h60.2 c6)]
          have v0 : ¬ S k = 0 := fun q => ca (by rw [q]; decide)
          show Tot (if (0 : Int32) = 0 then wX4_readValue_j111 k2 (S k) (wupI s 8 0 (s.1 8 0 + 1)) else ((wX9_number (wupI s 8 0 (s.1 8 0 + 1))).bind fun t20 => wX4_readValue_j111 k2 (100 + t20) (wupI s 8 0 (s.1 8 0 + 1)))) _
          rw [if_pos rfl]
          exact (good (S k) (by unfold vS; rw [if_neg c2, if_neg (fun q => q.elim ca cb), if_neg c6]) v0 (Or.inr (Or.inl (by have a := t_ge ca; have b := t_ge cb; rw [e23] at a; rw [e30] at b; omega))) (lt_K v0)).resolve_right c6
end LAWR
