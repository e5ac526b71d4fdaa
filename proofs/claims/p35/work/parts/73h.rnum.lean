/-! The reference's NUMBERS, against the tokens. -/
theorem isDigit_E {G : wS} {i : Int32} {s : wS} (g : RG G s) (h : 0 ≤ i.toInt) : Tot (wX11_isDigit i s) (fun t => (t = 0 ∧ ¬ dg G i.toNatClampNeg) ∨ (t = 1 ∧ dg G i.toNatClampNeg)) := by
  have e48 : (48 : Int32).toInt = 48 := rfl
  have e57 : (57 : Int32).toInt = 57 := rfl
  have hr := bw_raw (G := G) (i := i.toNatClampNeg) (lo := 48) (hi := 57) g.2.2.2 (by decide) (by decide)
  have hT := g.2.2.1
  rw [t_cln h] at hr
  unfold wX11_isDigit
  rw [g.2.1]
  refine t_ite (fun c => ?_) (fun c => t_some (Or.inl ⟨rfl, fun q => c (Int32.lt_iff_toInt_lt.2 (hr.1 q).1)⟩))
  have hc := t_lt c
  refine t_bind (t_ldI (n := 400) h (by omega)) (fun t2 h2 => t_ite (fun c2 => t_some (Or.inl ⟨rfl, fun q => ?_⟩)) (fun c2 => ?_))
  · have h3 := t_lt c2
    rw [h2, g.1] at h3
    have := (hr.1 q).2.1
    omega
  · refine t_bind (t_ldI (n := 400) h (by omega)) (fun t4 h4 => t_ite (fun c4 => t_some (Or.inl ⟨rfl, fun q => ?_⟩)) (fun c4 => t_some (Or.inr ⟨rfl, hr.2 ⟨hc, ?_, ?_⟩⟩)))
    · have h3 := t_lt c4
      rw [h4, g.1] at h3
      have := (hr.1 q).2.2
      omega
    · have h3 := t_ge c2
      rw [h2, g.1] at h3
      exact h3
    · have h3 := t_ge c4
      rw [h4, g.1] at h3
      exact h3
theorem dg_raw {G : wS} {i : Nat} (hb : ∀ i, -128 ≤ (G.1 2 i).toInt ∧ (G.1 2 i).toInt ≤ 127) (h : dg G i) : G.1 2 i = bt G i := by
  have q := (bw_raw hb (by decide) (by decide)).1 h
  have e := bt_raw hb q.1
  rw [show (48 : Int32).toInt = 48 from rfl] at q
  rw [if_pos (by omega)] at e
  exact Int32.toInt_inj.1 e.symm
theorem numberHere_h34_E {G : wS} {x1 x2 x3 : Int32} {a : Nat} (ha : x3.toInt = a) : ∀ (f : Nat) {n e : Nat} {v : Int32} {s : wS}, RG G s → (s.1 152 12).toInt = n → a ≤ n → n ≤ e → (e : Int) ≤ (G.1 1 1).toInt → (∀ j, n ≤ j → j < e → dg G j) → ¬ dg G e → (e : Int) - n < f → Tot (wX11_numberHere_h34 x1 x2 x3 f v s) (fun r => r.2 = nxt s (Int32.ofNat e) ∧ (e - a ≤ 5 → r.1 = nv G n (e - n) v)) := by
  intro f
  induction f with
  | zero => intro n e v s g hn h0 h1 h2 h3 h4 hm; exfalso; omega
  | succ f ih =>
    intro n e v s g hn h0 h1 h2 h3 h4 hm
    have hT := g.2.2.1
    have hnn : (s.1 152 12).toNatClampNeg = n := by unfold Int32.toNatClampNeg; omega
    rw [wX11_numberHere_h34]
    refine t_bind (isDigit_E (i := s.1 152 12) g (by omega)) (fun t ht => ?_)
    rw [hnn] at ht
    refine t_ite (fun c => ?_) (fun c => ?_)
    · have hd : ¬ dg G n := (ht.resolve_right (fun q => by rw [q.1] at c; exact absurd c (by decide))).2
      obtain rfl : n = e := by
        by_cases q : n < e
        · exact absurd (h3 n (Nat.le_refl _) q) hd
        · omega
      refine t_some ⟨?_, fun _ => ?_⟩
      · have : Int32.ofNat n = s.1 152 12 := Int32.toInt_inj.1 (by rw [t_on (by omega), hn])
        rw [this]
        exact wup_id.symm
      · rw [Nat.sub_self]; rfl
    · have hd : dg G n := (ht.resolve_left (fun q => c q.1)).2
      have hne : n < e := by
        by_cases q : n = e
        · exact absurd (q ▸ hd) h4
        · omega
      have e1 : (s.1 152 12 + 1).toInt = n + 1 := by rw [t_p1 (by omega) (by omega), hn]
      have j : ∀ y, (e - a ≤ 5 → y = v * 10 + bt G n - 48) → Tot (wX11_numberHere_j75 (wX11_numberHere_h34 x1 x2 x3 f) x1 x2 x3 y s) (fun r => r.2 = nxt s (Int32.ofNat e) ∧ (e - a ≤ 5 → r.1 = nv G n (e - n) v)) := by
        intro y hy
        unfold wX11_numberHere_j75
        show Tot (wX11_numberHere_h34 x1 x2 x3 f y (nxt s (s.1 152 12 + 1))) _
        refine t_mono (ih (n := n + 1) (e := e) (v := y) g.nx (by rw [nx_n, e1]; rfl) (by omega) (by omega) h2 (fun j p q => h3 j (by omega) q) h4 (by omega)) (fun r hr => ⟨by rw [hr.1]; exact wup_wup, fun q => ?_⟩)
        rw [hr.2 q, hy q, show e - n = (e - (n + 1)) + 1 by omega]
        rfl
      have ed : (s.1 152 12 - x3).toInt = (n : Int) - a := by rw [t_sub (by omega) (by omega), hn, ha]
      refine t_ite (fun c5 => ?_) (fun c5 => ?_)
      · refine t_bind (t_ldI (n := 400) (by omega) (by omega)) (fun t15 h15 => j _ (fun _ => ?_))
        rw [h15, hnn, g.1, dg_raw g.2.2.2 hd, Int32.mul_comm]
      · have hc5 := t_ge c5
        rw [ed, show (5 : Int32).toInt = 5 from rfl] at hc5
        exact j _ (fun q => by omega)
/-- a fault's number -/
noncomputable abbrev fl (c p : Int32) : Int32 := (1 + (8 * p)) + c
theorem fl_i {c p : Int32} (c0 : 0 ≤ c.toInt) (c1 : c.toInt ≤ 7) (p0 : 0 ≤ p.toInt) (p1 : p.toInt ≤ 400) : (fl c p).toInt = 1 + 8 * p.toInt + c.toInt := by
  have e8 : (8 : Int32).toInt = 8 := rfl
  have e1 : (1 : Int32).toInt = 1 := rfl
  have q1 : (8 * p).toInt = 8 * p.toInt := by rw [t_mul (by rw [e8]; omega) (by rw [e8]; omega), e8]
  have q2 : (1 + 8 * p).toInt = 1 + 8 * p.toInt := by rw [t_add (by rw [e1, q1]; omega) (by rw [e1, q1]; omega), e1, q1]
  rw [t_add (by rw [q2]; omega) (by rw [q2]; omega), q2]
theorem fl_0 {c p : Int32} (c0 : 0 ≤ c.toInt) (c1 : c.toInt ≤ 7) (p0 : 0 ≤ p.toInt) (p1 : p.toInt ≤ 400) : ¬ fl c p = 0 := by
  intro e
  have := fl_i c0 c1 p0 p1
  rw [e, t_i0] at this
  omega
theorem fails_E {c p : Int32} {s : wS} (h : s.1 152 13 = 0) : wX11_fails c p s = some (0, wupI s 152 13 (fl c p)) := by
  unfold wX11_fails
  rw [if_pos h]
  rfl
/-- what a NUMBER in bounds wants -/
noncomputable def num (S P N : Nat → Int32) (k : Nat) (lo hi : Int32) : Option Int32 := if S k = 2 then (if N k < lo ∨ hi < N k then some (fl 1 (P k)) else none) else some (fl 0 (P k))
theorem TOKS.p0 {G : wS} {S P N : Nat → Int32} {E : Nat → Nat} {K k : Nat} (tk : TOKS G S P N E K) (hT : 0 ≤ (G.1 1 1).toInt) (hk : k ≤ K) : 0 ≤ (P k).toInt ∧ (P k).toInt ≤ (G.1 1 1).toInt := by
  obtain ⟨a1, a2, a3, a4, a5⟩ := tk
  by_cases h : k = K
  · rw [h, a4]; omega
  · obtain ⟨b1, b2, b3⟩ := a1 k (by omega)
    have := b2.le
    have := t_cln b1
    exact ⟨b1, by omega⟩
/-- the signs of a token, by its kind -/
theorem TOKS.kind {G : wS} {S P N : Nat → Int32} {E : Nat → Nat} {K k : Nat} (tk : TOKS G S P N E K) (hk : k ≤ K) : (k = K ∧ S k = 0 ∧ P k = G.1 1 1) ∨ (k < K ∧ TOK G (P k).toNatClampNeg (S k) (N k) (E k)) := by
  by_cases h : k = K
  · subst h
    exact Or.inl ⟨rfl, tk.2.2.1, tk.2.2.2.1⟩
  · exact Or.inr ⟨by omega, (tk.1 k (by omega)).2.1⟩
theorem WS_ge {G : wS} {p l : Nat} {t : Int32} (h : WS G p l t) : t = 1 ∨ (15 ≤ t.toInt ∧ t.toInt ≤ 30) := by
  rcases h with ⟨z, hz, e, -⟩ | ⟨e, -⟩
  · right
    rw [e, t15 hz]
    omega
  · exact Or.inl e
/-- a digit stands where a NUMBER is -/
theorem dg_S {G : wS} {S P N : Nat → Int32} {E : Nat → Nat} {K k : Nat} (tk : TOKS G S P N E K) (hT : 0 ≤ (G.1 1 1).toInt) (hk : k ≤ K) : dg G (P k).toNatClampNeg ↔ S k = 2 := by
  have e2 : (2 : Int32).toInt = 2 := rfl
  rcases tk.kind hk with ⟨_, h, hp⟩ | ⟨_, _, h | h | h⟩
  · rw [h]
    constructor
    · intro q
      have := dg_lt q
      rw [hp] at this
      have := t_cln hT
      omega
    · intro q; exact absurd q (by decide)
  · constructor
    · intro q
      exfalso
      have a := t_ge h.1.1
      have b := t_ge q.2
      rw [show (97 : Int32).toInt = 97 from rfl] at a
      rw [show (57 : Int32).toInt = 57 from rfl] at b
      omega
    · intro q
      rcases WS_ge h.2.2.2 with w | w
      · rw [w] at q; exact absurd q (by decide)
      · rw [q, e2] at w; omega
  · exact ⟨fun _ => h.2.2.2.1, fun _ => h.1⟩
  · constructor
    · intro q; exact absurd q h.2.1
    · intro q
      exfalso
      have := h.2.2.2.2.1
      rw [q] at this
      unfold bsg at this
      revert this
      repeat' (first | (intro q; exact absurd q (by decide)) | split)
theorem lt_S {G : wS} {S P N : Nat → Int32} {E : Nat → Nat} {K k : Nat} (tk : TOKS G S P N E K) (hk : k ≤ K) (h15 : 15 ≤ (S k).toInt) : lt G (P k).toNatClampNeg ∧ k < K := by
  rcases tk.kind hk with ⟨_, h, hp⟩ | ⟨hK, _, h | h | h⟩
  · rw [h, t_i0] at h15; omega
  · exact ⟨h.1, hK⟩
  · rw [h.2.2.2.1, show (2 : Int32).toInt = 2 from rfl] at h15; omega
  · have := bsg_le (bt G (P k).toNatClampNeg) (bt G ((P k).toNatClampNeg + 1))
    rw [← h.2.2.2.2.1] at this
    omega
theorem in_E {x lo hi : Int32} {s : wS} : wX11_in (x.toInt64) (lo.toInt64) (hi.toInt64) s = some (if x < lo ∨ hi < x then 0 else 1) := by
  have l : ∀ a b : Int32, (a.toInt64 < b.toInt64) ↔ a < b := fun a b => by
    rw [Int64.lt_iff_toInt_lt, Int32.lt_iff_toInt_lt, Int32.toInt_toInt64, Int32.toInt_toInt64]
  unfold wX11_in
  by_cases c1 : x < lo
  · rw [if_pos ((l _ _).2 c1), if_pos (Or.inl c1)]
  · rw [if_neg (fun q => c1 ((l _ _).1 q))]
    by_cases c2 : hi < x
    · rw [if_pos ((l _ _).2 c2), if_pos (Or.inr c2)]
    · rw [if_neg (fun q => c2 ((l _ _).1 q)), if_neg (fun q => q.elim c1 c2)]
theorem numberHere_E {G : wS} {S P N : Nat → Int32} {E : Nat → Nat} {K k n : Nat} {lo hi : Int32} {s : wS} (g : RG G s) (tk : TOKS G S P N E K) (hk : k ≤ K) (hn : (s.1 152 12).toInt = n) (sk : SK G n (P k).toNatClampNeg) (hw : s.1 152 13 = 0) (lo0 : 0 ≤ lo.toInt) : Tot (wX11_numberHere lo hi s) (fun r => (∃ e, num S P N k lo hi = some e ∧ r.1 = 0 ∧ r.2.1 152 13 = e) ∨ (num S P N k lo hi = none ∧ S k = 2 ∧ r = (1, wupI (nxt s (Int32.ofNat (E k))) 152 14 (N k)))) := by
  have hT := g.2.2.1
  obtain ⟨p0, pT⟩ := tk.p0 hT.1 hk
  have ep := t_oc p0
  have epc := t_cln p0
  have hd := dg_S tk hT.1 hk
  unfold wX11_numberHere
  rw [see_E g hn sk, ep]
  show Tot ((wX11_isDigit ((nxt s (P k)).1 152 12) (nxt s (P k))).bind fun t4 => if t4 = 0 then ((wX11_fails 0 ((nxt s (P k)).1 152 12) (nxt s (P k))).bind fun (t7, s8) => (wrtZ t7).bind fun t10 => some (t10, s8)) else ((wX11_numberHere_h34 lo hi ((nxt s (P k)).1 152 12) wFuel 0 (nxt s (P k))).bind fun (t18, s19) => (wpfI s19 152 14 t18).bind fun s20 => if 5 < ((s20.1 152 12) - ((nxt s (P k)).1 152 12)) then (wX11_numberHere_j117 ((nxt s (P k)).1 152 12) s20) else ((wX11_in ((t18 : Int32).toInt64) ((lo : Int32).toInt64) ((hi : Int32).toInt64) s20).bind fun t26 => if t26 = 0 then (wX11_numberHere_j117 ((nxt s (P k)).1 152 12) s20) else (wX11_numberHere_j126 s20)))) _
  rw [nx_n]
  have g' : RG G (nxt s (P k)) := g.nx
  have w' : (nxt s (P k)).1 152 13 = 0 := by rw [wup_nb (by decide)]; exact hw
  refine t_bind (isDigit_E g' p0) (fun t4 h4 => t_ite (fun c => ?_) (fun c => ?_))
  · have nd : ¬ S k = 2 := fun q => (h4.resolve_right (fun q => by rw [q.1] at c; exact absurd c (by decide))).2 (hd.2 q)
    rw [fails_E w']
    refine t_sb ?_
    dsimp only
    refine t_bind (t_rtZ (v := 0) (Or.inl rfl)) (fun t10 h10 => t_some (Or.inl ⟨fl 0 (P k), ?_, h10, wup_same⟩))
    unfold num
    rw [if_neg nd]
  · have yd : dg G (P k).toNatClampNeg := (h4.resolve_left (fun q => c q.1)).2
    have hS := hd.1 yd
    have hTOK : k < K ∧ TOK G (P k).toNatClampNeg (S k) (N k) (E k) := by
      rcases tk.kind hk with ⟨_, h, _⟩ | h
      · rw [h] at hS; exact absurd hS (by decide)
      · exact h
    have hle := hTOK.2.le
    obtain ⟨b0, h | h | h⟩ := hTOK.2
    · exfalso
      have a := t_ge h.1.1
      have b := t_ge yd.2
      rw [show (97 : Int32).toInt = 97 from rfl] at a
      rw [show (57 : Int32).toInt = 57 from rfl] at b
      omega
    · obtain ⟨d1, d2, d3, d4, d5⟩ := h
      refine t_bind (numberHere_h34_E (G := G) (a := (P k).toNatClampNeg) (by omega) wFuel (n := (P k).toNatClampNeg) (e := E k) (v := 0) g' (by rw [nx_n]; omega) (Nat.le_refl _) (by omega) hle.2 d2 d3 (by
        have e : ((wFuel : Nat) : Int) = 1099511627776 := rfl
        omega)) (fun r hr => ?_)
      obtain ⟨t18, s19⟩ := r
      obtain ⟨q1, q2⟩ := hr
      dsimp only at q1 q2 ⊢
      have q1' : s19 = nxt s (Int32.ofNat (E k)) := by rw [q1]; exact wup_wup
      subst q1'
      show Tot (if 5 < (((wupI (nxt s (Int32.ofNat (E k))) 152 14 t18).1 152 12) - P k) then (wX11_numberHere_j117 (P k) (wupI (nxt s (Int32.ofNat (E k))) 152 14 t18)) else ((wX11_in (t18.toInt64) (lo.toInt64) (hi.toInt64) (wupI (nxt s (Int32.ofNat (E k))) 152 14 t18)).bind fun t26 => if t26 = 0 then (wX11_numberHere_j117 (P k) (wupI (nxt s (Int32.ofNat (E k))) 152 14 t18)) else (wX11_numberHere_j126 (wupI (nxt s (Int32.ofNat (E k))) 152 14 t18)))) _
      have z12 : (wupI (nxt s (Int32.ofNat (E k))) 152 14 t18).1 152 12 = Int32.ofNat (E k) := by rw [wup_nb (by decide), nx_n]
      have z13 : (wupI (nxt s (Int32.ofNat (E k))) 152 14 t18).1 152 13 = 0 := by rw [wup_nb (by decide), wup_nb (by decide)]; exact hw
      have eE : (Int32.ofNat (E k)).toInt = E k := t_on (by omega)
      have ed : (Int32.ofNat (E k) - P k).toInt = (E k : Int) - (P k).toInt := by rw [t_sub (by omega) (by omega), eE]
      have bad : (N k < lo ∨ hi < N k) → Tot (wX11_numberHere_j117 (P k) (wupI (nxt s (Int32.ofNat (E k))) 152 14 t18)) (fun r => (∃ e, num S P N k lo hi = some e ∧ r.1 = 0 ∧ r.2.1 152 13 = e) ∨ (num S P N k lo hi = none ∧ S k = 2 ∧ r = (1, wupI (nxt s (Int32.ofNat (E k))) 152 14 (N k)))) := by
        intro hN
        unfold wX11_numberHere_j117
        rw [fails_E z13]
        refine t_sb ?_
        try dsimp only
        rw [if_pos rfl]
        refine t_some (Or.inl ⟨fl 1 (P k), ?_, rfl, wup_same⟩)
        unfold num
        rw [if_pos hS, if_pos hN]
      rw [z12]
      refine t_ite (fun c5 => ?_) (fun c5 => ?_)
      · have hc5 := t_lt c5
        rw [ed, show (5 : Int32).toInt = 5 from rfl] at hc5
        rw [if_pos (by omega)] at d5
        refine bad (Or.inl (Int32.lt_iff_toInt_lt.2 ?_))
        rw [d5, show (-1 : Int32).toInt = -1 from rfl]
        omega
      · have hc5 := t_ge c5
        rw [ed, show (5 : Int32).toInt = 5 from rfl] at hc5
        rw [if_neg (by omega)] at d5
        have ev : t18 = N k := by rw [q2 (by omega), d5]
        subst ev
        rw [in_E]
        by_cases cN : N k < lo ∨ hi < N k
        · rw [if_pos cN]
          refine t_sb ?_
          try dsimp only
          rw [if_pos rfl]
          exact bad cN
        · rw [if_neg cN]
          refine t_sb ?_
          try dsimp only
          rw [if_neg (by decide)]
          unfold wX11_numberHere_j126
          refine t_some (Or.inr ⟨?_, hS, rfl⟩)
          unfold num
          rw [if_pos hS, if_neg cN]
    · exact absurd yd h.2.1
