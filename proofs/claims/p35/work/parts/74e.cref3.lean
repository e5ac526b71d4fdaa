/-! The reference reads a COURT's whole text. -/
section CRG
variable {G : wS} {S P N : Nat → Int32} {E : Nat → Nat} {K k : Nat} {s : wS} {h : Int32} {r m : Nat} {R M : Nat → Int32}
theorem clauseHere_E {L : Int} (g : RS G S P N E K k s) (tk : TOKS G S P N E K) (rt : RT h r m R M s) (hL : (s.1 152 18).toInt = L) (hL2 : L = LN h r m) : Tot (wX11_clauseHere s) (fun q => RL2 G S P N E K (L + 1) (ccl S P N k h r m R M) q) := by
  unfold wX11_clauseHere
  rw [see_R g tk, t_sbe]
  dsimp only
  have g1 := g.at tk
  have rt1 := rt.nx (v := P k)
  have eqw : nxt (nxt s (P k)) (P k) = nxt s (P k) := wup_wup
  have L1 : ((nxt s (P k)).1 152 18).toInt = L := by rw [wup_nb (by decide)]; exact hL
  have hb : L < 24 := by
    have := rt.2.2.2.1
    rw [hL2]
    unfold LN
    by_cases c : h = 0
    · rw [if_pos c]; omega
    · rw [if_neg c]; omega
  have l0 : 0 ≤ L := by
    rw [hL2]
    unfold LN
    by_cases c : h = 0
    · rw [if_pos c]; omega
    · rw [if_neg c]; omega
  rw [if_pos rt1.2.2.1, nx_n]
  unfold wX11_clauseHere_j24
  rw [isWord_R (c := 1919902052) (z := 2) g1 tk rfl (by decide), t_sbe, eqw]
  dsimp only
  have e15 : Int32.ofNat (15 + 0) = 15 := rfl
  have e17 : Int32.ofNat (15 + 2) = 17 := rfl
  have e18 : Int32.ofNat (15 + 3) = 18 := rfl
  rw [e17]
  -- the LINE itself
  have line : (S k = 15 ∨ S k = 17 ∨ S k = 18) → Tot (wX11_clauseHere_j65 (P k) 1 (nxt s (P k))) (fun q => RL2 G S P N E K (L + 1) (ccl S P N k h r m R M) q) := by
    intro hw
    unfold wX11_clauseHere_j65 wX11_clauseHere_j70
    rw [if_neg (by decide), if_neg (by decide)]
    unfold wX11_clauseHere_j97
    have e24 : (24 : Int32).toInt = 24 := rfl
    rw [if_neg (fun q => by have := congrArg Int32.toInt q; rw [e24] at this; omega)]
    have e1 : ((nxt s (P k)).1 152 18 + 1).toInt = L + 1 := by rw [t_p1 (by omega) (by omega), L1]
    show Tot ((wX11_courtLineHere (P k) (wupI (nxt s (P k)) 152 18 ((nxt s (P k)).1 152 18 + 1))).bind _) _
    obtain ⟨a1, ⟨n, a2, a3⟩, a4, a5⟩ := g1
    refine t_bind (courtLineHere_E (L := L + 1) (k := k) (h := h) (r := r) (m := m) (R := R) (M := M) ⟨a1.go (wupI_n (by decide)) (wup_nb (by decide)), ⟨n, by rw [wup_nb (by decide)]; exact a2, a3⟩, by rw [wup_nb (by decide)]; exact a4, a5⟩ tk (rt1.go (wup_nb (by decide)) (wup_nb (by decide)) (wup_nb (by decide)) (wup_nb (by decide)) (wupI_n (by decide)) (wupI_n (by decide))) (by rw [wup_same]; exact e1) (by rw [hL2]) hw) (fun q hq => ?_)
    obtain ⟨t, u⟩ := q
    rcases hq with ⟨e, n1, q0, qe⟩ | ⟨c', n1, q0, h1⟩
    · dsimp only at q0 qe ⊢
      exact t_bind (t_rtZ (Or.inl q0)) (fun t10 h10 => t_some (Or.inl ⟨e, n1, h10.trans q0, qe⟩))
    · dsimp only at q0 h1 ⊢
      exact t_bind (t_rtZ (Or.inr q0)) (fun t10 h10 => t_some (Or.inr ⟨c', n1, h10.trans q0, h1⟩))
  by_cases c17 : S k = 17
  · rw [if_pos c17, if_neg (by decide)]
    exact line (Or.inr (Or.inl c17))
  · rw [if_neg c17, if_pos rfl, isWord_R (c := 7168366) (z := 3) g1 tk rfl (by decide), t_sbe, eqw]
    dsimp only
    rw [e18]
    by_cases c18 : S k = 18
    · rw [if_pos c18, if_neg (by decide)]
      exact line (Or.inr (Or.inr c18))
    · rw [if_neg c18, if_pos rfl, if_neg (by decide)]
      unfold wX11_clauseHere_j59
      rw [isWord_R (c := 448546566771) (z := 0) g1 tk rfl (by decide), t_sbe, eqw]
      dsimp only
      rw [e15]
      by_cases c15 : S k = 15
      · rw [if_pos c15, if_neg (by decide)]
        exact line (Or.inl c15)
      · rw [if_neg c15, if_pos rfl]
        unfold wX11_clauseHere_j70
        rw [if_pos rfl, fails_R g1, t_sbe]
        dsimp only
        refine t_bind (t_rtZ (v := 0) (Or.inl rfl)) (fun t10 h10 => t_some (Or.inl ⟨fl 0 (P k), ?_, h10, wup_same⟩))
        unfold ccl
        rw [if_neg c15, if_neg c17, if_neg c18]
/-- what a COURT's text comes to -/
noncomputable def RV (S P N : Nat → Int32) (c : cC) (q : Int32 × wS) : Prop := (∃ e, Ev (cst S P N) c (.inl e) ∧ q.1 = 0 ∧ q.2.1 152 13 = e) ∨ (∃ c' : cC, Ev (cst S P N) c (.inr c') ∧ q.1 = 1 ∧ RT c'.2.1 c'.2.2.1 c'.2.2.2.1 c'.2.2.2.2.1 c'.2.2.2.2.2 q.2)
theorem j125_F {e : Int32} {s : wS} (h : s.1 152 13 = e) (he : ¬ e = 0) : Tot (wX11_readsAll_j125 s) (fun q => q.1 = 0 ∧ q.2.1 152 13 = e) := by
  unfold wX11_readsAll_j125
  refine t_bind (t_pfI (B := fun _ _ => true) rfl) (fun s23 h23 => ?_)
  have z : s23.1 152 13 = e := by rw [h23.2, wup_nb (by decide)]; exact h
  rw [z, if_neg he]
  exact t_some ⟨rfl, z⟩
theorem RT.taped {s : wS} {v : Int32} (g : RT h r m R M s) : RT h r m R M (wupI s 152 1 v) := g.go (wup_nb (by decide)) (wup_nb (by decide)) (wup_nb (by decide)) (wup_nb (by decide)) (wupI_n (by decide)) (wupI_n (by decide))
theorem ccl_fl {e : Int32} (pb : ∀ j, j ≤ K → 0 ≤ (P j).toInt ∧ (P j).toInt ≤ 400) (tk : TOKS G S P N E K) (hk : k ≤ K) (h1 : ccl S P N k h r m R M = .inl e) : ¬ e = 0 := by
  have nf : ∀ j c, j ≤ K → 0 ≤ c.toInt → c.toInt ≤ 7 → ¬ fl c (P j) = 0 := fun j c hj a b => fl_0 a b (pb j hj).1 (pb j hj).2
  have nn : ∀ j lo hi e, j ≤ K → num S P N j lo hi = some e → ¬ e = 0 := by
    intro j lo hi e hj hn
    unfold num at hn
    by_cases c : S j = 2
    · rw [if_pos c] at hn
      by_cases d : N j < lo ∨ hi < N j
      · rw [if_pos d] at hn
        rw [← Option.some.inj hn]
        exact nf j 1 hj (by decide) (by decide)
      · rw [if_neg d] at hn; cases hn
    · rw [if_neg c] at hn
      rw [← Option.some.inj hn]
      exact nf j 0 hj (by decide) (by decide)
  have kK : ∀ x : Int32, S k = x → ¬ x = 0 → k + 1 ≤ K := fun x e n => tk.ne0 hk (by rw [e]; exact n)
  have kK2 : ∀ lo hi, k + 1 ≤ K → num S P N (k + 1) lo hi = none → k + 2 ≤ K := fun lo hi a b => tk.ne0 a (by rw [(num_i b).1]; decide)
  unfold ccl at h1
  by_cases c15 : S k = 15
  · have q := kK 15 c15 (by decide)
    rw [if_pos c15] at h1
    by_cases ch : h = 0
    · rw [if_pos ch] at h1
      rcases pre_num (S := S) (P := P) (N := N) (k := k + 1) (lo := 1) (hi := 8) with ⟨e', n1⟩ | n1
      · rw [n1] at h1
        dsimp only at h1
        rw [← Sum.inl.inj h1]
        exact nn _ _ _ _ q n1
      · rw [n1] at h1; cases h1
    · rw [if_neg ch] at h1
      rw [← Sum.inl.inj h1]
      exact nf k 4 hk (by decide) (by decide)
  · rw [if_neg c15] at h1
    by_cases c17 : S k = 17
    · have q := kK 17 c17 (by decide)
      rw [if_pos c17] at h1
      by_cases cr : r = 8
      · rw [if_pos cr] at h1
        rw [← Sum.inl.inj h1]
        exact nf k 4 hk (by decide) (by decide)
      · rw [if_neg cr] at h1
        rcases pre_num (S := S) (P := P) (N := N) (k := k + 1) (lo := 0) (hi := 99) with ⟨e', n1⟩ | n1
        · rw [n1] at h1
          dsimp only at h1
          rw [← Sum.inl.inj h1]
          exact nn _ _ _ _ q n1
        · rw [n1] at h1
          dsimp only at h1
          rcases pre_num (S := S) (P := P) (N := N) (k := k + 2) (lo := 0) (hi := 99) with ⟨e', n2⟩ | n2
          · rw [n2] at h1
            dsimp only at h1
            rw [← Sum.inl.inj h1]
            exact nn _ _ _ _ (kK2 _ _ q n1) n2
          · rw [n2] at h1; cases h1
    · rw [if_neg c17] at h1
      by_cases c18 : S k = 18
      · have q := kK 18 c18 (by decide)
        rw [if_pos c18] at h1
        by_cases cr : m = 8
        · rw [if_pos cr] at h1
          rw [← Sum.inl.inj h1]
          exact nf k 4 hk (by decide) (by decide)
        · rw [if_neg cr] at h1
          rcases pre_num (S := S) (P := P) (N := N) (k := k + 1) (lo := 0) (hi := 99) with ⟨e', n1⟩ | n1
          · rw [n1] at h1
            dsimp only at h1
            rw [← Sum.inl.inj h1]
            exact nn _ _ _ _ q n1
          · rw [n1] at h1
            dsimp only at h1
            rcases pre_num (S := S) (P := P) (N := N) (k := k + 2) (lo := 0) (hi := 9) with ⟨e', n2⟩ | n2
            · rw [n2] at h1
              dsimp only at h1
              rw [← Sum.inl.inj h1]
              exact nn _ _ _ _ (kK2 _ _ q n1) n2
            · rw [n2] at h1; cases h1
      · rw [if_neg c18] at h1
        rw [← Sum.inl.inj h1]
        exact nf k 0 hk (by decide) (by decide)
theorem ccl_go {c' : cC} (h1 : ccl S P N k h r m R M = .inr c') : k + 2 ≤ c'.1 := by
  unfold ccl at h1
  by_cases c15 : S k = 15
  · rw [if_pos c15] at h1
    by_cases ch : h = 0
    · rw [if_pos ch] at h1
      rcases pre_num (S := S) (P := P) (N := N) (k := k + 1) (lo := 1) (hi := 8) with ⟨e', n1⟩ | n1
      · rw [n1] at h1; cases h1
      · rw [n1] at h1
        rw [← Sum.inr.inj h1]
        exact Nat.le_refl _
    · rw [if_neg ch] at h1; cases h1
  · rw [if_neg c15] at h1
    by_cases c17 : S k = 17
    · rw [if_pos c17] at h1
      by_cases cr : r = 8
      · rw [if_pos cr] at h1; cases h1
      · rw [if_neg cr] at h1
        rcases pre_num (S := S) (P := P) (N := N) (k := k + 1) (lo := 0) (hi := 99) with ⟨e', n1⟩ | n1
        · rw [n1] at h1; cases h1
        · rw [n1] at h1
          dsimp only at h1
          rcases pre_num (S := S) (P := P) (N := N) (k := k + 2) (lo := 0) (hi := 99) with ⟨e', n2⟩ | n2
          · rw [n2] at h1; cases h1
          · rw [n2] at h1
            rw [← Sum.inr.inj h1]
            dsimp only
            omega
    · rw [if_neg c17] at h1
      by_cases c18 : S k = 18
      · rw [if_pos c18] at h1
        by_cases cr : m = 8
        · rw [if_pos cr] at h1; cases h1
        · rw [if_neg cr] at h1
          rcases pre_num (S := S) (P := P) (N := N) (k := k + 1) (lo := 0) (hi := 99) with ⟨e', n1⟩ | n1
          · rw [n1] at h1; cases h1
          · rw [n1] at h1
            dsimp only at h1
            rcases pre_num (S := S) (P := P) (N := N) (k := k + 2) (lo := 0) (hi := 9) with ⟨e', n2⟩ | n2
            · rw [n2] at h1; cases h1
            · rw [n2] at h1
              rw [← Sum.inr.inj h1]
              dsimp only
              omega
      · rw [if_neg c18] at h1; cases h1
theorem t_assoc {α β γ : Type} {x : Option α} {f : α → Option β} {g : β → Option γ} {Q : γ → Prop} (h : Tot (x.bind fun a => (f a).bind g) Q) : Tot ((x.bind f).bind g) Q := by
  cases x with
  | none => exact h
  | some a => exact h
theorem readsAll_L (tk : TOKS G S P N E K) (pb : ∀ j, j ≤ K → 0 ≤ (P j).toInt ∧ (P j).toInt ≤ 400) : ∀ (n : Nat) {c : cC} {s : wS}, RS G S P N E K c.1 s → RT c.2.1 c.2.2.1 c.2.2.2.1 c.2.2.2.2.1 c.2.2.2.2.2 s → (s.1 152 18).toInt = LN c.2.1 c.2.2.1 c.2.2.2.1 → (K : Int) - c.1 + 1 < n → Tot ((wX11_clauseHere s).bind fun (t6, s7) => (wX11_readsAll_h35 n t6 s7).bind fun (t19, s20) => wX11_readsAll_j66 t19 s20) (fun q => RV S P N c q) := by
  intro n
  induction n with
  | zero => intro c s g _ _ hm; exfalso; have := g.2.2.2; omega
  | succ n ih =>
    intro c s g rt hL hm
    refine t_bind (clauseHere_E g tk rt hL rfl) (fun q hq => ?_)
    obtain ⟨t6, s7⟩ := q
    dsimp only
    rw [wX11_readsAll_h35]
    rcases hq with ⟨e, n1, q0, qe⟩ | ⟨c', n1, q0, h1, h2, h3, h4⟩
    · dsimp only at q0 qe
      rw [if_pos q0, t_sbe]
      dsimp only
      unfold wX11_readsAll_j66 wX11_readsAll_j88
      rw [if_pos q0, if_pos q0]
      refine t_mono (j125_F qe (ccl_fl pb tk g.2.2.2 n1)) (fun q hq => Or.inl ⟨e, Ev.ret ?_, hq⟩)
      unfold cst
      rw [n1]
    · dsimp only at q0 h1 h2 h3
      have ne : ¬ t6 = 0 := by rw [q0]; decide
      rw [if_neg ne, see_R h1 tk, t_sbe]
      dsimp only
      have hk := h1.2.2.2
      have s3 := seen_S (c := 59) (g := 3) tk hk bsg_3 (by decide) (by decide) (by decide)
      have s0 := seen_n tk hk
      have g' := h1.at tk
      have eqw : nxt (nxt s7 (P c'.1)) (P c'.1) = nxt s7 (P c'.1) := wup_wup
      by_cases c3 : S c'.1 = 3
      · rw [if_pos (s3.2 c3)]
        obtain ⟨o1, o2⟩ := one_R h1 tk (by rw [c3]; decide) (by rw [c3]; decide) (by rw [c3]; decide) (by rw [c3]; decide)
        rw [nx_n, o2]
        have ex : wpfI (nxt s7 (P c'.1)) 152 12 (Int32.ofNat (E c'.1)) = some (nxt s7 (Int32.ofNat (E c'.1))) := congrArg some wup_wup
        rw [ex, t_sbe]
        have st : cst S P N c = .inl (c'.1 + 1, c'.2) := by
          unfold cst
          rw [n1]
          dsimp only
          rw [if_pos c3]
        have hmono := ccl_go n1
        have := ih (c := (c'.1 + 1, c'.2)) (h1.behind tk o1 rfl) h2.nx (by rw [wup_nb (by decide)]; exact h3.trans h4.symm) (by dsimp only; omega)
        refine t_assoc (t_mono this (fun q hq => ?_))
        rcases hq with ⟨e, a, b⟩ | ⟨d, a, b⟩
        · exact Or.inl ⟨e, Ev.step st a, b⟩
        · exact Or.inr ⟨d, Ev.step st a, b⟩
      · rw [if_neg (fun q => c3 (s3.1 q)), t_sbe]
        dsimp only
        unfold wX11_readsAll_j66
        rw [if_neg ne, see_R g' tk, t_sbe, eqw]
        dsimp only
        have fin0 : ∀ u : wS, RS G S P N E K c'.1 u → u.1 152 12 = P c'.1 → cst S P N c = .inr (.inl (fl 0 (P c'.1))) → Tot ((wX11_fails 0 (u.1 152 12) u).bind fun (t35, s36) => wX11_readsAll_j125 s36) (fun q => RV S P N c q) := by
          intro u gu h12 st
          rw [h12, fails_R gu, t_sbe]
          dsimp only
          exact t_mono (j125_F wup_same (fl_0 (by decide) (by decide) (pb _ hk).1 (pb _ hk).2)) (fun q hq => Or.inl ⟨_, Ev.ret st, hq⟩)
        by_cases c0 : S c'.1 = 0
        · rw [if_pos (s0.2 c0)]
          unfold wX11_readsAll_j88
          have h2' := h2.nx (v := P c'.1)
          obtain ⟨⟨d1, d2, d3⟩, d4, d5, d6, d7⟩ := h2'
          have er : (Int32.ofNat c'.2.2.1).toInt = c'.2.2.1 := t_on (by omega)
          have em : (Int32.ofNat c'.2.2.2.1).toInt = c'.2.2.2.1 := t_on (by omega)
          have zr : Int32.ofNat c'.2.2.1 = 0 ↔ c'.2.2.1 = 0 := ⟨fun q => by have := congrArg Int32.toInt q; rw [er, t_i0] at this; omega, fun q => by rw [q]; rfl⟩
          have zm : Int32.ofNat c'.2.2.2.1 = 0 ↔ c'.2.2.2.1 = 0 := ⟨fun q => by have := congrArg Int32.toInt q; rw [em, t_i0] at this; omega, fun q => by rw [q]; rfl⟩
          rw [if_neg ne, if_pos d5, d2, d3]
          have stb : (c'.2.2.1 = 0 ∨ c'.2.2.2.1 = 0) → cst S P N c = .inr (.inl (fl 0 (P c'.1))) := by
            intro q
            unfold cst
            rw [n1]
            dsimp only
            rw [if_neg c3, if_pos c0, if_pos q]
          by_cases cr : c'.2.2.1 = 0
          · rw [if_pos (zr.2 cr)]
            unfold wX11_readsAll_j115
            exact fin0 _ g' nx_n (stb (Or.inl cr))
          · rw [if_neg (fun q => cr (zr.1 q))]
            by_cases cm : c'.2.2.2.1 = 0
            · rw [if_pos (zm.2 cm)]
              unfold wX11_readsAll_j115
              exact fin0 _ g' nx_n (stb (Or.inr cm))
            · rw [if_neg (fun q => cm (zm.1 q))]
              unfold wX11_readsAll_j125
              show Tot (if (wupI (nxt s7 (P c'.1)) 152 1 0).1 152 13 = 0 then _ else _) _
              rw [wup_nb (by decide), if_pos g'.2.2.1]
              refine t_some (Or.inr ⟨c', Ev.ret ?_, rfl, (h2.nx).taped⟩)
              unfold cst
              rw [n1]
              dsimp only
              rw [if_neg c3, if_pos c0, if_neg (fun q => q.elim cr cm)]
        · rw [if_neg (fun q => c0 (s0.1 q))]
          have st : cst S P N c = .inr (.inl (fl 0 (P c'.1))) := by
            unfold cst
            rw [n1]
            dsimp only
            rw [if_neg c3, if_neg c0]
          rw [nx_n, fails_R g', t_sbe]
          dsimp only
          unfold wX11_readsAll_j88
          rw [if_pos rfl]
          exact t_mono (j125_F wup_same (fl_0 (by decide) (by decide) (pb _ hk).1 (pb _ hk).2)) (fun q hq => Or.inl ⟨_, Ev.ret st, hq⟩)
end CRG
