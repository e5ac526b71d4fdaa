/-! The reference reads FACTS and TESTS. -/
section RTE
variable {G : wS} {S P N : Nat → Int32} {E : Nat → Nat} {K t k c : Nat} {o q : List Int32} {s : wS}
theorem ro_91 {x : Int32} (h : x = 22 ∨ x = 4 ∨ x = 21 ∨ x = 20) : ro x = 91 ↔ x = 4 := by
  rcases h with rfl | rfl | rfl | rfl <;> decide
theorem STK_91 {f : Nat → Int32} : ∀ {q : List Int32}, STK q f → okq q → ((∃ i, i < q.length ∧ f i = 91) ↔ (4 : Int32) ∈ q) := by
  intro q
  induction q with
  | nil =>
    intro _ _
    constructor
    · rintro ⟨i, hi, -⟩; exact absurd hi (Nat.not_lt_zero i)
    · intro h; cases h
  | cons x q ih =>
    intro h hk
    have ih' := ih h.2 (fun y hy => hk y (List.mem_cons_of_mem _ hy))
    have hx := ro_91 (hk x (List.mem_cons_self))
    constructor
    · rintro ⟨i, hi, e⟩
      by_cases c : i = q.length
      · rw [c, h.1] at e
        rw [hx.1 e]
        exact List.mem_cons_self
      · have hi' : i < q.length := by
          have : (x :: q).length = q.length + 1 := rfl
          omega
        exact List.mem_cons_of_mem _ (ih'.1 ⟨i, hi', e⟩)
    · intro h4
      rcases List.mem_cons.1 h4 with e | e
      · exact ⟨q.length, Nat.lt_succ_self _, by rw [h.1]; exact hx.2 e.symm⟩
      · obtain ⟨i, hi, e'⟩ := ih'.2 e
        exact ⟨i, Nat.lt_succ_of_lt hi, e'⟩
theorem isInside_h2_E {l : Nat} (h20 : s.1 152 20 = Int32.ofNat l) (hl : l ≤ 400) : ∀ (n : Nat) {i : Nat} {x1 : Int32}, x1 = Int32.ofNat i → i ≤ l → l - i < n → Tot (wX11_isInside_h2 s n x1) (fun z => (z = .inl () ∧ ¬ ∃ j, i ≤ j ∧ j < l ∧ s.1 160 j = 91) ∨ (z = .inr () ∧ ∃ j, i ≤ j ∧ j < l ∧ s.1 160 j = 91)) := by
  intro n
  induction n with
  | zero => intro i x1 _ _ hm; exact absurd hm (by omega)
  | succ n ih =>
    intro i x1 hx hi hm
    have ei : x1.toInt = i := by rw [hx, t_on (by omega)]
    have ein : x1.toNatClampNeg = i := by rw [hx, t_nc (by omega)]
    have el : (Int32.ofNat l).toInt = l := t_on (by omega)
    rw [wX11_isInside_h2, h20]
    refine t_ite (fun c => ?_) (fun c => ?_)
    · have hc := t_lt c
      rw [ei, el] at hc
      rw [wld_E (by omega) (by omega), t_sbe, ein]
      refine t_ite (fun c9 => t_some (Or.inr ⟨rfl, i, Nat.le_refl _, by omega, c9⟩)) (fun c9 => ?_)
      have e1 : x1 + 1 = Int32.ofNat (i + 1) := Int32.toInt_inj.1 (by rw [t_p1 (by omega) (by omega), t_on (by omega), ei]; rfl)
      refine t_mono (ih e1 (by omega) (by omega)) (fun z hz => ?_)
      rcases hz with ⟨z1, z2⟩ | ⟨z1, j, z2, z3, z4⟩
      · refine Or.inl ⟨z1, ?_⟩
        rintro ⟨j, j1, j2, j3⟩
        by_cases hj : j = i
        · rw [hj] at j3; exact c9 j3
        · exact z2 ⟨j, by omega, j2, j3⟩
      · exact Or.inr ⟨z1, j, by omega, z3, z4⟩
    · have hc := t_ge c
      rw [ei, el] at hc
      refine t_some (Or.inl ⟨rfl, ?_⟩)
      rintro ⟨j, j1, j2, j3⟩
      omega
theorem isInside_E (tk : TOKS G S P N E K) (g : RTs G S P N E K t k c o q s) : wX11_isInside s = some (if (4 : Int32) ∈ q then 1 else 0) := by
  obtain ⟨g1, g2, g3, g4, g5, g6⟩ := id g
  have hk := g1.1.2.2.2
  have hK := tk.2.1
  have hT := g1.1.1.2.2.1
  have h91 := STK_91 g3 g5
  obtain ⟨z, e, h⟩ := isInside_h2_E (s := s) g2 (by omega) wFuel (i := 0) (x1 := 0) rfl (Nat.zero_le _) (by
    have e : wFuel = 1099511627776 := rfl
    omega)
  unfold wX11_isInside
  rw [e, t_sbe]
  rcases h with ⟨rfl, h⟩ | ⟨rfl, j, h1, h2, h3⟩
  · rw [if_neg (fun m => by
      obtain ⟨i, i1, i2⟩ := h91.2 m
      exact h ⟨i, Nat.zero_le _, i1, i2⟩)]
  · rw [if_pos (h91.1 ⟨j, h2, h3⟩)]
/-- something is opened -/
theorem opens_E {x : Int32} (tk : TOKS G S P N E K) (g : RTs G S P N E K t k c o q s) (hkK : k < K) (hn : s.1 152 12 = P k) : (deep q = 10 ∧ Tot (wX11_opens (ro x) s) (fun r => r.1 = 0 ∧ r.2.1 152 13 = fl 2 (P k))) ∨ (¬ deep q = 10 ∧ ∃ s', wX11_opens (ro x) s = some (1, s') ∧ RLw G S P N E K t k c o s' ∧ s'.1 152 20 = Int32.ofNat (q.length + 1) ∧ STK (x :: q) (s'.1 160) ∧ (s'.1 152 17).toInt = deep q + 1 ∧ s'.1 152 12 = P k ∧ wA (bLU t) s s') := by
  obtain ⟨g1, g2, g3, g4, g5, g6⟩ := id g
  have hK := tk.2.1
  have hT := g1.1.1.2.2.1
  have dl := deep_le (q := q)
  unfold wX11_opens
  by_cases c10 : deep q = 10
  · left
    refine ⟨c10, ?_⟩
    rw [if_pos (Int32.toInt_inj.1 (by rw [g4, c10]; rfl)), hn, fails_R g1.1, t_sbe]
    dsimp only
    exact t_bind (t_rtZ (v := 0) (Or.inl rfl)) (fun t5 h5 => t_some ⟨h5, wup_same⟩)
  · right
    refine ⟨c10, wupI (wupI (wupI s 152 17 (s.1 152 17 + 1)) 160 q.length (ro x)) 152 20 (Int32.ofNat (q.length + 1)), ?_, ⟨g1.1.go ?_ ?_ ?_ ?_, g1.2.go ?_ ?_ ?_ ?_⟩, wup_same, ?_, ?_, ?_, ?_⟩
    · rw [if_neg (fun e => c10 (by rw [e, show (10 : Int32).toInt = 10 from rfl] at g4; omega))]
      show ((wstI (wupI s 152 17 (s.1 152 17 + 1)) 160 400 ((wupI s 152 17 (s.1 152 17 + 1)).1 152 20) (ro x)).bind _) = _
      have z : (wupI s 152 17 (s.1 152 17 + 1)).1 152 20 = Int32.ofNat q.length := by rw [wup_nb (by decide)]; exact g2
      rw [z, wst_E (by rw [t_on (by omega)]; omega) (by rw [t_on (by omega)]; omega), t_sbe, t_nc (by omega)]
      have z' : (wupI (wupI s 152 17 (s.1 152 17 + 1)) 160 q.length (ro x)).1 152 20 = Int32.ofNat q.length := by rw [wupI_n (by decide)]; exact z
      rw [z']
      have : Int32.ofNat q.length + 1 = Int32.ofNat (q.length + 1) := Int32.toInt_inj.1 (by rw [t_p1 (by rw [t_on (by omega)]; omega) (by rw [t_on (by omega)]; omega), t_on (by omega), t_on (by omega)]; rfl)
      rw [this]
      rfl
    · rw [wupI_n (by decide), wupI_n (by decide), wupI_n (by decide)]
    · rw [wup_nb (by decide), wupI_n (by decide), wup_nb (by decide)]
    · rw [wup_nb (by decide), wupI_n (by decide), wup_nb (by decide)]
    · rw [wup_nb (by decide), wupI_n (by decide), wup_nb (by decide)]
    · rw [wup_nb (by decide), wupI_n (by decide), wup_nb (by decide)]
    · rw [wup_nb (by decide), wupI_n (by decide), wup_nb (by decide)]
    · rw [wupI_n (by decide), wupI_n (by decide), wupI_n (by decide)]
    · rw [wupI_n (by decide), wupI_n (by decide), wupI_n (by decide)]
    · rw [wupI_n (by decide), wupI_k]
      exact ⟨updI_s, STK.upd (Nat.le_refl _) (by rw [wupI_n (by decide)]; exact g3)⟩
    · rw [wup_nb (by decide), wupI_n (by decide), wup_same, t_p1 (by omega) (by omega), g4]
    · rw [wup_nb (by decide), wupI_n (by decide), wup_nb (by decide)]; exact hn
    · exact ((wA_I (bLU_p (by omega))).trans (wA_I (bLU_p (by omega)))).trans (wA_I (bLU_p (by omega)))
theorem bsg_4 (x d : Int32) : bsg x d = 4 ↔ x = 91 := by
  unfold bsg
  constructor
  · repeat' (first | (intro q; exact absurd q (by decide)) | (intro _; assumption) | split)
  · intro q; subst q; rfl
theorem bsg_5 (x d : Int32) : bsg x d = 5 ↔ x = 93 := by
  unfold bsg
  constructor
  · repeat' (first | (intro q; exact absurd q (by decide)) | (intro _; assumption) | split)
  · intro q; subst q; rfl
theorem RTs.at (g : RTs G S P N E K t k c o q s) (tk : TOKS G S P N E K) : RTs G S P N E K t k c o q (nxt s (P k)) ∧ wA (bLU t) s (nxt s (P k)) :=
  ⟨g.go ⟨g.1.1.at tk, g.1.2.nx⟩ (wup_nb (by decide)) (wupI_n (by decide)) (wup_nb (by decide)) g.2.2.2.2.2, wA_I (bLU_p (by omega))⟩
theorem fact_h2_E (tk : TOKS G S P N E K) : ∀ (n : Nat) {k : Nat} {q : List Int32} {s : wS}, RTs G S P N E K t k c o q s → K - k + 1 < n → Tot (wX11_fact_h2 n 1 s) (fun z => (∃ u e, (z = .inr (.inl u) ∨ z = .inr (.inr u)) ∧ u.1 152 13 = e ∧ Ev (tst S P N) (true, q, k, c, o) (.inl e)) ∨ (∃ u k' q', z = .inl u ∧ RTs G S P N E K t k' c o q' u ∧ wA (bLU t) s u ∧ k ≤ k' ∧ ¬ (S k' = 22 ∨ S k' = 4) ∧ q'.length + k ≤ q.length + k' ∧ ∀ r, Ev (tst S P N) (true, q', k', c, o) r → Ev (tst S P N) (true, q, k, c, o) r)) := by
  intro n
  induction n with
  | zero => intro k q s _ hm; exact absurd hm (by omega)
  | succ n ih =>
    intro k q s g hm
    have hk := g.1.1.2.2.2
    have hK := tk.2.1
    have hT := g.1.1.1.2.2.1
    obtain ⟨n', rfl⟩ : ∃ n', n = n' + 1 := ⟨n - 1, by omega⟩
    obtain ⟨ga, aa⟩ := g.at tk
    have eqw : nxt (nxt s (P k)) (P k) = nxt s (P k) := wup_wup
    have s4 := seen_S (c := 91) (g := 4) tk hk bsg_4 (by decide) (by decide) (by decide)
    rw [wX11_fact_h2, if_neg (by decide), see_R g.1.1 tk, t_sbe]
    dsimp only
    rw [isWord_R (c := 7237492) (z := 7) ga.1.1 tk rfl (by decide), t_sbe, eqw]
    dsimp only
    rw [show Int32.ofNat (15 + 7) = 22 from rfl]
    have push : ∀ x : Int32, (x = 22 ∨ x = 4) → S k = x → ¬ deep q = 10 → tst S P N (true, q, k, c, o) = .inl (true, x :: q, k + 1, c, o) := by
      intro x hx hS hd
      unfold tst
      dsimp only
      rw [if_pos rfl, if_pos (by rw [hS]; exact hx), if_neg hd, hS]
    have full : (S k = 22 ∨ S k = 4) → deep q = 10 → tst S P N (true, q, k, c, o) = .inr (.inl (fl 2 (P k))) := by
      intro hS hd
      unfold tst
      dsimp only
      rw [if_pos rfl, if_pos hS, if_pos hd]
    have dp : ∀ x : Int32, (x = 22 ∨ x = 4) → deep (x :: q) = deep q + 1 := by
      intro x hx
      show (if x = 22 ∨ x = 4 then 1 else 0) + deep q = _
      rw [if_pos hx, Nat.add_comm]
    -- behind what opens
    have go : ∀ (x : Int32) (s' : wS), (x = 22 ∨ x = 4) → S k = x → ¬ deep q = 10 → RLw G S P N E K t (k + 1) c o s' → s'.1 152 20 = Int32.ofNat (q.length + 1) → STK (x :: q) (s'.1 160) → (s'.1 152 17).toInt = deep q + 1 → wA (bLU t) s s' → Tot (wX11_fact_j72 (wX11_fact_h2 (n' + 1)) 1 s') (fun z => (∃ u e, (z = .inr (.inl u) ∨ z = .inr (.inr u)) ∧ u.1 152 13 = e ∧ Ev (tst S P N) (true, q, k, c, o) (.inl e)) ∨ (∃ u k' q', z = .inl u ∧ RTs G S P N E K t k' c o q' u ∧ wA (bLU t) s u ∧ k ≤ k' ∧ ¬ (S k' = 22 ∨ S k' = 4) ∧ q'.length + k ≤ q.length + k' ∧ ∀ r, Ev (tst S P N) (true, q', k', c, o) r → Ev (tst S P N) (true, q, k, c, o) r)) := by
      intro x s' hx hS hd g' h20 h160 h17 a'
      have lq : (x :: q).length = q.length + 1 := rfl
      have gl := g.2.2.2.2.2
      have hkK : k < K := tk.ne0 hk (by rw [hS]; rcases hx with r | r <;> rw [r] <;> decide)
      unfold wX11_fact_j72
      refine t_mono (ih (k := k + 1) (q := x :: q) ⟨g', by rw [lq]; exact h20, h160, by rw [h17, dp x hx]; rfl, fun y hy => ?_, by rw [lq]; omega⟩ (by omega)) (fun z hz => ?_)
      · rcases List.mem_cons.1 hy with e | e
        · rw [e]
          rcases hx with r | r
          · exact Or.inl r
          · exact Or.inr (Or.inl r)
        · exact g.2.2.2.2.1 y e
      · rcases hz with ⟨u, e, z1, z2, z3⟩ | ⟨u, k', q', z1, z2, z3, z4, z5, z6, z7⟩
        · exact Or.inl ⟨u, e, z1, z2, Ev.step (push x hx hS hd) z3⟩
        · exact Or.inr ⟨u, k', q', z1, z2, a'.trans z3, by omega, z5, by rw [lq] at z6; omega, fun r hr => Ev.step (push x hx hS hd) (z7 r hr)⟩
    by_cases c22 : S k = 22
    · rw [if_pos c22, if_neg (by decide)]
      have hkK : k < K := tk.ne0 hk (by rw [c22]; decide)
      show Tot ((wX11_opens (ro 22) (nxt s (P k))).bind _) _
      rcases opens_E (x := 22) tk ga hkK nx_n with ⟨d1, d2⟩ | ⟨d1, s', d2, d3, d4, d5, d6, d7, d8⟩
      · refine t_bind d2 (fun r hr => ?_)
        obtain ⟨t15, s16⟩ := r
        dsimp only at hr ⊢
        rw [if_pos hr.1]
        exact t_some (Or.inl ⟨s16, _, Or.inl rfl, hr.2, Ev.ret (full (Or.inl c22) d1)⟩)
      · rw [d2, t_sbe]
        dsimp only
        rw [if_neg (by decide)]
        obtain ⟨-, hpw⟩ := passWord_R d3.1 tk (by rw [c22]; decide) d7
        rw [hpw, t_sbe]
        refine go 22 _ (Or.inl rfl) c22 d1 ⟨d3.1.behind tk hkK rfl, d3.2.nx⟩ ?_ ?_ ?_ ((aa.trans d8).trans (wA_I (bLU_p (by omega))))
        · rw [wup_nb (by decide)]; exact d4
        · rw [wupI_n (by decide)]; exact d5
        · rw [wup_nb (by decide)]; exact d6
    · rw [if_neg c22, if_pos rfl]
      by_cases c4 : S k = 4
      · rw [if_pos (s4.2 c4)]
        have hkK : k < K := tk.ne0 hk (by rw [c4]; decide)
        show Tot ((wX11_opens (ro 4) (nxt s (P k))).bind _) _
        rcases opens_E (x := 4) tk ga hkK nx_n with ⟨d1, d2⟩ | ⟨d1, s', d2, d3, d4, d5, d6, d7, d8⟩
        · refine t_bind d2 (fun r hr => ?_)
          obtain ⟨t10, s11⟩ := r
          dsimp only at hr ⊢
          rw [if_pos hr.1]
          exact t_some (Or.inl ⟨s11, _, Or.inr rfl, hr.2, Ev.ret (full (Or.inr c4) d1)⟩)
        · rw [d2, t_sbe]
          dsimp only
          rw [if_neg (by decide)]
          obtain ⟨-, g5⟩ := step_R d3 tk (by rw [c4]; decide) (by rw [c4]; decide) (by rw [c4]; decide) (by rw [c4]; decide) d7
          show Tot (wX11_fact_j72 (wX11_fact_h2 (n' + 1)) 1 (wupI s' 152 12 (s'.1 152 12 + 1))) _
          refine go 4 _ (Or.inr rfl) c4 d1 g5 ?_ ?_ ?_ ((aa.trans d8).trans (wA_I (bLU_p (by omega))))
          · rw [wup_nb (by decide)]; exact d4
          · rw [wupI_n (by decide)]; exact d5
          · rw [wup_nb (by decide)]; exact d6
      · rw [if_neg (fun e => c4 (s4.1 e))]
        unfold wX11_fact_j72
        rw [wX11_fact_h2, if_pos rfl]
        exact t_some (Or.inr ⟨_, k, q, rfl, ga, aa, Nat.le_refl _, fun e => e.elim c22 c4, Nat.le_refl _, fun r hr => hr⟩)
theorem fact_E (ht : t < 6) (tk : TOKS G S P N E K) (g : RTs G S P N E K t k c o q s) : Tot (wX11_fact s) (fun p => (∃ e, p.1 = 0 ∧ p.2.1 152 13 = e ∧ Ev (tst S P N) (true, q, k, c, o) (.inl e)) ∨ (∃ k' c' o' q', p.1 = 1 ∧ RTs G S P N E K t k' c' o' q' p.2 ∧ wA (bLU t) s p.2 ∧ (k < k' ∧ o'.length + q'.length + k ≤ o.length + q.length + k') ∧ ∀ r, Ev (tst S P N) (false, (stl 3 q' o').1, k', c', (stl 3 q' o').2) r → Ev (tst S P N) (true, q, k, c, o) r)) := by
  have hk := g.1.1.2.2.2
  have hK := tk.2.1
  have hT := g.1.1.1.2.2.1
  unfold wX11_fact
  refine t_bind (fact_h2_E tk wFuel g (by
    have e : wFuel = 1099511627776 := rfl
    omega)) (fun z hz => ?_)
  rcases hz with ⟨u, e, z1, z2, z3⟩ | ⟨u, k', q', rfl, z2, z3, z4, z5, z6, z7⟩
  · rcases z1 with rfl | rfl
    · exact t_some (Or.inl ⟨e, rfl, z2, z3⟩)
    · exact t_some (Or.inl ⟨e, rfl, z2, z3⟩)
  · dsimp only
    have gl := z2.2.2.2.2.2
    refine t_bind (compare_E ht tk z2.1 (by omega)) (fun p hp => ?_)
    obtain ⟨t26, s27⟩ := p
    rcases hp with ⟨e, h1, q0, qe⟩ | ⟨k2, c2, o2, h1, q0, h2, h3, ⟨h4, h5, h6⟩⟩
    · dsimp only at q0 qe ⊢
      refine t_bind (t_rtZ (Or.inl q0)) (fun t29 h29 => t_some (Or.inl ⟨e, h29.trans q0, qe, z7 _ (Ev.ret ?_)⟩))
      rw [tst_cmp z5, h1]
    · dsimp only at q0 h2 h3 ⊢
      refine t_bind (t_rtZ (Or.inr q0)) (fun t29 h29 => t_some (Or.inr ⟨k2, c2, o2, q', h29.trans q0, z2.lt h3 h2 (by omega), z3.trans (h3.mono bLT_le_bLU), ⟨by omega, by omega⟩, fun r hr => z7 _ (Ev.step (c' := (false, (stl 3 q' o2).1, k2, c2, (stl 3 q' o2).2)) ?_ hr)⟩))
      rw [tst_cmp z5, h1]
theorem stl_len {m : Nat} : ∀ {q o : List Int32}, (stl m q o).2.length + (stl m q o).1.length = o.length + q.length := by
  intro q
  induction q with
  | nil => intro o; rfl
  | cons x q ih =>
    intro o
    show (if m ≤ stC x then stl m q (o ++ [x]) else (x :: q, o)).2.length + (if m ≤ stC x then stl m q (o ++ [x]) else (x :: q, o)).1.length = o.length + (q.length + 1)
    by_cases c : m ≤ stC x
    · rw [if_pos c, ih, List.length_append]
      show o.length + 1 + q.length = _
      omega
    · rw [if_neg c]; rfl
theorem stl_4 : ∀ {q o : List Int32}, okq q → (4 : Int32) ∈ q → ∃ p, (stl 1 q o).1 = 4 :: p := by
  intro q
  induction q with
  | nil => intro o _ h; cases h
  | cons x q ih =>
    intro o hk h
    have hx := hk x (List.mem_cons_self)
    by_cases c : x = 4
    · subst c
      exact ⟨q, by rw [stl_stop (by decide)]⟩
    · have h1 : 1 ≤ stC x := by
        rcases hx with r | r | r | r
        · rw [r]; decide
        · exact absurd r c
        · rw [r]; decide
        · rw [r]; decide
      have h4 : (4 : Int32) ∈ q := by
        rcases List.mem_cons.1 h with e | e
        · exact absurd e.symm c
        · exact e
      obtain ⟨p, e⟩ := ih (o := o ++ [x]) (fun y hy => hk y (List.mem_cons_of_mem _ hy)) h4
      refine ⟨p, ?_⟩
      show (if 1 ≤ stC x then stl 1 q (o ++ [x]) else (x :: q, o)).1 = _
      rw [if_pos h1]
      exact e
theorem closes_h5_E (ht : t < 6) (tk : TOKS G S P N E K) : ∀ (n : Nat) {k : Nat} {o q : List Int32} {s : wS}, RTs G S P N E K t k c o q s → K - k < n → Tot (wX11_closes_h5 n s) (fun s' => ∃ k' o' q', RTs G S P N E K t k' c o' q' s' ∧ wA (bLU t) s s' ∧ ¬ (S k' = 5 ∧ (4 : Int32) ∈ q') ∧ (k ≤ k' ∧ o'.length + q'.length ≤ o.length + q.length) ∧ ∀ r, Ev (tst S P N) (false, q', k', c, o') r → Ev (tst S P N) (false, q, k, c, o) r) := by
  intro n
  induction n with
  | zero => intro k o q s _ hm; exact absurd hm (by omega)
  | succ n ih =>
    intro k o q s g hm
    have hk := g.1.1.2.2.2
    have hK := tk.2.1
    have hT := g.1.1.1.2.2.1
    obtain ⟨ga, aa⟩ := g.at tk
    have gl := g.2.2.2.2.2
    have s5 := seen_S (c := 93) (g := 5) tk hk bsg_5 (by decide) (by decide) (by decide)
    rw [wX11_closes_h5, see_R g.1.1 tk, t_sbe]
    dsimp only
    by_cases c5 : S k = 5
    · rw [if_pos (s5.2 c5), isInside_E tk ga, t_sbe]
      by_cases c4 : (4 : Int32) ∈ q
      · rw [if_pos c4, if_neg (by decide)]
        obtain ⟨p, hp⟩ := stl_4 (o := o) g.2.2.2.2.1 c4
        refine t_bind (settles_E (m := 1) ht (by decide) (by decide) rfl tk ga) (fun s12 h12 => ?_)
        obtain ⟨h12, a12, n12⟩ := h12
        have sl := stl_len (m := 1) (q := q) (o := o)
        rw [hp] at h12 sl
        obtain ⟨r1, r2, r3, r4, r5, r6⟩ := h12
        have lp : ((4 : Int32) :: p).length = p.length + 1 := rfl
        rw [lp] at r2 r6 sl
        rw [nx_n] at n12
        obtain ⟨hkK, -⟩ := step_R r1 tk (by rw [c5]; decide) (by rw [c5]; decide) (by rw [c5]; decide) (by rw [c5]; decide) n12
        have d1 : deep (4 :: p) = deep p + 1 := by
          show (if (4 : Int32) = 22 ∨ (4 : Int32) = 4 then 1 else 0) + deep p = _
          rw [if_pos (Or.inr rfl), Nat.add_comm]
        rw [d1] at r4
        have dl := deep_le (q := p)
        have e1i : (1 : Int32).toInt = 1 := rfl
        have e20 : s12.1 152 20 - 1 = Int32.ofNat p.length := Int32.toInt_inj.1 (by
          rw [r2, t_sub (by rw [t_on (by omega), e1i]; omega) (by rw [t_on (by omega), e1i]; omega), t_on (by omega), t_on (by omega), e1i]
          omega)
        have e17 : (s12.1 152 17 - 1).toInt = deep p := by rw [t_sub (by rw [e1i]; omega) (by rw [e1i]; omega), e1i]; omega
        -- the three fields
        show Tot ((wX11_settles 3 (wupI (wupI (wupI s12 152 20 (s12.1 152 20 - 1)) 152 17 ((wupI s12 152 20 (s12.1 152 20 - 1)).1 152 17 - 1)) 152 12 ((wupI (wupI s12 152 20 (s12.1 152 20 - 1)) 152 17 ((wupI s12 152 20 (s12.1 152 20 - 1)).1 152 17 - 1)).1 152 12 + 1))).bind _) _
        have w17 : (wupI s12 152 20 (s12.1 152 20 - 1)).1 152 17 = s12.1 152 17 := wup_nb (by decide)
        rw [w17, e20]
        have h15 : RLw G S P N E K t k c (stl 1 q o).2 (wupI (wupI s12 152 20 (Int32.ofNat p.length)) 152 17 (s12.1 152 17 - 1)) := by
          refine ⟨r1.1.go ?_ ?_ ?_ ?_, r1.2.go ?_ ?_ ?_ ?_⟩
          · rw [wupI_n (by decide), wupI_n (by decide)]
          · rw [wup_nb (by decide), wup_nb (by decide)]
          · rw [wup_nb (by decide), wup_nb (by decide)]
          · rw [wup_nb (by decide), wup_nb (by decide)]
          · rw [wup_nb (by decide), wup_nb (by decide)]
          · rw [wup_nb (by decide), wup_nb (by decide)]
          · rw [wupI_n (by decide), wupI_n (by decide)]
          · rw [wupI_n (by decide), wupI_n (by decide)]
        have n15 : (wupI (wupI s12 152 20 (Int32.ofNat p.length)) 152 17 (s12.1 152 17 - 1)).1 152 12 = P k := by rw [wup_nb (by decide), wup_nb (by decide)]; exact n12
        obtain ⟨-, h16⟩ := step_R h15 tk (by rw [c5]; decide) (by rw [c5]; decide) (by rw [c5]; decide) (by rw [c5]; decide) n15
        have a16 : wA (bLU t) s12 (wupI (wupI (wupI s12 152 20 (Int32.ofNat p.length)) 152 17 (s12.1 152 17 - 1)) 152 12 ((wupI (wupI s12 152 20 (Int32.ofNat p.length)) 152 17 (s12.1 152 17 - 1)).1 152 12 + 1)) := ((wA_I (bLU_p (by omega))).trans (wA_I (bLU_p (by omega)))).trans (wA_I (bLU_p (by omega)))
        have g16 : RTs G S P N E K t (k + 1) c (stl 1 q o).2 p (wupI (wupI (wupI s12 152 20 (Int32.ofNat p.length)) 152 17 (s12.1 152 17 - 1)) 152 12 ((wupI (wupI s12 152 20 (Int32.ofNat p.length)) 152 17 (s12.1 152 17 - 1)).1 152 12 + 1)) := by
          refine ⟨h16, ?_, ?_, ?_, fun y hy => r5 y (List.mem_cons_of_mem _ hy), by omega⟩
          · rw [wup_nb (by decide), wup_nb (by decide), wup_same]
          · rw [wupI_n (by decide), wupI_n (by decide), wupI_n (by decide)]; exact r3.2
          · rw [wup_nb (by decide), wup_same]; exact e17
        refine t_bind (settles_E (m := 3) ht (by decide) (by decide) rfl tk g16) (fun s18 h18 => ?_)
        obtain ⟨h18, a18, -⟩ := h18
        have sl3 := stl_len (m := 3) (q := p) (o := (stl 1 q o).2)
        refine t_mono (ih h18 (by omega)) (fun s' hs => ?_)
        obtain ⟨k', o', q', f1, f2, f3, ⟨f4, f5⟩, f6⟩ := hs
        refine ⟨k', o', q', f1, (((aa.trans a12).trans a16).trans a18).trans f2, f3, ⟨by omega, by omega⟩, fun r hr => Ev.step (c' := (false, (stl 3 p (stl 1 q o).2).1, k + 1, c, (stl 3 p (stl 1 q o).2).2)) ?_ (f6 r hr)⟩
        unfold tst
        dsimp only
        rw [if_neg (by decide), if_pos ⟨c5, c4⟩, hp]
        rfl
      · rw [if_neg c4, if_pos rfl]
        exact t_some ⟨k, o, q, ga, aa, fun e => c4 e.2, ⟨Nat.le_refl _, Nat.le_refl _⟩, fun r hr => hr⟩
    · rw [if_neg (fun e => c5 (s5.1 e))]
      exact t_some ⟨k, o, q, ga, aa, fun e => c5 e.1, ⟨Nat.le_refl _, Nat.le_refl _⟩, fun r hr => hr⟩
theorem closes_E (ht : t < 6) (tk : TOKS G S P N E K) (g : RTs G S P N E K t k c o q s) : Tot (wX11_closes s) (fun s' => ∃ k' o' q', RTs G S P N E K t k' c o' q' s' ∧ wA (bLU t) s s' ∧ ¬ (S k' = 5 ∧ (4 : Int32) ∈ q') ∧ (k ≤ k' ∧ o'.length + q'.length ≤ o.length + q.length) ∧ ∀ r, Ev (tst S P N) (false, q', k', c, o') r → Ev (tst S P N) (false, (stl 3 q o).1, k, c, (stl 3 q o).2) r) := by
  have hk := g.1.1.2.2.2
  have hK := tk.2.1
  have hT := g.1.1.1.2.2.1
  unfold wX11_closes
  refine t_bind (settles_E (m := 3) ht (by decide) (by decide) rfl tk g) (fun s2 h2 => ?_)
  have sl3 := stl_len (m := 3) (q := q) (o := o)
  refine t_bind (closes_h5_E ht tk wFuel h2.1 (by
    have e : wFuel = 1099511627776 := rfl
    omega)) (fun s' hs => t_some ?_)
  obtain ⟨k', o', q', f1, f2, f3, ⟨f4, f5⟩, f6⟩ := hs
  exact ⟨k', o', q', f1, h2.2.1.trans f2, f3, ⟨f4, by omega⟩, f6⟩
theorem tested_h12_E (ht : t < 6) (tk : TOKS G S P N E K) : ∀ (n : Nat) {k c : Nat} {o q : List Int32} {s : wS}, RTs G S P N E K t k c o q s → K - k + 1 < n → Tot (wX11_tested_h12 n 1 s) (fun z => (∃ u e, z = .inr u ∧ u.1 152 13 = e ∧ Ev (tst S P N) (true, q, k, c, o) (.inl e)) ∨ (∃ u k' c' o' q', z = .inl u ∧ RTs G S P N E K t k' c' o' q' u ∧ wA (bLU t) s u ∧ ¬ (S k' = 5 ∧ (4 : Int32) ∈ q') ∧ (¬ S k' = 21 ∧ ¬ S k' = 20) ∧ (k ≤ k' ∧ o'.length + q'.length + k ≤ o.length + q.length + k') ∧ ∀ r, Ev (tst S P N) (false, q', k', c', o') r → Ev (tst S P N) (true, q, k, c, o) r)) := by
  intro n
  induction n with
  | zero => intro k c o q s _ hm; exact absurd hm (by omega)
  | succ n ih =>
    intro k c o q s g hm
    have hk := g.1.1.2.2.2
    have hK := tk.2.1
    have hT := g.1.1.1.2.2.1
    obtain ⟨n', rfl⟩ : ∃ n', n = n' + 1 := ⟨n - 1, by omega⟩
    rw [wX11_tested_h12, if_neg (by decide)]
    refine t_bind (fact_E ht tk g) (fun p hp => ?_)
    obtain ⟨t4, s5⟩ := p
    rcases hp with ⟨e, q0, qe, h1⟩ | ⟨k1, c1, o1, q1, q0, g1, a1, ⟨b1, b2⟩, h1⟩
    · dsimp only at q0 qe ⊢
      rw [if_pos q0]
      exact t_some (Or.inl ⟨s5, e, rfl, qe, h1⟩)
    · dsimp only at q0 g1 a1 ⊢
      rw [if_neg (by rw [q0]; decide)]
      refine t_bind (closes_E ht tk g1) (fun s9 h9 => ?_)
      obtain ⟨k2, o2, q2, g2, a2, f3, ⟨f4, f5⟩, f6⟩ := h9
      have hk2 := g2.1.1.2.2.2
      obtain ⟨ga, aa⟩ := g2.at tk
      have eqw : nxt (nxt s9 (P k2)) (P k2) = nxt s9 (P k2) := wup_wup
      have gl := g2.2.2.2.2.2
      -- and, or
      have go : ∀ (x : Int32) (m : Nat) (y : Int32), (x = 21 ∧ m = 2 ∧ y = 12) ∨ (x = 20 ∧ m = 1 ∧ y = 13) → S k2 = x → Tot (wX11_tested_j76 (wX11_tested_h12 (n' + 1)) 1 y (nxt s9 (P k2))) (fun z => (∃ u e, z = .inr u ∧ u.1 152 13 = e ∧ Ev (tst S P N) (true, q, k, c, o) (.inl e)) ∨ (∃ u k' c' o' q', z = .inl u ∧ RTs G S P N E K t k' c' o' q' u ∧ wA (bLU t) s u ∧ ¬ (S k' = 5 ∧ (4 : Int32) ∈ q') ∧ (¬ S k' = 21 ∧ ¬ S k' = 20) ∧ (k ≤ k' ∧ o'.length + q'.length + k ≤ o.length + q.length + k') ∧ ∀ r, Ev (tst S P N) (false, q', k', c', o') r → Ev (tst S P N) (true, q, k, c, o) r)) := by
        intro x m y hx hS
        have hx15 : 15 ≤ (S k2).toInt := by rw [hS]; rcases hx with ⟨r, -, -⟩ | ⟨r, -, -⟩ <;> rw [r] <;> decide
        have hxo : x = 22 ∨ x = 4 ∨ x = 21 ∨ x = 20 := by
          rcases hx with ⟨r, -, -⟩ | ⟨r, -, -⟩
          · exact Or.inr (Or.inr (Or.inl r))
          · exact Or.inr (Or.inr (Or.inr r))
        have hm13 : 1 ≤ m ∧ m ≤ 3 := by rcases hx with ⟨-, r, -⟩ | ⟨-, r, -⟩ <;> omega
        have hyr : y = ro x := by rcases hx with ⟨r, -, r'⟩ | ⟨r, -, r'⟩ <;> rw [r, r'] <;> rfl
        have hst : stC x = m := by rcases hx with ⟨r, r', -⟩ | ⟨r, r', -⟩ <;> rw [r, r'] <;> rfl
        have d0 : ∀ q, deep (x :: q) = deep q := fun q => by
          show (if x = 22 ∨ x = 4 then 1 else 0) + deep q = _
          rw [if_neg (by rcases hx with ⟨r, -, -⟩ | ⟨r, -, -⟩ <;> rw [r] <;> decide), Nat.zero_add]
        have st : tst S P N (false, q2, k2, c1, o2) = .inl (true, x :: (stl m q2 o2).1, k2 + 1, c1, (stl m q2 o2).2) := by
          unfold tst
          dsimp only
          rw [if_neg (by decide), if_neg f3]
          rcases hx with ⟨r, r', -⟩ | ⟨r, r', -⟩
          · rw [if_pos (by rw [hS, r]), r, r']
          · rw [if_neg (by rw [hS, r]; decide), if_pos (by rw [hS, r]), r, r']
        unfold wX11_tested_j76
        obtain ⟨hkK, hpw⟩ := passWord_R ga.1.1 tk hx15 nx_n
        rw [hpw, t_sbe, hyr, strength_E hxo, t_sbe, hst]
        have g25 : RTs G S P N E K t (k2 + 1) c1 o2 q2 (nxt (nxt s9 (P k2)) (Int32.ofNat (E k2))) := ga.go ⟨ga.1.1.behind tk hkK rfl, ga.1.2.nx⟩ (wup_nb (by decide)) (wupI_n (by decide)) (wup_nb (by decide)) (by omega)
        refine t_bind (settles_E (m := m) ht hm13.1 hm13.2 (t_on (by omega)) tk g25) (fun s30 h30 => ?_)
        obtain ⟨⟨r1, r2, r3, r4, r5, r6⟩, a30, -⟩ := h30
        have sl := stl_len (m := m) (q := q2) (o := o2)
        rw [r2, wst_E (by rw [t_on (by omega)]; omega) (by rw [t_on (by omega)]; omega), t_sbe, t_nc (by omega)]
        have z20 : (wupI s30 160 (stl m q2 o2).1.length (ro x)).1 152 20 = Int32.ofNat (stl m q2 o2).1.length := by rw [wupI_n (by decide)]; exact r2
        rw [z20]
        have e1 : Int32.ofNat (stl m q2 o2).1.length + 1 = Int32.ofNat ((stl m q2 o2).1.length + 1) := Int32.toInt_inj.1 (by rw [t_p1 (by rw [t_on (by omega)]; omega) (by rw [t_on (by omega)]; omega), t_on (by omega), t_on (by omega)]; rfl)
        rw [e1]
        show Tot (wX11_tested_h12 (n' + 1) 1 (wupI (wupI s30 160 (stl m q2 o2).1.length (ro x)) 152 20 (Int32.ofNat ((stl m q2 o2).1.length + 1)))) _
        have lx : (x :: (stl m q2 o2).1).length = (stl m q2 o2).1.length + 1 := rfl
        have g33 : RTs G S P N E K t (k2 + 1) c1 (stl m q2 o2).2 (x :: (stl m q2 o2).1) (wupI (wupI s30 160 (stl m q2 o2).1.length (ro x)) 152 20 (Int32.ofNat ((stl m q2 o2).1.length + 1))) := by
          refine ⟨⟨r1.1.go ?_ ?_ ?_ ?_, r1.2.go ?_ ?_ ?_ ?_⟩, wup_same, ?_, ?_, fun y hy => ?_, by rw [lx]; omega⟩
          · rw [wupI_n (by decide), wupI_n (by decide)]
          · rw [wup_nb (by decide), wupI_n (by decide)]
          · rw [wup_nb (by decide), wupI_n (by decide)]
          · rw [wup_nb (by decide), wupI_n (by decide)]
          · rw [wup_nb (by decide), wupI_n (by decide)]
          · rw [wup_nb (by decide), wupI_n (by decide)]
          · rw [wupI_n (by decide), wupI_n (by decide)]
          · rw [wupI_n (by decide), wupI_n (by decide)]
          · rw [wupI_n (by decide), wupI_k]
            exact ⟨updI_s, STK.upd (Nat.le_refl _) r3⟩
          · rw [wup_nb (by decide), wupI_n (by decide), d0]; exact r4
          · rcases List.mem_cons.1 hy with e | e
            · rw [e]; exact hxo
            · exact r5 y e
        have a33 : wA (bLU t) s (wupI (wupI s30 160 (stl m q2 o2).1.length (ro x)) 152 20 (Int32.ofNat ((stl m q2 o2).1.length + 1))) := (((((a1.trans a2).trans aa).trans (wA_I (bLU_p (by omega)))).trans a30).trans (wA_I (bLU_p (by omega)))).trans (wA_I (bLU_p (by omega)))
        refine t_mono (ih g33 (by omega)) (fun z hz => ?_)
        rcases hz with ⟨u, e, z1, z2, z3⟩ | ⟨u, k', c', o', q', z1, z2, z3, z4, z5, ⟨z6, z7⟩, z8⟩
        · exact Or.inl ⟨u, e, z1, z2, h1 _ (f6 _ (Ev.step st z3))⟩
        · exact Or.inr ⟨u, k', c', o', q', z1, z2, a33.trans z3, z4, z5, ⟨by omega, by rw [lx] at z7; omega⟩, fun r hr => h1 _ (f6 _ (Ev.step st (z8 r hr)))⟩
      have w6 : ∀ (u : wS) (f : Int32 × wS → Option (wS ⊕ wS)), u = nxt s9 (P k2) → (wX11_isWord 6385252 u).bind f = f (if S k2 = 21 then 1 else 0, nxt s9 (P k2)) := by
        intro u f hu
        rw [hu, isWord_R (c := 6385252) (z := 6) ga.1.1 tk rfl (by decide), t_sbe, eqw]
        rfl
      rw [isWord_R (c := 6385252) (z := 6) g2.1.1 tk rfl (by decide), t_sbe]
      dsimp only
      rw [show Int32.ofNat (15 + 6) = 21 from rfl]
      by_cases c21 : S k2 = 21
      · rw [if_pos c21, if_neg (by decide)]
        unfold wX11_tested_j49 wX11_tested_j54
        rw [if_neg (by decide), w6 _ _ rfl, if_pos c21]
        dsimp only
        rw [if_neg (by decide)]
        exact go 21 2 12 (Or.inl ⟨rfl, rfl, rfl⟩) c21
      · rw [if_neg c21, if_pos rfl, isWord_R (c := 28530) (z := 5) ga.1.1 tk rfl (by decide), t_sbe, eqw]
        dsimp only
        rw [show Int32.ofNat (15 + 5) = 20 from rfl]
        by_cases c20 : S k2 = 20
        · rw [if_pos c20, if_neg (by decide)]
          unfold wX11_tested_j49 wX11_tested_j54
          rw [if_neg (by decide), w6 _ _ rfl, if_neg c21]
          dsimp only
          rw [if_pos rfl]
          exact go 20 1 13 (Or.inr ⟨rfl, rfl, rfl⟩) c20
        · rw [if_neg c20, if_pos rfl]
          unfold wX11_tested_j54
          rw [if_pos rfl, wX11_tested_h12, if_pos rfl]
          exact t_some (Or.inr ⟨_, k2, c1, o2, q2, rfl, ga, (a1.trans a2).trans aa, f3, ⟨c21, c20⟩, ⟨by omega, by omega⟩, fun r hr => h1 _ (f6 _ hr)⟩)
theorem tested_E (ht : t < 6) (tk : TOKS G S P N E K) (g : RLw G S P N E K t k c o s) (hl : o.length ≤ k) : Tot (wX11_tested s) (fun p => (∃ e, TestE S P N k c o (.inl e) ∧ p.1 = 0 ∧ p.2.1 152 13 = e) ∨ (∃ k' c' o', TestE S P N k c o (.inr (k', c', o')) ∧ p.1 = 1 ∧ RLw G S P N E K t k' c' o' p.2 ∧ wA (bLU t) s p.2 ∧ (k ≤ k' ∧ o'.length + k ≤ o.length + k'))) := by
  have hk := g.1.2.2.2
  have hK := tk.2.1
  have hT := g.1.1.2.2.1
  unfold wX11_tested
  show Tot ((wX11_tested_h12 wFuel 1 (wupI (wupI s 152 20 0) 152 17 0)).bind _) _
  have g2 : RTs G S P N E K t k c o [] (wupI (wupI s 152 20 0) 152 17 0) := by
    refine ⟨⟨g.1.go ?_ ?_ ?_ ?_, g.2.go ?_ ?_ ?_ ?_⟩, ?_, trivial, ?_, (fun y hy => by cases hy), hl⟩
    · rw [wupI_n (by decide), wupI_n (by decide)]
    · rw [wup_nb (by decide), wup_nb (by decide)]
    · rw [wup_nb (by decide), wup_nb (by decide)]
    · rw [wup_nb (by decide), wup_nb (by decide)]
    · rw [wup_nb (by decide), wup_nb (by decide)]
    · rw [wup_nb (by decide), wup_nb (by decide)]
    · rw [wupI_n (by decide), wupI_n (by decide)]
    · rw [wupI_n (by decide), wupI_n (by decide)]
    · rw [wup_nb (by decide), wup_same]; rfl
    · rw [wup_same]; rfl
  have a2 : wA (bLU t) s (wupI (wupI s 152 20 0) 152 17 0) := (wA_I (bLU_p (by omega))).trans (wA_I (bLU_p (by omega)))
  refine t_bind (tested_h12_E ht tk wFuel g2 (by
    have e : wFuel = 1099511627776 := rfl
    omega)) (fun z hz => ?_)
  rcases hz with ⟨u, e, rfl, z2, z3⟩ | ⟨u, k', c', o', q', rfl, z2, z3, z4, z5, ⟨z6, z7⟩, z8⟩
  · exact t_some (Or.inl ⟨e, z3, rfl, z2⟩)
  · dsimp only
    have hl0 : ([] : List Int32).length = 0 := rfl
    rw [hl0] at z7
    rw [isInside_E tk z2, t_sbe]
    by_cases c4 : (4 : Int32) ∈ q'
    · rw [if_pos c4, if_neg (by decide), see_R z2.1.1 tk, t_sbe]
      dsimp only
      rw [nx_n, fails_R (z2.1.1.at tk), t_sbe]
      dsimp only
      refine t_bind (t_rtZ (v := 0) (Or.inl rfl)) (fun t50 h50 => t_some (Or.inl ⟨fl 0 (P k'), z8 _ (Ev.ret ?_), h50, wup_same⟩))
      unfold tst
      dsimp only
      rw [if_neg (by decide), if_neg z4, if_neg z5.1, if_neg z5.2, if_pos c4]
    · rw [if_neg c4, if_pos rfl]
      refine t_bind (settles_E (m := 1) ht (by decide) (by decide) rfl tk z2) (fun s42 h42 => t_some (Or.inr ⟨k', c', (stl 1 q' o').2, z8 _ (Ev.ret ?_), rfl, h42.1.1, (a2.trans z3).trans h42.2.1, ⟨z6, ?_⟩⟩))
      · unfold tst
        dsimp only
        rw [if_neg (by decide), if_neg z4, if_neg z5.1, if_neg z5.2, if_neg c4]
      · have sl := stl_len (m := 1) (q := q') (o := o')
        omega
end RTE
