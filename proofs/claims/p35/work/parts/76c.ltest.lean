/-! A TEST: what both sides read; the class. -/
noncomputable def stC (x : Int32) : Nat := if x = 20 then 1 else if x = 21 then 2 else if x = 22 then 3 else 0
noncomputable def stl (t : Nat) : List Int32 → List Int32 → List Int32 × List Int32
  | [], o => ([], o)
  | x :: q, o => if t ≤ stC x then stl t q (o ++ [x]) else (x :: q, o)
noncomputable def deep : List Int32 → Nat
  | [] => 0
  | x :: q => (if x = 22 ∨ x = 4 then 1 else 0) + deep q
noncomputable abbrev tC : Type := Bool × List Int32 × Nat × Nat × List Int32
noncomputable def tst (S P N : Nat → Int32) (x : tC) : tC ⊕ sR :=
  if x.1 = true then (if S x.2.2.1 = 22 ∨ S x.2.2.1 = 4 then (if deep x.2.1 = 10 then .inr (.inl (fl 2 (P x.2.2.1))) else .inl (true, S x.2.2.1 :: x.2.1, x.2.2.1 + 1, x.2.2.2.1, x.2.2.2.2))
    else (match sumV S P N x.2.2.1 x.2.2.2.1 x.2.2.2.2 with
      | .inl e => .inr (.inl e)
      | .inr y => if S y.1 < 10 ∨ 14 < S y.1 then .inr (.inl (fl 0 (P y.1))) else if y.2.1 = 60 then .inr (.inl (fl 3 (P y.1))) else (match sumV S P N (y.1 + 1) (y.2.1 + 1) y.2.2 with
        | .inl e => .inr (.inl e)
        | .inr z => .inl (false, (stl 3 x.2.1 (z.2.2 ++ [S y.1])).1, z.1, z.2.1, (stl 3 x.2.1 (z.2.2 ++ [S y.1])).2))))
  else (if S x.2.2.1 = 5 ∧ 4 ∈ x.2.1 then .inl (false, (stl 3 (stl 1 x.2.1 x.2.2.2.2).1.tail (stl 1 x.2.1 x.2.2.2.2).2).1, x.2.2.1 + 1, x.2.2.2.1, (stl 3 (stl 1 x.2.1 x.2.2.2.2).1.tail (stl 1 x.2.1 x.2.2.2.2).2).2)
    else if S x.2.2.1 = 21 then .inl (true, 21 :: (stl 2 x.2.1 x.2.2.2.2).1, x.2.2.1 + 1, x.2.2.2.1, (stl 2 x.2.1 x.2.2.2.2).2)
    else if S x.2.2.1 = 20 then .inl (true, 20 :: (stl 1 x.2.1 x.2.2.2.2).1, x.2.2.1 + 1, x.2.2.2.1, (stl 1 x.2.1 x.2.2.2.2).2)
    else if 4 ∈ x.2.1 then .inr (.inl (fl 0 (P x.2.2.1))) else .inr (.inr (x.2.2.1, x.2.2.2.1, (stl 1 x.2.1 x.2.2.2.2).2)))
theorem stl_app {t : Nat} {q : List Int32} : ∀ {a o : List Int32}, (∀ x, x ∈ a → t ≤ stC x) → stl t (a ++ q) o = stl t q (o ++ a) := by
  intro a
  induction a with
  | nil => intro o _; rw [List.append_nil]; rfl
  | cons x a ih =>
    intro o h
    show (if t ≤ stC x then stl t (a ++ q) (o ++ [x]) else (x :: (a ++ q), o)) = _
    rw [if_pos (h x (List.mem_cons_self)), ih (fun y hy => h y (List.mem_cons_of_mem _ hy)), List.append_assoc]
    rfl
theorem stl_stop {t : Nat} {x : Int32} {q o : List Int32} (h : stC x < t) : stl t (x :: q) o = (x :: q, o) := by
  show (if t ≤ stC x then stl t q (o ++ [x]) else (x :: q, o)) = _
  rw [if_neg (by omega)]
noncomputable def bot (q : List Int32) : Prop := q = [] ∨ ∃ p, q = 4 :: p
theorem stl_bot {t : Nat} {q o : List Int32} (ht : 1 ≤ t) (h : bot q) : stl t q o = (q, o) := by
  rcases h with rfl | ⟨p, rfl⟩
  · rfl
  · exact stl_stop (by rw [show stC 4 = 0 from rfl]; omega)
theorem deep_app {q : List Int32} : ∀ {a : List Int32}, (∀ x, x ∈ a → x = 20 ∨ x = 21) → deep (a ++ q) = deep q := by
  intro a
  induction a with
  | nil => intro _; rfl
  | cons x a ih =>
    intro h
    show (if x = 22 ∨ x = 4 then 1 else 0) + deep (a ++ q) = _
    rw [ih (fun y hy => h y (List.mem_cons_of_mem _ hy)), if_neg (fun e => ?_), Nat.zero_add]
    rcases h x (List.mem_cons_self) with r | r <;> rw [r] at e <;> exact absurd e (by decide)
/-- what waits: and, or -/
noncomputable def tau (p : Bool) (w : Int32) : List Int32 := (if p = true then [21] else []) ++ (if w = 0 then [] else [20])
theorem tau_m {p : Bool} {w x : Int32} (h : x ∈ tau p w) : x = 20 ∨ x = 21 := by
  unfold tau at h
  rcases List.mem_append.1 h with h | h
  · by_cases c : p = true
    · rw [if_pos c] at h; exact Or.inr (List.mem_singleton.1 h)
    · rw [if_neg c] at h; cases h
  · by_cases c : w = 0
    · rw [if_pos c] at h; cases h
    · rw [if_neg c] at h; exact Or.inl (List.mem_singleton.1 h)
theorem st_20 {x : Int32} (h : x = 20 ∨ x = 21) : 1 ≤ stC x := by
  rcases h with rfl | rfl <;> decide
theorem tau_2 {p : Bool} {w : Int32} {q o : List Int32} (hq : bot q) : stl 2 (tau p w ++ q) o = (tau false w ++ q, o ++ (if p = true then [21] else [])) := by
  have z : stl 2 (tau false w ++ q) (o ++ (if p = true then [21] else [])) = (tau false w ++ q, o ++ (if p = true then [21] else [])) := by
    unfold tau
    by_cases c : w = 0
    · rw [if_pos c]
      exact stl_bot (by decide) hq
    · rw [if_neg c]
      exact stl_stop (by decide)
  rw [← z]
  have e : tau p w ++ q = (if p = true then [21] else []) ++ (tau false w ++ q) := by
    unfold tau
    rw [List.append_assoc]
    rfl
  rw [e, stl_app (fun x hx => ?_)]
  by_cases c : p = true
  · rw [if_pos c] at hx
    rw [List.mem_singleton.1 hx]
    decide
  · rw [if_neg c] at hx; cases hx
theorem tau_1 {p : Bool} {w : Int32} {q o : List Int32} (hq : bot q) : stl 1 (tau p w ++ q) o = (q, o ++ tau p w) := by
  rw [stl_app (fun x hx => st_20 (tau_m hx)), stl_bot (by decide) hq]
section LAWT
variable {S P N : Nat → Int32} {K k2 k c : Nat} {o : List Int32} {s : wS}
/-- what a FACT comes to -/
noncomputable def FQ (S P N : Nat → Int32) (K k2 A k c : Nat) (o : List Int32) (s s' : wS) : Prop := (∃ e, CF S P N K e s' ∧ ∀ q, deep q = A → Ev (tst S P N) (true, q, k, c, o) (.inl e)) ∨ (∃ k' c' o', LSt S P N K k2 k' c' o' s' ∧ wA (bLR k2) s s' ∧ (k < k' ∧ k' ≤ K ∧ o'.length + k ≤ o.length + k' ∧ o.length < o'.length) ∧ ∀ q r, deep q = A → Ev (tst S P N) (false, (stl 3 q o').1, k', c', (stl 3 q o').2) r → Ev (tst S P N) (true, q, k, c, o) r)
/-- what a TEST comes to -/
noncomputable def TQ (S P N : Nat → Int32) (K k2 A k c : Nat) (o : List Int32) (b : Bool) (a0 : List Int32) (s s' : wS) : Prop := (∃ e, CF S P N K e s' ∧ ∀ q, bot q → deep q = A → Ev (tst S P N) (b, a0 ++ q, k, c, o) (.inl e)) ∨ (∃ k' c' o' a o1, LSt S P N K k2 k' c' o' s' ∧ wA (bLR k2) s s' ∧ (k ≤ k' ∧ k' ≤ K ∧ o'.length + k ≤ (o ++ a0).length + k' ∧ (o ++ a0).length ≤ o'.length) ∧ (¬ S k' = 20 ∧ ¬ S k' = 21) ∧ (∀ x, x ∈ a → x = 20 ∨ x = 21) ∧ o' = o1 ++ a ∧ ∀ q r, bot q → deep q = A → Ev (tst S P N) (false, a ++ q, k', c', o1) r → Ev (tst S P N) (b, a0 ++ q, k, c, o) r)
theorem j82_F {e w : Int32} {q : Nat → Int32 → wS → Option wS} (h44 : 44 ≤ k2) (h : CF S P N K e s) : Tot (wX4_readTest_j82 q k2 w s) (fun s' => CF S P N K e s') := by
  unfold wX4_readTest_j82
  exact t_ite (fun _ => t_some h) (fun _ => t_bind (put_F h44 h) (fun s' hs => t_some hs))
theorem h13_F {e w i a : Int32} {q : Nat → Int32 → wS → Option wS} {n : Nat} (h44 : 44 ≤ k2) (h : CF S P N K e s) : Tot ((wX4_readTest_h13 q k2 a (n + 1) w i s).bind fun (t27, s28) => wX4_readTest_j82 q k2 t27 s28) (fun s' => CF S P N K e s') := by
  rw [wX4_readTest_h13]
  by_cases c : i < 400
  · rw [if_pos c, h.take (by decide), t_sbe]
    dsimp only
    rw [if_pos rfl, h.take (by decide), t_sbe]
    dsimp only
    rw [if_pos rfl, t_sbe]
    exact j82_F h44 h
  · rw [if_neg c, t_sbe]
    exact j82_F h44 h
theorem h13_E {A : Nat} {a : Int32} {q : Nat → Int32 → wS → Option wS} (h44 : 44 ≤ k2) (hS : S K = 0) (hq : ∀ {k c : Nat} {o : List Int32} {s : wS}, LSt S P N K k2 k c o s → k ≤ K → o.length ≤ k → Tot (q k2 a s) (fun s' => FQ S P N K k2 A k c o s s')) : ∀ (n : Nat) {k c : Nat} {p : Bool} {w i : Int32} {o o1 : List Int32} {s : wS}, LSt S P N K k2 k c o s → k ≤ K → o = o1 ++ (if p = true then [21] else []) → (o1 ++ tau p w).length ≤ k → 0 ≤ i.toInt → i.toInt ≤ k → K - k + 1 < n → Tot ((wX4_readTest_h13 q k2 a n w i s).bind fun (t27, s28) => wX4_readTest_j82 q k2 t27 s28) (fun s' => TQ S P N K k2 A k c o1 false (tau p w) s s') := by
  intro n
  induction n with
  | zero => intro k c p w i o o1 s _ _ _ _ _ _ hm; exact absurd hm (by omega)
  | succ n ih =>
    intro k c p w i o o1 s h hk ho hl i0 hi hm
    have hK := h.1.2.1.2
    have ei := t_p1 (x := i) i0 (by omega)
    obtain ⟨n', rfl⟩ : ∃ n', n = n' + 1 := ⟨n - 1, by omega⟩
    have lw : (if w = 0 then ([] : List Int32) else [20]).length ≤ 1 := by
      by_cases cw : w = 0
      · rw [if_pos cw]; exact Nat.zero_le _
      · rw [if_neg cw]; exact Nat.le_refl _
    have eo : o1 ++ tau p w = o ++ (if w = 0 then [] else [20]) := by
      rw [ho]
      unfold tau
      rw [List.append_assoc]
    have el : (o1 ++ tau p w).length = o.length + (if w = 0 then ([] : List Int32) else [20]).length := by rw [eo, List.length_append]
    -- the end
    have stop : ¬ S k = 20 → ¬ S k = 21 → Tot (wX4_readTest_j82 q k2 w s) (fun s' => TQ S P N K k2 A k c o1 false (tau p w) s s') := by
      intro n20 n21
      unfold wX4_readTest_j82
      by_cases cw : w = 0
      · rw [if_pos cw]
        rw [if_pos cw, List.append_nil] at eo
        exact t_some (Or.inr ⟨k, c, o, tau p w, o1, h, wA.refl, ⟨Nat.le_refl _, hk, by rw [eo]; omega, by rw [eo]; exact Nat.le_refl _⟩, ⟨n20, n21⟩, fun x hx => tau_m hx, eo.symm, fun q r _ _ e => e⟩)
      · rw [if_neg cw]
        rw [if_neg cw] at eo
        have e1 : (o ++ [20]).length = o.length + 1 := by rw [List.length_append]; rfl
        rw [if_neg cw] at el
        have e2 : ([20] : List Int32).length = 1 := rfl
        refine t_bind (h.put h44 (v := 20) (Or.inr (Or.inl (by decide))) (by omega)) (fun s' hs => t_some (Or.inr ⟨k, c, o ++ [20], tau p w, o1, hs.1, hs.2, ⟨Nat.le_refl _, hk, by rw [eo]; omega, by rw [eo]; exact Nat.le_refl _⟩, ⟨n20, n21⟩, fun x hx => tau_m hx, eo.symm, fun q r _ _ e => e⟩))
    rw [wX4_readTest_h13]
    by_cases c4 : i < 400
    · rw [if_pos c4, take_E h.1 hk, t_sbe]
      by_cases c21 : S k = 21
      · have hkK : k < K := by
          by_cases q : k = K
          · rw [q, hS] at c21; exact absurd c21 (by decide)
          · omega
        rw [if_pos c21, if_pos hkK]
        dsimp only
        rw [if_neg (by decide)]
        have h1 := h.hr (j := k + 1) h44
        have st : ∀ q, bot q → tst S P N (false, tau p w ++ q, k, c, o1) = .inl (true, 21 :: (tau false w ++ q), k + 1, c, o) := by
          intro q hb
          unfold tst
          dsimp only
          rw [if_neg (by decide), if_neg (fun e => by rw [c21] at e; exact absurd e.1 (by decide)), if_pos c21, tau_2 hb, ho]
        have dp : ∀ q, deep q = A → deep (21 :: (tau false w ++ q)) = A := by
          intro q hd
          show (if (21 : Int32) = 22 ∨ (21 : Int32) = 4 then 1 else 0) + deep (tau false w ++ q) = A
          rw [deep_app (fun x hx => tau_m hx), if_neg (by decide), hd, Nat.zero_add]
        refine t_assoc (t_bind (hq h1.1 (by omega) (by omega)) (fun s21 h21 => t_assoc ?_))
        rcases h21 with ⟨e, f1, f2⟩ | ⟨k', c', o', f1, f2, ⟨f3, f4, f5, f6⟩, f7⟩
        · refine t_bind (put_F h44 f1) (fun s24 h24 => ?_)
          unfold wX4_readTest_j76
          exact t_mono (h13_F h44 h24) (fun s' hs => Or.inl ⟨e, hs, fun q hb hd => Ev.step (st q hb) (f2 _ (dp q hd))⟩)
        · refine t_bind (f1.put h44 (v := 21) (Or.inr (Or.inl (by decide))) (by omega)) (fun s24 h24 => ?_)
          unfold wX4_readTest_j76
          have l1 : (o' ++ tau true w).length = o'.length + 1 + (if w = 0 then ([] : List Int32) else [20]).length := by
            unfold tau
            rw [List.length_append, List.length_append]
            show o'.length + (1 + _) = _
            omega
          refine t_mono (ih (k := k') (c := c') (p := true) (w := w) (o := o' ++ [21]) (o1 := o') h24.1 f4 rfl (by omega) (by omega) (by omega) (by omega)) (fun s' hs => ?_)
          have back : ∀ q r, bot q → deep q = A → Ev (tst S P N) (false, tau true w ++ q, k', c', o') r → Ev (tst S P N) (false, tau p w ++ q, k, c, o1) r := by
            intro q r hb hd hr
            refine Ev.step (st q hb) (f7 _ _ (dp q hd) ?_)
            rw [stl_stop (show stC 21 < 3 by decide)]
            exact hr
          rcases hs with ⟨e, a1, a2⟩ | ⟨k'', c'', o'', a', o1', a1, a2, ⟨a3, a4, a5, a6⟩, a7, a8, a9, a10⟩
          · exact Or.inl ⟨e, a1, fun q hb hd => back q _ hb hd (a2 q hb hd)⟩
          · exact Or.inr ⟨k'', c'', o'', a', o1', a1, ((h1.2.trans f2).trans h24.2).trans a2, ⟨by omega, a4, by omega, by omega⟩, a7, a8, a9, fun q r hb hd hr => back q r hb hd (a10 q r hb hd hr)⟩
      · rw [if_neg c21]
        dsimp only
        rw [if_pos rfl, take_E h.1 hk, t_sbe]
        by_cases c20 : S k = 20
        · have hkK : k < K := by
            by_cases q : k = K
            · rw [q, hS] at c20; exact absurd c20 (by decide)
            · omega
          rw [if_pos c20, if_pos hkK]
          dsimp only
          rw [if_neg (by decide)]
          have h1 := h.hr (j := k + 1) h44
          have st : ∀ q, bot q → tst S P N (false, tau p w ++ q, k, c, o1) = .inl (true, 20 :: q, k + 1, c, o1 ++ tau p w) := by
            intro q hb
            unfold tst
            dsimp only
            rw [if_neg (by decide), if_neg (fun e => by rw [c20] at e; exact absurd e.1 (by decide)), if_neg c21, if_pos c20, tau_1 hb]
          have dp : ∀ q, deep q = A → deep (20 :: q) = A := by
            intro q hd
            show (if (20 : Int32) = 22 ∨ (20 : Int32) = 4 then 1 else 0) + deep q = A
            rw [if_neg (by decide), hd, Nat.zero_add]
          have go : ∀ u, LSt S P N K k2 (k + 1) c (o1 ++ tau p w) u → wA (bLR k2) s u → Tot ((wX4_readTest_j66 q (wX4_readTest_h13 q k2 a (n' + 1)) k2 a i u).bind fun (t27, s28) => wX4_readTest_j82 q k2 t27 s28) (fun s' => TQ S P N K k2 A k c o1 false (tau p w) s s') := by
            intro u hu au
            unfold wX4_readTest_j66
            refine t_assoc (t_bind (hq hu (by omega) (by omega)) (fun s15 h15 => ?_))
            unfold wX4_readTest_j76
            rcases h15 with ⟨e, f1, f2⟩ | ⟨k', c', o', f1, f2, ⟨f3, f4, f5, f6⟩, f7⟩
            · exact t_mono (h13_F h44 f1) (fun s' hs => Or.inl ⟨e, hs, fun q hb hd => Ev.step (st q hb) (f2 _ (dp q hd))⟩)
            · have l1 : (o' ++ tau false 1).length = o'.length + 1 := by
                unfold tau
                rw [List.length_append]
                rfl
              refine t_mono (ih (k := k') (c := c') (p := false) (w := 1) (o := o') (o1 := o') f1 f4 (by rw [if_neg (by decide), List.append_nil]) (by omega) (by omega) (by omega) (by omega)) (fun s' hs => ?_)
              have back : ∀ q r, bot q → deep q = A → Ev (tst S P N) (false, tau false 1 ++ q, k', c', o') r → Ev (tst S P N) (false, tau p w ++ q, k, c, o1) r := by
                intro q r hb hd hr
                refine Ev.step (st q hb) (f7 _ _ (dp q hd) ?_)
                rw [stl_stop (show stC 20 < 3 by decide)]
                exact hr
              rcases hs with ⟨e, a1, a2⟩ | ⟨k'', c'', o'', a', o1', a1, a2, ⟨a3, a4, a5, a6⟩, a7, a8, a9, a10⟩
              · exact Or.inl ⟨e, a1, fun q hb hd => back q _ hb hd (a2 q hb hd)⟩
              · exact Or.inr ⟨k'', c'', o'', a', o1', a1, (au.trans f2).trans a2, ⟨by omega, a4, by omega, by omega⟩, a7, a8, a9, fun q r hb hd hr => back q r hb hd (a10 q r hb hd hr)⟩
          by_cases cw : w = 0
          · rw [if_pos cw]
            rw [if_pos cw, List.append_nil] at eo
            exact go _ (by rw [eo]; exact h1.1) h1.2
          · rw [if_neg cw]
            rw [if_neg cw] at eo el
            have e2 : ([20] : List Int32).length = 1 := rfl
            refine t_assoc (t_bind (h1.1.put h44 (v := 20) (Or.inr (Or.inl (by decide))) (by omega)) (fun s18 h18 => ?_))
            exact go _ (by rw [eo]; exact h18.1) (h1.2.trans h18.2)
        · rw [if_neg c20]
          dsimp only
          rw [if_pos rfl, t_sbe]
          exact stop c20 c21
    · have := t_ge c4
      rw [show (400 : Int32).toInt = 400 from rfl] at this
      obtain rfl : k = K := by omega
      rw [if_neg c4, t_sbe]
      exact stop (by rw [hS]; decide) (by rw [hS]; decide)
theorem readTest_E {A : Nat} {a : Int32} {q : Nat → Int32 → wS → Option wS} (h44 : 44 ≤ k2) (hS : S K = 0) (hq : ∀ {k c : Nat} {o : List Int32} {s : wS}, LSt S P N K k2 k c o s → k ≤ K → o.length ≤ k → Tot (q k2 a s) (fun s' => FQ S P N K k2 A k c o s s')) (h : LSt S P N K k2 k c o s) (hk : k ≤ K) (hl : o.length ≤ k) : Tot (wX4_readTest_b q k2 a s) (fun s' => TQ S P N K k2 A k c o true [] s s' ∧ ((∃ e, CF S P N K e s') ∨ (s'.1 k2 1).toInt > o.length)) := by
  have hK := h.1.2.1.2
  unfold wX4_readTest_b
  refine t_bind (hq h hk hl) (fun s2 h2 => ?_)
  have ef : wFuel = 1099511627775 + 1 := rfl
  rcases h2 with ⟨e, f1, f2⟩ | ⟨k', c', o', f1, f2, ⟨f3, f4, f5, f6⟩, f7⟩
  · rw [ef]
    exact t_mono (h13_F h44 f1) (fun s' hs => ⟨Or.inl ⟨e, hs, fun q _ hd => f2 q hd⟩, Or.inl ⟨e, hs⟩⟩)
  · have t0 : tau false 0 = [] := rfl
    refine t_mono (h13_E h44 hS hq wFuel (k := k') (c := c') (p := false) (w := 0) (i := 0) (o := o') (o1 := o') f1 f4 (by rw [if_neg (by decide), List.append_nil]) (by rw [t0, List.append_nil]; omega) (by decide) (by rw [t_i0]; omega) (by
      have e : wFuel = 1099511627776 := rfl
      omega)) (fun s' hs => ?_)
    have back : ∀ q r, bot q → deep q = A → Ev (tst S P N) (false, tau false 0 ++ q, k', c', o') r → Ev (tst S P N) (true, [] ++ q, k, c, o) r := by
      intro q r hb hd hr
      refine f7 q r hd ?_
      rw [stl_bot (by decide) hb]
      exact hr
    rcases hs with ⟨e, a1, a2⟩ | ⟨k'', c'', o'', a', o1', a1, a2, ⟨a3, a4, a5, a6⟩, a7, a8, a9, a10⟩
    · exact ⟨Or.inl ⟨e, a1, fun q hb hd => back q _ hb hd (a2 q hb hd)⟩, Or.inl ⟨e, a1⟩⟩
    · rw [t0, List.append_nil] at a5 a6
      refine ⟨Or.inr ⟨k'', c'', o'', a', o1', a1, f2.trans a2, ⟨by omega, a4, by rw [List.append_nil]; omega, by rw [List.append_nil]; omega⟩, a7, a8, a9, fun q r hb hd hr => back q r hb hd (a10 q r hb hd hr)⟩, Or.inr ?_⟩
      rw [a1.2.2.2.1, t_on (by omega)]
      omega
end LAWT
