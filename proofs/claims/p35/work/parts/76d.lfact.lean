/-! The class reads FACTS. -/
section LAWF
variable {S P N : Nat → Int32} {K k2 k c : Nat} {o : List Int32} {s : wS}
theorem count_F {e v : Int32} (h : CF S P N K e s) : CF S P N K e (wupI s 8 0 v) := h.go (wupI_n (by decide)) (wupI_n (by decide)) (wupI_n (by decide)) (wupI_n (by decide))
theorem j153_F {e x : Int32} {q : Nat → Int32 → wS → Option wS} (h44 : 44 ≤ k2) (h : CF S P N K e s) : Tot (wX4_readFact_j153 q k2 x s) (fun s' => CF S P N K e s') := by
  unfold wX4_readFact_j153
  show Tot ((wX9_skip (wupI s 8 0 (s.1 8 0 + 1))).bind _) _
  rw [(count_F h).skip, t_sbe]
  refine t_bind (readSum_F h44 (count_F h)) (fun s27 h27 => t_bind (put_F h44 h27) (fun s30 h30 => t_some h30))
theorem seven_0 (x : Int32) (h : x < 10) : ¬ x = 22 ∧ ¬ x = 4 ∨ x = 4 := by
  by_cases c : x = 4
  · exact Or.inr c
  · exact Or.inl ⟨fun q => by rw [q] at h; exact absurd h (by decide), c⟩
theorem readFact_E (h44 : 44 ≤ k2) (hS : S K = 0) (pb : ∀ j, j ≤ K → 0 ≤ (P j).toInt ∧ (P j).toInt ≤ 400) : ∀ (n : Nat) {A : Nat} {a : Int32} {k c : Nat} {o : List Int32} {s : wS}, a.toInt = A → A ≤ 10 → 10 - A < n → LSt S P N K k2 k c o s → k ≤ K → o.length ≤ k → Tot (wX4_readFact n k2 a s) (fun s' => FQ S P N K k2 A k c o s s') := by
  intro n
  induction n with
  | zero => intro A a k c o s _ _ hm; exact absurd hm (by omega)
  | succ n ih =>
    intro A a k c o s ha hA hm h hk hl
    have hK := h.1.2.1.2
    have e10 : (10 : Int32).toInt = 10 := rfl
    have nf : ∀ j (x : Int32), j ≤ K → 0 ≤ x.toInt → x.toInt ≤ 7 → ¬ fl x (P j) = 0 := fun j x hj a b => fl_0 a b (pb j hj).1 (pb j hj).2
    show Tot (wX4_readFact_b (wX4_readFact n) k2 a s) _
    unfold wX4_readFact_b
    rw [sign_E h.1 hk, t_sbe]
    by_cases cop : S k = 22 ∨ S k = 4
    · have hkK : k < K := by
        by_cases q : k = K
        · rw [q, hS] at cop; rcases cop with q | q <;> exact absurd q (by decide)
        · omega
      have e1 : wX4_readFact_j19 (wX4_readFact n) k2 a s = wX4_readFact_j24 (wX4_readFact n) k2 a 1 s := rfl
      have two : (if S k = 22 then wX4_readFact_j19 (wX4_readFact n) k2 a s else if S k = 4 then wX4_readFact_j19 (wX4_readFact n) k2 a s else wX4_readFact_j24 (wX4_readFact n) k2 a 0 s) = wX4_readFact_j24 (wX4_readFact n) k2 a 1 s := by
        by_cases q : S k = 22
        · rw [if_pos q, e1]
        · rw [if_neg q, if_pos (cop.resolve_left q), e1]
      rw [two]
      unfold wX4_readFact_j24
      rw [if_neg (by decide)]
      by_cases cA : a < 10
      · have hA10 := t_lt cA
        rw [ha, e10] at hA10
        rw [if_pos cA]
        have h1 := h.hr (j := k + 1) h44
        have ea : (a + 1).toInt = (A + 1 : Nat) := by rw [t_p1 (by omega) (by omega), ha]; rfl
        have st : ∀ q, deep q = A → tst S P N (true, q, k, c, o) = .inl (true, S k :: q, k + 1, c, o) := by
          intro q hd
          unfold tst
          dsimp only
          rw [if_pos rfl, if_pos cop, if_neg (by omega)]
        have dp : ∀ q, deep q = A → deep (S k :: q) = A + 1 := by
          intro q hd
          show (if S k = 22 ∨ S k = 4 then 1 else 0) + deep q = A + 1
          rw [if_pos cop, hd, Nat.add_comm]
        unfold wX4_readFact_j45
        rw [take_E h.1 hk, t_sbe]
        by_cases c22 : S k = 22
        · rw [if_pos c22, if_pos hkK]
          dsimp only
          rw [if_neg (by decide)]
          refine t_bind (ih (A := A + 1) (a := a + 1) (k := k + 1) ea (by omega) (by omega) h1.1 (by omega) (by omega)) (fun s48 h48 => ?_)
          rcases h48 with ⟨e, f1, f2⟩ | ⟨k', c', o', f1, f2, ⟨f3, f4, f5, f6⟩, f7⟩
          · refine t_bind (put_F h44 f1) (fun s51 h51 => t_some (Or.inl ⟨e, h51, fun q hd => Ev.step (st q hd) (f2 _ (dp q hd))⟩))
          · refine t_bind (f1.put h44 (v := 22) (Or.inr (Or.inl (by decide))) (by omega)) (fun s51 h51 => t_some (Or.inr ⟨k', c', o' ++ [22], h51.1, (h1.2.trans f2).trans h51.2, ⟨by omega, f4, by rw [List.length_append]; show o'.length + 1 + k ≤ _; omega, by rw [List.length_append]; show _ < o'.length + 1; omega⟩, fun q r hd hr => Ev.step (st q hd) (f7 _ r (dp q hd) ?_)⟩))
            rw [c22]
            show Ev (tst S P N) (false, (if 3 ≤ stC 22 then stl 3 q (o' ++ [22]) else (22 :: q, o')).1, k', c', (if 3 ≤ stC 22 then stl 3 q (o' ++ [22]) else (22 :: q, o')).2) r
            rw [if_pos (by decide)]
            exact hr
        · have c4 : S k = 4 := cop.resolve_left c22
          rw [if_neg c22]
          dsimp only
          rw [if_pos rfl, take_E h.1 hk, t_sbe, if_pos c4, if_pos hkK]
          dsimp only
          rw [if_neg (by decide)]
          refine t_bind (readTest_E (A := A + 1) (a := a + 1) (q := wX4_readFact n) h44 hS (fun g1 g2 g3 => ih (A := A + 1) ea (by omega) (by omega) g1 g2 g3) h1.1 (by omega) (by omega)) (fun s38 h38 => ?_)
          obtain ⟨h38, hgr⟩ := h38
          rcases h38 with ⟨e, f1, f2⟩ | ⟨k', c', o', a', o1, f1, f2, ⟨f3, f4, f5, f6⟩, ⟨f7, f8⟩, f9, f10, f11⟩
          · rw [f1.take (by decide), t_sbe]
            dsimp only
            rw [if_pos rfl, f1.fail, t_sbe]
            refine t_some (Or.inl ⟨e, f1, fun q hd => Ev.step (st q hd) ?_⟩)
            have := f2 (S k :: q) (by rw [c4]; exact Or.inr ⟨q, rfl⟩) (dp q hd)
            exact this
          · have gr : o.length < o'.length := by
              rcases hgr with ⟨e, he⟩ | hg
              · exact absurd f1.2.1 (by rw [he.2.1]; exact he.2.2.1)
              · rw [f1.2.2.2.1, t_on (by rw [List.append_nil] at f5; omega)] at hg
                omega
            rw [List.append_nil] at f5 f6
            have stk : ∀ q : List Int32, (4 : Int32) ∈ a' ++ 4 :: q := fun q => List.mem_append_right _ (List.mem_cons_self)
            rw [take_E f1.1 f4, t_sbe]
            by_cases c5 : S k' = 5
            · have hkK' : k' < K := by
                by_cases q : k' = K
                · rw [q, hS] at c5; exact absurd c5 (by decide)
                · omega
              rw [if_pos c5, if_pos hkK']
              dsimp only
              rw [if_neg (by decide)]
              have h2 := f1.hr (j := k' + 1) h44
              refine t_some (Or.inr ⟨k' + 1, c', o', h2.1, (h1.2.trans f2).trans h2.2, ⟨by omega, by omega, by omega, gr⟩, fun q r hd hr => Ev.step (st q hd) ?_⟩)
              refine f11 (S k :: q) r (by rw [c4]; exact Or.inr ⟨q, rfl⟩) (dp q hd) ?_
              rw [c4]
              refine Ev.step (c' := (false, (stl 3 q o').1, k' + 1, c', (stl 3 q o').2)) ?_ hr
              unfold tst
              dsimp only
              rw [if_neg (by decide), if_pos ⟨c5, stk q⟩, stl_app (fun x hx => st_20 (f9 x hx)), stl_stop (show stC 4 < 1 by decide), ← f10]
              rfl
            · rw [if_neg c5]
              dsimp only
              obtain ⟨r, e1, e2⟩ := f1.fail (x := 0) f4 hS (nf _ _ f4 (by decide) (by decide))
              rw [if_pos rfl, e1, t_sbe]
              refine t_some (Or.inl ⟨_, e2, fun q hd => Ev.step (st q hd) (f11 (S k :: q) _ (by rw [c4]; exact Or.inr ⟨q, rfl⟩) (dp q hd) (Ev.ret ?_))⟩)
              rw [c4]
              unfold tst
              dsimp only
              rw [if_neg (by decide), if_neg (fun e => c5 e.1), if_neg f8, if_neg f7, if_pos (stk q)]
      · have hA10 := t_ge cA
        rw [ha, e10] at hA10
        rw [if_neg cA]
        obtain ⟨r, e1, e2⟩ := h.fail (x := 2) hk hS (nf _ _ hk (by decide) (by decide))
        rw [e1, t_sbe]
        refine t_some (Or.inl ⟨_, e2, fun q hd => Ev.ret ?_⟩)
        unfold tst
        dsimp only
        rw [if_pos rfl, if_pos cop, if_pos (by omega)]
    · rw [if_neg (fun q => cop (Or.inl q)), if_neg (fun q => cop (Or.inr q))]
      unfold wX4_readFact_j24
      rw [if_pos rfl]
      unfold wX4_readFact_j45
      rw [take_E h.1 hk, t_sbe, if_neg (fun q => cop (Or.inl q))]
      dsimp only
      rw [if_pos rfl, take_E h.1 hk, t_sbe, if_neg (fun q => cop (Or.inr q))]
      dsimp only
      rw [if_pos rfl]
      refine t_bind (readSum_E h44 hS pb h hk hl) (fun s14 h14 => ?_)
      rcases h14 with ⟨e, f1, f2⟩ | ⟨k', c', o', f1, f2, f3, f4, f5, f6, f7⟩
      · rw [f2.sign, t_sbe, if_pos (by decide)]
        unfold wX4_readFact_j131
        rw [f2.fail, t_sbe]
        refine t_mono (j153_F h44 f2) (fun s' hs => Or.inl ⟨e, hs, fun q hd => Ev.ret ?_⟩)
        unfold tst
        dsimp only
        rw [if_pos rfl, if_neg cop, sumV_eq f1]
      · rw [sign_E f2.1 f5, t_sbe]
        have bad : ∀ x : Int32, 0 ≤ x.toInt → x.toInt ≤ 7 → (∀ q, tst S P N (true, q, k, c, o) = .inr (.inl (fl x (P k')))) → Tot ((wX9_fail x s14).bind fun s20 => wX4_readFact_j153 (wX4_readFact n) k2 (S k') s20) (fun s' => FQ S P N K k2 A k c o s s') := by
          intro x x0 x7 hx
          obtain ⟨r, e1, e2⟩ := f2.fail (x := x) f5 hS (nf _ _ f5 x0 x7)
          rw [e1, t_sbe]
          exact t_mono (j153_F h44 e2) (fun s' hs => Or.inl ⟨_, hs, fun q _ => Ev.ret (hx q)⟩)
        by_cases c10 : S k' < 10
        · rw [if_pos c10]
          unfold wX4_readFact_j131
          refine bad 0 (by decide) (by decide) (fun q => ?_)
          unfold tst
          dsimp only
          rw [if_pos rfl, if_neg cop, sumV_eq f1]
          dsimp only
          rw [if_pos (Or.inl c10)]
        · rw [if_neg c10]
          by_cases c14 : 14 < S k'
          · rw [if_pos c14]
            unfold wX4_readFact_j131
            refine bad 0 (by decide) (by decide) (fun q => ?_)
            unfold tst
            dsimp only
            rw [if_pos rfl, if_neg cop, sumV_eq f1]
            dsimp only
            rw [if_pos (Or.inr c14)]
          · rw [if_neg c14]
            obtain ⟨⟨hc, hc60⟩, -⟩ := f2.2.2
            have h60 : (s14.1 8 0 < 60) ↔ ¬ c' = 60 := by
              rw [Int32.lt_iff_toInt_lt, hc, show (60 : Int32).toInt = 60 from rfl]
              omega
            by_cases c60 : c' = 60
            · rw [if_neg (fun q => (h60.1 q) c60)]
              refine bad 3 (by decide) (by decide) (fun q => ?_)
              unfold tst
              dsimp only
              rw [if_pos rfl, if_neg cop, sumV_eq f1]
              dsimp only
              rw [if_neg (fun q => q.elim c10 c14), if_pos c60]
            · rw [if_pos (h60.2 c60)]
              have g10 := t_ge c10
              rw [e10] at g10
              have Sk0 : ¬ S k' = 0 := fun q => by rw [q, t_i0] at g10; omega
              have hkK : k' < K := by
                by_cases q : k' = K
                · rw [q, hS] at Sk0; exact absurd rfl Sk0
                · omega
              have e1 : (s14.1 8 0 + 1).toInt = c' + 1 := by rw [t_p1 (by omega) (by omega), hc]
              have h2 : LSt S P N K k2 k' (c' + 1) o' (wupI s14 8 0 (s14.1 8 0 + 1)) := by
                obtain ⟨ct, h0, q1, q2, q3⟩ := f2
                refine ⟨ct.go (wupI_n (by decide)) (wupI_n (by decide)) (wupI_n (by decide)) (by rw [wupI_n (by decide)]) (by rw [wupI_n (by decide)]), by rw [wupI_n (by decide)]; exact h0, ⟨by rw [wup_same]; exact e1, by omega⟩, by rw [wupI_n (by omega)]; exact q2, by rw [wupI_n (by omega)]; exact q3⟩
              unfold wX4_readFact_j153
              show Tot ((wX9_skip (wupI s14 8 0 (s14.1 8 0 + 1))).bind _) _
              rw [skip_E h2.1 f5, if_pos hkK, t_sbe]
              have h3 := h2.hr (j := k' + 1) h44
              have a3 : wA (bLR k2) s14 (hr (wupI s14 8 0 (s14.1 8 0 + 1)) (k' + 1)) := (wA_I (bLR_p (Or.inr (Or.inl ⟨rfl, rfl⟩)))).trans h3.2
              refine t_bind (readSum_E h44 hS pb h3.1 (by omega) (by omega)) (fun s27 h27 => ?_)
              rcases h27 with ⟨e, g1, g2⟩ | ⟨k'', c'', o'', g1, g2, g3, g4, g5, g6, g7⟩
              · refine t_bind (put_F h44 g2) (fun s30 h30 => t_some (Or.inl ⟨e, h30, fun q hd => Ev.ret ?_⟩))
                unfold tst
                dsimp only
                rw [if_pos rfl, if_neg cop, sumV_eq f1]
                dsimp only
                rw [if_neg (fun q => q.elim c10 c14), if_neg c60, sumV_eq g1]
              · refine t_bind (g2.put h44 (v := S k') (Or.inr (Or.inr (by have g14 := t_ge c14; rw [show (14 : Int32).toInt = 14 from rfl] at g14; omega))) (by omega)) (fun s30 h30 => t_some (Or.inr ⟨k'', c'', o'' ++ [S k'], h30.1, ((f3.trans a3).trans g3).trans h30.2, ⟨by omega, g5, by rw [List.length_append]; show o''.length + 1 + k ≤ _; omega, by rw [List.length_append]; show _ < o''.length + 1; omega⟩, fun q r hd hr => Ev.step (c' := (false, (stl 3 q (o'' ++ [S k'])).1, k'', c'', (stl 3 q (o'' ++ [S k'])).2)) ?_ hr⟩))
                unfold tst
                dsimp only
                rw [if_pos rfl, if_neg cop, sumV_eq f1]
                dsimp only
                rw [if_neg (fun q => q.elim c10 c14), if_neg c60, sumV_eq g1]
/-- a whole TEST -/
noncomputable def TestE (S P N : Nat → Int32) (k c : Nat) (o : List Int32) (r : sR) : Prop := Ev (tst S P N) (true, [], k, c, o) r
noncomputable def testV (S P N : Nat → Int32) (k c : Nat) (o : List Int32) : sR := @Classical.epsilon sR ⟨.inl 0⟩ (fun r => TestE S P N k c o r)
theorem testV_eq {S P N : Nat → Int32} {k c : Nat} {o : List Int32} {r : sR} (h : TestE S P N k c o r) : testV S P N k c o = r := (Classical.epsilon_spec (p := fun r => TestE S P N k c o r) ⟨r, h⟩).det h
theorem readTest_W (h44 : 44 ≤ k2) (hS : S K = 0) (pb : ∀ j, j ≤ K → 0 ≤ (P j).toInt ∧ (P j).toInt ≤ 400) (h : LSt S P N K k2 k c o s) (hk : k ≤ K) (hl : o.length ≤ k) : Tot (wX4_readTest k2 0 s) (fun s' => (∃ e, TestE S P N k c o (.inl e) ∧ CF S P N K e s') ∨ (∃ k' c' o', TestE S P N k c o (.inr (k', c', o')) ∧ LSt S P N K k2 k' c' o' s' ∧ wA (bLR k2) s s' ∧ k ≤ k' ∧ k' ≤ K ∧ o'.length + k ≤ o.length + k' ∧ o.length < o'.length)) := by
  have hK := h.1.2.1.2
  unfold wX4_readTest
  refine t_mono (readTest_E (A := 0) (a := 0) (q := wX4_readFact 16) h44 hS (fun g1 g2 g3 => readFact_E h44 hS pb 16 (A := 0) (by decide) (by decide) (by decide) g1 g2 g3) h hk hl) (fun s' hs => ?_)
  obtain ⟨hs, hgr⟩ := hs
  rcases hs with ⟨e, f1, f2⟩ | ⟨k', c', o', a', o1, f1, f2, ⟨f3, f4, f5, f6⟩, ⟨f7, f8⟩, f9, f10, f11⟩
  · exact Or.inl ⟨e, f2 [] (Or.inl rfl) rfl, f1⟩
  · rw [List.append_nil] at f5 f6
    have gr : o.length < o'.length := by
      rcases hgr with ⟨e, he⟩ | hg
      · exact absurd f1.2.1 (by rw [he.2.1]; exact he.2.2.1)
      · rw [f1.2.2.2.1, t_on (by omega)] at hg
        omega
    refine Or.inr ⟨k', c', o', f11 [] _ (Or.inl rfl) rfl (Ev.ret ?_), f1, f2, f3, f4, f5, gr⟩
    have n4 : ¬ (4 : Int32) ∈ a' ++ [] := by
      rw [List.append_nil]
      intro q
      rcases f9 4 q with r | r <;> exact absurd r (by decide)
    unfold tst
    dsimp only
    rw [if_neg (by decide), if_neg (fun e => n4 e.2), if_neg f8, if_neg f7, if_neg n4, stl_app (fun x hx => st_20 (f9 x hx)), f10]
    rfl
end LAWF
