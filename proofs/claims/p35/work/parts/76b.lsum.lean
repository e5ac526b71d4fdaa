/-! The class reads a SUM. -/
section LAWS
variable {S P N : Nat → Int32} {K k2 k c : Nat} {o : List Int32} {s : wS}
/-- behind a SUM's loop -/
noncomputable abbrev sfin (k2 : Nat) (z : (Int32 × wS) ⊕ (Int32 × wS)) : Option wS := match z with
  | .inl (t27, s28) => wX4_readSum_j95 k2 t27 s28
  | .inr (t34, s35) => wX4_readSum_j95 k2 t34 s35
theorem j95_F {e w : Int32} (h44 : 44 ≤ k2) (h : CF S P N K e s) : Tot (wX4_readSum_j95 k2 w s) (fun s' => CF S P N K e s') := by
  unfold wX4_readSum_j95
  exact t_bind (put_F h44 h) (fun s' hs => t_some hs)
theorem h11_F {e w i : Int32} {n : Nat} (h44 : 44 ≤ k2) (h : CF S P N K e s) : Tot ((wX4_readSum_h11 k2 (n + 1) w i s).bind (sfin k2)) (fun s' => CF S P N K e s') := by
  rw [wX4_readSum_h11]
  by_cases c : i < 400
  · rw [if_pos c, h.sign, t_sbe, if_pos (by decide), t_sbe]
    exact j95_F h44 h
  · rw [if_neg c, t_sbe]
    exact j95_F h44 h
theorem readSum_F {e : Int32} (h44 : 44 ≤ k2) (h : CF S P N K e s) : Tot (wX4_readSum k2 s) (fun s' => CF S P N K e s') := by
  unfold wX4_readSum
  rw [readValue_F h, t_sbe]
  have e : wFuel = 1099511627775 + 1 := rfl
  rw [e]
  exact h11_F h44 h
theorem wl_len {w : Int32} : (wl w).length ≤ 1 := by
  unfold wl
  by_cases c : w = 0
  · rw [if_pos c]; exact Nat.zero_le _
  · rw [if_neg c]; exact Nat.le_refl _
theorem wl_1 {w : Int32} (h : ¬ w = 0) : wl w = [w] := by
  unfold wl
  rw [if_neg h]
/-- what a SUM's reading comes to -/
noncomputable def SQ (S P N : Nat → Int32) (K k2 k c : Nat) (l0 : Nat) (R : sR → Prop) (s s' : wS) : Prop := (∃ e, R (.inl e) ∧ CF S P N K e s') ∨ (∃ k' c' o', R (.inr (k', c', o')) ∧ LSt S P N K k2 k' c' o' s' ∧ wA (bLR k2) s s' ∧ k ≤ k' ∧ k' ≤ K ∧ o'.length + k ≤ l0 + k' ∧ l0 ≤ o'.length)
theorem h11_E (h44 : 44 ≤ k2) (hS : S K = 0) (pb : ∀ j, j ≤ K → 0 ≤ (P j).toInt ∧ (P j).toInt ≤ 400) : ∀ (n : Nat) {k c : Nat} {w i : Int32} {o : List Int32} {s : wS}, LSt S P N K k2 k c o s → (w = 0 ∨ okc w) → k ≤ K → (o ++ wl w).length ≤ k → 0 ≤ i.toInt → i.toInt ≤ k → K - k < n → Tot ((wX4_readSum_h11 k2 n w i s).bind (sfin k2)) (fun s' => SQ S P N K k2 k c (o ++ wl w).length (Ev (sst S P N) (k, c, w, o)) s s') := by
  intro n
  induction n with
  | zero => intro k c w i o s _ _ _ _ _ _ hm; exact absurd hm (by omega)
  | succ n ih =>
    intro k c w i o s h hw hk hl i0 hi hm
    have hK := h.1.2.1.2
    have lw := wl_len (w := w)
    have lo : (o ++ wl w).length = o.length + (wl w).length := List.length_append
    have e6 : (6 : Int32).toInt = 6 := rfl
    have e9 : (9 : Int32).toInt = 9 := rfl
    -- the end
    have stop : ¬ (S k = 8 ∨ S k = 9) → ¬ (S k = 6 ∨ S k = 7) → Tot (wX4_readSum_j95 k2 w s) (fun s' => SQ S P N K k2 k c (o ++ wl w).length (Ev (sst S P N) (k, c, w, o)) s s') := by
      intro n8 n6
      unfold wX4_readSum_j95
      refine t_bind (h.putw h44 hw (by omega)) (fun s' hs => t_some (Or.inr ⟨k, c, o ++ wl w, Ev.ret ?_, hs.1, hs.2, Nat.le_refl _, hk, Nat.le_refl _, Nat.le_refl _⟩))
      unfold sst
      dsimp only
      rw [if_neg n8, if_neg n6]
    rw [wX4_readSum_h11]
    by_cases c4 : i < 400
    · rw [if_pos c4, sign_E h.1 hk, t_sbe]
      by_cases c6 : S k < 6
      · have := t_lt c6
        rw [if_pos c6, t_sbe]
        exact stop (fun q => by rcases q with q | q <;> rw [q] at this <;> exact absurd this (by decide)) (fun q => by rcases q with q | q <;> rw [q] at this <;> exact absurd this (by decide))
      · rw [if_neg c6]
        by_cases c9 : 9 < S k
        · have := t_lt c9
          rw [if_pos c9, t_sbe]
          exact stop (fun q => by rcases q with q | q <;> rw [q] at this <;> exact absurd this (by decide)) (fun q => by rcases q with q | q <;> rw [q] at this <;> exact absurd this (by decide))
        · rw [if_neg c9]
          have g6 := t_ge c6
          have g9 := t_ge c9
          rw [e6] at g6
          rw [e9] at g9
          have hkK : k < K := by
            by_cases q : k = K
            · rw [q, hS, t_i0] at g6; omega
            · omega
          rw [skip_E h.1 hk, if_pos hkK, t_sbe]
          have h1 := h.hr (j := k + 1) h44
          have ei := t_p1 (x := i) i0 (by omega)
          obtain ⟨n', rfl⟩ : ∃ n', n = n' + 1 := ⟨n - 1, by omega⟩
          by_cases c89 : S k = 8 ∨ S k = 9
          · have mul : Tot ((wX4_readSum_j60 (wX4_readSum_h11 k2 (n' + 1)) k2 w i (S k) (hr s (k + 1))).bind (sfin k2)) (fun s' => SQ S P N K k2 k c (o ++ wl w).length (Ev (sst S P N) (k, c, w, o)) s s') := by
              unfold wX4_readSum_j60
              obtain ⟨s14, e14, h14⟩ := readValue_E h44 h1.1 (by omega) hS pb (by omega)
              rw [e14, t_sbe]
              rcases h14 with ⟨e, v1, v2⟩ | ⟨v, v1, v2, v3, v4, v5⟩
              · refine t_assoc (t_bind (put_F h44 v2) (fun s17 h17 => ?_))
                unfold wX4_readSum_j89
                refine t_mono (h11_F h44 h17) (fun s' hs => Or.inl ⟨e, Ev.ret ?_, hs⟩)
                unfold sst
                dsimp only
                rw [if_pos c89, v1]
              · have l1 : (o ++ [v]).length = o.length + 1 := by rw [List.length_append]; rfl
                have Sk0 : ¬ S k = 0 := fun q => by rw [q, t_i0] at g6; omega
                refine t_assoc (t_bind (v4.put h44 (Or.inr (Or.inr (by omega))) (by omega)) (fun s17 h17 => ?_))
                unfold wX4_readSum_j89
                have l2 : (o ++ [v] ++ [S k]).length = o.length + 2 := by rw [List.length_append, l1]; rfl
                have l3 : (o ++ [v] ++ [S k] ++ wl w).length = o.length + 2 + (wl w).length := by rw [List.length_append, l2]
                have st : sst S P N (k, c, w, o) = .inl (k + 2, c + 1, w, o ++ [v] ++ [S k]) := by
                  unfold sst
                  dsimp only
                  rw [if_pos c89, v1]
                refine t_mono (ih (k := k + 2) (c := c + 1) (w := w) (o := o ++ [v] ++ [S k]) h17.1 hw (by omega) (by omega) (by omega) (by omega) (by omega)) (fun s' hs => ?_)
                rcases hs with ⟨e, a, b⟩ | ⟨k', c', o', a, b, d, f1, f2, f3, f4⟩
                · exact Or.inl ⟨e, Ev.step st a, b⟩
                · exact Or.inr ⟨k', c', o', Ev.step st a, b, ((h1.2.trans v5).trans h17.2).trans d, by omega, f2, by omega, by omega⟩
            by_cases c8 : S k = 8
            · rw [if_pos c8]
              exact mul
            · rw [if_neg c8, if_pos (c89.resolve_left c8)]
              exact mul
          · rw [if_neg (fun q => c89 (Or.inl q)), if_neg (fun q => c89 (Or.inr q))]
            have c67 : S k = 6 ∨ S k = 7 := by
              have n8 : (S k).toInt ≠ 8 := fun q => c89 (Or.inl (Int32.toInt_inj.1 q))
              have n9 : (S k).toInt ≠ 9 := fun q => c89 (Or.inr (Int32.toInt_inj.1 q))
              by_cases q : (S k).toInt = 6
              · exact Or.inl (Int32.toInt_inj.1 q)
              · exact Or.inr (Int32.toInt_inj.1 (by show _ = (7 : Int); omega))
            have Sk0 : ¬ S k = 0 := fun q => by rw [q, t_i0] at g6; omega
            refine t_assoc (t_bind (h1.1.putw h44 (v := w) hw (by omega)) (fun s21 h21 => ?_))
            obtain ⟨s24, e24, h24⟩ := readValue_E h44 h21.1 (by omega) hS pb (by omega)
            rw [e24, t_sbe]
            unfold wX4_readSum_j89
            rcases h24 with ⟨e, v1, v2⟩ | ⟨v, v1, v2, v3, v4, v5⟩
            · refine t_mono (h11_F h44 v2) (fun s' hs => Or.inl ⟨e, Ev.ret ?_, hs⟩)
              unfold sst
              dsimp only
              rw [if_neg c89, if_pos c67, v1]
            · have l1 : (o ++ wl w ++ [v]).length = (o ++ wl w).length + 1 := by rw [List.length_append]; rfl
              have l3 : (o ++ wl w ++ [v] ++ wl (S k)).length = (o ++ wl w).length + 2 := by rw [List.length_append, l1, wl_1 Sk0]; rfl
              have st : sst S P N (k, c, w, o) = .inl (k + 2, c + 1, S k, o ++ wl w ++ [v]) := by
                unfold sst
                dsimp only
                rw [if_neg c89, if_pos c67, v1]
              refine t_mono (ih (k := k + 2) (c := c + 1) (w := S k) (o := o ++ wl w ++ [v]) v4 (Or.inr (Or.inr (Or.inr (by omega)))) (by omega) (by omega) (by omega) (by omega) (by omega)) (fun s' hs => ?_)
              rcases hs with ⟨e, a, b⟩ | ⟨k', c', o', a, b, d, f1, f2, f3, f4⟩
              · exact Or.inl ⟨e, Ev.step st a, b⟩
              · exact Or.inr ⟨k', c', o', Ev.step st a, b, ((h1.2.trans h21.2).trans v5).trans d, by omega, f2, by omega, by omega⟩
    · have := t_ge c4
      rw [show (400 : Int32).toInt = 400 from rfl] at this
      obtain rfl : k = K := by omega
      rw [if_neg c4, t_sbe]
      exact stop (fun q => by rcases q with q | q <;> rw [hS] at q <;> exact absurd q (by decide)) (fun q => by rcases q with q | q <;> rw [hS] at q <;> exact absurd q (by decide))
theorem readSum_E (h44 : 44 ≤ k2) (hS : S K = 0) (pb : ∀ j, j ≤ K → 0 ≤ (P j).toInt ∧ (P j).toInt ≤ 400) (h : LSt S P N K k2 k c o s) (hk : k ≤ K) (hl : o.length ≤ k) : Tot (wX4_readSum k2 s) (fun s' => SQ S P N K k2 (k + 1) c (o.length + 1) (SumE S P N k c o) s s') := by
  have hK := h.1.2.1.2
  unfold wX4_readSum
  obtain ⟨s2, e2, h2⟩ := readValue_E h44 h hk hS pb hl
  rw [e2, t_sbe]
  rcases h2 with ⟨e, v1, v2⟩ | ⟨v, v1, v2, v3, v4, v5⟩
  · have ef : wFuel = 1099511627775 + 1 := rfl
    rw [ef]
    exact t_mono (h11_F h44 v2) (fun s' hs => Or.inl ⟨e, Or.inl ⟨e, v1, rfl⟩, hs⟩)
  · have l1 : (o ++ [v]).length = o.length + 1 := by rw [List.length_append]; rfl
    have w0 : wl 0 = [] := rfl
    have l2 : (o ++ [v] ++ wl 0).length = o.length + 1 := by rw [w0, List.append_nil, l1]
    refine t_mono (h11_E h44 hS pb wFuel (k := k + 1) (c := c + 1) (w := 0) (i := 0) (o := o ++ [v]) v4 (Or.inl rfl) (by omega) (by omega) (by decide) (by rw [t_i0]; omega) (by
      have e : wFuel = 1099511627776 := rfl
      omega)) (fun s' hs => ?_)
    rw [l2] at hs
    rcases hs with ⟨e, a, b⟩ | ⟨k', c', o', a, b, d, f1, f2, f3, f4⟩
    · exact Or.inl ⟨e, Or.inr ⟨v, v1, a⟩, b⟩
    · exact Or.inr ⟨k', c', o', Or.inr ⟨v, v1, a⟩, b, v5.trans d, f1, f2, f3, f4⟩
end LAWS
