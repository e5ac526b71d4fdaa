/-! useful; next. -/
/-- the i-th -/
noncomputable def nth (L : List (Nat × Nat × Nat)) (i : Nat) : Nat × Nat × Nat := L.getD i (0, 0, 0)
theorem nth_E {L : List (Nat × Nat × Nat)} {i : Nat} (h : i < L.length) : L[i]? = some (nth L i) := by
  unfold nth
  rw [List.getD_eq_getElem?_getD, List.getElem?_eq_getElem h]
  rfl
/-- the LOWER BOUND -/
noncomputable def lbf (m : Nat) : Nat → Nat → Nat
  | 0, i => i
  | k + 1, i => if 2 ^ i < m then lbf m k (i + 1) else i
theorem lbf_s {m k i : Nat} : lbf m (k + 1) i = if 2 ^ i < m then lbf m k (i + 1) else i := rfl
theorem lbf_E {m : Nat} (hm : m ≤ 512) {L : Nat → Int32 → Option Int32} (h : ∀ n i, i ≤ 9 → L (n + 1) (Int32.ofNat i) = if 2 ^ i < m then L n (Int32.ofNat (i + 1)) else some (Int32.ofNat i)) : ∀ (k n i : Nat), i + k = 9 → k < n → L n (Int32.ofNat i) = some (Int32.ofNat (lbf m k i)) := by
  intro k
  induction k with
  | zero =>
    intro n i hi hn
    obtain ⟨n', rfl⟩ : ∃ n', n = n' + 1 := ⟨n - 1, by omega⟩
    obtain rfl : i = 9 := by omega
    rw [h n' 9 (Nat.le_refl _), if_neg (by omega)]
    rfl
  | succ k ih =>
    intro n i hi hn
    obtain ⟨n', rfl⟩ : ∃ n', n = n' + 1 := ⟨n - 1, by omega⟩
    rw [h n' i (by omega), lbf_s]
    by_cases c : 2 ^ i < m
    · rw [if_pos c, if_pos c]
      exact ih n' (i + 1) (by omega) (by omega)
    · rw [if_neg c, if_neg c]
theorem sh_10 : ∀ i, i < 10 → (1 : Int32) <<< (Int32.ofNat i &&& 31) = Int32.ofNat (2 ^ i) := by decide +kernel
theorem p_10 : ∀ i, i < 10 → 2 ^ i ≤ 512 := by decide
section US
variable {s : wS} {x : lC} {l : Nat} {f : Nat → Int32} {r : wS}
theorem bound10_E {m : Nat} (hm : m ≤ 512) : wX10_lowerBound (Int32.ofNat m) s = some (Int32.ofNat (lbf m 9 0)) := by
  unfold wX10_lowerBound
  have e : wX10_lowerBound_h2 (Int32.ofNat m) s wFuel 0 = _ := lbf_E hm (L := wX10_lowerBound_h2 (Int32.ofNat m) s) (fun n i hi => by
    have := p_10 i (by omega)
    rw [wX10_lowerBound_h2, if_pos (show Int32.ofNat i < 30 from (o_lt (a := i) (b := 30) (by omega) (by omega)).2 (by omega)), sh_10 i (by omega), o_1]
    by_cases c : 2 ^ i < m
    · rw [if_pos ((o_lt (by omega) (by omega)).2 c), if_pos c]
    · rw [if_neg (fun h => c ((o_lt (by omega) (by omega)).1 h)), if_neg c]) 9 wFuel 0 rfl (wF_k (by omega))
  rw [e, t_sbe]
theorem bound11_E {m : Nat} (hm : m ≤ 512) : wX11_useful_h44 (Int32.ofNat m) s wFuel 0 = some (Int32.ofNat (lbf m 9 0)) :=
  lbf_E hm (L := wX11_useful_h44 (Int32.ofNat m) s) (fun n i hi => by
    have := p_10 i (by omega)
    rw [wX11_useful_h44, sh_10 i (by omega), o_1]
    by_cases z : 0 < m
    · rw [if_pos (show (0 : Int32) < Int32.ofNat m from (o_lt (a := 0) (by omega) (by omega)).2 z)]
      by_cases c : 2 ^ i < m
      · rw [if_pos ((o_lt (by omega) (by omega)).2 c), if_pos c]
      · rw [if_neg (fun h => c ((o_lt (by omega) (by omega)).1 h)), if_neg c]
    · rw [if_neg (show ¬ (0 : Int32) < Int32.ofNat m from fun h => z ((o_lt (a := 0) (by omega) (by omega)).1 h)), if_neg (by
      have z0 : m = 0 := by omega
      rw [z0]
      exact Nat.not_lt_zero _)]) 9 wFuel 0 rfl (wF_k (by omega))
theorem lf_le {P : Nat → Bool} {t : Nat × Nat × Nat} : lf1 x f P t ≤ nW f ∧ lf2 x f P t ≤ nW f := ⟨cnt_le _, cnt_le _⟩
theorem great_E {a b : Nat} (ha : a ≤ 1000) (hb : b ≤ 1000) : wX11_greater (Int32.ofNat a) (Int32.ofNat b) s = some (Int32.ofNat (if b < a then a else b)) := by
  unfold wX11_greater
  by_cases c : b < a
  · rw [if_pos ((o_lt (by omega) (by omega)).2 c), if_pos c]
  · rw [if_neg (fun h => c ((o_lt (by omega) (by omega)).1 h)), if_neg c]
theorem op_useful {x1 x2 x3 : Int32} (g : JP s) : ∃ v s1 v2 s2, wX10_useful x1 x2 x3 s = some (v, s1) ∧ wX11_useful x1 x2 x3 s1 = some (v2, s2) ∧ v = v2 := by
  unfold wX10_useful wX11_useful
  rcases withKeptP_E g x1 x2 with ⟨s2, e, c⟩ | ⟨l, k, s2, x, ⟨q, z, t⟩, hx1, hx2, h40, e, c, m, p⟩
  · rw [e, t_sbe]
    refine ⟨-1, s2, -1, s2, rfl, ?_, rfl⟩
    rcases c with c | ⟨c, m⟩
    · rw [c, t_sbe, qi0]
    · rw [c, t_sbe, qi1, m, t_sbe, qi0]
  · rw [e, t_sbe]
    dsimp only [Option.elim]
    have e2 : (2 : Int32).toInt = 2 := rfl
    rw [isOutside_E]
    by_cases d : 0 ≤ x3.toInt ∧ x3.toInt ≤ 1
    · have cf := q.2.2.2.2.2
      have w5 := cf.w.1
      obtain ⟨⟨n, r⟩, er, en, rc, kr⟩ := keeps_E q (k := k) (by omega) (but := -1)
      dsimp only at en rc kr
      have N5 := cnt_le (p := kpt x (s2.1 163) (-1) k) (nW (s2.1 163))
      rw [if_pos (show 0 ≤ x3.toInt ∧ x3.toInt < (2 : Int32).toInt by omega), t_sbe, qi0, t.1]
      by_cases h0 : x3 = 0
      · have h1 : ¬ x3 = 1 := by rw [h0]; decide
        rw [if_pos h0]
        have l10 : wX10_usefulPairs (44 + 10 * l) s2 = some (Int32.ofNat (cnt (fun i => decide (lf1 x (s2.1 163) (kpt x (s2.1 163) (-1) k) (nth (pal (nk (s2.1 163)) 3) i) < cnt (kpt x (s2.1 163) (-1) k) (nW (s2.1 163))) && decide (lf2 x (s2.1 163) (kpt x (s2.1 163) (-1) k) (nth (pal (nk (s2.1 163)) 3) i) < cnt (kpt x (s2.1 163) (-1) k) (nW (s2.1 163)))) (pal (nk (s2.1 163)) 3).length)) := by
          have l84 := pal_84 cf
          unfold wX10_usefulPairs
          have e : wX10_usefulPairs_h4 (44 + 10 * l) s2 wFuel 0 0 = some (Int32.ofNat (cnt (fun i => decide (lf1 x (s2.1 163) (kpt x (s2.1 163) (-1) k) (nth (pal (nk (s2.1 163)) 3) i) < cnt (kpt x (s2.1 163) (-1) k) (nW (s2.1 163))) && decide (lf2 x (s2.1 163) (kpt x (s2.1 163) (-1) k) (nth (pal (nk (s2.1 163)) 3) i) < cnt (kpt x (s2.1 163) (-1) k) (nW (s2.1 163)))) (pal (nk (s2.1 163)) 3).length)) := by
            refine loop_P (L := fun n (p : Int32 × Int32) => wX10_usefulPairs_h4 (44 + 10 * l) s2 n p.1 p.2) (N := (pal (nk (s2.1 163)) 3).length) (I := fun i p => p.1 = Int32.ofNat (cnt (fun i => decide (lf1 x (s2.1 163) (kpt x (s2.1 163) (-1) k) (nth (pal (nk (s2.1 163)) 3) i) < cnt (kpt x (s2.1 163) (-1) k) (nW (s2.1 163))) && decide (lf2 x (s2.1 163) (kpt x (s2.1 163) (-1) k) (nth (pal (nk (s2.1 163)) 3) i) < cnt (kpt x (s2.1 163) (-1) k) (nW (s2.1 163)))) i) ∧ p.2 = Int32.ofNat i) (x := (0, 0)) (by omega) ⟨rfl, rfl⟩ (fun n i p' hi hI => ?_) (fun n p' hI => ?_)
            · obtain ⟨u, v⟩ := p'
              obtain ⟨ea, eb⟩ := hI
              dsimp only at ea eb ⊢
              subst ea eb
              obtain ⟨a1, a2⟩ := left10_E q p (Or.inl rfl) t (nth_E hi)
              obtain ⟨b1, b2⟩ := lf_le (x := x) (f := s2.1 163) (P := kpt x (s2.1 163) (-1) k) (t := nth (pal (nk (s2.1 163)) 3) i)
              rw [wX10_usefulPairs_h4, p.1, if_pos ((o_lt (by omega) (by omega)).2 hi), a1, t_sbe, a2, t.1]
              unfold wX10_usefulPairs_j64
              rw [o_1]
              by_cases d1 : lf1 x (s2.1 163) (kpt x (s2.1 163) (-1) k) (nth (pal (nk (s2.1 163)) 3) i) < cnt (kpt x (s2.1 163) (-1) k) (nW (s2.1 163))
              · rw [if_pos ((o_lt (by omega) (by omega)).2 d1), t_sbe]
                by_cases d2 : lf2 x (s2.1 163) (kpt x (s2.1 163) (-1) k) (nth (pal (nk (s2.1 163)) 3) i) < cnt (kpt x (s2.1 163) (-1) k) (nW (s2.1 163))
                · rw [if_pos ((o_lt (by omega) (by omega)).2 d2), o_1]
                  exact ⟨(_, _), rfl, congrArg Int32.ofNat (cnt_t (n := i) (by rw [decide_eq_true d1, decide_eq_true d2]; rfl)).symm, rfl⟩
                · rw [if_neg (fun h => d2 ((o_lt (by omega) (by omega)).1 h)), o_1]
                  exact ⟨(_, _), rfl, congrArg Int32.ofNat (cnt_f (n := i) (by rw [decide_eq_false d2, Bool.and_false])).symm, rfl⟩
              · rw [if_neg (fun h => d1 ((o_lt (by omega) (by omega)).1 h)), o_1]
                exact ⟨(_, _), rfl, congrArg Int32.ofNat (cnt_f (n := i) (by rw [decide_eq_false d1, Bool.false_and])).symm, rfl⟩
            · obtain ⟨u, v⟩ := p'
              obtain ⟨ea, eb⟩ := hI
              dsimp only at ea eb ⊢
              subst ea eb
              rw [wX10_usefulPairs_h4, p.1, if_neg (fun c => by have := (o_lt (by omega) (by omega)).1 c; omega)]
          rw [e, t_sbe]
        obtain ⟨r1, e1, gk, pu⟩ := gathers_E rc.1 cf
        have l11 : Tot (wX11_useful_h74 n wFuel 0 0 r1) (fun v => v.1 = Int32.ofNat (cnt (fun i => decide (lf1 x (s2.1 163) (kpt x (s2.1 163) (-1) k) (nth (pal (nk (s2.1 163)) 3) i) < cnt (kpt x (s2.1 163) (-1) k) (nW (s2.1 163))) && decide (lf2 x (s2.1 163) (kpt x (s2.1 163) (-1) k) (nth (pal (nk (s2.1 163)) 3) i) < cnt (kpt x (s2.1 163) (-1) k) (nW (s2.1 163)))) (pal (nk (s2.1 163)) 3).length)) := by
          have l84 := pal_84 cf
          refine loop_N (L := fun n' (p : Int32 × Int32 × wS) => wX11_useful_h74 n n' p.1 p.2.1 p.2.2) (N := (pal (nk (s2.1 163)) 3).length) (I := fun i p => p.1 = Int32.ofNat (cnt (fun i => decide (lf1 x (s2.1 163) (kpt x (s2.1 163) (-1) k) (nth (pal (nk (s2.1 163)) 3) i) < cnt (kpt x (s2.1 163) (-1) k) (nW (s2.1 163))) && decide (lf2 x (s2.1 163) (kpt x (s2.1 163) (-1) k) (nth (pal (nk (s2.1 163)) 3) i) < cnt (kpt x (s2.1 163) (-1) k) (nW (s2.1 163)))) i) ∧ p.2.1 = Int32.ofNat i ∧ AK r1 p.2.2) (x := (0, 0, r1)) (by omega) ⟨rfl, rfl, AK.refl⟩ (fun n' i p' hi hI => ?_) (fun n' p' hI => ?_)
          · obtain ⟨u, v, r2⟩ := p'
            obtain ⟨ea, eb, ak⟩ := hI
            dsimp only at ea eb ak ⊢
            subst ea eb
            have c2 := ak.rc (gk.rc rc)
            have p2 := ak.pu pu
            obtain ⟨r3, e3, a3, v34, v35⟩ := asks_E c2 p2 (ak.kw (gk.kw kr)) (nth_E hi)
            obtain ⟨b1, b2⟩ := lf_le (x := x) (f := s2.1 163) (P := kpt x (s2.1 163) (-1) k) (t := nth (pal (nk (s2.1 163)) 3) i)
            rw [wX11_useful_h74, p2.1, if_pos ((o_lt (by omega) (by omega)).2 hi), e3, t_sbe, v34, v35, great_E (by omega) (by omega), t_sbe, en]
            unfold wX11_useful_j112
            rw [o_1]
            have gl : (if lf2 x (s2.1 163) (kpt x (s2.1 163) (-1) k) (nth (pal (nk (s2.1 163)) 3) i) < lf1 x (s2.1 163) (kpt x (s2.1 163) (-1) k) (nth (pal (nk (s2.1 163)) 3) i) then lf1 x (s2.1 163) (kpt x (s2.1 163) (-1) k) (nth (pal (nk (s2.1 163)) 3) i) else lf2 x (s2.1 163) (kpt x (s2.1 163) (-1) k) (nth (pal (nk (s2.1 163)) 3) i)) ≤ 512 := by split <;> omega
            by_cases d1 : (if lf2 x (s2.1 163) (kpt x (s2.1 163) (-1) k) (nth (pal (nk (s2.1 163)) 3) i) < lf1 x (s2.1 163) (kpt x (s2.1 163) (-1) k) (nth (pal (nk (s2.1 163)) 3) i) then lf1 x (s2.1 163) (kpt x (s2.1 163) (-1) k) (nth (pal (nk (s2.1 163)) 3) i) else lf2 x (s2.1 163) (kpt x (s2.1 163) (-1) k) (nth (pal (nk (s2.1 163)) 3) i)) < cnt (kpt x (s2.1 163) (-1) k) (nW (s2.1 163))
            · rw [if_pos ((o_lt (by omega) (by omega)).2 d1), o_1]
              refine ⟨(_, _, _), rfl, congrArg Int32.ofNat (cnt_t (n := i) ?_).symm, rfl, ak.trans a3⟩
              rw [Bool.and_eq_true]
              constructor
              · refine decide_eq_true ?_
                split at d1 <;> omega
              · refine decide_eq_true ?_
                split at d1 <;> omega
            · rw [if_neg (fun h => d1 ((o_lt (by omega) (by omega)).1 h)), o_z, o_1]
              refine ⟨(_, _, _), rfl, congrArg Int32.ofNat (cnt_f (n := i) ?_).symm, rfl, ak.trans a3⟩
              refine Bool.eq_false_iff.2 (fun h => d1 ?_)
              rw [Bool.and_eq_true] at h
              have h1 := of_decide_eq_true h.1
              have h2 := of_decide_eq_true h.2
              split <;> omega
          · obtain ⟨u, v, r2⟩ := p'
            obtain ⟨ea, eb, ak⟩ := hI
            dsimp only at ea eb ak ⊢
            subst ea eb
            rw [wX11_useful_h74, (ak.pu pu).1, if_neg (fun c => by have := (o_lt (by omega) (by omega)).1 c; omega)]
            exact t_some rfl
        obtain ⟨⟨v2, r4⟩, e4, ev⟩ := l11
        dsimp only at ev
        rw [l10, t_sbe]
        refine ⟨_, s2, v2, r4, rfl, ?_, ev.symm⟩
        rw [c s2 q, t_sbe, qi1, m s2, t_sbe, qi1, in64_E (A := 0) (B := 1) rfl rfl, if_pos d, t_sbe, qi1, hx1, hx2, er, t_sbe]
        dsimp only
        rw [if_neg h1, e1, t_sbe, e4]
        rfl
      · have h1 : x3 = 1 := by
          have h2 : ¬ x3.toInt = 0 := fun h => h0 (Int32.toInt_inj.1 h)
          exact Int32.toInt_inj.1 (show x3.toInt = 1 by omega)
        rw [if_neg h0, bound10_E (by omega), t_sbe]
        refine ⟨_, s2, _, r, rfl, ?_, rfl⟩
        rw [c s2 q, t_sbe, qi1, m s2, t_sbe, qi1, in64_E (A := 0) (B := 1) rfl rfl, if_pos d, t_sbe, qi1, hx1, hx2, er, t_sbe]
        dsimp only
        rw [if_pos h1, en, bound11_E (by omega), t_sbe]
    · rw [if_neg (by omega), t_sbe, qi1]
      refine ⟨_, _, -1, s2, rfl, ?_, rfl⟩
      rw [c s2 q, t_sbe, qi1, m s2, t_sbe, qi1, in64_E (A := 0) (B := 1) rfl rfl, if_neg d, t_sbe, qi0]
/-- what a PAIR costs: the greater LEFT, or both squared -/
noncomputable def pco (x : lC) (f : Nat → Int32) (P : Nat → Bool) (mean : Bool) (t : Nat × Nat × Nat) : Nat := if mean = true then lf1 x f P t * lf1 x f P t + lf2 x f P t * lf2 x f P t else if lf2 x f P t < lf1 x f P t then lf1 x f P t else lf2 x f P t
theorem pco_le {P : Nat → Bool} {b : Bool} {t : Nat × Nat × Nat} (h : nW f ≤ 512) : pco x f P b t ≤ 524288 := by
  obtain ⟨b1, b2⟩ := lf_le (x := x) (f := f) (P := P) (t := t)
  unfold pco
  have m1 : lf1 x f P t * lf1 x f P t ≤ 512 * 512 := Nat.mul_le_mul (by omega) (by omega)
  have m2 : lf2 x f P t * lf2 x f P t ≤ 512 * 512 := Nat.mul_le_mul (by omega) (by omega)
  cases b
  · rw [b_f]
    split <;> omega
  · rw [if_pos rfl]
    omega
/-- the best PAIR, by the class -/
theorem best_E (q : QS l x s) (p : PTB s (pal (nk (s.1 163)) 3)) {k1 : Nat} (hk : k1 = 35 ∨ k1 = 37) {P : Nat → Bool} (t1 : TLY k1 (s.1 163) P (nW (s.1 163)) s) {y : Int32} (hy : y = 0 ∨ y = 1) : wX5_best (44 + 10 * l) k1 y s = some (if (pal (nk (s.1 163)) 3).length = 0 then -1 else Int32.ofNat (bst (fun i => pco x (s.1 163) P (decide (y = 1)) (nth (pal (nk (s.1 163)) 3) i)) (pal (nk (s.1 163)) 3).length)) := by
  have cf := q.2.2.2.2.2
  have w5 := cf.w.1
  have l84 := pal_84 cf
  have cl := fun i => pco_le (x := x) (f := s.1 163) (P := P) (b := decide (y = 1)) (t := nth (pal (nk (s.1 163)) 3) i) w5
  unfold wX5_best
  have e : wX5_best_h9 (44 + 10 * l) k1 y s wFuel (-1) 0 0 = some (if (pal (nk (s.1 163)) 3).length = 0 then -1 else Int32.ofNat (bst (fun i => pco x (s.1 163) P (decide (y = 1)) (nth (pal (nk (s.1 163)) 3) i)) (pal (nk (s.1 163)) 3).length)) := by
    refine loop_P (L := fun n (p : Int32 × Int32 × Int32) => wX5_best_h9 (44 + 10 * l) k1 y s n p.1 p.2.1 p.2.2) (N := (pal (nk (s.1 163)) 3).length) (I := fun i p => p.1 = (if i = 0 then -1 else Int32.ofNat (bst (fun i => pco x (s.1 163) P (decide (y = 1)) (nth (pal (nk (s.1 163)) 3) i)) i)) ∧ (¬ i = 0 → p.2.1 = Int32.ofNat (pco x (s.1 163) P (decide (y = 1)) (nth (pal (nk (s.1 163)) 3) (bst (fun i => pco x (s.1 163) P (decide (y = 1)) (nth (pal (nk (s.1 163)) 3) i)) i)))) ∧ p.2.2 = Int32.ofNat i) (x := (-1, 0, 0)) (by omega) ⟨rfl, fun h => absurd rfl h, rfl⟩ (fun n i p' hi hI => ?_) (fun n p' hI => ?_)
    · obtain ⟨u, v, w⟩ := p'
      obtain ⟨ea, eb, ec⟩ := hI
      dsimp only at ea eb ec ⊢
      subst ec
      obtain ⟨a1, a2⟩ := left10_E q p hk t1 (nth_E hi)
      obtain ⟨b1, b2⟩ := lf_le (x := x) (f := s.1 163) (P := P) (t := nth (pal (nk (s.1 163)) 3) i)
      have ci := cl i
      have cb := cl (bst (fun i => pco x (s.1 163) P (decide (y = 1)) (nth (pal (nk (s.1 163)) 3) i)) i)
      -- a turn, the cost known
      have turn : ∀ z : Int32, z = Int32.ofNat (pco x (s.1 163) P (decide (y = 1)) (nth (pal (nk (s.1 163)) 3) i)) → ∃ x' : Int32 × Int32 × Int32, wX5_best_j63 (wX5_best_h9 (44 + 10 * l) k1 y s n) (44 + 10 * l) k1 y u v (Int32.ofNat i) z s = wX5_best_h9 (44 + 10 * l) k1 y s n x'.1 x'.2.1 x'.2.2 ∧ x'.1 = (if i + 1 = 0 then -1 else Int32.ofNat (bst (fun i => pco x (s.1 163) P (decide (y = 1)) (nth (pal (nk (s.1 163)) 3) i)) (i + 1))) ∧ (¬ i + 1 = 0 → x'.2.1 = Int32.ofNat (pco x (s.1 163) P (decide (y = 1)) (nth (pal (nk (s.1 163)) 3) (bst (fun i => pco x (s.1 163) P (decide (y = 1)) (nth (pal (nk (s.1 163)) 3) i)) (i + 1))))) ∧ x'.2.2 = Int32.ofNat (i + 1) := fun z hz => by
        unfold wX5_best_j63 wX5_best_j78 wX5_best_j86
        rw [o_1, if_neg (Nat.succ_ne_zero i)]
        have new : bst (fun i => pco x (s.1 163) P (decide (y = 1)) (nth (pal (nk (s.1 163)) 3) i)) (i + 1) = i → ∃ x' : Int32 × Int32 × Int32, wX5_best_h9 (44 + 10 * l) k1 y s n (Int32.ofNat i) z (Int32.ofNat (i + 1)) = wX5_best_h9 (44 + 10 * l) k1 y s n x'.1 x'.2.1 x'.2.2 ∧ x'.1 = Int32.ofNat (bst (fun i => pco x (s.1 163) P (decide (y = 1)) (nth (pal (nk (s.1 163)) 3) i)) (i + 1)) ∧ (¬ i + 1 = 0 → x'.2.1 = Int32.ofNat (pco x (s.1 163) P (decide (y = 1)) (nth (pal (nk (s.1 163)) 3) (bst (fun i => pco x (s.1 163) P (decide (y = 1)) (nth (pal (nk (s.1 163)) 3) i)) (i + 1))))) ∧ x'.2.2 = Int32.ofNat (i + 1) := fun hb => by
          rw [hb]
          exact ⟨(Int32.ofNat i, z, Int32.ofNat (i + 1)), rfl, rfl, fun _ => hz, rfl⟩
        by_cases i0 : i = 0
        · rw [if_pos i0] at ea
          rw [if_pos ea]
          refine new ?_
          subst i0
          rw [bst_s, show bst (fun i => pco x (s.1 163) P (decide (y = 1)) (nth (pal (nk (s.1 163)) 3) i)) 0 = 0 from rfl, if_neg (Nat.lt_irrefl _)]
        · rw [if_neg i0] at ea
          have bl := bst_lt (g := fun i => pco x (s.1 163) P (decide (y = 1)) (nth (pal (nk (s.1 163)) 3) i)) (n := i) (by omega)
          have n1 : ¬ u = -1 := fun h => by
            rw [ea] at h
            have := congrArg Int32.toInt h
            rw [t_on (by omega), t_neg1] at this
            omega
          rw [if_neg n1, eb i0, hz]
          by_cases d : pco x (s.1 163) P (decide (y = 1)) (nth (pal (nk (s.1 163)) 3) i) < pco x (s.1 163) P (decide (y = 1)) (nth (pal (nk (s.1 163)) 3) (bst (fun i => pco x (s.1 163) P (decide (y = 1)) (nth (pal (nk (s.1 163)) 3) i)) i))
          · rw [if_pos ((o_lt (by omega) (by omega)).2 d), ← hz]
            exact new (by rw [bst_s, if_pos d])
          · have hb : bst (fun i => pco x (s.1 163) P (decide (y = 1)) (nth (pal (nk (s.1 163)) 3) i)) (i + 1) = bst (fun i => pco x (s.1 163) P (decide (y = 1)) (nth (pal (nk (s.1 163)) 3) i)) i := by rw [bst_s, if_neg d]
            rw [if_neg (fun h => d ((o_lt (by omega) (by omega)).1 h)), hb]
            exact ⟨(u, _, Int32.ofNat (i + 1)), rfl, ea, fun _ => rfl, rfl⟩
      rw [wX5_best_h9, p.1, if_pos ((o_lt (by omega) (by omega)).2 hi), a1, t_sbe, a2, t_sbe]
      rcases hy with h | h
      · subst h
        rw [if_pos rfl]
        refine turn _ ?_
        unfold wmax pco
        rw [show decide ((0 : Int32) = 1) = false from rfl, b_f]
        by_cases d : lf2 x (s.1 163) P (nth (pal (nk (s.1 163)) 3) i) < lf1 x (s.1 163) P (nth (pal (nk (s.1 163)) 3) i)
        · rw [if_pos d, if_neg (fun h => by have := (o_lt (by omega) (by omega)).1 h; omega)]
        · rw [if_neg d]
          by_cases d2 : lf1 x (s.1 163) P (nth (pal (nk (s.1 163)) 3) i) < lf2 x (s.1 163) P (nth (pal (nk (s.1 163)) 3) i)
          · rw [if_pos ((o_lt (by omega) (by omega)).2 d2)]
          · rw [if_neg (fun h => d2 ((o_lt (by omega) (by omega)).1 h))]
            exact congrArg Int32.ofNat (by omega)
      · subst h
        rw [if_neg (by decide), o_mul, o_mul, o_add]
        refine turn _ ?_
        unfold pco
        rw [show decide ((1 : Int32) = 1) = true from rfl, if_pos rfl]
    · obtain ⟨u, v, w⟩ := p'
      obtain ⟨ea, eb, ec⟩ := hI
      dsimp only at ea eb ec ⊢
      subst ec
      rw [wX5_best_h9, p.1, if_neg (fun c => by have := (o_lt (by omega) (by omega)).1 c; omega), ea]
  rw [e, t_sbe]
/-- the best PAIR, by the reference: asked once more -/
theorem asksNext_E (c : RCH x f s) {K : Nat → Bool} (k : KWR f K s (nW f)) {y : Int32} (hy : y = 0 ∨ y = 1) : Tot (wX11_asksNext y s) (fun v => (v.1 = if (pal (nk f) 3).length = 0 then -1 else Int32.ofNat (bst (fun i => pco x f K (decide (y = 1)) (nth (pal (nk f) 3) i)) (pal (nk f) 3).length)) ∧ RCH x f v.2 ∧ PU v.2 (pal (nk f) 3) ∧ KWR f K v.2 (nW f) ∧ (¬ (pal (nk f) 3).length = 0 → v.2.1 152 34 = Int32.ofNat (lf1 x f K (nth (pal (nk f) 3) (bst (fun i => pco x f K (decide (y = 1)) (nth (pal (nk f) 3) i)) (pal (nk f) 3).length))) ∧ v.2.1 152 35 = Int32.ofNat (lf2 x f K (nth (pal (nk f) 3) (bst (fun i => pco x f K (decide (y = 1)) (nth (pal (nk f) 3) i)) (pal (nk f) 3).length)))) ∧ v.2.1 163 = s.1 163) := by
  have cf := c.2.1
  have w5 := cf.w.1
  have l84 := pal_84 cf
  have cl := fun i => pco_le (x := x) (f := f) (P := K) (b := decide (y = 1)) (t := nth (pal (nk f) 3) i) w5
  obtain ⟨r1, e1, gk, pu⟩ := gathers_E c.1 cf
  have lo : Tot (wX11_asksNext_h11 y wFuel (-1) 0 0 r1) (fun v => v.1 = (if (pal (nk f) 3).length = 0 then -1 else Int32.ofNat (bst (fun i => pco x f K (decide (y = 1)) (nth (pal (nk f) 3) i)) (pal (nk f) 3).length)) ∧ AK r1 v.2) := by
    refine loop_N (L := fun n (p : Int32 × Int64 × Int32 × wS) => wX11_asksNext_h11 y n p.1 p.2.1 p.2.2.1 p.2.2.2) (N := (pal (nk f) 3).length) (I := fun i p => p.1 = (if i = 0 then -1 else Int32.ofNat (bst (fun i => pco x f K (decide (y = 1)) (nth (pal (nk f) 3) i)) i)) ∧ (¬ i = 0 → p.2.1.toInt = pco x f K (decide (y = 1)) (nth (pal (nk f) 3) (bst (fun i => pco x f K (decide (y = 1)) (nth (pal (nk f) 3) i)) i))) ∧ p.2.2.1 = Int32.ofNat i ∧ AK r1 p.2.2.2) (x := (-1, 0, 0, r1)) (by omega) ⟨rfl, fun h => absurd rfl h, rfl, AK.refl⟩ (fun n i p' hi hI => ?_) (fun n p' hI => ?_)
    · obtain ⟨u, v, w, r2⟩ := p'
      obtain ⟨ea, eb, ec, ak⟩ := hI
      dsimp only at ea eb ec ak ⊢
      subst ec
      have p2 := ak.pu pu
      obtain ⟨r3, e3, a3, v34, v35⟩ := asks_E (ak.rc (gk.rc c)) p2 (ak.kw (gk.kw k)) (nth_E hi)
      have ak3 := ak.trans a3
      obtain ⟨b1, b2⟩ := lf_le (x := x) (f := f) (P := K) (t := nth (pal (nk f) 3) i)
      have turn : ∀ z : Int64, z.toInt = pco x f K (decide (y = 1)) (nth (pal (nk f) 3) i) → ∃ x' : Int32 × Int64 × Int32 × wS, wX11_asksNext_j68 (wX11_asksNext_h11 y n) y u v (Int32.ofNat i) z r3 = wX11_asksNext_h11 y n x'.1 x'.2.1 x'.2.2.1 x'.2.2.2 ∧ x'.1 = (if i + 1 = 0 then -1 else Int32.ofNat (bst (fun i => pco x f K (decide (y = 1)) (nth (pal (nk f) 3) i)) (i + 1))) ∧ (¬ i + 1 = 0 → x'.2.1.toInt = pco x f K (decide (y = 1)) (nth (pal (nk f) 3) (bst (fun i => pco x f K (decide (y = 1)) (nth (pal (nk f) 3) i)) (i + 1)))) ∧ x'.2.2.1 = Int32.ofNat (i + 1) ∧ AK r1 x'.2.2.2 := fun z hz => by
        unfold wX11_asksNext_j68 wX11_asksNext_j84 wX11_asksNext_j90
        rw [o_1, if_neg (Nat.succ_ne_zero i)]
        have new : bst (fun i => pco x f K (decide (y = 1)) (nth (pal (nk f) 3) i)) (i + 1) = i → ∃ x' : Int32 × Int64 × Int32 × wS, wX11_asksNext_h11 y n (Int32.ofNat i) z (Int32.ofNat (i + 1)) r3 = wX11_asksNext_h11 y n x'.1 x'.2.1 x'.2.2.1 x'.2.2.2 ∧ x'.1 = Int32.ofNat (bst (fun i => pco x f K (decide (y = 1)) (nth (pal (nk f) 3) i)) (i + 1)) ∧ (¬ i + 1 = 0 → x'.2.1.toInt = pco x f K (decide (y = 1)) (nth (pal (nk f) 3) (bst (fun i => pco x f K (decide (y = 1)) (nth (pal (nk f) 3) i)) (i + 1)))) ∧ x'.2.2.1 = Int32.ofNat (i + 1) ∧ AK r1 x'.2.2.2 := fun hb => by
          rw [hb]
          exact ⟨(Int32.ofNat i, z, Int32.ofNat (i + 1), r3), rfl, rfl, fun _ => hz, rfl, ak3⟩
        by_cases i0 : i = 0
        · rw [if_pos i0] at ea
          rw [if_pos (show u < 0 by rw [ea]; decide)]
          refine new ?_
          subst i0
          rw [bst_s, show bst (fun i => pco x f K (decide (y = 1)) (nth (pal (nk f) 3) i)) 0 = 0 from rfl, if_neg (Nat.lt_irrefl _)]
        · rw [if_neg i0] at ea
          have bl := bst_lt (g := fun i => pco x f K (decide (y = 1)) (nth (pal (nk f) 3) i)) (n := i) (by omega)
          have n1 : ¬ u < 0 := fun h => by
            rw [ea] at h
            have := (o_lt (b := 0) (by omega) (by omega)).1 h
            omega
          have ev := eb i0
          rw [if_neg n1]
          by_cases d : pco x f K (decide (y = 1)) (nth (pal (nk f) 3) i) < pco x f K (decide (y = 1)) (nth (pal (nk f) 3) (bst (fun i => pco x f K (decide (y = 1)) (nth (pal (nk f) 3) i)) i))
          · rw [if_pos (Int64.lt_iff_toInt_lt.2 (by rw [hz, ev]; omega))]
            exact new (by rw [bst_s, if_pos d])
          · have hb : bst (fun i => pco x f K (decide (y = 1)) (nth (pal (nk f) 3) i)) (i + 1) = bst (fun i => pco x f K (decide (y = 1)) (nth (pal (nk f) 3) i)) i := by rw [bst_s, if_neg d]
            rw [if_neg (fun h => by have := Int64.lt_iff_toInt_lt.1 h; rw [hz, ev] at this; omega), hb]
            exact ⟨(u, v, Int32.ofNat (i + 1), r3), rfl, ea, fun _ => ev, rfl, ak3⟩
      rw [wX11_asksNext_h11, p2.1, if_pos ((o_lt (by omega) (by omega)).2 hi), e3, t_sbe, v34, v35]
      rcases hy with h | h
      · subst h
        rw [if_pos rfl, great_E (by omega) (by omega), t_sbe]
        refine turn _ ?_
        unfold pco
        rw [show decide ((0 : Int32) = 1) = false from rfl, b_f, Int32.toInt_toInt64, t_on (by split <;> omega)]
      · subst h
        rw [if_neg (by decide)]
        refine turn _ ?_
        unfold pco
        rw [show decide ((1 : Int32) = 1) = true from rfl, if_pos rfl]
        have m1 : lf1 x f K (nth (pal (nk f) 3) i) * lf1 x f K (nth (pal (nk f) 3) i) ≤ 512 * 512 := Nat.mul_le_mul (by omega) (by omega)
        have m2 : lf2 x f K (nth (pal (nk f) 3) i) * lf2 x f K (nth (pal (nk f) 3) i) ≤ 512 * 512 := Nat.mul_le_mul (by omega) (by omega)
        have t1 : ((Int32.ofNat (lf1 x f K (nth (pal (nk f) 3) i))).toInt64).toInt = (lf1 x f K (nth (pal (nk f) 3) i) : Int) := by rw [Int32.toInt_toInt64, t_on (by omega)]
        have t2 : ((Int32.ofNat (lf2 x f K (nth (pal (nk f) 3) i))).toInt64).toInt = (lf2 x f K (nth (pal (nk f) 3) i) : Int) := by rw [Int32.toInt_toInt64, t_on (by omega)]
        have q1 : ((Int32.ofNat (lf1 x f K (nth (pal (nk f) 3) i))).toInt64 * (Int32.ofNat (lf1 x f K (nth (pal (nk f) 3) i))).toInt64).toInt = ((lf1 x f K (nth (pal (nk f) 3) i) * lf1 x f K (nth (pal (nk f) 3) i) : Nat) : Int) := by
          rw [t_mul64 (by rw [t1, ← Int.natCast_mul]; omega) (by rw [t1, ← Int.natCast_mul]; omega), t1, Int.natCast_mul]
        have q2 : ((Int32.ofNat (lf2 x f K (nth (pal (nk f) 3) i))).toInt64 * (Int32.ofNat (lf2 x f K (nth (pal (nk f) 3) i))).toInt64).toInt = ((lf2 x f K (nth (pal (nk f) 3) i) * lf2 x f K (nth (pal (nk f) 3) i) : Nat) : Int) := by
          rw [t_mul64 (by rw [t2, ← Int.natCast_mul]; omega) (by rw [t2, ← Int.natCast_mul]; omega), t2, Int.natCast_mul]
        rw [t_add64 (by rw [q1, q2]; omega) (by rw [q1, q2]; omega), q1, q2]
        omega
    · obtain ⟨u, v, w, r2⟩ := p'
      obtain ⟨ea, eb, ec, ak⟩ := hI
      dsimp only at ea eb ec ak ⊢
      subst ec
      rw [wX11_asksNext_h11, (ak.pu pu).1, if_neg (fun c => by have := (o_lt (by omega) (by omega)).1 c; omega)]
      exact t_some ⟨ea, ak⟩
  obtain ⟨⟨b, r2⟩, e2, eb, ak⟩ := lo
  dsimp only at eb ak
  have c2 := ak.rc (gk.rc c)
  have p2 := ak.pu pu
  have k2 := ak.kw (gk.kw k)
  unfold wX11_asksNext
  rw [e1, t_sbe, e2, t_sbe]
  dsimp only
  by_cases z : (pal (nk f) 3).length = 0
  · rw [if_pos z] at eb
    rw [if_pos (show b < 0 by rw [eb]; decide)]
    exact t_some ⟨by rw [if_pos z]; exact eb, c2, p2, k2, fun h => absurd z h, c2.1.trans c.1.symm⟩
  · rw [if_neg z] at eb
    have bl := bst_lt (g := fun i => pco x f K (decide (y = 1)) (nth (pal (nk f) 3) i)) (n := (pal (nk f) 3).length) (by omega)
    obtain ⟨r3, e3, a3, v34, v35⟩ := asks_E c2 p2 k2 (nth_E bl)
    rw [if_neg (show ¬ b < 0 from fun h => by rw [eb] at h; have := (o_lt (b := 0) (by omega) (by omega)).1 h; omega), eb, e3, t_sbe]
    exact t_some ⟨by rw [if_neg z], a3.rc c2, a3.pu p2, a3.kw k2, fun _ => ⟨v34, v35⟩, (a3.rc c2).1.trans c.1.symm⟩
theorem op_next {x1 x2 x3 x4 : Int32} (g : JP s) : ∃ v s1 v2 s2, wX10_next x1 x2 x3 x4 s = some (v, s1) ∧ wX11_next x1 x2 x3 x4 s1 = some (v2, s2) ∧ v = v2 := by
  have e2 : (2 : Int32).toInt = 2 := rfl
  have e5 : (5 : Int32).toInt = 5 := rfl
  -- where it may not be asked
  have nope : ∀ u, (∀ t, wX11_isMany x2 t = some (if 0 ≤ x2.toInt ∧ x2.toInt ≤ 40 then 1 else 0)) → ¬ ((0 ≤ x3.toInt ∧ x3.toInt ≤ 1) ∧ (0 ≤ x4.toInt ∧ x4.toInt ≤ 4)) → wX11_next x1 x2 x3 x4 u = some (-1, u) := fun u hm h => by
    unfold wX11_next
    rw [canAsk_E]
    by_cases c1 : 0 < (u.1 163 0).toInt ∧ 0 ≤ x1.toInt ∧ x1.toInt < (u.1 152 2).toInt
    · rw [if_pos c1, t_sbe, qi1, hm]
      by_cases c2 : 0 ≤ x2.toInt ∧ x2.toInt ≤ 40
      · rw [if_pos c2, t_sbe, qi1, in64_E (A := 0) (B := 1) rfl rfl]
        by_cases c3 : 0 ≤ x3.toInt ∧ x3.toInt ≤ 1
        · rw [if_pos c3, t_sbe, qi1, in64_E (A := 0) (B := 4) rfl rfl, if_neg (fun c4 => h ⟨c3, c4⟩), t_sbe, qi0]
        · rw [if_neg c3, t_sbe, qi0]
      · rw [if_neg c2, t_sbe, qi0]
    · rw [if_neg c1, t_sbe, qi0]
  unfold wX10_next
  rw [isOutside_E]
  by_cases d3 : 0 ≤ x3.toInt ∧ x3.toInt ≤ 1
  · rw [if_pos (show 0 ≤ x3.toInt ∧ x3.toInt < (2 : Int32).toInt by omega), t_sbe, qi0, isOutside_E]
    by_cases d4 : 0 ≤ x4.toInt ∧ x4.toInt ≤ 4
    · rw [if_pos (show 0 ≤ x4.toInt ∧ x4.toInt < (5 : Int32).toInt by omega), t_sbe, qi0]
      unfold wX11_next
      rcases withKeptP_E g x1 x2 with ⟨s2, e, c⟩ | ⟨l, k, s2, x, ⟨q, z, t⟩, hx1, hx2, h40, e, c, m, p⟩
      · rw [e, t_sbe]
        refine ⟨-1, s2, -1, s2, rfl, ?_, rfl⟩
        rcases c with c | ⟨c, m⟩
        · rw [c, t_sbe, qi0]
        · rw [c, t_sbe, qi1, m, t_sbe, qi0]
      · rw [e, t_sbe]
        dsimp only [Option.elim]
        have cf := q.2.2.2.2.2
        have w5 := cf.w.1
        have l84 := pal_84 cf
        have hy : x3 = 0 ∨ x3 = 1 := by
          by_cases h0 : x3.toInt = 0
          · exact Or.inl (Int32.toInt_inj.1 h0)
          · exact Or.inr (Int32.toInt_inj.1 (show x3.toInt = 1 by omega))
        obtain ⟨⟨n, r⟩, er, en, rc, kr⟩ := keeps_E q (k := k) (by omega) (but := -1)
        dsimp only at en rc kr
        obtain ⟨⟨b, r2⟩, e2', eb, c2, p2, k2, v3, f2⟩ := asksNext_E rc kr hy
        dsimp only at eb c2 p2 k2 v3 f2
        have j59 : (if x3 = 1 then wX11_next_j59 x4 1 r else wX11_next_j59 x4 0 r) = wX11_next_j59 x4 x3 r := by
          rcases hy with h | h
          · rw [h, if_neg (by decide)]
          · rw [h, if_pos rfl]
        have ref : ∀ R, wX11_next_j59 x4 x3 r = R → ((wX11_canAsk x1 s2).bind fun t1 => if t1 = 0 then (some ((-1 : Int32), s2)) else ((wX11_isMany x2 s2).bind fun t4 => if t4 = 0 then (some ((-1 : Int32), s2)) else ((wX11_in ((x3 : Int32).toInt64) 0 1 s2).bind fun t7 => if t7 = 0 then (some ((-1 : Int32), s2)) else ((wX11_in ((x4 : Int32).toInt64) 0 4 s2).bind fun t10 => if t10 = 0 then (some ((-1 : Int32), s2)) else ((wX11_keeps x1 x2 (-1) s2).bind fun (t13, s14) => if x3 = 1 then (wX11_next_j59 x4 1 s14) else (wX11_next_j59 x4 0 s14)))))) = R := fun R hR => by
          rw [c s2 q, t_sbe, qi1, m s2, t_sbe, qi1, in64_E (A := 0) (B := 1) rfl rfl, if_pos d3, t_sbe, qi1, in64_E (A := 0) (B := 4) rfl rfl, if_pos d4, t_sbe, qi1, hx1, hx2, er, t_sbe]
          dsimp only
          rw [j59]
          exact hR
        rw [best_E q p (Or.inl rfl) t hy, t_sbe]
        unfold wX11_next_j59 at ref
        rw [e2', t_sbe] at ref
        dsimp only at ref
        by_cases z0 : (pal (nk (s2.1 163)) 3).length = 0
        · rw [if_pos z0] at eb ⊢
          rw [if_pos rfl]
          refine ⟨_, s2, _, r2, rfl, ref _ (if_pos (by rw [eb]; decide)), rfl⟩
        · rw [if_neg z0] at eb ⊢
          have bl := bst_lt (g := fun i => pco x (s2.1 163) (kpt x (s2.1 163) (-1) k) (decide (x3 = 1)) (nth (pal (nk (s2.1 163)) 3) i)) (n := (pal (nk (s2.1 163)) 3).length) (by omega)
          obtain ⟨v34, v35⟩ := v3 z0
          generalize bst (fun i => pco x (s2.1 163) (kpt x (s2.1 163) (-1) k) (decide (x3 = 1)) (nth (pal (nk (s2.1 163)) 3) i)) (pal (nk (s2.1 163)) 3).length = B at *
          obtain ⟨a1, a2⟩ := left10_E q p (Or.inl rfl) t (nth_E bl)
          obtain ⟨h29, h30, h31, -, -⟩ := near10_E q p (nth_E bl)
          obtain ⟨u1, u2, u3⟩ := p2.2 B _ (nth_E bl)
          obtain ⟨b1, b2⟩ := lf_le (x := x) (f := s2.1 163) (P := kpt x (s2.1 163) (-1) k) (t := nth (pal (nk (s2.1 163)) 3) B)
          have nB : ¬ Int32.ofNat B = -1 := fun h => by
            have := congrArg Int32.toInt h
            rw [t_on (by omega), t_neg1] at this
            omega
          have nB0 : ¬ Int32.ofNat B < 0 := fun h => by
            have := (o_lt (b := 0) (by omega) (by omega)).1 h
            omega
          rw [if_neg nB, a1, t_sbe, a2, t_sbe]
          subst eb
          rw [if_neg nB0, v34, v35] at ref
          have i0 : (3 : Int32) * Int32.ofNat B = Int32.ofNat (3 * B) := o_mul (a := 3)
          have ek := t_cln d4.1
          have hx4 : x4 = Int32.ofNat x4.toNatClampNeg := (t_oc d4.1).symm
          generalize x4.toNatClampNeg = w at ek hx4
          have gE := great_E (s := r2) (a := lf1 x (s2.1 163) (kpt x (s2.1 163) (-1) k) (nth (pal (nk (s2.1 163)) 3) B)) (b := lf2 x (s2.1 163) (kpt x (s2.1 163) (-1) k) (nth (pal (nk (s2.1 163)) 3) B)) (by omega) (by omega)
          unfold wX5_told
          obtain h | h | h | h | h : w = 0 ∨ w = 1 ∨ w = 2 ∨ w = 3 ∨ w = 4 := by omega
          · have h4 : x4 = 0 := by rw [hx4, h]; rfl
            rw [if_pos h4, h29, t_sbe, t_sbe]
            refine ⟨_, s2, _, r2, rfl, ref _ ?_, rfl⟩
            rw [if_pos (show x4 < 3 by rw [h4]; decide), hx4, h, i0, o_add, ldI_o (by omega) (by omega), t_sbe]
            show some (r2.1 168 (3 * B), r2) = _
            rw [u1]
          · have h4 : x4 = 1 := by rw [hx4, h]; rfl
            rw [if_neg (by rw [h4]; decide), if_pos h4, h30, t_sbe, t_sbe]
            refine ⟨_, s2, _, r2, rfl, ref _ ?_, rfl⟩
            rw [if_pos (show x4 < 3 by rw [h4]; decide), hx4, h, i0, o_add, ldI_o (by omega) (by omega), t_sbe, u2]
          · have h4 : x4 = 2 := by rw [hx4, h]; rfl
            rw [if_neg (by rw [h4]; decide), if_neg (by rw [h4]; decide), if_pos h4, h31, t_sbe, t_sbe]
            refine ⟨_, s2, _, r2, rfl, ref _ ?_, rfl⟩
            rw [if_pos (show x4 < 3 by rw [h4]; decide), hx4, h, i0, o_add, ldI_o (by omega) (by omega), t_sbe, u3]
          · have h4 : x4 = 3 := by rw [hx4, h]; rfl
            rw [if_neg (by rw [h4]; decide), if_neg (by rw [h4]; decide), if_neg (by rw [h4]; decide), if_pos h4, t_sbe]
            refine ⟨_, s2, _, r2, rfl, ref _ ?_, rfl⟩
            rw [if_neg (show ¬ x4 < 3 by rw [h4]; decide), gE, t_sbe, if_pos h4]
            unfold wmax
            by_cases d : lf2 x (s2.1 163) (kpt x (s2.1 163) (-1) k) (nth (pal (nk (s2.1 163)) 3) B) < lf1 x (s2.1 163) (kpt x (s2.1 163) (-1) k) (nth (pal (nk (s2.1 163)) 3) B)
            · rw [if_pos d, if_neg (fun h => by have := (o_lt (by omega) (by omega)).1 h; omega)]
            · rw [if_neg d]
              by_cases d2 : lf1 x (s2.1 163) (kpt x (s2.1 163) (-1) k) (nth (pal (nk (s2.1 163)) 3) B) < lf2 x (s2.1 163) (kpt x (s2.1 163) (-1) k) (nth (pal (nk (s2.1 163)) 3) B)
              · rw [if_pos ((o_lt (by omega) (by omega)).2 d2)]
              · rw [if_neg (fun h => d2 ((o_lt (by omega) (by omega)).1 h)), show lf2 x (s2.1 163) (kpt x (s2.1 163) (-1) k) (nth (pal (nk (s2.1 163)) 3) B) = lf1 x (s2.1 163) (kpt x (s2.1 163) (-1) k) (nth (pal (nk (s2.1 163)) 3) B) by omega]
          · have h4 : x4 = 4 := by rw [hx4, h]; rfl
            rw [if_neg (by rw [h4]; decide), if_neg (by rw [h4]; decide), if_neg (by rw [h4]; decide), if_neg (by rw [h4]; decide), t_sbe]
            refine ⟨_, s2, _, r2, rfl, ref _ ?_, rfl⟩
            rw [if_neg (show ¬ x4 < 3 by rw [h4]; decide), gE, t_sbe, if_neg (by rw [h4]; decide), o_add]
            unfold wmin
            by_cases d : lf2 x (s2.1 163) (kpt x (s2.1 163) (-1) k) (nth (pal (nk (s2.1 163)) 3) B) < lf1 x (s2.1 163) (kpt x (s2.1 163) (-1) k) (nth (pal (nk (s2.1 163)) 3) B)
            · rw [if_pos d, if_pos ((o_lt (by omega) (by omega)).2 d), o_sub (by omega)]
              exact congrArg some (congrArg (fun z => (Int32.ofNat z, r2)) (by omega))
            · rw [if_neg d, if_neg (fun h => d ((o_lt (by omega) (by omega)).1 h)), o_sub (by omega)]
              exact congrArg some (congrArg (fun z => (Int32.ofNat z, r2)) (by omega))
    · rw [if_neg (by omega), t_sbe, qi1]
      exact ⟨_, s, _, s, rfl, nope s (fun _ => isMany_E) (fun h => d4 h.2), rfl⟩
  · rw [if_neg (by omega), t_sbe, qi1]
    exact ⟨_, s, _, s, rfl, nope s (fun _ => isMany_E) (fun h => d3 h.1), rfl⟩
end US
