/-! trials: one after another. -/
/-- a DRAW's x -/
noncomputable def dnx (v : Nat) : Nat := (v * 1103515245 + 12345) % 2147483648
noncomputable def xsq (v : Nat) : Nat → Nat
  | 0 => v
  | j + 1 => dnx (xsq v j)
theorem dnx_lt {v : Nat} : dnx v < 2147483648 := Nat.mod_lt _ (by decide)
theorem xsq_lt {v : Nat} (h : v < 2147483648) : ∀ {j : Nat}, xsq v j < 2147483648 := by
  intro j
  cases j with
  | zero => exact h
  | succ j => exact dnx_lt
/-- together -/
noncomputable def tsm (g : Nat → Nat) : Nat → Nat
  | 0 => 0
  | j + 1 => tsm g j + g j
theorem tsm_s {g : Nat → Nat} {j : Nat} : tsm g (j + 1) = tsm g j + g j := rfl
section TT
variable {s : wS} {x : lC} {l : Nat} {f : Nat → Int32} {r : wS}
/-- what a PAIR leaves, as a WORLD answers -/
noncomputable def sdw (x : lC) (f : Nat → Int32) (W : Nat) (t : Nat × Nat × Nat) (w : Nat) : Bool := if nrb x f t.1 t.2.1 t.2.2 W = true then nrb x f t.1 t.2.1 t.2.2 w else nrb x f t.1 t.2.2 t.2.1 w
/-- NEXT at worst -/
noncomputable def nxi (x : lC) (f : Nat → Int32) (P : Nat → Bool) : Nat × Nat × Nat := nth (pal (nk f) 3) (bst (fun i => pco x f P (decide ((0 : Int32) = 1)) (nth (pal (nk f) 3) i)) (pal (nk f) 3).length)
/-- one of the TRIALS: how many are asked, how many are left -/
noncomputable def tsk (x : lC) (f : Nat → Int32) (W : Nat) : Nat → (Nat → Bool) → Nat × Nat
  | 0, P => (0, cnt P (nW f))
  | k + 1, P => if 1 < cnt P (nW f) ∧ ¬ (pal (nk f) 3).length = 0 ∧ pco x f P (decide ((0 : Int32) = 1)) (nxi x f P) < cnt P (nW f) then ((tsk x f W k (fun w => P w && sdw x f W (nxi x f P) w)).1 + 1, (tsk x f W k (fun w => P w && sdw x f W (nxi x f P) w)).2) else (0, cnt P (nW f))
theorem tsk_y {W k : Nat} {P : Nat → Bool} (h : 1 < cnt P (nW f) ∧ ¬ (pal (nk f) 3).length = 0 ∧ pco x f P (decide ((0 : Int32) = 1)) (nxi x f P) < cnt P (nW f)) : tsk x f W (k + 1) P = ((tsk x f W k (fun w => P w && sdw x f W (nxi x f P) w)).1 + 1, (tsk x f W k (fun w => P w && sdw x f W (nxi x f P) w)).2) := if_pos h
theorem tsk_n {W k : Nat} {P : Nat → Bool} (h : ¬ (1 < cnt P (nW f) ∧ ¬ (pal (nk f) 3).length = 0 ∧ pco x f P (decide ((0 : Int32) = 1)) (nxi x f P) < cnt P (nW f))) : tsk x f W (k + 1) P = (0, cnt P (nW f)) := if_neg h
theorem tsk_2 {W : Nat} : ∀ {k : Nat} {P : Nat → Bool}, (tsk x f W k P).1 ≤ k ∧ (tsk x f W k P).2 ≤ nW f := by
  intro k
  induction k with
  | zero => intro P; exact ⟨Nat.le_refl _, cnt_le _⟩
  | succ k ih =>
    intro P
    by_cases h : 1 < cnt P (nW f) ∧ ¬ (pal (nk f) 3).length = 0 ∧ pco x f P (decide ((0 : Int32) = 1)) (nxi x f P) < cnt P (nW f)
    · rw [tsk_y h]
      have a := ih (P := fun w => P w && sdw x f W (nxi x f P) w)
      exact ⟨Nat.succ_le_succ a.1, a.2⟩
    · rw [tsk_n h]
      exact ⟨Nat.zero_le _, cnt_le _⟩
theorem pco_0 {P : Nat → Bool} {t : Nat × Nat × Nat} : pco x f P (decide ((0 : Int32) = 1)) t = if lf2 x f P t < lf1 x f P t then lf1 x f P t else lf2 x f P t := by
  unfold pco
  rw [show decide ((0 : Int32) = 1) = false from rfl, b_f]
theorem wmax_E {a b : Nat} (ha : a ≤ 1000) (hb : b ≤ 1000) : wmax (Int32.ofNat a) (Int32.ofNat b) = Int32.ofNat (if b < a then a else b) := by
  unfold wmax
  by_cases c : a < b
  · rw [if_pos ((o_lt (by omega) (by omega)).2 c), if_neg (show ¬ b < a by omega)]
  · rw [if_neg (fun h => c ((o_lt (by omega) (by omega)).1 h))]
    by_cases d : b < a
    · rw [if_pos d]
    · rw [if_neg d, show a = b by omega]
/-- the class's -/
theorem trial10_E (q : QS l x s) (p : PTB s (pal (nk (s.1 163)) 3)) {W : Nat} (hW : W < nW (s.1 163)) : ∀ {k n : Nat} {P : Nat → Bool} {u : wS}, k < n → k ≤ 9 → FK 37 38 s u → TLY 37 (s.1 163) P (nW (s.1 163)) u → (∃ v, ∀ w, w < nW (s.1 163) → pst (s.1 163) v w = P w) → ∃ (i : Bool) (r : wS), wX10_trial_h19 (44 + 10 * l) (Int32.ofNat W) n (Int32.ofNat (9 - k)) u = some (if i = true then .inr (Int32.ofNat (9 - k + (tsk x (s.1 163) W k P).1), r) else .inl (Int32.ofNat (9 - k + (tsk x (s.1 163) W k P).1), r)) ∧ FK 37 38 s r ∧ r.1 37 1 = Int32.ofNat (tsk x (s.1 163) W k P).2 := by
  have cf := q.2.2.2.2.2
  have w5 := cf.w.1
  have l84 := pal_84 cf
  intro k
  induction k with
  | zero =>
    intro n P u hn _ fk t _
    obtain ⟨n', rfl⟩ : ∃ n', n = n' + 1 := ⟨n - 1, by omega⟩
    refine ⟨false, u, ?_, fk, t.1⟩
    rw [wX10_trial_h19, if_neg (show ¬ Int32.ofNat (9 - 0) < 9 by decide), b_f]
    rfl
  | succ k ih =>
    intro n P u hn hk fk t hv
    obtain ⟨n', rfl⟩ : ∃ n', n = n' + 1 := ⟨n - 1, by omega⟩
    have cl := cnt_le (p := P) (nW (s.1 163))
    have qu := fk.qs (by omega) (by omega) q
    have hf := fk.f (by omega)
    have pu : PTB u (pal (nk (u.1 163)) 3) := by
      rw [hf]
      exact p.fk (fun k _ h2 => fk.1 k (by omega))
    have tu : TLY 37 (u.1 163) P (nW (u.1 163)) u := by
      rw [hf]
      exact t
    rw [wX10_trial_h19, if_pos (show Int32.ofNat (9 - (k + 1)) < 9 from (o_lt (b := 9) (by omega) (by omega)).2 (by omega)), t.1]
    have stop : ∀ i : Bool, ¬ (1 < cnt P (nW (s.1 163)) ∧ ¬ (pal (nk (s.1 163)) 3).length = 0 ∧ pco x (s.1 163) P (decide ((0 : Int32) = 1)) (nxi x (s.1 163) P) < cnt P (nW (s.1 163))) → ∃ (i' : Bool) (r : wS), some (if i = true then .inr (Int32.ofNat (9 - (k + 1)), u) else .inl (Int32.ofNat (9 - (k + 1)), u)) = some (if i' = true then (.inr (Int32.ofNat (9 - (k + 1) + (tsk x (s.1 163) W (k + 1) P).1), r) : (Int32 × wS) ⊕ (Int32 × wS)) else .inl (Int32.ofNat (9 - (k + 1) + (tsk x (s.1 163) W (k + 1) P).1), r)) ∧ FK 37 38 s r ∧ r.1 37 1 = Int32.ofNat (tsk x (s.1 163) W (k + 1) P).2 := fun i h => by
      rw [tsk_n h]
      exact ⟨i, u, rfl, fk, t.1⟩
    by_cases c : 1 < cnt P (nW (s.1 163))
    · rw [if_pos (show (1 : Int32) < Int32.ofNat _ from (o_lt (a := 1) (by omega) (by omega)).2 c), best_E qu pu (Or.inr rfl) tu (Or.inl rfl), t_sbe, hf]
      by_cases z : (pal (nk (s.1 163)) 3).length = 0
      · rw [if_pos z, if_pos rfl]
        exact stop true (fun h => h.2.1 z)
      · have bl := bst_lt (g := fun i => pco x (s.1 163) P (decide ((0 : Int32) = 1)) (nth (pal (nk (s.1 163)) 3) i)) (n := (pal (nk (s.1 163)) 3).length) (by omega)
        have eN : nth (pal (nk (s.1 163)) 3) (bst (fun i => pco x (s.1 163) P (decide ((0 : Int32) = 1)) (nth (pal (nk (s.1 163)) 3) i)) (pal (nk (s.1 163)) 3).length) = nxi x (s.1 163) P := rfl
        generalize bst (fun i => pco x (s.1 163) P (decide ((0 : Int32) = 1)) (nth (pal (nk (s.1 163)) 3) i)) (pal (nk (s.1 163)) 3).length = B at *
        have gB := nth_E bl
        rw [eN] at gB
        obtain ⟨a1, a2⟩ := left10_E qu pu (Or.inr rfl) tu (i := B) (t := nxi x (s.1 163) P) (by rw [hf]; exact gB)
        obtain ⟨c1, -, -, b1, b2⟩ := near10_E qu pu (i := B) (t := nxi x (s.1 163) P) (by rw [hf]; exact gB)
        rw [hf] at a1 a2 b1 b2
        obtain ⟨v1, v2, v3⟩ := PV_of gB
        obtain ⟨L1, L2⟩ := lf_le (x := x) (f := s.1 163) (P := P) (t := nxi x (s.1 163) P)
        have nB : ¬ Int32.ofNat B = -1 := fun h => by
          have := congrArg Int32.toInt h
          rw [t_on (by omega), t_neg1] at this
          omega
        rw [if_neg z, if_neg nB]
        unfold wX5_greaterLeft
        rw [a1, t_sbe, a2, t_sbe, t_sbe, wmax_E (by omega) (by omega), ← pco_0]
        have pl := pco_le (x := x) (f := s.1 163) (P := P) (b := decide ((0 : Int32) = 1)) (t := nxi x (s.1 163) P) w5
        by_cases d : pco x (s.1 163) P (decide ((0 : Int32) = 1)) (nxi x (s.1 163) P) < cnt P (nW (s.1 163))
        · have tl := thn_lt cf v1 hW
          have n8 := (cf _ v1).2.2
          have th := thingIn_E qu.1 (by rw [hf]; exact cf) v1 (w := W) (by rw [hf]; exact hW)
          rw [hf] at th
          have nr : ∃ near, wX5_nearAsIn (44 + 10 * l) (Int32.ofNat B) 15 (Int32.ofNat W) u = some near ∧ ∀ w, w < nW (s.1 163) → bit near (thn (s.1 163) (nxi x (s.1 163) P).1 w) = sdw x (s.1 163) W (nxi x (s.1 163) P) w := by
            unfold wX5_nearAsIn sdw
            rw [b1, t_sbe, c1, t_sbe, th, t_sbe]
            by_cases e : nrb x (s.1 163) (nxi x (s.1 163) P).1 (nxi x (s.1 163) P).2.1 (nxi x (s.1 163) P).2.2 W = true
            · rw [if_pos ((bt_t (by omega)).2 ((nrb_b cf v1 hW).trans e))]
              refine ⟨_, rfl, fun w hw => ?_⟩
              rw [if_pos e, nrb_b cf v1 hw]
            · rw [if_neg (fun h => e ((nrb_b cf v1 hW).symm.trans ((bt_t (by omega)).1 h))), b2, t_sbe]
              refine ⟨_, rfl, fun w hw => ?_⟩
              rw [if_neg e, nrb_b cf v1 hw]
          obtain ⟨near, en, hn'⟩ := nr
          obtain ⟨v0, hv0⟩ := hv
          obtain ⟨u2, e2, fk2, t2, v', hv'⟩ := keepO_E cf t hv0 v1 (near := near)
          have t3 := t2.cg (Q := fun w => P w && sdw x (s.1 163) W (nxi x (s.1 163) P) w) (fun w hw => by rw [hn' w hw])
          obtain ⟨i, r, er, fr, r1⟩ := ih (n := n') (by omega) (by omega) (fk.trans fk2) t3 ⟨v', fun w hw => by rw [hv' w hw, hn' w hw]⟩
          rw [if_pos ((o_lt (by omega) (by omega)).2 d), c1, t_sbe, en, t_sbe, e2, t_sbe, o_1, show 9 - (k + 1) + 1 = 9 - k by omega, er, tsk_y ⟨c, z, d⟩]
          refine ⟨i, r, ?_, fr, r1⟩
          dsimp only
          rw [show 9 - k + (tsk x (s.1 163) W k (fun w => P w && sdw x (s.1 163) W (nxi x (s.1 163) P) w)).1 = 9 - (k + 1) + ((tsk x (s.1 163) W k (fun w => P w && sdw x (s.1 163) W (nxi x (s.1 163) P) w)).1 + 1) by omega]
        · rw [if_neg (fun h => d ((o_lt (by omega) (by omega)).1 h))]
          exact stop true (fun h => d h.2.2)
    · rw [if_neg (show ¬ (1 : Int32) < Int32.ofNat _ from fun h => c ((o_lt (a := 1) (by omega) (by omega)).1 h))]
      exact stop false (fun h => c h.1)
theorem one10_E (q : QS l x s) (p : PTB s (pal (nk (s.1 163)) 3)) {W : Nat} (hW : W < nW (s.1 163)) : Tot (wX10_trial (44 + 10 * l) (Int32.ofNat W) s) (fun z => z.1 = Int32.ofNat (tsk x (s.1 163) W 9 (fun _ => true)).1 ∧ FK 37 38 s z.2 ∧ z.2.1 37 1 = Int32.ofNat (tsk x (s.1 163) W 9 (fun _ => true)).2) := by
  have cf := q.2.2.2.2.2
  obtain ⟨v, ev, bv⟩ := bitsAll_E q (r := s) rfl
  have o : PSO (s.1 163) v := fun kd hk u hu h => by
    rw [bv _ (by omega), Bool.and_eq_true, show (8 * kd + u) % 8 = u by omega, show (8 * kd + u) / 8 = kd by omega] at h
    exact of_decide_eq_true h.2
  have all : ∀ w, w < nW (s.1 163) → pst (s.1 163) v w = true := fun w hw => pst_3.2 (fun kd hk => by
    have := thn_lt cf hk hw
    have := (cf kd hk).2.2
    rw [bv _ (by omega), show (8 * kd + thn (s.1 163) kd w) % 8 = thn (s.1 163) kd w by omega, show (8 * kd + thn (s.1 163) kd w) / 8 = kd by omega, decide_eq_true (show 8 * kd + thn (s.1 163) kd w < 24 by omega), Bool.true_and]
    exact decide_eq_true (by assumption))
  obtain ⟨u, eu, fk, t⟩ := fillW_E (s := s) cf o
  have t1 := t.cg (Q := fun _ => true) all
  obtain ⟨i, r, er, fr, r1⟩ := trial10_E q p hW (k := 9) (n := wFuel) (wF_k (by omega)) (Nat.le_refl _) fk t1 ⟨v, all⟩
  have er : wX10_trial_h19 (44 + 10 * l) (Int32.ofNat W) wFuel 0 u = _ := er
  unfold wX10_trial
  rw [ev, t_sbe, eu, t_sbe, er, t_sbe]
  refine ⟨(Int32.ofNat (9 - 9 + (tsk x (s.1 163) W 9 (fun _ => true)).1), r), ?_, ?_, fr, r1⟩
  · cases i
    · rfl
    · rfl
  · show Int32.ofNat (9 - 9 + _) = _
    rw [Nat.sub_self, Nat.zero_add]
/-- only what is kept, and left too -/
theorem kwa_E {x2 x3 x6 x7 x8 x9 x10 x11 x12 x13 : Int32} {x4 : Int64} (c : RCH x f s) (pu : PU s (pal (nk f) 3)) {K N : Nat → Bool} (kr : KWR f K s (nW f)) {i : Nat} {y : Int32} (hN : ∀ u, RCH x f u → PU u (pal (nk f) 3) → ∀ w, w < nW f → wX11_leaves (Int32.ofNat i) y (Int32.ofNat w) u = some (if N w = true then 1 else 0)) : Tot (wX11_trials_h237 x2 x3 x4 x6 x7 x8 x9 x10 x11 x12 x13 (Int32.ofNat i) y wFuel 0 s) (fun r => RCH x f r ∧ KWR f (fun w => K w && N w) r (nW f)) := by
  have w5 := c.2.1.w.1
  refine loop_N (L := fun n (p : Int32 × wS) => wX11_trials_h237 x2 x3 x4 x6 x7 x8 x9 x10 x11 x12 x13 (Int32.ofNat i) y n p.1 p.2) (N := nW f) (I := fun w p => p.1 = Int32.ofNat w ∧ (∀ k, k ≠ 165 → p.2.1 k = s.1 k) ∧ p.2.2 = s.2 ∧ (∀ j, j < w → p.2.1 165 j = if (K j && N j) = true then 1 else 0) ∧ ∀ j, w ≤ j → p.2.1 165 j = s.1 165 j) (x := (0, s)) (by omega) ⟨rfl, fun _ _ => rfl, rfl, fun j h => absurd h (by omega), fun _ _ => rfl⟩ (fun n w p' hw hI => ?_) (fun n p' hI => ?_)
  · obtain ⟨a, u⟩ := p'
    obtain ⟨ea, o, o2, z, z2⟩ := hI
    dsimp only at ea o o2 z z2 ⊢
    subst ea
    have cu := c.go (o 163 (by decide)) o2
    have pu' : PU u (pal (nk f) 3) := by
      unfold PU
      rw [o 152 (by decide), o 168 (by decide)]
      exact pu
    have st : ∀ v, wstZ u 165 512 (Int32.ofNat w) v = some (wupI u 165 w (vp_nar .boolean v)) := fun v => stZ_o (by omega) (by omega)
    rw [wX11_trials_h237, cu.nw, t_sbe, if_pos ((o_lt (by omega) (by omega)).2 hw), ldI_o (by omega) (by omega), t_sbe, hN u cu pu' w hw, t_sbe, st, t_sbe, o_1, z2 w (Nat.le_refl _), kr w hw]
    have bv : vp_nar .boolean ((if K w = true then (1 : Int32) else 0) &&& (if N w = true then 1 else 0)) = if (K w && N w) = true then 1 else 0 := by
      cases K w <;> cases N w <;> rfl
    rw [bv]
    refine ⟨(Int32.ofNat (w + 1), wupI u 165 w (if (K w && N w) = true then 1 else 0)), rfl, rfl, fun k hk => ?_, o2, fun j hj => ?_, fun j hj => ?_⟩
    · show (wupI u 165 w _).1 k = _
      rw [wupI_n hk]
      exact o k hk
    · show (wupI u 165 w _).1 165 j = _
      rw [upI_at]
      by_cases d : j = w
      · rw [if_pos d, d]
      · rw [if_neg d]
        exact z j (by omega)
    · show (wupI u 165 w _).1 165 j = _
      rw [upI_at, if_neg (by omega)]
      exact z2 j (by omega)
  · obtain ⟨a, u⟩ := p'
    obtain ⟨ea, o, o2, z, z2⟩ := hI
    dsimp only at ea o o2 z z2 ⊢
    subst ea
    have cu := c.go (o 163 (by decide)) o2
    rw [wX11_trials_h237, cu.nw, t_sbe, if_neg (fun c => by have := (o_lt (by omega) (by omega)).1 c; omega)]
    exact t_some ⟨cu, z⟩
/-- the reference's -/
theorem trial11_E {x2 x3 x6 x7 x8 x9 : Int32} {x4 : Int64} {W : Nat} (hW : W < nW f) : ∀ {k n : Nat} {K : Nat → Bool} {s : wS}, k + 1 < n → k ≤ 9 → RCH x f s → KWR f K s (nW f) → Tot (wX11_trials_h136 x2 x3 x4 x6 x7 x8 x9 (Int32.ofNat W) n (Int32.ofNat (cnt K (nW f))) (Int32.ofNat (9 - k)) 1 s) (fun z => z.1 = Int32.ofNat (tsk x f W k K).2 ∧ z.2.1 = Int32.ofNat (9 - k + (tsk x f W k K).1) ∧ RCH x f z.2.2) := by
  intro k
  induction k with
  | zero =>
    intro n K s hn _ c kr
    obtain ⟨n', rfl⟩ : ∃ n', n = n' + 1 := ⟨n - 1, by omega⟩
    rw [wX11_trials_h136, qi1]
    by_cases d : (1 : Int32) < Int32.ofNat (cnt K (nW f))
    · rw [if_pos d, if_neg (show ¬ Int32.ofNat (9 - 0) < 9 by decide)]
      exact t_some ⟨rfl, rfl, c⟩
    · rw [if_neg d]
      exact t_some ⟨rfl, rfl, c⟩
  | succ k ih =>
    intro n K s hn hk c kr
    obtain ⟨n', rfl⟩ : ∃ n', n = n' + 1 + 1 := ⟨n - 2, by omega⟩
    have cf := c.2.1
    have w5 := cf.w.1
    have l84 := pal_84 cf
    have cl := cnt_le (p := K) (nW f)
    rw [wX11_trials_h136, qi1]
    by_cases d1 : 1 < cnt K (nW f)
    · obtain ⟨⟨b, r⟩, eb, hb, c2, p2, k2, v3, f2⟩ := asksNext_E c kr (y := 0) (Or.inl rfl)
      dsimp only at hb c2 p2 k2 v3 f2
      rw [if_pos (show (1 : Int32) < Int32.ofNat _ from (o_lt (a := 1) (by omega) (by omega)).2 d1), if_pos (show Int32.ofNat (9 - (k + 1)) < 9 from (o_lt (b := 9) (by omega) (by omega)).2 (by omega)), eb, t_sbe]
      dsimp only
      have stop : ¬ (1 < cnt K (nW f) ∧ ¬ (pal (nk f) 3).length = 0 ∧ pco x f K (decide ((0 : Int32) = 1)) (nxi x f K) < cnt K (nW f)) → Tot (wX11_trials_h136 x2 x3 x4 x6 x7 x8 x9 (Int32.ofNat W) (n' + 1) (Int32.ofNat (cnt K (nW f))) (Int32.ofNat (9 - (k + 1))) 0 r) (fun z => z.1 = Int32.ofNat (tsk x f W (k + 1) K).2 ∧ z.2.1 = Int32.ofNat (9 - (k + 1) + (tsk x f W (k + 1) K).1) ∧ RCH x f z.2.2) := fun h => by
        rw [wX11_trials_h136, qi0, tsk_n h]
        exact t_some ⟨rfl, rfl, c2⟩
      by_cases z : (pal (nk f) 3).length = 0
      · rw [if_pos z] at hb
        unfold wX11_trials_j186 wX11_trials_j187
        rw [if_pos (show b < 0 by rw [hb]; decide), qi0]
        exact stop (fun h => h.2.1 z)
      · have bl := bst_lt (g := fun i => pco x f K (decide ((0 : Int32) = 1)) (nth (pal (nk f) 3) i)) (n := (pal (nk f) 3).length) (by omega)
        obtain ⟨v34, v35⟩ := v3 z
        rw [if_neg z] at hb
        have eN : nth (pal (nk f) 3) (bst (fun i => pco x f K (decide ((0 : Int32) = 1)) (nth (pal (nk f) 3) i)) (pal (nk f) 3).length) = nxi x f K := rfl
        rw [eN] at v34 v35
        generalize bst (fun i => pco x f K (decide ((0 : Int32) = 1)) (nth (pal (nk f) 3) i)) (pal (nk f) 3).length = B at *
        have gB := nth_E bl
        rw [eN] at gB
        obtain ⟨L1, L2⟩ := lf_le (x := x) (f := f) (P := K) (t := nxi x f K)
        have pl := pco_le (x := x) (f := f) (P := K) (b := decide ((0 : Int32) = 1)) (t := nxi x f K) w5
        subst hb
        rw [if_neg (show ¬ Int32.ofNat B < 0 from fun h => by have := (o_lt (b := 0) (by omega) (by omega)).1 h; omega), v34, v35, great_E (by omega) (by omega), t_sbe, ← pco_0]
        by_cases d : pco x f K (decide ((0 : Int32) = 1)) (nxi x f K) < cnt K (nW f)
        · rw [if_pos ((o_lt (by omega) (by omega)).2 d), tsk_y ⟨d1, z, d⟩]
          unfold wX11_trials_j187
          rw [qi1, (leaves_E c2 p2 gB hW).1, t_sbe]
          have go : ∀ (y : Int32) (N : Nat → Bool) (m : Nat), (∀ u, RCH x f u → PU u (pal (nk f) 3) → ∀ w, w < nW f → wX11_leaves (Int32.ofNat B) y (Int32.ofNat w) u = some (if N w = true then 1 else 0)) → (∀ w, sdw x f W (nxi x f K) w = N w) → m = cnt (fun w => K w && N w) (nW f) → Tot (wX11_trials_j232 (wX11_trials_h136 x2 x3 x4 x6 x7 x8 x9 (Int32.ofNat W) (n' + 1)) x2 x3 x4 x6 x7 x8 x9 (Int32.ofNat W) (Int32.ofNat (9 - (k + 1))) 1 (Int32.ofNat B) y (Int32.ofNat m) r) (fun z => z.1 = Int32.ofNat (tsk x f W k (fun w => K w && sdw x f W (nxi x f K) w)).2 ∧ z.2.1 = Int32.ofNat (9 - (k + 1) + ((tsk x f W k (fun w => K w && sdw x f W (nxi x f K) w)).1 + 1)) ∧ RCH x f z.2.2) := fun y N m hN hs hm => by
            obtain ⟨r3, e3, c3, k3⟩ := kwa_E (x2 := x2) (x3 := x3) (x4 := x4) (x6 := x6) (x7 := x7) (x8 := x8) (x9 := x9) (x10 := Int32.ofNat W) (x11 := Int32.ofNat m) (x12 := Int32.ofNat (9 - (k + 1))) (x13 := 1) c2 p2 k2 (i := B) (y := y) hN
            have es : (fun w => K w && sdw x f W (nxi x f K) w) = fun w => K w && N w := funext fun w => by rw [hs w]
            unfold wX11_trials_j232
            rw [e3, t_sbe, es, o_1, hm, show 9 - (k + 1) + 1 = 9 - k by omega]
            obtain ⟨v, ev, h1, h2, h3⟩ := ih (n := n' + 1) (K := fun w => K w && N w) (s := r3) (by omega) (by omega) c3 k3
            refine ⟨v, ev, h1, ?_, h3⟩
            rw [h2]
            exact congrArg Int32.ofNat (by omega)
          cases nn : nrb x f (nxi x f K).1 (nxi x f K).2.1 (nxi x f K).2.2 W
          · rw [b_f, qi0]
            unfold wX11_trials_j214
            rw [qi1, v35]
            exact go 1 (nrb x f (nxi x f K).1 (nxi x f K).2.2 (nxi x f K).2.1) _ (fun u cu pu w hw => (leaves_E cu pu gB hw).2) (fun w => by unfold sdw; rw [nn, b_f]) rfl
          · rw [if_pos rfl, qi1]
            unfold wX11_trials_j214
            rw [qi0, v34]
            exact go 0 (nrb x f (nxi x f K).1 (nxi x f K).2.1 (nxi x f K).2.2) _ (fun u cu pu w hw => (leaves_E cu pu gB hw).1) (fun w => by unfold sdw; rw [nn, if_pos rfl]) rfl
        · unfold wX11_trials_j186 wX11_trials_j187
          rw [if_neg (fun h => d ((o_lt (by omega) (by omega)).1 h)), qi0]
          exact stop (fun h => d h.2.2)
    · rw [if_neg (show ¬ (1 : Int32) < Int32.ofNat _ from fun h => d1 ((o_lt (a := 1) (by omega) (by omega)).1 h)), tsk_n (fun h => d1 h.1)]
      exact t_some ⟨rfl, rfl, c⟩
/-- all WORLDS are left -/
theorem kwt_E {x2 x3 x6 x7 x8 x9 x10 : Int32} {x4 : Int64} (c : RCH x f s) : Tot (wX11_trials_h101 x2 x3 x4 x6 x7 x8 x9 x10 wFuel 0 s) (fun r => RCH x f r ∧ KWR f (fun _ => true) r (nW f)) := by
  have w5 := c.2.1.w.1
  refine loop_N (L := fun n (p : Int32 × wS) => wX11_trials_h101 x2 x3 x4 x6 x7 x8 x9 x10 n p.1 p.2) (N := nW f) (I := fun w p => p.1 = Int32.ofNat w ∧ RCH x f p.2 ∧ KWR f (fun _ => true) p.2 w) (x := (0, s)) (by omega) ⟨rfl, c, fun j h => absurd h (by omega)⟩ (fun n w p' hw hI => ?_) (fun n p' hI => ?_)
  · obtain ⟨a, u⟩ := p'
    obtain ⟨ea, cu, z⟩ := hI
    dsimp only at ea cu z ⊢
    subst ea
    rw [wX11_trials_h101, cu.nw, t_sbe, if_pos ((o_lt (by omega) (by omega)).2 hw), stZ_o (by omega) (by omega), t_sbe, o_1]
    refine ⟨(Int32.ofNat (w + 1), wupI u 165 w (vp_nar .boolean 1)), rfl, rfl, cu.go (wupI_n (by decide)) rfl, fun j hj => ?_⟩
    show (wupI u 165 w (vp_nar .boolean 1)).1 165 j = _
    rw [upI_at, if_pos rfl]
    by_cases d : j = w
    · rw [if_pos d]
      rfl
    · rw [if_neg d]
      exact z j (by omega)
  · obtain ⟨a, u⟩ := p'
    obtain ⟨ea, cu, z⟩ := hI
    dsimp only at ea cu z ⊢
    subst ea
    rw [wX11_trials_h101, cu.nw, t_sbe, if_neg (fun c => by have := (o_lt (by omega) (by omega)).1 c; omega)]
    exact t_some ⟨cu, z⟩
/-- a DRAW, on both sides -/
theorem draw_L {y : Int64} {v : Nat} (hy : y.toInt = v) (hv : v < 2147483648) : (((y * 1103515245) + 12345) - ((y * 1103515245) + 12345) / 2147483648 * 2147483648).toInt = dnx v := by
  have m : (1103515245 : Int64).toInt = 1103515245 := rfl
  have a : (12345 : Int64).toInt = 12345 := rfl
  have d : (2147483648 : Int64).toInt = 2147483648 := rfl
  have e1 : (y * 1103515245).toInt = (v : Int) * 1103515245 := by
    rw [t_mul64 (by rw [hy, m]; omega) (by rw [hy, m]; omega), hy, m]
  have e2 : ((y * 1103515245) + 12345).toInt = (v : Int) * 1103515245 + 12345 := by
    rw [t_add64 (by rw [e1, a]; omega) (by rw [e1, a]; omega), e1, a]
  rw [t_rem64 (by rw [e2]; omega) (by rw [d]; decide), e2, d]
  unfold dnx
  omega
theorem to32 {y : Int64} {v : Nat} (hy : y.toInt = v) (hv : v < 2147483648) : y.toInt32 = Int32.ofNat v := Int32.toInt_inj.1 (by
  rw [Int64.toInt_toInt32, hy, t_on hv]
  exact Int.bmod_eq_of_le (by omega) (by omega))
theorem drawn_E {v : Nat} (hv : v < 2147483648) : wX10_drawn (Int32.ofNat v) s = some (Int32.ofNat (dnx v)) := by
  unfold wX10_drawn
  exact congrArg some (to32 (draw_L (by rw [Int32.toInt_toInt64, t_on hv]) hv) dnx_lt)
theorem world10_E {v n : Nat} (hv : v < 2147483648) (h1 : 1 ≤ n) (h2 : n ≤ 512) : wrmI (Int32.ofNat v / 65536) (Int32.ofNat n) = some (Int32.ofNat (v / 65536 % n)) := by
  have ev : (Int32.ofNat v).toInt = v := t_on hv
  have en : (Int32.ofNat n).toInt = n := t_on (by omega)
  have e6 : (65536 : Int32).toInt = 65536 := rfl
  have e1 : (Int32.ofNat v / 65536).toInt = (v : Int) / 65536 := by
    rw [t_div (by omega) (by rw [e6]; decide), ev, e6]
  have l := Nat.mod_lt (v / 65536) (show 0 < n by omega)
  unfold wrmI
  rw [if_neg (fun e => by have := congrArg Int32.toInt e; rw [en, t_i0] at this; omega)]
  refine congrArg some (Int32.toInt_inj.1 ?_)
  rw [t_rem (by rw [e1]; omega) (by omega), e1, en, t_on (by omega)]
  rfl
theorem world11_E {y : Int64} {v n : Nat} (hy : y.toInt = v) (hv : v < 2147483648) (h1 : 1 ≤ n) (h2 : n ≤ 512) : ∃ z, wdvL y 65536 = some (y / 65536) ∧ wrmL (y / 65536) ((Int32.ofNat n).toInt64) = some z ∧ z.toInt32 = Int32.ofNat (v / 65536 % n) := by
  have en : ((Int32.ofNat n).toInt64).toInt = n := by rw [Int32.toInt_toInt64, t_on (by omega)]
  have e6 : (65536 : Int64).toInt = 65536 := rfl
  have e1 : (y / 65536).toInt = (v : Int) / 65536 := by
    rw [t_div64 (by omega) (by rw [e6]; decide), hy, e6]
  have l := Nat.mod_lt (v / 65536) (show 0 < n by omega)
  have i0 : (0 : Int64).toInt = 0 := rfl
  refine ⟨y / 65536 - y / 65536 / (Int32.ofNat n).toInt64 * (Int32.ofNat n).toInt64, ?_, ?_, ?_⟩
  · unfold wdvL
    rw [if_neg (by decide)]
  · unfold wrmL
    rw [if_neg (fun e => by have := congrArg Int64.toInt e; rw [en, i0] at this; omega)]
  · refine to32 ?_ (by omega)
    rw [t_rem64 (by rw [e1]; omega) (by omega), e1, en]
    rfl
/-- the true WORLD of the j-th -/
noncomputable def twd (f : Nat → Int32) (v j : Nat) : Nat := xsq v (j + 1) / 65536 % nW f
noncomputable def tA (x : lC) (f : Nat → Int32) (v j : Nat) : Nat := (tsk x f (twd f v j) 9 (fun _ => true)).1
noncomputable def tL (x : lC) (f : Nat → Int32) (v j : Nat) : Nat := (tsk x f (twd f v j) 9 (fun _ => true)).2
noncomputable def tO (x : lC) (f : Nat → Int32) (v j : Nat) : Nat := if tL x f v j = 1 then 1 else 0
theorem trials10_E (q : QS l x s) (p : PTB s (pal (nk (s.1 163)) 3)) {v m : Nat} (hv : v < 2147483648) (hm : m ≤ 20) {x3 : Int32} : Tot (wX10_trials_h71 (Int32.ofNat m) x3 (44 + 10 * l) (Int32.ofNat (nW (s.1 163))) wFuel (Int32.ofNat v) 0 0 0 0 s) (fun z => z.1 = Int32.ofNat (tsm (tA x (s.1 163) v) m) ∧ z.2.1 = Int32.ofNat (tsm (tO x (s.1 163) v) m) ∧ z.2.2.1 = Int32.ofNat (tsm (tL x (s.1 163) v) m) ∧ FK 37 38 s z.2.2.2) := by
  have cf := q.2.2.2.2.2
  have w5 := cf.w
  refine loop_N (L := fun n (p : Int32 × Int32 × Int32 × Int32 × Int32 × wS) => wX10_trials_h71 (Int32.ofNat m) x3 (44 + 10 * l) (Int32.ofNat (nW (s.1 163))) n p.1 p.2.1 p.2.2.1 p.2.2.2.1 p.2.2.2.2.1 p.2.2.2.2.2) (N := m) (I := fun j p => p.1 = Int32.ofNat (xsq v j) ∧ p.2.1 = Int32.ofNat (tsm (tA x (s.1 163) v) j) ∧ p.2.2.1 = Int32.ofNat (tsm (tO x (s.1 163) v) j) ∧ p.2.2.2.1 = Int32.ofNat (tsm (tL x (s.1 163) v) j) ∧ p.2.2.2.2.1 = Int32.ofNat j ∧ FK 37 38 s p.2.2.2.2.2) (x := (Int32.ofNat v, 0, 0, 0, 0, s)) (by omega) ⟨rfl, rfl, rfl, rfl, rfl, FK.refl⟩ (fun n j p' hj hI => ?_) (fun n p' hI => ?_)
  · obtain ⟨a, b, c, d, e, u⟩ := p'
    obtain ⟨ea, eb, ec, ed, ee, fk⟩ := hI
    dsimp only at ea eb ec ed ee fk ⊢
    subst ea eb ec ed ee
    have hf := fk.f (by omega)
    have qu := fk.qs (by omega) (by omega) q
    have pu : PTB u (pal (nk (u.1 163)) 3) := by
      rw [hf]
      exact p.fk (fun k _ h2 => fk.1 k (by omega))
    have wl : twd (s.1 163) v j < nW (s.1 163) := Nat.mod_lt _ (by omega)
    obtain ⟨⟨z1, z2⟩, ez, h1, h2, h3⟩ := one10_E qu pu (W := twd (s.1 163) v j) (by rw [hf]; exact wl)
    dsimp only at h1 h2 h3
    rw [hf] at h1 h3
    have h1 : z1 = Int32.ofNat (tA x (s.1 163) v j) := h1
    have h3 : z2.1 37 1 = Int32.ofNat (tL x (s.1 163) v j) := h3
    have tl : tL x (s.1 163) v j ≤ nW (s.1 163) := tsk_2.2
    rw [wX10_trials_h71, if_pos ((o_lt (by omega) (by omega)).2 hj), drawn_E (xsq_lt hv), t_sbe, world10_E dnx_lt (by omega) (by omega), t_sbe]
    have ez' : wX10_trial (44 + 10 * l) (Int32.ofNat (dnx (xsq v j) / 65536 % nW (s.1 163))) u = some (z1, z2) := ez
    rw [ez', t_sbe]
    unfold wX10_trials_j130
    dsimp only
    rw [h3, h1, o_1, o_1, o_add, o_add]
    by_cases g : tL x (s.1 163) v j = 1
    · rw [if_pos (show Int32.ofNat _ = 1 by rw [g]; rfl)]
      refine ⟨(Int32.ofNat (xsq v (j + 1)), Int32.ofNat (tsm (tA x (s.1 163) v) j + tA x (s.1 163) v j), Int32.ofNat (tsm (tO x (s.1 163) v) j + 1), Int32.ofNat (tsm (tL x (s.1 163) v) j + tL x (s.1 163) v j), Int32.ofNat (j + 1), z2), rfl, rfl, rfl, ?_, rfl, rfl, fk.trans h2⟩
      show Int32.ofNat (tsm (tO x (s.1 163) v) j + 1) = Int32.ofNat (tsm (tO x (s.1 163) v) (j + 1))
      rw [tsm_s, show tO x (s.1 163) v j = 1 from if_pos g]
    · rw [if_neg (show ¬ Int32.ofNat _ = 1 from fun h => g ((o_eq (b := 1) (by omega) (by omega)).1 h))]
      refine ⟨(Int32.ofNat (xsq v (j + 1)), Int32.ofNat (tsm (tA x (s.1 163) v) j + tA x (s.1 163) v j), Int32.ofNat (tsm (tO x (s.1 163) v) j), Int32.ofNat (tsm (tL x (s.1 163) v) j + tL x (s.1 163) v j), Int32.ofNat (j + 1), z2), rfl, rfl, rfl, ?_, rfl, rfl, fk.trans h2⟩
      show Int32.ofNat (tsm (tO x (s.1 163) v) j) = Int32.ofNat (tsm (tO x (s.1 163) v) (j + 1))
      rw [tsm_s, show tO x (s.1 163) v j = 0 from if_neg g]
      rfl
  · obtain ⟨a, b, c, d, e, u⟩ := p'
    obtain ⟨ea, eb, ec, ed, ee, fk⟩ := hI
    dsimp only at ea eb ec ed ee fk ⊢
    subst ea eb ec ed ee
    rw [wX10_trials_h71, if_neg (fun c => by have := (o_lt (by omega) (by omega)).1 c; omega)]
    exact t_some ⟨rfl, rfl, rfl, fk⟩
theorem trials11_E (c : RCH x f s) {v m : Nat} (hv : v < 2147483648) (hm : m ≤ 20) {x3 : Int32} {x4 : Int64} (h4 : x4.toInt = v) : Tot (wX11_trials_h61 (Int32.ofNat m) x3 wFuel x4 0 0 0 0 s) (fun z => z.1 = Int32.ofNat (tsm (tA x f v) m) ∧ z.2.1 = Int32.ofNat (tsm (tO x f v) m) ∧ z.2.2.1 = Int32.ofNat (tsm (tL x f v) m)) := by
  have cf := c.2.1
  have w5 := cf.w
  refine loop_N (L := fun n (p : Int64 × Int32 × Int32 × Int32 × Int32 × wS) => wX11_trials_h61 (Int32.ofNat m) x3 n p.1 p.2.1 p.2.2.1 p.2.2.2.1 p.2.2.2.2.1 p.2.2.2.2.2) (N := m) (I := fun j p => p.1.toInt = (xsq v j : Int) ∧ p.2.1 = Int32.ofNat (tsm (tA x f v) j) ∧ p.2.2.1 = Int32.ofNat (tsm (tO x f v) j) ∧ p.2.2.2.1 = Int32.ofNat (tsm (tL x f v) j) ∧ p.2.2.2.2.1 = Int32.ofNat j ∧ RCH x f p.2.2.2.2.2) (x := (x4, 0, 0, 0, 0, s)) (by omega) ⟨h4, rfl, rfl, rfl, rfl, c⟩ (fun n j p' hj hI => ?_) (fun n p' hI => ?_)
  · obtain ⟨a, b, c', d, e, u⟩ := p'
    obtain ⟨ea, eb, ec, ed, ee, cu⟩ := hI
    dsimp only at ea eb ec ed ee cu ⊢
    subst eb ec ed ee
    have wl : twd f v j < nW f := Nat.mod_lt _ (by omega)
    have dl := draw_L ea (xsq_lt hv)
    have rm : wrmL ((a * 1103515245) + 12345) 2147483648 = some (((a * 1103515245) + 12345) - ((a * 1103515245) + 12345) / 2147483648 * 2147483648) := by
      unfold wrmL
      rw [if_neg (by decide)]
    rw [wX11_trials_h61, if_pos ((o_lt (by omega) (by omega)).2 hj), rm, t_sbe]
    generalize ((a * 1103515245) + 12345) - ((a * 1103515245) + 12345) / 2147483648 * 2147483648 = y at *
    obtain ⟨z, g1, g2, g3⟩ := world11_E dl dnx_lt (n := nW f) (by omega) (by omega)
    have g3 : z.toInt32 = Int32.ofNat (twd f v j) := g3
    rw [g1, t_sbe, cu.nw, t_sbe, g2, t_sbe, g3]
    obtain ⟨u2, e2, c2, k2⟩ := kwt_E (x2 := Int32.ofNat m) (x3 := x3) (x4 := y) (x6 := Int32.ofNat (tsm (tA x f v) j)) (x7 := Int32.ofNat (tsm (tO x f v) j)) (x8 := Int32.ofNat (tsm (tL x f v) j)) (x9 := Int32.ofNat j) (x10 := Int32.ofNat (twd f v j)) cu
    have ca : cnt (fun _ => true) (nW f) = nW f := by
      have : ∀ n, cnt (fun _ => true) n = n := fun n => by
        induction n with
        | zero => rfl
        | succ n ih => rw [cnt_t rfl, ih]
      exact this _
    obtain ⟨⟨z1, z2, u3⟩, e3, h1, h2, c3⟩ := trial11_E (x2 := Int32.ofNat m) (x3 := x3) (x4 := y) (x6 := Int32.ofNat (tsm (tA x f v) j)) (x7 := Int32.ofNat (tsm (tO x f v) j)) (x8 := Int32.ofNat (tsm (tL x f v) j)) (x9 := Int32.ofNat j) wl (k := 9) (n := wFuel) (wF_k (by omega)) (Nat.le_refl _) c2 k2
    dsimp only at h1 h2 c3
    rw [ca] at e3
    rw [Nat.sub_self, Nat.zero_add] at h2
    have h1 : z1 = Int32.ofNat (tL x f v j) := h1
    have h2 : z2 = Int32.ofNat (tA x f v j) := h2
    have e3 : wX11_trials_h136 (Int32.ofNat m) x3 y (Int32.ofNat (tsm (tA x f v) j)) (Int32.ofNat (tsm (tO x f v) j)) (Int32.ofNat (tsm (tL x f v) j)) (Int32.ofNat j) (Int32.ofNat (twd f v j)) wFuel (Int32.ofNat (nW f)) 0 1 u2 = some (z1, z2, u3) := e3
    have tl : tL x f v j ≤ nW f := tsk_2.2
    rw [e2, t_sbe, c2.nw, t_sbe, e3, t_sbe]
    unfold wX11_trials_j278 wX11_trials_j298
    dsimp only
    rw [h1, h2, o_add, o_add, o_1, o_1]
    by_cases g : tL x f v j = 1
    · rw [if_pos (show Int32.ofNat _ = 1 by rw [g]; rfl)]
      refine ⟨(y, Int32.ofNat (tsm (tA x f v) j + tA x f v j), Int32.ofNat (tsm (tO x f v) j + 1), Int32.ofNat (tsm (tL x f v) j + tL x f v j), Int32.ofNat (j + 1), u3), rfl, dl, rfl, ?_, rfl, rfl, c3⟩
      show Int32.ofNat (tsm (tO x f v) j + 1) = Int32.ofNat (tsm (tO x f v) (j + 1))
      rw [tsm_s, show tO x f v j = 1 from if_pos g]
    · rw [if_neg (show ¬ Int32.ofNat _ = 1 from fun h => g ((o_eq (b := 1) (by omega) (by omega)).1 h)), o_z]
      refine ⟨(y, Int32.ofNat (tsm (tA x f v) j + tA x f v j), Int32.ofNat (tsm (tO x f v) j), Int32.ofNat (tsm (tL x f v) j + tL x f v j), Int32.ofNat (j + 1), u3), rfl, dl, rfl, ?_, rfl, rfl, c3⟩
      show Int32.ofNat (tsm (tO x f v) j) = Int32.ofNat (tsm (tO x f v) (j + 1))
      rw [tsm_s, show tO x f v j = 0 from if_neg g]
      rfl
  · obtain ⟨a, b, c', d, e, u⟩ := p'
    obtain ⟨ea, eb, ec, ed, ee, cu⟩ := hI
    dsimp only at ea eb ec ed ee cu ⊢
    subst eb ec ed ee
    rw [wX11_trials_h61, if_neg (fun c => by have := (o_lt (by omega) (by omega)).1 c; omega)]
    exact t_some ⟨rfl, rfl, rfl⟩
theorem op_trials {x1 x2 x3 : Int32} (g : JP s) : ∃ v s1 v2 s2, wX10_trials x1 x2 x3 s = some (v, s1) ∧ wX11_trials x1 x2 x3 s1 = some (v2, s2) ∧ v = v2 := by
  have e1 : (1 : Int32).toInt = 1 := rfl
  have e20 : (20 : Int32).toInt = 20 := rfl
  have e3 : (3 : Int32).toInt = 3 := rfl
  unfold wX10_trials wX11_trials
  rcases ask_E g.1 x1 with ⟨e, c⟩ | ⟨l, s2, x, q, hx1, e, hf, c⟩
  · obtain ⟨w, ew, -⟩ := wws_E g.1.1
    rw [e, t_sbe]
    dsimp only
    rw [ew, t_sbe]
    refine ⟨-1, s, -1, s, rfl, ?_, rfl⟩
    rw [c, t_sbe, qi0]
  · have cf := q.2.2.2.2.2
    have w5 := cf.w
    have p : PTB s2 (pal (nk (s2.1 163)) 3) := (g.2.q (Tot.get wX10_lawInUse_T e).2).pt q.1
    rw [e, t_sbe]
    dsimp only
    rw [(nworlds_E q).1, t_sbe]
    dsimp only [Option.elim]
    rw [if_pos (show (0 : Int32) < Int32.ofNat _ from (o_lt (a := 0) (by omega) (by omega)).2 (by omega))]
    by_cases d2 : 1 ≤ x2.toInt ∧ x2.toInt ≤ 20
    · rw [if_neg (show ¬ x2 < 1 from fun h => by have := Int32.lt_iff_toInt_lt.1 h; omega), if_neg (show ¬ 20 < x2 from fun h => by have := Int32.lt_iff_toInt_lt.1 h; omega), isOutside_E]
      by_cases d3 : 0 ≤ x3.toInt ∧ x3.toInt ≤ 2
      · rw [if_pos (show 0 ≤ x3.toInt ∧ x3.toInt < (3 : Int32).toInt by omega), t_sbe, qi0]
        have em := t_cln (show 0 ≤ x2.toInt by omega)
        have hm : x2 = Int32.ofNat x2.toNatClampNeg := (t_oc (by omega)).symm
        obtain ⟨-, -, -, -, -, -, -, -, x0⟩ := q.1.c
        have ev := t_cln x0
        have hv : s2.1 163 6 = Int32.ofNat (s2.1 163 6).toNatClampNeg := (t_oc x0).symm
        have lv := Int32.toInt_lt (s2.1 163 6)
        have h11 : s2.1 14 11 = s2.1 163 6 := q.1.h.2.1.1.2.2.2
        obtain ⟨⟨a1, a2, a3, s3⟩, ea, h1, h2, h3, fk⟩ := trials10_E q p (v := (s2.1 163 6).toNatClampNeg) (m := x2.toNatClampNeg) (by omega) (by omega) (x3 := x3)
        dsimp only at h1 h2 h3 fk
        have hf3 := fk.f (by omega)
        have q3 := fk.qs (by omega) (by omega) q
        obtain ⟨r, er, rc⟩ := q3.rc
        rw [hf3] at rc
        obtain ⟨⟨b1, b2, b3, r2⟩, eb, k1, k2, k3⟩ := trials11_E rc (v := (s2.1 163 6).toNatClampNeg) (m := x2.toNatClampNeg) (by omega) (by omega) (x3 := x3) (x4 := (s2.1 163 6).toInt64) (by rw [Int32.toInt_toInt64]; omega)
        dsimp only at k1 k2 k3
        rw [← hm] at ea eb
        rw [← hv] at ea
        have rv : r.1 163 6 = s2.1 163 6 := congrFun rc.1 6
        have ref : ((wX11_canAsk x1 s3).bind fun t1 => if t1 = 0 then (some ((-1 : Int32), s3)) else ((wX11_in ((x2 : Int32).toInt64) 1 20 s3).bind fun t4 => if t4 = 0 then (some ((-1), s3)) else ((wX11_in ((x3 : Int32).toInt64) 0 2 s3).bind fun t7 => if t7 = 0 then (some ((-1), s3)) else ((wX11_reaches x1 s3).bind fun s11 => (wX11_trials_h61 x2 x3 wFuel (((s11.1 163 6) : Int32).toInt64) 0 0 0 0 s11).bind fun (t75, t76, t77, s78) => if x3 = 0 then (some (t75, s78)) else (if x3 = 1 then (some (t76, s78)) else (some (t77, s78))))))) = some (if x3 = 0 then a1 else if x3 = 1 then a2 else a3, r2) := by
          rw [c s3 q3, t_sbe, qi1, in64_E (A := 1) (B := 20) rfl rfl, if_pos d2, t_sbe, qi1, in64_E (A := 0) (B := 2) rfl rfl, if_pos d3, t_sbe, qi1, hx1, er, t_sbe, rv, eb, t_sbe]
          dsimp only
          rw [k1, k2, k3, h1, h2, h3]
          split
          · rfl
          · split <;> rfl
        rw [h11, ea, t_sbe]
        dsimp only
        refine ⟨if x3 = 0 then a1 else if x3 = 1 then a2 else a3, s3, _, r2, ?_, ref, rfl⟩
        split
        · rfl
        · split <;> rfl
      · rw [if_neg (by omega), t_sbe, qi1]
        refine ⟨-1, s2, -1, s2, rfl, ?_, rfl⟩
        rw [c s2 q, t_sbe, qi1, in64_E (A := 1) (B := 20) rfl rfl, if_pos d2, t_sbe, qi1, in64_E (A := 0) (B := 2) rfl rfl, if_neg d3, t_sbe, qi0]
    · have ref : ((wX11_canAsk x1 s2).bind fun t1 => if t1 = 0 then (some ((-1 : Int32), s2)) else ((wX11_in ((x2 : Int32).toInt64) 1 20 s2).bind fun t4 => if t4 = 0 then (some ((-1), s2)) else ((wX11_in ((x3 : Int32).toInt64) 0 2 s2).bind fun t7 => if t7 = 0 then (some ((-1), s2)) else ((wX11_reaches x1 s2).bind fun s11 => (wX11_trials_h61 x2 x3 wFuel (((s11.1 163 6) : Int32).toInt64) 0 0 0 0 s11).bind fun (t75, t76, t77, s78) => if x3 = 0 then (some (t75, s78)) else (if x3 = 1 then (some (t76, s78)) else (some (t77, s78))))))) = some (-1, s2) := by
        rw [c s2 q, t_sbe, qi1, in64_E (A := 1) (B := 20) rfl rfl, if_neg d2, t_sbe, qi0]
      by_cases c1 : x2 < 1
      · rw [if_pos c1]
        exact ⟨-1, s2, -1, s2, rfl, ref, rfl⟩
      · have c2 : 20 < x2 := Int32.lt_iff_toInt_lt.2 (by
          have : ¬ x2.toInt < (1 : Int32).toInt := fun h => c1 (Int32.lt_iff_toInt_lt.2 h)
          omega)
        rw [if_neg c1, if_pos c2]
        exact ⟨-1, s2, -1, s2, rfl, ref, rfl⟩
end TT
