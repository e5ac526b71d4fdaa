/-! BEST: fewest, falseOnes; alone; mean. -/
/-- the first with the least -/
noncomputable def bst (g : Nat → Nat) : Nat → Nat
  | 0 => 0
  | n + 1 => if g n < g (bst g n) then n else bst g n
theorem bst_s {g : Nat → Nat} {n : Nat} : bst g (n + 1) = if g n < g (bst g n) then n else bst g n := rfl
theorem bst_lt {g : Nat → Nat} : ∀ {n : Nat}, 0 < n → bst g n < n := by
  intro n
  induction n with
  | zero => intro h; omega
  | succ n ih =>
    intro _
    rw [bst_s]
    by_cases c : g n < g (bst g n)
    · rw [if_pos c]
      omega
    · rw [if_neg c]
      by_cases z : n = 0
      · subst z
        exact Nat.lt_succ_self 0
      · have := ih (by omega)
        omega
theorem bst_le {g : Nat → Nat} : ∀ {n i : Nat}, i < n → g (bst g n) ≤ g i := by
  intro n
  induction n with
  | zero => intro i h; omega
  | succ n ih =>
    intro i h
    rw [bst_s]
    by_cases c : g n < g (bst g n)
    · rw [if_pos c]
      by_cases e : i = n
      · rw [e]
        exact Nat.le_refl _
      · have := ih (i := i) (by omega)
        omega
    · rw [if_neg c]
      by_cases e : i = n
      · rw [e]
        omega
      · exact ih (by omega)
section BE
variable {s : wS} {x : lC} {l : Nat} {f : Nat → Int32} {r : wS}
/-- the class's BEST -/
theorem best10_E (q : QS l x s) : Tot (wX10_bestWorld (44 + 10 * l) s) (fun p => p.1 = Int32.ofNat (bst (wrg x (s.1 163) (-1)) (nW (s.1 163))) ∧ FK 32 33 s p.2 ∧ ∀ w, w < nW (s.1 163) → p.2.1 33 w = Int32.ofNat (wrg x (s.1 163) (-1) w)) := by
  have cf := q.2.2.2.2.2
  have w5 := cf.w
  have w40 := fun w => wrg_le (x := x) (f := s.1 163) (but := -1) (w := w) q.f3.2
  obtain ⟨v, ev, hv⟩ := first_v q.1
  obtain ⟨s3, e3, f3, z3⟩ := countFalse_E q (v := v) (wit := -1) (but := -1)
  have z : ∀ w, w < nW (s.1 163) → s3.1 33 w = Int32.ofNat (wrg x (s.1 163) (-1) w) := fun w hw => (z3 w hw).trans (congrArg Int32.ofNat (fan_wrg q.f3.1 q.f3.2 hv))
  unfold wX10_bestWorld
  rw [ev, t_sbe, e3, t_sbe]
  have e : wX10_bestWorld_h18 s3 wFuel 0 1 = some (Int32.ofNat (bst (wrg x (s.1 163) (-1)) (nW (s.1 163)))) := by
    refine loop_P (L := fun n (p : Int32 × Int32) => wX10_bestWorld_h18 s3 n p.1 p.2) (N := nW (s.1 163) - 1) (I := fun i p => p.1 = Int32.ofNat (bst (wrg x (s.1 163) (-1)) (i + 1)) ∧ p.2 = Int32.ofNat (i + 1)) (x := (0, 1)) (by omega) ⟨?_, rfl⟩ (fun n i p hi hI => ?_) (fun n p hI => ?_)
    · show (0 : Int32) = Int32.ofNat (bst (wrg x (s.1 163) (-1)) (0 + 1))
      rw [bst_s, show bst (wrg x (s.1 163) (-1)) 0 = 0 from rfl, if_neg (Nat.lt_irrefl _)]
      rfl
    · obtain ⟨a, b⟩ := p
      obtain ⟨ea, eb⟩ := hI
      dsimp only at ea eb ⊢
      subst ea eb
      have bl := bst_lt (g := wrg x (s.1 163) (-1)) (n := i + 1) (by omega)
      have k1 := w40 (i + 1)
      have k2 := w40 (bst (wrg x (s.1 163) (-1)) (i + 1))
      rw [wX10_bestWorld_h18, nworlds_r q (f3.1 16 (by omega)), t_sbe, if_pos ((o_lt (by omega) (by omega)).2 (by omega)), at_o (n := 512) rfl (by omega) (by omega), t_sbe, at_o (n := 512) rfl (by omega) (by omega), t_sbe, z _ (by omega), z _ (by omega)]
      unfold wX10_bestWorld_j53
      rw [o_1]
      by_cases c : wrg x (s.1 163) (-1) (i + 1) < wrg x (s.1 163) (-1) (bst (wrg x (s.1 163) (-1)) (i + 1))
      · rw [if_pos ((o_lt (by omega) (by omega)).2 c)]
        have hb : bst (wrg x (s.1 163) (-1)) (i + 1 + 1) = i + 1 := by rw [bst_s, if_pos c]
        exact ⟨(_, _), rfl, congrArg Int32.ofNat hb.symm, rfl⟩
      · rw [if_neg (fun h => c ((o_lt (by omega) (by omega)).1 h))]
        have hb : bst (wrg x (s.1 163) (-1)) (i + 1 + 1) = bst (wrg x (s.1 163) (-1)) (i + 1) := by rw [bst_s, if_neg c]
        exact ⟨(_, _), rfl, congrArg Int32.ofNat hb.symm, rfl⟩
    · obtain ⟨a, b⟩ := p
      obtain ⟨ea, eb⟩ := hI
      dsimp only at ea eb ⊢
      subst ea eb
      rw [show nW (s.1 163) - 1 + 1 = nW (s.1 163) by omega, wX10_bestWorld_h18, nworlds_r q (f3.1 16 (by omega)), t_sbe, if_neg (fun c => by have := (o_lt (by omega) (by omega)).1 c; omega)]
  rw [e, t_sbe]
  exact t_some ⟨rfl, f3, z⟩
/-- the reference's BEST, so far -/
noncomputable def BS (g : Nat → Nat) (w : Nat) (r : wS) : Prop := (w = 0 → r.1 152 27 = -1 ∧ r.1 152 29 = 0) ∧ (0 < w → r.1 152 27 = Int32.ofNat (bst g w) ∧ r.1 152 28 = Int32.ofNat (g (bst g w)) ∧ r.1 152 29 = Int32.ofNat (cnt (fun v => decide (g v = g (bst g w))) w))
theorem finds_E (q : QS l x s) : Tot (wX11_finds (Int32.ofNat l) s) (fun r => RCH x (s.1 163) r ∧ BS (wrg x (s.1 163) (-1)) (nW (s.1 163)) r) := by
  have cf := q.2.2.2.2.2
  have w5 := cf.w
  have w40 := fun w => wrg_le (x := x) (f := s.1 163) (but := -1) (w := w) q.f3.2
  obtain ⟨r0, er, c0⟩ := q.rc
  unfold wX11_finds wpfI
  rw [er, t_sbe, t_sbe, t_sbe, t_sbe]
  refine t_bind (P := fun r => RCH x (s.1 163) r ∧ BS (wrg x (s.1 163) (-1)) (nW (s.1 163)) r) ?_ (fun r h => t_some h)
  have up : ∀ (r : wS) (b : Nat) (v : Int32), (wupI r 152 b v).1 163 = r.1 163 := fun r b v => wupI_n (by decide)
  refine loop_N (L := fun n (p : Int32 × wS) => wX11_finds_h22 n p.1 p.2) (N := nW (s.1 163)) (I := fun w p => p.1 = Int32.ofNat w ∧ RCH x (s.1 163) p.2 ∧ BS (wrg x (s.1 163) (-1)) w p.2) (x := (0, wupI (wupI (wupI r0 152 27 (-1)) 152 28 0) 152 29 0)) (by omega) ⟨rfl, c0.go ((up _ _ _).trans ((up _ _ _).trans (up _ _ _))) rfl, fun _ => ⟨?_, ?_⟩, fun h => absurd h (by omega)⟩ (fun n w p hw hI => ?_) (fun n p hI => ?_)
  · show (wupI (wupI (wupI r0 152 27 (-1)) 152 28 0) 152 29 0).1 152 27 = -1
    rw [upI_at, if_neg (by decide), upI_at, if_neg (by decide), upI_at, if_pos rfl]
  · show (wupI (wupI (wupI r0 152 27 (-1)) 152 28 0) 152 29 0).1 152 29 = 0
    rw [upI_at, if_pos rfl]
  · obtain ⟨a, r⟩ := p
    obtain ⟨ea, c, b0, b1⟩ := hI
    dsimp only at ea c b0 b1 ⊢
    subst ea
    have bl := fun v (hv : v < w) => bst_le (g := wrg x (s.1 163) (-1)) hv
    have k1 := w40 w
    have k2 := w40 (bst (wrg x (s.1 163) (-1)) w)
    have cn := cnt_le (p := fun v => decide (wrg x (s.1 163) (-1) v = wrg x (s.1 163) (-1) (bst (wrg x (s.1 163) (-1)) w))) w
    rw [wX11_finds_h22, c.nw, t_sbe, if_pos ((o_lt (by omega) (by omega)).2 hw), wrongIn_E c hw, t_sbe]
    -- a new one
    have new : (w = 0 ∨ wrg x (s.1 163) (-1) w < wrg x (s.1 163) (-1) (bst (wrg x (s.1 163) (-1)) w)) → ∃ x' : Int32 × wS, wX11_finds_j52 (wX11_finds_h22 n) (Int32.ofNat w) (Int32.ofNat (wrg x (s.1 163) (-1) w)) r = wX11_finds_h22 n x'.1 x'.2 ∧ x'.1 = Int32.ofNat (w + 1) ∧ RCH x (s.1 163) x'.2 ∧ BS (wrg x (s.1 163) (-1)) (w + 1) x'.2 := fun h => by
      unfold wX11_finds_j52 wX11_finds_j67 wX11_finds_j85 wpfI
      rw [t_sbe, t_sbe, t_sbe, upI_at, if_neg (show ¬ (28 = 29) by decide), upI_at, if_pos rfl, if_pos rfl, upI_at, if_pos rfl, t_sbe, o_1]
      have hb : bst (wrg x (s.1 163) (-1)) (w + 1) = w := by
        rw [bst_s]
        rcases h with h | h
        · subst h
          rw [show bst (wrg x (s.1 163) (-1)) 0 = 0 from rfl, if_neg (Nat.lt_irrefl _)]
        · rw [if_pos h]
      refine ⟨(Int32.ofNat (w + 1), wupI (wupI (wupI (wupI r 152 27 (Int32.ofNat w)) 152 28 (Int32.ofNat (wrg x (s.1 163) (-1) w))) 152 29 0) 152 29 (0 + 1)), rfl, rfl, c.go ((up _ _ _).trans ((up _ _ _).trans ((up _ _ _).trans (up _ _ _)))) rfl, fun h => absurd h (by omega), fun _ => ⟨?_, ?_, ?_⟩⟩ <;> dsimp only
      · rw [hb, upI_at, if_neg (by decide), upI_at, if_neg (by decide), upI_at, if_neg (by decide), upI_at, if_pos rfl]
      · rw [hb, upI_at, if_neg (by decide), upI_at, if_neg (by decide), upI_at, if_pos rfl]
      · rw [hb, upI_at, if_pos rfl, cnt_t (n := w) (decide_eq_true rfl), cnt_0 (fun v hv => ?_)]
        · rfl
        · refine decide_eq_false (fun e => ?_)
          rcases h with h | h
          · omega
          · have := bl v hv
            omega
    -- no new one
    have old : 0 < w → ¬ wrg x (s.1 163) (-1) w < wrg x (s.1 163) (-1) (bst (wrg x (s.1 163) (-1)) w) → ∃ x' : Int32 × wS, wX11_finds_j67 (wX11_finds_h22 n) (Int32.ofNat w) (Int32.ofNat (wrg x (s.1 163) (-1) w)) r = wX11_finds_h22 n x'.1 x'.2 ∧ x'.1 = Int32.ofNat (w + 1) ∧ RCH x (s.1 163) x'.2 ∧ BS (wrg x (s.1 163) (-1)) (w + 1) x'.2 := fun w0 h => by
      obtain ⟨r27, r28, r29⟩ := b1 w0
      have hb : bst (wrg x (s.1 163) (-1)) (w + 1) = bst (wrg x (s.1 163) (-1)) w := by
        rw [bst_s, if_neg h]
      have done : ∀ v : Int32, v = Int32.ofNat (cnt (fun v => decide (wrg x (s.1 163) (-1) v = wrg x (s.1 163) (-1) (bst (wrg x (s.1 163) (-1)) w))) (w + 1)) → BS (wrg x (s.1 163) (-1)) (w + 1) (wupI r 152 29 v) := fun v hv => by
        refine ⟨fun h => absurd h (by omega), fun _ => ⟨?_, ?_, ?_⟩⟩
        · rw [hb, upI_at, if_neg (by decide), r27]
        · rw [hb, upI_at, if_neg (by decide), r28]
        · rw [hb, upI_at, if_pos rfl, hv]
      unfold wX11_finds_j67 wX11_finds_j85 wpfI
      rw [r28, r29]
      by_cases d : wrg x (s.1 163) (-1) w = wrg x (s.1 163) (-1) (bst (wrg x (s.1 163) (-1)) w)
      · rw [if_pos (by rw [d]), t_sbe, o_1, o_1]
        exact ⟨(_, _), rfl, rfl, c.go (up _ _ _) rfl, done _ (congrArg Int32.ofNat (cnt_t (n := w) (decide_eq_true d)).symm)⟩
      · rw [if_neg (fun h => d ((o_eq (by omega) (by omega)).1 h)), t_sbe, o_z, o_1]
        exact ⟨(_, _), rfl, rfl, c.go (up _ _ _) rfl, done _ (congrArg Int32.ofNat (cnt_f (n := w) (decide_eq_false d)).symm)⟩
    by_cases w0 : w = 0
    · rw [(b0 w0).1, if_pos (by decide)]
      exact new (Or.inl w0)
    · obtain ⟨r27, r28, r29⟩ := b1 (by omega)
      have bw := bst_lt (g := wrg x (s.1 163) (-1)) (n := w) (by omega)
      rw [r27, if_neg (show ¬ Int32.ofNat _ < 0 from fun h => by have := (o_lt (b := 0) (by omega) (by omega)).1 h; omega), r28]
      by_cases d : wrg x (s.1 163) (-1) w < wrg x (s.1 163) (-1) (bst (wrg x (s.1 163) (-1)) w)
      · rw [if_pos ((o_lt (by omega) (by omega)).2 d)]
        exact new (Or.inr d)
      · rw [if_neg (fun h => d ((o_lt (by omega) (by omega)).1 h))]
        exact old (by omega) d
  · obtain ⟨a, r⟩ := p
    obtain ⟨ea, c, b⟩ := hI
    dsimp only at ea c b ⊢
    subst ea
    rw [wX11_finds_h22, c.nw, t_sbe, if_neg (fun c => by have := (o_lt (by omega) (by omega)).1 c; omega)]
    exact t_some ⟨c, b⟩
theorem op_fewest {x1 x2 : Int32} (g : JB s) : ∃ v s1 v2 s2, wX10_fewest x1 x2 s = some (v, s1) ∧ wX11_fewest x1 x2 s1 = some (v2, s2) ∧ v = v2 := by
  unfold wX10_fewest wX11_fewest
  rcases ask_E g x1 with ⟨e, c⟩ | ⟨l, s2, x, q, hx1, e, hf, c⟩
  · rw [e, t_sbe]
    refine ⟨-1, s, -1, s, rfl, ?_, rfl⟩
    rw [c, t_sbe, qi0]
  · rw [e, t_sbe]
    dsimp only [Option.elim]
    have e3 : (3 : Int32).toInt = 3 := rfl
    rw [isOutside_E]
    by_cases d : 0 ≤ x2.toInt ∧ x2.toInt ≤ 2
    · have cf := q.2.2.2.2.2
      have w5 := cf.w
      have w40 := fun w => wrg_le (x := x) (f := s2.1 163) (but := -1) (w := w) q.f3.2
      obtain ⟨⟨b, s3⟩, e3, hb, f3, z3⟩ := best10_E q
      dsimp only at hb f3 z3
      subst hb
      have q3 := f3.qs (by omega) (by omega) q
      have hf3 : s3.1 163 = s2.1 163 := f3.f (by omega)
      have bl := bst_lt (g := wrg x (s2.1 163) (-1)) (n := nW (s2.1 163)) (by omega)
      obtain ⟨r, er, rc, -, b1⟩ := finds_E q3
      rw [hf3] at rc b1
      obtain ⟨r27, r28, r29⟩ := b1 (by omega)
      have am := atMost_E q3 (r := s3) rfl (g := wrg x (s2.1 163) (-1)) (fun w hw => by
        rw [hf3] at hw
        exact ⟨z3 w hw, by have := w40 w; omega⟩) (k := wrg x (s2.1 163) (-1) (bst (wrg x (s2.1 163) (-1)) (nW (s2.1 163)))) (by have := w40 (bst (wrg x (s2.1 163) (-1)) (nW (s2.1 163))); omega)
      rw [hf3] at am
      rw [if_pos (by omega), t_sbe, qi0, e3, t_sbe]
      dsimp only
      rw [at_o (n := 512) rfl (by omega) (by omega), t_sbe, z3 _ bl, am, t_sbe]
      by_cases h0 : x2 = 0
      · rw [if_pos h0]
        refine ⟨_, s3, _, r, rfl, ?_, rfl⟩
        rw [c s3 q3, t_sbe, qi1, in64_E (A := 0) (B := 2) rfl rfl, if_pos d, t_sbe, qi1, hx1, er, t_sbe, r28, if_pos h0]
      · rw [if_neg h0]
        by_cases h1 : x2 = 1
        · rw [if_pos h1]
          refine ⟨_, s3, _, r, rfl, ?_, rfl⟩
          rw [c s3 q3, t_sbe, qi1, in64_E (A := 0) (B := 2) rfl rfl, if_pos d, t_sbe, qi1, hx1, er, t_sbe, r27, if_neg h0, if_pos h1]
        · rw [if_neg h1]
          refine ⟨_, s3, Int32.ofNat (cnt (fun v => decide (wrg x (s2.1 163) (-1) v = wrg x (s2.1 163) (-1) (bst (wrg x (s2.1 163) (-1)) (nW (s2.1 163))))) (nW (s2.1 163))), r, rfl, ?_, congrArg Int32.ofNat (cnt_cg (fun w hw => decide_eq_decide.2 ?_))⟩
          · rw [c s3 q3, t_sbe, qi1, in64_E (A := 0) (B := 2) rfl rfl, if_pos d, t_sbe, qi1, hx1, er, t_sbe, r29, if_neg h0, if_neg h1]
          · have := bst_le (g := wrg x (s2.1 163) (-1)) (n := nW (s2.1 163)) hw
            omega
    · rw [if_neg (by omega), t_sbe, qi1]
      refine ⟨_, _, -1, s2, rfl, ?_, rfl⟩
      rw [c s2 q, t_sbe, qi1, in64_E (A := 0) (B := 2) rfl rfl, if_neg d, t_sbe, qi0]
/-- FALSE ones as bits -/
noncomputable def fob (x : lC) (f : Nat → Int32) (w : Nat) : Nat → Int64
  | 0 => 0
  | n + 1 => if lkb f n = true ∧ trw x f n w = false then fob x f w n ||| (1 <<< ((Int32.ofNat n).toInt64 &&& 63)) else fob x f w n
theorem fob_s {x : lC} {f : Nat → Int32} {w n : Nat} : fob x f w (n + 1) = if lkb f n = true ∧ trw x f n w = false then fob x f w n ||| (1 <<< ((Int32.ofNat n).toInt64 &&& 63)) else fob x f w n := rfl
theorem op_falseOnes {x1 : Int32} (g : JB s) : ∃ v s1 v2 s2, wX10_falseOnes x1 s = some (v, s1) ∧ wX11_falseOnes x1 s1 = some (v2, s2) ∧ v = v2 := by
  unfold wX10_falseOnes wX11_falseOnes
  rcases ask_E g x1 with ⟨e, c⟩ | ⟨l, s2, x, q, hx1, e, hf, c⟩
  · rw [e, t_sbe]
    refine ⟨-1, s, -1, s, rfl, ?_, rfl⟩
    rw [c, t_sbe, qi0]
  · rw [e, t_sbe]
    dsimp only [Option.elim]
    have cf := q.2.2.2.2.2
    have w5 := cf.w
    obtain ⟨⟨b, s3⟩, e3, hb, f3, z3⟩ := best10_E q
    dsimp only at hb f3 z3
    subst hb
    have q3 := f3.qs (by omega) (by omega) q
    have hf3 : s3.1 163 = s2.1 163 := f3.f (by omega)
    have bl := bst_lt (g := wrg x (s2.1 163) (-1)) (n := nW (s2.1 163)) (by omega)
    obtain ⟨r, er, rc, -, b1⟩ := finds_E q3
    rw [hf3] at rc b1
    obtain ⟨r27, -, -⟩ := b1 (by omega)
    obtain ⟨n3, n40⟩ := rc.n3
    have en := t_cln q.f3.1
    have en2 : nk (s2.1 163) 3 = (s2.1 163 3).toNatClampNeg := rfl
    obtain ⟨v, ev, hv⟩ := first_v q3.1
    rw [hf3] at hv
    generalize bst (wrg x (s2.1 163) (-1)) (nW (s2.1 163)) = B at *
    have l10 : wX10_falseOnes_h26 (44 + 10 * l) (Int32.ofNat B) s3 wFuel 0 0 = some (fob x (s2.1 163) B (nk (s2.1 163) 3)) := by
      refine loop_P (L := fun n (p : Int64 × Int32) => wX10_falseOnes_h26 (44 + 10 * l) (Int32.ofNat B) s3 n p.1 p.2) (N := 40) (I := fun a p => p.1 = fob x (s2.1 163) B (if a ≤ nk (s2.1 163) 3 then a else nk (s2.1 163) 3) ∧ p.2 = Int32.ofNat a) (x := (0, 0)) (by omega) ⟨by rw [if_pos (Nat.zero_le _)]; rfl, rfl⟩ (fun n a p ha hI => ?_) (fun n p hI => ?_)
      · obtain ⟨y, i⟩ := p
        obtain ⟨ea, eb⟩ := hI
        dsimp only at ea eb ⊢
        subst ea eb
        have lk := lkv_E q3.1 (v := v) ha
        rw [hf3] at lk
        rw [wX10_falseOnes_h26, if_pos (show Int32.ofNat a < 40 from (o_lt (a := a) (b := 40) (by omega) (by omega)).2 ha), ev, t_sbe, lk, t_sbe]
        unfold wX10_falseOnes_j72
        rw [o_1]
        by_cases al : a < nk (s2.1 163) 3
        · rw [lkv_b hv (show (a : Int) < (s2.1 163 3).toInt by omega), if_pos (show a ≤ nk (s2.1 163) 3 by omega)]
          cases lb : lkb (s2.1 163) a
          · rw [b_f, qi0]
            exact ⟨(_, _), rfl, by rw [if_pos (show a + 1 ≤ nk (s2.1 163) 3 by omega), fob_s, if_neg (fun h => by rw [lb] at h; exact absurd h.1 (by decide))], rfl⟩
          · have it := isTrue10_E q3.1 q.2.1 q3.2.2.2.2.1 q3.2.2.2.2.2 (a := a) (w := B) (by rw [hf3]; omega) (by rw [hf3]; exact bl)
            rw [hf3] at it
            rw [if_pos rfl, qi1, it, t_sbe]
            cases tr : trw x (s2.1 163) a B
            · rw [b_f, qi0]
              exact ⟨(_, _), rfl, by rw [if_pos (show a + 1 ≤ nk (s2.1 163) 3 by omega), fob_s, if_pos ⟨lb, tr⟩], rfl⟩
            · rw [if_pos rfl, qi1]
              exact ⟨(_, _), rfl, by rw [if_pos (show a + 1 ≤ nk (s2.1 163) 3 by omega), fob_s, if_neg (fun h => by rw [tr] at h; exact absurd h.2 (by decide))], rfl⟩
        · rw [Bool.eq_false_iff.2 (fun h : lkv (s2.1 163) v a = true => by have := lkv_lt h; omega), b_f, qi0]
          refine ⟨(_, _), rfl, ?_, rfl⟩
          show fob x (s2.1 163) B (if a ≤ nk (s2.1 163) 3 then a else nk (s2.1 163) 3) = _
          rw [if_neg (show ¬ a + 1 ≤ nk (s2.1 163) 3 by omega)]
          by_cases e : a ≤ nk (s2.1 163) 3
          · rw [if_pos e, show a = nk (s2.1 163) 3 by omega]
          · rw [if_neg e]
      · obtain ⟨y, i⟩ := p
        obtain ⟨ea, eb⟩ := hI
        dsimp only at ea eb ⊢
        subst ea eb
        rw [wX10_falseOnes_h26, if_neg (by decide)]
        by_cases e : 40 ≤ nk (s2.1 163) 3
        · rw [if_pos e, show nk (s2.1 163) 3 = 40 by omega]
        · rw [if_neg e]
    have l11 : wX11_falseOnes_h22 r wFuel 0 0 = some (fob x (s2.1 163) B (nk (s2.1 163) 3)) := by
      refine loop_P (L := fun n (p : Int64 × Int32) => wX11_falseOnes_h22 r n p.1 p.2) (N := nk (s2.1 163) 3) (I := fun a p => p.1 = fob x (s2.1 163) B a ∧ p.2 = Int32.ofNat a) (x := (0, 0)) (by omega) ⟨rfl, rfl⟩ (fun n a p ha hI => ?_) (fun n p hI => ?_)
      · obtain ⟨y, i⟩ := p
        obtain ⟨ea, eb⟩ := hI
        dsimp only at ea eb ⊢
        subst ea eb
        rw [wX11_falseOnes_h22, rc.1, n3, if_pos ((o_lt (by omega) (by omega)).2 ha), lkb_E rc.1 (by omega), t_sbe, r27]
        unfold wX11_falseOnes_j63 wX11_falseOnes_j64
        rw [o_1]
        cases lb : lkb (s2.1 163) a
        · rw [b_f, qi0, Int64.or_zero]
          exact ⟨(_, _), rfl, by rw [fob_s, if_neg (fun h => by rw [lb] at h; exact absurd h.1 (by decide))], rfl⟩
        · rw [if_pos rfl, qi1, rc.tr ha bl, t_sbe]
          cases tr : trw x (s2.1 163) a B
          · rw [b_f, qi0]
            exact ⟨(_, _), rfl, by rw [fob_s, if_pos ⟨lb, tr⟩], rfl⟩
          · rw [if_pos rfl, qi1, Int64.or_zero]
            exact ⟨(_, _), rfl, by rw [fob_s, if_neg (fun h => by rw [tr] at h; exact absurd h.2 (by decide))], rfl⟩
      · obtain ⟨y, i⟩ := p
        obtain ⟨ea, eb⟩ := hI
        dsimp only at ea eb ⊢
        subst ea eb
        rw [wX11_falseOnes_h22, rc.1, n3, if_neg (fun c => by have := (o_lt (by omega) (by omega)).1 c; omega)]
    rw [e3, t_sbe]
    dsimp only
    rw [l10, t_sbe]
    refine ⟨_, s3, _, r, rfl, ?_, rfl⟩
    rw [c s3 q3, t_sbe, qi1, hx1, er, t_sbe, l11, t_sbe]
end BE
