/-! alone, mean, old. -/
theorem cnt_n {p : Nat → Bool} {n : Nat} : ∀ {m : Nat}, n ≤ m → cnt p n ≤ cnt p m := by
  intro m
  induction m with
  | zero => intro h; rw [show n = 0 by omega]; exact Nat.le_refl _
  | succ m ih =>
    intro h
    by_cases c : n = m + 1
    · rw [c]
      exact Nat.le_refl _
    · have := ih (by omega)
      show cnt p n ≤ cnt p m + (p m).toNat
      omega
/-- a sum -/
noncomputable def sm (h : Nat → Nat) : Nat → Nat
  | 0 => 0
  | n + 1 => sm h n + h n
theorem sm_s {h : Nat → Nat} {n : Nat} : sm h (n + 1) = sm h n + h n := rfl
theorem sm_add {h g u : Nat → Nat} : ∀ {n : Nat}, (∀ i, i < n → u i = h i + g i) → sm u n = sm h n + sm g n := by
  intro n
  induction n with
  | zero => intro _; rfl
  | succ n ih =>
    intro e
    have a := ih (fun i hi => e i (by omega))
    have b := e n (by omega)
    rw [sm_s, sm_s, sm_s]
    omega
theorem sm_cg {h g : Nat → Nat} : ∀ {n : Nat}, (∀ i, i < n → h i = g i) → sm h n = sm g n := by
  intro n
  induction n with
  | zero => intro _; rfl
  | succ n ih =>
    intro e
    rw [sm_s, sm_s, ih (fun i hi => e i (by omega)), e n (by omega)]
theorem sm_0 {h : Nat → Nat} {n : Nat} (e : ∀ i, i < n → h i = 0) : sm h n = 0 := by
  rw [sm_cg (g := fun _ => 0) e]
  induction n with
  | zero => rfl
  | succ n ih =>
    rw [sm_s]
    exact ih (fun i hi => e i (by omega))
theorem sm_one {V : Nat → Nat} {b : Bool} {t : Nat} : ∀ {n : Nat}, sm (fun r => V r * (b && decide (t = r)).toNat) n = if t < n ∧ b = true then V t else 0 := by
  intro n
  induction n with
  | zero => rw [if_neg (by omega)]; rfl
  | succ n ih =>
    rw [sm_s, ih]
    cases b
    · rw [if_neg (fun h => absurd h.2 (by decide)), if_neg (fun h => absurd h.2 (by decide)), Bool.false_and]
      rfl
    · rw [Bool.true_and]
      by_cases c : t = n
      · rw [if_neg (by omega), if_pos ⟨by omega, rfl⟩, decide_eq_true c, c]
        show 0 + V n * 1 = V n
        omega
      · rw [decide_eq_false c]
        show _ + V n * 0 = _
        by_cases d : t < n
        · rw [if_pos ⟨d, rfl⟩, if_pos ⟨by omega, rfl⟩]
          omega
        · rw [if_neg (by omega), if_neg (by omega)]
          omega
/-- a sum by things, a sum by WORLDS -/
theorem sm_two {V T : Nat → Nat} {K : Nat → Bool} {R : Nat} : ∀ {n : Nat}, (∀ w, w < n → T w < R) → sm (fun r => V r * cnt (fun w => K w && decide (T w = r)) n) R = sm (fun w => if K w = true then V (T w) else 0) n := by
  intro n
  induction n with
  | zero =>
    intro _
    exact sm_0 (fun i _ => Nat.mul_zero _)
  | succ n ih =>
    intro h
    rw [sm_add (u := fun r => V r * cnt (fun w => K w && decide (T w = r)) (n + 1)) (h := fun r => V r * cnt (fun w => K w && decide (T w = r)) n) (g := fun r => V r * (K n && decide (T n = r)).toNat) (fun r _ => Nat.mul_add _ _ _), ih (fun w hw => h w (by omega)), sm_one, sm_s]
    have := h n (by omega)
    by_cases c : K n = true
    · rw [if_pos ⟨this, c⟩, if_pos c]
    · rw [if_neg (fun q => c q.2), if_neg c]
section SU
variable {s : wS} {x : lC} {l : Nat} {f : Nat → Int32} {r : wS}
theorem isWit_E {y : Int32} : wX11_isWitness y s = some (if 0 ≤ y.toInt ∧ y.toInt < 6 then 1 else 0) := by
  unfold wX11_isWitness
  by_cases c : y < 0
  · have := t_lt c
    rw [t_i0] at this
    rw [if_pos c, if_neg (by omega)]
  · have a := t_ge c
    rw [t_i0] at a
    rw [if_neg c]
    by_cases d : y < 6
    · have b := t_lt d
      rw [show (6 : Int32).toInt = 6 from rfl] at b
      rw [if_pos d, if_pos ⟨a, b⟩]
    · have b := t_ge d
      rw [show (6 : Int32).toInt = 6 from rfl] at b
      rw [if_neg d, if_neg (by omega)]
/-- FALSE ones of one WITNESS -/
noncomputable def alo (x : lC) (f : Nat → Int32) (y : Int32) (w a : Nat) : Bool := decide (f (42 + 5 * a) = y) && (lkb f a && !trw x f a w)
theorem op_alone {x1 x2 : Int32} (g : JB s) : ∃ v s1 v2 s2, wX10_alone x1 x2 s = some (v, s1) ∧ wX11_alone x1 x2 s1 = some (v2, s2) ∧ v = v2 := by
  unfold wX10_alone wX11_alone
  rcases ask_E g x1 with ⟨e, c⟩ | ⟨l, s2, x, q, hx1, e, hf, c⟩
  · rw [e, t_sbe]
    refine ⟨-1, s, -1, s, rfl, ?_, rfl⟩
    rw [c, t_sbe, qi0]
  · rw [e, t_sbe]
    dsimp only [Option.elim]
    have e6 : (6 : Int32).toInt = 6 := rfl
    rw [isOutside_E]
    by_cases d : 0 ≤ x2.toInt ∧ x2.toInt < 6
    · have cf := q.2.2.2.2.2
      have w5 := cf.w
      obtain ⟨v, ev, hv⟩ := first_v q.1
      obtain ⟨s3, e3, f3, z3⟩ := countFalse_E q (v := v) (wit := x2) (but := -1)
      have q3 := f3.qs (by omega) (by omega) q
      have hf3 : s3.1 163 = s2.1 163 := f3.f (by omega)
      obtain ⟨r, er, rc⟩ := q3.rc
      rw [hf3] at rc
      obtain ⟨n3, n40⟩ := rc.n3
      have en := t_cln q.f3.1
      have en2 : nk (s2.1 163) 3 = (s2.1 163 3).toNatClampNeg := rfl
      have am : wX10_worldsWithAtMost 0 s3 = _ := atMost_E q3 (r := s3) rfl (g := fun w => fan x (s2.1 163) (selv (s2.1 163) v x2 (-1)) w 40) (fun w hw => by
        rw [hf3] at hw
        exact ⟨z3 w hw, by have := fan_le (x := x) (f := s2.1 163) (P := selv (s2.1 163) v x2 (-1)) (w := w) (n := 40); omega⟩) (k := 0) (by omega)
      rw [hf3] at am
      have inner : ∀ (y3 : Int32) w, w < nW (s2.1 163) → wX11_alone_h42 x2 y3 (Int32.ofNat w) r wFuel 1 0 = some (if cnt (alo x (s2.1 163) x2 w) (nk (s2.1 163) 3) = 0 then 1 else 0) := fun y3 w hw => by
        refine tot_eq (loop_T (L := fun n (p : Int32 × Int32) => wX11_alone_h42 x2 y3 (Int32.ofNat w) r n p.1 p.2) (N := nk (s2.1 163) 3) (I := fun a p => p.1 = (if cnt (alo x (s2.1 163) x2 w) a = 0 then 1 else 0) ∧ p.2 = Int32.ofNat a) (Q := fun v => v = (if cnt (alo x (s2.1 163) x2 w) (nk (s2.1 163) 3) = 0 then 1 else 0)) (fun n a p ha hI => ?_) (fun n p hI => ?_) wFuel 0 (1, 0) (Nat.zero_le _) ⟨rfl, rfl⟩ (wF_b (by omega)))
        · obtain ⟨u, i⟩ := p
          obtain ⟨ea, eb⟩ := hI
          dsimp only at ea eb ⊢
          subst eb
          rw [wX11_alone_h42, rc.1, n3, if_pos ((o_lt (by omega) (by omega)).2 ha)]
          unfold wX11_alone_j89 wX11_alone_j94
          by_cases z : cnt (alo x (s2.1 163) x2 w) a = 0
          · rw [if_pos z] at ea
            subst ea
            rw [qi1, answerOf_E (a := a) (w := 0) (by omega) (t_on (by omega)) (by decide) rfl, t_sbe, rc.1, o_1]
            have one : alo x (s2.1 163) x2 w a = false → (1 : Int32) = (if cnt (alo x (s2.1 163) x2 w) (a + 1) = 0 then 1 else 0) := fun h => by
              rw [cnt_f h, if_pos z]
            left
            by_cases h1 : s2.1 163 (42 + 5 * a + 0) = x2
            · rw [if_pos h1, lkb_E rc.1 (by omega), t_sbe]
              cases lb : lkb (s2.1 163) a
              · rw [b_f, qi0]
                exact ⟨(1, Int32.ofNat (a + 1)), rfl, one (by unfold alo; rw [lb, Bool.false_and, Bool.and_false]), rfl⟩
              · rw [if_pos rfl, qi1, rc.tr ha hw, t_sbe]
                cases tr : trw x (s2.1 163) a w
                · rw [b_f, qi0]
                  refine ⟨(0, Int32.ofNat (a + 1)), rfl, ?_, rfl⟩
                  rw [cnt_t (by unfold alo; rw [decide_eq_true (show s2.1 163 (42 + 5 * a) = x2 from h1), lb, tr]; rfl), if_neg (by omega)]
                · rw [if_pos rfl, qi1]
                  exact ⟨(1, Int32.ofNat (a + 1)), rfl, one (by unfold alo; rw [tr, Bool.not_true, Bool.and_false, Bool.and_false]), rfl⟩
            · rw [if_neg h1]
              exact ⟨(1, Int32.ofNat (a + 1)), rfl, one (by unfold alo; rw [decide_eq_false (show ¬ s2.1 163 (42 + 5 * a) = x2 from h1), Bool.false_and]), rfl⟩
          · right
            rw [if_neg z] at ea
            subst ea
            rw [qi0]
            refine t_some ?_
            have := cnt_n (p := alo x (s2.1 163) x2 w) (n := a) (m := nk (s2.1 163) 3) (by omega)
            rw [if_neg (by omega)]
        · obtain ⟨u, i⟩ := p
          obtain ⟨ea, eb⟩ := hI
          dsimp only at ea eb ⊢
          subst ea eb
          rw [wX11_alone_h42, rc.1, n3, if_neg (fun c => by have := (o_lt (by omega) (by omega)).1 c; omega)]
          exact t_some rfl
      have lo : wX11_alone_h27 x2 r wFuel 0 0 = some (Int32.ofNat (cnt (fun w => decide (cnt (alo x (s2.1 163) x2 w) (nk (s2.1 163) 3) = 0)) (nW (s2.1 163)))) := by
        refine loop_P (L := fun n (p : Int32 × Int32) => wX11_alone_h27 x2 r n p.1 p.2) (N := nW (s2.1 163)) (I := fun w p => p.1 = Int32.ofNat (cnt (fun w => decide (cnt (alo x (s2.1 163) x2 w) (nk (s2.1 163) 3) = 0)) w) ∧ p.2 = Int32.ofNat w) (x := (0, 0)) (by omega) ⟨rfl, rfl⟩ (fun n w p hw hI => ?_) (fun n p hI => ?_)
        · obtain ⟨u, i⟩ := p
          obtain ⟨ea, eb⟩ := hI
          dsimp only at ea eb ⊢
          subst ea eb
          rw [wX11_alone_h27, rc.nw, t_sbe, if_pos ((o_lt (by omega) (by omega)).2 hw), inner _ w hw, t_sbe]
          unfold wX11_alone_j102 wX11_alone_j113
          rw [o_1]
          by_cases z : cnt (alo x (s2.1 163) x2 w) (nk (s2.1 163) 3) = 0
          · rw [if_pos z, qi1, o_1]
            exact ⟨(_, _), rfl, congrArg Int32.ofNat (cnt_t (n := w) (decide_eq_true z)).symm, rfl⟩
          · rw [if_neg z, qi0, o_z]
            exact ⟨(_, _), rfl, congrArg Int32.ofNat (cnt_f (n := w) (decide_eq_false z)).symm, rfl⟩
        · obtain ⟨u, i⟩ := p
          obtain ⟨ea, eb⟩ := hI
          dsimp only at ea eb ⊢
          subst ea eb
          rw [wX11_alone_h27, rc.nw, t_sbe, if_neg (fun c => by have := (o_lt (by omega) (by omega)).1 c; omega)]
      rw [if_pos (by omega), t_sbe, qi0, ev, t_sbe, e3, t_sbe, am, t_sbe]
      refine ⟨_, s3, Int32.ofNat (cnt (fun w => decide (cnt (alo x (s2.1 163) x2 w) (nk (s2.1 163) 3) = 0)) (nW (s2.1 163))), r, rfl, ?_, congrArg Int32.ofNat (cnt_cg (fun w hw => decide_eq_decide.2 ?_))⟩
      · rw [c s3 q3, t_sbe, qi1, isWit_E, if_pos d, t_sbe, qi1, hx1, er, t_sbe, lo, t_sbe]
      · have e : fan x (s2.1 163) (selv (s2.1 163) v x2 (-1)) w 40 = cnt (alo x (s2.1 163) x2 w) (nk (s2.1 163) 3) := by
          unfold fan
          rw [cnt_ext (n := nk (s2.1 163) 3) (by omega) (fun a h1 _ => ?_)]
          · refine cnt_cg (fun a ha => ?_)
            have na : ¬ Int32.ofNat a = -1 := fun h => by
              have := congrArg Int32.toInt h
              rw [t_on (by omega), t_neg1] at this
              omega
            have n2 : ¬ x2 = -1 := fun h => by
              have := congrArg Int32.toInt h
              rw [t_neg1] at this
              omega
            unfold selv alo
            rw [lkv_b hv (by omega), decide_eq_false na, decide_eq_false n2, Bool.false_or, Bool.not_false, Bool.and_true]
            cases lkb (s2.1 163) a <;> cases decide (s2.1 163 (42 + 5 * a) = x2) <;> rfl
          · have : lkv (s2.1 163) v a = false := Bool.eq_false_iff.2 (fun h => by have := lkv_lt h; omega)
            unfold selv
            rw [this, Bool.false_and, Bool.false_and]
        rw [e]
        omega
    · rw [if_neg (by omega), t_sbe, qi1]
      refine ⟨_, _, -1, s2, rfl, ?_, rfl⟩
      rw [c s2 q, t_sbe, qi1, isWit_E, if_neg d, t_sbe, qi0]
theorem op_mean {x1 x2 x3 : Int32} (g : JB s) : ∃ v s1 v2 s2, wX10_mean x1 x2 x3 s = some (v, s1) ∧ wX11_mean x1 x2 x3 s1 = some (v2, s2) ∧ v = v2 := by
  unfold wX10_mean wX11_mean
  rcases withKept_E g x1 x2 with ⟨s2, e, c⟩ | ⟨l, k, s2, x, ⟨q, z, t⟩, hx1, hx2, h40, e, c, m⟩
  · rw [e, t_sbe]
    refine ⟨-1, s2, -1, s2, rfl, ?_, rfl⟩
    rcases c with c | ⟨c, m⟩
    · rw [c, t_sbe, qi0]
    · rw [c, t_sbe, qi1, m, t_sbe, qi0]
  · rw [e, t_sbe]
    dsimp only [Option.elim]
    have e2 : (2 : Int32).toInt = 2 := rfl
    rw [isOutside_E]
    by_cases d : 0 ≤ x3.toInt ∧ x3.toInt ≤ 1
    · have cf := q.2.2.2.2.2
      have w5 := cf.w.1
      have n8 := (cf 1 (by decide)).2.2
      have ek := t_cln d.1
      have hx3 : x3 = Int32.ofNat x3.toNatClampNeg := (t_oc d.1).symm
      generalize x3.toNatClampNeg = b at ek hx3
      have hb : b = 0 ∨ b = 1 := by omega
      have n1 := cf.n (kd := 1) (by decide)
      obtain ⟨hc, -, hx⟩ := q.1.h
      have V0 : ∀ i, i < nk (s2.1 163) 1 → 0 ≤ (s2.1 163 (10 + 2 * i + b)).toInt := fun i hi => by
        have := (hx.2.2.2.2.2.1 (2 * i + b) (by omega)).1
        rw [show 10 + 2 * i + b = 10 + (2 * i + b) by omega]
        exact this
      obtain ⟨⟨n, r⟩, er, en, rc, kr⟩ := keeps_E q (k := k) (by omega) (but := -1)
      dsimp only at en rc kr
      have N5 := cnt_le (p := kpt x (s2.1 163) (-1) k) (nW (s2.1 163))
      have told : ∀ i, i < nk (s2.1 163) 1 → (x3 = 0 → wX0_firstOf 15 1 (Int32.ofNat i) s2 = some (Int32.ofNat (s2.1 163 (10 + 2 * i + b)).toNatClampNeg)) ∧ (¬ x3 = 0 → wX0_secondOf 15 1 (Int32.ofNat i) s2 = some (Int32.ofNat (s2.1 163 (10 + 2 * i + b)).toNatClampNeg)) := fun i hi => by
        obtain ⟨h17, h18⟩ := hc.2.1 i (by omega)
        rw [t_oc (V0 i hi)]
        refine ⟨fun h => ?_, fun h => ?_⟩
        · have b0 : b = 0 := by
            rw [hx3] at h
            exact (o_eq (b := 0) (by omega) (by omega)).1 h
          unfold wX0_firstOf
          rw [slot_o1 (by omega), t_sbe, at_o (k := 15 + 2) (n := 24) rfl (by omega) (by omega), t_sbe, b0, show 8 * 1 + i = 8 + i by omega]
          exact congrArg some h17
        · have b1 : b = 1 := by
            rcases hb with h0 | h1
            · exact absurd (by rw [hx3, h0]; rfl) h
            · exact h1
          unfold wX0_secondOf
          rw [slot_o1 (by omega), t_sbe, at_o (k := 15 + 3) (n := 24) rfl (by omega) (by omega), t_sbe, b1, show 8 * 1 + i = 8 + i by omega]
          exact congrArg some h18
      have l10 : wX10_mean_h42 x3 s2 wFuel 0 0 = some (Int32.ofNat (sm (fun i => (s2.1 163 (10 + 2 * i + b)).toNatClampNeg * cnt (fun w => kpt x (s2.1 163) (-1) k w && decide (thn (s2.1 163) 1 w = i)) (nW (s2.1 163))) (nk (s2.1 163) 1))) := by
        refine loop_P (L := fun n (p : Int32 × Int32) => wX10_mean_h42 x3 s2 n p.1 p.2) (N := nk (s2.1 163) 1) (I := fun i p => p.1 = Int32.ofNat (sm (fun i => (s2.1 163 (10 + 2 * i + b)).toNatClampNeg * cnt (fun w => kpt x (s2.1 163) (-1) k w && decide (thn (s2.1 163) 1 w = i)) (nW (s2.1 163))) i) ∧ p.2 = Int32.ofNat i) (x := (0, 0)) (by omega) ⟨rfl, rfl⟩ (fun n i p hi hI => ?_) (fun n p hI => ?_)
        · obtain ⟨u, v⟩ := p
          obtain ⟨ea, eb⟩ := hI
          dsimp only at ea eb ⊢
          subst ea eb
          have wi : wX7_with 35 1 (Int32.ofNat i) s2 = _ := t.wi (Or.inl rfl) (kd := 1) (by decide) (show i < 8 by omega)
          rw [wX10_mean_h42, many_r1 q rfl, t_sbe, if_pos ((o_lt (by omega) (by omega)).2 hi)]
          unfold wX10_mean_j91
          rw [wi, o_1]
          by_cases h0 : x3 = 0
          · rw [if_pos h0, (told i hi).1 h0, t_sbe, t_sbe, o_mul, o_add]
            exact ⟨(_, _), rfl, rfl, rfl⟩
          · rw [if_neg h0, (told i hi).2 h0, t_sbe, t_sbe, o_mul, o_add]
            exact ⟨(_, _), rfl, rfl, rfl⟩
        · obtain ⟨u, v⟩ := p
          obtain ⟨ea, eb⟩ := hI
          dsimp only at ea eb ⊢
          subst ea eb
          rw [wX10_mean_h42, many_r1 q rfl, t_sbe, if_neg (fun c => by have := (o_lt (by omega) (by omega)).1 c; omega)]
      have l11 : wX11_mean_h42 x3 n r wFuel 0 0 = some (Int32.ofNat (sm (fun w => if kpt x (s2.1 163) (-1) k w = true then (s2.1 163 (10 + 2 * thn (s2.1 163) 1 w + b)).toNatClampNeg else 0) (nW (s2.1 163)))) := by
        refine loop_P (L := fun n' (p : Int32 × Int32) => wX11_mean_h42 x3 n r n' p.1 p.2) (N := nW (s2.1 163)) (I := fun w p => p.1 = Int32.ofNat (sm (fun w => if kpt x (s2.1 163) (-1) k w = true then (s2.1 163 (10 + 2 * thn (s2.1 163) 1 w + b)).toNatClampNeg else 0) w) ∧ p.2 = Int32.ofNat w) (x := (0, 0)) (by omega) ⟨rfl, rfl⟩ (fun n' w p hw hI => ?_) (fun n' p hI => ?_)
        · obtain ⟨u, v⟩ := p
          obtain ⟨ea, eb⟩ := hI
          dsimp only at ea eb ⊢
          subst ea eb
          have tl := thn_lt cf (kd := 1) (by decide) hw
          have th : wX11_thingOf (Int32.ofNat w) 1 r = some (Int32.ofNat (thn (s2.1 163) 1 w)) := thingOf_E rc.1 cf (kd := 1) (by decide) hw
          rw [wX11_mean_h42, rc.nw, t_sbe, if_pos ((o_lt (by omega) (by omega)).2 hw), ldI_o (by omega) (by omega), t_sbe, kr w hw, sm_s]
          unfold wX11_mean_j86
          rw [o_1]
          cases kk : kpt x (s2.1 163) (-1) k w
          · rw [b_f, qi0]
            exact ⟨(_, _), rfl, o_add (b := 0), rfl⟩
          · have ix : (10 + (2 * Int32.ofNat (thn (s2.1 163) 1 w))) + x3 = Int32.ofNat (10 + 2 * thn (s2.1 163) 1 w + b) := by
              rw [hx3]
              show (Int32.ofNat 10 + (Int32.ofNat 2 * Int32.ofNat _)) + Int32.ofNat b = _
              rw [o_mul, o_add, o_add]
            rw [if_pos rfl, qi1, th, t_sbe, ix, ldI_o (by omega) (by omega), t_sbe, rc.1, if_pos rfl]
            refine ⟨(_, _), rfl, ?_, rfl⟩
            show _ + s2.1 163 (10 + 2 * thn (s2.1 163) 1 w + b) = _
            rw [← o_add, t_oc (V0 _ tl)]
        · obtain ⟨u, v⟩ := p
          obtain ⟨ea, eb⟩ := hI
          dsimp only at ea eb ⊢
          subst ea eb
          rw [wX11_mean_h42, rc.nw, t_sbe, if_neg (fun c => by have := (o_lt (by omega) (by omega)).1 c; omega)]
      rw [sm_two (V := fun i => (s2.1 163 (10 + 2 * i + b)).toNatClampNeg) (T := thn (s2.1 163) 1) (K := kpt x (s2.1 163) (-1) k) (fun w hw => thn_lt cf (by decide) hw)] at l10
      have ref : ∀ R, (if n = 0 then some (((Int8.ofInt (-2)).toInt32), r) else ((wdvI (Int32.ofNat (sm (fun w => if kpt x (s2.1 163) (-1) k w = true then (s2.1 163 (10 + 2 * thn (s2.1 163) 1 w + b)).toNatClampNeg else 0) (nW (s2.1 163)))) n).bind fun t28 => some (t28, r))) = R → ((wX11_canAsk x1 s2).bind fun t1 => if t1 = 0 then (some ((-1), s2)) else ((wX11_isMany x2 s2).bind fun t4 => if t4 = 0 then (some ((-1), s2)) else ((wX11_in ((x3 : Int32).toInt64) 0 1 s2).bind fun t7 => if t7 = 0 then (some ((-1), s2)) else ((wX11_keeps x1 x2 (-1) s2).bind fun (t10, s11) => (wX11_mean_h42 x3 t10 s11 wFuel 0 0).bind fun t22 => if t10 = 0 then (some (((Int8.ofInt (-2)).toInt32), s11)) else ((wdvI t22 t10).bind fun t28 => some (t28, s11)))))) = R := fun R hR => by
        rw [c s2 q, t_sbe, qi1, m s2, t_sbe, qi1, in64_E (A := 0) (B := 1) rfl rfl, if_pos d, t_sbe, qi1, hx1, hx2, er, t_sbe]
        dsimp only
        rw [l11, t_sbe]
        exact hR
      rw [if_pos (by omega), t_sbe, qi0, t.1, l10, t_sbe]
      by_cases p : 0 < cnt (kpt x (s2.1 163) (-1) k) (nW (s2.1 163))
      · have n0 : ¬ Int32.ofNat (cnt (kpt x (s2.1 163) (-1) k) (nW (s2.1 163))) = 0 := fun h => by
          have := (o_eq (b := 0) (by omega) (by omega)).1 h
          omega
        rw [if_pos (show (0 : Int32) < Int32.ofNat _ from (o_lt (a := 0) (by omega) (by omega)).2 p)]
        unfold wdvI at ref ⊢
        rw [if_neg n0, t_sbe]
        refine ⟨_, s2, _, r, rfl, ref _ ?_, rfl⟩
        rw [en, if_neg n0, if_neg n0, t_sbe]
      · rw [if_neg (show ¬ (0 : Int32) < Int32.ofNat _ from fun h => p ((o_lt (a := 0) (by omega) (by omega)).1 h))]
        refine ⟨_, s2, _, r, rfl, ref _ ?_, rfl⟩
        rw [en, show cnt (kpt x (s2.1 163) (-1) k) (nW (s2.1 163)) = 0 by omega]
        exact if_pos rfl
    · rw [if_neg (by omega), t_sbe, qi1]
      refine ⟨_, _, -1, s2, rfl, ?_, rfl⟩
      rw [c s2 q, t_sbe, qi1, m s2, t_sbe, qi1, in64_E (A := 0) (B := 1) rfl rfl, if_neg d, t_sbe, qi0]
end SU
