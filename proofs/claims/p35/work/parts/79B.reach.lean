/-! The reference reaches; an ANSWER is TRUE: the reference; holds. -/
/-- a loop to N -/
theorem loop_T {σ β : Type} {L : Nat → σ → Option β} {I : Nat → σ → Prop} {N : Nat} {Q : β → Prop} (step : ∀ n i x, i < N → I i x → (∃ x', L (n + 1) x = L n x' ∧ I (i + 1) x') ∨ Tot (L (n + 1) x) Q) (stop : ∀ n x, I N x → Tot (L (n + 1) x) Q) : ∀ n i x, i ≤ N → I i x → N - i < n → Tot (L n x) Q := by
  intro n
  induction n with
  | zero => intro i x _ _ h; omega
  | succ n ih =>
    intro i x hi h hm
    by_cases c : i = N
    · subst c
      exact stop n x h
    · rcases step n i x (by omega) h with ⟨x', e, h'⟩ | t
      · rw [e]
        exact ih (i + 1) x' (by omega) h' (by omega)
      · exact t
theorem wF_b {N : Nat} (h : N ≤ 1000000) : N - 0 < wFuel := by
  have e : wFuel = 1099511627776 := rfl
  omega
theorem ix64 {kd a b : Nat} (hk : kd < 3) (ha : a < 8) (hb : b < 8) : ((64 * Int32.ofNat kd) + (8 * Int32.ofNat a)) + Int32.ofNat b = Int32.ofNat (64 * kd + 8 * a + b) := by
  have : ∀ kd, kd < 3 → ∀ a, a < 8 → ∀ b, b < 8 → ((64 * Int32.ofNat kd) + (8 * Int32.ofNat a)) + Int32.ofNat b = Int32.ofNat (64 * kd + 8 * a + b) := by decide +kernel
  exact this kd hk a ha b hb
theorem stL_E {k n : Nat} {i : Int32} {v : Int64} {s : wS} (h0 : 0 ≤ i.toInt) (h1 : i.toInt < n) : wstL s k n i v = some (wupL s k i.toNatClampNeg v) := by
  unfold wstL
  rw [if_neg (t_ix h0 h1)]
theorem upL_at {s : wS} {k b c : Nat} {v : Int64} : (wupL s k b v).2 k c = if c = b then v else s.2 k c := by
  rw [wupL_k]
  rfl
theorem ilt {a b : Nat} (ha : a ≤ 1000) (hb : b ≤ 1000) : Int32.ofNat a < Int32.ofNat b ↔ a < b := by
  rw [Int32.lt_iff_toInt_lt, t_on (by omega), t_on (by omega)]
  omega
section REACH
variable {s : wS} {x : lC} {l : Nat}
/-- a question may be asked -/
noncomputable def QS (l : Nat) (x : lC) (s : wS) : Prop := JA s ∧ l < 6 ∧ (l : Int) < (s.1 152 2).toInt ∧ LK2 l x s ∧ TBL l x s ∧ CFt (s.1 163)
theorem QS_w {s' : wS} (a : wA bJ s s') (hL : ∀ k, 44 ≤ k → k ≤ 103 → s'.2 k = s.2 k) (q : QS l x s) : QS l x s' := by
  obtain ⟨g, l6, hl, lk, t, cf⟩ := q
  have z163 : s'.1 163 = s.1 163 := funext fun b => a 163 b rfl
  have zm : ∀ k, 44 ≤ k → k ≤ 103 → s'.1 k = s.1 k := fun k h1 h2 => funext fun b => a k b (bJ_mid h1 h2)
  refine ⟨JA_Q (a.mono bJ_le) g, l6, by rw [a 152 2 rfl]; exact hl, LK2_go lk (fun j hj b _ _ => by rw [zm _ (by omega) (by omega)]) (fun j h1 h2 => zm _ (by omega) (by omega)) (fun k h1 h2 => funext fun b => a k b ?_), TBL_go t (fun i _ => by rw [z163]) (hL _ (by omega) (by omega)) (zm _ (by omega) (by omega)), by rw [z163]; exact cf⟩
  obtain rfl | rfl | rfl | rfl : k = 154 ∨ k = 155 ∨ k = 156 ∨ k = 157 := by omega
  all_goals rfl
/-- what the reference's reaching leaves -/
noncomputable def RF (s0 r : wS) : Prop := (∀ k c, ¬ (k = 152 ∧ c = 22) → r.1 k c = s0.1 k c) ∧ (∀ k, 44 ≤ k → k ≤ 103 → r.2 k = s0.2 k)
theorem RF.refl : RF s s := ⟨fun _ _ _ => rfl, fun _ _ _ => rfl⟩
theorem RF.trans {r t : wS} (a : RF s r) (b : RF r t) : RF s t := ⟨fun k c h => (b.1 k c h).trans (a.1 k c h), fun k h1 h2 => (b.2 k h1 h2).trans (a.2 k h1 h2)⟩
theorem RF.w {r : wS} (a : RF s r) : wA bJ s r := fun k b h => a.1 k b (fun q => by
  rw [q.1, q.2] at h
  exact absurd h (by decide))
theorem RF.qs {r : wS} (a : RF s r) (q : QS l x s) : QS l x r := QS_w a.w a.2 q
theorem RF.f {r : wS} (a : RF s r) : r.1 163 = s.1 163 := funext fun b => a.1 163 b (by omega)
/-- the rows reached so far -/
noncomputable def FRt (x : lC) (f : Nat → Int32) (r : wS) (T : Nat) : Prop := ∀ kd a b, kd < 3 → a < nk f kd → b < nk f kd → 64 * kd + 8 * a + b < T → r.2 164 (64 * kd + 8 * a + b) = FVx x f (Int32.ofNat kd) a b
noncomputable abbrev FR (x : lC) (f : Nat → Int32) (r : wS) : Prop := FRt x f r 192
theorem fkd {r : wS} (q : QS l x s) (a : RF s r) {kd : Nat} (hk : kd < 3) : wldI r 163 262 (Int32.ofNat kd) = some (Int32.ofNat (nk (s.1 163) kd)) := by
  have ek : (Int32.ofNat kd).toInt = kd := t_on (by omega)
  rw [wld_E (by omega) (by omega), t_nc (by omega), a.f]
  exact congrArg some (q.2.2.2.2.2 kd hk).1
theorem reach_h22 (q : QS l x s) {kd a : Nat} (hk : kd < 3) (ha : a < nk (s.1 163) kd) {r0 : wS} (h0 : RF s r0) (d0 : FRt x (s.1 163) r0 (64 * kd + 8 * a)) : Tot (wX11_reaches_h22 (Int32.ofNat l) (Int32.ofNat kd) (Int32.ofNat a) wFuel 0 r0) (fun r => RF s r ∧ FRt x (s.1 163) r (64 * kd + 8 * (a + 1))) := by
  have cf := q.2.2.2.2.2
  have n8 := (cf kd hk).2.2
  refine loop_T (L := fun n (p : Int32 × wS) => wX11_reaches_h22 (Int32.ofNat l) (Int32.ofNat kd) (Int32.ofNat a) n p.1 p.2) (N := nk (s.1 163) kd) (I := fun b p => p.1 = Int32.ofNat b ∧ RF s p.2 ∧ FRt x (s.1 163) p.2 (64 * kd + 8 * a + b)) (fun n b p hb hI => Or.inl ?_) (fun n p hI => ?_) wFuel 0 (0, r0) (Nat.zero_le _) ⟨rfl, h0, d0⟩ (wF_b (by omega))
  · obtain ⟨i, r⟩ := p
    obtain ⟨e, rf, d⟩ := hI
    dsimp only at e rf d ⊢
    subst e
    have qr := rf.qs q
    have hf := rf.f
    have tha : TH (r.1 163) (Int32.ofNat kd) (Int32.ofNat a) := ⟨by rw [t_on (by omega)]; omega, by rw [t_on (by omega)]; omega, by rw [t_on (by omega), t_nc (by omega), hf, cf.n hk]; omega⟩
    have thb : TH (r.1 163) (Int32.ofNat kd) (Int32.ofNat b) := ⟨by rw [t_on (by omega)]; omega, by rw [t_on (by omega)]; omega, by rw [t_on (by omega), t_nc (by omega), hf, cf.n hk]; omega⟩
    obtain ⟨⟨v, s7⟩, ev, hv, p1, p2⟩ := farR_E qr.1 qr.2.2.1 qr.2.2.2.1 rfl tha thb
    dsimp only at hv p1 p2
    rw [wX11_reaches_h22, fkd q rf hk, t_sbe, if_pos ((ilt (by omega) (by omega)).2 hb), ev, t_sbe]
    dsimp only
    rw [ix64 hk (by omega) (by omega), stL_E (by rw [t_on (by omega)]; omega) (by rw [t_on (by omega)]; omega), t_sbe, t_nc (by omega), i_on1 (by omega)]
    refine ⟨(Int32.ofNat (b + 1), wupL s7 164 (64 * kd + 8 * a + b) v), rfl, rfl, rf.trans ⟨p1, fun k h1 h2 => ?_⟩, fun kd' a' b' hk' ha' hb' hT => ?_⟩
    · rw [wupL_n (by omega)]
      exact p2 k (by omega) (by omega)
    · have n8' := (cf kd' hk').2.2
      rw [upL_at]
      by_cases c : 64 * kd' + 8 * a' + b' = 64 * kd + 8 * a + b
      · obtain rfl : kd' = kd := by omega
        obtain rfl : a' = a := by omega
        obtain rfl : b' = b := by omega
        rw [if_pos rfl, hv, hf, t_nc (by omega), t_nc (by omega)]
      · rw [if_neg c, p2 164 (by omega) (by omega)]
        exact d kd' a' b' hk' ha' hb' (by omega)
  · obtain ⟨i, r⟩ := p
    obtain ⟨e, rf, d⟩ := hI
    dsimp only at e rf d ⊢
    subst e
    rw [wX11_reaches_h22, fkd q rf hk, t_sbe, if_neg (fun c => by have := (ilt (by omega) (by omega)).1 c; omega)]
    refine t_some ⟨rf, fun kd' a' b' hk' ha' hb' hT => ?_⟩
    have n8' := (cf kd' hk').2.2
    refine d kd' a' b' hk' ha' hb' ?_
    by_cases c : kd' = kd ∧ a' = a
    · obtain ⟨rfl, rfl⟩ := c
      omega
    · omega
theorem reach_h9 (q : QS l x s) {kd : Nat} (hk : kd < 3) {r0 : wS} (h0 : RF s r0) (d0 : FRt x (s.1 163) r0 (64 * kd)) : Tot (wX11_reaches_h9 (Int32.ofNat l) (Int32.ofNat kd) wFuel 0 r0) (fun r => RF s r ∧ FRt x (s.1 163) r (64 * (kd + 1))) := by
  have cf := q.2.2.2.2.2
  have n8 := (cf kd hk).2.2
  refine loop_T (L := fun n (p : Int32 × wS) => wX11_reaches_h9 (Int32.ofNat l) (Int32.ofNat kd) n p.1 p.2) (N := nk (s.1 163) kd) (I := fun a p => p.1 = Int32.ofNat a ∧ RF s p.2 ∧ FRt x (s.1 163) p.2 (64 * kd + 8 * a)) (fun n a p ha hI => Or.inl ?_) (fun n p hI => ?_) wFuel 0 (0, r0) (Nat.zero_le _) ⟨rfl, h0, d0⟩ (wF_b (by omega))
  · obtain ⟨i, r⟩ := p
    obtain ⟨e, rf, d⟩ := hI
    dsimp only at e rf d ⊢
    subst e
    obtain ⟨s11, ev, rf', d'⟩ := reach_h22 q hk ha rf d
    rw [wX11_reaches_h9, fkd q rf hk, t_sbe, if_pos ((ilt (by omega) (by omega)).2 ha), ev, t_sbe, i_on1 (by omega)]
    exact ⟨(Int32.ofNat (a + 1), s11), rfl, rfl, rf', d'⟩
  · obtain ⟨i, r⟩ := p
    obtain ⟨e, rf, d⟩ := hI
    dsimp only at e rf d ⊢
    subst e
    rw [wX11_reaches_h9, fkd q rf hk, t_sbe, if_neg (fun c => by have := (ilt (by omega) (by omega)).1 c; omega)]
    refine t_some ⟨rf, fun kd' a' b' hk' ha' hb' hT => ?_⟩
    have n8' := (cf kd' hk').2.2
    refine d kd' a' b' hk' ha' hb' ?_
    by_cases c : kd' = kd
    · subst c
      omega
    · omega
theorem reaches_E (q : QS l x s) : Tot (wX11_reaches (Int32.ofNat l) s) (fun r => RF s r ∧ FR x (s.1 163) r) := by
  have cf := q.2.2.2.2.2
  unfold wX11_reaches
  refine t_bind (P := fun r => RF s r ∧ FR x (s.1 163) r) ?_ (fun s18 h => t_some h)
  refine loop_T (L := fun n (p : Int32 × wS) => wX11_reaches_h2 (Int32.ofNat l) n p.1 p.2) (N := 3) (I := fun kd p => p.1 = Int32.ofNat kd ∧ RF s p.2 ∧ FRt x (s.1 163) p.2 (64 * kd)) (fun n kd p hk hI => Or.inl ?_) (fun n p hI => ?_) wFuel 0 (0, s) (Nat.zero_le _) ⟨rfl, RF.refl, fun kd' a' b' _ _ _ h => absurd h (by omega)⟩ (wF_b (by omega))
  · obtain ⟨i, r⟩ := p
    obtain ⟨e, rf, d⟩ := hI
    dsimp only at e rf d ⊢
    subst e
    obtain ⟨s14, ev, rf', d'⟩ := reach_h9 q hk rf d
    rw [wX11_reaches_h2, if_pos (show Int32.ofNat kd < 3 from (ilt (a := kd) (b := 3) (by omega) (by omega)).2 hk), ev, t_sbe, i_on1 (by omega)]
    exact ⟨(Int32.ofNat (kd + 1), s14), rfl, rfl, rf', d'⟩
  · obtain ⟨i, r⟩ := p
    obtain ⟨e, rf, d⟩ := hI
    dsimp only at e rf d ⊢
    subst e
    rw [wX11_reaches_h2, if_neg (by decide)]
    exact t_some ⟨rf, d⟩
/-- the reference's nearer -/
theorem isNearer_E {f : Nat → Int32} {r : wS} (hf : r.1 163 = f) (cf : CFt f) (d : FR x f r) {kd p q w : Nat} (hk : kd < 3) (hp : p < nk f kd) (hq : q < nk f kd) (hw : w < nW f) : wX11_isNearer (Int32.ofNat kd) (Int32.ofNat p) (Int32.ofNat q) (Int32.ofNat w) r = some (if FVx x f (Int32.ofNat kd) q (thn f kd w) < FVx x f (Int32.ofNat kd) p (thn f kd w) then 0 else 1) := by
  have n8 := (cf kd hk).2.2
  have tl := thn_lt cf hk hw
  unfold wX11_isNearer
  rw [thingOf_E hf cf hk hw, t_sbe, ix64 hk (by omega) (by omega), ix64 hk (by omega) (by omega), wldL_E (by rw [t_on (by omega)]; omega) (by rw [t_on (by omega)]; omega), t_sbe, wldL_E (by rw [t_on (by omega)]; omega) (by rw [t_on (by omega)]; omega), t_sbe, t_nc (by omega), t_nc (by omega), d kd p _ hk hp tl (by omega), d kd q _ hk hq tl (by omega)]
  by_cases c : FVx x f (Int32.ofNat kd) q (thn f kd w) < FVx x f (Int32.ofNat kd) p (thn f kd w)
  · rw [if_pos c, if_pos c]
  · rw [if_neg c, if_neg c]
theorem isTrue11_E {f : Nat → Int32} {r : wS} (hf : r.1 163 = f) (cf : CFt f) (af : AF f) (h40 : (f 3).toInt ≤ 40) (d : FR x f r) {a w : Nat} (ha : (a : Int) < (f 3).toInt) (hw : w < nW f) : wX11_isTrue (Int32.ofNat a) (Int32.ofNat w) r = some (if trw x f a w = true then 1 else 0) := by
  obtain ⟨h1, h2, h3, h4, h5, h6⟩ := af a ha
  have ea : (Int32.ofNat a).toInt = a := t_on (by omega)
  unfold wX11_isTrue
  rw [answerOf_E (a := a) (w := 1) (by omega) ea (by decide) rfl, t_sbe, answerOf_E (a := a) (w := 2) (by omega) ea (by decide) rfl, t_sbe, answerOf_E (a := a) (w := 3) (by omega) ea (by decide) rfl, t_sbe, hf, h4, h5, h6, isNearer_E hf cf d h1 h2 h3 hw, t_sbe]
  unfold trw
  by_cases c : FVx x f (Int32.ofNat (akd f a)) (aoth f a) (thn f (akd f a) w) < FVx x f (Int32.ofNat (akd f a)) (aone f a) (thn f (akd f a) w)
  · rw [if_pos c, decide_eq_true c, if_neg (by decide)]
    rfl
  · rw [if_neg c, decide_eq_false c, if_pos (by decide)]
    rfl
theorem canAsk_E {x1 : Int32} : wX11_canAsk x1 s = some (if 0 < (s.1 163 0).toInt ∧ 0 ≤ x1.toInt ∧ x1.toInt < (s.1 152 2).toInt then 1 else 0) := by
  unfold wX11_canAsk
  rw [isCourt_E]
  by_cases c : 0 < (s.1 163 0).toInt
  · rw [if_pos c, t_sbe, qi1, isLaw_E]
    by_cases d : 0 ≤ x1.toInt ∧ x1.toInt < (s.1 152 2).toInt
    · rw [if_pos d, t_sbe, qi1, if_pos ⟨c, d⟩]
    · rw [if_neg d, t_sbe, qi0, if_neg (fun q => d q.2)]
  · rw [if_neg c, t_sbe, qi0, if_neg (fun q => c q.1)]
/-- may it be asked? -/
theorem ask_E (g : JB s) (x1 : Int32) : (wX10_lawInUse x1 s = some (none, s) ∧ wX11_canAsk x1 s = some 0) ∨ (∃ l s2 x, QS l x s2 ∧ x1 = Int32.ofNat l ∧ wX10_lawInUse x1 s = some (some (44 + 10 * l), s2) ∧ s2.1 163 = s.1 163 ∧ ∀ u, QS l x u → wX11_canAsk x1 u = some 1) := by
  rcases lawInUse_E g x1 with ⟨no, e⟩ | ⟨us, l, s2, x, hl6, hx1, hlc, e, m, lk, t, fl⟩
  · left
    refine ⟨e, ?_⟩
    rw [canAsk_E, if_neg (show ¬ (0 < (s.1 163 0).toInt ∧ 0 ≤ x1.toInt ∧ x1.toInt < (s.1 152 2).toInt) from no)]
  · right
    have f := m.f163 hl6
    have c2 : s2.1 152 2 = s.1 152 2 := m.1 152 2 (by omega) (by omega)
    have q : QS l x s2 := ⟨m.ja hl6 g.1, hl6, by rw [c2]; exact hlc, lk, t, by rw [f]; exact g.1.cf us.1⟩
    refine ⟨l, s2, x, q, hx1, e, f, fun u qu => ?_⟩
    have n0 := qu.2.2.2.2.2.n (kd := 0) (by decide)
    have n1 := (qu.2.2.2.2.2 0 (by decide)).2.1
    rw [canAsk_E, if_pos ⟨by omega, by rw [hx1, t_on (by omega)]; omega, by rw [hx1, t_on (by omega)]; exact qu.2.2.1⟩]
theorem nworlds_E (q : QS l x s) : wX0_worlds 15 s = some (Int32.ofNat (nW (s.1 163))) ∧ ∀ u : wS, u.1 163 = s.1 163 → wX11_worlds u = some (Int32.ofNat (nW (s.1 163))) := by
  obtain ⟨w, e1, e2, e3, e4, e5⟩ := wws_E q.1
  have cf := q.2.2.2.2.2
  have w5 := cf.w.1
  have : w = Int32.ofNat (nW (s.1 163)) := Int32.toInt_inj.1 (by
    rw [e3, t_on (by omega), cf.n (kd := 0) (by decide), cf.n (kd := 1) (by decide), cf.n (kd := 2) (by decide)]
    unfold nW
    rw [Int.natCast_mul, Int.natCast_mul])
  rw [this] at e1 e2
  exact ⟨e1, e2⟩
theorem isW_E (q : QS l x s) {u : wS} (hu : u.1 163 = s.1 163) (w : Int32) : (∃ v : Nat, w = Int32.ofNat v ∧ v < nW (s.1 163) ∧ wX10_isOutside w (Int32.ofNat (nW (s.1 163))) s = some 0 ∧ wX11_isWorld w u = some 1) ∨ (wX10_isOutside w (Int32.ofNat (nW (s.1 163))) s = some 1 ∧ wX11_isWorld w u = some 0) := by
  have cf := q.2.2.2.2.2
  have w5 := cf.w.1
  have eN : (Int32.ofNat (nW (s.1 163))).toInt = nW (s.1 163) := t_on (by omega)
  have ew : (Int32.ofNat (nW (s.1 163))).toInt = (s.1 163 0).toInt * (s.1 163 1).toInt * (s.1 163 2).toInt := by
    rw [eN, cf.n (kd := 0) (by decide), cf.n (kd := 1) (by decide), cf.n (kd := 2) (by decide)]
    unfold nW
    rw [Int.natCast_mul, Int.natCast_mul]
  rw [isOutside_E, isWorld_E q.1 ew hu, eN]
  by_cases c : 0 ≤ w.toInt ∧ w.toInt < (nW (s.1 163) : Int)
  · left
    have e := t_cln c.1
    exact ⟨w.toNatClampNeg, (t_oc c.1).symm, by omega, by rw [if_pos c], by rw [if_pos c]⟩
  · right
    exact ⟨by rw [if_neg c], by rw [if_neg c]⟩
theorem op_holds {x1 x2 x3 : Int32} (g : JB s) : ∃ v s1 v2 s2, wX10_holds x1 x2 x3 s = some (v, s1) ∧ wX11_holds x1 x2 x3 s1 = some (v2, s2) ∧ v = v2 := by
  unfold wX10_holds wX11_holds
  rcases ask_E g x1 with ⟨e, c⟩ | ⟨l, s2, x, q, hx1, e, hf, c⟩
  · rw [e, t_sbe]
    refine ⟨-1, s, -1, s, rfl, ?_, rfl⟩
    rw [c, t_sbe, qi0]
  · rw [e, t_sbe]
    show ∃ v s1 v2 s3, ((wX2_hasAnswer 14 x2 s2).bind fun t5 => if t5 = 0 then (some ((-1), s2)) else ((wX0_worlds 15 s2).bind fun t8 => (wX10_isOutside x3 t8 s2).bind fun t10 => if t10 = 0 then ((wX10_isTrue (44 + 10 * l) x2 x3 s2).bind fun t13 => if t13 = 0 then (some (0, s2)) else (some (1, s2))) else (some ((-1), s2)))) = some (v, s1) ∧ _
    rcases hasAns_E q.1 x2 with ⟨a, xa, ha, b1, b2⟩ | ⟨-, b1, b2⟩
    · rw [b1, t_sbe, qi1, (nworlds_E q).1, t_sbe]
      rcases isW_E q rfl x3 with ⟨w, hw, wl, d1, d2⟩ | ⟨d1, d2⟩
      · obtain ⟨r, er, rf, d⟩ := reaches_E q
        have c40 := q.1.c.2.2.2.2.1
        have hx2 : x2 = Int32.ofNat a := Int32.toInt_inj.1 (by rw [xa, t_on (by omega)])
        rw [d1, t_sbe, qi0, hx2, hw, isTrue10_E q.1 q.2.1 q.2.2.2.2.1 q.2.2.2.2.2 ha wl, t_sbe]
        have t11 := isTrue11_E rf.f q.2.2.2.2.2 q.1.af c40.2 d ha wl
        rw [hx2] at b2
        rw [hw] at d2
        by_cases k : trw x (s2.1 163) a w = true
        · refine ⟨1, s2, 1, r, by rw [if_pos k, qi1], ?_, rfl⟩
          rw [c s2 q, t_sbe, qi1, b2, t_sbe, qi1, d2, t_sbe, qi1, hx1, er, t_sbe, t11, if_pos k, t_sbe, qi1]
        · refine ⟨0, s2, 0, r, by rw [if_neg k, qi0], ?_, rfl⟩
          rw [c s2 q, t_sbe, qi1, b2, t_sbe, qi1, d2, t_sbe, qi1, hx1, er, t_sbe, t11, if_neg k, t_sbe, qi0]
      · rw [d1, t_sbe, qi1]
        refine ⟨_, _, -1, s2, rfl, ?_, rfl⟩
        rw [c s2 q, t_sbe, qi1, b2, t_sbe, qi1, d2, t_sbe, qi0]
    · rw [b1, t_sbe, qi0]
      refine ⟨_, _, -1, s2, rfl, ?_, rfl⟩
      rw [c s2 q, t_sbe, qi1, b2, t_sbe, qi0]
end REACH
