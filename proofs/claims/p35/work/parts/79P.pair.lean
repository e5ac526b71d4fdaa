/-! The PAIRS, on both sides. -/
/-- PAIRS of a KIND with this first one; of a KIND; of all -/
noncomputable def prw (kd a : Nat) : Nat → List (Nat × Nat × Nat)
  | 0 => []
  | c + 1 => prw kd a c ++ [(kd, a, a + 1 + c)]
noncomputable def pkd (kd n : Nat) : Nat → List (Nat × Nat × Nat)
  | 0 => []
  | i + 1 => pkd kd n i ++ prw kd i (n - (i + 1))
noncomputable def pal (g : Nat → Nat) : Nat → List (Nat × Nat × Nat)
  | 0 => []
  | kd + 1 => pal g kd ++ pkd kd (g kd) (g kd)
noncomputable def pnn (n : Nat) : Nat → Nat
  | 0 => 0
  | i + 1 => pnn n i + (n - (i + 1))
theorem prw_n {kd a : Nat} : ∀ {c : Nat}, (prw kd a c).length = c := by
  intro c
  induction c with
  | zero => rfl
  | succ c ih =>
    show (prw kd a c ++ [(kd, a, a + 1 + c)]).length = _
    rw [List.length_append, ih]
    rfl
theorem pkd_n {kd n : Nat} : ∀ {i : Nat}, (pkd kd n i).length = pnn n i := by
  intro i
  induction i with
  | zero => rfl
  | succ i ih =>
    show (pkd kd n i ++ prw kd i (n - (i + 1))).length = pnn n i + (n - (i + 1))
    rw [List.length_append, ih, prw_n]
theorem pnn_28 : ∀ n, n < 9 → (∀ i, i < n → pnn n i + (n - (i + 1)) ≤ 28) ∧ pnn n n ≤ 28 := by decide
theorem pal_n {g : Nat → Nat} : ∀ {kd : Nat}, (∀ j, j < kd → g j ≤ 8) → (pal g kd).length ≤ 28 * kd := by
  intro kd
  induction kd with
  | zero => intro _; exact Nat.le_refl 0
  | succ kd ih =>
    intro h
    have a := ih (fun j hj => h j (by omega))
    have b := (pnn_28 (g kd) (by have := h kd (by omega); omega)).2
    show (pal g kd ++ pkd kd (g kd) (g kd)).length ≤ _
    rw [List.length_append, pkd_n]
    omega
theorem pal_cg {g g' : Nat → Nat} : ∀ {kd : Nat}, (∀ j, j < kd → g j = g' j) → pal g kd = pal g' kd := by
  intro kd
  induction kd with
  | zero => intro _; rfl
  | succ kd ih =>
    intro h
    show pal g kd ++ pkd kd (g kd) (g kd) = pal g' kd ++ pkd kd (g' kd) (g' kd)
    rw [ih (fun j hj => h j (by omega)), h kd (by omega)]
theorem prw_m {kd a : Nat} {t : Nat × Nat × Nat} : ∀ {c : Nat}, t ∈ prw kd a c → t.1 = kd ∧ t.2.1 = a ∧ a < t.2.2 ∧ t.2.2 ≤ a + c := by
  intro c
  induction c with
  | zero => intro h; cases h
  | succ c ih =>
    intro h
    rcases List.mem_append.1 h with h | h
    · obtain ⟨h1, h2, h3, h4⟩ := ih h
      exact ⟨h1, h2, h3, by omega⟩
    · rw [List.mem_singleton] at h
      rw [h]
      exact ⟨rfl, rfl, by show a < a + 1 + c; omega, by show a + 1 + c ≤ a + (c + 1); omega⟩
theorem pkd_m {kd n : Nat} {t : Nat × Nat × Nat} : ∀ {i : Nat}, t ∈ pkd kd n i → t.1 = kd ∧ t.2.1 < t.2.2 ∧ t.2.2 < n := by
  intro i
  induction i with
  | zero => intro h; cases h
  | succ i ih =>
    intro h
    rcases List.mem_append.1 h with h | h
    · exact ih h
    · obtain ⟨h1, h2, h3, h4⟩ := prw_m h
      exact ⟨h1, by omega, by omega⟩
theorem pal_m {g : Nat → Nat} {t : Nat × Nat × Nat} : ∀ {kd : Nat}, t ∈ pal g kd → t.1 < kd ∧ t.2.1 < t.2.2 ∧ t.2.2 < g t.1 := by
  intro kd
  induction kd with
  | zero => intro h; cases h
  | succ kd ih =>
    intro h
    rcases List.mem_append.1 h with h | h
    · obtain ⟨h1, h2, h3⟩ := ih h
      exact ⟨by omega, h2, h3⟩
    · obtain ⟨h1, h2, h3⟩ := pkd_m h
      exact ⟨by omega, h2, by rw [h1]; exact h3⟩
theorem get_app {L : List (Nat × Nat × Nat)} {u : Nat × Nat × Nat} {i : Nat} {t : Nat × Nat × Nat} (h : (L ++ [u])[i]? = some t) : (i < L.length ∧ L[i]? = some t) ∨ (i = L.length ∧ t = u) := by
  by_cases c : i < L.length
  · rw [List.getElem?_append_left c] at h
    exact Or.inl ⟨c, h⟩
  · rw [List.getElem?_append_right (by omega)] at h
    by_cases d : i - L.length = 0
    · rw [d] at h
      exact Or.inr ⟨by omega, (Option.some.inj h).symm⟩
    · rw [List.getElem?_eq_none (by show 1 ≤ i - L.length; omega)] at h
      cases h
section PTB
variable {s : wS} {x : lC} {l : Nat} {f : Nat → Int32} {r : wS}
/-- the class's rows of PAIRS -/
noncomputable def PTB (r : wS) (L : List (Nat × Nat × Nat)) : Prop := r.1 28 3 = Int32.ofNat L.length ∧ ∀ i t, L[i]? = some t → r.1 29 i = Int32.ofNat t.1 ∧ r.1 30 i = Int32.ofNat t.2.1 ∧ r.1 31 i = Int32.ofNat t.2.2
theorem PTB.fk {L : List (Nat × Nat × Nat)} {u : wS} (p : PTB r L) (h : ∀ k, 28 ≤ k → k ≤ 31 → u.1 k = r.1 k) : PTB u L := by
  unfold PTB at *
  rw [h 28 (by decide) (by decide), h 29 (by decide) (by decide), h 30 (by decide) (by decide), h 31 (by decide) (by decide)]
  exact p
theorem pair_E {L : List (Nat × Nat × Nat)} (p : PTB r L) (hL : L.length < 84) {kd a b : Nat} : Tot (wX5_add (Int32.ofNat kd) (Int32.ofNat a) (Int32.ofNat b) r) (fun u => FK 28 31 r u ∧ PTB u (L ++ [(kd, a, b)])) := by
  have e84 : (84 : Int32).toInt = 84 := rfl
  have n4 : ∀ (u : wS) (k c : Nat) (v : Int32), k ≠ 28 → (wupI u k c v).1 28 = u.1 28 := fun u k c v h => wupI_n (Ne.symm h)
  unfold wX5_add wpfI
  rw [isOutside_E, p.1, if_pos (by rw [t_on (by omega)]; omega), t_sbe, qi0, stI_o (by omega) (by omega), t_sbe, n4 _ _ _ _ (by decide), p.1, stI_o (by omega) (by omega), t_sbe, n4 _ _ _ _ (by decide), n4 _ _ _ _ (by decide), p.1, stI_o (by omega) (by omega), t_sbe, n4 _ _ _ _ (by decide), n4 _ _ _ _ (by decide), n4 _ _ _ _ (by decide), p.1, t_sbe, o_1]
  refine t_some ⟨(FK_I (by decide) (by decide)).trans ((FK_I (by decide) (by decide)).trans ((FK_I (by decide) (by decide)).trans (FK_I (by decide) (by decide)))), ?_, fun i t h => ?_⟩
  · rw [upI_at, if_pos rfl, List.length_append]
    rfl
  · rw [wupI_n (show 29 ≠ 28 by decide), wupI_n (show 29 ≠ 31 by decide), wupI_n (show 29 ≠ 30 by decide), upI_at, wupI_n (show 30 ≠ 28 by decide), wupI_n (show 30 ≠ 31 by decide), upI_at, wupI_n (show 30 ≠ 29 by decide), wupI_n (show 31 ≠ 28 by decide), upI_at, wupI_n (show 31 ≠ 30 by decide), wupI_n (show 31 ≠ 29 by decide)]
    rcases get_app h with ⟨h1, h2⟩ | ⟨h1, h2⟩
    · rw [if_neg (by omega), if_neg (by omega), if_neg (by omega)]
      exact p.2 i t h2
    · rw [if_pos h1, if_pos h1, if_pos h1, h2]
      exact ⟨rfl, rfl, rfl⟩
theorem fill_E {g : Nat → Nat} (h16 : ∀ kd, kd < 3 → s.1 16 kd = Int32.ofNat (g kd) ∧ g kd ≤ 8) : Tot (wX5_fill 15 s) (fun r => FK 28 31 s r ∧ PTB r (pal g 3)) := by
  have mn : ∀ (r : wS) kd, FK 28 31 s r → kd < 3 → wX0_manyOf 15 (Int32.ofNat kd) r = some (Int32.ofNat (g kd)) := fun r kd h hk => by
    unfold wX0_manyOf
    rw [at_o (k := 15 + 1) (n := 3) rfl (by omega) (by omega), t_sbe, h.1 (15 + 1) (by omega)]
    exact congrArg some (h16 kd hk).1
  have row : ∀ kd a (L : List (Nat × Nat × Nat)) r, kd < 3 → a < g kd → L.length + (g kd - (a + 1)) ≤ 84 → FK 28 31 s r → PTB r L → Tot (wX5_fill_h28 15 (Int32.ofNat kd) (Int32.ofNat a) wFuel (Int32.ofNat (a + 1)) r) (fun u => FK 28 31 s u ∧ PTB u (L ++ prw kd a (g kd - (a + 1)))) := by
    intro kd a L r hk ha hL fr pr
    have g8 := (h16 kd hk).2
    refine loop_N (L := fun n (p : Int32 × wS) => wX5_fill_h28 15 (Int32.ofNat kd) (Int32.ofNat a) n p.1 p.2) (N := g kd - (a + 1)) (I := fun c p => p.1 = Int32.ofNat (a + 1 + c) ∧ FK 28 31 s p.2 ∧ PTB p.2 (L ++ prw kd a c)) (x := (Int32.ofNat (a + 1), r)) (by omega) ⟨rfl, fr, by show PTB r (L ++ []); rw [List.append_nil]; exact pr⟩ (fun n c p hc hI => ?_) (fun n p hI => ?_)
    · obtain ⟨y, u⟩ := p
      obtain ⟨ea, fu, pu⟩ := hI
      dsimp only at ea fu pu ⊢
      subst ea
      obtain ⟨u2, e2, f2, p2⟩ := pair_E pu (by rw [List.length_append, prw_n]; omega) (kd := kd) (a := a) (b := a + 1 + c)
      rw [wX5_fill_h28, mn u kd fu hk, t_sbe, if_pos ((o_lt (by omega) (by omega)).2 (by omega)), e2, t_sbe, o_1]
      exact ⟨(Int32.ofNat (a + 1 + c + 1), u2), rfl, rfl, fu.trans f2, by rw [List.append_assoc] at p2; exact p2⟩
    · obtain ⟨y, u⟩ := p
      obtain ⟨ea, fu, pu⟩ := hI
      dsimp only at ea fu pu ⊢
      subst ea
      rw [wX5_fill_h28, mn u kd fu hk, t_sbe, if_neg (fun c => by have := (o_lt (by omega) (by omega)).1 c; omega)]
      exact t_some ⟨fu, pu⟩
  have kin : ∀ kd (L : List (Nat × Nat × Nat)) r, kd < 3 → L.length ≤ 56 → FK 28 31 s r → PTB r L → Tot (wX5_fill_h14 15 (Int32.ofNat kd) wFuel 0 r) (fun u => FK 28 31 s u ∧ PTB u (L ++ pkd kd (g kd) (g kd))) := by
    intro kd L r hk hL fr pr
    have g8 := (h16 kd hk).2
    refine loop_N (L := fun n (p : Int32 × wS) => wX5_fill_h14 15 (Int32.ofNat kd) n p.1 p.2) (N := g kd) (I := fun a p => p.1 = Int32.ofNat a ∧ FK 28 31 s p.2 ∧ PTB p.2 (L ++ pkd kd (g kd) a)) (x := (0, r)) (by omega) ⟨rfl, fr, by show PTB r (L ++ []); rw [List.append_nil]; exact pr⟩ (fun n a p ha hI => ?_) (fun n p hI => ?_)
    · obtain ⟨y, u⟩ := p
      obtain ⟨ea, fu, pu⟩ := hI
      dsimp only at ea fu pu ⊢
      subst ea
      have b := (pnn_28 (g kd) (by omega)).1 a ha
      obtain ⟨u2, e2, f2, p2⟩ := row kd a _ u hk ha (by rw [List.length_append, pkd_n]; omega) fu pu
      rw [wX5_fill_h14, mn u kd fu hk, t_sbe, if_pos ((o_lt (by omega) (by omega)).2 ha), o_1, e2, t_sbe]
      exact ⟨(Int32.ofNat (a + 1), u2), rfl, rfl, f2, by rw [List.append_assoc] at p2; exact p2⟩
    · obtain ⟨y, u⟩ := p
      obtain ⟨ea, fu, pu⟩ := hI
      dsimp only at ea fu pu ⊢
      subst ea
      rw [wX5_fill_h14, mn u kd fu hk, t_sbe, if_neg (fun c => by have := (o_lt (by omega) (by omega)).1 c; omega)]
      exact t_some ⟨fu, pu⟩
  unfold wX5_fill wpfI
  rw [t_sbe]
  refine t_bind (P := fun r => FK 28 31 s r ∧ PTB r (pal g 3)) ?_ (fun r h => t_some h)
  refine loop_N (L := fun n (p : Int32 × wS) => wX5_fill_h7 15 n p.1 p.2) (N := 3) (I := fun kd p => p.1 = Int32.ofNat kd ∧ FK 28 31 s p.2 ∧ PTB p.2 (pal g kd)) (x := (0, wupI s 28 3 0)) (by omega) ⟨rfl, FK_I (by decide) (by decide), ?_, fun i t h => by cases h⟩ (fun n kd p hk hI => ?_) (fun n p hI => ?_)
  · show (wupI s 28 3 0).1 28 3 = _
    rw [upI_at, if_pos rfl]
    rfl
  · obtain ⟨y, u⟩ := p
    obtain ⟨ea, fu, pu⟩ := hI
    dsimp only at ea fu pu ⊢
    subst ea
    have pn := pal_n (g := g) (kd := kd) (fun j hj => (h16 j (by omega)).2)
    obtain ⟨u2, e2, f2, p2⟩ := kin kd _ u hk (by omega) fu pu
    rw [wX5_fill_h7, if_pos (show Int32.ofNat kd < 3 from (o_lt (a := kd) (b := 3) (by omega) (by omega)).2 hk), e2, t_sbe, o_1]
    exact ⟨(Int32.ofNat (kd + 1), u2), rfl, rfl, f2, p2⟩
  · obtain ⟨y, u⟩ := p
    obtain ⟨ea, fu, pu⟩ := hI
    dsimp only at ea fu pu ⊢
    subst ea
    rw [wX5_fill_h7, if_neg (by decide)]
    exact t_some ⟨fu, pu⟩
/-- the reference's row of PAIRS -/
noncomputable def PU (r : wS) (L : List (Nat × Nat × Nat)) : Prop := r.1 152 33 = Int32.ofNat L.length ∧ ∀ i t, L[i]? = some t → r.1 168 (3 * i) = Int32.ofNat t.1 ∧ r.1 168 (3 * i + 1) = Int32.ofNat t.2.1 ∧ r.1 168 (3 * i + 2) = Int32.ofNat t.2.2
/-- what gathering writes -/
noncomputable def GK (s r : wS) : Prop := (∀ k b, k ≠ 168 → ¬ (k = 152 ∧ b = 33) → r.1 k b = s.1 k b) ∧ r.2 = s.2
theorem GK.refl : GK s s := ⟨fun _ _ _ _ => rfl, rfl⟩
theorem GK.trans {t : wS} (a : GK s r) (b : GK r t) : GK s t := ⟨fun k c h1 h2 => (b.1 k c h1 h2).trans (a.1 k c h1 h2), b.2.trans a.2⟩
theorem GK.f1 (a : GK s r) : r.1 163 = s.1 163 := funext fun b => a.1 163 b (by decide) (by omega)
theorem GK.rc (a : GK s r) (c : RCH x f s) : RCH x f r := c.go a.f1 a.2
theorem pairU_E {L : List (Nat × Nat × Nat)} (p : PU r L) (hL : L.length < 84) {kd a b : Nat} : ∃ u, (∀ F : wS → Option wS, ((wstI r 168 252 (3 * (r.1 152 33)) (Int32.ofNat kd)).bind fun s7 => (wstI s7 168 252 ((3 * (s7.1 152 33)) + 1) (Int32.ofNat a)).bind fun s8 => (wstI s8 168 252 ((3 * (s8.1 152 33)) + 2) (Int32.ofNat b)).bind fun s9 => (wpfI s9 152 33 ((s9.1 152 33) + 1)).bind F) = F u) ∧ GK r u ∧ PU u (L ++ [(kd, a, b)]) := by
  obtain ⟨p1, p2⟩ := p
  have n4 : ∀ (u : wS) (c : Nat) (v : Int32), (wupI u 168 c v).1 152 = u.1 152 := fun u c v => wupI_n (by decide)
  have i0 : ∀ m : Nat, (3 : Int32) * Int32.ofNat m = Int32.ofNat (3 * m) := fun m => o_mul (a := 3)
  have i2 : ∀ m : Nat, Int32.ofNat m + 2 = Int32.ofNat (m + 2) := fun m => o_add (b := 2)
  have at_ : ∀ c, (wupI (wupI (wupI (wupI r 168 (3 * L.length) (Int32.ofNat kd)) 168 (3 * L.length + 1) (Int32.ofNat a)) 168 (3 * L.length + 2) (Int32.ofNat b)) 152 33 (Int32.ofNat (L.length + 1))).1 168 c = if c = 3 * L.length + 2 then Int32.ofNat b else if c = 3 * L.length + 1 then Int32.ofNat a else if c = 3 * L.length then Int32.ofNat kd else r.1 168 c := fun c => by
    rw [wupI_n (by decide), upI_at, upI_at, upI_at]
  refine ⟨wupI (wupI (wupI (wupI r 168 (3 * L.length) (Int32.ofNat kd)) 168 (3 * L.length + 1) (Int32.ofNat a)) 168 (3 * L.length + 2) (Int32.ofNat b)) 152 33 (Int32.ofNat (L.length + 1)), fun F => ?_, ⟨fun k b h1 h2 => ?_, rfl⟩, ?_, fun i t h => ?_⟩
  · unfold wpfI
    rw [p1, i0, stI_o (by omega) (by omega), t_sbe, n4, p1, i0, o_1, stI_o (by omega) (by omega), t_sbe, n4, n4, p1, i0, i2, stI_o (by omega) (by omega), t_sbe, n4, n4, n4, p1, t_sbe, o_1]
  · by_cases c : k = 152
    · subst c
      rw [upI_at, if_neg (fun h => h2 ⟨rfl, h⟩), n4, n4, n4]
    · rw [wupI_n c, wupI_n h1, wupI_n h1, wupI_n h1]
  · rw [upI_at, if_pos rfl, List.length_append]
    rfl
  · rw [at_, at_, at_]
    rcases get_app h with ⟨h1, h2⟩ | ⟨h1, h2⟩
    · rw [if_neg (by omega), if_neg (by omega), if_neg (by omega), if_neg (by omega), if_neg (by omega), if_neg (by omega), if_neg (by omega), if_neg (by omega), if_neg (by omega)]
      exact p2 i t h2
    · subst h1
      rw [if_neg (show ¬ 3 * L.length = 3 * L.length + 2 by omega), if_neg (show ¬ 3 * L.length = 3 * L.length + 1 by omega), if_pos rfl, if_neg (show ¬ 3 * L.length + 1 = 3 * L.length + 2 by omega), if_pos rfl, if_pos rfl, h2]
      exact ⟨rfl, rfl, rfl⟩
theorem gathers_E (hf : s.1 163 = f) (cf : CFt f) : Tot (wX11_gathers s) (fun r => GK s r ∧ PU r (pal (nk f) 3)) := by
  have g8 := fun kd (hk : kd < 3) => (cf kd hk).2.2
  have ld : ∀ (r : wS) kd, GK s r → kd < 3 → wldI r 163 262 (Int32.ofNat kd) = some (Int32.ofNat (nk f kd)) := fun r kd h hk => by
    rw [ldI_o (by omega) (by omega), h.f1, hf]
    exact congrArg some (cf kd hk).1
  have row : ∀ kd a (L : List (Nat × Nat × Nat)) r, kd < 3 → a < nk f kd → L.length + (nk f kd - (a + 1)) ≤ 84 → GK s r → PU r L → Tot (wX11_gathers_h28 (Int32.ofNat kd) (Int32.ofNat a) wFuel (Int32.ofNat (a + 1)) r) (fun u => GK s u ∧ PU u (L ++ prw kd a (nk f kd - (a + 1)))) := by
    intro kd a L r hk ha hL fr pr
    have g8 := g8 kd hk
    refine loop_N (L := fun n (p : Int32 × wS) => wX11_gathers_h28 (Int32.ofNat kd) (Int32.ofNat a) n p.1 p.2) (N := nk f kd - (a + 1)) (I := fun c p => p.1 = Int32.ofNat (a + 1 + c) ∧ GK s p.2 ∧ PU p.2 (L ++ prw kd a c)) (x := (Int32.ofNat (a + 1), r)) (by omega) ⟨rfl, fr, by show PU r (L ++ []); rw [List.append_nil]; exact pr⟩ (fun n c p hc hI => ?_) (fun n p hI => ?_)
    · obtain ⟨y, u⟩ := p
      obtain ⟨ea, fu, pu⟩ := hI
      dsimp only at ea fu pu ⊢
      subst ea
      obtain ⟨u2, e2, f2, p2⟩ := pairU_E pu (by rw [List.length_append, prw_n]; omega) (kd := kd) (a := a) (b := a + 1 + c)
      rw [wX11_gathers_h28, ld u kd fu hk, t_sbe, if_pos ((o_lt (by omega) (by omega)).2 (by omega)), e2, o_1]
      exact ⟨(Int32.ofNat (a + 1 + c + 1), u2), rfl, rfl, fu.trans f2, by rw [List.append_assoc] at p2; exact p2⟩
    · obtain ⟨y, u⟩ := p
      obtain ⟨ea, fu, pu⟩ := hI
      dsimp only at ea fu pu ⊢
      subst ea
      rw [wX11_gathers_h28, ld u kd fu hk, t_sbe, if_neg (fun c => by have := (o_lt (by omega) (by omega)).1 c; omega)]
      exact t_some ⟨fu, pu⟩
  have kin : ∀ kd (L : List (Nat × Nat × Nat)) r, kd < 3 → L.length ≤ 56 → GK s r → PU r L → Tot (wX11_gathers_h14 (Int32.ofNat kd) wFuel 0 r) (fun u => GK s u ∧ PU u (L ++ pkd kd (nk f kd) (nk f kd))) := by
    intro kd L r hk hL fr pr
    have g8 := g8 kd hk
    refine loop_N (L := fun n (p : Int32 × wS) => wX11_gathers_h14 (Int32.ofNat kd) n p.1 p.2) (N := nk f kd) (I := fun a p => p.1 = Int32.ofNat a ∧ GK s p.2 ∧ PU p.2 (L ++ pkd kd (nk f kd) a)) (x := (0, r)) (by omega) ⟨rfl, fr, by show PU r (L ++ []); rw [List.append_nil]; exact pr⟩ (fun n a p ha hI => ?_) (fun n p hI => ?_)
    · obtain ⟨y, u⟩ := p
      obtain ⟨ea, fu, pu⟩ := hI
      dsimp only at ea fu pu ⊢
      subst ea
      have b := (pnn_28 (nk f kd) (by omega)).1 a ha
      obtain ⟨u2, e2, f2, p2⟩ := row kd a _ u hk ha (by rw [List.length_append, pkd_n]; omega) fu pu
      rw [wX11_gathers_h14, ld u kd fu hk, t_sbe, if_pos ((o_lt (by omega) (by omega)).2 ha), o_1, e2, t_sbe]
      exact ⟨(Int32.ofNat (a + 1), u2), rfl, rfl, f2, by rw [List.append_assoc] at p2; exact p2⟩
    · obtain ⟨y, u⟩ := p
      obtain ⟨ea, fu, pu⟩ := hI
      dsimp only at ea fu pu ⊢
      subst ea
      rw [wX11_gathers_h14, ld u kd fu hk, t_sbe, if_neg (fun c => by have := (o_lt (by omega) (by omega)).1 c; omega)]
      exact t_some ⟨fu, pu⟩
  unfold wX11_gathers wpfI
  rw [t_sbe]
  refine t_bind (P := fun r => GK s r ∧ PU r (pal (nk f) 3)) ?_ (fun r h => t_some h)
  refine loop_N (L := fun n (p : Int32 × wS) => wX11_gathers_h7 n p.1 p.2) (N := 3) (I := fun kd p => p.1 = Int32.ofNat kd ∧ GK s p.2 ∧ PU p.2 (pal (nk f) kd)) (x := (0, wupI s 152 33 0)) (by omega) ⟨rfl, ⟨fun k b _ h2 => ?_, rfl⟩, ?_, fun i t h => by cases h⟩ (fun n kd p hk hI => ?_) (fun n p hI => ?_)
  · show (wupI s 152 33 0).1 k b = _
    by_cases c : k = 152
    · subst c
      rw [upI_at, if_neg (fun h => h2 ⟨rfl, h⟩)]
    · rw [wupI_n c]
  · show (wupI s 152 33 0).1 152 33 = _
    rw [upI_at, if_pos rfl]
    rfl
  · obtain ⟨y, u⟩ := p
    obtain ⟨ea, fu, pu⟩ := hI
    dsimp only at ea fu pu ⊢
    subst ea
    have pn := pal_n (g := nk f) (kd := kd) (fun j hj => g8 j (by omega))
    obtain ⟨u2, e2, f2, p2⟩ := kin kd _ u hk (by omega) fu pu
    rw [wX11_gathers_h7, if_pos (show Int32.ofNat kd < 3 from (o_lt (a := kd) (b := 3) (by omega) (by omega)).2 hk), e2, t_sbe, o_1]
    exact ⟨(Int32.ofNat (kd + 1), u2), rfl, rfl, f2, p2⟩
  · obtain ⟨y, u⟩ := p
    obtain ⟨ea, fu, pu⟩ := hI
    dsimp only at ea fu pu ⊢
    subst ea
    rw [wX11_gathers_h7, if_neg (by decide)]
    exact t_some ⟨fu, pu⟩
/-- with p rather than q, of a KIND -/
noncomputable def nrb (x : lC) (f : Nat → Int32) (kd p q w : Nat) : Bool := !decide (FVx x f (Int32.ofNat kd) q (thn f kd w) < FVx x f (Int32.ofNat kd) p (thn f kd w))
/-- both LEFT -/
noncomputable def lf1 (x : lC) (f : Nat → Int32) (P : Nat → Bool) (t : Nat × Nat × Nat) : Nat := cnt (fun w => P w && nrb x f t.1 t.2.1 t.2.2 w) (nW f)
noncomputable def lf2 (x : lC) (f : Nat → Int32) (P : Nat → Bool) (t : Nat × Nat × Nat) : Nat := cnt (fun w => P w && nrb x f t.1 t.2.2 t.2.1 w) (nW f)
/-- a PAIR of the COURT -/
noncomputable def PVA (f : Nat → Int32) (t : Nat × Nat × Nat) : Prop := t.1 < 3 ∧ t.2.1 < t.2.2 ∧ t.2.2 < nk f t.1
theorem PV_of {t : Nat × Nat × Nat} {i : Nat} (h : (pal (nk f) 3)[i]? = some t) : PVA f t := pal_m (List.mem_of_getElem? h)
theorem pal_84 (cf : CFt f) : (pal (nk f) 3).length ≤ 84 := pal_n (g := nk f) (kd := 3) (fun j hj => (cf j hj).2.2)
theorem near10_E (q : QS l x s) (p : PTB s (pal (nk (s.1 163)) 3)) {i : Nat} {t : Nat × Nat × Nat} (h : (pal (nk (s.1 163)) 3)[i]? = some t) : wX10_at 29 (Int32.ofNat i) s = some (Int32.ofNat t.1) ∧ wX10_at 30 (Int32.ofNat i) s = some (Int32.ofNat t.2.1) ∧ wX10_at 31 (Int32.ofNat i) s = some (Int32.ofNat t.2.2) ∧ wX5_nearForFirst (44 + 10 * l) (Int32.ofNat i) s = some (nb2 (FVx x (s.1 163) (Int32.ofNat t.1)) t.2.1 t.2.2 (nk (s.1 163) t.1)) ∧ wX5_nearForSecond (44 + 10 * l) (Int32.ofNat i) s = some (nb2 (FVx x (s.1 163) (Int32.ofNat t.1)) t.2.2 t.2.1 (nk (s.1 163) t.1)) := by
  have cf := q.2.2.2.2.2
  have l84 := pal_84 cf
  obtain ⟨v1, v2, v3⟩ := PV_of h
  have il : i < (pal (nk (s.1 163)) 3).length := (List.getElem?_eq_some_iff.1 h).1
  obtain ⟨h1, h2, h3⟩ := p.2 i t h
  have a1 : wX10_at 29 (Int32.ofNat i) s = some (Int32.ofNat t.1) := by rw [at_o (n := 84) rfl (by omega) (by omega), h1]
  have a2 : wX10_at 30 (Int32.ofNat i) s = some (Int32.ofNat t.2.1) := by rw [at_o (n := 84) rfl (by omega) (by omega), h2]
  have a3 : wX10_at 31 (Int32.ofNat i) s = some (Int32.ofNat t.2.2) := by rw [at_o (n := 84) rfl (by omega) (by omega), h3]
  refine ⟨a1, a2, a3, ?_, ?_⟩
  · unfold wX5_nearForFirst
    rw [a1, t_sbe, a2, t_sbe, a3, t_sbe, nearOf_E q.2.1 q.2.2.2.2.1 cf v1 (by omega) v3, t_sbe]
  · unfold wX5_nearForSecond
    rw [a1, t_sbe, a3, t_sbe, a2, t_sbe, nearOf_E q.2.1 q.2.2.2.2.1 cf v1 v3 (by omega), t_sbe]
theorem nrb_b (cf : CFt f) {kd p q w : Nat} (hk : kd < 3) (hw : w < nW f) : bit (nb2 (FVx x f (Int32.ofNat kd)) p q (nk f kd)) (thn f kd w) = nrb x f kd p q w := by
  have n8 := (cf kd hk).2.2
  have tl := thn_lt cf hk hw
  rw [near_b n8 (by omega), decide_eq_true tl, Bool.true_and]
  rfl
/-- both LEFT, by the class -/
theorem left10_E (q : QS l x s) (p : PTB s (pal (nk (s.1 163)) 3)) {k1 : Nat} (hk : k1 = 35 ∨ k1 = 37) {P : Nat → Bool} (t1 : TLY k1 (s.1 163) P (nW (s.1 163)) s) {i : Nat} {t : Nat × Nat × Nat} (h : (pal (nk (s.1 163)) 3)[i]? = some t) : wX5_leftForFirst (44 + 10 * l) k1 (Int32.ofNat i) s = some (Int32.ofNat (lf1 x (s.1 163) P t)) ∧ wX5_leftForSecond (44 + 10 * l) k1 (Int32.ofNat i) s = some (Int32.ofNat (lf2 x (s.1 163) P t)) := by
  have cf := q.2.2.2.2.2
  have w5 := cf.w.1
  obtain ⟨v1, v2, v3⟩ := PV_of h
  have n8 := (cf t.1 v1).2.2
  obtain ⟨a1, -, -, b1, b2⟩ := near10_E q p h
  have t8 : ∀ w, w < nW (s.1 163) → thn (s.1 163) t.1 w < 8 := fun w hw => by
    have := thn_lt cf v1 hw
    omega
  constructor
  · unfold wX5_leftForFirst
    rw [a1, t_sbe, b1, t_sbe, withAny_E hk t1 w5 v1 t8, t_sbe]
    exact congrArg some (congrArg Int32.ofNat (cnt_cg (fun w hw => by rw [nrb_b cf v1 hw])))
  · unfold wX5_leftForSecond
    rw [a1, t_sbe, b2, t_sbe, withAny_E hk t1 w5 v1 t8, t_sbe]
    exact congrArg some (congrArg Int32.ofNat (cnt_cg (fun w hw => by rw [nrb_b cf v1 hw])))
/-- a PAIR leaves a WORLD, by the reference -/
theorem leaves_E (c : RCH x f r) (p : PU r (pal (nk f) 3)) {i w : Nat} {t : Nat × Nat × Nat} (h : (pal (nk f) 3)[i]? = some t) (hw : w < nW f) : wX11_leaves (Int32.ofNat i) 0 (Int32.ofNat w) r = some (if nrb x f t.1 t.2.1 t.2.2 w = true then 1 else 0) ∧ wX11_leaves (Int32.ofNat i) 1 (Int32.ofNat w) r = some (if nrb x f t.1 t.2.2 t.2.1 w = true then 1 else 0) := by
  have l84 := pal_84 c.2.1
  obtain ⟨v1, v2, v3⟩ := PV_of h
  have il : i < (pal (nk f) 3).length := (List.getElem?_eq_some_iff.1 h).1
  obtain ⟨h1, h2, h3⟩ := p.2 i t h
  have i0 : (3 : Int32) * Int32.ofNat i = Int32.ofNat (3 * i) := o_mul (a := 3)
  have i2 : Int32.ofNat (3 * i) + 2 = Int32.ofNat (3 * i + 2) := o_add (b := 2)
  have i11 : Int32.ofNat (3 * i + 2) - 1 = Int32.ofNat (3 * i + 1) := o_sub (a := 3 * i + 2) (b := 1) (by omega)
  have i20 : Int32.ofNat (3 * i + 2) - 0 = Int32.ofNat (3 * i + 2) := o_sub (a := 3 * i + 2) (b := 0) (by omega)
  have wr : ∀ p q, wrtZ (if FVx x f (Int32.ofNat t.1) q (thn f t.1 w) < FVx x f (Int32.ofNat t.1) p (thn f t.1 w) then 0 else 1) = some (if nrb x f t.1 p q w = true then 1 else 0) := fun p q => by
    unfold nrb
    by_cases d : FVx x f (Int32.ofNat t.1) q (thn f t.1 w) < FVx x f (Int32.ofNat t.1) p (thn f t.1 w)
    · rw [if_pos d, decide_eq_true d]
      rfl
    · rw [if_neg d, decide_eq_false d]
      rfl
  constructor
  · unfold wX11_leaves
    rw [i0, i2, i20, o_1, o_z, ldI_o (by omega) (by omega), t_sbe, ldI_o (by omega) (by omega), t_sbe, ldI_o (by omega) (by omega), t_sbe, h1, h2, h3, isNearer_E c.1 c.2.1 c.2.2.2.2 v1 (by omega) v3 hw, t_sbe, wr]
  · unfold wX11_leaves
    rw [i0, i2, i11, o_1, o_1, ldI_o (by omega) (by omega), t_sbe, ldI_o (by omega) (by omega), t_sbe, ldI_o (by omega) (by omega), t_sbe, h1, h2, h3, isNearer_E c.1 c.2.1 c.2.2.2.2 v1 v3 (by omega) hw, t_sbe, wr]
/-- what asking writes -/
noncomputable def AK (s r : wS) : Prop := (∀ k b, ¬ (k = 152 ∧ (b = 34 ∨ b = 35)) → r.1 k b = s.1 k b) ∧ r.2 = s.2
theorem AK.refl : AK s s := ⟨fun _ _ _ => rfl, rfl⟩
theorem AK.trans {t : wS} (a : AK s r) (b : AK r t) : AK s t := ⟨fun k c h1 => (b.1 k c h1).trans (a.1 k c h1), b.2.trans a.2⟩
theorem AK.f1 (a : AK s r) : r.1 163 = s.1 163 := funext fun b => a.1 163 b (by omega)
theorem AK.rc (a : AK s r) (c : RCH x f s) : RCH x f r := c.go a.f1 a.2
theorem AK.pu {L : List (Nat × Nat × Nat)} (a : AK s r) (p : PU s L) : PU r L := ⟨by rw [a.1 152 33 (by omega)]; exact p.1, fun i t h => by
  rw [a.1 168 _ (by omega), a.1 168 _ (by omega), a.1 168 _ (by omega)]
  exact p.2 i t h⟩
theorem AK.kw {K : Nat → Bool} {n : Nat} (a : AK s r) (k : KWR f K s n) : KWR f K r n := fun w hw => by
  rw [a.1 165 w (by omega)]
  exact k w hw
theorem GK.kw {K : Nat → Bool} {n : Nat} (a : GK s r) (k : KWR f K s n) : KWR f K r n := fun w hw => by
  rw [a.1 165 w (by decide) (by omega)]
  exact k w hw
theorem AK_1 {b : Nat} {v : Int32} (h : b = 34 ∨ b = 35) : AK s (wupI s 152 b v) := ⟨fun k c hn => by
  by_cases e : k = 152
  · subst e
    rw [upI_at, if_neg (fun q => hn ⟨rfl, by rw [q]; exact h⟩)]
  · rw [wupI_n e], rfl⟩
theorem asks_E (c : RCH x f s) (p : PU s (pal (nk f) 3)) {K : Nat → Bool} (k : KWR f K s (nW f)) {i : Nat} {t : Nat × Nat × Nat} (h : (pal (nk f) 3)[i]? = some t) : Tot (wX11_asks (Int32.ofNat i) s) (fun r => AK s r ∧ r.1 152 34 = Int32.ofNat (lf1 x f K t) ∧ r.1 152 35 = Int32.ofNat (lf2 x f K t)) := by
  have w5 := c.2.1.w.1
  unfold wX11_asks wpfI
  rw [t_sbe, t_sbe]
  refine t_bind (P := fun r => AK s r ∧ r.1 152 34 = Int32.ofNat (lf1 x f K t) ∧ r.1 152 35 = Int32.ofNat (lf2 x f K t)) ?_ (fun r h => t_some h)
  refine loop_N (L := fun n (p : Int32 × wS) => wX11_asks_h12 (Int32.ofNat i) n p.1 p.2) (N := nW f) (I := fun w p => p.1 = Int32.ofNat w ∧ AK s p.2 ∧ p.2.1 152 34 = Int32.ofNat (cnt (fun w => K w && nrb x f t.1 t.2.1 t.2.2 w) w) ∧ p.2.1 152 35 = Int32.ofNat (cnt (fun w => K w && nrb x f t.1 t.2.2 t.2.1 w) w)) (x := (0, wupI (wupI s 152 34 0) 152 35 0)) (by omega) ⟨rfl, (AK_1 (Or.inl rfl)).trans (AK_1 (Or.inr rfl)), ?_, ?_⟩ (fun n w p' hw hI => ?_) (fun n p' hI => ?_)
  · show (wupI (wupI s 152 34 0) 152 35 0).1 152 34 = _
    rw [upI_at, if_neg (by decide), upI_at, if_pos rfl]
    rfl
  · show (wupI (wupI s 152 34 0) 152 35 0).1 152 35 = _
    rw [upI_at, if_pos rfl]
    rfl
  · obtain ⟨y, u⟩ := p'
    obtain ⟨ea, au, u1, u2⟩ := hI
    dsimp only at ea au u1 u2 ⊢
    subst ea
    have cu := au.rc c
    rw [wX11_asks_h12, cu.nw, t_sbe, if_pos ((o_lt (by omega) (by omega)).2 hw), ldI_o (by omega) (by omega), t_sbe, (au.kw k) w hw]
    cases kk : K w
    · unfold wX11_asks_j80
      rw [b_f, qi0, o_1]
      refine ⟨(Int32.ofNat (w + 1), u), rfl, rfl, au, ?_, ?_⟩
      · show u.1 152 34 = _
        rw [u1, cnt_f (n := w) (by rw [kk, Bool.false_and])]
      · show u.1 152 35 = _
        rw [u2, cnt_f (n := w) (by rw [kk, Bool.false_and])]
    · have e1 : cnt (fun w => K w && nrb x f t.1 t.2.1 t.2.2 w) (w + 1) = cnt (fun w => K w && nrb x f t.1 t.2.1 t.2.2 w) w + (K w && nrb x f t.1 t.2.1 t.2.2 w).toNat := rfl
      have e2 : cnt (fun w => K w && nrb x f t.1 t.2.2 t.2.1 w) (w + 1) = cnt (fun w => K w && nrb x f t.1 t.2.2 t.2.1 w) w + (K w && nrb x f t.1 t.2.2 t.2.1 w).toNat := rfl
      rw [kk, Bool.true_and] at e1 e2
      -- the first, then the second
      have two : ∀ (u' : wS) (v : Int32), AK s u' → u'.1 152 34 = Int32.ofNat (cnt (fun w => K w && nrb x f t.1 t.2.1 t.2.2 w) (w + 1)) → u'.1 152 35 = Int32.ofNat (cnt (fun w => K w && nrb x f t.1 t.2.2 t.2.1 w) w) → v = Int32.ofNat (nrb x f t.1 t.2.2 t.2.1 w).toNat → ∃ x' : Int32 × wS, wX11_asks_j76 (wX11_asks_h12 (Int32.ofNat i) n) (Int32.ofNat i) (Int32.ofNat w) (u'.1 152 35) v u' = wX11_asks_h12 (Int32.ofNat i) n x'.1 x'.2 ∧ x'.1 = Int32.ofNat (w + 1) ∧ AK s x'.2 ∧ x'.2.1 152 34 = Int32.ofNat (cnt (fun w => K w && nrb x f t.1 t.2.1 t.2.2 w) (w + 1)) ∧ x'.2.1 152 35 = Int32.ofNat (cnt (fun w => K w && nrb x f t.1 t.2.2 t.2.1 w) (w + 1)) := fun u' v a1 a2 a3 hv => by
        unfold wX11_asks_j76 wX11_asks_j80 wpfI
        rw [t_sbe, o_1, a3, hv, o_add]
        refine ⟨(Int32.ofNat (w + 1), wupI u' 152 35 (Int32.ofNat (cnt (fun w => K w && nrb x f t.1 t.2.2 t.2.1 w) w + (nrb x f t.1 t.2.2 t.2.1 w).toNat))), rfl, rfl, a1.trans (AK_1 (Or.inr rfl)), ?_, ?_⟩
        · show (wupI u' 152 35 _).1 152 34 = _
          rw [upI_at, if_neg (by decide), a2]
        · show (wupI u' 152 35 _).1 152 35 = _
          rw [upI_at, if_pos rfl, e2]
      have one : ∀ v : Int32, v = Int32.ofNat (nrb x f t.1 t.2.1 t.2.2 w).toNat → ∃ x' : Int32 × wS, wX11_asks_j52 (wX11_asks_h12 (Int32.ofNat i) n) (Int32.ofNat i) (Int32.ofNat w) (u.1 152 34) v u = wX11_asks_h12 (Int32.ofNat i) n x'.1 x'.2 ∧ x'.1 = Int32.ofNat (w + 1) ∧ AK s x'.2 ∧ x'.2.1 152 34 = Int32.ofNat (cnt (fun w => K w && nrb x f t.1 t.2.1 t.2.2 w) (w + 1)) ∧ x'.2.1 152 35 = Int32.ofNat (cnt (fun w => K w && nrb x f t.1 t.2.2 t.2.1 w) (w + 1)) := fun v hv => by
        unfold wX11_asks_j52 wpfI
        rw [t_sbe, u1, hv, o_add, ← e1]
        have a2 : AK s (wupI u 152 34 (Int32.ofNat (cnt (fun w => K w && nrb x f t.1 t.2.1 t.2.2 w) (w + 1)))) := au.trans (AK_1 (Or.inl rfl))
        rw [(leaves_E (a2.rc c) (a2.pu p) h hw).2, t_sbe]
        have b34 : (wupI u 152 34 (Int32.ofNat (cnt (fun w => K w && nrb x f t.1 t.2.1 t.2.2 w) (w + 1)))).1 152 34 = Int32.ofNat (cnt (fun w => K w && nrb x f t.1 t.2.1 t.2.2 w) (w + 1)) := by rw [upI_at, if_pos rfl]
        have b35 : (wupI u 152 34 (Int32.ofNat (cnt (fun w => K w && nrb x f t.1 t.2.1 t.2.2 w) (w + 1)))).1 152 35 = Int32.ofNat (cnt (fun w => K w && nrb x f t.1 t.2.2 t.2.1 w) w) := by rw [upI_at, if_neg (by decide), u2]
        cases n2 : nrb x f t.1 t.2.2 t.2.1 w
        · rw [b_f, qi0]
          exact two _ 0 a2 b34 b35 (by rw [n2]; rfl)
        · rw [if_pos rfl, qi1]
          exact two _ 1 a2 b34 b35 (by rw [n2]; rfl)
      rw [if_pos rfl, qi1, (leaves_E cu (au.pu p) h hw).1, t_sbe]
      cases n1 : nrb x f t.1 t.2.1 t.2.2 w
      · rw [b_f, qi0]
        exact one 0 (by rw [n1]; rfl)
      · rw [if_pos rfl, qi1]
        exact one 1 (by rw [n1]; rfl)
  · obtain ⟨y, u⟩ := p'
    obtain ⟨ea, au, u1, u2⟩ := hI
    dsimp only at ea au u1 u2 ⊢
    subst ea
    rw [wX11_asks_h12, (au.rc c).nw, t_sbe, if_neg (fun c => by have := (o_lt (by omega) (by omega)).1 c; omega)]
    exact t_some ⟨au, u1, u2⟩
end PTB
