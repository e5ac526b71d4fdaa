/-! Counting; which ANSWERS are asked for; the class counts the FALSE ones of each WORLD. -/
/-- how many below n -/
noncomputable def cnt (p : Nat → Bool) : Nat → Nat
  | 0 => 0
  | n + 1 => cnt p n + (p n).toNat
theorem cnt_t {p : Nat → Bool} {n : Nat} (h : p n = true) : cnt p (n + 1) = cnt p n + 1 := by
  show cnt p n + (p n).toNat = _
  rw [h]
  rfl
theorem cnt_f {p : Nat → Bool} {n : Nat} (h : p n = false) : cnt p (n + 1) = cnt p n := by
  show cnt p n + (p n).toNat = _
  rw [h]
  rfl
theorem cnt_le {p : Nat → Bool} : ∀ n, cnt p n ≤ n := by
  intro n
  induction n with
  | zero => exact Nat.le_refl 0
  | succ n ih =>
    cases h : p n
    · rw [cnt_f h]
      omega
    · rw [cnt_t h]
      omega
theorem cnt_cg {p q : Nat → Bool} : ∀ {n : Nat}, (∀ i, i < n → p i = q i) → cnt p n = cnt q n := by
  intro n
  induction n with
  | zero => intro _; rfl
  | succ n ih =>
    intro h
    show cnt p n + (p n).toNat = cnt q n + (q n).toNat
    rw [ih (fun i hi => h i (by omega)), h n (by omega)]
theorem cnt_0 {p : Nat → Bool} : ∀ {n : Nat}, (∀ i, i < n → p i = false) → cnt p n = 0 := by
  intro n
  induction n with
  | zero => intro _; rfl
  | succ n ih =>
    intro h
    rw [cnt_f (h n (by omega))]
    exact ih (fun i hi => h i (by omega))
theorem cnt_pos {p : Nat → Bool} : ∀ {n : Nat}, 0 < cnt p n → ∃ i, i < n ∧ p i = true := by
  intro n
  induction n with
  | zero => intro h; exact absurd h (Nat.lt_irrefl 0)
  | succ n ih =>
    intro h
    cases e : p n
    · rw [cnt_f e] at h
      obtain ⟨i, a, b⟩ := ih h
      exact ⟨i, by omega, b⟩
    · exact ⟨n, by omega, e⟩
theorem cnt_some {p : Nat → Bool} : ∀ {n i : Nat}, i < n → p i = true → 0 < cnt p n := by
  intro n
  induction n with
  | zero => intro i h; omega
  | succ n ih =>
    intro i h e
    by_cases c : i = n
    · subst c
      rw [cnt_t e]
      omega
    · have := ih (i := i) (by omega) e
      show 0 < cnt p n + (p n).toNat
      omega
theorem cnt_ext {p : Nat → Bool} {n : Nat} : ∀ {m : Nat}, n ≤ m → (∀ i, n ≤ i → i < m → p i = false) → cnt p m = cnt p n := by
  intro m
  induction m with
  | zero => intro hm _; rw [show n = 0 by omega]
  | succ m ih =>
    intro hm h
    by_cases c : n = m + 1
    · rw [c]
    · rw [cnt_f (h m (by omega) (by omega))]
      exact ih (by omega) (fun i h1 h2 => h i h1 (by omega))
theorem cnt_mono {p q : Nat → Bool} : ∀ {n : Nat}, (∀ i, i < n → p i = true → q i = true) → cnt p n ≤ cnt q n := by
  intro n
  induction n with
  | zero => intro _; exact Nat.le_refl 0
  | succ n ih =>
    intro h
    have := ih (fun i hi => h i (by omega))
    cases e : p n
    · rw [cnt_f e]
      show cnt p n ≤ cnt q n + (q n).toNat
      omega
    · rw [cnt_t e, cnt_t (h n (by omega) e)]
      omega
/-- numbers as ints -/
theorem o_add {a b : Nat} : Int32.ofNat a + Int32.ofNat b = Int32.ofNat (a + b) := (Int32.ofNat_add a b).symm
theorem o_mul {a b : Nat} : Int32.ofNat a * Int32.ofNat b = Int32.ofNat (a * b) := (Int32.ofNat_mul a b).symm
theorem o_sub {a b : Nat} (h : b ≤ a) : Int32.ofNat a - Int32.ofNat b = Int32.ofNat (a - b) := (Int32.ofNat_sub a b h).symm
theorem o_1 {a : Nat} : Int32.ofNat a + 1 = Int32.ofNat (a + 1) := o_add (b := 1)
theorem o_z {a : Nat} : Int32.ofNat a + 0 = Int32.ofNat a := o_add (b := 0)
theorem o_eq {a b : Nat} (ha : a < 2147483648) (hb : b < 2147483648) : Int32.ofNat a = Int32.ofNat b ↔ a = b := by
  refine ⟨fun h => ?_, fun h => by rw [h]⟩
  have := congrArg Int32.toInt h
  rw [t_on ha, t_on hb] at this
  omega
theorem o_lt {a b : Nat} (ha : a < 2147483648) (hb : b < 2147483648) : Int32.ofNat a < Int32.ofNat b ↔ a < b := by
  rw [Int32.lt_iff_toInt_lt, t_on ha, t_on hb]
  omega
theorem stI_o {k n i : Nat} {v : Int32} {s : wS} (h : i < n) (hn : n ≤ 2400) : wstI s k n (Int32.ofNat i) v = some (wupI s k i v) := by
  unfold wstI
  rw [if_neg (t_ix (by rw [t_on (by omega)]; omega) (by rw [t_on (by omega)]; omega)), t_nc (by omega)]
theorem ldI_o {k n i : Nat} {s : wS} (h : i < n) (hn : n ≤ 2400) : wldI s k n (Int32.ofNat i) = some (s.1 k i) := by
  rw [wld_E (by rw [t_on (by omega)]; omega) (by rw [t_on (by omega)]; omega), t_nc (by omega)]
theorem at_o {k n i : Nat} {s : wS} (hk : wln k = n) (hn : n ≤ 2400) (h : i < n) : wX10_at k (Int32.ofNat i) s = some (s.1 k i) := by
  rw [at_E hk hn (by rw [t_on (by omega)]; omega) (by rw [t_on (by omega)]; omega), t_nc (by omega)]
theorem set_o {k n i : Nat} {v : Int32} {s : wS} (hk : wln k = n) (hn : n ≤ 2400) (h : i < n) : wX10_set k (Int32.ofNat i) v s = some (wupI s k i v) := by
  rw [set_E hk hn (by rw [t_on (by omega)]; omega) (by rw [t_on (by omega)]; omega), t_nc (by omega)]
theorem slot_o {kd t : Nat} {s : wS} (hk : kd < 3) (ht : t < 8) : wX10_slot (Int32.ofNat kd) (Int32.ofNat t) s = some (Int32.ofNat (8 * kd + t)) := by
  have : ∀ kd, kd < 3 → ∀ t, t < 8 → (Int32.ofNat kd * 8) + Int32.ofNat t = Int32.ofNat (8 * kd + t) := by decide +kernel
  exact congrArg some (this kd hk t ht)
theorem slot_o0 {t : Nat} {s : wS} (ht : t < 8) : wX10_slot 0 (Int32.ofNat t) s = some (Int32.ofNat (8 * 0 + t)) := slot_o (kd := 0) (by decide) ht
theorem slot_o1 {t : Nat} {s : wS} (ht : t < 8) : wX10_slot 1 (Int32.ofNat t) s = some (Int32.ofNat (8 * 1 + t)) := slot_o (kd := 1) (by decide) ht
theorem slot_o2 {t : Nat} {s : wS} (ht : t < 8) : wX10_slot 2 (Int32.ofNat t) s = some (Int32.ofNat (8 * 2 + t)) := slot_o (kd := 2) (by decide) ht
theorem upI_at {s : wS} {k b c : Nat} {v : Int32} : (wupI s k b v).1 k c = if c = b then v else s.1 k c := by
  rw [wupI_k]
  by_cases h : c = b
  · rw [h, if_pos rfl, updI_s]
  · rw [if_neg h, updI_n h]
/-- a loop to N, whole -/
theorem loop_N {σ β : Type} {L : Nat → σ → Option β} {I : Nat → σ → Prop} {N : Nat} {Q : β → Prop} {x : σ} (hN : N ≤ 1000000) (h : I 0 x) (step : ∀ n i x, i < N → I i x → ∃ x', L (n + 1) x = L n x' ∧ I (i + 1) x') (stop : ∀ n x, I N x → Tot (L (n + 1) x) Q) : Tot (L wFuel x) Q := loop_T (fun n i x hi h => Or.inl (step n i x hi h)) stop wFuel 0 x (Nat.zero_le _) h (wF_b hN)
theorem tot_eq {α : Type} {x : Option α} {c : α} (h : Tot x (fun v => v = c)) : x = some c := by
  obtain ⟨a, e, rfl⟩ := h
  exact e
/-- a loop to N that reads alone -/
theorem loop_P {σ β : Type} {L : Nat → σ → Option β} {I : Nat → σ → Prop} {N : Nat} {c : β} {x : σ} (hN : N ≤ 1000000) (h : I 0 x) (step : ∀ n i x, i < N → I i x → ∃ x', L (n + 1) x = L n x' ∧ I (i + 1) x') (stop : ∀ n x, I N x → L (n + 1) x = some c) : L wFuel x = some c := tot_eq (loop_N (Q := fun v => v = c) hN h step (fun n x hx => ⟨c, stop n x hx, rfl⟩))
/-- only these rows of ints were written -/
noncomputable def FK (a b : Nat) (s r : wS) : Prop := (∀ k, k < a ∨ b < k → r.1 k = s.1 k) ∧ r.2 = s.2
theorem FK.refl {a b : Nat} {s : wS} : FK a b s s := ⟨fun _ _ => rfl, rfl⟩
theorem FK.trans {a b : Nat} {s r t : wS} (h : FK a b s r) (g : FK a b r t) : FK a b s t := ⟨fun k n => (g.1 k n).trans (h.1 k n), g.2.trans h.2⟩
theorem FK.mono {a b a' b' : Nat} {s r : wS} (h : FK a b s r) (h1 : a' ≤ a) (h2 : b ≤ b') : FK a' b' s r := ⟨fun k n => h.1 k (by omega), h.2⟩
theorem FK_I {a b : Nat} {s : wS} {k c : Nat} {v : Int32} (h1 : a ≤ k) (h2 : k ≤ b) : FK a b s (wupI s k c v) := ⟨fun j n => wupI_n (by omega), rfl⟩
theorem bJ_3 {k b : Nat} (h1 : 32 ≤ k) (h2 : k ≤ 43) : bJ k b = true := by
  have e : (Nat.ble 32 k && Nat.ble k 43) = true := by
    simp only [Bool.and_eq_true, Nat.ble_eq]
    omega
  have e2 : Nat.ble 44 k = false := nb_false (by omega)
  unfold bJ bQ bQa
  rw [e, e2]
  rfl
theorem FK.w {a b : Nat} {s r : wS} (h : FK a b s r) (h1 : 32 ≤ a) (h2 : b ≤ 43) : wA bJ s r := by
  intro k c e
  by_cases n : k < a ∨ b < k
  · rw [h.1 k n]
  · rw [bJ_3 (by omega) (by omega)] at e
    cases e
section CF
variable {s : wS} {x : lC} {l : Nat}
theorem FK.qs {a b : Nat} {r : wS} (h : FK a b s r) (h1 : 32 ≤ a) (h2 : b ≤ 43) (q : QS l x s) : QS l x r := QS_w (h.w h1 h2) (fun k _ _ => by rw [h.2]) q
theorem FK.f {a b : Nat} {r : wS} (h : FK a b s r) (h2 : b ≤ 43) : r.1 163 = s.1 163 := h.1 163 (Or.inr (by omega))
theorem empty_E {k n : Nat} (hk : wln k = n) (hn : n ≤ 1000) : Tot (wX10_empty k s) (fun r => FK k k s r ∧ ∀ i, i < n → r.1 k i = 0) := by
  unfold wX10_empty
  refine t_bind (P := fun r => FK k k s r ∧ ∀ i, i < n → r.1 k i = 0) ?_ (fun r h => t_some h)
  refine loop_N (L := fun n (p : Int32 × wS) => wX10_empty_h2 k n p.1 p.2) (N := n) (I := fun i p => p.1 = Int32.ofNat i ∧ FK k k s p.2 ∧ ∀ j, j < i → p.2.1 k j = 0) (x := (0, s)) (by omega) ⟨rfl, FK.refl, fun j h => absurd h (by omega)⟩ (fun m i p hi hI => ?_) (fun m p hI => ?_)
  · obtain ⟨y, r⟩ := p
    obtain ⟨e, fk, z⟩ := hI
    dsimp only at e fk z ⊢
    subst e
    refine ⟨(Int32.ofNat (i + 1), wupI r k i 0), ?_, rfl, fk.trans (FK_I (Nat.le_refl _) (Nat.le_refl _)), fun j hj => ?_⟩
    · rw [wX10_empty_h2, hk, if_pos ((o_lt (by omega) (by omega)).2 hi), stI_o hi (by omega), t_sbe, o_1]
    · show (wupI r k i 0).1 k j = 0
      rw [upI_at]
      by_cases c : j = i
      · rw [if_pos c]
      · rw [if_neg c]
        exact z j (by omega)
  · obtain ⟨y, r⟩ := p
    obtain ⟨e, fk, z⟩ := hI
    dsimp only at e fk z ⊢
    subst e
    rw [wX10_empty_h2, hk, if_neg (fun c => by have := (o_lt (by omega) (by omega)).1 c; omega)]
    exact t_some ⟨fk, z⟩
/-- this ANSWER is asked for -/
noncomputable def lkv (f : Nat → Int32) (v : Int32) (a : Nat) : Bool := decide ((a : Int) < (f 3).toInt) && (decide ((a : Int) < v.toInt) && decide (f (42 + 5 * a + 4) = 0))
noncomputable def selv (f : Nat → Int32) (v wit but : Int32) (a : Nat) : Bool := lkv f v a && ((decide (wit = -1) || decide (f (42 + 5 * a) = wit)) && !decide (Int32.ofNat a = but))
theorem lkv_E (g : JA s) {v : Int32} {a : Nat} (ha : a < 40) : wX2_isLookedAt 14 (Int32.ofNat a) v s = some (if lkv (s.1 163) v a = true then 1 else 0) := by
  have ea : (Int32.ofNat a).toInt = a := t_on (by omega)
  unfold wX2_isLookedAt lkv
  by_cases c : Int32.ofNat a < v
  · have := t_lt c
    rw [if_pos c, decide_eq_true (show (a : Int) < v.toInt by omega)]
    rcases hasAns_E g (Int32.ofNat a) with ⟨a', h1, h2, b1, b2⟩ | ⟨h1, b1, b2⟩
    · obtain rfl : a' = a := by omega
      rw [b1, t_sbe, qi1, (ans_E g h2 ea).2.2.2.2, t_sbe, decide_eq_true h2]
      by_cases z : s.1 163 (42 + 5 * a' + 4) = 0
      · rw [if_pos z, decide_eq_true z]
        rfl
      · rw [if_neg z, decide_eq_false z]
        rfl
    · rw [b1, t_sbe, qi0, decide_eq_false (fun q : (a : Int) < (s.1 163 3).toInt => h1 ⟨by omega, by omega⟩)]
      rfl
  · rw [if_neg c, decide_eq_false (show ¬ (a : Int) < v.toInt by have := t_ge c; omega), Bool.false_and, Bool.and_false]
    rfl
theorem lkv_lt {f : Nat → Int32} {v : Int32} {a : Nat} (h : lkv f v a = true) : (a : Int) < (f 3).toInt := by
  unfold lkv at h
  rw [Bool.and_eq_true] at h
  exact of_decide_eq_true h.1
theorem selv_lk {f : Nat → Int32} {v wit but : Int32} {a : Nat} (h : selv f v wit but a = true) : lkv f v a = true := by
  unfold selv at h
  rw [Bool.and_eq_true] at h
  exact h.1
theorem many_r (q : QS l x s) {r : wS} (h : r.1 16 = s.1 16) {kd : Nat} (hk : kd < 3) : wX0_manyOf 15 (Int32.ofNat kd) r = some (Int32.ofNat (nk (s.1 163) kd)) := by
  unfold wX0_manyOf
  rw [at_o (k := 15 + 1) (n := 3) rfl (by omega) (by omega), t_sbe]
  show some (r.1 16 kd) = _
  rw [h]
  exact congrArg some ((many_E q.1 kd hk).trans (q.2.2.2.2.2 kd hk).1)
/-- an ANSWER is TRUE with a thing -/
noncomputable def tra (x : lC) (f : Nat → Int32) (a t : Nat) : Bool := !decide (FVx x f (Int32.ofNat (akd f a)) (aoth f a) t < FVx x f (Int32.ofNat (akd f a)) (aone f a) t)
theorem trw_a {x : lC} {f : Nat → Int32} {a w : Nat} : trw x f a w = tra x f a (thn f (akd f a) w) := rfl
theorem near_bt (q : QS l x s) {a t : Nat} (ha : (a : Int) < (s.1 163 3).toInt) (ht : t < nk (s.1 163) (akd (s.1 163) a)) : bit (nb2 (FVx x (s.1 163) (Int32.ofNat (akd (s.1 163) a))) (aone (s.1 163) a) (aoth (s.1 163) a) (nk (s.1 163) (akd (s.1 163) a))) t = tra x (s.1 163) a t := by
  have cf := q.2.2.2.2.2
  obtain ⟨h1, -⟩ := q.1.af a ha
  have n8 := (cf _ h1).2.2
  rw [nb2_bt n8 t (by omega), decide_eq_true ht, Bool.true_and]
  rfl
theorem addFalse_E (q : QS l x s) {kd : Nat} (hk : kd < 3) {near : Int32} : Tot (wX10_addFalse (Int32.ofNat kd) near s) (fun r => FK 32 32 s r ∧ ∀ i, i < 24 → r.1 32 i = if 8 * kd ≤ i ∧ i < 8 * kd + nk (s.1 163) kd ∧ bit near (i - 8 * kd) = false then s.1 32 i + 1 else s.1 32 i) := by
  have cf := q.2.2.2.2.2
  have n8 := (cf kd hk).2.2
  unfold wX10_addFalse
  refine t_bind (P := fun r => FK 32 32 s r ∧ ∀ i, i < 24 → r.1 32 i = if 8 * kd ≤ i ∧ i < 8 * kd + nk (s.1 163) kd ∧ bit near (i - 8 * kd) = false then s.1 32 i + 1 else s.1 32 i) ?_ (fun r h => t_some h)
  refine loop_N (L := fun n (p : Int32 × wS) => wX10_addFalse_h2 (Int32.ofNat kd) near n p.1 p.2) (N := nk (s.1 163) kd) (I := fun j p => p.1 = Int32.ofNat j ∧ FK 32 32 s p.2 ∧ ∀ i, i < 24 → p.2.1 32 i = if 8 * kd ≤ i ∧ i < 8 * kd + j ∧ bit near (i - 8 * kd) = false then s.1 32 i + 1 else s.1 32 i) (x := (0, s)) (by omega) ⟨rfl, FK.refl, fun i _ => (if_neg (by omega)).symm⟩ (fun m j p hj hI => ?_) (fun m p hI => ?_)
  · obtain ⟨y, r⟩ := p
    obtain ⟨e, fk, z⟩ := hI
    dsimp only at e fk z ⊢
    subst e
    rw [wX10_addFalse_h2, many_r q (fk.1 16 (by omega)) hk, t_sbe, if_pos ((o_lt (by omega) (by omega)).2 hj)]
    unfold wX10_addFalse_j51
    by_cases c : bit near j = false
    · rw [if_pos ((bt_z (by omega)).2 c), slot_o hk (by omega), t_sbe, t_sbe, at_o (n := 24) rfl (by omega) (by omega), t_sbe, set_o (n := 24) rfl (by omega) (by omega), t_sbe, o_1]
      refine ⟨(Int32.ofNat (j + 1), wupI r 32 (8 * kd + j) (r.1 32 (8 * kd + j) + 1)), rfl, rfl, fk.trans (FK_I (Nat.le_refl _) (Nat.le_refl _)), fun i hi => ?_⟩
      show (wupI r 32 (8 * kd + j) (r.1 32 (8 * kd + j) + 1)).1 32 i = _
      rw [upI_at]
      by_cases d : i = 8 * kd + j
      · subst d
        rw [if_pos rfl, z _ hi, if_neg (by omega), if_pos ⟨by omega, by omega, by rw [show 8 * kd + j - 8 * kd = j by omega]; exact c⟩]
      · rw [if_neg d, z i hi]
        by_cases u : 8 * kd ≤ i ∧ i < 8 * kd + j ∧ bit near (i - 8 * kd) = false
        · rw [if_pos u, if_pos ⟨u.1, by omega, u.2.2⟩]
        · rw [if_neg u, if_neg (fun u' => u ⟨u'.1, by omega, u'.2.2⟩)]
    · rw [if_neg (fun h => c ((bt_z (by omega)).1 h)), o_1]
      refine ⟨(Int32.ofNat (j + 1), r), rfl, rfl, fk, fun i hi => ?_⟩
      show r.1 32 i = _
      rw [z i hi]
      by_cases d : i = 8 * kd + j
      · subst d
        rw [if_neg (by omega), if_neg (fun u => c (by rw [show 8 * kd + j - 8 * kd = j by omega] at u; exact u.2.2))]
      · by_cases u : 8 * kd ≤ i ∧ i < 8 * kd + j ∧ bit near (i - 8 * kd) = false
        · rw [if_pos u, if_pos ⟨u.1, by omega, u.2.2⟩]
        · rw [if_neg u, if_neg (fun u' => u ⟨u'.1, by omega, u'.2.2⟩)]
  · obtain ⟨y, r⟩ := p
    obtain ⟨e, fk, z⟩ := hI
    dsimp only at e fk z ⊢
    subst e
    rw [wX10_addFalse_h2, many_r q (fk.1 16 (by omega)) hk, t_sbe, if_neg (fun c => by have := (o_lt (by omega) (by omega)).1 c; omega)]
    exact t_some ⟨fk, z⟩
/-- the FALSE ones with a thing -/
noncomputable def fat (x : lC) (f : Nat → Int32) (P : Nat → Bool) (kd t n : Nat) : Nat := cnt (fun a => P a && (decide (akd f a = kd) && !tra x f a t)) n
theorem fat_s {x : lC} {f : Nat → Int32} {P : Nat → Bool} {kd t n : Nat} : fat x f P kd t (n + 1) = fat x f P kd t n + (P n && (decide (akd f n = kd) && !tra x f n t)).toNat := rfl
/-- the FALSE ones in a WORLD -/
noncomputable def fan (x : lC) (f : Nat → Int32) (P : Nat → Bool) (w n : Nat) : Nat := cnt (fun a => P a && !trw x f a w) n
theorem fan_s {x : lC} {f : Nat → Int32} {P : Nat → Bool} {w n : Nat} : fan x f P w (n + 1) = fan x f P w n + (P n && !trw x f n w).toNat := rfl
theorem fan_3 {x : lC} {f : Nat → Int32} {P : Nat → Bool} {w : Nat} : ∀ {n : Nat}, (∀ a, a < n → P a = true → akd f a < 3) → fat x f P 0 (thn f 0 w) n + fat x f P 1 (thn f 1 w) n + fat x f P 2 (thn f 2 w) n = fan x f P w n := by
  intro n
  induction n with
  | zero => intro _; rfl
  | succ n ih =>
    intro h
    have i := ih (fun a ha => h a (by omega))
    rw [fat_s, fat_s, fat_s, fan_s, trw_a]
    cases p : P n
    · rw [Bool.false_and, Bool.false_and, Bool.false_and, Bool.false_and]
      exact i
    · have k := h n (by omega) p
      rw [Bool.true_and, Bool.true_and, Bool.true_and, Bool.true_and]
      obtain k | k | k : akd f n = 0 ∨ akd f n = 1 ∨ akd f n = 2 := by omega
      · rw [k, show decide (0 = 0) = true from rfl, show decide (0 = 1) = false from rfl, show decide (0 = 2) = false from rfl, Bool.true_and, Bool.false_and, Bool.false_and]
        show _ + _ + (_ + 0) + (_ + 0) = _
        omega
      · rw [k, show decide (1 = 0) = false from rfl, show decide (1 = 1) = true from rfl, show decide (1 = 2) = false from rfl, Bool.true_and, Bool.false_and, Bool.false_and]
        show _ + 0 + (_ + _) + (_ + 0) = _
        omega
      · rw [k, show decide (2 = 0) = false from rfl, show decide (2 = 1) = false from rfl, show decide (2 = 2) = true from rfl, Bool.true_and, Bool.false_and, Bool.false_and]
        show _ + 0 + (_ + 0) + (_ + _) = _
        omega
theorem count10_E (q : QS l x s) {v wit but : Int32} : Tot (wX10_countFalse_h10 (44 + 10 * l) v wit but wFuel 0 s) (fun r => (∀ i, i < 24 → s.1 32 i = 0) → FK 32 32 s r ∧ ∀ kd t, kd < 3 → t < nk (s.1 163) kd → r.1 32 (8 * kd + t) = Int32.ofNat (fat x (s.1 163) (selv (s.1 163) v wit but) kd t 40)) := by
  have cf := q.2.2.2.2.2
  refine loop_N (L := fun n (p : Int32 × wS) => wX10_countFalse_h10 (44 + 10 * l) v wit but n p.1 p.2) (N := 40) (I := fun j p => p.1 = Int32.ofNat j ∧ FK 32 32 s p.2 ∧ ((∀ i, i < 24 → s.1 32 i = 0) → ∀ kd t, kd < 3 → t < nk (s.1 163) kd → p.2.1 32 (8 * kd + t) = Int32.ofNat (fat x (s.1 163) (selv (s.1 163) v wit but) kd t j))) (x := (0, s)) (by omega) ⟨rfl, FK.refl, fun z kd t hk ht => ?_⟩ (fun m j p hj hI => ?_) (fun m p hI => ?_)
  · have n8 := (cf kd hk).2.2
    exact z _ (by omega)
  · obtain ⟨y, r⟩ := p
    obtain ⟨e, fk, z⟩ := hI
    dsimp only at e fk z ⊢
    subst e
    have qr := fk.qs (by omega) (by omega) q
    have hf : r.1 163 = s.1 163 := fk.f (by omega)
    have lk := lkv_E qr.1 (v := v) hj
    rw [hf] at lk
    -- nothing is added
    have no : selv (s.1 163) v wit but j = false → ∃ x' : Int32 × wS, (wX10_countFalse_h10 (44 + 10 * l) v wit but m (Int32.ofNat (j + 1)) r = wX10_countFalse_h10 (44 + 10 * l) v wit but m x'.1 x'.2 ∧ x'.1 = Int32.ofNat (j + 1) ∧ FK 32 32 s x'.2 ∧ ((∀ i, i < 24 → s.1 32 i = 0) → ∀ kd t, kd < 3 → t < nk (s.1 163) kd → x'.2.1 32 (8 * kd + t) = Int32.ofNat (fat x (s.1 163) (selv (s.1 163) v wit but) kd t (j + 1)))) := fun h => by
      refine ⟨(Int32.ofNat (j + 1), r), rfl, rfl, fk, fun zz kd t hk ht => ?_⟩
      show r.1 32 (8 * kd + t) = _
      rw [z zz kd t hk ht, fat_s, h, Bool.false_and]
      rfl
    -- one turn
    have turn : ∀ y0 : Int32, (y0 = 0 ∨ y0 = 1) → (y0 = 1 ↔ (decide (wit = -1) || decide ((s.1 163) (42 + 5 * j) = wit)) = true) → ∃ x' : Int32 × wS, (wX10_countFalse_j43 (wX10_countFalse_h10 (44 + 10 * l) v wit but m) (44 + 10 * l) v wit but (Int32.ofNat j) y0 r = wX10_countFalse_h10 (44 + 10 * l) v wit but m x'.1 x'.2 ∧ x'.1 = Int32.ofNat (j + 1) ∧ FK 32 32 s x'.2 ∧ ((∀ i, i < 24 → s.1 32 i = 0) → ∀ kd t, kd < 3 → t < nk (s.1 163) kd → x'.2.1 32 (8 * kd + t) = Int32.ofNat (fat x (s.1 163) (selv (s.1 163) v wit but) kd t (j + 1)))) := by
      intro y0 h01 hy
      unfold wX10_countFalse_j43 wX10_countFalse_j93
      rw [lk, t_sbe, o_1]
      by_cases c : lkv (s.1 163) v j = true
      · rw [if_pos c, qi1]
        have ha : (j : Int) < (s.1 163 3).toInt := lkv_lt c
        rcases h01 with h0 | h1
        · subst h0
          rw [qi0]
          refine no ?_
          unfold selv
          rw [show (decide (wit = -1) || decide ((s.1 163) (42 + 5 * j) = wit)) = false from Bool.eq_false_iff.2 (fun e => absurd (hy.2 e) (by decide)), Bool.false_and, Bool.and_false]
        · subst h1
          have hw := hy.1 rfl
          rw [qi1]
          by_cases d : Int32.ofNat j = but
          · rw [if_pos d]
            refine no ?_
            unfold selv
            rw [decide_eq_true d, Bool.not_true, Bool.and_false, Bool.and_false]
          · have har : (j : Int) < (r.1 163 3).toInt := by rw [hf]; exact ha
            obtain ⟨k3, o1, o2, ek, -⟩ := q.1.af j ha
            have n8 := (cf _ k3).2.2
            have nt := nearThings_E qr.1 q.2.1 qr.2.2.2.2.1 qr.2.2.2.2.2 har
            rw [hf] at nt
            obtain ⟨r2, er, fk2, z2⟩ := addFalse_E qr (near := nb2 (FVx x (s.1 163) (Int32.ofNat (akd (s.1 163) j))) (aone (s.1 163) j) (aoth (s.1 163) j) (nk (s.1 163) (akd (s.1 163) j))) k3
            rw [if_neg d, (ans_E qr.1 har (t_on (by omega))).2.1, hf, t_sbe, nt, t_sbe, ek, er, t_sbe]
            rw [hf] at z2
            refine ⟨(Int32.ofNat (j + 1), r2), rfl, rfl, fk.trans fk2, fun zz kd t hk ht => ?_⟩
            have n8' := (cf kd hk).2.2
            show r2.1 32 (8 * kd + t) = _
            have S : selv (s.1 163) v wit but j = true := by
              unfold selv
              rw [c, hw, decide_eq_false d]
              rfl
            rw [z2 _ (by omega), z zz kd t hk ht, fat_s, S, Bool.true_and]
            by_cases kk : akd (s.1 163) j = kd
            · subst kk
              rw [show 8 * akd (s.1 163) j + t - 8 * akd (s.1 163) j = t by omega, near_bt q ha ht, decide_eq_true (rfl : akd (s.1 163) j = akd (s.1 163) j), Bool.true_and]
              cases tr : tra x (s.1 163) j t
              · rw [if_pos ⟨by omega, by omega, rfl⟩]
                exact o_1
              · rw [if_neg (fun u => by have := u.2.2; cases this)]
                rfl
            · rw [if_neg (by omega), decide_eq_false kk, Bool.false_and]
              rfl
      · rw [if_neg c, qi0]
        refine no ?_
        unfold selv
        rw [Bool.eq_false_iff.2 c, Bool.false_and]
    rw [wX10_countFalse_h10, if_pos (show Int32.ofNat j < 40 from (o_lt (a := j) (b := 40) (by omega) (by omega)).2 hj)]
    unfold wX10_countFalse_j38
    by_cases w1 : wit = -1
    · rw [if_pos w1]
      exact turn 1 (Or.inr rfl) (iff_of_true rfl (by rw [decide_eq_true w1]; rfl))
    · rw [if_neg w1]
      by_cases ha : (j : Int) < (s.1 163 3).toInt
      · have har : (j : Int) < (r.1 163 3).toInt := by rw [hf]; exact ha
        rw [(ans_E qr.1 har (t_on (by omega))).1, hf, t_sbe]
        by_cases w2 : s.1 163 (42 + 5 * j) = wit
        · rw [if_pos w2]
          exact turn 1 (Or.inr rfl) (iff_of_true rfl (by rw [decide_eq_true w2, Bool.or_true]))
        · rw [if_neg w2]
          exact turn 0 (Or.inl rfl) (iff_of_false (by decide) (by rw [decide_eq_false w1, decide_eq_false w2]; decide))
      · -- behind the ANSWERS the row says what it likes
        have nl : lkv (s.1 163) v j = false := Bool.eq_false_iff.2 (fun h => ha (lkv_lt h))
        rw [at_o (k := 19) (n := 40) rfl (by omega) (by omega), t_sbe]
        have bare : ∀ y0 : Int32, ∃ x' : Int32 × wS, (wX10_countFalse_j43 (wX10_countFalse_h10 (44 + 10 * l) v wit but m) (44 + 10 * l) v wit but (Int32.ofNat j) y0 r = wX10_countFalse_h10 (44 + 10 * l) v wit but m x'.1 x'.2 ∧ x'.1 = Int32.ofNat (j + 1) ∧ FK 32 32 s x'.2 ∧ ((∀ i, i < 24 → s.1 32 i = 0) → ∀ kd t, kd < 3 → t < nk (s.1 163) kd → x'.2.1 32 (8 * kd + t) = Int32.ofNat (fat x (s.1 163) (selv (s.1 163) v wit but) kd t (j + 1)))) := by
          intro y0
          unfold wX10_countFalse_j43 wX10_countFalse_j93
          rw [lk, nl, t_sbe, o_1]
          exact no (by unfold selv; rw [nl, Bool.false_and])
        by_cases w2 : r.1 19 j = wit
        · rw [if_pos w2]
          exact bare 1
        · rw [if_neg w2]
          exact bare 0
  · obtain ⟨y, r⟩ := p
    obtain ⟨e, fk, z⟩ := hI
    dsimp only at e fk z ⊢
    subst e
    rw [wX10_countFalse_h10, if_neg (by decide)]
    exact t_some (fun zz => ⟨fk, z zz⟩)
/-- a WORLD of its things -/
theorem thn_w {f : Nat → Int32} {h r m : Nat} (hh : h < nk f 0) (hr : r < nk f 1) (hm : m < nk f 2) : (h * nk f 1 + r) * nk f 2 + m < nW f ∧ thn f 0 ((h * nk f 1 + r) * nk f 2 + m) = h ∧ thn f 1 ((h * nk f 1 + r) * nk f 2 + m) = r ∧ thn f 2 ((h * nk f 1 + r) * nk f 2 + m) = m := by
  have d1 : ((h * nk f 1 + r) * nk f 2 + m) / nk f 2 = h * nk f 1 + r := by
    rw [Nat.add_comm, Nat.add_mul_div_right _ _ (by omega), Nat.div_eq_of_lt hm, Nat.zero_add]
  have d2 : (h * nk f 1 + r) / nk f 1 = h := by
    rw [Nat.add_comm, Nat.add_mul_div_right _ _ (by omega), Nat.div_eq_of_lt hr, Nat.zero_add]
  refine ⟨?_, ?_, ?_, ?_⟩
  · have a : (h + 1) * nk f 1 ≤ nk f 0 * nk f 1 := Nat.mul_le_mul_right _ (by omega)
    rw [Nat.succ_mul] at a
    have b : (h * nk f 1 + r + 1) * nk f 2 ≤ nk f 0 * nk f 1 * nk f 2 := Nat.mul_le_mul_right _ (by omega)
    rw [Nat.succ_mul] at b
    unfold nW
    omega
  · unfold thn
    rw [if_neg (by decide), if_neg (by decide), d1, d2]
  · unfold thn
    rw [if_neg (by decide), if_pos rfl, d1, Nat.add_comm, Nat.add_mul_mod_self_right, Nat.mod_eq_of_lt hr]
  · unfold thn
    rw [if_pos rfl, Nat.add_comm, Nat.add_mul_mod_self_right, Nat.mod_eq_of_lt hm]
/-- three loops over all WORLDS -/
theorem world3 {f : Nat → Int32} (cf : CFt f) {I : Nat → wS → Prop} {A2 : Nat → Nat → Nat → Int32 → Int32 → wS → Option (Int32 × wS)} {A1 : Nat → Nat → Int32 → Int32 → wS → Option (Int32 × wS)} {A0 : Nat → Int32 → Int32 → wS → Option wS} {s0 : wS}
  (h2 : ∀ h r n m s, h < nk f 0 → r < nk f 1 → m < nk f 2 → I ((h * nk f 1 + r) * nk f 2 + m) s → ∃ s', A2 h r (n + 1) (Int32.ofNat ((h * nk f 1 + r) * nk f 2 + m)) (Int32.ofNat m) s = A2 h r n (Int32.ofNat ((h * nk f 1 + r) * nk f 2 + m + 1)) (Int32.ofNat (m + 1)) s' ∧ I ((h * nk f 1 + r) * nk f 2 + m + 1) s')
  (h2' : ∀ h r n w s, I w s → A2 h r (n + 1) (Int32.ofNat w) (Int32.ofNat (nk f 2)) s = some (Int32.ofNat w, s))
  (h1 : ∀ h r n w w' s s', h < nk f 0 → r < nk f 1 → I w s → A2 h r wFuel (Int32.ofNat w) 0 s = some (w', s') → A1 h (n + 1) (Int32.ofNat w) (Int32.ofNat r) s = A1 h n w' (Int32.ofNat (r + 1)) s')
  (h1' : ∀ h n w s, I w s → A1 h (n + 1) (Int32.ofNat w) (Int32.ofNat (nk f 1)) s = some (Int32.ofNat w, s))
  (h0 : ∀ h n w w' s s', h < nk f 0 → I w s → A1 h wFuel (Int32.ofNat w) 0 s = some (w', s') → A0 (n + 1) (Int32.ofNat w) (Int32.ofNat h) s = A0 n w' (Int32.ofNat (h + 1)) s')
  (h0' : ∀ n w s, I w s → A0 (n + 1) (Int32.ofNat w) (Int32.ofNat (nk f 0)) s = some s) (i0 : I 0 s0) : Tot (A0 wFuel 0 0 s0) (fun r => I (nW f) r) := by
  have c0 := (cf 0 (by decide)).2.2
  have c1 := (cf 1 (by decide)).2.2
  have c2 := (cf 2 (by decide)).2.2
  have e2 : ∀ h r s, h < nk f 0 → r < nk f 1 → I ((h * nk f 1 + r) * nk f 2) s → Tot (A2 h r wFuel (Int32.ofNat ((h * nk f 1 + r) * nk f 2)) 0 s) (fun p => p.1 = Int32.ofNat ((h * nk f 1 + (r + 1)) * nk f 2) ∧ I ((h * nk f 1 + (r + 1)) * nk f 2) p.2) := by
    intro h r s hh hr hi
    refine loop_N (L := fun n (p : Int32 × Int32 × wS) => A2 h r n p.1 p.2.1 p.2.2) (N := nk f 2) (I := fun m p => p.1 = Int32.ofNat ((h * nk f 1 + r) * nk f 2 + m) ∧ p.2.1 = Int32.ofNat m ∧ I ((h * nk f 1 + r) * nk f 2 + m) p.2.2) (x := (Int32.ofNat ((h * nk f 1 + r) * nk f 2), 0, s)) (by omega) ⟨rfl, rfl, hi⟩ (fun n m p hm hI => ?_) (fun n p hI => ?_)
    · obtain ⟨a, b, t⟩ := p
      obtain ⟨ea, eb, it⟩ := hI
      dsimp only at ea eb it ⊢
      subst ea eb
      obtain ⟨s', es, is⟩ := h2 h r n m t hh hr hm it
      exact ⟨(Int32.ofNat ((h * nk f 1 + r) * nk f 2 + m + 1), Int32.ofNat (m + 1), s'), es, rfl, rfl, is⟩
    · obtain ⟨a, b, t⟩ := p
      obtain ⟨ea, eb, it⟩ := hI
      dsimp only at ea eb it ⊢
      subst ea eb
      rw [h2' h r n _ t it]
      have e : (h * nk f 1 + (r + 1)) * nk f 2 = (h * nk f 1 + r) * nk f 2 + nk f 2 := Nat.succ_mul _ _
      exact t_some (by rw [e]; exact ⟨rfl, it⟩)
  have e1 : ∀ h s, h < nk f 0 → I (h * nk f 1 * nk f 2) s → Tot (A1 h wFuel (Int32.ofNat (h * nk f 1 * nk f 2)) 0 s) (fun p => p.1 = Int32.ofNat ((h + 1) * nk f 1 * nk f 2) ∧ I ((h + 1) * nk f 1 * nk f 2) p.2) := by
    intro h s hh hi
    refine loop_N (L := fun n (p : Int32 × Int32 × wS) => A1 h n p.1 p.2.1 p.2.2) (N := nk f 1) (I := fun r p => p.1 = Int32.ofNat ((h * nk f 1 + r) * nk f 2) ∧ p.2.1 = Int32.ofNat r ∧ I ((h * nk f 1 + r) * nk f 2) p.2.2) (x := (Int32.ofNat (h * nk f 1 * nk f 2), 0, s)) (by omega) ⟨rfl, rfl, hi⟩ (fun n r p hr hI => ?_) (fun n p hI => ?_)
    · obtain ⟨a, b, t⟩ := p
      obtain ⟨ea, eb, it⟩ := hI
      dsimp only at ea eb it ⊢
      subst ea eb
      obtain ⟨⟨w', s'⟩, es, ew, is⟩ := e2 h r t hh hr it
      dsimp only at ew is
      rw [h1 h r n _ w' t s' hh hr it es]
      exact ⟨(w', Int32.ofNat (r + 1), s'), rfl, ew, rfl, is⟩
    · obtain ⟨a, b, t⟩ := p
      obtain ⟨ea, eb, it⟩ := hI
      dsimp only at ea eb it ⊢
      subst ea eb
      rw [h1' h n _ t it]
      have e : (h + 1) * nk f 1 = h * nk f 1 + nk f 1 := Nat.succ_mul _ _
      exact t_some (by rw [e]; exact ⟨rfl, it⟩)
  refine loop_N (L := fun n (p : Int32 × Int32 × wS) => A0 n p.1 p.2.1 p.2.2) (N := nk f 0) (I := fun h p => p.1 = Int32.ofNat (h * nk f 1 * nk f 2) ∧ p.2.1 = Int32.ofNat h ∧ I (h * nk f 1 * nk f 2) p.2.2) (x := (0, 0, s0)) (by omega) ⟨?_, rfl, ?_⟩ (fun n h p hh hI => ?_) (fun n p hI => ?_)
  · rw [Nat.zero_mul, Nat.zero_mul]
    rfl
  · rw [Nat.zero_mul, Nat.zero_mul]
    exact i0
  · obtain ⟨a, b, t⟩ := p
    obtain ⟨ea, eb, it⟩ := hI
    dsimp only at ea eb it ⊢
    subst ea eb
    obtain ⟨⟨w', s'⟩, es, ew, is⟩ := e1 h t hh it
    dsimp only at ew is
    rw [h0 h n _ w' t s' hh it es]
    exact ⟨(w', Int32.ofNat (h + 1), s'), rfl, ew, rfl, is⟩
  · obtain ⟨a, b, t⟩ := p
    obtain ⟨ea, eb, it⟩ := hI
    dsimp only at ea eb it ⊢
    subst ea eb
    rw [h0' n _ t it]
    exact t_some it
theorem many_r0 (q : QS l x s) {r : wS} (h : r.1 16 = s.1 16) : wX0_manyOf 15 0 r = some (Int32.ofNat (nk (s.1 163) 0)) := many_r q h (kd := 0) (by decide)
theorem many_r1 (q : QS l x s) {r : wS} (h : r.1 16 = s.1 16) : wX0_manyOf 15 1 r = some (Int32.ofNat (nk (s.1 163) 1)) := many_r q h (kd := 1) (by decide)
theorem many_r2 (q : QS l x s) {r : wS} (h : r.1 16 = s.1 16) : wX0_manyOf 15 2 r = some (Int32.ofNat (nk (s.1 163) 2)) := many_r q h (kd := 2) (by decide)
/-- the FALSE ones of all WORLDS, of those of their things -/
theorem count105_E (q : QS l x s) {F : Nat → Nat → Nat} (hF : ∀ kd t, kd < 3 → t < nk (s.1 163) kd → s.1 32 (8 * kd + t) = Int32.ofNat (F kd t)) : Tot (wX10_countFalse_h105 wFuel 0 0 s) (fun r => FK 33 33 s r ∧ ∀ w, w < nW (s.1 163) → r.1 33 w = Int32.ofNat (F 0 (thn (s.1 163) 0 w) + F 1 (thn (s.1 163) 1 w) + F 2 (thn (s.1 163) 2 w))) := by
  have cf := q.2.2.2.2.2
  have w5 := cf.w.1
  have c0 := (cf 0 (by decide)).2.2
  have c1 := (cf 1 (by decide)).2.2
  have c2 := (cf 2 (by decide)).2.2
  refine world3 cf (I := fun w r => FK 33 33 s r ∧ ∀ v, v < w → r.1 33 v = Int32.ofNat (F 0 (thn (s.1 163) 0 v) + F 1 (thn (s.1 163) 1 v) + F 2 (thn (s.1 163) 2 v))) (A2 := fun h r => wX10_countFalse_h172 (Int32.ofNat h) (Int32.ofNat r) (Int32.ofNat (F 0 h + F 1 r))) (A1 := fun h => wX10_countFalse_h124 (Int32.ofNat h)) (A0 := wX10_countFalse_h105) ?_ ?_ ?_ ?_ ?_ ?_ ⟨FK.refl, fun v h => absurd h (by omega)⟩
  · intro h r n m t hh hr hm it
    obtain ⟨fk, z⟩ := it
    obtain ⟨wl, t0, t1, t2⟩ := thn_w hh hr hm
    generalize ew : (h * nk (s.1 163) 1 + r) * nk (s.1 163) 2 + m = w at *
    refine ⟨wupI t 33 w (Int32.ofNat (F 0 h + F 1 r + F 2 m)), ?_, fk.trans (FK_I (Nat.le_refl _) (Nat.le_refl _)), fun v hv => ?_⟩
    · rw [wX10_countFalse_h172, many_r2 q (fk.1 16 (by omega)), t_sbe, if_pos ((o_lt (by omega) (by omega)).2 hm), slot_o2 (by omega), t_sbe, at_o (n := 24) rfl (by omega) (by omega), t_sbe, fk.1 32 (by omega), hF 2 m (by omega) hm, o_add, set_o (n := 512) rfl (by omega) (by omega), t_sbe, o_1, o_1]
    · rw [upI_at]
      by_cases c : v = w
      · rw [if_pos c, c, t0, t1, t2]
      · rw [if_neg c]
        exact z v (by omega)
  · intro h r n w t it
    rw [wX10_countFalse_h172, many_r2 q (it.1.1 16 (by omega)), t_sbe, if_neg (fun c => by have := (o_lt (by omega) (by omega)).1 c; omega)]
  · intro h r n w w' t t' hh hr it e
    rw [wX10_countFalse_h124, many_r1 q (it.1.1 16 (by omega)), t_sbe, if_pos ((o_lt (by omega) (by omega)).2 hr), slot_o0 (by omega), t_sbe, at_o (n := 24) rfl (by omega) (by omega), t_sbe, slot_o1 (by omega), t_sbe, at_o (n := 24) rfl (by omega) (by omega), t_sbe, it.1.1 32 (by omega), hF 0 h (by omega) hh, hF 1 r (by omega) hr, o_add, e, t_sbe, o_1]
  · intro h n w t it
    rw [wX10_countFalse_h124, many_r1 q (it.1.1 16 (by omega)), t_sbe, if_neg (fun c => by have := (o_lt (by omega) (by omega)).1 c; omega)]
  · intro h n w w' t t' hh it e
    rw [wX10_countFalse_h105, many_r0 q (it.1.1 16 (by omega)), t_sbe, if_pos ((o_lt (by omega) (by omega)).2 hh), e, t_sbe, o_1]
  · intro n w t it
    rw [wX10_countFalse_h105, many_r0 q (it.1.1 16 (by omega)), t_sbe, if_neg (fun c => by have := (o_lt (by omega) (by omega)).1 c; omega)]
theorem countFalse_E (q : QS l x s) {v wit but : Int32} : Tot (wX10_countFalse (44 + 10 * l) v wit but s) (fun r => FK 32 33 s r ∧ ∀ w, w < nW (s.1 163) → r.1 33 w = Int32.ofNat (fan x (s.1 163) (selv (s.1 163) v wit but) w 40)) := by
  unfold wX10_countFalse
  obtain ⟨s2, e2, f2, z2⟩ := empty_E (s := s) (k := 32) (n := 24) rfl (by omega)
  have q2 := f2.qs (by omega) (by omega) q
  obtain ⟨s3, e3, h3⟩ := count10_E q2 (v := v) (wit := wit) (but := but)
  obtain ⟨f3, z3⟩ := h3 z2
  have q3 := f3.qs (by omega) (by omega) q2
  have hf2 : s2.1 163 = s.1 163 := f2.f (by omega)
  have hf3 : s3.1 163 = s.1 163 := (f3.f (by omega)).trans hf2
  rw [hf2] at z3
  obtain ⟨s4, e4, f4, z4⟩ := count105_E q3 (F := fun kd t => fat x (s.1 163) (selv (s.1 163) v wit but) kd t 40) (fun kd t hk ht => z3 kd t hk (by rw [hf3] at ht; exact ht))
  rw [hf3] at z4
  rw [e2, t_sbe, e3, t_sbe, e4, t_sbe]
  refine t_some ⟨(f2.mono (by omega) (by omega)).trans ((f3.mono (by omega) (by omega)).trans (f4.mono (by omega) (by omega))), fun w hw => ?_⟩
  rw [z4 w hw]
  exact congrArg Int32.ofNat (fan_3 (fun a _ p => (q.1.af a (lkv_lt (selv_lk p))).1))
theorem nworlds_r (q : QS l x s) {r : wS} (h : r.1 16 = s.1 16) : wX0_worlds 15 r = some (Int32.ofNat (nW (s.1 163))) := by
  have e2 : wX0_worlds 15 r = wX0_worlds 15 s := by
    unfold wX0_worlds wldI
    rw [show r.1 (15 + 1) = s.1 (15 + 1) from h]
  exact e2.trans (nworlds_E q).1
theorem fan_le {x : lC} {f : Nat → Int32} {P : Nat → Bool} {w n : Nat} : fan x f P w n ≤ n := cnt_le n
theorem atMost_E (q : QS l x s) {r : wS} (h : r.1 16 = s.1 16) {g : Nat → Nat} (hg : ∀ w, w < nW (s.1 163) → r.1 33 w = Int32.ofNat (g w) ∧ g w ≤ 100) {k : Nat} (hk : k ≤ 100) : wX10_worldsWithAtMost (Int32.ofNat k) r = some (Int32.ofNat (cnt (fun w => decide (g w ≤ k)) (nW (s.1 163)))) := by
  have w5 := q.2.2.2.2.2.w.1
  unfold wX10_worldsWithAtMost
  have e : wX10_worldsWithAtMost_h4 (Int32.ofNat k) r wFuel 0 0 = some (Int32.ofNat (cnt (fun w => decide (g w ≤ k)) (nW (s.1 163)))) := by
    refine loop_P (L := fun n (p : Int32 × Int32) => wX10_worldsWithAtMost_h4 (Int32.ofNat k) r n p.1 p.2) (N := nW (s.1 163)) (I := fun w p => p.1 = Int32.ofNat (cnt (fun w => decide (g w ≤ k)) w) ∧ p.2 = Int32.ofNat w) (x := (0, 0)) (by omega) ⟨rfl, rfl⟩ (fun n w p hw hI => ?_) (fun n p hI => ?_)
    · obtain ⟨a, b⟩ := p
      obtain ⟨ea, eb⟩ := hI
      dsimp only at ea eb ⊢
      subst ea eb
      obtain ⟨g1, g2⟩ := hg w hw
      rw [wX10_worldsWithAtMost_h4, nworlds_r q h, t_sbe, if_pos ((o_lt (by omega) (by omega)).2 hw), at_o (n := 512) rfl (by omega) (by omega), t_sbe, g1]
      unfold wX10_worldsWithAtMost_j33
      by_cases c : g w ≤ k
      · rw [if_neg (fun d => by have := (o_lt (by omega) (by omega)).1 d; omega), o_1, o_1]
        exact ⟨(_, _), rfl, congrArg Int32.ofNat (cnt_t (p := fun w => decide (g w ≤ k)) (decide_eq_true c)).symm, rfl⟩
      · rw [if_pos ((o_lt (by omega) (by omega)).2 (by omega)), o_1]
        exact ⟨(_, _), rfl, congrArg Int32.ofNat (cnt_f (p := fun w => decide (g w ≤ k)) (decide_eq_false c)).symm, rfl⟩
    · obtain ⟨a, b⟩ := p
      obtain ⟨ea, eb⟩ := hI
      dsimp only at ea eb ⊢
      subst ea eb
      rw [wX10_worldsWithAtMost_h4, nworlds_r q h, t_sbe, if_neg (fun c => by have := (o_lt (by omega) (by omega)).1 c; omega)]
  rw [e, t_sbe]
end CF
