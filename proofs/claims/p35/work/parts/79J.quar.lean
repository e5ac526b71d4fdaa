/-! The first that is so; things as bits; quarrel. -/
/-- the first from i on, k of them looked at -/
noncomputable def fnd (p : Nat → Bool) : Nat → Nat → Option Nat
  | 0, _ => none
  | k + 1, i => if p i = true then some i else fnd p k (i + 1)
theorem fnd_s {p : Nat → Bool} {k i : Nat} : fnd p (k + 1) i = if p i = true then some i else fnd p k (i + 1) := rfl
theorem fnd_no {p : Nat → Bool} : ∀ {k i : Nat}, (∀ j, i ≤ j → j < i + k → p j = false) → fnd p k i = none := by
  intro k
  induction k with
  | zero => intro i _; rfl
  | succ k ih =>
    intro i h
    rw [fnd_s, h i (Nat.le_refl _) (by omega), b_f]
    exact ih (fun j h1 h2 => h j (by omega) (by omega))
theorem fnd_ex {p : Nat → Bool} : ∀ {k i : Nat}, ((fnd p k i).isSome = true ↔ ∃ j, i ≤ j ∧ j < i + k ∧ p j = true) := by
  intro k
  induction k with
  | zero => intro i; exact iff_of_false (show ¬ (none : Option Nat).isSome = true from by decide) (fun ⟨j, h1, h2, _⟩ => by omega)
  | succ k ih =>
    intro i
    rw [fnd_s]
    cases c : p i
    · rw [b_f, ih]
      refine ⟨fun ⟨j, h1, h2, h3⟩ => ⟨j, by omega, by omega, h3⟩, fun ⟨j, h1, h2, h3⟩ => ⟨j, ?_, by omega, h3⟩⟩
      by_cases e : j = i
      · rw [e, c] at h3
        cases h3
      · omega
    · rw [if_pos rfl]
      exact iff_of_true rfl ⟨i, Nat.le_refl _, by omega, c⟩
theorem fnd_lt {p : Nat → Bool} : ∀ {k i j : Nat}, fnd p k i = some j → i ≤ j ∧ j < i + k ∧ p j = true := by
  intro k
  induction k with
  | zero => intro i j h; cases h
  | succ k ih =>
    intro i j h
    rw [fnd_s] at h
    cases c : p i
    · rw [c, b_f] at h
      obtain ⟨h1, h2, h3⟩ := ih h
      exact ⟨by omega, by omega, h3⟩
    · rw [c, if_pos rfl] at h
      cases h
      exact ⟨Nat.le_refl _, by omega, c⟩
theorem fnd_go {p q : Nat → Bool} {n m : Nat} (hm : n ≤ m) (hp : ∀ j, n ≤ j → j < m → p j = false) : ∀ {k i : Nat}, k = m - i → i ≤ n → (∀ j, i ≤ j → j < n → p j = q j) → fnd p k i = fnd q (n - i) i := by
  intro k
  induction k with
  | zero =>
    intro i hk hi _
    rw [show n - i = 0 by omega]
    rfl
  | succ k ih =>
    intro i hk hi h
    by_cases c : i = n
    · rw [show n - i = 0 by omega]
      exact fnd_no (fun j h1 h2 => hp j (by omega) (by omega))
    · rw [show n - i = (n - (i + 1)) + 1 by omega, fnd_s, fnd_s, h i (Nat.le_refl _) (by omega), ih (by omega) (by omega) (fun j h1 h2 => h j (by omega) h2)]
theorem loop_F {β : Type} {L : Nat → Int32 → Option (Unit ⊕ β)} {p : Nat → Bool} {r : Nat → β} {N : Nat} (hN : N ≤ 1000) (h1 : ∀ n i, i < N → p i = true → L (n + 1) (Int32.ofNat i) = some (.inr (r i))) (h2 : ∀ n i, i < N → p i = false → L (n + 1) (Int32.ofNat i) = L n (Int32.ofNat (i + 1))) (h3 : ∀ n, L (n + 1) (Int32.ofNat N) = some (.inl ())) : ∀ {n i : Nat}, i ≤ N → N - i < n → L n (Int32.ofNat i) = some (match fnd p (N - i) i with | none => .inl () | some j => .inr (r j)) := by
  intro n
  induction n with
  | zero => intro i _ h; omega
  | succ n ih =>
    intro i hi hn
    by_cases c : i = N
    · rw [c, h3, show N - N = 0 by omega]
      rfl
    · rw [show N - i = (N - (i + 1)) + 1 by omega, fnd_s]
      cases e : p i
      · rw [h2 n i (by omega) e, b_f]
        exact ih (by omega) (by omega)
      · rw [h1 n i (by omega) e, if_pos rfl]
theorem wF_k {a : Nat} (h : a ≤ 1000) : a < wFuel := by
  have e : wFuel = 1099511627776 := rfl
  omega
theorem bt_shl {v : Int32} {k b : Nat} (hk : k < 32) (hb : b < 32) : bit (v <<< (Int32.ofNat k &&& 31)) b = (decide (k ≤ b) && bit v (b - k)) := by
  unfold bit
  rw [Int32.toBitVec_shiftLeft, sh_31 hk]
  show (v.toBitVec <<< (BitVec.ofNat 32 k).toNat).getLsbD b = _
  rw [BitVec.toNat_ofNat, Nat.mod_eq_of_lt (by omega), BitVec.getLsbD_shiftLeft, decide_eq_true hb, Bool.true_and, ← decide_not]
  exact congrArg (· && _) (decide_eq_decide.2 Nat.not_lt)
theorem bt_shr2 {v : Int32} {k b : Nat} (hk : k < 32) (hb : k + b < 32) : bit (v >>> (Int32.ofNat k &&& 31)) b = bit v (k + b) := by
  unfold bit
  rw [bt_shr hk, BitVec.getLsbD_sshiftRight]
  simp only [show ¬ 32 ≤ b by omega, decide_false, Bool.not_false, Bool.true_and, if_pos hb]
theorem bt_255 {b : Nat} (hb : b < 32) : bit 255 b = decide (b < 8) := by
  have : ∀ b, b < 32 → bit 255 b = decide (b < 8) := by decide +kernel
  exact this b hb
section QR
variable {s : wS} {x : lC} {l : Nat} {f : Nat → Int32} {r : wS}
theorem bitsOf_E (q : QS l x s) (h : r.1 16 = s.1 16) {kd : Nat} (hk : kd < 3) : Tot (wX0_bitsOf 15 (Int32.ofNat kd) r) (fun v => ∀ b, b < 32 → bit v b = decide (b < nk (s.1 163) kd)) := by
  have n8 := (q.2.2.2.2.2 kd hk).2.2
  unfold wX0_bitsOf
  rw [many_r q h hk, t_sbe]
  exact t_some (fun b hb => bt_all n8 hb)
/-- all things as bits -/
theorem bitsAll_E (q : QS l x s) (h : r.1 16 = s.1 16) : Tot (wX0_bitsOfAll 15 r) (fun v => ∀ b, b < 32 → bit v b = (decide (b < 24) && decide (b % 8 < nk (s.1 163) (b / 8)))) := by
  have cf := q.2.2.2.2.2
  have c0 := (cf 0 (by decide)).2.2
  have c1 := (cf 1 (by decide)).2.2
  have c2 := (cf 2 (by decide)).2.2
  obtain ⟨v0, e0, b0⟩ := bitsOf_E q h (kd := 0) (by decide)
  obtain ⟨v1, e1, b1⟩ := bitsOf_E q h (kd := 1) (by decide)
  obtain ⟨v2, e2, b2⟩ := bitsOf_E q h (kd := 2) (by decide)
  have e0 : wX0_bitsOf 15 0 r = some v0 := e0
  have e1 : wX0_bitsOf 15 1 r = some v1 := e1
  have e2 : wX0_bitsOf 15 2 r = some v2 := e2
  have s1 : wX10_slot 1 0 r = some (Int32.ofNat 8) := rfl
  have s2 : wX10_slot 2 0 r = some (Int32.ofNat 16) := rfl
  unfold wX0_bitsOfAll
  rw [e0, t_sbe, e1, t_sbe, s1, t_sbe, e2, t_sbe, s2, t_sbe]
  refine t_some (fun b hb => ?_)
  rw [bt_or, bt_or, bt_shl (by omega) hb, bt_shl (by omega) hb, b0 b hb, b1 (b - 8) (by omega), b2 (b - 16) (by omega), ← Bool.decide_and, ← Bool.decide_and, ← Bool.decide_and, ← Bool.decide_or, ← Bool.decide_or]
  refine decide_eq_decide.2 ?_
  obtain h | h | h | h : b / 8 = 0 ∨ b / 8 = 1 ∨ b / 8 = 2 ∨ b / 8 = 3 := by omega
  · rw [h]
    omega
  · rw [h]
    omega
  · rw [h]
    omega
  · omega
/-- a thing with which an ANSWER may be TRUE -/
noncomputable def ttb (x : lC) (f : Nat → Int32) (a kd t : Nat) : Bool := decide (t < nk f kd) && (!decide (akd f a = kd) || tra x f a t)
theorem trueThings_E (q : QS l x s) {a : Nat} (ha : a < nk (s.1 163) 3) : Tot (wX10_trueThings (44 + 10 * l) (Int32.ofNat a) s) (fun v => ∀ b, b < 32 → bit v b = (decide (b < 24) && ttb x (s.1 163) a (b / 8) (b % 8))) := by
  have cf := q.2.2.2.2.2
  have en := t_cln q.f3.1
  have en2 : nk (s.1 163) 3 = (s.1 163 3).toNatClampNeg := rfl
  have f40 := q.f3.2
  have ha' : (a : Int) < (s.1 163 3).toInt := by omega
  obtain ⟨k3, o1, o2, ek, -⟩ := q.1.af a ha'
  have n8 := (cf _ k3).2.2
  obtain ⟨v, ev, bv⟩ := bitsAll_E q (r := s) rfl
  have sl : wX10_slot (Int32.ofNat (akd (s.1 163) a)) 0 s = some (Int32.ofNat (8 * akd (s.1 163) a)) := slot_o (t := 0) k3 (by decide)
  unfold wX10_trueThings
  rw [(ans_E q.1 ha' (t_on (n := a) (by omega))).2.1, t_sbe, ek, sl, t_sbe, ev, t_sbe, nearThings_E q.1 q.2.1 q.2.2.2.2.1 cf ha', t_sbe]
  refine t_some (fun b hb => ?_)
  rw [bt_or, bt_and, bt_not hb, bt_shl (by omega) hb, bt_shl (by omega) hb, bv b hb, bt_255 (by omega), near_b n8 (by omega)]
  show _ = (decide (b < 24) && (decide (b % 8 < nk (s.1 163) (b / 8)) && (!decide (akd (s.1 163) a = b / 8) || tra x (s.1 163) a (b % 8))))
  by_cases c : akd (s.1 163) a = b / 8
  · have e : b - 8 * akd (s.1 163) a = b % 8 := by omega
    have l1 : 8 * akd (s.1 163) a ≤ b := by omega
    rw [e, decide_eq_true l1, decide_eq_true (show b % 8 < 8 by omega), decide_eq_true c, decide_eq_true (show b < 24 by omega), ← c]
    cases decide (b % 8 < nk (s.1 163) (akd (s.1 163) a)) <;> rfl
  · rw [decide_eq_false c]
    by_cases l1 : 8 * akd (s.1 163) a ≤ b
    · rw [decide_eq_true l1, decide_eq_false (show ¬ b - 8 * akd (s.1 163) a < 8 by omega), decide_eq_false (show ¬ b - 8 * akd (s.1 163) a < nk (s.1 163) (akd (s.1 163) a) by omega)]
      cases decide (b < 24) <;> cases decide (b % 8 < nk (s.1 163) (b / 8)) <;> rfl
    · rw [decide_eq_false l1]
      cases decide (b < 24) <;> cases decide (b % 8 < nk (s.1 163) (b / 8)) <;> rfl
/-- is there a thing of each KIND? -/
noncomputable def hwb (v : Int32) : Prop := ∀ kd, kd < 3 → ∃ t, t < 8 ∧ bit v (8 * kd + t) = true
theorem low_z {v : Int32} {k : Nat} (hk : k ≤ 16) : ((v >>> (Int32.ofNat k &&& 31)) &&& 255) = 0 ↔ ¬ ∃ t, t < 8 ∧ bit v (k + t) = true := by
  rw [bit_z]
  refine ⟨fun h ⟨t, h1, h2⟩ => ?_, fun h b hb => ?_⟩
  · have := h t (by omega)
    rw [bt_and, bt_255 (by omega), decide_eq_true h1, bt_shr2 (by omega) (by omega), h2] at this
    cases this
  · rw [bt_and, bt_255 hb]
    by_cases c : b < 8
    · rw [decide_eq_true c, Bool.and_true, bt_shr2 (by omega) (by omega)]
      exact Bool.eq_false_iff.2 (fun e => h ⟨b, c, e⟩)
    · rw [decide_eq_false c, Bool.and_false]
theorem low_z0 {v : Int32} : (v &&& 255) = 0 ↔ ¬ ∃ t, t < 8 ∧ bit v (0 + t) = true := by
  rw [bit_z]
  refine ⟨fun h ⟨t, h1, h2⟩ => ?_, fun h b hb => ?_⟩
  · have := h t (by omega)
    rw [Nat.zero_add] at h2
    rw [bt_and, bt_255 (by omega), decide_eq_true h1, h2] at this
    cases this
  · rw [bt_and, bt_255 hb]
    by_cases c : b < 8
    · rw [decide_eq_true c, Bool.and_true]
      exact Bool.eq_false_iff.2 (fun e => h ⟨b, c, by rw [Nat.zero_add]; exact e⟩)
    · rw [decide_eq_false c, Bool.and_false]
theorem hasWorld_E {v : Int32} : (hwb v ∧ wX10_hasWorld v s = some 1) ∨ (¬ hwb v ∧ wX10_hasWorld v s = some 0) := by
  have s1 : wX10_slot 1 0 s = some (Int32.ofNat 8) := rfl
  have s2 : wX10_slot 2 0 s = some (Int32.ofNat 16) := rfl
  unfold wX10_hasWorld
  by_cases c0 : ∃ t, t < 8 ∧ bit v (0 + t) = true
  · rw [if_neg (fun h => low_z0.1 h c0), s1, t_sbe]
    by_cases c1 : ∃ t, t < 8 ∧ bit v (8 + t) = true
    · rw [if_neg (fun h => (low_z (by omega)).1 h c1), s2, t_sbe]
      by_cases c2 : ∃ t, t < 8 ∧ bit v (16 + t) = true
      · rw [if_neg (fun h => (low_z (by omega)).1 h c2)]
        refine Or.inl ⟨fun kd hk => ?_, rfl⟩
        obtain rfl | rfl | rfl : kd = 0 ∨ kd = 1 ∨ kd = 2 := by omega
        · exact c0
        · exact c1
        · exact c2
      · rw [if_pos ((low_z (by omega)).2 c2)]
        exact Or.inr ⟨fun h => c2 (h 2 (by decide)), rfl⟩
    · rw [if_pos ((low_z (by omega)).2 c1)]
      exact Or.inr ⟨fun h => c1 (h 1 (by decide)), rfl⟩
  · rw [if_pos (low_z0.2 c0)]
    exact Or.inr ⟨fun h => c0 (h 0 (by decide)), rfl⟩
/-- both TRUE in some WORLD -/
noncomputable def tog (x : lC) (f : Nat → Int32) (a b : Nat) : Bool := (fnd (fun w => trw x f a w && trw x f b w) (nW f) 0).isSome
theorem tog_hw (cf : CFt f) {a b : Nat} (ka : akd f a < 3) (kb : akd f b < 3) {u v : Int32} (hu : ∀ k, k < 32 → bit u k = (decide (k < 24) && ttb x f a (k / 8) (k % 8))) (hv : ∀ k, k < 32 → bit v k = (decide (k < 24) && ttb x f b (k / 8) (k % 8))) : hwb (u &&& v) ↔ tog x f a b = true := by
  have ex : ∀ kd t, kd < 3 → t < 8 → bit (u &&& v) (8 * kd + t) = (ttb x f a kd t && ttb x f b kd t) := fun kd t hk ht => by
    rw [bt_and, hu _ (by omega), hv _ (by omega), decide_eq_true (show 8 * kd + t < 24 by omega), show (8 * kd + t) / 8 = kd by omega, show (8 * kd + t) % 8 = t by omega, Bool.true_and, Bool.true_and]
  unfold tog
  rw [fnd_ex]
  refine ⟨fun h => ?_, fun ⟨w, _, hw, e⟩ kd hk => ?_⟩
  · have get : ∀ kd, kd < 3 → ∃ t, t < nk f kd ∧ (akd f a = kd → tra x f a t = true) ∧ (akd f b = kd → tra x f b t = true) := fun kd hk => by
      obtain ⟨t, ht, e⟩ := h kd hk
      rw [ex kd t hk ht, Bool.and_eq_true] at e
      obtain ⟨e1, e2⟩ := e
      unfold ttb at e1 e2
      rw [Bool.and_eq_true] at e1 e2
      refine ⟨t, of_decide_eq_true e1.1, fun q => ?_, fun q => ?_⟩
      · have := e1.2
        rw [decide_eq_true q, Bool.not_true, Bool.false_or] at this
        exact this
      · have := e2.2
        rw [decide_eq_true q, Bool.not_true, Bool.false_or] at this
        exact this
    obtain ⟨t0, l0, a0, b0⟩ := get 0 (by decide)
    obtain ⟨t1, l1, a1, b1⟩ := get 1 (by decide)
    obtain ⟨t2, l2, a2, b2⟩ := get 2 (by decide)
    obtain ⟨wl, w0, w1, w2⟩ := thn_w l0 l1 l2
    refine ⟨_, Nat.zero_le _, by rw [Nat.zero_add]; exact wl, ?_⟩
    rw [Bool.and_eq_true, trw_a, trw_a]
    constructor
    · obtain k | k | k : akd f a = 0 ∨ akd f a = 1 ∨ akd f a = 2 := by omega
      · rw [k, w0]
        exact a0 k
      · rw [k, w1]
        exact a1 k
      · rw [k, w2]
        exact a2 k
    · obtain k | k | k : akd f b = 0 ∨ akd f b = 1 ∨ akd f b = 2 := by omega
      · rw [k, w0]
        exact b0 k
      · rw [k, w1]
        exact b1 k
      · rw [k, w2]
        exact b2 k
  · rw [Nat.zero_add] at hw
    have tl := thn_lt cf hk hw
    have n8 := (cf kd hk).2.2
    rw [Bool.and_eq_true, trw_a, trw_a] at e
    refine ⟨thn f kd w, by omega, ?_⟩
    rw [ex kd _ hk (by omega)]
    unfold ttb
    rw [decide_eq_true tl, Bool.true_and, Bool.true_and, Bool.and_eq_true]
    constructor
    · by_cases c : akd f a = kd
      · rw [decide_eq_true c, ← c, e.1]
        rfl
      · rw [decide_eq_false c]
        rfl
    · by_cases c : akd f b = kd
      · rw [decide_eq_true c, ← c, e.2]
        rfl
      · rw [decide_eq_false c]
        rfl
theorem tog11_E (c : RCH x f r) {a b : Nat} (ha : a < nk f 3) (hb : b < nk f 3) : wX11_areTrueTogether (Int32.ofNat a) (Int32.ofNat b) r = some (if tog x f a b = true then 1 else 0) := by
  have w5 := c.2.1.w.1
  unfold wX11_areTrueTogether
  have e : wX11_areTrueTogether_h2 (Int32.ofNat a) (Int32.ofNat b) r wFuel (Int32.ofNat 0) = _ := loop_F (L := wX11_areTrueTogether_h2 (Int32.ofNat a) (Int32.ofNat b) r) (p := fun w => trw x f a w && trw x f b w) (r := fun _ => ()) (N := nW f) (by omega) (fun n w hw h => ?_) (fun n w hw h => ?_) (fun n => ?_) (Nat.zero_le _) (wF_k (by omega))
  · rw [show (0 : Int32) = Int32.ofNat 0 from rfl, e, t_sbe]
    unfold tog
    rw [Nat.sub_zero]
    cases fnd (fun w => trw x f a w && trw x f b w) (nW f) 0 <;> rfl
  · rw [Bool.and_eq_true] at h
    rw [wX11_areTrueTogether_h2, c.nw, t_sbe, if_pos ((o_lt (by omega) (by omega)).2 hw), c.tr ha hw, t_sbe, h.1, if_pos rfl, qi1, c.tr hb hw, t_sbe, h.2, if_pos rfl, qi1]
  · rw [wX11_areTrueTogether_h2, c.nw, t_sbe, if_pos ((o_lt (by omega) (by omega)).2 hw), c.tr ha hw, t_sbe]
    unfold wX11_areTrueTogether_j30
    rw [o_1]
    cases ta : trw x f a w
    · rw [b_f, qi0]
    · rw [ta, Bool.true_and] at h
      rw [if_pos rfl, qi1, c.tr hb hw, t_sbe, h, b_f, qi0]
  · rw [wX11_areTrueTogether_h2, c.nw, t_sbe, if_neg (fun c => by have := (o_lt (by omega) (by omega)).1 c; omega)]
/-- they QUARREL -/
noncomputable def qua (x : lC) (f : Nat → Int32) (a b : Nat) : Bool := lkb f a && (lkb f b && !tog x f a b)
theorem op_quarrel {x1 : Int32} (g : JB s) : ∃ v s1 v2 s2, wX10_quarrel x1 s = some (v, s1) ∧ wX11_quarrel x1 s1 = some (v2, s2) ∧ v = v2 := by
  unfold wX10_quarrel wX11_quarrel
  rcases ask_E g x1 with ⟨e, c⟩ | ⟨l, s2, x, q, hx1, e, hf, c⟩
  · rw [e, t_sbe]
    refine ⟨-1, s, -1, s, rfl, ?_, rfl⟩
    rw [c, t_sbe, qi0]
  · rw [e, t_sbe]
    dsimp only [Option.elim]
    have cf := q.2.2.2.2.2
    obtain ⟨r, er, rc⟩ := q.rc
    obtain ⟨n3, n40⟩ := rc.n3
    have en := t_cln q.f3.1
    have en2 : nk (s2.1 163) 3 = (s2.1 163 3).toNatClampNeg := rfl
    obtain ⟨v, ev, hv⟩ := first_v q.1
    have lkN : ∀ a, nk (s2.1 163) 3 ≤ a → lkv (s2.1 163) v a = false := fun a h => Bool.eq_false_iff.2 (fun h => by have := lkv_lt h; omega)
    -- what the class's pair is
    have pr : ∀ (L : Int32 → Option (Unit ⊕ Int32)) a b, a < 40 → b < 40 → (((wX2_first 14 s2).bind fun t7 => (wX2_isLookedAt 14 (Int32.ofNat a) t7 s2).bind fun t9 => if t9 = 0 then (wX10_quarrel_j73 L (44 + 10 * l) (Int32.ofNat a) (Int32.ofNat b) s2) else ((wX2_first 14 s2).bind fun t20 => (wX2_isLookedAt 14 (Int32.ofNat b) t20 s2).bind fun t22 => if t22 = 0 then (wX10_quarrel_j73 L (44 + 10 * l) (Int32.ofNat a) (Int32.ofNat b) s2) else (wX10_quarrel_j74 L (44 + 10 * l) (Int32.ofNat a) (Int32.ofNat b) 1 s2))) = if (lkv (s2.1 163) v a && (lkv (s2.1 163) v b && !tog x (s2.1 163) a b)) = true then some (.inr (Int32.ofNat b)) else L (Int32.ofNat (b + 1))) := fun L a b ha hb => by
      unfold wX10_quarrel_j73 wX10_quarrel_j74 wX10_quarrel_j109
      rw [ev, t_sbe, lkv_E q.1 ha, t_sbe, o_1]
      cases la : lkv (s2.1 163) v a
      · rw [b_f, qi0, qi0, Bool.false_and, b_f]
      · rw [if_pos rfl, qi1, t_sbe, lkv_E q.1 hb, t_sbe, Bool.true_and]
        cases lb : lkv (s2.1 163) v b
        · rw [b_f, qi0, qi0, Bool.false_and, b_f]
        · have la' := lkv_lt la
          have lb' := lkv_lt lb
          obtain ⟨ua, ea, ba⟩ := trueThings_E q (a := a) (by omega)
          obtain ⟨ub, eb, bb⟩ := trueThings_E q (a := b) (by omega)
          have tg := tog_hw (x := x) cf (q.1.af a la').1 (q.1.af b lb').1 ba bb
          rw [if_pos rfl, qi1, qi1, ea, t_sbe, eb, t_sbe, Bool.true_and]
          rcases hasWorld_E (v := ua &&& ub) (s := s2) with ⟨h1, h2⟩ | ⟨h1, h2⟩
          · rw [h2, t_sbe, qi1, tg.1 h1, Bool.not_true, b_f]
          · rw [h2, t_sbe, qi0, Bool.eq_false_iff.2 (fun h => h1 (tg.2 h)), Bool.not_false, if_pos rfl]
    have r10 : ∀ a, a < 40 → wX10_quarrel_h25 (44 + 10 * l) (Int32.ofNat a) s2 wFuel (Int32.ofNat (a + 1)) = some (match fnd (fun b => lkv (s2.1 163) v a && (lkv (s2.1 163) v b && !tog x (s2.1 163) a b)) (40 - (a + 1)) (a + 1) with | none => .inl () | some j => .inr (Int32.ofNat j)) := fun a ha => by
      refine loop_F (L := wX10_quarrel_h25 (44 + 10 * l) (Int32.ofNat a) s2) (N := 40) (by omega) (fun n b hb h => ?_) (fun n b hb h => ?_) (fun n => ?_) (by omega) (wF_k (by omega))
      · rw [wX10_quarrel_h25, if_pos (show Int32.ofNat b < 40 from (o_lt (a := b) (b := 40) (by omega) (by omega)).2 hb), pr _ a b ha hb, if_pos h]
      · rw [wX10_quarrel_h25, if_pos (show Int32.ofNat b < 40 from (o_lt (a := b) (b := 40) (by omega) (by omega)).2 hb), pr _ a b ha hb, if_neg (by rw [h]; decide)]
      · rw [wX10_quarrel_h25, if_neg (by decide)]
    have r11 : ∀ a, a < nk (s2.1 163) 3 → wX11_quarrel_h31 (Int32.ofNat a) r wFuel (Int32.ofNat (a + 1)) = some (match fnd (qua x (s2.1 163) a) (nk (s2.1 163) 3 - (a + 1)) (a + 1) with | none => .inl () | some j => .inr (Int32.ofNat j)) := fun a ha => by
      refine loop_F (L := wX11_quarrel_h31 (Int32.ofNat a) r) (N := nk (s2.1 163) 3) (by omega) (fun n b hb h => ?_) (fun n b hb h => ?_) (fun n => ?_) (by omega) (wF_k (by omega))
      · unfold qua at h
        rw [Bool.and_eq_true, Bool.and_eq_true] at h
        rw [wX11_quarrel_h31, rc.1, n3, if_pos ((o_lt (by omega) (by omega)).2 hb), lkb_E rc.1 (by omega), t_sbe, h.1, if_pos rfl, qi1, lkb_E rc.1 (by omega), t_sbe, h.2.1, if_pos rfl, qi1, tog11_E rc ha hb, t_sbe]
        have t : tog x (s2.1 163) a b = false := by
          have := h.2.2
          cases e : tog x (s2.1 163) a b
          · rfl
          · rw [e] at this
            cases this
        rw [t, b_f, qi0]
      · unfold qua at h
        rw [wX11_quarrel_h31, rc.1, n3, if_pos ((o_lt (by omega) (by omega)).2 hb), lkb_E rc.1 (by omega), t_sbe]
        unfold wX11_quarrel_j73
        rw [o_1]
        cases la : lkb (s2.1 163) a
        · rw [b_f, qi0]
        · rw [if_pos rfl, qi1, lkb_E rc.1 (by omega), t_sbe]
          cases lb : lkb (s2.1 163) b
          · rw [b_f, qi0]
          · rw [la, lb, Bool.true_and, Bool.true_and] at h
            have t : tog x (s2.1 163) a b = true := by
              cases e : tog x (s2.1 163) a b
              · rw [e] at h
                cases h
              · rfl
            rw [if_pos rfl, qi1, tog11_E rc ha hb, t_sbe, t, if_pos rfl, qi1]
      · rw [wX11_quarrel_h31, rc.1, n3, if_neg (fun c => by have := (o_lt (by omega) (by omega)).1 c; omega)]
    -- the rows are alike
    have rows : ∀ a, a < nk (s2.1 163) 3 → fnd (fun b => lkv (s2.1 163) v a && (lkv (s2.1 163) v b && !tog x (s2.1 163) a b)) (40 - (a + 1)) (a + 1) = fnd (qua x (s2.1 163) a) (nk (s2.1 163) 3 - (a + 1)) (a + 1) := fun a ha => fnd_go (n := nk (s2.1 163) 3) (m := 40) n40 (fun b h1 h2 => by rw [lkN b h1, Bool.false_and, Bool.and_false]) rfl (by omega) (fun b h1 h2 => by
      unfold qua
      rw [lkv_b hv (by omega), lkv_b hv (by omega)])
    have l10 : wX10_quarrel_h14 (44 + 10 * l) s2 wFuel (Int32.ofNat 0) = _ := loop_F (L := wX10_quarrel_h14 (44 + 10 * l) s2) (N := 40) (p := fun a => (fnd (fun b => lkv (s2.1 163) v a && (lkv (s2.1 163) v b && !tog x (s2.1 163) a b)) (40 - (a + 1)) (a + 1)).isSome) (r := fun a => (Int32.ofNat a, Int32.ofNat ((fnd (fun b => lkv (s2.1 163) v a && (lkv (s2.1 163) v b && !tog x (s2.1 163) a b)) (40 - (a + 1)) (a + 1)).getD 0))) (by omega) (fun n a ha h => by
      rw [wX10_quarrel_h14, if_pos (show Int32.ofNat a < 40 from (o_lt (a := a) (b := 40) (by omega) (by omega)).2 ha), o_1, r10 a ha, t_sbe]
      cases z : fnd (fun b => lkv (s2.1 163) v a && (lkv (s2.1 163) v b && !tog x (s2.1 163) a b)) (40 - (a + 1)) (a + 1)
      · rw [z] at h
        cases h
      · rfl) (fun n a ha h => by
      rw [wX10_quarrel_h14, if_pos (show Int32.ofNat a < 40 from (o_lt (a := a) (b := 40) (by omega) (by omega)).2 ha), o_1, r10 a ha, t_sbe]
      cases z : fnd (fun b => lkv (s2.1 163) v a && (lkv (s2.1 163) v b && !tog x (s2.1 163) a b)) (40 - (a + 1)) (a + 1)
      · rfl
      · rw [z] at h
        cases h) (fun n => by rw [wX10_quarrel_h14, if_neg (by decide)]) (Nat.zero_le _) (wF_k (by omega))
    have l11 : wX11_quarrel_h17 r wFuel (Int32.ofNat 0) = _ := loop_F (L := wX11_quarrel_h17 r) (N := nk (s2.1 163) 3) (p := fun a => (fnd (qua x (s2.1 163) a) (nk (s2.1 163) 3 - (a + 1)) (a + 1)).isSome) (r := fun a => (Int32.ofNat a, Int32.ofNat ((fnd (qua x (s2.1 163) a) (nk (s2.1 163) 3 - (a + 1)) (a + 1)).getD 0))) (by omega) (fun n a ha h => by
      rw [wX11_quarrel_h17, rc.1, n3, if_pos ((o_lt (by omega) (by omega)).2 ha), o_1, r11 a ha, t_sbe]
      cases z : fnd (qua x (s2.1 163) a) (nk (s2.1 163) 3 - (a + 1)) (a + 1)
      · rw [z] at h
        cases h
      · rfl) (fun n a ha h => by
      rw [wX11_quarrel_h17, rc.1, n3, if_pos ((o_lt (by omega) (by omega)).2 ha), o_1, r11 a ha, t_sbe]
      cases z : fnd (qua x (s2.1 163) a) (nk (s2.1 163) 3 - (a + 1)) (a + 1)
      · rfl
      · rw [z] at h
        cases h) (fun n => by rw [wX11_quarrel_h17, rc.1, n3, if_neg (fun c => by have := (o_lt (by omega) (by omega)).1 c; omega)]) (Nat.zero_le _) (wF_k (by omega))
    have all := fnd_go (p := fun a => (fnd (fun b => lkv (s2.1 163) v a && (lkv (s2.1 163) v b && !tog x (s2.1 163) a b)) (40 - (a + 1)) (a + 1)).isSome) (q := fun a => (fnd (qua x (s2.1 163) a) (nk (s2.1 163) 3 - (a + 1)) (a + 1)).isSome) (n := nk (s2.1 163) 3) (m := 40) n40 (fun a h1 h2 => by
      rw [fnd_no (fun b _ _ => by rw [lkN a h1, Bool.false_and])]
      rfl) (k := 40 - 0) (i := 0) rfl (Nat.zero_le _) (fun a h1 h2 => by
      rw [rows a h2])
    rw [all] at l10
    rw [show (0 : Int32) = Int32.ofNat 0 from rfl, l10, t_sbe]
    have ref : ∀ R, (match (match fnd (fun a => (fnd (qua x (s2.1 163) a) (nk (s2.1 163) 3 - (a + 1)) (a + 1)).isSome) (nk (s2.1 163) 3 - 0) 0 with | none => (.inl () : Unit ⊕ (Int32 × Int32)) | some j => .inr (Int32.ofNat j, Int32.ofNat ((fnd (qua x (s2.1 163) j) (nk (s2.1 163) 3 - (j + 1)) (j + 1)).getD 0))) with | .inl () => some (((Int8.ofInt (-2)).toInt32), r) | .inr (t29, t30) => some (((64 * t29) + t30), r)) = R → ((wX11_canAsk x1 s2).bind fun t1 => if t1 = Int32.ofNat 0 then (some ((-1), s2)) else ((wX11_reaches x1 s2).bind fun s5 => (wX11_quarrel_h17 s5 wFuel (Int32.ofNat 0)).bind fun z25 => (match z25 with | .inl () => some (((Int8.ofInt (-2)).toInt32), s5) | .inr (t29, t30) => some (((64 * t29) + t30), s5)))) = R := fun R hR => by
      rw [c s2 q, t_sbe, if_neg (by decide), hx1, er, t_sbe, l11, t_sbe]
      exact hR
    cases z : fnd (fun a => (fnd (qua x (s2.1 163) a) (nk (s2.1 163) 3 - (a + 1)) (a + 1)).isSome) (nk (s2.1 163) 3 - 0) 0 with
    | none =>
      rw [z] at ref
      exact ⟨_, s2, _, r, rfl, ref _ rfl, rfl⟩
    | some j =>
      rw [z] at ref
      have hj := fnd_lt z
      refine ⟨_, s2, _, r, rfl, ref _ rfl, ?_⟩
      rw [rows j (by omega)]
end QR
