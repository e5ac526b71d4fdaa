section
/-! That the calls answer: the frame and the rules. -/
/-- it answers, so -/
noncomputable def Tot {α : Type} (x : Option α) (Q : α → Prop) : Prop := ∃ a, x = some a ∧ Q a
theorem t_some {α : Type} {Q : α → Prop} {a : α} (h : Q a) : Tot (some a) Q := ⟨a, rfl, h⟩
theorem t_bind {α β : Type} {x : Option α} {f : α → Option β} {P : α → Prop} {Q : β → Prop} (h : Tot x P) (g : ∀ a, P a → Tot (f a) Q) : Tot (x.bind f) Q := by
  obtain ⟨a, rfl, hp⟩ := h
  exact g a hp
theorem t_ite {α : Type} {c : Prop} [Decidable c] {x y : Option α} {Q : α → Prop} (h : c → Tot x Q) (g : ¬ c → Tot y Q) : Tot (if c then x else y) Q := by
  by_cases e : c
  · rw [if_pos e]; exact h e
  · rw [if_neg e]; exact g e
theorem t_elim {α : Type} {o : Option Nat} {x : Option α} {f : Nat → Option α} {Q : α → Prop} (h : o = none → Tot x Q) (g : ∀ k, o = some k → Tot (f k) Q) : Tot (o.elim x f) Q := by
  cases o with
  | none => exact h rfl
  | some k => exact g k rfl
theorem t_mono {α : Type} {x : Option α} {P Q : α → Prop} (h : Tot x P) (g : ∀ a, P a → Q a) : Tot x Q := by
  obtain ⟨a, e, hp⟩ := h
  exact ⟨a, e, g a hp⟩
/-- only these places of the ints were written -/
noncomputable def wA (B : Nat → Nat → Bool) (s s' : wS) : Prop := ∀ k b, B k b = false → s'.1 k b = s.1 k b
theorem wA.refl {B : Nat → Nat → Bool} {s : wS} : wA B s s := fun _ _ _ => rfl
theorem wA.trans {B : Nat → Nat → Bool} {s t u : wS} (h : wA B s t) (g : wA B t u) : wA B s u := fun k b hb => (g k b hb).trans (h k b hb)
theorem wA.mono {B C : Nat → Nat → Bool} {s t : wS} (h : wA B s t) (hBC : ∀ k b, B k b = true → C k b = true) : wA C s t := fun k b hb => h k b (by
  cases e : B k b
  · rfl
  · rw [hBC k b e] at hb; cases hb)
theorem wA_I {B : Nat → Nat → Bool} {s : wS} {k b : Nat} {v : Int32} (h : B k b = true) : wA B s (wupI s k b v) := by
  intro j c hc
  by_cases hj : j = k
  · subst hj
    rw [wupI_k]
    unfold upd
    by_cases hb : c = b
    · subst hb; rw [h] at hc; cases hc
    · rw [if_neg hb]
  · rw [wupI_n hj]
theorem wA_L {B : Nat → Nat → Bool} {s : wS} {k b : Nat} {v : Int64} : wA B s (wupL s k b v) := fun _ _ _ => rfl
theorem t_ix {i : Int32} {n : Nat} (h0 : 0 ≤ i.toInt) (h1 : i.toInt < n) : ¬ (i < 0 ∨ n ≤ i.toNatClampNeg) := by
  rintro (h | h)
  · rw [Int32.lt_iff_toInt_lt] at h
    have : (0 : Int32).toInt = 0 := rfl
    omega
  · unfold Int32.toNatClampNeg at h
    omega
theorem t_ldI {s : wS} {k n : Nat} {i : Int32} (h0 : 0 ≤ i.toInt) (h1 : i.toInt < n) : Tot (wldI s k n i) (fun v => v = s.1 k i.toNatClampNeg) := by
  refine ⟨_, ?_, rfl⟩
  unfold wldI
  rw [if_neg (t_ix h0 h1)]
theorem t_ldL {s : wS} {k n : Nat} {i : Int32} (h0 : 0 ≤ i.toInt) (h1 : i.toInt < n) : Tot (wldL s k n i) (fun v => v = s.2 k i.toNatClampNeg) := by
  refine ⟨_, ?_, rfl⟩
  unfold wldL
  rw [if_neg (t_ix h0 h1)]
theorem t_stI {B : Nat → Nat → Bool} {s : wS} {k n : Nat} {i v : Int32} (h0 : 0 ≤ i.toInt) (h1 : i.toInt < n) (hB : ∀ b, B k b = true) : Tot (wstI s k n i v) (fun s' => wA B s s' ∧ s' = wupI s k i.toNatClampNeg v) := by
  refine ⟨_, ?_, wA_I (hB _), rfl⟩
  unfold wstI
  rw [if_neg (t_ix h0 h1)]
theorem t_stB {B : Nat → Nat → Bool} {s : wS} {k n : Nat} {i v : Int32} (h0 : 0 ≤ i.toInt) (h1 : i.toInt < n) (hB : ∀ b, B k b = true) : Tot (wstB s k n i v) (fun s' => wA B s s' ∧ s' = wupI s k i.toNatClampNeg (vp_nar .byte v)) := by
  refine ⟨_, ?_, wA_I (hB _), rfl⟩
  unfold wstB
  rw [if_neg (t_ix h0 h1)]
theorem t_stZ {B : Nat → Nat → Bool} {s : wS} {k n : Nat} {i v : Int32} (h0 : 0 ≤ i.toInt) (h1 : i.toInt < n) (hB : ∀ b, B k b = true) : Tot (wstZ s k n i v) (fun s' => wA B s s' ∧ s' = wupI s k i.toNatClampNeg (vp_nar .boolean v)) := by
  refine ⟨_, ?_, wA_I (hB _), rfl⟩
  unfold wstZ
  rw [if_neg (t_ix h0 h1)]
theorem t_stL {B : Nat → Nat → Bool} {s : wS} {k n : Nat} {i : Int32} {v : Int64} (h0 : 0 ≤ i.toInt) (h1 : i.toInt < n) : Tot (wstL s k n i v) (fun s' => wA B s s' ∧ s' = wupL s k i.toNatClampNeg v) := by
  refine ⟨_, ?_, wA_L, rfl⟩
  unfold wstL
  rw [if_neg (t_ix h0 h1)]
theorem t_pfI {B : Nat → Nat → Bool} {s : wS} {k b : Nat} {v : Int32} (hB : B k b = true) : Tot (wpfI s k b v) (fun s' => wA B s s' ∧ s' = wupI s k b v) := ⟨_, rfl, wA_I hB, rfl⟩
theorem t_pfL {B : Nat → Nat → Bool} {s : wS} {k b : Nat} {v : Int64} : Tot (wpfL s k b v) (fun s' => wA B s s' ∧ s' = wupL s k b v) := ⟨_, rfl, wA_L, rfl⟩
theorem t_pfZ {B : Nat → Nat → Bool} {s : wS} {k b : Nat} {v : Int32} (hv : v = 0 ∨ v = 1) (hB : B k b = true) : Tot (wpfZ s k b v) (fun s' => wA B s s' ∧ s' = wupI s k b v) := by
  refine ⟨_, ?_, wA_I hB, rfl⟩
  unfold wpfZ
  rw [if_pos hv]
theorem t_dvI {x y : Int32} (h : y.toInt ≠ 0) : Tot (wdvI x y) (fun v => v = x / y) := by
  refine ⟨_, ?_, rfl⟩
  unfold wdvI
  rw [if_neg (fun e => h (by rw [e]; rfl))]
theorem t_rmI {x y : Int32} (h : y.toInt ≠ 0) : Tot (wrmI x y) (fun v => v = x - x / y * y) := by
  refine ⟨_, ?_, rfl⟩
  unfold wrmI
  rw [if_neg (fun e => h (by rw [e]; rfl))]
theorem t_dvL {x y : Int64} (h : ¬ y = 0) : Tot (wdvL x y) (fun v => v = x / y) := by
  refine ⟨_, ?_, rfl⟩
  unfold wdvL
  rw [if_neg h]
theorem t_rmL {x y : Int64} (h : ¬ y = 0) : Tot (wrmL x y) (fun v => v = x - x / y * y) := by
  refine ⟨_, ?_, rfl⟩
  unfold wrmL
  rw [if_neg h]
theorem t_rtZ {v : Int32} (h : v = 0 ∨ v = 1) : Tot (wrtZ v) (fun r => r = v) := by
  refine ⟨_, ?_, rfl⟩
  unfold wrtZ
  rw [if_pos h]
theorem t_ldR3 {i : Int32} (h0 : 0 ≤ i.toInt) (h1 : i.toInt < 6) : Tot (wldR 13 6 i) (fun k => wkd k = 3 ∧ k = 44 + 10 * i.toNatClampNeg) := by
  have h := t_ix (n := 6) h0 (by omega)
  have e : wldR 13 6 i = some (44 + 10 * i.toNatClampNeg) := by
    unfold wldR
    rw [if_neg h]
    have hl : i.toNatClampNeg < 6 := by unfold Int32.toNatClampNeg; omega
    have z : ∀ j < 6, (wrA 13 j).map Nat.pred = some (44 + 10 * j) := by decide +kernel
    exact z _ hl
  exact ⟨_, e, wldR_3 e, rfl⟩
theorem t_ldR2 {i : Int32} (h0 : 0 ≤ i.toInt) (h1 : i.toInt < 4) : Tot (wldR 26 4 i) (fun k => wkd k = 2 ∧ k = 104 + 12 * i.toNatClampNeg) := by
  have h := t_ix (n := 4) h0 (by omega)
  have e : wldR 26 4 i = some (104 + 12 * i.toNatClampNeg) := by
    unfold wldR
    rw [if_neg h]
    have hl : i.toNatClampNeg < 4 := by unfold Int32.toNatClampNeg; omega
    have z : ∀ j < 4, (wrA 26 j).map Nat.pred = some (104 + 12 * j) := by decide +kernel
    exact z _ hl
  exact ⟨_, e, wldR_2 e, rfl⟩
/-- counters: up to a bound -/
theorem t_m0 {x : Int32} (h : 2147483648 - x.toInt < ((0 : Nat) : Int)) : False := by
  have := Int32.toInt_lt x
  omega
theorem t_inc {x e : Int32} (c : x < e) : (x + 1).toInt = x.toInt + 1 := by
  rw [Int32.lt_iff_toInt_lt] at c
  rw [Int32.toInt_add, show (1 : Int32).toInt = 1 from rfl]
  have := Int32.toInt_lt e
  have := Int32.le_toInt x
  exact Int.bmod_eq_of_le (by omega) (by omega)
theorem t_m1 {x e : Int32} {n : Nat} (c : x < e) (h : 2147483648 - x.toInt < ((n + 1 : Nat) : Int)) : 2147483648 - (x + 1).toInt < (n : Int) := by
  rw [t_inc c]
  omega
theorem t_mi {x : Int32} : 2147483648 - x.toInt < ((wFuel : Nat) : Int) := by
  have := Int32.le_toInt x
  have : ((wFuel : Nat) : Int) = 1099511627776 := rfl
  omega
theorem t_n1 {x e : Int32} (c : x < e) (h : 0 ≤ x.toInt) : 0 ≤ (x + 1).toInt := by
  rw [t_inc c]
  omega
theorem t_lt {x e : Int32} (c : x < e) : x.toInt < e.toInt := Int32.lt_iff_toInt_lt.1 c
theorem t_ge {x e : Int32} (c : ¬ x < e) : e.toInt ≤ x.toInt := Int.not_lt.1 (fun h => c (Int32.lt_iff_toInt_lt.2 h))
theorem t_nq {x e : Int32} (c : ¬ x = e) : x.toInt ≠ e.toInt := fun h => c (Int32.toInt_inj.1 h)
/-- what a query may write -/
noncomputable def bQa (k : Nat) : Bool := (Nat.ble 32 k && Nat.ble k 43) || ((Nat.ble 44 k && Nat.ble k 103 && Nat.beq ((k - 44) % 10) 9) || (Nat.ble 165 k && Nat.ble k 168))
noncomputable def bQ (k b : Nat) : Bool := bQa k || ((Nat.ble 44 k && Nat.ble k 103 && Nat.beq ((k - 44) % 10) 0 && (Nat.beq b 9 || Nat.beq b 12)) || (Nat.beq k 152 && (Nat.beq b 22 || (Nat.ble 27 b && Nat.ble b 29) || (Nat.ble 33 b && Nat.ble b 35))))
/-- what a reading may write -/
noncomputable def bRa (k : Nat) : Bool := (Nat.ble 3 k && Nat.ble k 12) || ((Nat.ble 28 k && Nat.ble k 103) || (Nat.ble 165 k && Nat.ble k 168))
noncomputable def bR (k b : Nat) : Bool := bRa k || (Nat.beq k 152 && (Nat.beq b 22 || (Nat.ble 27 b && Nat.ble b 29) || (Nat.ble 33 b && Nat.ble b 35)))
theorem bQ_le_bR : ∀ k b, bQ k b = true → bR k b = true := by
  intro k b h
  simp only [bQ, bR, bQa, bRa, Bool.or_eq_true, Bool.and_eq_true, Nat.ble_eq, Nat.beq_eq] at *
  omega
theorem bQ_3 {k o : Nat} (hk : wkd k = 3) (ho : Nat.beq o 9 = true) : ∀ b, bQ (k + o) b = true := by
  intro b
  obtain rfl := Nat.eq_of_beq_eq_true ho
  have hl := wlt (k := k) (by omega)
  have : ∀ k < 172, wkd k = 3 → bQa (k + 9) = true := by decide +kernel
  unfold bQ
  rw [this k hl hk]
  rfl
theorem bQ_3_9 {k : Nat} (hk : wkd k = 3) : ∀ b, bQ (k + 9) b = true := bQ_3 hk rfl
theorem bQ_3f {k : Nat} (hk : wkd k = 3) : bQ k 9 = true ∧ bQ k 12 = true := by
  have hl := wlt (k := k) (by omega)
  have : ∀ k < 172, wkd k = 3 → bQ k 9 = true ∧ bQ k 12 = true := by decide +kernel
  exact this k hl hk
theorem bQ_3f9 {k : Nat} (hk : wkd k = 3) : bQ k 9 = true := (bQ_3f hk).1
theorem bQ_3f12 {k : Nat} (hk : wkd k = 3) : bQ k 12 = true := (bQ_3f hk).2
theorem bQ_7a {k : Nat} (hk : wkd k = 7) : bQa k = true ∧ bQa (k + 1) = true := by
  have hl := wlt (k := k) (by omega)
  have : ∀ k < 172, wkd k = 7 → bQa k = true ∧ bQa (k + 1) = true := by decide +kernel
  exact this k hl hk
theorem bQ_7_1 {k : Nat} (hk : wkd k = 7) : ∀ b, bQ (k + 1) b = true := fun b => by
  unfold bQ
  rw [(bQ_7a hk).2]
  rfl
theorem bQ_7f1 {k : Nat} (hk : wkd k = 7) : bQ k 1 = true := by
  unfold bQ
  rw [(bQ_7a hk).1]
  rfl
theorem bR_3a {k : Nat} (hk : wkd k = 3) : ∀ o < 10, bRa (k + o) = true := by
  have hl := wlt (k := k) (by omega)
  have : ∀ k < 172, wkd k = 3 → ∀ o < 10, bRa (k + o) = true := by decide +kernel
  exact this k hl hk
theorem bR_3x {k o : Nat} (hk : wkd k = 3) (ho : Nat.blt o 10 = true) : ∀ b, bR (k + o) b = true := fun b => by
  unfold bR
  rw [bR_3a hk o (Nat.le_of_ble_eq_true ho)]
  rfl
theorem bR_3_1 {k : Nat} (hk : wkd k = 3) : ∀ b, bR (k + 1) b = true := bR_3x hk rfl
theorem bR_3_2 {k : Nat} (hk : wkd k = 3) : ∀ b, bR (k + 2) b = true := bR_3x hk rfl
theorem bR_3_3 {k : Nat} (hk : wkd k = 3) : ∀ b, bR (k + 3) b = true := bR_3x hk rfl
theorem bR_3_4 {k : Nat} (hk : wkd k = 3) : ∀ b, bR (k + 4) b = true := bR_3x hk rfl
theorem bR_3_5 {k : Nat} (hk : wkd k = 3) : ∀ b, bR (k + 5) b = true := bR_3x hk rfl
theorem bR_3_0 {k : Nat} (hk : wkd k = 3) : ∀ b, bR k b = true := bR_3x (o := 0) hk rfl
theorem bR_3f1 {k : Nat} (hk : wkd k = 3) : bR k 1 = true := bR_3_0 hk 1
theorem bR_3f6 {k : Nat} (hk : wkd k = 3) : bR k 6 = true := bR_3_0 hk 6
theorem bR_3f12 {k : Nat} (hk : wkd k = 3) : bR k 12 = true := bR_3_0 hk 12
theorem wln_le {k : Nat} (h : wkd k ≠ 99) : wln k ≤ 2400 := by
  have hl := wlt h
  have : ∀ k < 172, wln k ≤ 2400 := by decide +kernel
  exact this k hl
theorem t_cpI {B : Nat → Nat → Bool} {s : wS} {k n k1 n1 : Nat} {sp dp m : Int32} (h : ¬ sp < 0 ∧ ¬ dp < 0 ∧ ¬ m < 0 ∧ sp.toNatClampNeg + m.toNatClampNeg ≤ n ∧ dp.toNatClampNeg + m.toNatClampNeg ≤ n1) (hB : ∀ b, B k1 b = true) : Tot (wcpI s k n k1 n1 sp dp m) (fun s' => wA B s s' ∧ s' = (fun j => if j = k1 then va_cpy (s.1 k) (s.1 k1) sp.toNatClampNeg dp.toNatClampNeg m.toNatClampNeg else s.1 j, s.2)) := by
  refine ⟨_, ?_, ?_, rfl⟩
  · unfold wcpI
    rw [if_pos h]
  · intro j b hb
    by_cases hj : j = k1
    · subst hj
      rw [hB b] at hb
      cases hb
    · simp only [if_neg hj]
theorem wup_same {s : wS} {k b : Nat} {v : Int32} : (wupI s k b v).1 k b = v := by
  rw [wupI_k]
  unfold upd
  rw [if_pos rfl]
theorem wup_nb {s : wS} {k b c : Nat} {v : Int32} (h : c ≠ b) : (wupI s k b v).1 k c = s.1 k c := by
  rw [wupI_k]
  unfold upd
  rw [if_neg h]
theorem t_sub {x y : Int32} (h : -2147483648 ≤ x.toInt - y.toInt) (g : x.toInt - y.toInt < 2147483648) : (x - y).toInt = x.toInt - y.toInt := by
  rw [Int32.toInt_sub]
  exact Int.bmod_eq_of_le (by omega) (by omega)
theorem t_add {x y : Int32} (h : -2147483648 ≤ x.toInt + y.toInt) (g : x.toInt + y.toInt < 2147483648) : (x + y).toInt = x.toInt + y.toInt := by
  rw [Int32.toInt_add]
  exact Int.bmod_eq_of_le (by omega) (by omega)
theorem t_mul {x y : Int32} (h : -2147483648 ≤ x.toInt * y.toInt) (g : x.toInt * y.toInt < 2147483648) : (x * y).toInt = x.toInt * y.toInt := by
  rw [Int32.toInt_mul]
  exact Int.bmod_eq_of_le (by omega) (by omega)
end
section
/-! The leaves of the class. -/
theorem t_i0 : (0 : Int32).toInt = 0 := rfl
theorem wX10_isOutside_T {x0 x1 : Int32} {s : wS} : Tot (wX10_isOutside x0 x1 s) (fun t => (t = 0 ∧ 0 ≤ x0.toInt ∧ x0.toInt < x1.toInt) ∨ (t = 1 ∧ ¬ (0 ≤ x0.toInt ∧ x0.toInt < x1.toInt))) := by
  unfold wX10_isOutside wX10_isOutside_j9
  refine t_ite (fun c => t_some (Or.inr ⟨rfl, ?_⟩)) (fun c => t_ite (fun c1 => t_some (Or.inl ⟨rfl, ?_⟩)) (fun c1 => t_some (Or.inr ⟨rfl, ?_⟩)))
  · have := t_lt c
    rw [t_i0] at this
    omega
  · have h1 := t_ge c
    have h2 := t_lt c1
    rw [t_i0] at h1
    omega
  · have h2 := t_ge c1
    omega
theorem t_ofNat {n : Nat} (h : n ≤ 2400) : (Int32.ofNat n).toInt = n := Int32.toInt_ofNat_of_lt (by omega)
theorem wX10_at_T {k0 : Nat} {x1 : Int32} {s : wS} (hk0 : wkd k0 = 20) : Tot (wX10_at k0 x1 s) (fun v => v = if 0 ≤ x1.toInt ∧ x1.toInt < wln k0 then s.1 k0 x1.toNatClampNeg else 0) := by
  unfold wX10_at
  have hn := wln_le (k := k0) (by omega)
  refine t_ite (fun c => t_some ?_) (fun c => t_ite (fun c1 => ?_) (fun c1 => t_some ?_))
  · have := t_lt c
    rw [t_i0] at this
    rw [if_neg (by omega)]
  · have h1 := t_ge c
    have h2 := t_lt c1
    rw [t_i0] at h1
    rw [t_ofNat hn] at h2
    refine t_bind (t_ldI h1 h2) (fun v hv => t_some ?_)
    rw [if_pos ⟨h1, h2⟩]
    exact hv
  · have h2 := t_ge c1
    rw [t_ofNat hn] at h2
    rw [if_neg (by omega)]
theorem wX10_set_T {B : Nat → Nat → Bool} {k0 : Nat} {x1 x2 : Int32} {s : wS} (hk0 : wkd k0 = 20) (hB : ∀ b, B k0 b = true) : Tot (wX10_set k0 x1 x2 s) (fun s' => wA B s s' ∧ s' = if 0 ≤ x1.toInt ∧ x1.toInt < wln k0 then wupI s k0 x1.toNatClampNeg x2 else s) := by
  unfold wX10_set
  have hn := wln_le (k := k0) (by omega)
  refine t_ite (fun c => t_some ⟨wA.refl, ?_⟩) (fun c => t_ite (fun c1 => ?_) (fun c1 => t_some ⟨wA.refl, ?_⟩))
  · have := t_lt c
    rw [t_i0] at this
    rw [if_neg (by omega)]
  · have h1 := t_ge c
    have h2 := t_lt c1
    rw [t_i0] at h1
    rw [t_ofNat hn] at h2
    refine t_bind (t_stI h1 h2 hB) (fun v hv => t_some ?_)
    rw [if_pos ⟨h1, h2⟩]
    exact hv
  · have h2 := t_ge c1
    rw [t_ofNat hn] at h2
    rw [if_neg (by omega)]
theorem wX10_empty_h2_T {B : Nat → Nat → Bool} {k0 : Nat} (hk0 : wkd k0 = 20) (hB : ∀ b, B k0 b = true) : ∀ (n : Nat) {x1 : Int32} {s : wS}, 0 ≤ x1.toInt → 2147483648 - x1.toInt < (n : Int) → Tot (wX10_empty_h2 k0 n x1 s) (fun r => wA B s r) := by
  intro n
  induction n with
  | zero => intro x1 s hi hm; exact absurd hm t_m0
  | succ n ih =>
    intro x1 s hi hm
    rw [wX10_empty_h2]
    have hn := wln_le (k := k0) (by omega)
    refine t_ite (fun c => ?_) (fun c => t_some wA.refl)
    have h2 := t_lt c
    rw [t_ofNat hn] at h2
    refine t_bind (t_stI hi h2 hB) (fun s1 h => ?_)
    exact t_mono (ih (t_n1 c hi) (t_m1 c hm)) (fun r hr => h.1.trans hr)
theorem wX10_empty_T {B : Nat → Nat → Bool} {k0 : Nat} {s : wS} (hk0 : wkd k0 = 20) (hB : ∀ b, B k0 b = true) : Tot (wX10_empty k0 s) (fun r => wA B s r) := by
  unfold wX10_empty
  refine t_bind (wX10_empty_h2_T hk0 hB _ (by decide) t_mi) (fun s1 h => t_some h)
end
section
/-! The class: its methods answer. -/
theorem wX0_clear_T {B : Nat → Nat → Bool} {k0 : Nat} {s : wS} (hk0 : wkd k0 = 0) (hB : ∀ b, B (k0 + 1) b = true) : Tot (wX0_clear k0 s) (fun (r : wS) => wA B s r) := by
  unfold wX0_clear
  refine t_bind (t_stI (by decide) (by decide) hB) (fun s1 h1 => ?_)
  refine t_bind (t_stI (by decide) (by decide) hB) (fun s2 h2 => ?_)
  refine t_bind (t_stI (by decide) (by decide) hB) (fun s3 h3 => ?_)
  exact t_some ((h1.1.trans h2.1).trans h3.1)
theorem wX0_setHours_T {B : Nat → Nat → Bool} {k0 : Nat} {x1 : Int32} {s : wS} (hk0 : wkd k0 = 0) (hB : ∀ b, B (k0 + 1) b = true) : Tot (wX0_setHours k0 x1 s) (fun (r : wS) => wA B s r) := by
  unfold wX0_setHours wX0_setHours_j19
  have hw := (wly_0_0 hk0).2.2
  refine t_bind wX10_isOutside_T (fun t1 h1 => t_ite (fun c => ?_) (fun c => ?_))
  · refine t_bind (t_stI (by decide) (by rw [hw]; decide) hB) (fun s4 h4 => t_some h4.1)
  · refine t_bind (t_stI (by decide) (by rw [hw]; decide) hB) (fun s4 h4 => t_some h4.1)
theorem wX0_manyOf_T {k0 : Nat} {x1 : Int32} {s : wS} (hk0 : wkd k0 = 0) : Tot (wX0_manyOf k0 x1 s) (fun (_ : Int32) => True) := by
  unfold wX0_manyOf
  refine t_bind (wX10_at_T (wly_0_0 hk0).2.1) (fun t1 h1 => ?_)
  exact t_some trivial
theorem wX10_slot_T {x0 : Int32} {x1 : Int32} {s : wS}  : Tot (wX10_slot x0 x1 s) (fun (_ : Int32) => True) := by
  unfold wX10_slot
  exact t_some trivial
theorem wX0_add_T {B : Nat → Nat → Bool} {k0 : Nat} {x1 x2 x3 : Int32} {s : wS} (hk0 : wkd k0 = 0) (hB : ∀ b, B (k0 + 1) b = true) (hB2 : ∀ b, B (k0 + 2) b = true) (hB3 : ∀ b, B (k0 + 3) b = true) : Tot (wX0_add k0 x1 x2 x3 s) (fun (r : wS) => wA B s r) := by
  unfold wX0_add
  refine t_bind (wX0_manyOf_T hk0) (fun t1 h1 => t_ite (fun c => ?_) (fun c => t_some wA.refl))
  refine t_bind wX10_slot_T (fun t4 h4 => ?_)
  refine t_bind (wX10_set_T (wly_0_1 hk0).2.1 hB2) (fun s7 h7 => ?_)
  refine t_bind wX10_slot_T (fun t9 h9 => ?_)
  refine t_bind (wX10_set_T (wly_0_2 hk0).2.1 hB3) (fun s12 h12 => ?_)
  refine t_bind (wX10_set_T (wly_0_0 hk0).2.1 hB) (fun s15 h15 => ?_)
  exact t_some ((h7.1.trans h12.1).trans h15.1)
theorem wX0_becomes_T {B : Nat → Nat → Bool} {k0 k1 : Nat} {s : wS} (hk0 : wkd k0 = 0) (hk1 : wkd k1 = 0) (hB : ∀ b, B (k0 + 1) b = true) (hB2 : ∀ b, B (k0 + 2) b = true) (hB3 : ∀ b, B (k0 + 3) b = true) : Tot (wX0_becomes k0 k1 s) (fun (r : wS) => wA B s r) := by
  unfold wX0_becomes
  refine t_bind (t_cpI (by decide) hB) (fun s1 h1 => ?_)
  refine t_bind (t_cpI (by decide) hB2) (fun s2 h2 => ?_)
  refine t_bind (t_cpI (by decide) hB3) (fun s3 h3 => ?_)
  exact t_some ((h1.1.trans h2.1).trans h3.1)
theorem wX0_isTold_T {k0 : Nat} {s : wS} (hk0 : wkd k0 = 0) : Tot (wX0_isTold k0 s) (fun (_ : Int32) => True) := by
  unfold wX0_isTold
  refine t_bind (t_ldI (n := 3) (by (try simp only [Int32.lt_iff_toInt_lt, Int32.le_iff_toInt_le, ← Int32.toInt_inj, Int32.reduceToInt] at *) <;> omega) (by (try simp only [Int32.lt_iff_toInt_lt, Int32.le_iff_toInt_le, ← Int32.toInt_inj, Int32.reduceToInt] at *) <;> omega)) (fun t1 h1 => ?_)
  refine t_ite (fun c2 => ?_) (fun c2 => ?_)
  · refine t_bind (t_ldI (n := 3) (by (try simp only [Int32.lt_iff_toInt_lt, Int32.le_iff_toInt_le, ← Int32.toInt_inj, Int32.reduceToInt] at *) <;> omega) (by (try simp only [Int32.lt_iff_toInt_lt, Int32.le_iff_toInt_le, ← Int32.toInt_inj, Int32.reduceToInt] at *) <;> omega)) (fun t3 h3 => ?_)
    refine t_ite (fun c4 => ?_) (fun c4 => ?_)
    · exact t_some trivial
    · exact t_some trivial
  · exact t_some trivial
theorem wX0_worlds_T {k0 : Nat} {s : wS} (hk0 : wkd k0 = 0) : Tot (wX0_worlds k0 s) (fun (_ : Int32) => True) := by
  unfold wX0_worlds
  refine t_bind (t_ldI (n := 3) (by (try simp only [Int32.lt_iff_toInt_lt, Int32.le_iff_toInt_le, ← Int32.toInt_inj, Int32.reduceToInt] at *) <;> omega) (by (try simp only [Int32.lt_iff_toInt_lt, Int32.le_iff_toInt_le, ← Int32.toInt_inj, Int32.reduceToInt] at *) <;> omega)) (fun t1 h1 => ?_)
  refine t_bind (t_ldI (n := 3) (by (try simp only [Int32.lt_iff_toInt_lt, Int32.le_iff_toInt_le, ← Int32.toInt_inj, Int32.reduceToInt] at *) <;> omega) (by (try simp only [Int32.lt_iff_toInt_lt, Int32.le_iff_toInt_le, ← Int32.toInt_inj, Int32.reduceToInt] at *) <;> omega)) (fun t2 h2 => ?_)
  refine t_bind (t_ldI (n := 3) (by (try simp only [Int32.lt_iff_toInt_lt, Int32.le_iff_toInt_le, ← Int32.toInt_inj, Int32.reduceToInt] at *) <;> omega) (by (try simp only [Int32.lt_iff_toInt_lt, Int32.le_iff_toInt_le, ← Int32.toInt_inj, Int32.reduceToInt] at *) <;> omega)) (fun t3 h3 => ?_)
  exact t_some trivial
theorem wX0_has_T {k0 : Nat} {x1 : Int32} {x2 : Int32} {s : wS} (hk0 : wkd k0 = 0) : Tot (wX0_has k0 x1 x2 s) (fun (_ : Int32) => True) := by
  unfold wX0_has
  refine t_bind (wX10_isOutside_T) (fun t1 h1 => ?_)
  refine t_ite (fun c2 => ?_) (fun c2 => ?_)
  · refine t_bind (t_ldI (n := 3) (by (try simp only [Int32.lt_iff_toInt_lt, Int32.le_iff_toInt_le, ← Int32.toInt_inj, Int32.reduceToInt] at *) <;> omega) (by (try simp only [Int32.lt_iff_toInt_lt, Int32.le_iff_toInt_le, ← Int32.toInt_inj, Int32.reduceToInt] at *) <;> omega)) (fun t4 h3 => ?_)
    refine t_bind (wX10_isOutside_T) (fun t5 h4 => ?_)
    refine t_ite (fun c5 => ?_) (fun c5 => ?_)
    · exact t_some trivial
    · exact t_some trivial
  · exact t_some trivial
theorem wX0_firstOf_T {k0 : Nat} {x1 : Int32} {x2 : Int32} {s : wS} (hk0 : wkd k0 = 0) : Tot (wX0_firstOf k0 x1 x2 s) (fun (_ : Int32) => True) := by
  unfold wX0_firstOf
  refine t_bind (wX10_slot_T) (fun t1 h1 => ?_)
  refine t_bind (wX10_at_T (wly_0_1 hk0).2.1) (fun t3 h2 => ?_)
  exact t_some trivial
theorem wX0_secondOf_T {k0 : Nat} {x1 : Int32} {x2 : Int32} {s : wS} (hk0 : wkd k0 = 0) : Tot (wX0_secondOf k0 x1 x2 s) (fun (_ : Int32) => True) := by
  unfold wX0_secondOf
  refine t_bind (wX10_slot_T) (fun t1 h1 => ?_)
  refine t_bind (wX10_at_T (wly_0_2 hk0).2.1) (fun t3 h2 => ?_)
  exact t_some trivial
theorem wX0_bitsOf_T {k0 : Nat} {x1 : Int32} {s : wS} (hk0 : wkd k0 = 0) : Tot (wX0_bitsOf k0 x1 s) (fun (_ : Int32) => True) := by
  unfold wX0_bitsOf
  refine t_bind (wX0_manyOf_T hk0) (fun t1 h1 => ?_)
  exact t_some trivial
theorem wX0_bitsOfAll_T {k0 : Nat} {s : wS} (hk0 : wkd k0 = 0) : Tot (wX0_bitsOfAll k0 s) (fun (_ : Int32) => True) := by
  unfold wX0_bitsOfAll
  refine t_bind (wX0_bitsOf_T hk0) (fun t1 h1 => ?_)
  refine t_bind (wX0_bitsOf_T hk0) (fun t3 h2 => ?_)
  refine t_bind (wX10_slot_T) (fun t5 h3 => ?_)
  refine t_bind (wX0_bitsOf_T hk0) (fun t7 h4 => ?_)
  refine t_bind (wX10_slot_T) (fun t9 h5 => ?_)
  exact t_some trivial
theorem wX0_thingIn_T {k0 : Nat} {x1 : Int32} {x2 : Int32} {s : wS} (hk0 : wkd k0 = 0) : Tot (wX0_thingIn k0 x1 x2 s) (fun (_ : Int32) => True) := by
  unfold wX0_thingIn
  refine t_bind (t_ldI (n := 3) (by (try simp only [Int32.lt_iff_toInt_lt, Int32.le_iff_toInt_le, ← Int32.toInt_inj, Int32.reduceToInt] at *) <;> omega) (by (try simp only [Int32.lt_iff_toInt_lt, Int32.le_iff_toInt_le, ← Int32.toInt_inj, Int32.reduceToInt] at *) <;> omega)) (fun t1 h1 => ?_)
  refine t_bind (t_ldI (n := 3) (by (try simp only [Int32.lt_iff_toInt_lt, Int32.le_iff_toInt_le, ← Int32.toInt_inj, Int32.reduceToInt] at *) <;> omega) (by (try simp only [Int32.lt_iff_toInt_lt, Int32.le_iff_toInt_le, ← Int32.toInt_inj, Int32.reduceToInt] at *) <;> omega)) (fun t2 h2 => ?_)
  refine t_ite (fun c3 => ?_) (fun c3 => ?_)
  · refine t_ite (fun c4 => ?_) (fun c4 => ?_)
    · refine t_ite (fun c5 => ?_) (fun c5 => ?_)
      · refine t_bind (t_dvI (by (try simp only [Int32.lt_iff_toInt_lt, Int32.le_iff_toInt_le, ← Int32.toInt_inj, Int32.reduceToInt] at *) <;> omega)) (fun t6 h6 => ?_)
        refine t_bind (t_dvI (by (try simp only [Int32.lt_iff_toInt_lt, Int32.le_iff_toInt_le, ← Int32.toInt_inj, Int32.reduceToInt] at *) <;> omega)) (fun t7 h7 => ?_)
        exact t_some trivial
      · refine t_ite (fun c8 => ?_) (fun c8 => ?_)
        · refine t_bind (t_dvI (by (try simp only [Int32.lt_iff_toInt_lt, Int32.le_iff_toInt_le, ← Int32.toInt_inj, Int32.reduceToInt] at *) <;> omega)) (fun t9 h9 => ?_)
          refine t_bind (t_rmI (by (try simp only [Int32.lt_iff_toInt_lt, Int32.le_iff_toInt_le, ← Int32.toInt_inj, Int32.reduceToInt] at *) <;> omega)) (fun t10 h10 => ?_)
          exact t_some trivial
        · refine t_bind (t_rmI (by (try simp only [Int32.lt_iff_toInt_lt, Int32.le_iff_toInt_le, ← Int32.toInt_inj, Int32.reduceToInt] at *) <;> omega)) (fun t11 h11 => ?_)
          exact t_some trivial
    · exact t_some trivial
  · exact t_some trivial
theorem wX1_kindOf_T {x0 : Int32} {s : wS}  : Tot (wX1_kindOf x0 s) (fun (_ : Int32) => True) := by
  unfold wX1_kindOf
  refine t_ite (fun c1 => ?_) (fun c1 => ?_)
  · exact t_some trivial
  · refine t_ite (fun c2 => ?_) (fun c2 => ?_)
    · exact t_some trivial
    · refine t_ite (fun c3 => ?_) (fun c3 => ?_)
      · exact t_some trivial
      · exact t_some trivial
noncomputable def sv (s : wS) : Int32 := if 0 ≤ (s.1 3 4).toInt ∧ (s.1 3 4).toInt < (wln 4 : Nat) then s.1 4 (s.1 3 4).toNatClampNeg else 0
theorem wX9_sign_T {s : wS} : Tot (wX9_sign s) (fun t => t = sv s) := by
  unfold wX9_sign
  exact t_bind (wX10_at_T rfl) (fun t1 h => t_some h)
theorem wX9_skip_T {s : wS}  : Tot (wX9_skip s) (fun (r : wS) => wA bR s r) := by
  unfold wX9_skip
  refine t_ite (fun c1 => ?_) (fun c1 => ?_)
  · refine t_bind (t_pfI (B := bR) rfl) (fun s2 h2 => ?_)
    exact t_some h2.1
  · exact t_some wA.refl
theorem wX9_fail_j29_T {s : wS}  : Tot (wX9_fail_j29 s) (fun (r : wS) => wA bR s r) := by
  unfold wX9_fail_j29
  refine t_bind (t_pfI (B := bR) rfl) (fun s5 h1 => ?_)
  exact t_some h1.1
theorem wX9_fail_T {x1 : Int32} {s : wS}  : Tot (wX9_fail x1 s) (fun (r : wS) => wA bR s r) := by
  unfold wX9_fail
  refine t_ite (fun c1 => ?_) (fun c1 => ?_)
  · refine t_bind (wX10_at_T rfl) (fun t2 h2 => ?_)
    refine t_bind (t_pfI (B := bR) rfl) (fun s4 h3 => ?_)
    exact t_mono (wX9_fail_j29_T) (fun r h => (h3.1.trans h))
  · exact t_mono (wX9_fail_j29_T) (fun r h => h)
theorem wX9_takeNumber_j45_T {x3 : Int32} {s : wS}  : Tot (wX9_takeNumber_j45 x3 s) (fun (r : Int32 × wS) => wA bR s r.2) := by
  unfold wX9_takeNumber_j45
  refine t_bind (wX9_fail_T) (fun s8 h1 => ?_)
  exact t_some h1
theorem wX9_takeNumber_T {x1 : Int32} {x2 : Int32} {s : wS}  : Tot (wX9_takeNumber x1 x2 s) (fun (r : Int32 × wS) => wA bR s r.2) := by
  unfold wX9_takeNumber
  refine t_bind (wX10_at_T rfl) (fun t1 h1 => ?_)
  refine t_bind (wX10_at_T rfl) (fun t3 h2 => ?_)
  refine t_ite (fun c3 => ?_) (fun c3 => ?_)
  · refine t_ite (fun c4 => ?_) (fun c4 => ?_)
    · exact t_mono (wX9_takeNumber_j45_T) (fun r h => h)
    · refine t_ite (fun c5 => ?_) (fun c5 => ?_)
      · exact t_mono (wX9_takeNumber_j45_T) (fun r h => h)
      · refine t_bind (wX9_skip_T) (fun s12 h6 => ?_)
        exact t_some h6
  · refine t_bind (wX9_fail_T) (fun s15 h7 => ?_)
    exact t_some h7
theorem wX1_readClause_j121_T {y1 : Int32} {y2 : Int32} {y4 : Int32} {y5 : Int32} {s : wS}  : Tot (wX1_readClause_j121 9 y1 y2 y4 y5 s) (fun (r : wS) => wA bR s r) := by
  unfold wX1_readClause_j121
  refine t_bind (wX9_takeNumber_T) (fun r2 h1 => ?_)
  obtain ⟨t26, s27⟩ := r2
  dsimp only at h1 ⊢
  refine t_bind (wX0_add_T rfl (B := bR) (fun _ => rfl) (fun _ => rfl) (fun _ => rfl)) (fun s30 h3 => ?_)
  have a4 := h1.trans h3
  exact t_some a4
theorem wX1_readClause_j51_T {x4 : Int32} {y0 : Int32} {s : wS}  : Tot (wX1_readClause_j51 9 x4 y0 s) (fun (r : wS) => wA bR s r) := by
  unfold wX1_readClause_j51
  refine t_ite (fun c1 => ?_) (fun c1 => ?_)
  · refine t_bind (wX9_skip_T) (fun s12 h2 => ?_)
    refine t_ite (fun c3 => ?_) (fun c3 => ?_)
    · refine t_bind (wX9_takeNumber_T) (fun r5 h4 => ?_)
      obtain ⟨t15, s16⟩ := r5
      dsimp only at h4 ⊢
      have a6 := h2.trans h4
      refine t_bind (wX0_setHours_T rfl (B := bR) (fun _ => rfl)) (fun s19 h7 => ?_)
      have a8 := a6.trans h7
      refine t_bind (t_pfZ (B := bR) (by decide) rfl) (fun s21 h9 => ?_)
      have a10 := a8.trans h9.1
      exact t_some a10
    · refine t_bind (wX9_takeNumber_T) (fun r12 h11 => ?_)
      obtain ⟨t22, s23⟩ := r12
      dsimp only at h11 ⊢
      have a13 := h2.trans h11
      refine t_ite (fun c14 => ?_) (fun c14 => ?_)
      · exact t_mono (wX1_readClause_j121_T) (fun r h => (a13.trans h))
      · exact t_mono (wX1_readClause_j121_T) (fun r h => (a13.trans h))
  · refine t_bind (wX9_fail_T) (fun s33 h15 => ?_)
    exact t_some h15
theorem wX1_readClause_T {s : wS}  : Tot (wX1_readClause 9 s) (fun (r : wS) => wA bR s r) := by
  unfold wX1_readClause
  refine t_bind (wX9_sign_T) (fun t1 h1 => ?_)
  refine t_bind (wX1_kindOf_T) (fun t3 h2 => ?_)
  refine t_ite (fun c3 => ?_) (fun c3 => ?_)
  · refine t_bind (wX9_fail_T) (fun s7 h4 => ?_)
    exact t_some h4
  · refine t_ite (fun c5 => ?_) (fun c5 => ?_)
    · exact t_mono (wX1_readClause_j51_T) (fun r h => h)
    · refine t_bind (wX0_manyOf_T rfl) (fun t35 h6 => ?_)
      refine t_ite (fun c7 => ?_) (fun c7 => ?_)
      · exact t_mono (wX1_readClause_j51_T) (fun r h => h)
      · exact t_mono (wX1_readClause_j51_T) (fun r h => h)
theorem wX9_take_T {x1 : Int32} {s : wS} : Tot (wX9_take x1 s) (fun (r : Int32 × wS) => wA bR s r.2 ∧ ((r.1 = 1 ∧ sv s = x1) ∨ r = (0, s))) := by
  unfold wX9_take
  refine t_bind (wX10_at_T rfl) (fun t1 h => ?_)
  refine t_ite (fun c => ?_) (fun c => t_some ⟨wA.refl, Or.inr rfl⟩)
  refine t_bind wX9_skip_T (fun s5 h5 => t_some ⟨h5, Or.inl ⟨rfl, ?_⟩⟩)
  rw [← c, h]
  rfl
theorem wX1_read_h14_T    : ∀ (n : Nat) {x3 : Int32} {x4 : Int32} {s : wS}, 2147483648 - x4.toInt < (n : Int) → Tot (wX1_read_h14 9 n x3 x4 s) (fun (r : wS) => wA bR s r) := by
  intro n
  induction n with
  | zero =>
    intro x3 x4 s hm
    exact (t_m0 hm).elim
  | succ n ih =>
    intro x3 x4 s hm
    rw [wX1_read_h14]
    refine t_ite (fun c1 => ?_) (fun c1 => ?_)
    · refine t_ite (fun c2 => ?_) (fun c2 => ?_)
      · exact t_some wA.refl
      · refine t_bind (wX1_readClause_T) (fun s8 h3 => ?_)
        refine t_bind (wX9_take_T) (fun r5 h4 => ?_)
        obtain ⟨t10, s11⟩ := r5
        dsimp only at h4 ⊢
        have a6 := h3.trans h4.1
        exact t_mono (ih (t_m1 c1 hm)) (fun r h => (a6.trans h))
    · exact t_some wA.refl
theorem wX1_read_j58_T {s : wS}  : Tot (wX1_read_j58 s) (fun (r : wS) => wA bR s r) := by
  unfold wX1_read_j58
  refine t_bind (wX9_fail_T) (fun s24 h1 => ?_)
  exact t_some h1
theorem wX1_read_j44_T {s : wS}  : Tot (wX1_read_j44 9 s) (fun (r : wS) => wA bR s r) := by
  unfold wX1_read_j44
  refine t_bind (wX9_sign_T) (fun t17 h1 => ?_)
  refine t_ite (fun c2 => ?_) (fun c2 => ?_)
  · refine t_bind (wX0_isTold_T rfl) (fun t20 h3 => ?_)
    refine t_ite (fun c4 => ?_) (fun c4 => ?_)
    · exact t_mono (wX1_read_j58_T) (fun r h => h)
    · exact t_some wA.refl
  · exact t_mono (wX1_read_j58_T) (fun r h => h)
theorem wX1_read_T {s : wS}  : Tot (wX1_read 9 s) (fun (r : wS) => wA bR s r) := by
  unfold wX1_read
  refine t_bind (wX0_clear_T rfl (B := bR) (fun _ => rfl)) (fun s2 h1 => ?_)
  refine t_bind (t_pfZ (B := bR) (by decide) rfl) (fun s4 h2 => ?_)
  have a3 := h1.trans h2.1
  refine t_bind (wX1_read_h14_T  _   t_mi) (fun s14 h4 => ?_)
  have a5 := a3.trans h4
  exact t_mono (wX1_read_j44_T) (fun r h => (a5.trans h))
theorem wX2_mayStillGive_h4_T {k0 : Nat} {x1 : Int32} {s : wS} (hk0 : wkd k0 = 2)  : ∀ (n : Nat) {x2 : Int32} {x3 : Int32}, 2147483648 - x3.toInt < (n : Int) → Tot (wX2_mayStillGive_h4 k0 x1 s n x2 x3) (fun (_ : Int32) => True) := by
  intro n
  induction n with
  | zero =>
    intro x2 x3 hm
    exact (t_m0 hm).elim
  | succ n ih =>
    intro x2 x3 hm
    rw [wX2_mayStillGive_h4]
    refine t_ite (fun c1 => ?_) (fun c1 => ?_)
    · refine t_bind (wX10_at_T (wly_2_1 hk0).2.1) (fun t2 h2 => ?_)
      refine t_ite (fun c3 => ?_) (fun c3 => ?_)
      · unfold wX2_mayStillGive_j27
        exact t_mono (ih (t_m1 c1 hm)) (fun _ _ => trivial)
      · unfold wX2_mayStillGive_j27
        exact t_mono (ih (t_m1 c1 hm)) (fun _ _ => trivial)
    · exact t_some trivial
theorem wX2_mayStillGive_T {k0 : Nat} {x1 : Int32} {s : wS} (hk0 : wkd k0 = 2) : Tot (wX2_mayStillGive k0 x1 s) (fun (_ : Int32) => True) := by
  unfold wX2_mayStillGive
  refine t_bind (wX2_mayStillGive_h4_T hk0 _   t_mi) (fun t6 h1 => ?_)
  exact t_some trivial
theorem wX2_hasAnswer_T {k0 : Nat} {x1 : Int32} {s : wS} (hk0 : wkd k0 = 2) : Tot (wX2_hasAnswer k0 x1 s) (fun (_ : Int32) => True) := by
  unfold wX2_hasAnswer
  refine t_bind (wX10_isOutside_T) (fun t1 h1 => ?_)
  refine t_ite (fun c2 => ?_) (fun c2 => ?_)
  · exact t_some trivial
  · exact t_some trivial
theorem wX2_isStruck_T {k0 : Nat} {x1 : Int32} {s : wS} (hk0 : wkd k0 = 2) : Tot (wX2_isStruck k0 x1 s) (fun (_ : Int32) => True) := by
  unfold wX2_isStruck
  refine t_bind (wX10_isOutside_T) (fun t1 h1 => ?_)
  refine t_ite (fun c2 => ?_) (fun c2 => ?_)
  · refine t_bind (t_ldI (n := 40) (by (try simp only [Int32.lt_iff_toInt_lt, Int32.le_iff_toInt_le, ← Int32.toInt_inj, Int32.reduceToInt] at *) <;> omega) (by (try simp only [Int32.lt_iff_toInt_lt, Int32.le_iff_toInt_le, ← Int32.toInt_inj, Int32.reduceToInt] at *) <;> omega)) (fun t4 h3 => ?_)
    refine t_ite (fun c4 => ?_) (fun c4 => ?_)
    · exact t_some trivial
    · exact t_some trivial
  · exact t_some trivial
theorem wX2_first_T {k0 : Nat} {s : wS} (hk0 : wkd k0 = 2) : Tot (wX2_first k0 s) (fun (_ : Int32) => True) := by
  unfold wX2_first
  refine t_ite (fun c1 => ?_) (fun c1 => ?_)
  · exact t_some trivial
  · exact t_some trivial
theorem wX2_isLookedAt_T {k0 : Nat} {x1 : Int32} {x2 : Int32} {s : wS} (hk0 : wkd k0 = 2) : Tot (wX2_isLookedAt k0 x1 x2 s) (fun (_ : Int32) => True) := by
  unfold wX2_isLookedAt
  refine t_ite (fun c1 => ?_) (fun c1 => ?_)
  · refine t_bind (wX2_hasAnswer_T hk0) (fun t2 h2 => ?_)
    refine t_ite (fun c3 => ?_) (fun c3 => ?_)
    · exact t_some trivial
    · refine t_bind (wX2_isStruck_T hk0) (fun t5 h4 => ?_)
      refine t_ite (fun c5 => ?_) (fun c5 => ?_)
      · exact t_some trivial
      · exact t_some trivial
  · exact t_some trivial
theorem wX2_struckOnes_h4_T {k0 : Nat} {s : wS} (hk0 : wkd k0 = 2)  : ∀ (n : Nat) {x1 : Int32} {x2 : Int32}, 2147483648 - x2.toInt < (n : Int) → Tot (wX2_struckOnes_h4 k0 s n x1 x2) (fun (_ : Int32) => True) := by
  intro n
  induction n with
  | zero =>
    intro x1 x2 hm
    exact (t_m0 hm).elim
  | succ n ih =>
    intro x1 x2 hm
    rw [wX2_struckOnes_h4]
    refine t_ite (fun c1 => ?_) (fun c1 => ?_)
    · refine t_bind (wX2_isStruck_T hk0) (fun t2 h2 => ?_)
      refine t_ite (fun c3 => ?_) (fun c3 => ?_)
      · unfold wX2_struckOnes_j23
        exact t_mono (ih (t_m1 c1 hm)) (fun _ _ => trivial)
      · unfold wX2_struckOnes_j23
        exact t_mono (ih (t_m1 c1 hm)) (fun _ _ => trivial)
    · exact t_some trivial
theorem wX2_struckOnes_T {k0 : Nat} {s : wS} (hk0 : wkd k0 = 2) : Tot (wX2_struckOnes k0 s) (fun (_ : Int32) => True) := by
  unfold wX2_struckOnes
  refine t_bind (wX2_struckOnes_h4_T hk0 _   t_mi) (fun t6 h1 => ?_)
  exact t_some trivial
theorem wX2_lookedAtOnes_h4_T {k0 : Nat} {s : wS} (hk0 : wkd k0 = 2)  : ∀ (n : Nat) {x1 : Int32} {x2 : Int32}, 2147483648 - x2.toInt < (n : Int) → Tot (wX2_lookedAtOnes_h4 k0 s n x1 x2) (fun (_ : Int32) => True) := by
  intro n
  induction n with
  | zero =>
    intro x1 x2 hm
    exact (t_m0 hm).elim
  | succ n ih =>
    intro x1 x2 hm
    rw [wX2_lookedAtOnes_h4]
    refine t_ite (fun c1 => ?_) (fun c1 => ?_)
    · refine t_bind (wX2_first_T hk0) (fun t2 h2 => ?_)
      refine t_bind (wX2_isLookedAt_T hk0) (fun t4 h3 => ?_)
      refine t_ite (fun c4 => ?_) (fun c4 => ?_)
      · unfold wX2_lookedAtOnes_j27
        exact t_mono (ih (t_m1 c1 hm)) (fun _ _ => trivial)
      · unfold wX2_lookedAtOnes_j27
        exact t_mono (ih (t_m1 c1 hm)) (fun _ _ => trivial)
    · exact t_some trivial
theorem wX2_lookedAtOnes_T {k0 : Nat} {s : wS} (hk0 : wkd k0 = 2) : Tot (wX2_lookedAtOnes k0 s) (fun (_ : Int32) => True) := by
  unfold wX2_lookedAtOnes
  refine t_bind (wX2_lookedAtOnes_h4_T hk0 _   t_mi) (fun t8 h1 => ?_)
  exact t_some trivial
theorem wX3_clear_T {k0 : Nat} {s : wS} (hk0 : wkd k0 = 3) : Tot (wX3_clear k0 s) (fun (r : wS) => wA bR s r) := by
  unfold wX3_clear
  refine t_bind (t_pfI (B := bR) (bR_3f1 hk0)) (fun s1 h1 => ?_)
  refine t_bind (t_pfI (B := bR) (bR_3f6 hk0)) (fun s2 h2 => ?_)
  have a3 := h1.1.trans h2.1
  refine t_bind (t_pfZ (B := bR) (by decide) (bR_3f12 hk0)) (fun s3 h4 => ?_)
  have a5 := a3.trans h4.1
  exact t_some a5
theorem wX3_put_T {k0 : Nat} {x1 : Int32} {s : wS} (hk0 : wkd k0 = 3) : Tot (wX3_put k0 x1 s) (fun (r : wS) => wA bR s r) := by
  unfold wX3_put
  refine t_ite (fun c1 => ?_) (fun c1 => ?_)
  · exact t_some wA.refl
  · refine t_ite (fun c2 => ?_) (fun c2 => ?_)
    · exact t_some wA.refl
    · refine t_ite (fun c3 => ?_) (fun c3 => ?_)
      · refine t_bind (t_stI (B := bR) (n := 400) (by (try simp only [Int32.lt_iff_toInt_lt, Int32.le_iff_toInt_le, ← Int32.toInt_inj, Int32.reduceToInt] at *) <;> omega) (by (try simp only [Int32.lt_iff_toInt_lt, Int32.le_iff_toInt_le, ← Int32.toInt_inj, Int32.reduceToInt] at *) <;> omega) (bR_3_1 hk0)) (fun s4 h4 => ?_)
        have f5 : s4.1 k0 1 = s.1 k0 1 := by rw [h4.2, wupI_n (by omega)]
        refine t_bind (t_pfI (B := bR) (bR_3f1 hk0)) (fun s5 h6 => ?_)
        have a7 := h4.1.trans h6.1
        exact t_some a7
      · exact t_some wA.refl
theorem wX3_addClause_T {k0 : Nat} {x1 : Int32} {x2 : Int32} {x3 : Int32} {s : wS} (hk0 : wkd k0 = 3) : Tot (wX3_addClause k0 x1 x2 x3 s) (fun (r : wS) => wA bR s r) := by
  unfold wX3_addClause
  refine t_bind (wX10_isOutside_T) (fun t1 h1 => ?_)
  refine t_ite (fun c2 => ?_) (fun c2 => ?_)
  · refine t_bind (t_stI (B := bR) (n := 12) (by (try simp only [Int32.lt_iff_toInt_lt, Int32.le_iff_toInt_le, ← Int32.toInt_inj, Int32.reduceToInt] at *) <;> omega) (by (try simp only [Int32.lt_iff_toInt_lt, Int32.le_iff_toInt_le, ← Int32.toInt_inj, Int32.reduceToInt] at *) <;> omega) (bR_3_2 hk0)) (fun s4 h3 => ?_)
    have f4 : s4.1 k0 6 = s.1 k0 6 := by rw [h3.2, wupI_n (by omega)]
    refine t_bind (t_stI (B := bR) (n := 12) (by (try simp only [Int32.lt_iff_toInt_lt, Int32.le_iff_toInt_le, ← Int32.toInt_inj, Int32.reduceToInt] at *) <;> omega) (by (try simp only [Int32.lt_iff_toInt_lt, Int32.le_iff_toInt_le, ← Int32.toInt_inj, Int32.reduceToInt] at *) <;> omega) (bR_3_3 hk0)) (fun s5 h5 => ?_)
    have a6 := h3.1.trans h5.1
    have f7 : s5.1 k0 6 = s4.1 k0 6 := by rw [h5.2, wupI_n (by omega)]
    refine t_bind (t_stI (B := bR) (n := 12) (by (try simp only [Int32.lt_iff_toInt_lt, Int32.le_iff_toInt_le, ← Int32.toInt_inj, Int32.reduceToInt] at *) <;> omega) (by (try simp only [Int32.lt_iff_toInt_lt, Int32.le_iff_toInt_le, ← Int32.toInt_inj, Int32.reduceToInt] at *) <;> omega) (bR_3_4 hk0)) (fun s6 h8 => ?_)
    have a9 := a6.trans h8.1
    have f10 : s6.1 k0 6 = s5.1 k0 6 := by rw [h8.2, wupI_n (by omega)]
    have f11 : s6.1 k0 1 = s5.1 k0 1 := by rw [h8.2, wupI_n (by omega)]
    refine t_bind (t_stI (B := bR) (n := 12) (by (try simp only [Int32.lt_iff_toInt_lt, Int32.le_iff_toInt_le, ← Int32.toInt_inj, Int32.reduceToInt] at *) <;> omega) (by (try simp only [Int32.lt_iff_toInt_lt, Int32.le_iff_toInt_le, ← Int32.toInt_inj, Int32.reduceToInt] at *) <;> omega) (bR_3_5 hk0)) (fun s7 h12 => ?_)
    have a13 := a9.trans h12.1
    have f14 : s7.1 k0 6 = s6.1 k0 6 := by rw [h12.2, wupI_n (by omega)]
    refine t_bind (t_pfI (B := bR) (bR_3f6 hk0)) (fun s8 h15 => ?_)
    have a16 := a13.trans h15.1
    exact t_some a16
  · exact t_some wA.refl
theorem wX3_cell_T {x0 : Int32} {x1 : Int32} {x2 : Int32} {s : wS}  : Tot (wX3_cell x0 x1 x2 s) (fun (_ : Int32) => True) := by
  unfold wX3_cell
  refine t_bind (wX10_slot_T) (fun t1 h1 => ?_)
  exact t_some trivial
theorem wX3_farOf_T {k0 : Nat} {x1 : Int32} {x2 : Int32} {x3 : Int32} {s : wS} (hk0 : wkd k0 = 3) : Tot (wX3_farOf k0 x1 x2 x3 s) (fun (_ : Int64) => True) := by
  unfold wX3_farOf
  refine t_bind (wX3_cell_T) (fun t1 h1 => ?_)
  refine t_bind (wX10_isOutside_T) (fun t3 h2 => ?_)
  refine t_ite (fun c3 => ?_) (fun c3 => ?_)
  · refine t_bind (t_ldL (n := 192) (by (try simp only [Int32.lt_iff_toInt_lt, Int32.le_iff_toInt_le, ← Int32.toInt_inj, Int32.reduceToInt] at *) <;> omega) (by (try simp only [Int32.lt_iff_toInt_lt, Int32.le_iff_toInt_le, ← Int32.toInt_inj, Int32.reduceToInt] at *) <;> omega)) (fun t6 h4 => ?_)
    exact t_some trivial
  · exact t_some trivial
theorem wX3_nearOf_T {k0 : Nat} {x1 : Int32} {x2 : Int32} {x3 : Int32} {s : wS} (hk0 : wkd k0 = 3) : Tot (wX3_nearOf k0 x1 x2 x3 s) (fun (_ : Int32) => True) := by
  unfold wX3_nearOf
  refine t_bind (wX3_cell_T) (fun t1 h1 => ?_)
  refine t_bind (wX10_at_T (wly_3_11 hk0).2.1) (fun t3 h2 => ?_)
  exact t_some trivial
theorem wX3_setWord_T {k0 : Nat} {x1 : Int32} {x2 : Int32} {s : wS} (hk0 : wkd k0 = 3) : Tot (wX3_setWord k0 x1 x2 s) (fun (r : wS) => wA bQ s r) := by
  unfold wX3_setWord
  refine t_ite (fun c1 => ?_) (fun c1 => ?_)
  · exact t_some wA.refl
  · refine t_ite (fun c2 => ?_) (fun c2 => ?_)
    · refine t_bind (t_stL (B := bQ) (n := 8) (by (try simp only [Int32.lt_iff_toInt_lt, Int32.le_iff_toInt_le, ← Int32.toInt_inj, Int32.reduceToInt] at *) <;> omega) (by (try simp only [Int32.lt_iff_toInt_lt, Int32.le_iff_toInt_le, ← Int32.toInt_inj, Int32.reduceToInt] at *) <;> omega)) (fun s3 h3 => ?_)
      exact t_some h3.1
    · exact t_some wA.refl
theorem wX3_setWords_j180_T {k100 : Nat} {y1 : Int32} {y2 : Int32} {s : wS} (hk100 : wkd k100 = 3) : Tot (wX3_setWords_j180 k100 y1 y2 s) (fun (r : wS) => wA bQ s r) := by
  unfold wX3_setWords_j180
  refine t_bind (wX3_setWord_T hk100) (fun s38 h1 => ?_)
  exact t_some h1
theorem wX3_setWords_j179_T {k100 : Nat} {y1 : Int32} {s : wS} (hk100 : wkd k100 = 3) : Tot (wX3_setWords_j179 k100 y1 s) (fun (r : wS) => wA bQ s r) := by
  unfold wX3_setWords_j179
  exact t_mono (wX3_setWords_j180_T hk100) (fun r h => h)
theorem wX3_setWords_j159_T {k0 : Nat} {x6 : Int32} {x8 : Int32} {k100 : Nat} {y1 : Int32} {y2 : Int32} {s : wS} (hk0 : wkd k0 = 3) (hk100 : wkd k100 = 3) : Tot (wX3_setWords_j159 k0 x6 x8 k100 y1 y2 s) (fun (r : wS) => wA bQ s r) := by
  unfold wX3_setWords_j159
  refine t_bind (wX3_setWord_T hk100) (fun s34 h1 => ?_)
  refine t_ite (fun c2 => ?_) (fun c2 => ?_)
  · exact t_mono (wX3_setWords_j179_T hk0) (fun r h => (h1.trans h))
  · refine t_ite (fun c3 => ?_) (fun c3 => ?_)
    · exact t_mono (wX3_setWords_j180_T hk0) (fun r h => (h1.trans h))
    · exact t_mono (wX3_setWords_j179_T hk0) (fun r h => (h1.trans h))
theorem wX3_setWords_j142_T {k0 : Nat} {x5 : Int32} {x6 : Int32} {x8 : Int32} {k100 : Nat} {y1 : Int32} {y2 : Int32} {s : wS} (hk0 : wkd k0 = 3) (hk100 : wkd k100 = 3) : Tot (wX3_setWords_j142 k0 x5 x6 x8 k100 y1 y2 s) (fun (r : wS) => wA bQ s r) := by
  unfold wX3_setWords_j142
  refine t_bind (wX3_setWord_T hk100) (fun s30 h1 => ?_)
  refine t_ite (fun c2 => ?_) (fun c2 => ?_)
  · exact t_mono (wX3_setWords_j159_T hk0 hk0) (fun r h => (h1.trans h))
  · exact t_mono (wX3_setWords_j159_T hk0 hk0) (fun r h => (h1.trans h))
theorem wX3_setWords_j121_T {k0 : Nat} {k1 : Nat} {x2 : Int32} {x3 : Int32} {x5 : Int32} {x6 : Int32} {x8 : Int32} {k100 : Nat} {y1 : Int32} {y2 : Int32} {s : wS} (hk0 : wkd k0 = 3) (hk1 : wkd k1 = 0) (hk100 : wkd k100 = 3) : Tot (wX3_setWords_j121 k0 k1 x2 x3 x5 x6 x8 k100 y1 y2 s) (fun (r : wS) => wA bQ s r) := by
  unfold wX3_setWords_j121
  refine t_bind (wX3_setWord_T hk100) (fun s26 h1 => ?_)
  refine t_ite (fun c2 => ?_) (fun c2 => ?_)
  · exact t_mono (wX3_setWords_j142_T hk0 hk0) (fun r h => (h1.trans h))
  · refine t_bind (wX0_firstOf_T hk1) (fun t41 h3 => ?_)
    exact t_mono (wX3_setWords_j142_T hk0 hk0) (fun r h => (h1.trans h))
theorem wX3_setWords_j104_T {k0 : Nat} {k1 : Nat} {x2 : Int32} {x3 : Int32} {x5 : Int32} {x6 : Int32} {x7 : Int32} {x8 : Int32} {k100 : Nat} {y1 : Int32} {y2 : Int32} {s : wS} (hk0 : wkd k0 = 3) (hk1 : wkd k1 = 0) (hk100 : wkd k100 = 3) : Tot (wX3_setWords_j104 k0 k1 x2 x3 x5 x6 x7 x8 k100 y1 y2 s) (fun (r : wS) => wA bQ s r) := by
  unfold wX3_setWords_j104
  refine t_bind (wX3_setWord_T hk100) (fun s22 h1 => ?_)
  refine t_ite (fun c2 => ?_) (fun c2 => ?_)
  · exact t_mono (wX3_setWords_j121_T hk0 hk1 hk0) (fun r h => (h1.trans h))
  · exact t_mono (wX3_setWords_j121_T hk0 hk1 hk0) (fun r h => (h1.trans h))
theorem wX3_setWords_j60_T {k0 : Nat} {k1 : Nat} {x2 : Int32} {x3 : Int32} {x4 : Int32} {x5 : Int32} {x6 : Int32} {x7 : Int32} {y0 : Int32} {s : wS} (hk0 : wkd k0 = 3) (hk1 : wkd k1 = 0) : Tot (wX3_setWords_j60 k0 k1 x2 x3 x4 x5 x6 x7 y0 s) (fun (r : wS) => wA bQ s r) := by
  unfold wX3_setWords_j60
  refine t_bind (wX3_setWord_T hk0) (fun s12 h1 => ?_)
  refine t_bind (wX3_setWord_T hk0) (fun s15 h2 => ?_)
  have a3 := h1.trans h2
  refine t_bind (wX3_setWord_T hk0) (fun s18 h4 => ?_)
  have a5 := a3.trans h4
  refine t_ite (fun c6 => ?_) (fun c6 => ?_)
  · exact t_mono (wX3_setWords_j104_T hk0 hk1 hk0) (fun r h => (a5.trans h))
  · exact t_mono (wX3_setWords_j104_T hk0 hk1 hk0) (fun r h => (a5.trans h))
theorem wX3_setWords_j48_T {k0 : Nat} {k1 : Nat} {x2 : Int32} {x3 : Int32} {x4 : Int32} {x5 : Int32} {x6 : Int32} {y0 : Int32} {s : wS} (hk0 : wkd k0 = 3) (hk1 : wkd k1 = 0) : Tot (wX3_setWords_j48 k0 k1 x2 x3 x4 x5 x6 y0 s) (fun (r : wS) => wA bQ s r) := by
  unfold wX3_setWords_j48
  refine t_ite (fun c1 => ?_) (fun c1 => ?_)
  · exact t_mono (wX3_setWords_j60_T hk0 hk1) (fun r h => h)
  · exact t_mono (wX3_setWords_j60_T hk0 hk1) (fun r h => h)
theorem wX3_setWords_T {k0 : Nat} {k1 : Nat} {x2 : Int32} {x3 : Int32} {x4 : Int32} {s : wS} (hk0 : wkd k0 = 3) (hk1 : wkd k1 = 0) : Tot (wX3_setWords k0 k1 x2 x3 x4 s) (fun (r : wS) => wA bQ s r) := by
  unfold wX3_setWords
  refine t_bind (wX0_firstOf_T hk1) (fun t1 h1 => ?_)
  refine t_bind (wX0_firstOf_T hk1) (fun t3 h2 => ?_)
  refine t_bind (wX0_secondOf_T hk1) (fun t5 h3 => ?_)
  refine t_bind (wX0_secondOf_T hk1) (fun t7 h4 => ?_)
  refine t_ite (fun c5 => ?_) (fun c5 => ?_)
  · exact t_mono (wX3_setWords_j48_T hk0 hk1) (fun r h => h)
  · exact t_mono (wX3_setWords_j48_T hk0 hk1) (fun r h => h)
theorem wX3_wordOf_T {k0 : Nat} {x1 : Int32} {s : wS} (hk0 : wkd k0 = 3) : Tot (wX3_wordOf k0 x1 s) (fun (_ : Int64) => True) := by
  unfold wX3_wordOf
  refine t_ite (fun c1 => ?_) (fun c1 => ?_)
  · exact t_some trivial
  · refine t_ite (fun c2 => ?_) (fun c2 => ?_)
    · refine t_bind (t_ldL (n := 8) (by (try simp only [Int32.lt_iff_toInt_lt, Int32.le_iff_toInt_le, ← Int32.toInt_inj, Int32.reduceToInt] at *) <;> omega) (by (try simp only [Int32.lt_iff_toInt_lt, Int32.le_iff_toInt_le, ← Int32.toInt_inj, Int32.reduceToInt] at *) <;> omega)) (fun t3 h3 => ?_)
      exact t_some trivial
    · exact t_some trivial
theorem wX3_push_T {k0 : Nat} {x1 : Int64} {s : wS} (hk0 : wkd k0 = 3) : Tot (wX3_push k0 x1 s) (fun (r : wS) => wA bQ s r) := by
  unfold wX3_push
  refine t_ite (fun c1 => ?_) (fun c1 => ?_)
  · exact t_some wA.refl
  · refine t_ite (fun c2 => ?_) (fun c2 => ?_)
    · refine t_bind (t_stL (B := bQ) (n := 61) (by (try simp only [Int32.lt_iff_toInt_lt, Int32.le_iff_toInt_le, ← Int32.toInt_inj, Int32.reduceToInt] at *) <;> omega) (by (try simp only [Int32.lt_iff_toInt_lt, Int32.le_iff_toInt_le, ← Int32.toInt_inj, Int32.reduceToInt] at *) <;> omega)) (fun s3 h3 => ?_)
      have f4 : s3.1 k0 9 = s.1 k0 9 := by rw [h3.2]; rfl
      refine t_bind (t_pfI (B := bQ) (bQ_3f9 hk0)) (fun s4 h5 => ?_)
      have a6 := h3.1.trans h5.1
      exact t_some a6
    · exact t_some wA.refl
theorem wX3_pop_T {k0 : Nat} {s : wS} (hk0 : wkd k0 = 3) : Tot (wX3_pop k0 s) (fun (r : Int64 × wS) => wA bQ s r.2) := by
  unfold wX3_pop
  refine t_ite (fun c1 => t_some wA.refl) (fun c1 => t_ite (fun c2 => t_some wA.refl) (fun c2 => ?_))
  refine t_bind (t_pfI (B := bQ) (bQ_3f9 hk0)) (fun s3 h3 => ?_)
  have f : s3.1 k0 9 = s.1 k0 9 - 1 := by rw [h3.2]; exact wup_same
  have h1 := t_ge c1
  have h2 := t_ge c2
  have e1 : (1 : Int32).toInt = 1 := rfl
  have e2 : (61 : Int32).toInt = 61 := rfl
  rw [e1] at h1
  rw [e2] at h2
  have g := t_sub (x := s.1 k0 9) (y := 1) (by omega) (by omega)
  rw [e1] at g
  refine t_bind (t_ldL (by rw [f]; omega) (by rw [f]; omega)) (fun t4 h4 => t_some h3.1)
theorem wX3_joined_j170_T {x1 : Int64} {x3 : Int64} {s : wS}  : Tot (wX3_joined_j170 x1 x3 s) (fun (_ : Int64) => True) := by
  unfold wX3_joined_j170
  exact t_some trivial
theorem wX3_joined_T {x0 : Int32} {x1 : Int64} {x3 : Int64} {s : wS}  : Tot (wX3_joined x0 x1 x3 s) (fun (_ : Int64) => True) := by
  unfold wX3_joined
  refine t_ite (fun c1 => ?_) (fun c1 => ?_)
  · exact t_some trivial
  · refine t_ite (fun c2 => ?_) (fun c2 => ?_)
    · exact t_some trivial
    · refine t_ite (fun c3 => ?_) (fun c3 => ?_)
      · exact t_some trivial
      · refine t_ite (fun c4 => ?_) (fun c4 => ?_)
        · refine t_ite (fun c5 => ?_) (fun c5 => ?_)
          · exact t_some trivial
          · refine t_bind (t_dvL (by assumption)) (fun t6 h6 => ?_)
            exact t_some trivial
        · refine t_ite (fun c7 => ?_) (fun c7 => ?_)
          · refine t_ite (fun c8 => ?_) (fun c8 => ?_)
            · exact t_some trivial
            · exact t_some trivial
          · refine t_ite (fun c9 => ?_) (fun c9 => ?_)
            · refine t_ite (fun c10 => ?_) (fun c10 => ?_)
              · exact t_some trivial
              · exact t_some trivial
            · refine t_ite (fun c11 => ?_) (fun c11 => ?_)
              · refine t_ite (fun c12 => ?_) (fun c12 => ?_)
                · exact t_some trivial
                · exact t_some trivial
              · refine t_ite (fun c13 => ?_) (fun c13 => ?_)
                · refine t_ite (fun c14 => ?_) (fun c14 => ?_)
                  · exact t_some trivial
                  · exact t_some trivial
                · refine t_ite (fun c15 => ?_) (fun c15 => ?_)
                  · refine t_ite (fun c16 => ?_) (fun c16 => ?_)
                    · exact t_some trivial
                    · exact t_some trivial
                  · refine t_ite (fun c17 => ?_) (fun c17 => ?_)
                    · exact t_some trivial
                    · exact t_mono (wX3_joined_j170_T) (fun _ _ => trivial)
theorem wX3_run_h7_T {k0 : Nat} {x2 : Int32} (hk0 : wkd k0 = 3)  : ∀ (n : Nat) {x3 : Int32} {s : wS}, 2147483648 - x3.toInt < (n : Int) → Tot (wX3_run_h7 k0 x2 n x3 s) (fun (r : wS) => wA bQ s r) := by
  intro n
  induction n with
  | zero =>
    intro x3 s hm
    exact (t_m0 hm).elim
  | succ n ih =>
    intro x3 s hm
    rw [wX3_run_h7]
    refine t_ite (fun c1 => ?_) (fun c1 => ?_)
    · refine t_bind (wX10_at_T (wly_3_0 hk0).2.1) (fun t3 h2 => ?_)
      refine t_ite (fun c3 => ?_) (fun c3 => ?_)
      · refine t_ite (fun c4 => ?_) (fun c4 => ?_)
        · refine t_ite (fun c5 => ?_) (fun c5 => ?_)
          · refine t_bind (wX3_pop_T hk0) (fun r7 h6 => ?_)
            obtain ⟨t8, s9⟩ := r7
            dsimp only at h6 ⊢
            refine t_bind (wX3_push_T hk0) (fun s12 h8 => ?_)
            have a9 := h6.trans h8
            unfold wX3_run_j103
            exact t_mono (ih (t_m1 c1 hm)) (fun r h => (a9.trans h))
          · refine t_bind (wX3_pop_T hk0) (fun r11 h10 => ?_)
            obtain ⟨t14, s15⟩ := r11
            dsimp only at h10 ⊢
            refine t_bind (wX3_pop_T hk0) (fun r13 h12 => ?_)
            obtain ⟨t17, s18⟩ := r13
            dsimp only at h12 ⊢
            have a14 := h10.trans h12
            refine t_bind (wX3_joined_T) (fun t20 h15 => ?_)
            refine t_bind (wX3_push_T hk0) (fun s23 h16 => ?_)
            have a17 := a14.trans h16
            unfold wX3_run_j103
            exact t_mono (ih (t_m1 c1 hm)) (fun r h => (a17.trans h))
        · refine t_bind (wX3_wordOf_T hk0) (fun t25 h18 => ?_)
          refine t_bind (wX3_push_T hk0) (fun s28 h19 => ?_)
          unfold wX3_run_j103
          exact t_mono (ih (t_m1 c1 hm)) (fun r h => (h19.trans h))
      · refine t_bind (wX3_push_T hk0) (fun s31 h20 => ?_)
        unfold wX3_run_j103
        exact t_mono (ih (t_m1 c1 hm)) (fun r h => (h20.trans h))
    · exact t_some wA.refl
theorem wX3_run_T {k0 : Nat} {x1 : Int32} {x2 : Int32} {s : wS} (hk0 : wkd k0 = 3) : Tot (wX3_run k0 x1 x2 s) (fun (r : Int64 × wS) => wA bQ s r.2) := by
  unfold wX3_run
  refine t_bind (t_pfI (B := bQ) (bQ_3f9 hk0)) (fun s1 h1 => ?_)
  refine t_bind (wX3_run_h7_T hk0 _   t_mi) (fun s34 h2 => ?_)
  have a3 := h1.1.trans h2
  refine t_bind (wX3_pop_T hk0) (fun r5 h4 => ?_)
  obtain ⟨t41, s42⟩ := r5
  dsimp only at h4 ⊢
  have a6 := a3.trans h4
  exact t_some a6
theorem wX3_farByClauses_h2_T {k0 : Nat} {x1 : Int32} (hk0 : wkd k0 = 3) : ∀ (n : Nat) {x2 : Int32} {s : wS}, 0 ≤ x2.toInt → 2147483648 - x2.toInt < (n : Int) → Tot (wX3_farByClauses_h2 k0 x1 n x2 s) (Sum.elim (fun (r : wS) => wA bQ s r) (fun (r : Int32 × wS) => wA bQ s r.2 ∧ 0 ≤ r.1.toInt ∧ r.1.toInt < 12)) := by
  intro n
  induction n with
  | zero => intro x2 s hi hm; exact (t_m0 hm).elim
  | succ n ih =>
    intro x2 s hi hm
    rw [wX3_farByClauses_h2]
    refine t_ite (fun c0 => t_ite (fun c1 => ?_) (fun c1 => t_some wA.refl)) (fun c0 => t_some wA.refl)
    have h12 := t_lt c1
    have e12 : (12 : Int32).toInt = 12 := rfl
    rw [e12] at h12
    refine t_bind (t_ldI (n := 12) hi (by omega)) (fun t3 h3 => ?_)
    refine t_bind (t_ldI (n := 12) hi (by omega)) (fun t4 h4 => ?_)
    have step : ∀ s1, wA bQ s s1 → Tot (wX3_farByClauses_h2 k0 x1 n (x2 + 1) s1) (Sum.elim (fun (r : wS) => wA bQ s r) (fun (r : Int32 × wS) => wA bQ s r.2 ∧ 0 ≤ r.1.toInt ∧ r.1.toInt < 12)) := fun s1 h1 => t_mono (ih (t_n1 c0 hi) (t_m1 c0 hm)) (fun r h => match r, h with | .inl r, h => h1.trans h | .inr r, h => ⟨h1.trans h.1, h.2⟩)
    have j : ∀ y0, Tot (wX3_farByClauses_j36 (wX3_farByClauses_h2 k0 x1 n) k0 x1 x2 y0 s) (Sum.elim (fun (r : wS) => wA bQ s r) (fun (r : Int32 × wS) => wA bQ s r.2 ∧ 0 ≤ r.1.toInt ∧ r.1.toInt < 12)) := by
      intro y0
      unfold wX3_farByClauses_j36
      refine t_bind (t_ldI (n := 12) hi (by omega)) (fun t6 h6 => ?_)
      refine t_ite (fun c2 => t_ite (fun c3 => t_some ⟨wA.refl, hi, h12⟩) (fun c3 => ?_)) (fun c2 => step _ wA.refl)
      refine t_bind (t_ldI (n := 12) hi (by omega)) (fun t9 h9 => ?_)
      refine t_bind (t_ldI (n := 12) hi (by omega)) (fun t10 h10 => ?_)
      refine t_bind (wX3_run_T hk0) (fun r11 h11 => ?_)
      obtain ⟨t11, s12⟩ := r11
      dsimp only at h11 ⊢
      exact t_ite (fun c4 => step _ h11) (fun c4 => t_some ⟨h11, hi, h12⟩)
    exact t_ite (fun c2 => j 1) (fun c2 => j 0)
theorem wX3_farByClauses_j95_T {k0 : Nat} {s : wS} (hk0 : wkd k0 = 3) : Tot (wX3_farByClauses_j95 k0 s) (fun (r : Int64 × wS) => wA bQ s r.2) := by
  unfold wX3_farByClauses_j95
  refine t_bind (wX3_wordOf_T hk0) (fun t20 h1 => ?_)
  exact t_some wA.refl
theorem wX3_farByClauses_T {k0 : Nat} {x1 : Int32} {s : wS} (hk0 : wkd k0 = 3) : Tot (wX3_farByClauses k0 x1 s) (fun (r : Int64 × wS) => wA bQ s r.2) := by
  unfold wX3_farByClauses
  refine t_bind (wX3_farByClauses_h2_T hk0 _ (by decide) t_mi) (fun z15 hz => ?_)
  rcases z15 with s16 | ⟨t22, s23⟩
  · exact t_mono (wX3_farByClauses_j95_T hk0) (fun r h => wA.trans hz h)
  · obtain ⟨h1, h2, h3⟩ := hz
    dsimp only at h1 h2 h3 ⊢
    unfold wX3_farByClauses_j72
    refine t_bind (t_ldI (n := 12) h2 (by omega)) (fun t26 h26 => ?_)
    refine t_bind (t_ldI (n := 12) h2 (by omega)) (fun t27 h27 => ?_)
    refine t_bind (wX3_run_T hk0) (fun r28 h28 => ?_)
    obtain ⟨t28, s29⟩ := r28
    exact t_some (h1.trans h28)
theorem wX3_measureFar_h14_T {k0 : Nat} {k1 : Nat} {x2 : Int32} {x3 : Int32} (hk0 : wkd k0 = 3) (hk1 : wkd k1 = 0)  : ∀ (n : Nat) {x4 : Int32} {s : wS}, 2147483648 - x4.toInt < (n : Int) → Tot (wX3_measureFar_h14 k0 k1 x2 x3 n x4 s) (fun (r : wS) => wA bQ s r) := by
  intro n
  induction n with
  | zero =>
    intro x4 s hm
    exact (t_m0 hm).elim
  | succ n ih =>
    intro x4 s hm
    rw [wX3_measureFar_h14]
    refine t_bind (wX0_manyOf_T hk1) (fun t4 h1 => ?_)
    refine t_ite (fun c2 => ?_) (fun c2 => ?_)
    · refine t_bind (wX3_setWords_T hk0 hk1) (fun s8 h3 => ?_)
      refine t_bind (wX3_cell_T) (fun t10 h4 => ?_)
      refine t_bind (wX10_isOutside_T) (fun t12 h5 => ?_)
      refine t_ite (fun c6 => ?_) (fun c6 => ?_)
      · refine t_bind (wX3_farByClauses_T hk0) (fun r8 h7 => ?_)
        obtain ⟨t15, s16⟩ := r8
        dsimp only at h7 ⊢
        have a9 := h3.trans h7
        refine t_bind (t_stL (B := bQ) (n := 192) (by (try simp only [Int32.lt_iff_toInt_lt, Int32.le_iff_toInt_le, ← Int32.toInt_inj, Int32.reduceToInt] at *) <;> omega) (by (try simp only [Int32.lt_iff_toInt_lt, Int32.le_iff_toInt_le, ← Int32.toInt_inj, Int32.reduceToInt] at *) <;> omega)) (fun s18 h10 => ?_)
        have a11 := a9.trans h10.1
        unfold wX3_measureFar_j67
        exact t_mono (ih (t_m1 c2 hm)) (fun r h => (a11.trans h))
      · unfold wX3_measureFar_j67
        exact t_mono (ih (t_m1 c2 hm)) (fun r h => (h3.trans h))
    · exact t_some wA.refl
theorem wX3_measureFar_h2_T {k0 : Nat} {k1 : Nat} {x2 : Int32} (hk0 : wkd k0 = 3) (hk1 : wkd k1 = 0)  : ∀ (n : Nat) {x3 : Int32} {s : wS}, 2147483648 - x3.toInt < (n : Int) → Tot (wX3_measureFar_h2 k0 k1 x2 n x3 s) (fun (r : wS) => wA bQ s r) := by
  intro n
  induction n with
  | zero =>
    intro x3 s hm
    exact (t_m0 hm).elim
  | succ n ih =>
    intro x3 s hm
    rw [wX3_measureFar_h2]
    refine t_bind (wX0_manyOf_T hk1) (fun t1 h1 => ?_)
    refine t_ite (fun c2 => ?_) (fun c2 => ?_)
    · refine t_bind (wX3_measureFar_h14_T hk0 hk1 _   t_mi) (fun s20 h3 => ?_)
      exact t_mono (ih (t_m1 c2 hm)) (fun r h => (h3.trans h))
    · exact t_some wA.refl
theorem wX3_measureFar_T {k0 : Nat} {k1 : Nat} {x2 : Int32} {s : wS} (hk0 : wkd k0 = 3) (hk1 : wkd k1 = 0) : Tot (wX3_measureFar k0 k1 x2 s) (fun (r : wS) => wA bQ s r) := by
  unfold wX3_measureFar
  refine t_bind (wX3_measureFar_h2_T hk0 hk1 _   t_mi) (fun s24 h1 => ?_)
  exact t_some h1
theorem wX3_measureNear_h30_T {k0 : Nat} {x2 : Int32} {x3 : Int32} {x4 : Int32} {x5 : Int32} {s : wS} (hk0 : wkd k0 = 3)  : ∀ (n : Nat) {x6 : Int32} {x7 : Int32}, 2147483648 - x7.toInt < (n : Int) → Tot (wX3_measureNear_h30 k0 x2 x3 x4 x5 s n x6 x7) (fun (_ : Int32) => True) := by
  intro n
  induction n with
  | zero =>
    intro x6 x7 hm
    exact (t_m0 hm).elim
  | succ n ih =>
    intro x6 x7 hm
    rw [wX3_measureNear_h30]
    refine t_ite (fun c1 => ?_) (fun c1 => ?_)
    · refine t_bind (wX3_farOf_T hk0) (fun t6 h2 => ?_)
      refine t_bind (wX3_farOf_T hk0) (fun t8 h3 => ?_)
      refine t_ite (fun c4 => ?_) (fun c4 => ?_)
      · unfold wX3_measureNear_j67
        exact t_mono (ih (t_m1 c1 hm)) (fun _ _ => trivial)
      · unfold wX3_measureNear_j67
        exact t_mono (ih (t_m1 c1 hm)) (fun _ _ => trivial)
    · exact t_some trivial
theorem wX3_measureNear_h18_T {k0 : Nat} {x2 : Int32} {x3 : Int32} {x4 : Int32} (hk0 : wkd k0 = 3)  : ∀ (n : Nat) {x5 : Int32} {s : wS}, 2147483648 - x5.toInt < (n : Int) → Tot (wX3_measureNear_h18 k0 x2 x3 x4 n x5 s) (fun (r : wS) => wA bQ s r) := by
  intro n
  induction n with
  | zero =>
    intro x5 s hm
    exact (t_m0 hm).elim
  | succ n ih =>
    intro x5 s hm
    rw [wX3_measureNear_h18]
    refine t_ite (fun c1 => ?_) (fun c1 => ?_)
    · refine t_bind (wX3_measureNear_h30_T hk0 _   t_mi) (fun t12 h2 => ?_)
      refine t_bind (wX3_cell_T) (fun t15 h3 => ?_)
      refine t_bind (wX10_set_T (wly_3_11 hk0).2.1 (B := bQ) (bQ_3_9 hk0)) (fun s18 h4 => ?_)
      exact t_mono (ih (t_m1 c1 hm)) (fun r h => (h4.1.trans h))
    · exact t_some wA.refl
theorem wX3_measureNear_h9_T {k0 : Nat} {x2 : Int32} {x3 : Int32} (hk0 : wkd k0 = 3)  : ∀ (n : Nat) {x4 : Int32} {s : wS}, 2147483648 - x4.toInt < (n : Int) → Tot (wX3_measureNear_h9 k0 x2 x3 n x4 s) (fun (r : wS) => wA bQ s r) := by
  intro n
  induction n with
  | zero =>
    intro x4 s hm
    exact (t_m0 hm).elim
  | succ n ih =>
    intro x4 s hm
    rw [wX3_measureNear_h9]
    refine t_ite (fun c1 => ?_) (fun c1 => ?_)
    · refine t_bind (wX3_measureNear_h18_T hk0 _   t_mi) (fun s21 h2 => ?_)
      exact t_mono (ih (t_m1 c1 hm)) (fun r h => (h2.trans h))
    · exact t_some wA.refl
theorem wX3_measureNear_T {k0 : Nat} {k1 : Nat} {x2 : Int32} {s : wS} (hk0 : wkd k0 = 3) (hk1 : wkd k1 = 0) : Tot (wX3_measureNear k0 k1 x2 s) (fun (r : wS) => wA bQ s r) := by
  unfold wX3_measureNear
  refine t_bind (wX0_manyOf_T hk1) (fun t1 h1 => ?_)
  refine t_bind (wX3_measureNear_h9_T hk0 _   t_mi) (fun s27 h2 => ?_)
  exact t_some h2
theorem wX3_measure_h2_T {k0 : Nat} {k1 : Nat} (hk0 : wkd k0 = 3) (hk1 : wkd k1 = 0)  : ∀ (n : Nat) {x2 : Int32} {s : wS}, 2147483648 - x2.toInt < (n : Int) → Tot (wX3_measure_h2 k0 k1 n x2 s) (fun (r : wS) => wA bQ s r) := by
  intro n
  induction n with
  | zero =>
    intro x2 s hm
    exact (t_m0 hm).elim
  | succ n ih =>
    intro x2 s hm
    rw [wX3_measure_h2]
    refine t_ite (fun c1 => ?_) (fun c1 => ?_)
    · refine t_bind (wX3_measureFar_T hk0 hk1) (fun s3 h2 => ?_)
      refine t_bind (wX3_measureNear_T hk0 hk1) (fun s6 h3 => ?_)
      have a4 := h2.trans h3
      exact t_mono (ih (t_m1 c1 hm)) (fun r h => (a4.trans h))
    · exact t_some wA.refl
theorem wX3_measure_T {k0 : Nat} {k1 : Nat} {s : wS} (hk0 : wkd k0 = 3) (hk1 : wkd k1 = 0) : Tot (wX3_measure k0 k1 s) (fun (r : wS) => wA bQ s r) := by
  unfold wX3_measure
  refine t_bind (wX3_measure_h2_T hk0 hk1 _   t_mi) (fun s9 h1 => ?_)
  refine t_bind (t_pfZ (B := bQ) (by decide) (bQ_3f12 hk0)) (fun s12 h2 => ?_)
  have a3 := h1.trans h2.1
  exact t_some a3
theorem wX4_kindOf_T {x0 : Int32} {s : wS}  : Tot (wX4_kindOf x0 s) (fun (_ : Int32) => True) := by
  unfold wX4_kindOf
  refine t_ite (fun c1 => ?_) (fun c1 => ?_)
  · exact t_some trivial
  · refine t_ite (fun c2 => ?_) (fun c2 => ?_)
    · exact t_some trivial
    · refine t_ite (fun c3 => ?_) (fun c3 => ?_)
      · exact t_some trivial
      · exact t_some trivial
theorem wX9_number_T {s : wS}  : Tot (wX9_number s) (fun (_ : Int32) => True) := by
  unfold wX9_number
  refine t_bind (wX10_at_T rfl) (fun t1 h1 => ?_)
  exact t_some trivial
theorem wX4_readValue_j34_T {s : wS}  : Tot (wX4_readValue_j34 s) (fun (r : wS) => wA bR s r) := by
  unfold wX4_readValue_j34
  refine t_bind (wX9_fail_T) (fun s7 h1 => ?_)
  exact t_some h1
theorem wX4_readValue_j111_T {k100 : Nat} {y1 : Int32} {s : wS} (hk100 : wkd k100 = 3) : Tot (wX4_readValue_j111 k100 y1 s) (fun (r : wS) => wA bR s r) := by
  unfold wX4_readValue_j111
  refine t_bind (wX3_put_T hk100) (fun s15 h1 => ?_)
  refine t_bind (wX9_skip_T) (fun s18 h2 => ?_)
  have a3 := h1.trans h2
  exact t_some a3
theorem wX4_readValue_j67_T {k2 : Nat} {x3 : Int32} {x4 : Int32} {s : wS} (hk2 : wkd k2 = 3) : Tot (wX4_readValue_j67 k2 x3 x4 s) (fun (r : wS) => wA bR s r) := by
  unfold wX4_readValue_j67
  refine t_ite (fun c1 => ?_) (fun c1 => ?_)
  · refine t_bind (t_pfI (B := bR) rfl) (fun s12 h2 => ?_)
    refine t_ite (fun c3 => ?_) (fun c3 => ?_)
    · exact t_mono (wX4_readValue_j111_T hk2) (fun r h => (h2.1.trans h))
    · refine t_bind (wX9_number_T) (fun t20 h4 => ?_)
      exact t_mono (wX4_readValue_j111_T hk2) (fun r h => (h2.1.trans h))
  · refine t_bind (wX9_fail_T) (fun s23 h5 => ?_)
    exact t_some h5
theorem wX4_readValue_j42_T {k2 : Nat} {x3 : Int32} {x4 : Int32} {s : wS} (hk2 : wkd k2 = 3) : Tot (wX4_readValue_j42 k2 x3 x4 s) (fun (r : wS) => wA bR s r) := by
  unfold wX4_readValue_j42
  refine t_ite (fun c1 => ?_) (fun c1 => ?_)
  · exact t_mono (wX4_readValue_j67_T hk2) (fun r h => h)
  · refine t_bind (wX9_number_T) (fun t25 h2 => ?_)
    refine t_bind (wX10_isOutside_T) (fun t27 h3 => ?_)
    refine t_ite (fun c4 => ?_) (fun c4 => ?_)
    · exact t_mono (wX4_readValue_j67_T hk2) (fun r h => h)
    · refine t_bind (wX9_fail_T) (fun s31 h5 => ?_)
      exact t_some h5
theorem wX4_readValue_j15_T {k2 : Nat} {x3 : Int32} {y0 : Int32} {s : wS} (hk2 : wkd k2 = 3) : Tot (wX4_readValue_j15 k2 x3 y0 s) (fun (r : wS) => wA bR s r) := by
  unfold wX4_readValue_j15
  refine t_ite (fun c1 => ?_) (fun c1 => ?_)
  · refine t_ite (fun c2 => ?_) (fun c2 => ?_)
    · exact t_mono (wX4_readValue_j34_T) (fun r h => h)
    · refine t_ite (fun c3 => ?_) (fun c3 => ?_)
      · exact t_mono (wX4_readValue_j34_T) (fun r h => h)
      · exact t_mono (wX4_readValue_j42_T hk2) (fun r h => h)
  · exact t_mono (wX4_readValue_j42_T hk2) (fun r h => h)
theorem wX4_readValue_T {k2 : Nat} {s : wS} (hk2 : wkd k2 = 3) : Tot (wX4_readValue k2 s) (fun (r : wS) => wA bR s r) := by
  unfold wX4_readValue
  refine t_bind (wX9_sign_T) (fun t1 h1 => ?_)
  refine t_ite (fun c2 => ?_) (fun c2 => ?_)
  · exact t_mono (wX4_readValue_j15_T hk2) (fun r h => h)
  · exact t_mono (wX4_readValue_j15_T hk2) (fun r h => h)
theorem wX4_readSum_h11_T {k2 : Nat} (hk2 : wkd k2 = 3)  : ∀ (n : Nat) {x3 : Int32} {x4 : Int32} {s : wS}, 2147483648 - x4.toInt < (n : Int) → Tot (wX4_readSum_h11 k2 n x3 x4 s) (Sum.elim (fun (r : Int32 × wS) => wA bR s r.2) (fun (r : Int32 × wS) => wA bR s r.2)) := by
  intro n
  induction n with
  | zero =>
    intro x3 x4 s hm
    exact (t_m0 hm).elim
  | succ n ih =>
    intro x3 x4 s hm
    rw [wX4_readSum_h11]
    refine t_ite (fun c1 => ?_) (fun c1 => ?_)
    · refine t_bind (wX9_sign_T) (fun t5 h2 => ?_)
      refine t_ite (fun c3 => ?_) (fun c3 => ?_)
      · exact t_some wA.refl
      · refine t_ite (fun c4 => ?_) (fun c4 => ?_)
        · exact t_some wA.refl
        · refine t_bind (wX9_skip_T) (fun s10 h5 => ?_)
          refine t_ite (fun c6 => ?_) (fun c6 => ?_)
          · unfold wX4_readSum_j60
            refine t_bind (wX4_readValue_T hk2) (fun s14 h7 => ?_)
            have a8 := h5.trans h7
            refine t_bind (wX3_put_T hk2) (fun s17 h9 => ?_)
            have a10 := a8.trans h9
            unfold wX4_readSum_j89
            exact t_mono (ih (t_m1 c1 hm)) (fun r h => match r, h with | .inl r, h => (a10.trans h) | .inr r, h => (a10.trans h))
          · refine t_ite (fun c11 => ?_) (fun c11 => ?_)
            · unfold wX4_readSum_j60
              refine t_bind (wX4_readValue_T hk2) (fun s14 h12 => ?_)
              have a13 := h5.trans h12
              refine t_bind (wX3_put_T hk2) (fun s17 h14 => ?_)
              have a15 := a13.trans h14
              unfold wX4_readSum_j89
              exact t_mono (ih (t_m1 c1 hm)) (fun r h => match r, h with | .inl r, h => (a15.trans h) | .inr r, h => (a15.trans h))
            · refine t_bind (wX3_put_T hk2) (fun s21 h16 => ?_)
              have a17 := h5.trans h16
              refine t_bind (wX4_readValue_T hk2) (fun s24 h18 => ?_)
              have a19 := a17.trans h18
              unfold wX4_readSum_j89
              exact t_mono (ih (t_m1 c1 hm)) (fun r h => match r, h with | .inl r, h => (a19.trans h) | .inr r, h => (a19.trans h))
    · exact t_some wA.refl
theorem wX4_readSum_j95_T {k2 : Nat} {x3 : Int32} {s : wS} (hk2 : wkd k2 = 3) : Tot (wX4_readSum_j95 k2 x3 s) (fun (r : wS) => wA bR s r) := by
  unfold wX4_readSum_j95
  refine t_bind (wX3_put_T hk2) (fun s32 h1 => ?_)
  exact t_some h1
theorem wX4_readSum_T {k2 : Nat} {s : wS} (hk2 : wkd k2 = 3) : Tot (wX4_readSum k2 s) (fun (r : wS) => wA bR s r) := by
  unfold wX4_readSum
  refine t_bind (wX4_readValue_T hk2) (fun s2 h1 => ?_)
  refine t_bind (wX4_readSum_h11_T hk2 _   t_mi) (fun z26 h2 => ?_)
  rcases z26 with z26 | z26
  · obtain ⟨t27, s28⟩ := z26
    simp only [Sum.elim_inl, Sum.elim_inr] at h2
    dsimp only
    have a3 := h1.trans h2
    exact t_mono (wX4_readSum_j95_T hk2) (fun r h => (a3.trans h))
  · obtain ⟨t34, s35⟩ := z26
    simp only [Sum.elim_inl, Sum.elim_inr] at h2
    dsimp only
    have a4 := h1.trans h2
    exact t_mono (wX4_readSum_j95_T hk2) (fun r h => (a4.trans h))
theorem wX4_readTest_h13_T {q : Nat → Int32 → wS → Option wS} {k2 : Nat} {x3 : Int32} (hq : ∀ s1, Tot (q k2 x3 s1) (fun r => wA bR s1 r)) (hk2 : wkd k2 = 3)  : ∀ (n : Nat) {x4 : Int32} {x5 : Int32} {s : wS}, 2147483648 - x5.toInt < (n : Int) → Tot (wX4_readTest_h13 q k2 x3 n x4 x5 s) (fun (r : Int32 × wS) => wA bR s r.2) := by
  intro n
  induction n with
  | zero =>
    intro x4 x5 s hm
    exact (t_m0 hm).elim
  | succ n ih =>
    intro x4 x5 s hm
    rw [wX4_readTest_h13]
    refine t_ite (fun c1 => ?_) (fun c1 => ?_)
    · refine t_bind (wX9_take_T) (fun r3 h2 => ?_)
      obtain ⟨t5, s6⟩ := r3
      dsimp only at h2 ⊢
      refine t_ite (fun c4 => ?_) (fun c4 => ?_)
      · refine t_bind (wX9_take_T) (fun r6 h5 => ?_)
        obtain ⟨t9, s10⟩ := r6
        dsimp only at h5 ⊢
        have a7 := h2.1.trans h5.1
        refine t_ite (fun c8 => ?_) (fun c8 => ?_)
        · exact t_some a7
        · refine t_ite (fun c9 => ?_) (fun c9 => ?_)
          · unfold wX4_readTest_j66
            refine t_bind (hq _) (fun s15 h10 => ?_)
            have a11 := a7.trans h10
            unfold wX4_readTest_j76
            exact t_mono (ih (t_m1 c1 hm)) (fun r h => (a11.trans h))
          · refine t_bind (wX3_put_T hk2) (fun s18 h12 => ?_)
            have a13 := a7.trans h12
            unfold wX4_readTest_j66
            refine t_bind (hq _) (fun s15 h14 => ?_)
            have a15 := a13.trans h14
            unfold wX4_readTest_j76
            exact t_mono (ih (t_m1 c1 hm)) (fun r h => (a15.trans h))
      · refine t_bind (hq _) (fun s21 h16 => ?_)
        have a17 := h2.1.trans h16
        refine t_bind (wX3_put_T hk2) (fun s24 h18 => ?_)
        have a19 := a17.trans h18
        unfold wX4_readTest_j76
        exact t_mono (ih (t_m1 c1 hm)) (fun r h => (a19.trans h))
    · exact t_some wA.refl
theorem wX4_readTest_j82_T {q : Nat → Int32 → wS → Option wS} {k2 : Nat} {x4 : Int32} {s : wS} (hk2 : wkd k2 = 3) : Tot (wX4_readTest_j82 q k2 x4 s) (fun (r : wS) => wA bR s r) := by
  unfold wX4_readTest_j82
  refine t_ite (fun c1 => ?_) (fun c1 => ?_)
  · exact t_some wA.refl
  · refine t_bind (wX3_put_T hk2) (fun s33 h2 => ?_)
    exact t_some h2
theorem wX4_readTest_b_T {q : Nat → Int32 → wS → Option wS} {k2 : Nat} {x3 : Int32} {s : wS} (hq : ∀ s1, Tot (q k2 x3 s1) (fun r => wA bR s1 r)) (hk2 : wkd k2 = 3) : Tot (wX4_readTest_b q k2 x3 s) (fun (r : wS) => wA bR s r) := by
  unfold wX4_readTest_b
  refine t_bind (hq _) (fun s2 h1 => ?_)
  refine t_bind (wX4_readTest_h13_T hq hk2 _   t_mi) (fun r3 h2 => ?_)
  obtain ⟨t27, s28⟩ := r3
  dsimp only at h2 ⊢
  have a4 := h1.trans h2
  exact t_mono (wX4_readTest_j82_T hk2) (fun r h => (a4.trans h))
theorem wX4_readFact_j153_T {q : Nat → Int32 → wS → Option wS} {k2 : Nat} {x6 : Int32} {s : wS} (hk2 : wkd k2 = 3) : Tot (wX4_readFact_j153 q k2 x6 s) (fun (r : wS) => wA bR s r) := by
  unfold wX4_readFact_j153
  refine t_bind (t_pfI (B := bR) rfl) (fun s22 h1 => ?_)
  refine t_bind (wX9_skip_T) (fun s24 h2 => ?_)
  have a3 := h1.1.trans h2
  refine t_bind (wX4_readSum_T hk2) (fun s27 h4 => ?_)
  have a5 := a3.trans h4
  refine t_bind (wX3_put_T hk2) (fun s30 h6 => ?_)
  have a7 := a5.trans h6
  exact t_some a7
theorem wX4_readFact_j131_T {q : Nat → Int32 → wS → Option wS} {k2 : Nat} {x6 : Int32} {s : wS} (hk2 : wkd k2 = 3) : Tot (wX4_readFact_j131 q k2 x6 s) (fun (r : wS) => wA bR s r) := by
  unfold wX4_readFact_j131
  refine t_bind (wX9_fail_T) (fun s20 h1 => ?_)
  exact t_mono (wX4_readFact_j153_T hk2) (fun r h => (h1.trans h))
theorem wX4_readFact_j45_T {q : Nat → Int32 → wS → Option wS} {k2 : Nat} {x3 : Int32} {s : wS} (hk2 : wkd k2 = 3) (hq : (sv s = 22 ∨ sv s = 4) → ∀ s1, Tot (q k2 (x3 + 1) s1) (fun r => wA bR s1 r)) : Tot (wX4_readFact_j45 q k2 x3 s) (fun (r : wS) => wA bR s r) := by
  unfold wX4_readFact_j45
  refine t_bind wX9_take_T (fun r h1 => ?_)
  obtain ⟨t5, s6⟩ := r
  obtain ⟨h1, h2⟩ := h1
  dsimp only at h1 h2 ⊢
  refine t_ite (fun c5 => ?_) (fun c5 => ?_)
  · rcases h2 with ⟨h2, -⟩ | h2
    · rw [c5] at h2; exact absurd h2 (by decide)
    obtain ⟨-, rfl⟩ := Prod.mk.inj h2
    refine t_bind wX9_take_T (fun r h3 => ?_)
    obtain ⟨t9, s10⟩ := r
    obtain ⟨h3, h4⟩ := h3
    dsimp only at h3 h4 ⊢
    refine t_ite (fun c9 => ?_) (fun c9 => ?_)
    · refine t_bind (wX4_readSum_T hk2) (fun s14 h14 => ?_)
      have a := h3.trans h14
      refine t_bind wX9_sign_T (fun t16 h16 => ?_)
      have z131 : Tot (wX4_readFact_j131 q k2 t16 s14) (fun (r : wS) => wA bR s6 r) := t_mono (wX4_readFact_j131_T hk2) (fun r h => a.trans h)
      refine t_ite (fun _ => z131) (fun _ => t_ite (fun _ => z131) (fun _ => t_ite (fun _ => ?_) (fun _ => ?_)))
      · exact t_mono (wX4_readFact_j153_T hk2) (fun r h => a.trans h)
      · refine t_bind wX9_fail_T (fun s35 h35 => ?_)
        exact t_mono (wX4_readFact_j153_T hk2) (fun r h => (a.trans h35).trans h)
    · have h5 : sv s6 = 4 := by
        rcases h4 with h4 | h4
        · exact h4.2
        · exact absurd (Prod.mk.inj h4).1 c9
      refine t_bind (wX4_readTest_b_T (hq (Or.inr h5)) hk2) (fun s38 h38 => ?_)
      have a := h3.trans h38
      refine t_bind wX9_take_T (fun r h6 => ?_)
      obtain ⟨t40, s41⟩ := r
      obtain ⟨h6, -⟩ := h6
      dsimp only at h6 ⊢
      refine t_ite (fun _ => ?_) (fun _ => t_some (a.trans h6))
      exact t_bind wX9_fail_T (fun s45 h45 => t_some ((a.trans h6).trans h45))
  · have h5 : sv s = 22 := by
      rcases h2 with h4 | h4
      · exact h4.2
      · exact absurd (Prod.mk.inj h4).1 c5
    refine t_bind (hq (Or.inl h5) _) (fun s48 h48 => ?_)
    refine t_bind (wX3_put_T hk2) (fun s51 h51 => t_some ((h1.trans h48).trans h51))
theorem wX4_readFact_b_T {q : Nat → Int32 → wS → Option wS} {k2 : Nat} {x3 : Int32} {s : wS} (hk2 : wkd k2 = 3) (hq : x3 < 10 → ∀ s1, Tot (q k2 (x3 + 1) s1) (fun r => wA bR s1 r)) : Tot (wX4_readFact_b q k2 x3 s) (fun (r : wS) => wA bR s r) := by
  unfold wX4_readFact_b
  have j : Tot (wX4_readFact_j19 q k2 x3 s) (fun (r : wS) => wA bR s r) := by
    unfold wX4_readFact_j19 wX4_readFact_j24
    refine t_ite (fun c => absurd c (by decide)) (fun _ => t_ite (fun c => wX4_readFact_j45_T hk2 (fun _ => hq c)) (fun _ => ?_))
    exact t_bind wX9_fail_T (fun s55 h => t_some h)
  refine t_bind wX9_sign_T (fun t1 h1 => t_ite (fun _ => j) (fun c1 => t_ite (fun _ => j) (fun c2 => ?_)))
  unfold wX4_readFact_j24
  refine t_ite (fun _ => wX4_readFact_j45_T hk2 (fun h => ?_)) (fun c => absurd rfl c)
  rw [← h1] at h
  rcases h with h | h
  · exact absurd h c1
  · exact absurd h c2
theorem wX4_readFact_T : ∀ (n : Nat) {k : Nat} {a : Int32} {s : wS}, wkd k = 3 → 10 - a.toInt < (n : Int) → a.toInt ≤ 10 → Tot (wX4_readFact n k a s) (fun (r : wS) => wA bR s r) := by
  intro n
  induction n with
  | zero => intro k a s hk h1 h2; exfalso; omega
  | succ n ih =>
    intro k a s hk h1 h2
    rw [wX4_readFact]
    refine wX4_readFact_b_T hk (fun c s1 => ?_)
    have e := t_inc c
    have h3 := t_lt c
    have e10 : (10 : Int32).toInt = 10 := rfl
    rw [e10] at h3
    exact ih hk (by rw [e]; omega) (by rw [e]; omega)
theorem wX4_readTest_T {k : Nat} {s : wS} (hk : wkd k = 3) : Tot (wX4_readTest k 0 s) (fun (r : wS) => wA bR s r) := by
  unfold wX4_readTest
  exact wX4_readTest_b_T (fun s1 => wX4_readFact_T 16 hk (by decide) (by decide)) hk
theorem wX4_read_h14_T {k2 : Nat} (hk2 : wkd k2 = 3)  : ∀ (n : Nat) {x3 : Int32} {x4 : Int32} {s : wS}, 2147483648 - x4.toInt < (n : Int) → Tot (wX4_read_h14 k2 n x3 x4 s) (fun (r : wS) => wA bR s r) := by
  intro n
  induction n with
  | zero =>
    intro x3 x4 s hm
    exact (t_m0 hm).elim
  | succ n ih =>
    intro x3 x4 s hm
    rw [wX4_read_h14]
    refine t_ite (fun c1 => ?_) (fun c1 => ?_)
    · refine t_ite (fun c2 => ?_) (fun c2 => ?_)
      · exact t_some wA.refl
      · refine t_bind (wX9_sign_T) (fun t7 h3 => ?_)
        refine t_bind (wX4_kindOf_T) (fun t9 h4 => ?_)
        refine t_ite (fun c5 => ?_) (fun c5 => ?_)
        · refine t_bind (wX9_fail_T) (fun s13 h6 => ?_)
          unfold wX4_read_j63
          refine t_bind (wX9_skip_T) (fun s16 h7 => ?_)
          have a8 := h6.trans h7
          refine t_bind (wX4_readSum_T hk2) (fun s19 h9 => ?_)
          have a10 := a8.trans h9
          refine t_bind (wX9_take_T) (fun r12 h11 => ?_)
          obtain ⟨t21, s22⟩ := r12
          dsimp only at h11 ⊢
          have a13 := a10.trans h11.1
          refine t_ite (fun c14 => ?_) (fun c14 => ?_)
          · unfold wX4_read_j101
            refine t_bind (wX3_addClause_T hk2) (fun s26 h15 => ?_)
            have a16 := a13.trans h15
            refine t_bind (wX9_take_T) (fun r18 h17 => ?_)
            obtain ⟨t28, s29⟩ := r18
            dsimp only at h17 ⊢
            have a19 := a16.trans h17.1
            exact t_mono (ih (t_m1 c1 hm)) (fun r h => (a19.trans h))
          · refine t_bind (wX4_readTest_T hk2) (fun s32 h20 => ?_)
            have a21 := a13.trans h20
            unfold wX4_read_j101
            refine t_bind (wX3_addClause_T hk2) (fun s26 h22 => ?_)
            have a23 := a21.trans h22
            refine t_bind (wX9_take_T) (fun r25 h24 => ?_)
            obtain ⟨t28, s29⟩ := r25
            dsimp only at h24 ⊢
            have a26 := a23.trans h24.1
            exact t_mono (ih (t_m1 c1 hm)) (fun r h => (a26.trans h))
        · refine t_ite (fun c27 => ?_) (fun c27 => ?_)
          · unfold wX4_read_j63
            refine t_bind (wX9_skip_T) (fun s16 h28 => ?_)
            refine t_bind (wX4_readSum_T hk2) (fun s19 h29 => ?_)
            have a30 := h28.trans h29
            refine t_bind (wX9_take_T) (fun r32 h31 => ?_)
            obtain ⟨t21, s22⟩ := r32
            dsimp only at h31 ⊢
            have a33 := a30.trans h31.1
            refine t_ite (fun c34 => ?_) (fun c34 => ?_)
            · unfold wX4_read_j101
              refine t_bind (wX3_addClause_T hk2) (fun s26 h35 => ?_)
              have a36 := a33.trans h35
              refine t_bind (wX9_take_T) (fun r38 h37 => ?_)
              obtain ⟨t28, s29⟩ := r38
              dsimp only at h37 ⊢
              have a39 := a36.trans h37.1
              exact t_mono (ih (t_m1 c1 hm)) (fun r h => (a39.trans h))
            · refine t_bind (wX4_readTest_T hk2) (fun s32 h40 => ?_)
              have a41 := a33.trans h40
              unfold wX4_read_j101
              refine t_bind (wX3_addClause_T hk2) (fun s26 h42 => ?_)
              have a43 := a41.trans h42
              refine t_bind (wX9_take_T) (fun r45 h44 => ?_)
              obtain ⟨t28, s29⟩ := r45
              dsimp only at h44 ⊢
              have a46 := a43.trans h44.1
              exact t_mono (ih (t_m1 c1 hm)) (fun r h => (a46.trans h))
          · refine t_bind (wX9_fail_T) (fun s36 h47 => ?_)
            unfold wX4_read_j63
            refine t_bind (wX9_skip_T) (fun s16 h48 => ?_)
            have a49 := h47.trans h48
            refine t_bind (wX4_readSum_T hk2) (fun s19 h50 => ?_)
            have a51 := a49.trans h50
            refine t_bind (wX9_take_T) (fun r53 h52 => ?_)
            obtain ⟨t21, s22⟩ := r53
            dsimp only at h52 ⊢
            have a54 := a51.trans h52.1
            refine t_ite (fun c55 => ?_) (fun c55 => ?_)
            · unfold wX4_read_j101
              refine t_bind (wX3_addClause_T hk2) (fun s26 h56 => ?_)
              have a57 := a54.trans h56
              refine t_bind (wX9_take_T) (fun r59 h58 => ?_)
              obtain ⟨t28, s29⟩ := r59
              dsimp only at h58 ⊢
              have a60 := a57.trans h58.1
              exact t_mono (ih (t_m1 c1 hm)) (fun r h => (a60.trans h))
            · refine t_bind (wX4_readTest_T hk2) (fun s32 h61 => ?_)
              have a62 := a54.trans h61
              unfold wX4_read_j101
              refine t_bind (wX3_addClause_T hk2) (fun s26 h63 => ?_)
              have a64 := a62.trans h63
              refine t_bind (wX9_take_T) (fun r66 h65 => ?_)
              obtain ⟨t28, s29⟩ := r66
              dsimp only at h65 ⊢
              have a67 := a64.trans h65.1
              exact t_mono (ih (t_m1 c1 hm)) (fun r h => (a67.trans h))
    · exact t_some wA.refl
theorem wX4_read_j123_T {s : wS}  : Tot (wX4_read_j123 s) (fun (r : wS) => wA bR s r) := by
  unfold wX4_read_j123
  refine t_bind (wX9_sign_T) (fun t46 h1 => ?_)
  refine t_ite (fun c2 => ?_) (fun c2 => ?_)
  · exact t_some wA.refl
  · refine t_bind (wX9_fail_T) (fun s50 h3 => ?_)
    exact t_some h3
theorem wX4_read_T {k2 : Nat} {s : wS} (hk2 : wkd k2 = 3) : Tot (wX4_read k2 s) (fun (r : wS) => wA bR s r) := by
  unfold wX4_read
  refine t_bind (t_pfI (B := bR) rfl) (fun s1 h1 => ?_)
  refine t_bind (wX3_clear_T hk2) (fun s3 h2 => ?_)
  have a3 := h1.1.trans h2
  refine t_bind (wX4_read_h14_T hk2 _   t_mi) (fun s39 h4 => ?_)
  have a5 := a3.trans h4
  exact t_mono (wX4_read_j123_T) (fun r h => (a5.trans h))
theorem wX5_add_T {x1 : Int32} {x2 : Int32} {x3 : Int32} {s : wS}  : Tot (wX5_add x1 x2 x3 s) (fun (r : wS) => wA bR s r) := by
  unfold wX5_add
  refine t_bind (wX10_isOutside_T) (fun t1 h1 => ?_)
  refine t_ite (fun c2 => ?_) (fun c2 => ?_)
  · refine t_bind (t_stI (B := bR) (n := 84) (by (try simp only [Int32.lt_iff_toInt_lt, Int32.le_iff_toInt_le, ← Int32.toInt_inj, Int32.reduceToInt] at *) <;> omega) (by (try simp only [Int32.lt_iff_toInt_lt, Int32.le_iff_toInt_le, ← Int32.toInt_inj, Int32.reduceToInt] at *) <;> omega) (fun _ => rfl)) (fun s4 h3 => ?_)
    have f4 : s4.1 28 3 = s.1 28 3 := by rw [h3.2, wupI_n (by omega)]
    refine t_bind (t_stI (B := bR) (n := 84) (by (try simp only [Int32.lt_iff_toInt_lt, Int32.le_iff_toInt_le, ← Int32.toInt_inj, Int32.reduceToInt] at *) <;> omega) (by (try simp only [Int32.lt_iff_toInt_lt, Int32.le_iff_toInt_le, ← Int32.toInt_inj, Int32.reduceToInt] at *) <;> omega) (fun _ => rfl)) (fun s5 h5 => ?_)
    have a6 := h3.1.trans h5.1
    have f7 : s5.1 28 3 = s4.1 28 3 := by rw [h5.2, wupI_n (by omega)]
    refine t_bind (t_stI (B := bR) (n := 84) (by (try simp only [Int32.lt_iff_toInt_lt, Int32.le_iff_toInt_le, ← Int32.toInt_inj, Int32.reduceToInt] at *) <;> omega) (by (try simp only [Int32.lt_iff_toInt_lt, Int32.le_iff_toInt_le, ← Int32.toInt_inj, Int32.reduceToInt] at *) <;> omega) (fun _ => rfl)) (fun s6 h8 => ?_)
    have a9 := a6.trans h8.1
    have f10 : s6.1 28 3 = s5.1 28 3 := by rw [h8.2, wupI_n (by omega)]
    refine t_bind (t_pfI (B := bR) rfl) (fun s7 h11 => ?_)
    have a12 := a9.trans h11.1
    exact t_some a12
  · exact t_some wA.refl
theorem wX5_fill_h28_T {k1 : Nat} {x2 : Int32} {x3 : Int32} (hk1 : wkd k1 = 0)  : ∀ (n : Nat) {x4 : Int32} {s : wS}, 2147483648 - x4.toInt < (n : Int) → Tot (wX5_fill_h28 k1 x2 x3 n x4 s) (fun (r : wS) => wA bR s r) := by
  intro n
  induction n with
  | zero =>
    intro x4 s hm
    exact (t_m0 hm).elim
  | succ n ih =>
    intro x4 s hm
    rw [wX5_fill_h28]
    refine t_bind (wX0_manyOf_T hk1) (fun t6 h1 => ?_)
    refine t_ite (fun c2 => ?_) (fun c2 => ?_)
    · refine t_bind (wX5_add_T) (fun s10 h3 => ?_)
      exact t_mono (ih (t_m1 c2 hm)) (fun r h => (h3.trans h))
    · exact t_some wA.refl
theorem wX5_fill_h14_T {k1 : Nat} {x2 : Int32} (hk1 : wkd k1 = 0)  : ∀ (n : Nat) {x3 : Int32} {s : wS}, 2147483648 - x3.toInt < (n : Int) → Tot (wX5_fill_h14 k1 x2 n x3 s) (fun (r : wS) => wA bR s r) := by
  intro n
  induction n with
  | zero =>
    intro x3 s hm
    exact (t_m0 hm).elim
  | succ n ih =>
    intro x3 s hm
    rw [wX5_fill_h14]
    refine t_bind (wX0_manyOf_T hk1) (fun t3 h1 => ?_)
    refine t_ite (fun c2 => ?_) (fun c2 => ?_)
    · refine t_bind (wX5_fill_h28_T hk1 _   t_mi) (fun s13 h3 => ?_)
      exact t_mono (ih (t_m1 c2 hm)) (fun r h => (h3.trans h))
    · exact t_some wA.refl
theorem wX5_fill_h7_T {k1 : Nat} (hk1 : wkd k1 = 0)  : ∀ (n : Nat) {x2 : Int32} {s : wS}, 2147483648 - x2.toInt < (n : Int) → Tot (wX5_fill_h7 k1 n x2 s) (fun (r : wS) => wA bR s r) := by
  intro n
  induction n with
  | zero =>
    intro x2 s hm
    exact (t_m0 hm).elim
  | succ n ih =>
    intro x2 s hm
    rw [wX5_fill_h7]
    refine t_ite (fun c1 => ?_) (fun c1 => ?_)
    · refine t_bind (wX5_fill_h14_T hk1 _   t_mi) (fun s16 h2 => ?_)
      exact t_mono (ih (t_m1 c1 hm)) (fun r h => (h2.trans h))
    · exact t_some wA.refl
theorem wX5_fill_T {k1 : Nat} {s : wS} (hk1 : wkd k1 = 0) : Tot (wX5_fill k1 s) (fun (r : wS) => wA bR s r) := by
  unfold wX5_fill
  refine t_bind (t_pfI (B := bR) rfl) (fun s1 h1 => ?_)
  refine t_bind (wX5_fill_h7_T hk1 _   t_mi) (fun s20 h2 => ?_)
  have a3 := h1.1.trans h2
  exact t_some a3
theorem wX5_nearForFirst_T {k1 : Nat} {x2 : Int32} {s : wS} (hk1 : wkd k1 = 3) : Tot (wX5_nearForFirst k1 x2 s) (fun (_ : Int32) => True) := by
  unfold wX5_nearForFirst
  refine t_bind (wX10_at_T rfl) (fun t1 h1 => ?_)
  refine t_bind (wX10_at_T rfl) (fun t3 h2 => ?_)
  refine t_bind (wX10_at_T rfl) (fun t5 h3 => ?_)
  refine t_bind (wX3_nearOf_T hk1) (fun t7 h4 => ?_)
  exact t_some trivial
theorem wX5_nearForSecond_T {k1 : Nat} {x2 : Int32} {s : wS} (hk1 : wkd k1 = 3) : Tot (wX5_nearForSecond k1 x2 s) (fun (_ : Int32) => True) := by
  unfold wX5_nearForSecond
  refine t_bind (wX10_at_T rfl) (fun t1 h1 => ?_)
  refine t_bind (wX10_at_T rfl) (fun t3 h2 => ?_)
  refine t_bind (wX10_at_T rfl) (fun t5 h3 => ?_)
  refine t_bind (wX3_nearOf_T hk1) (fun t7 h4 => ?_)
  exact t_some trivial
theorem wX7_with_T {k0 : Nat} {x1 : Int32} {x2 : Int32} {s : wS} (hk0 : wkd k0 = 7) : Tot (wX7_with k0 x1 x2 s) (fun (_ : Int32) => True) := by
  unfold wX7_with
  refine t_bind (wX10_slot_T) (fun t1 h1 => ?_)
  refine t_bind (wX10_at_T (wly_7_0 hk0).2.1) (fun t3 h2 => ?_)
  exact t_some trivial
theorem wX7_withAny_h5_T {k0 : Nat} {x1 : Int32} {x2 : Int32} {s : wS} (hk0 : wkd k0 = 7)  : ∀ (n : Nat) {x3 : Int32} {x4 : Int32}, 2147483648 - x4.toInt < (n : Int) → Tot (wX7_withAny_h5 k0 x1 x2 s n x3 x4) (fun (_ : Int32) => True) := by
  intro n
  induction n with
  | zero =>
    intro x3 x4 hm
    exact (t_m0 hm).elim
  | succ n ih =>
    intro x3 x4 hm
    rw [wX7_withAny_h5]
    refine t_ite (fun c1 => ?_) (fun c1 => ?_)
    · refine t_ite (fun c2 => ?_) (fun c2 => ?_)
      · refine t_bind (wX7_with_T hk0) (fun t3 h3 => ?_)
        unfold wX7_withAny_j32
        exact t_mono (ih (t_m1 c1 hm)) (fun _ _ => trivial)
      · unfold wX7_withAny_j32
        exact t_mono (ih (t_m1 c1 hm)) (fun _ _ => trivial)
    · exact t_some trivial
theorem wX7_withAny_T {k0 : Nat} {x1 : Int32} {x2 : Int32} {s : wS} (hk0 : wkd k0 = 7) : Tot (wX7_withAny k0 x1 x2 s) (fun (_ : Int32) => True) := by
  unfold wX7_withAny
  refine t_bind (wX7_withAny_h5_T hk0 _   t_mi) (fun t6 h1 => ?_)
  exact t_some trivial
theorem wX5_leftForFirst_T {k1 : Nat} {k2 : Nat} {x3 : Int32} {s : wS} (hk1 : wkd k1 = 3) (hk2 : wkd k2 = 7) : Tot (wX5_leftForFirst k1 k2 x3 s) (fun (_ : Int32) => True) := by
  unfold wX5_leftForFirst
  refine t_bind (wX10_at_T rfl) (fun t1 h1 => ?_)
  refine t_bind (wX5_nearForFirst_T hk1) (fun t3 h2 => ?_)
  refine t_bind (wX7_withAny_T hk2) (fun t5 h3 => ?_)
  exact t_some trivial
theorem wX5_leftForSecond_T {k1 : Nat} {k2 : Nat} {x3 : Int32} {s : wS} (hk1 : wkd k1 = 3) (hk2 : wkd k2 = 7) : Tot (wX5_leftForSecond k1 k2 x3 s) (fun (_ : Int32) => True) := by
  unfold wX5_leftForSecond
  refine t_bind (wX10_at_T rfl) (fun t1 h1 => ?_)
  refine t_bind (wX5_nearForSecond_T hk1) (fun t3 h2 => ?_)
  refine t_bind (wX7_withAny_T hk2) (fun t5 h3 => ?_)
  exact t_some trivial
theorem wX5_greaterLeft_T {k1 : Nat} {k2 : Nat} {x3 : Int32} {s : wS} (hk1 : wkd k1 = 3) (hk2 : wkd k2 = 7) : Tot (wX5_greaterLeft k1 k2 x3 s) (fun (_ : Int32) => True) := by
  unfold wX5_greaterLeft
  refine t_bind (wX5_leftForFirst_T hk1 hk2) (fun t1 h1 => ?_)
  refine t_bind (wX5_leftForSecond_T hk1 hk2) (fun t3 h2 => ?_)
  exact t_some trivial
theorem wX5_nearAsIn_T {k1 : Nat} {x2 : Int32} {k3 : Nat} {x4 : Int32} {s : wS} (hk1 : wkd k1 = 3) (hk3 : wkd k3 = 0) : Tot (wX5_nearAsIn k1 x2 k3 x4 s) (fun (_ : Int32) => True) := by
  unfold wX5_nearAsIn
  refine t_bind (wX5_nearForFirst_T hk1) (fun t1 h1 => ?_)
  refine t_bind (wX10_at_T rfl) (fun t3 h2 => ?_)
  refine t_bind (wX0_thingIn_T hk3) (fun t5 h3 => ?_)
  refine t_ite (fun c4 => ?_) (fun c4 => ?_)
  · exact t_some trivial
  · refine t_bind (wX5_nearForSecond_T hk1) (fun t8 h5 => ?_)
    exact t_some trivial
theorem wX5_leftAsIn_T {k1 : Nat} {k2 : Nat} {x3 : Int32} {k4 : Nat} {x5 : Int32} {s : wS} (hk1 : wkd k1 = 3) (hk2 : wkd k2 = 7) (hk4 : wkd k4 = 0) : Tot (wX5_leftAsIn k1 k2 x3 k4 x5 s) (fun (_ : Int32) => True) := by
  unfold wX5_leftAsIn
  refine t_bind (wX10_at_T rfl) (fun t1 h1 => ?_)
  refine t_bind (wX5_nearAsIn_T hk1 hk4) (fun t3 h2 => ?_)
  refine t_bind (wX7_withAny_T hk2) (fun t5 h3 => ?_)
  exact t_some trivial
theorem wX5_best_h9_T {k1 : Nat} {k2 : Nat} {x3 : Int32} {s : wS} (hk1 : wkd k1 = 3) (hk2 : wkd k2 = 7)  : ∀ (n : Nat) {x4 : Int32} {x5 : Int32} {x6 : Int32}, 2147483648 - x6.toInt < (n : Int) → Tot (wX5_best_h9 k1 k2 x3 s n x4 x5 x6) (fun (_ : Int32) => True) := by
  intro n
  induction n with
  | zero =>
    intro x4 x5 x6 hm
    exact (t_m0 hm).elim
  | succ n ih =>
    intro x4 x5 x6 hm
    rw [wX5_best_h9]
    refine t_ite (fun c1 => ?_) (fun c1 => ?_)
    · refine t_bind (wX5_leftForFirst_T hk1 hk2) (fun t2 h2 => ?_)
      refine t_bind (wX5_leftForSecond_T hk1 hk2) (fun t4 h3 => ?_)
      refine t_ite (fun c4 => ?_) (fun c4 => ?_)
      · unfold wX5_best_j63
        refine t_ite (fun c5 => ?_) (fun c5 => ?_)
        · unfold wX5_best_j78
          unfold wX5_best_j86
          exact t_mono (ih (t_m1 c1 hm)) (fun _ _ => trivial)
        · refine t_ite (fun c6 => ?_) (fun c6 => ?_)
          · unfold wX5_best_j78
            unfold wX5_best_j86
            exact t_mono (ih (t_m1 c1 hm)) (fun _ _ => trivial)
          · unfold wX5_best_j86
            exact t_mono (ih (t_m1 c1 hm)) (fun _ _ => trivial)
      · unfold wX5_best_j63
        refine t_ite (fun c7 => ?_) (fun c7 => ?_)
        · unfold wX5_best_j78
          unfold wX5_best_j86
          exact t_mono (ih (t_m1 c1 hm)) (fun _ _ => trivial)
        · refine t_ite (fun c8 => ?_) (fun c8 => ?_)
          · unfold wX5_best_j78
            unfold wX5_best_j86
            exact t_mono (ih (t_m1 c1 hm)) (fun _ _ => trivial)
          · unfold wX5_best_j86
            exact t_mono (ih (t_m1 c1 hm)) (fun _ _ => trivial)
    · exact t_some trivial
theorem wX5_best_T {k1 : Nat} {k2 : Nat} {x3 : Int32} {s : wS} (hk1 : wkd k1 = 3) (hk2 : wkd k2 = 7) : Tot (wX5_best k1 k2 x3 s) (fun (_ : Int32) => True) := by
  unfold wX5_best
  refine t_bind (wX5_best_h9_T hk1 hk2 _   t_mi) (fun t10 h1 => ?_)
  exact t_some trivial
theorem wX5_told_T {x1 : Int32} {x2 : Int32} {x3 : Int32} {x4 : Int32} {s : wS}  : Tot (wX5_told x1 x2 x3 x4 s) (fun (_ : Int32) => True) := by
  unfold wX5_told
  refine t_ite (fun c1 => ?_) (fun c1 => ?_)
  · refine t_bind (wX10_at_T rfl) (fun t2 h2 => ?_)
    exact t_some trivial
  · refine t_ite (fun c3 => ?_) (fun c3 => ?_)
    · refine t_bind (wX10_at_T rfl) (fun t5 h4 => ?_)
      exact t_some trivial
    · refine t_ite (fun c5 => ?_) (fun c5 => ?_)
      · refine t_bind (wX10_at_T rfl) (fun t8 h6 => ?_)
        exact t_some trivial
      · refine t_ite (fun c7 => ?_) (fun c7 => ?_)
        · exact t_some trivial
        · exact t_some trivial
theorem wX6_clear_T {x1 : Int32} {s : wS}  : Tot (wX6_clear x1 s) (fun (r : wS) => wA bQ s r) := by
  unfold wX6_clear
  refine t_bind (wX10_empty_T rfl (B := bQ) (fun _ => rfl)) (fun s2 h1 => ?_)
  refine t_bind (wX10_empty_T rfl (B := bQ) (fun _ => rfl)) (fun s5 h2 => ?_)
  have a3 := h1.trans h2
  refine t_bind (t_pfI (B := bQ) rfl) (fun s7 h4 => ?_)
  have a5 := a3.trans h4.1
  refine t_bind (t_pfI (B := bQ) rfl) (fun s8 h6 => ?_)
  have a7 := a5.trans h6.1
  exact t_some a7
theorem wX6_add_h13_T {x1 : Int32} {k2 : Nat} {k3 : Nat} (hk2 : wkd k2 = 3) (hk3 : wkd k3 = 0)  : ∀ (n : Nat) {x5 : Int32} {s : wS}, 0 ≤ x5.toInt → 2147483648 - x5.toInt < (n : Int) → Tot (wX6_add_h13 x1 k2 k3 n x5 s) (fun (r : wS) => wA bQ s r) := by
  intro n
  induction n with
  | zero =>
    intro x5 s hi hm
    exact (t_m0 hm).elim
  | succ n ih =>
    intro x5 s hi hm
    rw [wX6_add_h13]
    refine t_ite (fun c1 => ?_) (fun c1 => ?_)
    · refine t_ite (fun c2 => ?_) (fun c2 => ?_)
      · refine t_bind (wX10_at_T rfl) (fun t4 h3 => ?_)
        refine t_bind (wX0_thingIn_T hk3) (fun t6 h4 => ?_)
        refine t_bind (t_ldI (n := 84) (by (try simp only [Int32.lt_iff_toInt_lt, Int32.le_iff_toInt_le, ← Int32.toInt_inj, Int32.reduceToInt] at *) <;> omega) (by (try simp only [Int32.lt_iff_toInt_lt, Int32.le_iff_toInt_le, ← Int32.toInt_inj, Int32.reduceToInt] at *) <;> omega)) (fun t8 h5 => ?_)
        refine t_bind (wX5_nearForFirst_T hk2) (fun t9 h6 => ?_)
        refine t_bind (t_stI (B := bQ) (n := 84) (by (try simp only [Int32.lt_iff_toInt_lt, Int32.le_iff_toInt_le, ← Int32.toInt_inj, Int32.reduceToInt] at *) <;> omega) (by (try simp only [Int32.lt_iff_toInt_lt, Int32.le_iff_toInt_le, ← Int32.toInt_inj, Int32.reduceToInt] at *) <;> omega) (fun _ => rfl)) (fun s11 h7 => ?_)
        have f8 : s11.1 40 4 = s.1 40 4 := by rw [h7.2, wupI_n (by omega)]
        refine t_bind (t_ldI (n := 84) (by (try simp only [Int32.lt_iff_toInt_lt, Int32.le_iff_toInt_le, ← Int32.toInt_inj, Int32.reduceToInt] at *) <;> omega) (by (try simp only [Int32.lt_iff_toInt_lt, Int32.le_iff_toInt_le, ← Int32.toInt_inj, Int32.reduceToInt] at *) <;> omega)) (fun t12 h9 => ?_)
        refine t_bind (wX5_nearForSecond_T hk2) (fun t13 h10 => ?_)
        refine t_bind (t_stI (B := bQ) (n := 84) (by (try simp only [Int32.lt_iff_toInt_lt, Int32.le_iff_toInt_le, ← Int32.toInt_inj, Int32.reduceToInt] at *) <;> omega) (by (try simp only [Int32.lt_iff_toInt_lt, Int32.le_iff_toInt_le, ← Int32.toInt_inj, Int32.reduceToInt] at *) <;> omega) (fun _ => rfl)) (fun s15 h11 => ?_)
        have a12 := h7.1.trans h11.1
        exact t_mono (ih (t_n1 c2 hi) (t_m1 c2 hm)) (fun r h => (a12.trans h))
      · exact t_some wA.refl
    · exact t_some wA.refl
theorem wX6_add_j108_T {s : wS}  : Tot (wX6_add_j108 s) (fun (r : wS) => wA bQ s r) := by
  unfold wX6_add_j108
  refine t_bind (t_pfI (B := bQ) rfl) (fun s23 h1 => ?_)
  exact t_some h1.1
theorem wX6_add_T {x1 : Int32} {k2 : Nat} {k3 : Nat} {s : wS} (hk2 : wkd k2 = 3) (hk3 : wkd k3 = 0) : Tot (wX6_add x1 k2 k3 s) (fun (r : wS) => wA bQ s r) := by
  unfold wX6_add
  refine t_ite (fun c1 => ?_) (fun c1 => ?_)
  · refine t_bind (wX6_add_h13_T hk2 hk3 _  (by decide) t_mi) (fun s17 h2 => ?_)
    exact t_mono (wX6_add_j108_T) (fun r h => (h2.trans h))
  · exact t_some wA.refl
theorem wJ6_bitCount_0f7a4_T {x0 : Int32} {s : wS}  : Tot (wJ6_bitCount_0f7a4 x0 s) (fun (_ : Int32) => True) := by
  unfold wJ6_bitCount_0f7a4
  exact t_some trivial
theorem wX6_fewestFor_h14_T {x1 : Int32} {s : wS}   : ∀ (n : Nat) {x2 : Int32} {x3 : Int32}, 0 ≤ x3.toInt → 2147483648 - x3.toInt < (n : Int) → Tot (wX6_fewestFor_h14 x1 s n x2 x3) (fun (_ : Int32) => True) := by
  intro n
  induction n with
  | zero =>
    intro x2 x3 hi hm
    exact (t_m0 hm).elim
  | succ n ih =>
    intro x2 x3 hi hm
    rw [wX6_fewestFor_h14]
    refine t_ite (fun c1 => ?_) (fun c1 => ?_)
    · refine t_ite (fun c2 => ?_) (fun c2 => ?_)
      · refine t_bind (t_ldI (n := 84) (by (try simp only [Int32.lt_iff_toInt_lt, Int32.le_iff_toInt_le, ← Int32.toInt_inj, Int32.reduceToInt] at *) <;> omega) (by (try simp only [Int32.lt_iff_toInt_lt, Int32.le_iff_toInt_le, ← Int32.toInt_inj, Int32.reduceToInt] at *) <;> omega)) (fun t6 h3 => ?_)
        refine t_bind (t_ldI (n := 84) (by (try simp only [Int32.lt_iff_toInt_lt, Int32.le_iff_toInt_le, ← Int32.toInt_inj, Int32.reduceToInt] at *) <;> omega) (by (try simp only [Int32.lt_iff_toInt_lt, Int32.le_iff_toInt_le, ← Int32.toInt_inj, Int32.reduceToInt] at *) <;> omega)) (fun t7 h4 => ?_)
        refine t_ite (fun c5 => ?_) (fun c5 => ?_)
        · unfold wX6_fewestFor_j88
          exact t_mono (ih (t_n1 c2 hi) (t_m1 c2 hm)) (fun _ _ => trivial)
        · refine t_ite (fun c6 => ?_) (fun c6 => ?_)
          · unfold wX6_fewestFor_j88
            exact t_mono (ih (t_n1 c2 hi) (t_m1 c2 hm)) (fun _ _ => trivial)
          · refine t_bind (wX10_at_T rfl) (fun t10 h7 => ?_)
            refine t_bind (wX10_at_T rfl) (fun t12 h8 => ?_)
            unfold wX6_fewestFor_j88
            exact t_mono (ih (t_n1 c2 hi) (t_m1 c2 hm)) (fun _ _ => trivial)
      · exact t_some trivial
    · exact t_some trivial
theorem wX6_fewestFor_T {x1 : Int32} {s : wS}  : Tot (wX6_fewestFor x1 s) (fun (_ : Int32) => True) := by
  unfold wX6_fewestFor
  refine t_bind (wJ6_bitCount_0f7a4_T) (fun t1 h1 => ?_)
  refine t_ite (fun c2 => ?_) (fun c2 => ?_)
  · refine t_bind (wX6_fewestFor_h14_T  _  (by decide) t_mi) (fun t15 h3 => ?_)
    exact t_some trivial
  · exact t_some trivial
theorem wX6_pairsForAll_h11_T {x1 : Int32}   : ∀ (n : Nat) {x2 : Int32} {s : wS}, 0 ≤ x2.toInt → 2147483648 - x2.toInt < (n : Int) → Tot (wX6_pairsForAll_h11 x1 n x2 s) (fun (r : wS) => wA bQ s r) := by
  intro n
  induction n with
  | zero =>
    intro x2 s hi hm
    exact (t_m0 hm).elim
  | succ n ih =>
    intro x2 s hi hm
    rw [wX6_pairsForAll_h11]
    refine t_ite (fun c1 => ?_) (fun c1 => ?_)
    · exact t_some wA.refl
    · refine t_ite (fun c2 => ?_) (fun c2 => ?_)
      · refine t_bind (wX6_fewestFor_T) (fun t3 h3 => ?_)
        refine t_bind (t_stI (B := bQ) (n := 256) (by (try simp only [Int32.lt_iff_toInt_lt, Int32.le_iff_toInt_le, ← Int32.toInt_inj, Int32.reduceToInt] at *) <;> omega) (by (try simp only [Int32.lt_iff_toInt_lt, Int32.le_iff_toInt_le, ← Int32.toInt_inj, Int32.reduceToInt] at *) <;> omega) (fun _ => rfl)) (fun s5 h4 => ?_)
        exact t_mono (ih (t_n1 c2 hi) (t_m1 c2 hm)) (fun r h => (h4.1.trans h))
      · exact t_some wA.refl
theorem wX6_pairsForAll_j42_T {x1 : Int32} {s : wS}  : Tot (wX6_pairsForAll_j42 x1 s) (fun (r : Int32 × wS) => wA bQ s r.2) := by
  unfold wX6_pairsForAll_j42
  refine t_bind (wX10_at_T rfl) (fun t9 h1 => ?_)
  exact t_some wA.refl
theorem wX6_pairsForAll_T {s : wS}  : Tot (wX6_pairsForAll s) (fun (r : Int32 × wS) => wA bQ s r.2) := by
  unfold wX6_pairsForAll
  refine t_bind (wX6_pairsForAll_h11_T  _  (by decide) t_mi) (fun s7 h1 => ?_)
  exact t_mono (wX6_pairsForAll_j42_T) (fun r h => (h1.trans h))
theorem wX7_clear_T {k0 : Nat} {s : wS} (hk0 : wkd k0 = 7) : Tot (wX7_clear k0 s) (fun (r : wS) => wA bQ s r) := by
  unfold wX7_clear
  refine t_bind (wX10_empty_T (wly_7_0 hk0).2.1 (B := bQ) (bQ_7_1 hk0)) (fun s2 h1 => ?_)
  refine t_bind (t_pfI (B := bQ) (bQ_7f1 hk0)) (fun s4 h2 => ?_)
  have a3 := h1.trans h2.1
  exact t_some a3
theorem wX7_addOne_T {k0 : Nat} {x1 : Int32} {s : wS} (hk0 : wkd k0 = 7) : Tot (wX7_addOne k0 x1 s) (fun (r : wS) => wA bQ s r) := by
  unfold wX7_addOne
  refine t_bind (wX10_at_T (wly_7_0 hk0).2.1) (fun t1 h1 => ?_)
  refine t_bind (wX10_set_T (wly_7_0 hk0).2.1 (B := bQ) (bQ_7_1 hk0)) (fun s4 h2 => ?_)
  exact t_some h2.1
theorem wX7_add_T {k0 : Nat} {x1 : Int32} {x2 : Int32} {x3 : Int32} {s : wS} (hk0 : wkd k0 = 7) : Tot (wX7_add k0 x1 x2 x3 s) (fun (r : wS) => wA bQ s r) := by
  unfold wX7_add
  refine t_bind (wX10_slot_T) (fun t1 h1 => ?_)
  refine t_bind (wX7_addOne_T hk0) (fun s4 h2 => ?_)
  refine t_bind (wX10_slot_T) (fun t6 h3 => ?_)
  refine t_bind (wX7_addOne_T hk0) (fun s9 h4 => ?_)
  have a5 := h2.trans h4
  refine t_bind (wX10_slot_T) (fun t11 h6 => ?_)
  refine t_bind (wX7_addOne_T hk0) (fun s14 h7 => ?_)
  have a8 := a5.trans h7
  refine t_bind (t_pfI (B := bQ) (bQ_7f1 hk0)) (fun s16 h9 => ?_)
  have a10 := a8.trans h9.1
  exact t_some a10
theorem wX7_thingsOf_h4_T {k0 : Nat} {x1 : Int32} {s : wS} (hk0 : wkd k0 = 7)  : ∀ (n : Nat) {x2 : Int32} {x3 : Int32}, 2147483648 - x3.toInt < (n : Int) → Tot (wX7_thingsOf_h4 k0 x1 s n x2 x3) (fun (_ : Int32) => True) := by
  intro n
  induction n with
  | zero =>
    intro x2 x3 hm
    exact (t_m0 hm).elim
  | succ n ih =>
    intro x2 x3 hm
    rw [wX7_thingsOf_h4]
    refine t_ite (fun c1 => ?_) (fun c1 => ?_)
    · refine t_bind (wX7_with_T hk0) (fun t2 h2 => ?_)
      refine t_ite (fun c3 => ?_) (fun c3 => ?_)
      · unfold wX7_thingsOf_j25
        exact t_mono (ih (t_m1 c1 hm)) (fun _ _ => trivial)
      · unfold wX7_thingsOf_j25
        exact t_mono (ih (t_m1 c1 hm)) (fun _ _ => trivial)
    · exact t_some trivial
theorem wX7_thingsOf_T {k0 : Nat} {x1 : Int32} {s : wS} (hk0 : wkd k0 = 7) : Tot (wX7_thingsOf k0 x1 s) (fun (_ : Int32) => True) := by
  unfold wX7_thingsOf
  refine t_bind (wX7_thingsOf_h4_T hk0 _   t_mi) (fun t6 h1 => ?_)
  exact t_some trivial
theorem wX7_fillWith_h53_T {k0 : Nat} {x1 : Int32} {x2 : Int32} {x3 : Int32} {x4 : Int32} (hk0 : wkd k0 = 7)  : ∀ (n : Nat) {x5 : Int32} {s : wS}, 0 ≤ x5.toInt → 2147483648 - x5.toInt < (n : Int) → Tot (wX7_fillWith_h53 k0 x1 x2 x3 x4 n x5 s) (fun (r : wS) => wA bQ s r) := by
  intro n
  induction n with
  | zero =>
    intro x5 s hi hm
    exact (t_m0 hm).elim
  | succ n ih =>
    intro x5 s hi hm
    rw [wX7_fillWith_h53]
    refine t_ite (fun c1 => ?_) (fun c1 => ?_)
    · refine t_ite (fun c2 => ?_) (fun c2 => ?_)
      · unfold wX7_fillWith_j75
        refine t_bind (wX10_slot_T) (fun t14 h3 => ?_)
        refine t_ite (fun c4 => ?_) (fun c4 => ?_)
        · unfold wX7_fillWith_j98
          refine t_bind (wX10_slot_T) (fun t17 h5 => ?_)
          refine t_ite (fun c6 => ?_) (fun c6 => ?_)
          · unfold wX7_fillWith_j115
            refine t_ite (fun c7 => ?_) (fun c7 => ?_)
            · unfold wX7_fillWith_j132
              have hw8 := (wly_7_0 hk0).2.2
              refine t_bind (t_stI (B := bQ) (n := (wln (k0 + 1))) (by (try simp only [Int32.lt_iff_toInt_lt, Int32.le_iff_toInt_le, ← Int32.toInt_inj, Int32.reduceToInt] at *) <;> omega) (by (try simp only [Int32.lt_iff_toInt_lt, Int32.le_iff_toInt_le, ← Int32.toInt_inj, Int32.reduceToInt] at *) <;> omega) (bQ_7_1 hk0)) (fun s21 h8 => ?_)
              exact t_mono (ih (t_n1 c6 hi) (t_m1 c6 hm)) (fun r h => (h8.1.trans h))
            · unfold wX7_fillWith_j132
              have hw9 := (wly_7_0 hk0).2.2
              refine t_bind (t_stI (B := bQ) (n := (wln (k0 + 1))) (by (try simp only [Int32.lt_iff_toInt_lt, Int32.le_iff_toInt_le, ← Int32.toInt_inj, Int32.reduceToInt] at *) <;> omega) (by (try simp only [Int32.lt_iff_toInt_lt, Int32.le_iff_toInt_le, ← Int32.toInt_inj, Int32.reduceToInt] at *) <;> omega) (bQ_7_1 hk0)) (fun s21 h9 => ?_)
              exact t_mono (ih (t_n1 c6 hi) (t_m1 c6 hm)) (fun r h => (h9.1.trans h))
          · unfold wX7_fillWith_j115
            refine t_ite (fun c10 => ?_) (fun c10 => ?_)
            · unfold wX7_fillWith_j132
              have hw11 := (wly_7_0 hk0).2.2
              refine t_bind (t_stI (B := bQ) (n := (wln (k0 + 1))) (by (try simp only [Int32.lt_iff_toInt_lt, Int32.le_iff_toInt_le, ← Int32.toInt_inj, Int32.reduceToInt] at *) <;> omega) (by (try simp only [Int32.lt_iff_toInt_lt, Int32.le_iff_toInt_le, ← Int32.toInt_inj, Int32.reduceToInt] at *) <;> omega) (bQ_7_1 hk0)) (fun s21 h11 => ?_)
              exact t_mono (ih (t_n1 c4 hi) (t_m1 c4 hm)) (fun r h => (h11.1.trans h))
            · unfold wX7_fillWith_j132
              have hw12 := (wly_7_0 hk0).2.2
              refine t_bind (t_stI (B := bQ) (n := (wln (k0 + 1))) (by (try simp only [Int32.lt_iff_toInt_lt, Int32.le_iff_toInt_le, ← Int32.toInt_inj, Int32.reduceToInt] at *) <;> omega) (by (try simp only [Int32.lt_iff_toInt_lt, Int32.le_iff_toInt_le, ← Int32.toInt_inj, Int32.reduceToInt] at *) <;> omega) (bQ_7_1 hk0)) (fun s21 h12 => ?_)
              exact t_mono (ih (t_n1 c4 hi) (t_m1 c4 hm)) (fun r h => (h12.1.trans h))
        · unfold wX7_fillWith_j98
          refine t_bind (wX10_slot_T) (fun t17 h13 => ?_)
          refine t_ite (fun c14 => ?_) (fun c14 => ?_)
          · unfold wX7_fillWith_j115
            refine t_ite (fun c15 => ?_) (fun c15 => ?_)
            · unfold wX7_fillWith_j132
              have hw16 := (wly_7_0 hk0).2.2
              refine t_bind (t_stI (B := bQ) (n := (wln (k0 + 1))) (by (try simp only [Int32.lt_iff_toInt_lt, Int32.le_iff_toInt_le, ← Int32.toInt_inj, Int32.reduceToInt] at *) <;> omega) (by (try simp only [Int32.lt_iff_toInt_lt, Int32.le_iff_toInt_le, ← Int32.toInt_inj, Int32.reduceToInt] at *) <;> omega) (bQ_7_1 hk0)) (fun s21 h16 => ?_)
              exact t_mono (ih (t_n1 c14 hi) (t_m1 c14 hm)) (fun r h => (h16.1.trans h))
            · unfold wX7_fillWith_j132
              have hw17 := (wly_7_0 hk0).2.2
              refine t_bind (t_stI (B := bQ) (n := (wln (k0 + 1))) (by (try simp only [Int32.lt_iff_toInt_lt, Int32.le_iff_toInt_le, ← Int32.toInt_inj, Int32.reduceToInt] at *) <;> omega) (by (try simp only [Int32.lt_iff_toInt_lt, Int32.le_iff_toInt_le, ← Int32.toInt_inj, Int32.reduceToInt] at *) <;> omega) (bQ_7_1 hk0)) (fun s21 h17 => ?_)
              exact t_mono (ih (t_n1 c14 hi) (t_m1 c14 hm)) (fun r h => (h17.1.trans h))
          · unfold wX7_fillWith_j115
            refine t_ite (fun c18 => ?_) (fun c18 => ?_)
            · unfold wX7_fillWith_j132
              have hw19 := (wly_7_0 hk0).2.2
              refine t_bind (t_stI (B := bQ) (n := (wln (k0 + 1))) (by (try simp only [Int32.lt_iff_toInt_lt, Int32.le_iff_toInt_le, ← Int32.toInt_inj, Int32.reduceToInt] at *) <;> omega) (by (try simp only [Int32.lt_iff_toInt_lt, Int32.le_iff_toInt_le, ← Int32.toInt_inj, Int32.reduceToInt] at *) <;> omega) (bQ_7_1 hk0)) (fun s21 h19 => ?_)
              exact t_mono (ih (t_n1 c1 hi) (t_m1 c1 hm)) (fun r h => (h19.1.trans h))
            · unfold wX7_fillWith_j132
              have hw20 := (wly_7_0 hk0).2.2
              refine t_bind (t_stI (B := bQ) (n := (wln (k0 + 1))) (by (try simp only [Int32.lt_iff_toInt_lt, Int32.le_iff_toInt_le, ← Int32.toInt_inj, Int32.reduceToInt] at *) <;> omega) (by (try simp only [Int32.lt_iff_toInt_lt, Int32.le_iff_toInt_le, ← Int32.toInt_inj, Int32.reduceToInt] at *) <;> omega) (bQ_7_1 hk0)) (fun s21 h20 => ?_)
              exact t_mono (ih (t_n1 c1 hi) (t_m1 c1 hm)) (fun r h => (h20.1.trans h))
      · unfold wX7_fillWith_j75
        refine t_bind (wX10_slot_T) (fun t14 h21 => ?_)
        refine t_ite (fun c22 => ?_) (fun c22 => ?_)
        · unfold wX7_fillWith_j98
          refine t_bind (wX10_slot_T) (fun t17 h23 => ?_)
          refine t_ite (fun c24 => ?_) (fun c24 => ?_)
          · unfold wX7_fillWith_j115
            refine t_ite (fun c25 => ?_) (fun c25 => ?_)
            · unfold wX7_fillWith_j132
              have hw26 := (wly_7_0 hk0).2.2
              refine t_bind (t_stI (B := bQ) (n := (wln (k0 + 1))) (by (try simp only [Int32.lt_iff_toInt_lt, Int32.le_iff_toInt_le, ← Int32.toInt_inj, Int32.reduceToInt] at *) <;> omega) (by (try simp only [Int32.lt_iff_toInt_lt, Int32.le_iff_toInt_le, ← Int32.toInt_inj, Int32.reduceToInt] at *) <;> omega) (bQ_7_1 hk0)) (fun s21 h26 => ?_)
              exact t_mono (ih (t_n1 c24 hi) (t_m1 c24 hm)) (fun r h => (h26.1.trans h))
            · unfold wX7_fillWith_j132
              have hw27 := (wly_7_0 hk0).2.2
              refine t_bind (t_stI (B := bQ) (n := (wln (k0 + 1))) (by (try simp only [Int32.lt_iff_toInt_lt, Int32.le_iff_toInt_le, ← Int32.toInt_inj, Int32.reduceToInt] at *) <;> omega) (by (try simp only [Int32.lt_iff_toInt_lt, Int32.le_iff_toInt_le, ← Int32.toInt_inj, Int32.reduceToInt] at *) <;> omega) (bQ_7_1 hk0)) (fun s21 h27 => ?_)
              exact t_mono (ih (t_n1 c24 hi) (t_m1 c24 hm)) (fun r h => (h27.1.trans h))
          · unfold wX7_fillWith_j115
            refine t_ite (fun c28 => ?_) (fun c28 => ?_)
            · unfold wX7_fillWith_j132
              have hw29 := (wly_7_0 hk0).2.2
              refine t_bind (t_stI (B := bQ) (n := (wln (k0 + 1))) (by (try simp only [Int32.lt_iff_toInt_lt, Int32.le_iff_toInt_le, ← Int32.toInt_inj, Int32.reduceToInt] at *) <;> omega) (by (try simp only [Int32.lt_iff_toInt_lt, Int32.le_iff_toInt_le, ← Int32.toInt_inj, Int32.reduceToInt] at *) <;> omega) (bQ_7_1 hk0)) (fun s21 h29 => ?_)
              exact t_mono (ih (t_n1 c22 hi) (t_m1 c22 hm)) (fun r h => (h29.1.trans h))
            · unfold wX7_fillWith_j132
              have hw30 := (wly_7_0 hk0).2.2
              refine t_bind (t_stI (B := bQ) (n := (wln (k0 + 1))) (by (try simp only [Int32.lt_iff_toInt_lt, Int32.le_iff_toInt_le, ← Int32.toInt_inj, Int32.reduceToInt] at *) <;> omega) (by (try simp only [Int32.lt_iff_toInt_lt, Int32.le_iff_toInt_le, ← Int32.toInt_inj, Int32.reduceToInt] at *) <;> omega) (bQ_7_1 hk0)) (fun s21 h30 => ?_)
              exact t_mono (ih (t_n1 c22 hi) (t_m1 c22 hm)) (fun r h => (h30.1.trans h))
        · unfold wX7_fillWith_j98
          refine t_bind (wX10_slot_T) (fun t17 h31 => ?_)
          refine t_ite (fun c32 => ?_) (fun c32 => ?_)
          · unfold wX7_fillWith_j115
            refine t_ite (fun c33 => ?_) (fun c33 => ?_)
            · unfold wX7_fillWith_j132
              have hw34 := (wly_7_0 hk0).2.2
              refine t_bind (t_stI (B := bQ) (n := (wln (k0 + 1))) (by (try simp only [Int32.lt_iff_toInt_lt, Int32.le_iff_toInt_le, ← Int32.toInt_inj, Int32.reduceToInt] at *) <;> omega) (by (try simp only [Int32.lt_iff_toInt_lt, Int32.le_iff_toInt_le, ← Int32.toInt_inj, Int32.reduceToInt] at *) <;> omega) (bQ_7_1 hk0)) (fun s21 h34 => ?_)
              exact t_mono (ih (t_n1 c32 hi) (t_m1 c32 hm)) (fun r h => (h34.1.trans h))
            · unfold wX7_fillWith_j132
              have hw35 := (wly_7_0 hk0).2.2
              refine t_bind (t_stI (B := bQ) (n := (wln (k0 + 1))) (by (try simp only [Int32.lt_iff_toInt_lt, Int32.le_iff_toInt_le, ← Int32.toInt_inj, Int32.reduceToInt] at *) <;> omega) (by (try simp only [Int32.lt_iff_toInt_lt, Int32.le_iff_toInt_le, ← Int32.toInt_inj, Int32.reduceToInt] at *) <;> omega) (bQ_7_1 hk0)) (fun s21 h35 => ?_)
              exact t_mono (ih (t_n1 c32 hi) (t_m1 c32 hm)) (fun r h => (h35.1.trans h))
          · unfold wX7_fillWith_j115
            refine t_ite (fun c36 => ?_) (fun c36 => ?_)
            · unfold wX7_fillWith_j132
              have hw37 := (wly_7_0 hk0).2.2
              refine t_bind (t_stI (B := bQ) (n := (wln (k0 + 1))) (by (try simp only [Int32.lt_iff_toInt_lt, Int32.le_iff_toInt_le, ← Int32.toInt_inj, Int32.reduceToInt] at *) <;> omega) (by (try simp only [Int32.lt_iff_toInt_lt, Int32.le_iff_toInt_le, ← Int32.toInt_inj, Int32.reduceToInt] at *) <;> omega) (bQ_7_1 hk0)) (fun s21 h37 => ?_)
              exact t_mono (ih (t_n1 c1 hi) (t_m1 c1 hm)) (fun r h => (h37.1.trans h))
            · unfold wX7_fillWith_j132
              have hw38 := (wly_7_0 hk0).2.2
              refine t_bind (t_stI (B := bQ) (n := (wln (k0 + 1))) (by (try simp only [Int32.lt_iff_toInt_lt, Int32.le_iff_toInt_le, ← Int32.toInt_inj, Int32.reduceToInt] at *) <;> omega) (by (try simp only [Int32.lt_iff_toInt_lt, Int32.le_iff_toInt_le, ← Int32.toInt_inj, Int32.reduceToInt] at *) <;> omega) (bQ_7_1 hk0)) (fun s21 h38 => ?_)
              exact t_mono (ih (t_n1 c1 hi) (t_m1 c1 hm)) (fun r h => (h38.1.trans h))
    · exact t_some wA.refl
end
section
/-! The class: its methods answer. -/
theorem wX7_fillWith_T {k0 : Nat} {x1 : Int32} {s : wS} (hk0 : wkd k0 = 7) : Tot (wX7_fillWith k0 x1 s) (fun (r : wS) => wA bQ s r) := by
  unfold wX7_fillWith
  refine t_bind (wJ6_bitCount_0f7a4_T) (fun t1 h1 => ?_)
  refine t_bind (wX10_slot_T) (fun t3 h2 => ?_)
  refine t_bind (wJ6_bitCount_0f7a4_T) (fun t5 h3 => ?_)
  refine t_bind (wX10_slot_T) (fun t7 h4 => ?_)
  refine t_bind (wJ6_bitCount_0f7a4_T) (fun t9 h5 => ?_)
  refine t_bind (t_pfI (B := bQ) (bQ_7f1 hk0)) (fun s11 h6 => ?_)
  refine t_bind (wX7_fillWith_h53_T hk0 _  (by decide) t_mi) (fun s23 h7 => ?_)
  have a8 := h6.1.trans h7
  exact t_some a8
theorem wX7_keepOnly_h5_T {k0 : Nat} {x1 : Int32} {x2 : Int32} {s : wS} (hk0 : wkd k0 = 7)  : ∀ (n : Nat) {x3 : Int32} {x4 : Int32}, 2147483648 - x4.toInt < (n : Int) → Tot (wX7_keepOnly_h5 k0 x1 x2 s n x3 x4) (fun (_ : Int32) => True) := by
  intro n
  induction n with
  | zero =>
    intro x3 x4 hm
    exact (t_m0 hm).elim
  | succ n ih =>
    intro x3 x4 hm
    rw [wX7_keepOnly_h5]
    refine t_ite (fun c1 => ?_) (fun c1 => ?_)
    · refine t_ite (fun c2 => ?_) (fun c2 => ?_)
      · refine t_bind (wX7_thingsOf_T hk0) (fun t3 h3 => ?_)
        unfold wX7_keepOnly_j34
        refine t_bind (wX10_slot_T) (fun t5 h4 => ?_)
        exact t_mono (ih (t_m1 c1 hm)) (fun _ _ => trivial)
      · refine t_bind (wX7_thingsOf_T hk0) (fun t7 h5 => ?_)
        unfold wX7_keepOnly_j34
        refine t_bind (wX10_slot_T) (fun t5 h6 => ?_)
        exact t_mono (ih (t_m1 c1 hm)) (fun _ _ => trivial)
    · exact t_some trivial
theorem wX7_keepOnly_T {k0 : Nat} {x1 : Int32} {x2 : Int32} {s : wS} (hk0 : wkd k0 = 7) : Tot (wX7_keepOnly k0 x1 x2 s) (fun (r : wS) => wA bQ s r) := by
  unfold wX7_keepOnly
  refine t_bind (wX7_keepOnly_h5_T hk0 _   t_mi) (fun t10 h1 => ?_)
  refine t_bind (wX7_fillWith_T hk0) (fun s16 h2 => ?_)
  exact t_some h2
theorem wX8_byteAt_j23_T {s : wS}  : Tot (wX8_byteAt_j23 s) (fun (_ : Int32) => True) := by
  unfold wX8_byteAt_j23
  exact t_some trivial
theorem wX8_byteAt_T {x1 : Int32} {s : wS}  : Tot (wX8_byteAt x1 s) (fun (_ : Int32) => True) := by
  unfold wX8_byteAt
  refine t_bind (wX10_isOutside_T) (fun t1 h1 => ?_)
  refine t_ite (fun c2 => ?_) (fun c2 => ?_)
  · refine t_bind (wX10_isOutside_T) (fun t4 h3 => ?_)
    refine t_ite (fun c4 => ?_) (fun c4 => ?_)
    · refine t_bind (t_ldI (n := 400) (by (try simp only [Int32.lt_iff_toInt_lt, Int32.le_iff_toInt_le, ← Int32.toInt_inj, Int32.reduceToInt] at *) <;> omega) (by (try simp only [Int32.lt_iff_toInt_lt, Int32.le_iff_toInt_le, ← Int32.toInt_inj, Int32.reduceToInt] at *) <;> omega)) (fun t7 h5 => ?_)
      exact t_some trivial
    · exact t_mono (wX8_byteAt_j23_T) (fun _ _ => trivial)
  · exact t_mono (wX8_byteAt_j23_T) (fun _ _ => trivial)
theorem wX8_isBetween_T {x1 : Int32} {x2 : Int32} {x3 : Int32} {s : wS}  : Tot (wX8_isBetween x1 x2 x3 s) (fun (_ : Int32) => True) := by
  unfold wX8_isBetween
  refine t_bind (wX8_byteAt_T) (fun t1 h1 => ?_)
  refine t_ite (fun c2 => ?_) (fun c2 => ?_)
  · exact t_some trivial
  · refine t_ite (fun c3 => ?_) (fun c3 => ?_)
    · exact t_some trivial
    · exact t_some trivial
theorem wX9_put_T {x1 : Int32} {x2 : Int32} {x3 : Int32} {s : wS}  : Tot (wX9_put x1 x2 x3 s) (fun (r : wS) => wA bR s r) := by
  unfold wX9_put
  refine t_bind (wX10_isOutside_T) (fun t1 h1 => ?_)
  refine t_ite (fun c2 => ?_) (fun c2 => ?_)
  · refine t_bind (t_stI (B := bR) (n := 401) (by (try simp only [Int32.lt_iff_toInt_lt, Int32.le_iff_toInt_le, ← Int32.toInt_inj, Int32.reduceToInt] at *) <;> omega) (by (try simp only [Int32.lt_iff_toInt_lt, Int32.le_iff_toInt_le, ← Int32.toInt_inj, Int32.reduceToInt] at *) <;> omega) (fun _ => rfl)) (fun s4 h3 => ?_)
    have f4 : s4.1 3 3 = s.1 3 3 := by rw [h3.2, wupI_n (by omega)]
    refine t_bind (t_stI (B := bR) (n := 401) (by (try simp only [Int32.lt_iff_toInt_lt, Int32.le_iff_toInt_le, ← Int32.toInt_inj, Int32.reduceToInt] at *) <;> omega) (by (try simp only [Int32.lt_iff_toInt_lt, Int32.le_iff_toInt_le, ← Int32.toInt_inj, Int32.reduceToInt] at *) <;> omega) (fun _ => rfl)) (fun s5 h5 => ?_)
    have a6 := h3.1.trans h5.1
    have f7 : s5.1 3 3 = s4.1 3 3 := by rw [h5.2, wupI_n (by omega)]
    refine t_bind (t_stI (B := bR) (n := 401) (by (try simp only [Int32.lt_iff_toInt_lt, Int32.le_iff_toInt_le, ← Int32.toInt_inj, Int32.reduceToInt] at *) <;> omega) (by (try simp only [Int32.lt_iff_toInt_lt, Int32.le_iff_toInt_le, ← Int32.toInt_inj, Int32.reduceToInt] at *) <;> omega) (fun _ => rfl)) (fun s6 h8 => ?_)
    have a9 := a6.trans h8.1
    have f10 : s6.1 3 3 = s5.1 3 3 := by rw [h8.2, wupI_n (by omega)]
    refine t_bind (t_pfI (B := bR) rfl) (fun s7 h11 => ?_)
    have a12 := a9.trans h11.1
    exact t_some a12
  · exact t_some wA.refl
theorem wX9_endOf_h5_T {x2 : Int32} {x3 : Int32} {s : wS}   : ∀ (n : Nat) {x4 : Int32}, 2147483648 - x4.toInt < (n : Int) → Tot (wX9_endOf_h5 x2 x3 s n x4) (fun (_ : Int32) => True) := by
  intro n
  induction n with
  | zero =>
    intro x4 hm
    exact (t_m0 hm).elim
  | succ n ih =>
    intro x4 hm
    rw [wX9_endOf_h5]
    refine t_ite (fun c1 => ?_) (fun c1 => ?_)
    · refine t_bind (wX8_isBetween_T) (fun t2 h2 => ?_)
      refine t_ite (fun c3 => ?_) (fun c3 => ?_)
      · exact t_some trivial
      · exact t_mono (ih (t_m1 c1 hm)) (fun _ _ => trivial)
    · exact t_some trivial
theorem wX9_endOf_T {x1 : Int32} {x2 : Int32} {x3 : Int32} {s : wS}  : Tot (wX9_endOf x1 x2 x3 s) (fun (_ : Int32) => True) := by
  unfold wX9_endOf
  refine t_bind (wX9_endOf_h5_T  _   t_mi) (fun t6 h1 => ?_)
  exact t_some trivial
theorem wX9_numberAt_h14_T {x2 : Int32} {s : wS}   : ∀ (n : Nat) {x3 : Int32} {x4 : Int32}, 2147483648 - x4.toInt < (n : Int) → Tot (wX9_numberAt_h14 x2 s n x3 x4) (fun (_ : Int32) => True) := by
  intro n
  induction n with
  | zero =>
    intro x3 x4 hm
    exact (t_m0 hm).elim
  | succ n ih =>
    intro x3 x4 hm
    rw [wX9_numberAt_h14]
    refine t_ite (fun c1 => ?_) (fun c1 => ?_)
    · refine t_bind (wX8_byteAt_T) (fun t3 h2 => ?_)
      exact t_mono (ih (t_m1 c1 hm)) (fun _ _ => trivial)
    · exact t_some trivial
theorem wX9_numberAt_T {x1 : Int32} {x2 : Int32} {s : wS}  : Tot (wX9_numberAt x1 x2 s) (fun (_ : Int32) => True) := by
  unfold wX9_numberAt
  refine t_ite (fun c1 => ?_) (fun c1 => ?_)
  · exact t_some trivial
  · refine t_bind (wX9_numberAt_h14_T  _   t_mi) (fun t6 h2 => ?_)
    exact t_some trivial
theorem wX9_byteSign_T {x0 : Int32} {x1 : Int32} {s : wS}  : Tot (wX9_byteSign x0 x1 s) (fun (_ : Int32) => True) := by
  unfold wX9_byteSign
  refine t_ite (fun c1 => ?_) (fun c1 => ?_)
  · exact t_some trivial
  · refine t_ite (fun c2 => ?_) (fun c2 => ?_)
    · exact t_some trivial
    · refine t_ite (fun c3 => ?_) (fun c3 => ?_)
      · exact t_some trivial
      · refine t_ite (fun c4 => ?_) (fun c4 => ?_)
        · exact t_some trivial
        · refine t_ite (fun c5 => ?_) (fun c5 => ?_)
          · exact t_some trivial
          · refine t_ite (fun c6 => ?_) (fun c6 => ?_)
            · refine t_ite (fun c7 => ?_) (fun c7 => ?_)
              · exact t_some trivial
              · exact t_some trivial
            · refine t_ite (fun c8 => ?_) (fun c8 => ?_)
              · exact t_some trivial
              · refine t_ite (fun c9 => ?_) (fun c9 => ?_)
                · refine t_ite (fun c10 => ?_) (fun c10 => ?_)
                  · exact t_some trivial
                  · exact t_some trivial
                · refine t_ite (fun c11 => ?_) (fun c11 => ?_)
                  · exact t_some trivial
                  · refine t_ite (fun c12 => ?_) (fun c12 => ?_)
                    · exact t_some trivial
                    · exact t_some trivial
theorem wX10_courtIsAnother_h16_T    : ∀ (n : Nat) {x1 : Int32} {s : wS}, 0 ≤ x1.toInt → 2147483648 - x1.toInt < (n : Int) → Tot (wX10_courtIsAnother_h16  n x1 s) (fun (r : wS) => wA bQ s r) := by
  intro n
  induction n with
  | zero =>
    intro x1 s hi hm
    exact (t_m0 hm).elim
  | succ n ih =>
    intro x1 s hi hm
    rw [wX10_courtIsAnother_h16]
    refine t_ite (fun c1 => ?_) (fun c1 => ?_)
    · refine t_bind (t_ldR3 (by (try simp only [Int32.lt_iff_toInt_lt, Int32.le_iff_toInt_le, ← Int32.toInt_inj, Int32.reduceToInt] at *) <;> omega) (by (try simp only [Int32.lt_iff_toInt_lt, Int32.le_iff_toInt_le, ← Int32.toInt_inj, Int32.reduceToInt] at *) <;> omega)) (fun k5 h2 => ?_)
      refine t_bind (t_ldR3 (by (try simp only [Int32.lt_iff_toInt_lt, Int32.le_iff_toInt_le, ← Int32.toInt_inj, Int32.reduceToInt] at *) <;> omega) (by (try simp only [Int32.lt_iff_toInt_lt, Int32.le_iff_toInt_le, ← Int32.toInt_inj, Int32.reduceToInt] at *) <;> omega)) (fun k6 h3 => ?_)
      refine t_bind (t_pfZ (B := bQ) (by decide) (bQ_3f12 h3.1)) (fun s7 h4 => ?_)
      unfold wX10_courtIsAnother_j44
      exact t_mono (ih (t_n1 c1 hi) (t_m1 c1 hm)) (fun r h => (h4.1.trans h))
    · exact t_some wA.refl
theorem wX10_courtIsAnother_T {s : wS}  : Tot (wX10_courtIsAnother s) (fun (r : wS) => wA bR s r) := by
  unfold wX10_courtIsAnother
  refine t_bind (wX5_fill_T rfl) (fun s2 h1 => ?_)
  refine t_bind (wX10_courtIsAnother_h16_T  _  (by decide) t_mi) (fun s9 h2 => ?_)
  have a3 := h1.trans (h2.mono bQ_le_bR)
  exact t_some a3
theorem wX10_thing_T {x1 : Int32} {x2 : Int32} {x3 : Int32} {s : wS}  : Tot (wX10_thing x1 x2 x3 s) (fun (_ : Int32) => True) := by
  unfold wX10_thing
  refine t_bind (wX10_isOutside_T) (fun t1 h1 => ?_)
  refine t_ite (fun c2 => ?_) (fun c2 => ?_)
  · refine t_bind (wX0_isTold_T rfl) (fun t4 h3 => ?_)
    refine t_ite (fun c4 => ?_) (fun c4 => ?_)
    · exact t_some trivial
    · refine t_ite (fun c5 => ?_) (fun c5 => ?_)
      · refine t_bind (wX0_manyOf_T rfl) (fun t8 h6 => ?_)
        exact t_some trivial
      · refine t_bind (wX10_isOutside_T) (fun t10 h7 => ?_)
        refine t_ite (fun c8 => ?_) (fun c8 => ?_)
        · refine t_ite (fun c9 => ?_) (fun c9 => ?_)
          · exact t_some trivial
          · refine t_bind (wX0_has_T rfl) (fun t14 h10 => ?_)
            refine t_ite (fun c11 => ?_) (fun c11 => ?_)
            · exact t_some trivial
            · refine t_ite (fun c12 => ?_) (fun c12 => ?_)
              · refine t_bind (wX0_firstOf_T rfl) (fun t18 h13 => ?_)
                exact t_some trivial
              · refine t_bind (wX0_secondOf_T rfl) (fun t20 h14 => ?_)
                exact t_some trivial
        · exact t_some trivial
  · exact t_some trivial
theorem wX10_lawInUse_T {x1 : Int32} {s : wS} : Tot (wX10_lawInUse x1 s) (fun (r : Option Nat × wS) => (∀ k, r.1 = some k → wkd k = 3) ∧ wA bQ s r.2) := by
  unfold wX10_lawInUse
  refine t_bind (wX0_isTold_T rfl) (fun t1 h1 => t_ite (fun c1 => t_some ⟨fun k e => (by cases e), wA.refl⟩) (fun c1 => ?_))
  refine t_bind wX10_isOutside_T (fun t4 h4 => t_ite (fun c4 => ?_) (fun c1 => t_some ⟨fun k e => (by cases e), wA.refl⟩))
  refine t_bind wX10_isOutside_T (fun t7 h7 => t_ite (fun c7 => ?_) (fun c1 => t_some ⟨fun k e => (by cases e), wA.refl⟩))
  have h8 : 0 ≤ x1.toInt ∧ x1.toInt < 6 := by
    rcases h7 with h | h
    · exact h.2
    · rw [h.1] at c7; exact absurd c7 (by decide)
  refine t_bind (t_ldR3 h8.1 h8.2) (fun k10 h10 => t_ite (fun c10 => ?_) (fun c10 => t_some ⟨fun k e => (by cases e; exact h10.1), wA.refl⟩))
  refine t_bind (wX3_measure_T h10.1 rfl) (fun s13 h13 => t_some ⟨fun k e => (by cases e; exact h10.1), h13⟩)
theorem wX10_far_T {x1 : Int32} {x2 : Int32} {x3 : Int32} {x4 : Int32} {s : wS}  : Tot (wX10_far x1 x2 x3 x4 s) (fun (r : Int64 × wS) => wA bQ s r.2) := by
  unfold wX10_far
  refine t_bind (wX10_lawInUse_T) (fun r2 h1 => ?_)
  obtain ⟨o1, s2⟩ := r2
  dsimp only at h1 ⊢
  refine t_elim (fun e3 => ?_) (fun k4 e3 => ?_)
  · exact t_some h1.2
  · have hk4 := (h1.1) k4 e3
    refine t_bind (wX0_has_T rfl) (fun t5 h4 => ?_)
    refine t_ite (fun c5 => ?_) (fun c5 => ?_)
    · exact t_some h1.2
    · refine t_bind (wX0_has_T rfl) (fun t8 h6 => ?_)
      refine t_ite (fun c7 => ?_) (fun c7 => ?_)
      · exact t_some h1.2
      · refine t_bind (wX3_farOf_T hk4) (fun t11 h8 => ?_)
        exact t_some h1.2
theorem wX10_answers_T {x1 : Int32} {x2 : Int32} {s : wS}  : Tot (wX10_answers x1 x2 s) (fun (_ : Int32) => True) := by
  unfold wX10_answers
  refine t_bind (wX2_hasAnswer_T rfl) (fun t1 h1 => ?_)
  refine t_ite (fun c2 => ?_) (fun c2 => ?_)
  · exact t_some trivial
  · refine t_ite (fun c3 => ?_) (fun c3 => ?_)
    · refine t_bind (wX10_at_T rfl) (fun t5 h4 => ?_)
      exact t_some trivial
    · refine t_ite (fun c5 => ?_) (fun c5 => ?_)
      · refine t_bind (wX10_at_T rfl) (fun t8 h6 => ?_)
        exact t_some trivial
      · refine t_ite (fun c7 => ?_) (fun c7 => ?_)
        · refine t_bind (wX10_at_T rfl) (fun t11 h8 => ?_)
          exact t_some trivial
        · refine t_ite (fun c9 => ?_) (fun c9 => ?_)
          · refine t_bind (wX10_at_T rfl) (fun t14 h10 => ?_)
            exact t_some trivial
          · refine t_ite (fun c11 => ?_) (fun c11 => ?_)
            · refine t_bind (wX2_isStruck_T rfl) (fun t17 h12 => ?_)
              refine t_ite (fun c13 => ?_) (fun c13 => ?_)
              · exact t_some trivial
              · exact t_some trivial
            · exact t_some trivial
theorem wX10_spare_T {x1 : Int32} {s : wS}  : Tot (wX10_spare x1 s) (fun (_ : Int32) => True) := by
  unfold wX10_spare
  refine t_bind (wX10_isOutside_T) (fun t1 h1 => ?_)
  refine t_ite (fun c2 => ?_) (fun c2 => ?_)
  · refine t_bind (wX2_mayStillGive_T rfl) (fun t4 h3 => ?_)
    exact t_some trivial
  · exact t_some trivial
theorem wX10_nearThings_T {k1 : Nat} {x2 : Int32} {s : wS} (hk1 : wkd k1 = 3) : Tot (wX10_nearThings k1 x2 s) (fun (_ : Int32) => True) := by
  unfold wX10_nearThings
  refine t_bind (wX10_at_T rfl) (fun t1 h1 => ?_)
  refine t_bind (wX10_at_T rfl) (fun t3 h2 => ?_)
  refine t_bind (wX10_at_T rfl) (fun t5 h3 => ?_)
  refine t_bind (wX3_nearOf_T hk1) (fun t7 h4 => ?_)
  exact t_some trivial
theorem wX10_isTrue_T {k1 : Nat} {x2 : Int32} {x3 : Int32} {s : wS} (hk1 : wkd k1 = 3) : Tot (wX10_isTrue k1 x2 x3 s) (fun (_ : Int32) => True) := by
  unfold wX10_isTrue
  refine t_bind (wX10_at_T rfl) (fun t1 h1 => ?_)
  refine t_bind (wX0_thingIn_T rfl) (fun t3 h2 => ?_)
  refine t_bind (wX10_nearThings_T hk1) (fun t5 h3 => ?_)
  refine t_ite (fun c4 => ?_) (fun c4 => ?_)
  · exact t_some trivial
  · exact t_some trivial
theorem wX10_holds_T {x1 : Int32} {x2 : Int32} {x3 : Int32} {s : wS}  : Tot (wX10_holds x1 x2 x3 s) (fun (r : Int32 × wS) => wA bQ s r.2) := by
  unfold wX10_holds
  refine t_bind (wX10_lawInUse_T) (fun r2 h1 => ?_)
  obtain ⟨o1, s2⟩ := r2
  dsimp only at h1 ⊢
  refine t_elim (fun e3 => ?_) (fun k4 e3 => ?_)
  · exact t_some h1.2
  · have hk4 := (h1.1) k4 e3
    refine t_bind (wX2_hasAnswer_T rfl) (fun t5 h4 => ?_)
    refine t_ite (fun c5 => ?_) (fun c5 => ?_)
    · exact t_some h1.2
    · refine t_bind (wX0_worlds_T rfl) (fun t8 h6 => ?_)
      refine t_bind (wX10_isOutside_T) (fun t10 h7 => ?_)
      refine t_ite (fun c8 => ?_) (fun c8 => ?_)
      · refine t_bind (wX10_isTrue_T hk4) (fun t13 h9 => ?_)
        refine t_ite (fun c10 => ?_) (fun c10 => ?_)
        · exact t_some h1.2
        · exact t_some h1.2
      · exact t_some h1.2
theorem wX10_addFalse_h2_T {x1 : Int32} {x2 : Int32}   : ∀ (n : Nat) {x3 : Int32} {s : wS}, 2147483648 - x3.toInt < (n : Int) → Tot (wX10_addFalse_h2 x1 x2 n x3 s) (fun (r : wS) => wA bQ s r) := by
  intro n
  induction n with
  | zero =>
    intro x3 s hm
    exact (t_m0 hm).elim
  | succ n ih =>
    intro x3 s hm
    rw [wX10_addFalse_h2]
    refine t_bind (wX0_manyOf_T rfl) (fun t1 h1 => ?_)
    refine t_ite (fun c2 => ?_) (fun c2 => ?_)
    · refine t_ite (fun c3 => ?_) (fun c3 => ?_)
      · refine t_bind (wX10_slot_T) (fun t5 h4 => ?_)
        refine t_bind (wX10_slot_T) (fun t7 h5 => ?_)
        refine t_bind (wX10_at_T rfl) (fun t9 h6 => ?_)
        refine t_bind (wX10_set_T rfl (B := bQ) (fun _ => rfl)) (fun s12 h7 => ?_)
        unfold wX10_addFalse_j51
        exact t_mono (ih (t_m1 c2 hm)) (fun r h => (h7.1.trans h))
      · unfold wX10_addFalse_j51
        exact t_mono (ih (t_m1 c2 hm)) (fun r h => h)
    · exact t_some wA.refl
theorem wX10_addFalse_T {x1 : Int32} {x2 : Int32} {s : wS}  : Tot (wX10_addFalse x1 x2 s) (fun (r : wS) => wA bQ s r) := by
  unfold wX10_addFalse
  refine t_bind (wX10_addFalse_h2_T  _   t_mi) (fun s15 h1 => ?_)
  exact t_some h1
theorem wX10_countFalse_h10_T {k1 : Nat} {x2 : Int32} {x3 : Int32} {x4 : Int32} (hk1 : wkd k1 = 3)  : ∀ (n : Nat) {x5 : Int32} {s : wS}, 2147483648 - x5.toInt < (n : Int) → Tot (wX10_countFalse_h10 k1 x2 x3 x4 n x5 s) (fun (r : wS) => wA bQ s r) := by
  intro n
  induction n with
  | zero =>
    intro x5 s hm
    exact (t_m0 hm).elim
  | succ n ih =>
    intro x5 s hm
    rw [wX10_countFalse_h10]
    refine t_ite (fun c1 => ?_) (fun c1 => ?_)
    · refine t_ite (fun c2 => ?_) (fun c2 => ?_)
      · unfold wX10_countFalse_j38
        unfold wX10_countFalse_j43
        refine t_bind (wX2_isLookedAt_T rfl) (fun t6 h3 => ?_)
        refine t_ite (fun c4 => ?_) (fun c4 => ?_)
        · unfold wX10_countFalse_j93
          exact t_mono (ih (t_m1 c1 hm)) (fun r h => h)
        · refine t_ite (fun c5 => ?_) (fun c5 => ?_)
          · unfold wX10_countFalse_j93
            exact t_mono (ih (t_m1 c1 hm)) (fun r h => h)
          · refine t_ite (fun c6 => ?_) (fun c6 => ?_)
            · unfold wX10_countFalse_j93
              exact t_mono (ih (t_m1 c1 hm)) (fun r h => h)
            · refine t_bind (wX10_at_T rfl) (fun t11 h7 => ?_)
              refine t_bind (wX10_nearThings_T hk1) (fun t13 h8 => ?_)
              refine t_bind (wX10_addFalse_T) (fun s16 h9 => ?_)
              unfold wX10_countFalse_j93
              exact t_mono (ih (t_m1 c1 hm)) (fun r h => (h9.trans h))
      · refine t_bind (wX10_at_T rfl) (fun t18 h10 => ?_)
        refine t_ite (fun c11 => ?_) (fun c11 => ?_)
        · unfold wX10_countFalse_j38
          unfold wX10_countFalse_j43
          refine t_bind (wX2_isLookedAt_T rfl) (fun t6 h12 => ?_)
          refine t_ite (fun c13 => ?_) (fun c13 => ?_)
          · unfold wX10_countFalse_j93
            exact t_mono (ih (t_m1 c1 hm)) (fun r h => h)
          · refine t_ite (fun c14 => ?_) (fun c14 => ?_)
            · unfold wX10_countFalse_j93
              exact t_mono (ih (t_m1 c1 hm)) (fun r h => h)
            · refine t_ite (fun c15 => ?_) (fun c15 => ?_)
              · unfold wX10_countFalse_j93
                exact t_mono (ih (t_m1 c1 hm)) (fun r h => h)
              · refine t_bind (wX10_at_T rfl) (fun t11 h16 => ?_)
                refine t_bind (wX10_nearThings_T hk1) (fun t13 h17 => ?_)
                refine t_bind (wX10_addFalse_T) (fun s16 h18 => ?_)
                unfold wX10_countFalse_j93
                exact t_mono (ih (t_m1 c1 hm)) (fun r h => (h18.trans h))
        · unfold wX10_countFalse_j43
          refine t_bind (wX2_isLookedAt_T rfl) (fun t6 h19 => ?_)
          refine t_ite (fun c20 => ?_) (fun c20 => ?_)
          · unfold wX10_countFalse_j93
            exact t_mono (ih (t_m1 c1 hm)) (fun r h => h)
          · refine t_ite (fun c21 => ?_) (fun c21 => ?_)
            · unfold wX10_countFalse_j93
              exact t_mono (ih (t_m1 c1 hm)) (fun r h => h)
            · refine t_ite (fun c22 => ?_) (fun c22 => ?_)
              · unfold wX10_countFalse_j93
                exact t_mono (ih (t_m1 c1 hm)) (fun r h => h)
              · refine t_bind (wX10_at_T rfl) (fun t11 h23 => ?_)
                refine t_bind (wX10_nearThings_T hk1) (fun t13 h24 => ?_)
                refine t_bind (wX10_addFalse_T) (fun s16 h25 => ?_)
                unfold wX10_countFalse_j93
                exact t_mono (ih (t_m1 c1 hm)) (fun r h => (h25.trans h))
    · exact t_some wA.refl
theorem wX10_countFalse_h172_T {x6 : Int32} {x7 : Int32} {x8 : Int32}   : ∀ (n : Nat) {x5 : Int32} {x9 : Int32} {s : wS}, 2147483648 - x9.toInt < (n : Int) → Tot (wX10_countFalse_h172 x6 x7 x8 n x5 x9 s) (fun (r : Int32 × wS) => wA bQ s r.2) := by
  intro n
  induction n with
  | zero =>
    intro x5 x9 s hm
    exact (t_m0 hm).elim
  | succ n ih =>
    intro x5 x9 s hm
    rw [wX10_countFalse_h172]
    refine t_bind (wX0_manyOf_T rfl) (fun t46 h1 => ?_)
    refine t_ite (fun c2 => ?_) (fun c2 => ?_)
    · refine t_bind (wX10_slot_T) (fun t49 h3 => ?_)
      refine t_bind (wX10_at_T rfl) (fun t51 h4 => ?_)
      refine t_bind (wX10_set_T rfl (B := bQ) (fun _ => rfl)) (fun s54 h5 => ?_)
      exact t_mono (ih (t_m1 c2 hm)) (fun r h => (h5.1.trans h))
    · exact t_some wA.refl
theorem wX10_countFalse_h124_T {x6 : Int32}   : ∀ (n : Nat) {x5 : Int32} {x7 : Int32} {s : wS}, 2147483648 - x7.toInt < (n : Int) → Tot (wX10_countFalse_h124 x6 n x5 x7 s) (fun (r : Int32 × wS) => wA bQ s r.2) := by
  intro n
  induction n with
  | zero =>
    intro x5 x7 s hm
    exact (t_m0 hm).elim
  | succ n ih =>
    intro x5 x7 s hm
    rw [wX10_countFalse_h124]
    refine t_bind (wX0_manyOf_T rfl) (fun t35 h1 => ?_)
    refine t_ite (fun c2 => ?_) (fun c2 => ?_)
    · refine t_bind (wX10_slot_T) (fun t38 h3 => ?_)
      refine t_bind (wX10_at_T rfl) (fun t40 h4 => ?_)
      refine t_bind (wX10_slot_T) (fun t42 h5 => ?_)
      refine t_bind (wX10_at_T rfl) (fun t44 h6 => ?_)
      refine t_bind (wX10_countFalse_h172_T  _   t_mi) (fun r8 h7 => ?_)
      obtain ⟨t57, s58⟩ := r8
      dsimp only at h7 ⊢
      exact t_mono (ih (t_m1 c2 hm)) (fun r h => (h7.trans h))
    · exact t_some wA.refl
theorem wX10_countFalse_h105_T    : ∀ (n : Nat) {x5 : Int32} {x6 : Int32} {s : wS}, 2147483648 - x6.toInt < (n : Int) → Tot (wX10_countFalse_h105  n x5 x6 s) (fun (r : wS) => wA bQ s r) := by
  intro n
  induction n with
  | zero =>
    intro x5 x6 s hm
    exact (t_m0 hm).elim
  | succ n ih =>
    intro x5 x6 s hm
    rw [wX10_countFalse_h105]
    refine t_bind (wX0_manyOf_T rfl) (fun t32 h1 => ?_)
    refine t_ite (fun c2 => ?_) (fun c2 => ?_)
    · refine t_bind (wX10_countFalse_h124_T  _   t_mi) (fun r4 h3 => ?_)
      obtain ⟨t66, s67⟩ := r4
      dsimp only at h3 ⊢
      exact t_mono (ih (t_m1 c2 hm)) (fun r h => (h3.trans h))
    · exact t_some wA.refl
theorem wX10_countFalse_T {k1 : Nat} {x2 : Int32} {x3 : Int32} {x4 : Int32} {s : wS} (hk1 : wkd k1 = 3) : Tot (wX10_countFalse k1 x2 x3 x4 s) (fun (r : wS) => wA bQ s r) := by
  unfold wX10_countFalse
  refine t_bind (wX10_empty_T rfl (B := bQ) (fun _ => rfl)) (fun s2 h1 => ?_)
  refine t_bind (wX10_countFalse_h10_T hk1 _   t_mi) (fun s22 h2 => ?_)
  have a3 := h1.trans h2
  refine t_bind (wX10_countFalse_h105_T  _   t_mi) (fun s76 h4 => ?_)
  have a5 := a3.trans h4
  exact t_some a5
theorem wX10_wrong_T {x1 : Int32} {x2 : Int32} {s : wS}  : Tot (wX10_wrong x1 x2 s) (fun (r : Int32 × wS) => wA bQ s r.2) := by
  unfold wX10_wrong
  refine t_bind (wX10_lawInUse_T) (fun r2 h1 => ?_)
  obtain ⟨o1, s2⟩ := r2
  dsimp only at h1 ⊢
  refine t_elim (fun e3 => ?_) (fun k4 e3 => ?_)
  · exact t_some h1.2
  · have hk4 := (h1.1) k4 e3
    refine t_bind (wX0_worlds_T rfl) (fun t5 h4 => ?_)
    refine t_bind (wX10_isOutside_T) (fun t7 h5 => ?_)
    refine t_ite (fun c6 => ?_) (fun c6 => ?_)
    · refine t_bind (wX2_first_T rfl) (fun t10 h7 => ?_)
      refine t_bind (wX10_countFalse_T hk4) (fun s13 h8 => ?_)
      have a9 := h1.2.trans h8
      refine t_bind (wX10_at_T rfl) (fun t15 h10 => ?_)
      exact t_some a9
    · exact t_some h1.2
theorem wX10_fillKept_h48_T {k1 : Nat} {x2 : Int32} {x3 : Int32} {x5 : Int32} {x6 : Int32} (hk1 : wkd k1 = 7)  : ∀ (n : Nat) {x4 : Int32} {x7 : Int32} {s : wS}, 2147483648 - x7.toInt < (n : Int) → Tot (wX10_fillKept_h48 k1 x2 x3 x5 x6 n x4 x7 s) (fun (r : Int32 × wS) => wA bQ s r.2) := by
  intro n
  induction n with
  | zero =>
    intro x4 x7 s hm
    exact (t_m0 hm).elim
  | succ n ih =>
    intro x4 x7 s hm
    rw [wX10_fillKept_h48]
    refine t_bind (wX0_manyOf_T rfl) (fun t10 h1 => ?_)
    refine t_ite (fun c2 => ?_) (fun c2 => ?_)
    · refine t_bind (wX10_at_T rfl) (fun t13 h3 => ?_)
      refine t_ite (fun c4 => ?_) (fun c4 => ?_)
      · unfold wX10_fillKept_j98
        exact t_mono (ih (t_m1 c2 hm)) (fun r h => h)
      · refine t_ite (fun c5 => ?_) (fun c5 => ?_)
        · unfold wX10_fillKept_j88
          refine t_bind (wX7_add_T hk1) (fun s18 h6 => ?_)
          unfold wX10_fillKept_j98
          exact t_mono (ih (t_m1 c2 hm)) (fun r h => (h6.trans h))
        · refine t_ite (fun c7 => ?_) (fun c7 => ?_)
          · unfold wX10_fillKept_j88
            refine t_bind (wX7_add_T hk1) (fun s18 h8 => ?_)
            unfold wX10_fillKept_j98
            exact t_mono (ih (t_m1 c2 hm)) (fun r h => (h8.trans h))
          · unfold wX10_fillKept_j98
            exact t_mono (ih (t_m1 c2 hm)) (fun r h => h)
    · exact t_some wA.refl
theorem wX10_fillKept_h29_T {k1 : Nat} {x2 : Int32} {x3 : Int32} {x5 : Int32} (hk1 : wkd k1 = 7)  : ∀ (n : Nat) {x4 : Int32} {x6 : Int32} {s : wS}, 2147483648 - x6.toInt < (n : Int) → Tot (wX10_fillKept_h29 k1 x2 x3 x5 n x4 x6 s) (fun (r : Int32 × wS) => wA bQ s r.2) := by
  intro n
  induction n with
  | zero =>
    intro x4 x6 s hm
    exact (t_m0 hm).elim
  | succ n ih =>
    intro x4 x6 s hm
    rw [wX10_fillKept_h29]
    refine t_bind (wX0_manyOf_T rfl) (fun t7 h1 => ?_)
    refine t_ite (fun c2 => ?_) (fun c2 => ?_)
    · refine t_bind (wX10_fillKept_h48_T hk1 _   t_mi) (fun r4 h3 => ?_)
      obtain ⟨t22, s23⟩ := r4
      dsimp only at h3 ⊢
      exact t_mono (ih (t_m1 c2 hm)) (fun r h => (h3.trans h))
    · exact t_some wA.refl
theorem wX10_fillKept_h10_T {k1 : Nat} {x2 : Int32} {x3 : Int32} (hk1 : wkd k1 = 7)  : ∀ (n : Nat) {x4 : Int32} {x5 : Int32} {s : wS}, 2147483648 - x5.toInt < (n : Int) → Tot (wX10_fillKept_h10 k1 x2 x3 n x4 x5 s) (fun (r : wS) => wA bQ s r) := by
  intro n
  induction n with
  | zero =>
    intro x4 x5 s hm
    exact (t_m0 hm).elim
  | succ n ih =>
    intro x4 x5 s hm
    rw [wX10_fillKept_h10]
    refine t_bind (wX0_manyOf_T rfl) (fun t4 h1 => ?_)
    refine t_ite (fun c2 => ?_) (fun c2 => ?_)
    · refine t_bind (wX10_fillKept_h29_T hk1 _   t_mi) (fun r4 h3 => ?_)
      obtain ⟨t26, s27⟩ := r4
      dsimp only at h3 ⊢
      exact t_mono (ih (t_m1 c2 hm)) (fun r h => (h3.trans h))
    · exact t_some wA.refl
theorem wX10_fillKept_T {k1 : Nat} {x2 : Int32} {x3 : Int32} {s : wS} (hk1 : wkd k1 = 7) : Tot (wX10_fillKept k1 x2 x3 s) (fun (r : wS) => wA bQ s r) := by
  unfold wX10_fillKept
  refine t_bind (wX7_clear_T hk1) (fun s2 h1 => ?_)
  refine t_bind (wX10_fillKept_h10_T hk1 _   t_mi) (fun s31 h2 => ?_)
  have a3 := h1.trans h2
  exact t_some a3
theorem wX10_lawWithKept_T {x1 x2 : Int32} {s : wS} : Tot (wX10_lawWithKept x1 x2 s) (fun (r : Option Nat × wS) => (∀ k, r.1 = some k → wkd k = 3) ∧ wA bQ s r.2) := by
  unfold wX10_lawWithKept
  refine t_bind wX10_lawInUse_T (fun r h1 => ?_)
  obtain ⟨o1, s2⟩ := r
  dsimp only at h1 ⊢
  refine t_elim (fun e => t_some ⟨fun k e => (by cases e), h1.2⟩) (fun k4 e => ?_)
  have hk4 := h1.1 k4 e
  refine t_bind wX10_isOutside_T (fun t5 h5 => t_ite (fun c4 => ?_) (fun c1 => t_some ⟨fun k e => (by cases e), h1.2⟩))
  refine t_bind (wX2_first_T rfl) (fun t8 h8 => ?_)
  refine t_bind (wX10_countFalse_T hk4) (fun s11 h11 => ?_)
  refine t_bind (wX10_fillKept_T rfl) (fun s14 h14 => t_some ⟨fun k e => (by cases e; exact hk4), (h1.2.trans h11).trans h14⟩)
theorem wX10_kept_T {x1 : Int32} {x2 : Int32} {s : wS}  : Tot (wX10_kept x1 x2 s) (fun (r : Int32 × wS) => wA bQ s r.2) := by
  unfold wX10_kept
  refine t_bind (wX10_lawWithKept_T) (fun r2 h1 => ?_)
  obtain ⟨o1, s2⟩ := r2
  dsimp only at h1 ⊢
  refine t_elim (fun e3 => ?_) (fun k4 e3 => ?_)
  · exact t_some h1.2
  · have hk4 := (h1.1) k4 e3
    exact t_some h1.2
theorem wX10_world_h21_T {x2 : Int32} {x3 : Int32} {s : wS}   : ∀ (n : Nat) {x5 : Int32} {x6 : Int32}, 2147483648 - x6.toInt < (n : Int) → Tot (wX10_world_h21 x2 x3 s n x5 x6) (fun (_ : (Unit) ⊕ (Int32)) => True) := by
  intro n
  induction n with
  | zero =>
    intro x5 x6 hm
    exact (t_m0 hm).elim
  | succ n ih =>
    intro x5 x6 hm
    rw [wX10_world_h21]
    refine t_bind (wX0_worlds_T rfl) (fun t5 h1 => ?_)
    refine t_ite (fun c2 => ?_) (fun c2 => ?_)
    · refine t_bind (wX10_at_T rfl) (fun t8 h3 => ?_)
      refine t_ite (fun c4 => ?_) (fun c4 => ?_)
      · unfold wX10_world_j61
        exact t_mono (ih (t_m1 c2 hm)) (fun _ _ => trivial)
      · refine t_ite (fun c5 => ?_) (fun c5 => ?_)
        · exact t_some trivial
        · unfold wX10_world_j61
          exact t_mono (ih (t_m1 c2 hm)) (fun _ _ => trivial)
    · exact t_some trivial
theorem wX10_world_T {x1 : Int32} {x2 : Int32} {x3 : Int32} {s : wS}  : Tot (wX10_world x1 x2 x3 s) (fun (r : Int32 × wS) => wA bQ s r.2) := by
  unfold wX10_world
  refine t_bind (wX10_lawWithKept_T) (fun r2 h1 => ?_)
  obtain ⟨o1, s2⟩ := r2
  dsimp only at h1 ⊢
  refine t_elim (fun e3 => ?_) (fun k4 e3 => ?_)
  · exact t_some h1.2
  · have hk4 := (h1.1) k4 e3
    refine t_bind (wX10_world_h21_T  _   t_mi) (fun z12 h4 => ?_)
    rcases z12 with z12 | z12
    · dsimp only
      exact t_some h1.2
    · obtain t19 := z12
      dsimp only
      exact t_some h1.2
theorem wX10_may_T {x1 : Int32} {x2 : Int32} {x3 : Int32} {x4 : Int32} {s : wS}  : Tot (wX10_may x1 x2 x3 x4 s) (fun (r : Int32 × wS) => wA bQ s r.2) := by
  unfold wX10_may
  refine t_bind (wX10_lawWithKept_T) (fun r2 h1 => ?_)
  obtain ⟨o1, s2⟩ := r2
  dsimp only at h1 ⊢
  refine t_elim (fun e3 => ?_) (fun k4 e3 => ?_)
  · exact t_some h1.2
  · have hk4 := (h1.1) k4 e3
    refine t_bind (wX0_has_T rfl) (fun t5 h4 => ?_)
    refine t_ite (fun c5 => ?_) (fun c5 => ?_)
    · exact t_some h1.2
    · refine t_bind (wX7_with_T rfl) (fun t8 h6 => ?_)
      exact t_some h1.2
theorem wX10_cleared_T {x1 : Int32} {x2 : Int32} {s : wS}  : Tot (wX10_cleared x1 x2 s) (fun (r : Int32 × wS) => wA bQ s r.2) := by
  unfold wX10_cleared
  refine t_bind (wX10_lawWithKept_T) (fun r2 h1 => ?_)
  obtain ⟨o1, s2⟩ := r2
  dsimp only at h1 ⊢
  refine t_elim (fun e3 => ?_) (fun k4 e3 => ?_)
  · exact t_some h1.2
  · have hk4 := (h1.1) k4 e3
    refine t_bind (wX0_bitsOf_T rfl) (fun t5 h4 => ?_)
    refine t_bind (wX7_thingsOf_T rfl) (fun t7 h5 => ?_)
    exact t_some h1.2
theorem wX10_worldsWithAtMost_h4_T {x1 : Int32} {s : wS}   : ∀ (n : Nat) {x2 : Int32} {x3 : Int32}, 2147483648 - x3.toInt < (n : Int) → Tot (wX10_worldsWithAtMost_h4 x1 s n x2 x3) (fun (_ : Int32) => True) := by
  intro n
  induction n with
  | zero =>
    intro x2 x3 hm
    exact (t_m0 hm).elim
  | succ n ih =>
    intro x2 x3 hm
    rw [wX10_worldsWithAtMost_h4]
    refine t_bind (wX0_worlds_T rfl) (fun t1 h1 => ?_)
    refine t_ite (fun c2 => ?_) (fun c2 => ?_)
    · refine t_bind (wX10_at_T rfl) (fun t4 h3 => ?_)
      refine t_ite (fun c4 => ?_) (fun c4 => ?_)
      · unfold wX10_worldsWithAtMost_j33
        exact t_mono (ih (t_m1 c2 hm)) (fun _ _ => trivial)
      · unfold wX10_worldsWithAtMost_j33
        exact t_mono (ih (t_m1 c2 hm)) (fun _ _ => trivial)
    · exact t_some trivial
theorem wX10_worldsWithAtMost_T {x1 : Int32} {s : wS}  : Tot (wX10_worldsWithAtMost x1 s) (fun (_ : Int32) => True) := by
  unfold wX10_worldsWithAtMost
  refine t_bind (wX10_worldsWithAtMost_h4_T  _   t_mi) (fun t8 h1 => ?_)
  exact t_some trivial
theorem wX10_bestWorld_h18_T {s : wS}   : ∀ (n : Nat) {x2 : Int32} {x3 : Int32}, 2147483648 - x3.toInt < (n : Int) → Tot (wX10_bestWorld_h18 s n x2 x3) (fun (_ : Int32) => True) := by
  intro n
  induction n with
  | zero =>
    intro x2 x3 hm
    exact (t_m0 hm).elim
  | succ n ih =>
    intro x2 x3 hm
    rw [wX10_bestWorld_h18]
    refine t_bind (wX0_worlds_T rfl) (fun t6 h1 => ?_)
    refine t_ite (fun c2 => ?_) (fun c2 => ?_)
    · refine t_bind (wX10_at_T rfl) (fun t9 h3 => ?_)
      refine t_bind (wX10_at_T rfl) (fun t11 h4 => ?_)
      refine t_ite (fun c5 => ?_) (fun c5 => ?_)
      · unfold wX10_bestWorld_j53
        exact t_mono (ih (t_m1 c2 hm)) (fun _ _ => trivial)
      · unfold wX10_bestWorld_j53
        exact t_mono (ih (t_m1 c2 hm)) (fun _ _ => trivial)
    · exact t_some trivial
theorem wX10_bestWorld_T {k1 : Nat} {s : wS} (hk1 : wkd k1 = 3) : Tot (wX10_bestWorld k1 s) (fun (r : Int32 × wS) => wA bQ s r.2) := by
  unfold wX10_bestWorld
  refine t_bind (wX2_first_T rfl) (fun t1 h1 => ?_)
  refine t_bind (wX10_countFalse_T hk1) (fun s4 h2 => ?_)
  refine t_bind (wX10_bestWorld_h18_T  _   t_mi) (fun t15 h3 => ?_)
  exact t_some h2
theorem wX10_fewest_T {x1 : Int32} {x2 : Int32} {s : wS}  : Tot (wX10_fewest x1 x2 s) (fun (r : Int32 × wS) => wA bQ s r.2) := by
  unfold wX10_fewest
  refine t_bind (wX10_lawInUse_T) (fun r2 h1 => ?_)
  obtain ⟨o1, s2⟩ := r2
  dsimp only at h1 ⊢
  refine t_elim (fun e3 => ?_) (fun k4 e3 => ?_)
  · exact t_some h1.2
  · have hk4 := (h1.1) k4 e3
    refine t_bind (wX10_isOutside_T) (fun t5 h4 => ?_)
    refine t_ite (fun c5 => ?_) (fun c5 => ?_)
    · refine t_bind (wX10_bestWorld_T hk4) (fun r7 h6 => ?_)
      obtain ⟨t8, s9⟩ := r7
      dsimp only at h6 ⊢
      have a8 := h1.2.trans h6
      refine t_bind (wX10_at_T rfl) (fun t11 h9 => ?_)
      refine t_ite (fun c10 => ?_) (fun c10 => ?_)
      · exact t_some a8
      · refine t_ite (fun c11 => ?_) (fun c11 => ?_)
        · exact t_some a8
        · refine t_bind (wX10_worldsWithAtMost_T) (fun t15 h12 => ?_)
          exact t_some a8
    · exact t_some h1.2
theorem wX10_falseOnes_h26_T {k2 : Nat} {x3 : Int32} {s : wS} (hk2 : wkd k2 = 3)  : ∀ (n : Nat) {x4 : Int64} {x6 : Int32}, 2147483648 - x6.toInt < (n : Int) → Tot (wX10_falseOnes_h26 k2 x3 s n x4 x6) (fun (_ : Int64) => True) := by
  intro n
  induction n with
  | zero =>
    intro x4 x6 hm
    exact (t_m0 hm).elim
  | succ n ih =>
    intro x4 x6 hm
    rw [wX10_falseOnes_h26]
    refine t_ite (fun c1 => ?_) (fun c1 => ?_)
    · refine t_bind (wX2_first_T rfl) (fun t9 h2 => ?_)
      refine t_bind (wX2_isLookedAt_T rfl) (fun t11 h3 => ?_)
      refine t_ite (fun c4 => ?_) (fun c4 => ?_)
      · unfold wX10_falseOnes_j72
        exact t_mono (ih (t_m1 c1 hm)) (fun _ _ => trivial)
      · refine t_bind (wX10_isTrue_T hk2) (fun t14 h5 => ?_)
        refine t_ite (fun c6 => ?_) (fun c6 => ?_)
        · unfold wX10_falseOnes_j72
          exact t_mono (ih (t_m1 c1 hm)) (fun _ _ => trivial)
        · unfold wX10_falseOnes_j72
          exact t_mono (ih (t_m1 c1 hm)) (fun _ _ => trivial)
    · exact t_some trivial
theorem wX10_falseOnes_T {x1 : Int32} {s : wS}  : Tot (wX10_falseOnes x1 s) (fun (r : Int64 × wS) => wA bQ s r.2) := by
  unfold wX10_falseOnes
  refine t_bind (wX10_lawInUse_T) (fun r2 h1 => ?_)
  obtain ⟨o1, s2⟩ := r2
  dsimp only at h1 ⊢
  refine t_elim (fun e3 => ?_) (fun k4 e3 => ?_)
  · exact t_some h1.2
  · have hk4 := (h1.1) k4 e3
    refine t_bind (wX10_bestWorld_T hk4) (fun r5 h4 => ?_)
    obtain ⟨t5, s6⟩ := r5
    dsimp only at h4 ⊢
    have a6 := h1.2.trans h4
    refine t_bind (wX10_falseOnes_h26_T hk4 _   t_mi) (fun t18 h7 => ?_)
    exact t_some a6
theorem wX10_isLesserSet_j23_T {s : wS}  : Tot (wX10_isLesserSet_j23 s) (fun (_ : Int32) => True) := by
  unfold wX10_isLesserSet_j23
  exact t_some trivial
theorem wX10_isLesserSet_T {x0 : Int32} {x1 : Int32} {s : wS}  : Tot (wX10_isLesserSet x0 x1 s) (fun (_ : Int32) => True) := by
  unfold wX10_isLesserSet
  refine t_bind (wJ6_bitCount_0f7a4_T) (fun t1 h1 => ?_)
  refine t_bind (wJ6_bitCount_0f7a4_T) (fun t3 h2 => ?_)
  refine t_ite (fun c3 => ?_) (fun c3 => ?_)
  · exact t_mono (wX10_isLesserSet_j23_T) (fun _ _ => trivial)
  · refine t_ite (fun c4 => ?_) (fun c4 => ?_)
    · refine t_ite (fun c5 => ?_) (fun c5 => ?_)
      · exact t_mono (wX10_isLesserSet_j23_T) (fun _ _ => trivial)
      · exact t_some trivial
    · exact t_some trivial
theorem wX10_markLiars_h56_T {k1 : Nat} {x2 : Int32} {x3 : Int32} {x4 : Int32} (hk1 : wkd k1 = 3)  : ∀ (n : Nat) {x5 : Int32} {s : wS}, 2147483648 - x5.toInt < (n : Int) → Tot (wX10_markLiars_h56 k1 x2 x3 x4 n x5 s) (fun (r : wS) => wA bQ s r) := by
  intro n
  induction n with
  | zero =>
    intro x5 s hm
    exact (t_m0 hm).elim
  | succ n ih =>
    intro x5 s hm
    rw [wX10_markLiars_h56]
    refine t_bind (wX0_manyOf_T rfl) (fun t14 h1 => ?_)
    refine t_ite (fun c2 => ?_) (fun c2 => ?_)
    · refine t_ite (fun c3 => ?_) (fun c3 => ?_)
      · refine t_bind (wX10_slot_T) (fun t18 h4 => ?_)
        refine t_bind (wX10_at_T rfl) (fun t20 h5 => ?_)
        refine t_bind (wX10_at_T rfl) (fun t22 h6 => ?_)
        refine t_bind (wX10_slot_T) (fun t24 h7 => ?_)
        refine t_bind (wX10_set_T rfl (B := bQ) (fun _ => rfl)) (fun s27 h8 => ?_)
        unfold wX10_markLiars_j126
        exact t_mono (ih (t_m1 c2 hm)) (fun r h => (h8.1.trans h))
      · unfold wX10_markLiars_j126
        exact t_mono (ih (t_m1 c2 hm)) (fun r h => h)
    · exact t_some wA.refl
theorem wX10_markLiars_h9_T {k1 : Nat} (hk1 : wkd k1 = 3)  : ∀ (n : Nat) {x2 : Int32} {s : wS}, 2147483648 - x2.toInt < (n : Int) → Tot (wX10_markLiars_h9 k1 n x2 s) (fun (r : wS) => wA bQ s r) := by
  intro n
  induction n with
  | zero =>
    intro x2 s hm
    exact (t_m0 hm).elim
  | succ n ih =>
    intro x2 s hm
    rw [wX10_markLiars_h9]
    refine t_ite (fun c1 => ?_) (fun c1 => ?_)
    · refine t_bind (wX2_first_T rfl) (fun t5 h2 => ?_)
      refine t_bind (wX2_isLookedAt_T rfl) (fun t7 h3 => ?_)
      refine t_ite (fun c4 => ?_) (fun c4 => ?_)
      · unfold wX10_markLiars_j132
        exact t_mono (ih (t_m1 c1 hm)) (fun r h => h)
      · refine t_bind (wX10_at_T rfl) (fun t10 h5 => ?_)
        refine t_bind (wX10_nearThings_T hk1) (fun t12 h6 => ?_)
        refine t_bind (wX10_markLiars_h56_T hk1 _   t_mi) (fun s30 h7 => ?_)
        unfold wX10_markLiars_j132
        exact t_mono (ih (t_m1 c1 hm)) (fun r h => (h7.trans h))
    · exact t_some wA.refl
theorem wX10_markLiars_T {k1 : Nat} {s : wS} (hk1 : wkd k1 = 3) : Tot (wX10_markLiars k1 s) (fun (r : wS) => wA bQ s r) := by
  unfold wX10_markLiars
  refine t_bind (wX10_empty_T rfl (B := bQ) (fun _ => rfl)) (fun s2 h1 => ?_)
  refine t_bind (wX10_markLiars_h9_T hk1 _   t_mi) (fun s36 h2 => ?_)
  have a3 := h1.trans h2
  exact t_some a3
theorem wX10_liars_h43_T {x3 : Int32} {x4 : Int32} {s : wS}   : ∀ (n : Nat) {x5 : Int32} {x6 : Int32}, 2147483648 - x6.toInt < (n : Int) → Tot (wX10_liars_h43 x3 x4 s n x5 x6) (fun (_ : Int32) => True) := by
  intro n
  induction n with
  | zero =>
    intro x5 x6 hm
    exact (t_m0 hm).elim
  | succ n ih =>
    intro x5 x6 hm
    rw [wX10_liars_h43]
    refine t_ite (fun c1 => ?_) (fun c1 => ?_)
    · refine t_bind (wX0_thingIn_T rfl) (fun t12 h2 => ?_)
      refine t_bind (wX10_slot_T) (fun t14 h3 => ?_)
      refine t_bind (wX10_at_T rfl) (fun t16 h4 => ?_)
      exact t_mono (ih (t_m1 c1 hm)) (fun _ _ => trivial)
    · exact t_some trivial
theorem wX10_liars_h22_T {s : wS}   : ∀ (n : Nat) {x3 : Int32} {x4 : Int32}, 2147483648 - x4.toInt < (n : Int) → Tot (wX10_liars_h22 s n x3 x4) (fun (_ : Int32) => True) := by
  intro n
  induction n with
  | zero =>
    intro x3 x4 hm
    exact (t_m0 hm).elim
  | succ n ih =>
    intro x3 x4 hm
    rw [wX10_liars_h22]
    refine t_bind (wX0_worlds_T rfl) (fun t8 h1 => ?_)
    refine t_ite (fun c2 => ?_) (fun c2 => ?_)
    · refine t_bind (wX10_liars_h43_T  _   t_mi) (fun t19 h3 => ?_)
      refine t_ite (fun c4 => ?_) (fun c4 => ?_)
      · unfold wX10_liars_j100
        unfold wX10_liars_j103
        exact t_mono (ih (t_m1 c2 hm)) (fun _ _ => trivial)
      · refine t_bind (wX10_isLesserSet_T) (fun t24 h5 => ?_)
        refine t_ite (fun c6 => ?_) (fun c6 => ?_)
        · unfold wX10_liars_j103
          exact t_mono (ih (t_m1 c2 hm)) (fun _ _ => trivial)
        · unfold wX10_liars_j100
          unfold wX10_liars_j103
          exact t_mono (ih (t_m1 c2 hm)) (fun _ _ => trivial)
    · exact t_some trivial
theorem wX10_liars_T {x1 : Int32} {s : wS}  : Tot (wX10_liars x1 s) (fun (r : Int32 × wS) => wA bQ s r.2) := by
  unfold wX10_liars
  refine t_bind (wX10_lawInUse_T) (fun r2 h1 => ?_)
  obtain ⟨o1, s2⟩ := r2
  dsimp only at h1 ⊢
  refine t_elim (fun e3 => ?_) (fun k4 e3 => ?_)
  · exact t_some h1.2
  · have hk4 := (h1.1) k4 e3
    refine t_bind (wX10_markLiars_T hk4) (fun s6 h4 => ?_)
    have a5 := h1.2.trans h4
    refine t_bind (wX10_liars_h22_T  _   t_mi) (fun t28 h6 => ?_)
    exact t_some a5
theorem wX10_trueThings_T {k1 : Nat} {x2 : Int32} {s : wS} (hk1 : wkd k1 = 3) : Tot (wX10_trueThings k1 x2 s) (fun (_ : Int32) => True) := by
  unfold wX10_trueThings
  refine t_bind (wX10_at_T rfl) (fun t1 h1 => ?_)
  refine t_bind (wX10_slot_T) (fun t3 h2 => ?_)
  refine t_bind (wX0_bitsOfAll_T rfl) (fun t5 h3 => ?_)
  refine t_bind (wX10_nearThings_T hk1) (fun t7 h4 => ?_)
  exact t_some trivial
theorem wX10_hasWorld_T {x0 : Int32} {s : wS}  : Tot (wX10_hasWorld x0 s) (fun (_ : Int32) => True) := by
  unfold wX10_hasWorld
  refine t_ite (fun c1 => ?_) (fun c1 => ?_)
  · exact t_some trivial
  · refine t_bind (wX10_slot_T) (fun t2 h2 => ?_)
    refine t_ite (fun c3 => ?_) (fun c3 => ?_)
    · exact t_some trivial
    · refine t_bind (wX10_slot_T) (fun t5 h4 => ?_)
      refine t_ite (fun c5 => ?_) (fun c5 => ?_)
      · exact t_some trivial
      · exact t_some trivial
theorem wX10_quarrel_h25_T {k2 : Nat} {x3 : Int32} {s : wS} (hk2 : wkd k2 = 3)  : ∀ (n : Nat) {x4 : Int32}, 2147483648 - x4.toInt < (n : Int) → Tot (wX10_quarrel_h25 k2 x3 s n x4) (fun (_ : (Unit) ⊕ (Int32)) => True) := by
  intro n
  induction n with
  | zero =>
    intro x4 hm
    exact (t_m0 hm).elim
  | succ n ih =>
    intro x4 hm
    rw [wX10_quarrel_h25]
    refine t_ite (fun c1 => ?_) (fun c1 => ?_)
    · refine t_bind (wX2_first_T rfl) (fun t7 h2 => ?_)
      refine t_bind (wX2_isLookedAt_T rfl) (fun t9 h3 => ?_)
      refine t_ite (fun c4 => ?_) (fun c4 => ?_)
      · unfold wX10_quarrel_j73
        unfold wX10_quarrel_j74
        refine t_ite (fun c5 => ?_) (fun c5 => ?_)
        · unfold wX10_quarrel_j109
          exact t_mono (ih (t_m1 c1 hm)) (fun _ _ => trivial)
        · refine t_bind (wX10_trueThings_T hk2) (fun t13 h6 => ?_)
          refine t_bind (wX10_trueThings_T hk2) (fun t15 h7 => ?_)
          refine t_bind (wX10_hasWorld_T) (fun t17 h8 => ?_)
          refine t_ite (fun c9 => ?_) (fun c9 => ?_)
          · exact t_some trivial
          · unfold wX10_quarrel_j109
            exact t_mono (ih (t_m1 c1 hm)) (fun _ _ => trivial)
      · refine t_bind (wX2_first_T rfl) (fun t20 h10 => ?_)
        refine t_bind (wX2_isLookedAt_T rfl) (fun t22 h11 => ?_)
        refine t_ite (fun c12 => ?_) (fun c12 => ?_)
        · unfold wX10_quarrel_j73
          unfold wX10_quarrel_j74
          refine t_ite (fun c13 => ?_) (fun c13 => ?_)
          · unfold wX10_quarrel_j109
            exact t_mono (ih (t_m1 c1 hm)) (fun _ _ => trivial)
          · refine t_bind (wX10_trueThings_T hk2) (fun t13 h14 => ?_)
            refine t_bind (wX10_trueThings_T hk2) (fun t15 h15 => ?_)
            refine t_bind (wX10_hasWorld_T) (fun t17 h16 => ?_)
            refine t_ite (fun c17 => ?_) (fun c17 => ?_)
            · exact t_some trivial
            · unfold wX10_quarrel_j109
              exact t_mono (ih (t_m1 c1 hm)) (fun _ _ => trivial)
        · unfold wX10_quarrel_j74
          refine t_ite (fun c18 => ?_) (fun c18 => ?_)
          · unfold wX10_quarrel_j109
            exact t_mono (ih (t_m1 c1 hm)) (fun _ _ => trivial)
          · refine t_bind (wX10_trueThings_T hk2) (fun t13 h19 => ?_)
            refine t_bind (wX10_trueThings_T hk2) (fun t15 h20 => ?_)
            refine t_bind (wX10_hasWorld_T) (fun t17 h21 => ?_)
            refine t_ite (fun c22 => ?_) (fun c22 => ?_)
            · exact t_some trivial
            · unfold wX10_quarrel_j109
              exact t_mono (ih (t_m1 c1 hm)) (fun _ _ => trivial)
    · exact t_some trivial
theorem wX10_quarrel_h14_T {k2 : Nat} {s : wS} (hk2 : wkd k2 = 3)  : ∀ (n : Nat) {x3 : Int32}, 2147483648 - x3.toInt < (n : Int) → Tot (wX10_quarrel_h14 k2 s n x3) (fun (_ : (Unit) ⊕ (Int32 × Int32)) => True) := by
  intro n
  induction n with
  | zero =>
    intro x3 hm
    exact (t_m0 hm).elim
  | succ n ih =>
    intro x3 hm
    rw [wX10_quarrel_h14]
    refine t_ite (fun c1 => ?_) (fun c1 => ?_)
    · refine t_bind (wX10_quarrel_h25_T hk2 _   t_mi) (fun z25 h2 => ?_)
      rcases z25 with z25 | z25
      · dsimp only
        exact t_mono (ih (t_m1 c1 hm)) (fun _ _ => trivial)
      · obtain t29 := z25
        dsimp only
        exact t_some trivial
    · exact t_some trivial
theorem wX10_quarrel_T {x1 : Int32} {s : wS}  : Tot (wX10_quarrel x1 s) (fun (r : Int32 × wS) => wA bQ s r.2) := by
  unfold wX10_quarrel
  refine t_bind (wX10_lawInUse_T) (fun r2 h1 => ?_)
  obtain ⟨o1, s2⟩ := r2
  dsimp only at h1 ⊢
  refine t_elim (fun e3 => ?_) (fun k4 e3 => ?_)
  · exact t_some h1.2
  · have hk4 := (h1.1) k4 e3
    refine t_bind (wX10_quarrel_h14_T hk4 _   t_mi) (fun z33 h4 => ?_)
    rcases z33 with z33 | z33
    · dsimp only
      exact t_some h1.2
    · obtain ⟨t39, t40⟩ := z33
      dsimp only
      exact t_some h1.2
theorem wX10_gatherProof_h4_T {k1 : Nat} (hk1 : wkd k1 = 3)  : ∀ (n : Nat) {x2 : Int32} {x3 : Int32} {s : wS}, 2147483648 - x3.toInt < (n : Int) → Tot (wX10_gatherProof_h4 k1 n x2 x3 s) (fun (r : Int32 × wS) => wA bQ s r.2) := by
  intro n
  induction n with
  | zero =>
    intro x2 x3 s hm
    exact (t_m0 hm).elim
  | succ n ih =>
    intro x2 x3 s hm
    rw [wX10_gatherProof_h4]
    refine t_ite (fun c1 => ?_) (fun c1 => ?_)
    · refine t_ite (fun c2 => ?_) (fun c2 => ?_)
      · refine t_bind (wX2_first_T rfl) (fun t3 h3 => ?_)
        refine t_bind (wX2_isLookedAt_T rfl) (fun t5 h4 => ?_)
        refine t_ite (fun c5 => ?_) (fun c5 => ?_)
        · unfold wX10_gatherProof_j51
          exact t_mono (ih (t_m1 c1 hm)) (fun r h => h)
        · refine t_bind (wX10_trueThings_T hk1) (fun t8 h6 => ?_)
          refine t_bind (wX10_set_T rfl (B := bQ) (fun _ => rfl)) (fun s11 h7 => ?_)
          unfold wX10_gatherProof_j51
          exact t_mono (ih (t_m1 c1 hm)) (fun r h => (h7.1.trans h))
      · exact t_some wA.refl
    · exact t_some wA.refl
theorem wX10_gatherProof_T {k1 : Nat} {s : wS} (hk1 : wkd k1 = 3) : Tot (wX10_gatherProof k1 s) (fun (r : Int32 × wS) => wA bQ s r.2) := by
  unfold wX10_gatherProof
  refine t_bind (wX10_gatherProof_h4_T hk1 _   t_mi) (fun r2 h1 => ?_)
  obtain ⟨t14, s15⟩ := r2
  dsimp only at h1 ⊢
  exact t_some h1
theorem wX10_provesMan_h15_T {x1 : Int32} {x2 : Int32} {x3 : Int32} {s : wS}   : ∀ (n : Nat) {x4 : Int32} {x5 : Int32}, 2147483648 - x5.toInt < (n : Int) → Tot (wX10_provesMan_h15 x1 x2 x3 s n x4 x5) (fun (_ : Int32) => True) := by
  intro n
  induction n with
  | zero =>
    intro x4 x5 hm
    exact (t_m0 hm).elim
  | succ n ih =>
    intro x4 x5 hm
    rw [wX10_provesMan_h15]
    refine t_ite (fun c1 => ?_) (fun c1 => ?_)
    · refine t_ite (fun c2 => ?_) (fun c2 => ?_)
      · refine t_bind (wX10_at_T rfl) (fun t5 h3 => ?_)
        unfold wX10_provesMan_j45
        exact t_mono (ih (t_m1 c1 hm)) (fun _ _ => trivial)
      · unfold wX10_provesMan_j45
        exact t_mono (ih (t_m1 c1 hm)) (fun _ _ => trivial)
    · exact t_some trivial
theorem wX10_provesMan_T {x1 : Int32} {x2 : Int32} {x3 : Int32} {s : wS}  : Tot (wX10_provesMan x1 x2 x3 s) (fun (_ : Int32) => True) := by
  unfold wX10_provesMan
  refine t_bind (wX0_bitsOfAll_T rfl) (fun t1 h1 => ?_)
  refine t_bind (wX10_provesMan_h15_T  _   t_mi) (fun t8 h2 => ?_)
  refine t_bind (wX10_hasWorld_T) (fun t12 h3 => ?_)
  refine t_ite (fun c4 => ?_) (fun c4 => ?_)
  · exact t_some trivial
  · refine t_bind (wX10_slot_T) (fun t15 h5 => ?_)
    refine t_ite (fun c6 => ?_) (fun c6 => ?_)
    · exact t_some trivial
    · exact t_some trivial
theorem wX10_proof_h41_T {x2 : Int32} {x4 : Int32} {s : wS}   : ∀ (n : Nat) {x5 : Int32} {x6 : Int32}, 2147483648 - x6.toInt < (n : Int) → Tot (wX10_proof_h41 x2 x4 s n x5 x6) (fun (_ : Int32) => True) := by
  intro n
  induction n with
  | zero =>
    intro x5 x6 hm
    exact (t_m0 hm).elim
  | succ n ih =>
    intro x5 x6 hm
    rw [wX10_proof_h41]
    refine t_ite (fun c1 => ?_) (fun c1 => ?_)
    · refine t_ite (fun c2 => ?_) (fun c2 => ?_)
      · unfold wX10_proof_j70
        unfold wX10_proof_j75
        refine t_ite (fun c3 => ?_) (fun c3 => ?_)
        · unfold wX10_proof_j98
          exact t_mono (ih (t_m1 c1 hm)) (fun _ _ => trivial)
        · refine t_bind (wX10_provesMan_T) (fun t14 h4 => ?_)
          refine t_ite (fun c5 => ?_) (fun c5 => ?_)
          · unfold wX10_proof_j98
            exact t_mono (ih (t_m1 c1 hm)) (fun _ _ => trivial)
          · unfold wX10_proof_j98
            exact t_mono (ih (t_m1 c1 hm)) (fun _ _ => trivial)
      · refine t_bind (wJ6_bitCount_0f7a4_T) (fun t17 h6 => ?_)
        refine t_bind (wJ6_bitCount_0f7a4_T) (fun t19 h7 => ?_)
        refine t_ite (fun c8 => ?_) (fun c8 => ?_)
        · unfold wX10_proof_j70
          unfold wX10_proof_j75
          refine t_ite (fun c9 => ?_) (fun c9 => ?_)
          · unfold wX10_proof_j98
            exact t_mono (ih (t_m1 c1 hm)) (fun _ _ => trivial)
          · refine t_bind (wX10_provesMan_T) (fun t14 h10 => ?_)
            refine t_ite (fun c11 => ?_) (fun c11 => ?_)
            · unfold wX10_proof_j98
              exact t_mono (ih (t_m1 c1 hm)) (fun _ _ => trivial)
            · unfold wX10_proof_j98
              exact t_mono (ih (t_m1 c1 hm)) (fun _ _ => trivial)
        · unfold wX10_proof_j75
          refine t_ite (fun c12 => ?_) (fun c12 => ?_)
          · unfold wX10_proof_j98
            exact t_mono (ih (t_m1 c1 hm)) (fun _ _ => trivial)
          · refine t_bind (wX10_provesMan_T) (fun t14 h13 => ?_)
            refine t_ite (fun c14 => ?_) (fun c14 => ?_)
            · unfold wX10_proof_j98
              exact t_mono (ih (t_m1 c1 hm)) (fun _ _ => trivial)
            · unfold wX10_proof_j98
              exact t_mono (ih (t_m1 c1 hm)) (fun _ _ => trivial)
    · exact t_some trivial
theorem wX10_proof_T {x1 : Int32} {x2 : Int32} {s : wS}  : Tot (wX10_proof x1 x2 s) (fun (r : Int32 × wS) => wA bQ s r.2) := by
  unfold wX10_proof
  refine t_bind (wX10_lawInUse_T) (fun r2 h1 => ?_)
  obtain ⟨o1, s2⟩ := r2
  dsimp only at h1 ⊢
  refine t_elim (fun e3 => ?_) (fun k4 e3 => ?_)
  · exact t_some h1.2
  · have hk4 := (h1.1) k4 e3
    refine t_bind (wX0_has_T rfl) (fun t5 h4 => ?_)
    refine t_ite (fun c5 => ?_) (fun c5 => ?_)
    · exact t_some h1.2
    · refine t_bind (wX10_gatherProof_T hk4) (fun r7 h6 => ?_)
      obtain ⟨t8, s9⟩ := r7
      dsimp only at h6 ⊢
      have a8 := h1.2.trans h6
      refine t_bind (wX10_proof_h41_T  _   t_mi) (fun t23 h9 => ?_)
      exact t_some a8
theorem wX10_countKeptBy_h60_T {x1 : Int32} {x2 : Int32} {x3 : Int32}   : ∀ (n : Nat) {x5 : Int32} {s : wS}, 2147483648 - x5.toInt < (n : Int) → Tot (wX10_countKeptBy_h60 x1 x2 x3 n x5 s) (fun (r : wS) => wA bQ s r) := by
  intro n
  induction n with
  | zero =>
    intro x5 s hm
    exact (t_m0 hm).elim
  | succ n ih =>
    intro x5 s hm
    rw [wX10_countKeptBy_h60]
    refine t_bind (wX0_worlds_T rfl) (fun t15 h1 => ?_)
    refine t_ite (fun c2 => ?_) (fun c2 => ?_)
    · refine t_bind (wX10_at_T rfl) (fun t18 h3 => ?_)
      refine t_bind (wX10_at_T rfl) (fun t20 h4 => ?_)
      refine t_ite (fun c5 => ?_) (fun c5 => ?_)
      · unfold wX10_countKeptBy_j108
        refine t_bind (wX10_set_T rfl (B := bQ) (fun _ => rfl)) (fun s24 h6 => ?_)
        exact t_mono (ih (t_m1 c2 hm)) (fun r h => (h6.1.trans h))
      · unfold wX10_countKeptBy_j108
        refine t_bind (wX10_set_T rfl (B := bQ) (fun _ => rfl)) (fun s24 h7 => ?_)
        exact t_mono (ih (t_m1 c2 hm)) (fun r h => (h7.1.trans h))
    · exact t_some wA.refl
theorem wX10_countKeptBy_h9_T {x1 : Int32} {x2 : Int32}   : ∀ (n : Nat) {x3 : Int32} {s : wS}, 2147483648 - x3.toInt < (n : Int) → Tot (wX10_countKeptBy_h9 x1 x2 n x3 s) (fun (r : wS) => wA bQ s r) := by
  intro n
  induction n with
  | zero =>
    intro x3 s hm
    exact (t_m0 hm).elim
  | succ n ih =>
    intro x3 s hm
    rw [wX10_countKeptBy_h9]
    refine t_ite (fun c1 => ?_) (fun c1 => ?_)
    · refine t_ite (fun c2 => ?_) (fun c2 => ?_)
      · refine t_bind (wX10_lawInUse_T) (fun r4 h3 => ?_)
        obtain ⟨o6, s7⟩ := r4
        dsimp only at h3 ⊢
        unfold wX10_countKeptBy_j35
        refine t_elim (fun e5 => ?_) (fun k9 e5 => ?_)
        · unfold wX10_countKeptBy_j118
          exact t_mono (ih (t_m1 c1 hm)) (fun r h => (h3.2.trans h))
        · have hk9 := (h3.1) k9 e5
          refine t_bind (wX2_first_T rfl) (fun t10 h6 => ?_)
          refine t_bind (wX10_countFalse_T hk9) (fun s13 h7 => ?_)
          have a8 := h3.2.trans h7
          refine t_bind (wX10_countKeptBy_h60_T  _   t_mi) (fun s27 h9 => ?_)
          have a10 := a8.trans h9
          unfold wX10_countKeptBy_j118
          exact t_mono (ih (t_m1 c1 hm)) (fun r h => (a10.trans h))
      · unfold wX10_countKeptBy_j35
        refine t_elim (fun e11 => ?_) (fun k9 e11 => ?_)
        · unfold wX10_countKeptBy_j118
          exact t_mono (ih (t_m1 c1 hm)) (fun r h => h)
        · exact absurd e11 (by simp)
    · exact t_some wA.refl
theorem wX10_countKeptBy_T {x1 : Int32} {x2 : Int32} {s : wS}  : Tot (wX10_countKeptBy x1 x2 s) (fun (r : wS) => wA bQ s r) := by
  unfold wX10_countKeptBy
  refine t_bind (wX10_empty_T rfl (B := bQ) (fun _ => rfl)) (fun s2 h1 => ?_)
  refine t_bind (wX10_countKeptBy_h9_T  _   t_mi) (fun s31 h2 => ?_)
  have a3 := h1.trans h2
  exact t_some a3
theorem wX10_byLaws_h85_T {x5 : Int32} {s : wS}   : ∀ (n : Nat) {x6 : Int32} {x7 : Int32}, 2147483648 - x7.toInt < (n : Int) → Tot (wX10_byLaws_h85 x5 s n x6 x7) (fun (_ : Int32) => True) := by
  intro n
  induction n with
  | zero =>
    intro x6 x7 hm
    exact (t_m0 hm).elim
  | succ n ih =>
    intro x6 x7 hm
    rw [wX10_byLaws_h85]
    refine t_bind (wX0_worlds_T rfl) (fun t18 h1 => ?_)
    refine t_ite (fun c2 => ?_) (fun c2 => ?_)
    · refine t_bind (wX10_at_T rfl) (fun t21 h3 => ?_)
      refine t_ite (fun c4 => ?_) (fun c4 => ?_)
      · unfold wX10_byLaws_j117
        exact t_mono (ih (t_m1 c2 hm)) (fun _ _ => trivial)
      · unfold wX10_byLaws_j117
        exact t_mono (ih (t_m1 c2 hm)) (fun _ _ => trivial)
    · exact t_some trivial
theorem wX10_byLaws_j77_T {y0 : Int32} {s : wS}  : Tot (wX10_byLaws_j77 y0 s) (fun (r : Int32 × wS) => wA bQ s r.2) := by
  unfold wX10_byLaws_j77
  refine t_bind (wX10_byLaws_h85_T  _   t_mi) (fun t25 h1 => ?_)
  exact t_some wA.refl
theorem wX10_byLaws_j20_T {x1 : Int32} {x2 : Int32} {x3 : Int32} {y0 : Int32} {s : wS}  : Tot (wX10_byLaws_j20 x1 x2 x3 y0 s) (fun (r : Int32 × wS) => wA bQ s r.2) := by
  unfold wX10_byLaws_j20
  refine t_ite (fun c1 => ?_) (fun c1 => ?_)
  · exact t_some wA.refl
  · refine t_bind (wX0_isTold_T rfl) (fun t3 h2 => ?_)
    refine t_ite (fun c3 => ?_) (fun c3 => ?_)
    · exact t_some wA.refl
    · refine t_bind (wX10_isOutside_T) (fun t6 h4 => ?_)
      refine t_ite (fun c5 => ?_) (fun c5 => ?_)
      · refine t_bind (wX10_isOutside_T) (fun t9 h6 => ?_)
        refine t_ite (fun c7 => ?_) (fun c7 => ?_)
        · refine t_bind (wX10_countKeptBy_T) (fun s13 h8 => ?_)
          refine t_ite (fun c9 => ?_) (fun c9 => ?_)
          · refine t_bind (wJ6_bitCount_0f7a4_T) (fun t16 h10 => ?_)
            exact t_mono (wX10_byLaws_j77_T) (fun r h => (h8.trans h))
          · exact t_mono (wX10_byLaws_j77_T) (fun r h => (h8.trans h))
        · exact t_some wA.refl
      · exact t_some wA.refl
theorem wX10_byLaws_j19_T {x1 : Int32} {x2 : Int32} {x3 : Int32} {s : wS}  : Tot (wX10_byLaws_j19 x1 x2 x3 s) (fun (r : Int32 × wS) => wA bQ s r.2) := by
  unfold wX10_byLaws_j19
  exact t_mono (wX10_byLaws_j20_T) (fun r h => h)
theorem wX10_byLaws_T {x1 : Int32} {x2 : Int32} {x3 : Int32} {s : wS}  : Tot (wX10_byLaws x1 x2 x3 s) (fun (r : Int32 × wS) => wA bQ s r.2) := by
  unfold wX10_byLaws
  refine t_ite (fun c1 => ?_) (fun c1 => ?_)
  · exact t_mono (wX10_byLaws_j19_T) (fun r h => h)
  · refine t_ite (fun c2 => ?_) (fun c2 => ?_)
    · exact t_mono (wX10_byLaws_j20_T) (fun r h => h)
    · exact t_mono (wX10_byLaws_j19_T) (fun r h => h)
theorem wX10_looks_T {x1 : Int32} {x2 : Int32} {x3 : Int32} {s : wS}  : Tot (wX10_looks x1 x2 x3 s) (fun (r : Int32 × wS) => wA bQ s r.2) := by
  unfold wX10_looks
  refine t_bind (wX10_lawWithKept_T) (fun r2 h1 => ?_)
  obtain ⟨o1, s2⟩ := r2
  dsimp only at h1 ⊢
  refine t_elim (fun e3 => ?_) (fun k4 e3 => ?_)
  · exact t_some h1.2
  · have hk4 := (h1.1) k4 e3
    refine t_bind (wX2_hasAnswer_T rfl) (fun t5 h4 => ?_)
    refine t_ite (fun c5 => ?_) (fun c5 => ?_)
    · exact t_some h1.2
    · refine t_bind (wX10_at_T rfl) (fun t8 h6 => ?_)
      refine t_bind (wX10_nearThings_T hk4) (fun t10 h7 => ?_)
      refine t_bind (wX7_withAny_T rfl) (fun t12 h8 => ?_)
      exact t_some h1.2
theorem wJ6_numberOfTrailingZeros_0f7a4_j74_T {x0 : Int32} {x1 : Int32} {s : wS}  : Tot (wJ6_numberOfTrailingZeros_0f7a4_j74 x0 x1 s) (fun (_ : Int32) => True) := by
  unfold wJ6_numberOfTrailingZeros_0f7a4_j74
  exact t_some trivial
theorem wJ6_numberOfTrailingZeros_0f7a4_j62_T {x0 : Int32} {x1 : Int32} {s : wS}  : Tot (wJ6_numberOfTrailingZeros_0f7a4_j62 x0 x1 s) (fun (_ : Int32) => True) := by
  unfold wJ6_numberOfTrailingZeros_0f7a4_j62
  refine t_ite (fun c1 => ?_) (fun c1 => ?_)
  · exact t_mono (wJ6_numberOfTrailingZeros_0f7a4_j74_T) (fun _ _ => trivial)
  · exact t_mono (wJ6_numberOfTrailingZeros_0f7a4_j74_T) (fun _ _ => trivial)
theorem wJ6_numberOfTrailingZeros_0f7a4_j49_T {x0 : Int32} {x1 : Int32} {s : wS}  : Tot (wJ6_numberOfTrailingZeros_0f7a4_j49 x0 x1 s) (fun (_ : Int32) => True) := by
  unfold wJ6_numberOfTrailingZeros_0f7a4_j49
  refine t_ite (fun c1 => ?_) (fun c1 => ?_)
  · exact t_mono (wJ6_numberOfTrailingZeros_0f7a4_j62_T) (fun _ _ => trivial)
  · exact t_mono (wJ6_numberOfTrailingZeros_0f7a4_j62_T) (fun _ _ => trivial)
theorem wJ6_numberOfTrailingZeros_0f7a4_j34_T {x0 : Int32} {x1 : Int32} {s : wS}  : Tot (wJ6_numberOfTrailingZeros_0f7a4_j34 x0 x1 s) (fun (_ : Int32) => True) := by
  unfold wJ6_numberOfTrailingZeros_0f7a4_j34
  refine t_ite (fun c1 => ?_) (fun c1 => ?_)
  · exact t_mono (wJ6_numberOfTrailingZeros_0f7a4_j49_T) (fun _ _ => trivial)
  · exact t_mono (wJ6_numberOfTrailingZeros_0f7a4_j49_T) (fun _ _ => trivial)
theorem wJ6_numberOfTrailingZeros_0f7a4_T {x0 : Int32} {s : wS}  : Tot (wJ6_numberOfTrailingZeros_0f7a4 x0 s) (fun (_ : Int32) => True) := by
  unfold wJ6_numberOfTrailingZeros_0f7a4
  refine t_ite (fun c1 => ?_) (fun c1 => ?_)
  · refine t_ite (fun c2 => ?_) (fun c2 => ?_)
    · exact t_mono (wJ6_numberOfTrailingZeros_0f7a4_j34_T) (fun _ _ => trivial)
    · exact t_mono (wJ6_numberOfTrailingZeros_0f7a4_j34_T) (fun _ _ => trivial)
  · exact t_some trivial
theorem wX10_sure_T {x1 : Int32} {x2 : Int32} {x3 : Int32} {s : wS}  : Tot (wX10_sure x1 x2 x3 s) (fun (r : Int32 × wS) => wA bQ s r.2) := by
  unfold wX10_sure
  refine t_bind (wX10_lawWithKept_T) (fun r2 h1 => ?_)
  obtain ⟨o1, s2⟩ := r2
  dsimp only at h1 ⊢
  refine t_elim (fun e3 => ?_) (fun k4 e3 => ?_)
  · exact t_some h1.2
  · have hk4 := (h1.1) k4 e3
    refine t_bind (wX10_isOutside_T) (fun t5 h4 => ?_)
    refine t_ite (fun c5 => ?_) (fun c5 => ?_)
    · refine t_bind (wX7_thingsOf_T rfl) (fun t8 h6 => ?_)
      refine t_bind (wJ6_bitCount_0f7a4_T) (fun t10 h7 => ?_)
      refine t_ite (fun c8 => ?_) (fun c8 => ?_)
      · refine t_bind (wJ6_numberOfTrailingZeros_0f7a4_T) (fun t13 h9 => ?_)
        exact t_some h1.2
      · exact t_some h1.2
    · exact t_some h1.2
theorem wX10_alone_T {x1 : Int32} {x2 : Int32} {s : wS}  : Tot (wX10_alone x1 x2 s) (fun (r : Int32 × wS) => wA bQ s r.2) := by
  unfold wX10_alone
  refine t_bind (wX10_lawInUse_T) (fun r2 h1 => ?_)
  obtain ⟨o1, s2⟩ := r2
  dsimp only at h1 ⊢
  refine t_elim (fun e3 => ?_) (fun k4 e3 => ?_)
  · exact t_some h1.2
  · have hk4 := (h1.1) k4 e3
    refine t_bind (wX10_isOutside_T) (fun t5 h4 => ?_)
    refine t_ite (fun c5 => ?_) (fun c5 => ?_)
    · refine t_bind (wX2_first_T rfl) (fun t8 h6 => ?_)
      refine t_bind (wX10_countFalse_T hk4) (fun s11 h7 => ?_)
      have a8 := h1.2.trans h7
      refine t_bind (wX10_worldsWithAtMost_T) (fun t13 h9 => ?_)
      exact t_some a8
    · exact t_some h1.2
theorem wX10_mean_h42_T {x3 : Int32} {s : wS}   : ∀ (n : Nat) {x5 : Int32} {x6 : Int32}, 2147483648 - x6.toInt < (n : Int) → Tot (wX10_mean_h42 x3 s n x5 x6) (fun (_ : Int32) => True) := by
  intro n
  induction n with
  | zero =>
    intro x5 x6 hm
    exact (t_m0 hm).elim
  | succ n ih =>
    intro x5 x6 hm
    rw [wX10_mean_h42]
    refine t_bind (wX0_manyOf_T rfl) (fun t9 h1 => ?_)
    refine t_ite (fun c2 => ?_) (fun c2 => ?_)
    · refine t_ite (fun c3 => ?_) (fun c3 => ?_)
      · refine t_bind (wX0_firstOf_T rfl) (fun t13 h4 => ?_)
        unfold wX10_mean_j91
        refine t_bind (wX7_with_T rfl) (fun t15 h5 => ?_)
        exact t_mono (ih (t_m1 c2 hm)) (fun _ _ => trivial)
      · refine t_bind (wX0_secondOf_T rfl) (fun t17 h6 => ?_)
        unfold wX10_mean_j91
        refine t_bind (wX7_with_T rfl) (fun t15 h7 => ?_)
        exact t_mono (ih (t_m1 c2 hm)) (fun _ _ => trivial)
    · exact t_some trivial
theorem wX10_mean_T {x1 : Int32} {x2 : Int32} {x3 : Int32} {s : wS}  : Tot (wX10_mean x1 x2 x3 s) (fun (r : Int32 × wS) => wA bQ s r.2) := by
  unfold wX10_mean
  refine t_bind (wX10_lawWithKept_T) (fun r2 h1 => ?_)
  obtain ⟨o1, s2⟩ := r2
  dsimp only at h1 ⊢
  refine t_elim (fun e3 => ?_) (fun k4 e3 => ?_)
  · exact t_some h1.2
  · have hk4 := (h1.1) k4 e3
    refine t_bind (wX10_isOutside_T) (fun t5 h4 => ?_)
    refine t_ite (fun c5 => ?_) (fun c5 => ?_)
    · refine t_ite (fun c6 => ?_) (fun c6 => ?_)
      · refine t_bind (wX10_mean_h42_T  _   t_mi) (fun t20 h7 => ?_)
        refine t_bind (t_dvI (by (try simp only [Int32.lt_iff_toInt_lt, Int32.le_iff_toInt_le, ← Int32.toInt_inj, Int32.reduceToInt] at *) <;> omega)) (fun t27 h8 => ?_)
        exact t_some h1.2
      · exact t_some h1.2
    · exact t_some h1.2
theorem wX10_filled_h113_T {k4 : Nat} {x5 : Int32} {x6 : Int32} {x7 : Int32} {x9 : Int32} {s : wS} (hk4 : wkd k4 = 3)  : ∀ (n : Nat) {x8 : Int32} {x10 : Int32}, 2147483648 - x10.toInt < (n : Int) → Tot (wX10_filled_h113 k4 x5 x6 x7 x9 s n x8 x10) (fun (_ : Int32) => True) := by
  intro n
  induction n with
  | zero =>
    intro x8 x10 hm
    exact (t_m0 hm).elim
  | succ n ih =>
    intro x8 x10 hm
    rw [wX10_filled_h113]
    refine t_ite (fun c1 => ?_) (fun c1 => ?_)
    · refine t_ite (fun c2 => ?_) (fun c2 => ?_)
      · unfold wX10_filled_j147
        exact t_mono (ih (t_m1 c1 hm)) (fun _ _ => trivial)
      · refine t_bind (wX3_nearOf_T hk4) (fun t28 h3 => ?_)
        refine t_ite (fun c4 => ?_) (fun c4 => ?_)
        · unfold wX10_filled_j147
          exact t_mono (ih (t_m1 c1 hm)) (fun _ _ => trivial)
        · unfold wX10_filled_j147
          exact t_mono (ih (t_m1 c1 hm)) (fun _ _ => trivial)
    · exact t_some trivial
theorem wX10_filled_h103_T {k4 : Nat} {x5 : Int32} {x6 : Int32} {x7 : Int32} {s : wS} (hk4 : wkd k4 = 3)  : ∀ (n : Nat) {x8 : Int32} {x9 : Int32}, 2147483648 - x9.toInt < (n : Int) → Tot (wX10_filled_h103 k4 x5 x6 x7 s n x8 x9) (fun (_ : Int32) => True) := by
  intro n
  induction n with
  | zero =>
    intro x8 x9 hm
    exact (t_m0 hm).elim
  | succ n ih =>
    intro x8 x9 hm
    rw [wX10_filled_h103]
    refine t_ite (fun c1 => ?_) (fun c1 => ?_)
    · refine t_bind (wX10_filled_h113_T hk4 _   t_mi) (fun t32 h2 => ?_)
      exact t_mono (ih (t_m1 c1 hm)) (fun _ _ => trivial)
    · exact t_some trivial
theorem wX10_filled_T {x1 : Int32} {x2 : Int32} {x3 : Int32} {s : wS}  : Tot (wX10_filled x1 x2 x3 s) (fun (r : Int32 × wS) => wA bQ s r.2) := by
  unfold wX10_filled
  refine t_bind (wX10_lawInUse_T) (fun r2 h1 => ?_)
  obtain ⟨o1, s2⟩ := r2
  dsimp only at h1 ⊢
  refine t_elim (fun e3 => ?_) (fun k4 e3 => ?_)
  · exact t_some h1.2
  · have hk4 := (h1.1) k4 e3
    refine t_bind (wX10_isOutside_T) (fun t5 h4 => ?_)
    refine t_ite (fun c5 => ?_) (fun c5 => ?_)
    · refine t_bind (wX2_hasAnswer_T rfl) (fun t8 h6 => ?_)
      refine t_ite (fun c7 => ?_) (fun c7 => ?_)
      · exact t_some h1.2
      · refine t_bind (wX2_first_T rfl) (fun t11 h8 => ?_)
        refine t_bind (wX10_countFalse_T hk4) (fun s14 h9 => ?_)
        have a10 := h1.2.trans h9
        refine t_bind (wX10_fillKept_T rfl) (fun s17 h11 => ?_)
        have a12 := a10.trans h11
        refine t_bind (wX10_at_T rfl) (fun t19 h13 => ?_)
        refine t_bind (wX7_thingsOf_T rfl) (fun t21 h14 => ?_)
        refine t_bind (wX0_manyOf_T rfl) (fun t23 h15 => ?_)
        refine t_bind (wX10_filled_h103_T hk4 _   t_mi) (fun t38 h16 => ?_)
        exact t_some a12
    · exact t_some h1.2
theorem wX10_lowerBound_h2_T {x0 : Int32} {s : wS}   : ∀ (n : Nat) {x1 : Int32}, 2147483648 - x1.toInt < (n : Int) → Tot (wX10_lowerBound_h2 x0 s n x1) (fun (_ : Int32) => True) := by
  intro n
  induction n with
  | zero =>
    intro x1 hm
    exact (t_m0 hm).elim
  | succ n ih =>
    intro x1 hm
    rw [wX10_lowerBound_h2]
    refine t_ite (fun c1 => ?_) (fun c1 => ?_)
    · refine t_ite (fun c2 => ?_) (fun c2 => ?_)
      · exact t_mono (ih (t_m1 c1 hm)) (fun _ _ => trivial)
      · exact t_some trivial
    · exact t_some trivial
theorem wX10_lowerBound_T {x0 : Int32} {s : wS}  : Tot (wX10_lowerBound x0 s) (fun (_ : Int32) => True) := by
  unfold wX10_lowerBound
  refine t_bind (wX10_lowerBound_h2_T  _   t_mi) (fun t4 h1 => ?_)
  exact t_some trivial
theorem wX10_usefulPairs_h4_T {k1 : Nat} {s : wS} (hk1 : wkd k1 = 3)  : ∀ (n : Nat) {x2 : Int32} {x3 : Int32}, 2147483648 - x3.toInt < (n : Int) → Tot (wX10_usefulPairs_h4 k1 s n x2 x3) (fun (_ : Int32) => True) := by
  intro n
  induction n with
  | zero =>
    intro x2 x3 hm
    exact (t_m0 hm).elim
  | succ n ih =>
    intro x2 x3 hm
    rw [wX10_usefulPairs_h4]
    refine t_ite (fun c1 => ?_) (fun c1 => ?_)
    · refine t_bind (wX5_leftForFirst_T hk1 rfl) (fun t2 h2 => ?_)
      refine t_ite (fun c3 => ?_) (fun c3 => ?_)
      · refine t_bind (wX5_leftForSecond_T hk1 rfl) (fun t5 h4 => ?_)
        refine t_ite (fun c5 => ?_) (fun c5 => ?_)
        · unfold wX10_usefulPairs_j64
          exact t_mono (ih (t_m1 c1 hm)) (fun _ _ => trivial)
        · unfold wX10_usefulPairs_j64
          exact t_mono (ih (t_m1 c1 hm)) (fun _ _ => trivial)
      · unfold wX10_usefulPairs_j64
        exact t_mono (ih (t_m1 c1 hm)) (fun _ _ => trivial)
    · exact t_some trivial
theorem wX10_usefulPairs_T {k1 : Nat} {s : wS} (hk1 : wkd k1 = 3) : Tot (wX10_usefulPairs k1 s) (fun (_ : Int32) => True) := by
  unfold wX10_usefulPairs
  refine t_bind (wX10_usefulPairs_h4_T hk1 _   t_mi) (fun t9 h1 => ?_)
  exact t_some trivial
theorem wX10_useful_T {x1 : Int32} {x2 : Int32} {x3 : Int32} {s : wS}  : Tot (wX10_useful x1 x2 x3 s) (fun (r : Int32 × wS) => wA bQ s r.2) := by
  unfold wX10_useful
  refine t_bind (wX10_lawWithKept_T) (fun r2 h1 => ?_)
  obtain ⟨o1, s2⟩ := r2
  dsimp only at h1 ⊢
  refine t_elim (fun e3 => ?_) (fun k4 e3 => ?_)
  · exact t_some h1.2
  · have hk4 := (h1.1) k4 e3
    refine t_bind (wX10_isOutside_T) (fun t5 h4 => ?_)
    refine t_ite (fun c5 => ?_) (fun c5 => ?_)
    · refine t_ite (fun c6 => ?_) (fun c6 => ?_)
      · refine t_bind (wX10_usefulPairs_T hk4) (fun t9 h7 => ?_)
        exact t_some h1.2
      · refine t_bind (wX10_lowerBound_T) (fun t11 h8 => ?_)
        exact t_some h1.2
    · exact t_some h1.2
theorem wX10_next_T {x1 : Int32} {x2 : Int32} {x3 : Int32} {x4 : Int32} {s : wS}  : Tot (wX10_next x1 x2 x3 x4 s) (fun (r : Int32 × wS) => wA bQ s r.2) := by
  unfold wX10_next
  refine t_bind (wX10_isOutside_T) (fun t1 h1 => ?_)
  refine t_ite (fun c2 => ?_) (fun c2 => ?_)
  · refine t_bind (wX10_isOutside_T) (fun t4 h3 => ?_)
    refine t_ite (fun c4 => ?_) (fun c4 => ?_)
    · refine t_bind (wX10_lawWithKept_T) (fun r6 h5 => ?_)
      obtain ⟨o7, s8⟩ := r6
      dsimp only at h5 ⊢
      refine t_elim (fun e7 => ?_) (fun k10 e7 => ?_)
      · exact t_some h5.2
      · have hk10 := (h5.1) k10 e7
        refine t_bind (wX5_best_T hk10 rfl) (fun t11 h8 => ?_)
        refine t_ite (fun c9 => ?_) (fun c9 => ?_)
        · exact t_some h5.2
        · refine t_bind (wX5_leftForFirst_T hk10 rfl) (fun t14 h10 => ?_)
          refine t_bind (wX5_leftForSecond_T hk10 rfl) (fun t16 h11 => ?_)
          refine t_bind (wX5_told_T) (fun t18 h12 => ?_)
          exact t_some h5.2
    · exact t_some wA.refl
  · exact t_some wA.refl
theorem wX10_needed_h57_T {x2 : Int32} {k3 : Nat} (hk3 : wkd k3 = 3)  : ∀ (n : Nat) {x4 : Int32} {s : wS}, 2147483648 - x4.toInt < (n : Int) → Tot (wX10_needed_h57 x2 k3 n x4 s) (fun (r : wS) => wA bQ s r) := by
  intro n
  induction n with
  | zero =>
    intro x4 s hm
    exact (t_m0 hm).elim
  | succ n ih =>
    intro x4 s hm
    rw [wX10_needed_h57]
    refine t_bind (wX0_worlds_T rfl) (fun t10 h1 => ?_)
    refine t_ite (fun c2 => ?_) (fun c2 => ?_)
    · refine t_bind (wX10_at_T rfl) (fun t13 h3 => ?_)
      refine t_ite (fun c4 => ?_) (fun c4 => ?_)
      · unfold wX10_needed_j106
        exact t_mono (ih (t_m1 c2 hm)) (fun r h => h)
      · refine t_bind (wX6_add_T hk3 rfl) (fun s17 h5 => ?_)
        unfold wX10_needed_j106
        exact t_mono (ih (t_m1 c2 hm)) (fun r h => (h5.trans h))
    · exact t_some wA.refl
theorem wX10_needed_T {x1 : Int32} {x2 : Int32} {s : wS}  : Tot (wX10_needed x1 x2 s) (fun (r : Int32 × wS) => wA bQ s r.2) := by
  unfold wX10_needed
  refine t_bind (wX10_lawWithKept_T) (fun r2 h1 => ?_)
  obtain ⟨o1, s2⟩ := r2
  dsimp only at h1 ⊢
  refine t_elim (fun e3 => ?_) (fun k4 e3 => ?_)
  · exact t_some h1.2
  · have hk4 := (h1.1) k4 e3
    refine t_ite (fun c4 => ?_) (fun c4 => ?_)
    · exact t_some h1.2
    · refine t_ite (fun c5 => ?_) (fun c5 => ?_)
      · exact t_some h1.2
      · refine t_bind (wX6_clear_T) (fun s8 h6 => ?_)
        have a7 := h1.2.trans h6
        refine t_bind (wX10_needed_h57_T hk4 _   t_mi) (fun s20 h8 => ?_)
        have a9 := a7.trans h8
        refine t_bind (wX6_pairsForAll_T) (fun r11 h10 => ?_)
        obtain ⟨t25, s26⟩ := r11
        dsimp only at h10 ⊢
        have a12 := a9.trans h10
        refine t_ite (fun c13 => ?_) (fun c13 => ?_)
        · exact t_some a12
        · exact t_some a12
theorem wX10_steered_h80_T {x3 : Int32} {x5 : Int32} {k6 : Nat} {s : wS} (hk6 : wkd k6 = 3)  : ∀ (n : Nat) {x7 : Int32} {x8 : Int32} {x9 : Int32} {x10 : Int32}, 2147483648 - x10.toInt < (n : Int) → Tot (wX10_steered_h80 x3 x5 k6 s n x7 x8 x9 x10) (fun (_ : Int32 × Int32 × Int32) => True) := by
  intro n
  induction n with
  | zero =>
    intro x7 x8 x9 x10 hm
    exact (t_m0 hm).elim
  | succ n ih =>
    intro x7 x8 x9 x10 hm
    rw [wX10_steered_h80]
    refine t_ite (fun c1 => ?_) (fun c1 => ?_)
    · refine t_bind (wX5_leftAsIn_T hk6 rfl rfl) (fun t20 h2 => ?_)
      refine t_bind (wX5_leftAsIn_T hk6 rfl rfl) (fun t22 h3 => ?_)
      refine t_ite (fun c4 => ?_) (fun c4 => ?_)
      · refine t_ite (fun c5 => ?_) (fun c5 => ?_)
        · unfold wX10_steered_j166
          unfold wX10_steered_j178
          exact t_mono (ih (t_m1 c1 hm)) (fun _ _ => trivial)
        · refine t_ite (fun c6 => ?_) (fun c6 => ?_)
          · unfold wX10_steered_j166
            unfold wX10_steered_j178
            exact t_mono (ih (t_m1 c1 hm)) (fun _ _ => trivial)
          · unfold wX10_steered_j178
            exact t_mono (ih (t_m1 c1 hm)) (fun _ _ => trivial)
      · unfold wX10_steered_j178
        exact t_mono (ih (t_m1 c1 hm)) (fun _ _ => trivial)
    · exact t_some trivial
theorem wX10_steered_T {x1 : Int32} {x2 : Int32} {x3 : Int32} {x4 : Int32} {x5 : Int32} {s : wS}  : Tot (wX10_steered x1 x2 x3 x4 x5 s) (fun (r : Int32 × wS) => wA bQ s r.2) := by
  unfold wX10_steered
  refine t_bind (wX10_lawWithKept_T) (fun r2 h1 => ?_)
  obtain ⟨o1, s2⟩ := r2
  dsimp only at h1 ⊢
  refine t_elim (fun e3 => ?_) (fun k4 e3 => ?_)
  · exact t_some h1.2
  · have hk4 := (h1.1) k4 e3
    refine t_bind (wX0_worlds_T rfl) (fun t5 h4 => ?_)
    refine t_bind (wX10_isOutside_T) (fun t7 h5 => ?_)
    refine t_ite (fun c6 => ?_) (fun c6 => ?_)
    · refine t_bind (wX0_has_T rfl) (fun t10 h7 => ?_)
      refine t_ite (fun c8 => ?_) (fun c8 => ?_)
      · exact t_some h1.2
      · refine t_bind (wX10_isOutside_T) (fun t13 h9 => ?_)
        refine t_ite (fun c10 => ?_) (fun c10 => ?_)
        · refine t_bind (wX10_fillKept_T rfl) (fun s17 h11 => ?_)
          have a12 := h1.2.trans h11
          refine t_bind (wX10_steered_h80_T hk4 _   t_mi) (fun r14 h13 => ?_)
          obtain ⟨t28, t29, t30⟩ := r14
          dsimp only at h13 ⊢
          refine t_ite (fun c15 => ?_) (fun c15 => ?_)
          · exact t_some a12
          · refine t_bind (wX5_told_T) (fun t40 h16 => ?_)
            exact t_some a12
        · exact t_some h1.2
    · exact t_some h1.2
theorem wX10_drawn_T {x0 : Int32} {s : wS}  : Tot (wX10_drawn x0 s) (fun (_ : Int32) => True) := by
  unfold wX10_drawn
  exact t_some trivial
theorem wX10_trial_h19_T {k1 : Nat} {x2 : Int32} (hk1 : wkd k1 = 3)  : ∀ (n : Nat) {x3 : Int32} {s : wS}, 2147483648 - x3.toInt < (n : Int) → Tot (wX10_trial_h19 k1 x2 n x3 s) (Sum.elim (fun (r : Int32 × wS) => wA bQ s r.2) (fun (r : Int32 × wS) => wA bQ s r.2)) := by
  intro n
  induction n with
  | zero =>
    intro x3 s hm
    exact (t_m0 hm).elim
  | succ n ih =>
    intro x3 s hm
    rw [wX10_trial_h19]
    refine t_ite (fun c1 => ?_) (fun c1 => ?_)
    · refine t_ite (fun c2 => ?_) (fun c2 => ?_)
      · refine t_bind (wX5_best_T hk1 rfl) (fun t8 h3 => ?_)
        refine t_ite (fun c4 => ?_) (fun c4 => ?_)
        · exact t_some wA.refl
        · refine t_bind (wX5_greaterLeft_T hk1 rfl) (fun t11 h5 => ?_)
          refine t_ite (fun c6 => ?_) (fun c6 => ?_)
          · refine t_bind (wX10_at_T rfl) (fun t14 h7 => ?_)
            refine t_bind (wX5_nearAsIn_T hk1 rfl) (fun t16 h8 => ?_)
            refine t_bind (wX7_keepOnly_T rfl) (fun s19 h9 => ?_)
            exact t_mono (ih (t_m1 c1 hm)) (fun r h => match r, h with | .inl r, h => (h9.trans h) | .inr r, h => (h9.trans h))
          · exact t_some wA.refl
      · exact t_some wA.refl
    · exact t_some wA.refl
theorem wX10_trial_T {k1 : Nat} {x2 : Int32} {s : wS} (hk1 : wkd k1 = 3) : Tot (wX10_trial k1 x2 s) (fun (r : Int32 × wS) => wA bQ s r.2) := by
  unfold wX10_trial
  refine t_bind (wX0_bitsOfAll_T rfl) (fun t1 h1 => ?_)
  refine t_bind (wX7_fillWith_T rfl) (fun s4 h2 => ?_)
  refine t_bind (wX10_trial_h19_T hk1 _   t_mi) (fun z21 h3 => ?_)
  rcases z21 with z21 | z21
  · obtain ⟨t22, s23⟩ := z21
    simp only [Sum.elim_inl, Sum.elim_inr] at h3
    dsimp only
    have a4 := h2.trans h3
    exact t_some a4
  · obtain ⟨t28, s29⟩ := z21
    simp only [Sum.elim_inl, Sum.elim_inr] at h3
    dsimp only
    have a5 := h2.trans h3
    exact t_some a5
theorem wX10_trials_h71_T {x2 : Int32} {x3 : Int32} {k4 : Nat} {x5 : Int32} (hk4 : wkd k4 = 3) (hx5 : 0 < x5.toInt) : ∀ (n : Nat) {x6 : Int32} {x7 : Int32} {x8 : Int32} {x9 : Int32} {x10 : Int32} {s : wS}, 2147483648 - x10.toInt < (n : Int) → Tot (wX10_trials_h71 x2 x3 k4 x5 n x6 x7 x8 x9 x10 s) (fun (r : Int32 × Int32 × Int32 × wS) => wA bQ s r.2.2.2) := by
  intro n
  induction n with
  | zero =>
    intro x6 x7 x8 x9 x10 s hm
    exact (t_m0 hm).elim
  | succ n ih =>
    intro x6 x7 x8 x9 x10 s hm
    rw [wX10_trials_h71]
    refine t_ite (fun c1 => ?_) (fun c1 => ?_)
    · refine t_bind (wX10_drawn_T) (fun t14 h2 => ?_)
      refine t_bind (t_rmI (by (try simp only [Int32.lt_iff_toInt_lt, Int32.le_iff_toInt_le, ← Int32.toInt_inj, Int32.reduceToInt] at *) <;> omega)) (fun t16 h3 => ?_)
      refine t_bind (wX10_trial_T hk4) (fun r5 h4 => ?_)
      obtain ⟨t17, s18⟩ := r5
      dsimp only at h4 ⊢
      refine t_ite (fun c6 => ?_) (fun c6 => ?_)
      · unfold wX10_trials_j130
        exact t_mono (ih (t_m1 c1 hm)) (fun r h => (h4.trans h))
      · unfold wX10_trials_j130
        exact t_mono (ih (t_m1 c1 hm)) (fun r h => (h4.trans h))
    · exact t_some wA.refl
theorem wX10_trials_T {x1 : Int32} {x2 : Int32} {x3 : Int32} {s : wS}  : Tot (wX10_trials x1 x2 x3 s) (fun (r : Int32 × wS) => wA bQ s r.2) := by
  unfold wX10_trials
  refine t_bind (wX10_lawInUse_T) (fun r2 h1 => ?_)
  obtain ⟨o1, s2⟩ := r2
  dsimp only at h1 ⊢
  refine t_bind (wX0_worlds_T rfl) (fun t4 h3 => ?_)
  refine t_elim (fun e4 => ?_) (fun k6 e4 => ?_)
  · exact t_some h1.2
  · have hk6 := (h1.1) k6 e4
    refine t_ite (fun c5 => ?_) (fun c5 => ?_)
    · refine t_ite (fun c6 => ?_) (fun c6 => ?_)
      · exact t_some h1.2
      · refine t_ite (fun c7 => ?_) (fun c7 => ?_)
        · exact t_some h1.2
        · refine t_bind (wX10_isOutside_T) (fun t10 h8 => ?_)
          refine t_ite (fun c9 => ?_) (fun c9 => ?_)
          · refine t_bind (wX10_trials_h71_T hk6 (by (try simp only [Int32.lt_iff_toInt_lt, Int32.le_iff_toInt_le, ← Int32.toInt_inj, Int32.reduceToInt] at *) <;> omega) _   t_mi) (fun r11 h10 => ?_)
            obtain ⟨t22, t23, t24, s25⟩ := r11
            dsimp only at h10 ⊢
            have a12 := h1.2.trans h10
            refine t_ite (fun c13 => ?_) (fun c13 => ?_)
            · exact t_some a12
            · refine t_ite (fun c14 => ?_) (fun c14 => ?_)
              · exact t_some a12
              · exact t_some a12
          · exact t_some h1.2
    · exact t_some h1.2
theorem wX10_old_j96_T {x2 : Int32} {x4 : Int32} {x6 : Int32} {y0 : Int32} {s : wS}  : Tot (wX10_old_j96 x2 x4 x6 y0 s) (fun (r : Int32 × wS) => wA bQ s r.2) := by
  unfold wX10_old_j96
  refine t_ite (fun c1 => ?_) (fun c1 => ?_)
  · exact t_some wA.refl
  · refine t_ite (fun c2 => ?_) (fun c2 => ?_)
    · refine t_bind (wX10_worldsWithAtMost_T) (fun t26 h3 => ?_)
      exact t_some wA.refl
    · exact t_some wA.refl
theorem wX10_old_T {x1 : Int32} {x2 : Int32} {x3 : Int32} {x4 : Int32} {s : wS}  : Tot (wX10_old x1 x2 x3 x4 s) (fun (r : Int32 × wS) => wA bQ s r.2) := by
  unfold wX10_old
  refine t_bind (wX10_lawInUse_T) (fun r2 h1 => ?_)
  obtain ⟨o1, s2⟩ := r2
  dsimp only at h1 ⊢
  refine t_elim (fun e3 => ?_) (fun k4 e3 => ?_)
  · exact t_some h1.2
  · have hk4 := (h1.1) k4 e3
    refine t_bind (wX10_isOutside_T) (fun t5 h4 => ?_)
    refine t_ite (fun c5 => ?_) (fun c5 => ?_)
    · refine t_bind (wX10_isOutside_T) (fun t8 h6 => ?_)
      refine t_ite (fun c7 => ?_) (fun c7 => ?_)
      · refine t_bind (wX10_isOutside_T) (fun t11 h8 => ?_)
        refine t_ite (fun c9 => ?_) (fun c9 => ?_)
        · refine t_bind (wX10_at_T rfl) (fun t14 h10 => ?_)
          refine t_bind (wX10_countFalse_T hk4) (fun s17 h11 => ?_)
          have a12 := h1.2.trans h11
          refine t_bind (wX10_at_T rfl) (fun t19 h13 => ?_)
          refine t_bind (wX10_at_T rfl) (fun t21 h14 => ?_)
          refine t_ite (fun c15 => ?_) (fun c15 => ?_)
          · exact t_mono (wX10_old_j96_T) (fun r h => (a12.trans h))
          · exact t_mono (wX10_old_j96_T) (fun r h => (a12.trans h))
        · exact t_some h1.2
      · exact t_some h1.2
    · exact t_some h1.2
theorem wX10_count_j56_T {x1 : Int32} {s : wS}  : Tot (wX10_count_j56 x1 s) (fun (_ : Int32) => True) := by
  unfold wX10_count_j56
  refine t_bind (wX0_manyOf_T rfl) (fun t2 h1 => ?_)
  exact t_some trivial
theorem wX10_count_T {x1 : Int32} {s : wS}  : Tot (wX10_count x1 s) (fun (_ : Int32) => True) := by
  unfold wX10_count
  refine t_ite (fun c1 => ?_) (fun c1 => ?_)
  · exact t_mono (wX10_count_j56_T) (fun _ _ => trivial)
  · refine t_ite (fun c2 => ?_) (fun c2 => ?_)
    · exact t_mono (wX10_count_j56_T) (fun _ _ => trivial)
    · refine t_ite (fun c3 => ?_) (fun c3 => ?_)
      · exact t_mono (wX10_count_j56_T) (fun _ _ => trivial)
      · refine t_ite (fun c4 => ?_) (fun c4 => ?_)
        · exact t_some trivial
        · refine t_ite (fun c5 => ?_) (fun c5 => ?_)
          · exact t_some trivial
          · refine t_ite (fun c6 => ?_) (fun c6 => ?_)
            · refine t_bind (wX2_struckOnes_T rfl) (fun t9 h7 => ?_)
              exact t_some trivial
            · refine t_ite (fun c8 => ?_) (fun c8 => ?_)
              · refine t_bind (wX2_lookedAtOnes_T rfl) (fun t12 h9 => ?_)
                exact t_some trivial
              · refine t_ite (fun c10 => ?_) (fun c10 => ?_)
                · exact t_some trivial
                · refine t_ite (fun c11 => ?_) (fun c11 => ?_)
                  · exact t_some trivial
                  · refine t_ite (fun c12 => ?_) (fun c12 => ?_)
                    · exact t_some trivial
                    · exact t_some trivial
end
section
/-! The class: its calls that change what it was told. -/
theorem wX8_putNumber_h3_T {x1 : Int32} : ∀ (n : Nat) {x2 : Int32} {s : wS}, -8 ≤ x2.toInt → x2.toInt + 9 < (n : Int) → Tot (wX8_putNumber_h3 x1 n x2 s) (fun (r : wS) => wA (fun k _ => Nat.beq k 1 || Nat.beq k 2) s r) := by
  intro n
  induction n with
  | zero => intro x2 s h1 h2; exfalso; omega
  | succ n ih =>
    intro x2 s h1 h2
    rw [wX8_putNumber_h3]
    refine t_ite (fun c => t_some wA.refl) (fun c => ?_)
    have h0 := t_ge c
    rw [t_i0] at h0
    have e : (x2 + (-8)).toInt = x2.toInt - 8 := by
      rw [Int32.toInt_add, show (-8 : Int32).toInt = -8 from rfl]
      have := Int32.toInt_lt x2
      exact Int.bmod_eq_of_le (by omega) (by omega)
    refine t_bind wX10_isOutside_T (fun t2 ht => t_ite (fun c2 => ?_) (fun c2 => ?_))
    · have h4 : 0 ≤ (s.1 1 1).toInt ∧ (s.1 1 1).toInt < (400 : Int32).toInt := by
        rcases ht with h | h
        · exact h.2
        · rw [h.1] at c2; exact absurd c2 (by decide)
      rw [show (400 : Int32).toInt = 400 from rfl] at h4
      refine t_bind (t_stB (B := fun k _ => Nat.beq k 1 || Nat.beq k 2) (n := 400) h4.1 (by omega) (fun _ => rfl)) (fun s5 h5 => ?_)
      refine t_bind (t_pfI (B := fun k _ => Nat.beq k 1 || Nat.beq k 2) rfl) (fun s6 h6 => ?_)
      unfold wX8_putNumber_j45
      exact t_mono (ih (by omega) (by omega)) (fun r h => (h5.1.trans h6.1).trans h)
    · unfold wX8_putNumber_j45
      exact ih (by omega) (by omega)
theorem wX8_putNumber_T {x1 : Int32} {s : wS} : Tot (wX8_putNumber x1 s) (fun (r : wS) => wA (fun k _ => Nat.beq k 1 || Nat.beq k 2) s r) := by
  unfold wX8_putNumber
  exact t_bind (wX8_putNumber_h3_T _ (by decide) (by decide +kernel)) (fun s8 h => t_some h)
theorem wX10_feed_T {x1 x2 x3 x4 x5 : Int32} {s : wS} : Tot (wX10_feed x1 x2 x3 x4 x5 s) (fun (r : Int32 × wS) => wA (fun k _ => Nat.beq k 1 || Nat.beq k 2) s r.2) := by
  unfold wX10_feed
  refine t_ite (fun _ => t_some wA.refl) (fun _ => ?_)
  refine t_bind wX8_putNumber_T (fun s3 h3 => ?_)
  refine t_bind wX8_putNumber_T (fun s6 h6 => ?_)
  refine t_bind wX8_putNumber_T (fun s9 h9 => ?_)
  refine t_bind wX8_putNumber_T (fun s12 h12 => ?_)
  refine t_bind wX8_putNumber_T (fun s15 h15 => ?_)
  exact t_some ((((h3.trans h6).trans h9).trans h12).trans h15)
theorem wX10_end_T {x1 : Int32} {s : wS} : Tot (wX10_end x1 s) (fun (r : Int32 × wS) => wA (fun k _ => Nat.beq k 1) s r.2) := by
  unfold wX10_end
  refine t_ite (fun _ => t_some wA.refl) (fun _ => t_ite (fun _ => t_some wA.refl) (fun _ => ?_))
  exact t_bind (t_pfI (B := fun k _ => Nat.beq k 1) rfl) (fun s3 h3 => t_some h3.1)
theorem wX2_takeDown_T {x1 x2 x3 x4 : Int32} {s : wS} : Tot (wX2_takeDown 14 x1 x2 x3 x4 s) (fun (r : Int32 × wS) => wA (fun k b => (Nat.ble 19 k && Nat.ble k 23) || (Nat.beq k 14 && Nat.beq b 6)) s r.2) := by
  unfold wX2_takeDown
  refine t_bind wX10_isOutside_T (fun t1 ht => t_ite (fun c => ?_) (fun c => t_some wA.refl))
  have h4 : 0 ≤ (s.1 14 6).toInt ∧ (s.1 14 6).toInt < (40 : Int32).toInt := by
    rcases ht with h | h
    · exact h.2
    · rw [h.1] at c; exact absurd c (by decide)
  rw [show (40 : Int32).toInt = 40 from rfl] at h4
  obtain ⟨h0, h1⟩ := h4
  refine t_bind (t_stI (B := fun k b => (Nat.ble 19 k && Nat.ble k 23) || (Nat.beq k 14 && Nat.beq b 6)) (n := 40) h0 (by omega) (fun _ => rfl)) (fun s4 h4 => ?_)
  have f4 : s4.1 14 6 = s.1 14 6 := by rw [h4.2, wupI_n (by omega)]
  refine t_bind (t_stI (B := fun k b => (Nat.ble 19 k && Nat.ble k 23) || (Nat.beq k 14 && Nat.beq b 6)) (n := 40) (by rw [f4]; exact h0) (by rw [f4]; omega) (fun _ => rfl)) (fun s5 h5 => ?_)
  have f5 : s5.1 14 6 = s.1 14 6 := by rw [h5.2, wupI_n (by omega), f4]
  refine t_bind (t_stI (B := fun k b => (Nat.ble 19 k && Nat.ble k 23) || (Nat.beq k 14 && Nat.beq b 6)) (n := 40) (by rw [f5]; exact h0) (by rw [f5]; omega) (fun _ => rfl)) (fun s6 h6 => ?_)
  have f6 : s6.1 14 6 = s.1 14 6 := by rw [h6.2, wupI_n (by omega), f5]
  refine t_bind (t_stI (B := fun k b => (Nat.ble 19 k && Nat.ble k 23) || (Nat.beq k 14 && Nat.beq b 6)) (n := 40) (by rw [f6]; exact h0) (by rw [f6]; omega) (fun _ => rfl)) (fun s7 h7 => ?_)
  have f7 : s7.1 14 6 = s.1 14 6 := by rw [h7.2, wupI_n (by omega), f6]
  refine t_bind (t_stZ (B := fun k b => (Nat.ble 19 k && Nat.ble k 23) || (Nat.beq k 14 && Nat.beq b 6)) (n := 40) (by rw [f7]; exact h0) (by rw [f7]; omega) (fun _ => rfl)) (fun s8 h8 => ?_)
  refine t_bind (t_pfI (B := fun k b => (Nat.ble 19 k && Nat.ble k 23) || (Nat.beq k 14 && Nat.beq b 6)) rfl) (fun s9 h9 => ?_)
  exact t_some (((((h4.1.trans h5.1).trans h6.1).trans h7.1).trans h8.1).trans h9.1)
theorem wX10_answer_T {x1 x2 x3 x4 : Int32} {s : wS} : Tot (wX10_answer x1 x2 x3 x4 s) (fun (r : Int32 × wS) => wA (fun k b => (Nat.ble 19 k && Nat.ble k 23) || (Nat.beq k 14 && Nat.beq b 6)) s r.2) := by
  unfold wX10_answer
  refine t_bind wX10_isOutside_T (fun t1 ht => t_ite (fun c => ?_) (fun c => t_some wA.refl))
  refine t_bind (wX2_mayStillGive_T rfl) (fun t4 h4 => t_ite (fun c => ?_) (fun c => t_some wA.refl))
  refine t_bind (wX0_has_T rfl) (fun t7 h7 => t_ite (fun c => t_some wA.refl) (fun c => ?_))
  refine t_bind (wX0_has_T rfl) (fun t10 h10 => t_ite (fun c => t_some wA.refl) (fun c => ?_))
  refine t_ite (fun c => t_some wA.refl) (fun c => ?_)
  refine t_bind wX2_takeDown_T (fun r h => ?_)
  obtain ⟨t14, s15⟩ := r
  exact t_some h
theorem wX10_strike_T {x1 x2 : Int32} {s : wS} : Tot (wX10_strike x1 x2 s) (fun (r : Int32 × wS) => wA (fun k _ => Nat.beq k 23) s r.2) := by
  unfold wX10_strike
  refine t_bind (wX2_hasAnswer_T rfl) (fun t1 h1 => t_ite (fun c => t_some wA.refl) (fun c => ?_))
  refine t_bind (wX2_isStruck_T rfl) (fun t4 h4 => t_ite (fun c => t_some wA.refl) (fun c => ?_))
  unfold wX2_setStruck
  refine t_bind (P := fun s8 => wA (fun k _ => Nat.beq k 23) s s8) ?_ (fun s8 h => t_some h)
  refine t_bind wX10_isOutside_T (fun t1 ht => t_ite (fun c => ?_) (fun c => t_some wA.refl))
  have h4 : 0 ≤ x1.toInt ∧ x1.toInt < (40 : Int32).toInt := by
    rcases ht with h | h
    · exact h.2
    · rw [h.1] at c; exact absurd c (by decide)
  rw [show (40 : Int32).toInt = 40 from rfl] at h4
  exact t_bind (t_stZ (B := fun k _ => Nat.beq k 23) (n := 40) h4.1 (by omega) (fun _ => rfl)) (fun s4 h => t_some h.1)
theorem wX10_only_T {x1 : Int32} {s : wS} : Tot (wX10_only x1 s) (fun (r : Int32 × wS) => wA (fun k b => Nat.beq k 14 && Nat.beq b 7) s r.2) := by
  unfold wX10_only
  refine t_ite (fun _ => t_some wA.refl) (fun _ => t_ite (fun _ => t_some wA.refl) (fun _ => ?_))
  exact t_bind (t_pfI (B := fun k b => Nat.beq k 14 && Nat.beq b 7) rfl) (fun s3 h3 => t_some h3.1)
theorem wX10_seed_T {x1 : Int32} {s : wS} : Tot (wX10_seed x1 s) (fun (r : Int32 × wS) => wA (fun k b => Nat.beq k 14 && Nat.beq b 11) s r.2 ∧ ((x1 < 0 ∧ r = (-1, s)) ∨ (¬ x1 < 0 ∧ r.1 = s.1 14 11 ∧ r.2.1 14 11 = x1))) := by
  unfold wX10_seed
  refine t_ite (fun c => t_some ⟨wA.refl, Or.inl ⟨c, rfl⟩⟩) (fun c => ?_)
  exact t_bind (t_pfI (B := fun k b => Nat.beq k 14 && Nat.beq b 11) rfl) (fun s3 h3 => t_some ⟨h3.1, Or.inr ⟨c, rfl, by
    show s3.1 14 11 = x1
    rw [h3.2]
    exact wup_same⟩⟩)
theorem wX2_judge_T {x1 : Int32} {s : wS} : Tot (wX2_judge 14 x1 s) (fun (r : wS) => wA (fun k b => Nat.beq k 24 || (Nat.beq k 25 || (Nat.beq k 14 && Nat.beq b 10))) s r) := by
  unfold wX2_judge
  refine t_bind wX10_isOutside_T (fun t1 ht => t_ite (fun c => ?_) (fun c => t_some wA.refl))
  have h4 : 0 ≤ (s.1 14 10).toInt ∧ (s.1 14 10).toInt < (10 : Int32).toInt := by
    rcases ht with h | h
    · exact h.2
    · rw [h.1] at c; exact absurd c (by decide)
  rw [show (10 : Int32).toInt = 10 from rfl] at h4
  obtain ⟨h0, h1⟩ := h4
  refine t_bind (t_stI (B := fun k b => Nat.beq k 24 || (Nat.beq k 25 || (Nat.beq k 14 && Nat.beq b 10))) (n := 10) h0 (by omega) (fun _ => rfl)) (fun s4 h4 => ?_)
  have f4 : s4.1 14 10 = s.1 14 10 := by rw [h4.2, wupI_n (by omega)]
  refine t_bind (t_stI (B := fun k b => Nat.beq k 24 || (Nat.beq k 25 || (Nat.beq k 14 && Nat.beq b 10))) (n := 10) (by rw [f4]; exact h0) (by rw [f4]; omega) (fun _ => rfl)) (fun s5 h5 => ?_)
  refine t_bind (t_pfI (B := fun k b => Nat.beq k 24 || (Nat.beq k 25 || (Nat.beq k 14 && Nat.beq b 10))) rfl) (fun s6 h6 => ?_)
  exact t_some ((h4.1.trans h5.1).trans h6.1)
theorem wX10_verdict_T {x1 : Int32} {s : wS} : Tot (wX10_verdict x1 s) (fun (r : Int32 × wS) => wA (fun k b => Nat.beq k 24 || (Nat.beq k 25 || (Nat.beq k 14 && Nat.beq b 10))) s r.2) := by
  unfold wX10_verdict
  refine t_ite (fun c => ?_) (fun c => ?_)
  · exact t_bind (t_pfI (B := fun k b => Nat.beq k 24 || (Nat.beq k 25 || (Nat.beq k 14 && Nat.beq b 10))) rfl) (fun s6 h6 => t_some h6.1)
  · refine t_bind (wX0_worlds_T rfl) (fun t3 h3 => ?_)
    refine t_bind wX10_isOutside_T (fun t5 ht => t_ite (fun c => ?_) (fun c => t_some wA.refl))
    refine t_ite (fun c => ?_) (fun c => t_some wA.refl)
    exact t_bind wX2_judge_T (fun s10 h => t_some h)
theorem wX2_becomes_h73_T {B : Nat → Nat → Bool} {k0 k1 : Nat} (hB : ∀ b, B (k0 + 9) b = true) : ∀ (n : Nat) {x2 : Int32} {s : wS}, 0 ≤ x2.toInt → 2147483648 - x2.toInt < (n : Int) → Tot (wX2_becomes_h73 k0 k1 n x2 s) (fun (r : wS) => wA B s r) := by
  intro n
  induction n with
  | zero => intro x2 s hi hm; exact (t_m0 hm).elim
  | succ n ih =>
    intro x2 s hi hm
    rw [wX2_becomes_h73]
    refine t_ite (fun c => ?_) (fun c => t_some wA.refl)
    have h2 := t_lt c
    rw [show (40 : Int32).toInt = 40 from rfl] at h2
    refine t_bind (t_ldI (n := 40) hi (by omega)) (fun t9 h9 => ?_)
    refine t_bind (t_stZ (n := 40) hi (by omega) hB) (fun s10 h10 => ?_)
    exact t_mono (ih (t_n1 c hi) (t_m1 c hm)) (fun r hr => h10.1.trans hr)
theorem wX2_becomes_T {B : Nat → Nat → Bool} {k0 k1 : Nat} {s : wS} (hk0 : wkd k0 = 2) (hk1 : wkd k1 = 2) (hne : k1 ≠ k0) (hB : ∀ o b, o < 12 → B (k0 + o) b = true) : Tot (wX2_becomes k0 k1 s) (fun (r : wS) => wA B s r ∧ r.1 k0 11 = r.1 k1 11) := by
  unfold wX2_becomes
  refine t_bind (wX0_becomes_T (B := B) (wly_2_0 hk0).2.1 (wly_2_0 hk1).2.1 (fun b => hB 2 b (by omega)) (fun b => hB 3 b (by omega)) (fun b => hB 4 b (by omega))) (fun s2 h2 => ?_)
  refine t_bind (t_cpI (B := B) (by decide) (fun b => hB 5 b (by omega))) (fun s4 h4 => ?_)
  refine t_bind (t_cpI (B := B) (by decide) (fun b => hB 6 b (by omega))) (fun s5 h5 => ?_)
  refine t_bind (t_cpI (B := B) (by decide) (fun b => hB 7 b (by omega))) (fun s6 h6 => ?_)
  refine t_bind (t_cpI (B := B) (by decide) (fun b => hB 8 b (by omega))) (fun s7 h7 => ?_)
  refine t_bind (wX2_becomes_h73_T (B := B) (fun b => hB 9 b (by omega)) _ (by decide) t_mi) (fun s12 h12 => ?_)
  refine t_bind (t_pfI (B := B) (hB 0 6 (by omega))) (fun s14 h14 => ?_)
  refine t_bind (t_pfI (B := B) (hB 0 7 (by omega))) (fun s15 h15 => ?_)
  refine t_bind (t_cpI (B := B) (by decide) (fun b => hB 10 b (by omega))) (fun s16 h16 => ?_)
  refine t_bind (t_cpI (B := B) (by decide) (fun b => hB 11 b (by omega))) (fun s17 h17 => ?_)
  refine t_bind (t_pfI (B := B) (hB 0 10 (by omega))) (fun s18 h18 => ?_)
  refine t_bind (t_pfI (B := B) (hB 0 11 (by omega))) (fun s19 h19 => t_some ⟨?_, ?_⟩)
  · exact ((((((((((h2.trans h4.1).trans h5.1).trans h6.1).trans h7.1).trans h12).trans h14.1).trans h15.1).trans h16.1).trans h17.1).trans h18.1).trans h19.1
  · rw [h19.2, wup_same, wupI_n hne]
theorem wX10_image_T {x1 : Int32} {s : wS} : Tot (wX10_image x1 s) (fun (r : Int32 × wS) => (r = (-1, s) ∧ ¬ (0 ≤ x1.toInt ∧ x1.toInt < 4)) ∨ ((0 ≤ x1.toInt ∧ x1.toInt < 4) ∧ wA (fun k _ => Nat.beq k 27 || (Nat.ble (104 + 12 * x1.toNatClampNeg) k && Nat.ble k (115 + 12 * x1.toNatClampNeg))) s r.2 ∧ r.2.1 (104 + 12 * x1.toNatClampNeg) 11 = s.1 14 11 ∧ r.2.1 27 = upd (s.1 27) x1.toNatClampNeg 1)) := by
  unfold wX10_image
  refine t_bind wX10_isOutside_T (fun t1 ht => ?_)
  rw [show (4 : Int32).toInt = 4 from rfl] at ht
  refine t_ite (fun c => ?_) (fun c => t_some (Or.inl ⟨rfl, ?_⟩))
  · have h4 : 0 ≤ x1.toInt ∧ x1.toInt < 4 := by
      rcases ht with h | h
      · exact h.2
      · rw [h.1] at c; exact absurd c (by decide)
    refine t_bind (t_ldR2 h4.1 h4.2) (fun k4 hk4 => ?_)
    refine t_bind (t_ldR2 h4.1 h4.2) (fun k5 hk5 => ?_)
    obtain ⟨hk, rfl⟩ := hk5
    have hl : x1.toNatClampNeg < 4 := by unfold Int32.toNatClampNeg; omega
    generalize hj : x1.toNatClampNeg = j at *
    refine t_bind (wX2_becomes_T (B := fun k _ => Nat.ble (104 + 12 * j) k && Nat.ble k (115 + 12 * j)) hk rfl (by omega) (fun o b ho => by
      rw [Bool.and_eq_true]
      exact ⟨Nat.ble_eq_true_of_le (by omega), Nat.ble_eq_true_of_le (by omega)⟩)) (fun s7 h7 => ?_)
    refine t_bind (t_stZ (B := fun k _ => Nat.beq k 27) (n := 4) h4.1 (by omega) (fun _ => rfl)) (fun s9 h9 => t_some (Or.inr ⟨h4, ?_, ?_, ?_⟩))
    · refine wA.trans (h7.1.mono (fun k b h => ?_)) (h9.1.mono (fun k b h => ?_))
      · rw [h, Bool.or_true]
      · rw [h, Bool.true_or]
    · show s9.1 (104 + 12 * j) 11 = s.1 14 11
      rw [h9.2, wupI_n (by omega), h7.2]
      refine h7.1 14 11 ?_
      have : Nat.ble (104 + 12 * j) 14 = false := by
        cases e : Nat.ble (104 + 12 * j) 14
        · rfl
        · have := Nat.le_of_ble_eq_true e
          omega
      dsimp only
      rw [this, Bool.false_and]
    · show s9.1 27 = upd (s.1 27) j 1
      rw [h9.2, wupI_k, hj]
      have : s7.1 27 = s.1 27 := by
        funext b
        refine h7.1 27 b ?_
        have : Nat.ble (104 + 12 * j) 27 = false := by
          cases e : Nat.ble (104 + 12 * j) 27
          · rfl
          · have := Nat.le_of_ble_eq_true e
            omega
        dsimp only
        rw [this, Bool.false_and]
      rw [this]
      rfl
  · rcases ht with h | h
    · exact absurd h.1 c
    · exact h.2
theorem bR_14 : ∀ b, bR 14 b = false := fun b => by
  unfold bR
  rfl
theorem wX10_back_T {x1 : Int32} {s : wS} : Tot (wX10_back x1 s) (fun (r : Int32 × wS) => (r = (-1, s) ∧ (¬ (0 ≤ x1.toInt ∧ x1.toInt < 4) ∨ s.1 27 x1.toNatClampNeg = 0)) ∨ ((0 ≤ x1.toInt ∧ x1.toInt < 4) ∧ ¬ s.1 27 x1.toNatClampNeg = 0 ∧ wA (fun k b => (Nat.ble 14 k && Nat.ble k 25) || bR k b) s r.2 ∧ r.2.1 14 11 = s.1 (104 + 12 * x1.toNatClampNeg) 11)) := by
  unfold wX10_back
  refine t_bind wX10_isOutside_T (fun t1 ht => ?_)
  rw [show (4 : Int32).toInt = 4 from rfl] at ht
  refine t_ite (fun c => ?_) (fun c => t_some (Or.inl ⟨rfl, ?_⟩))
  · have h4 : 0 ≤ x1.toInt ∧ x1.toInt < 4 := by
      rcases ht with h | h
      · exact h.2
      · rw [h.1] at c; exact absurd c (by decide)
    refine t_bind (t_ldI (n := 4) h4.1 (by omega)) (fun t4 h5 => t_ite (fun c4 => t_some (Or.inl ⟨rfl, Or.inr (by rw [← h5]; exact c4)⟩)) (fun c4 => ?_))
    rw [h5] at c4
    refine t_bind (t_ldR2 h4.1 h4.2) (fun k4 hk4 => ?_)
    refine t_bind (t_ldR2 h4.1 h4.2) (fun k5 hk5 => ?_)
    obtain ⟨hk, rfl⟩ := hk5
    have hl : x1.toNatClampNeg < 4 := by unfold Int32.toNatClampNeg; omega
    generalize hj : x1.toNatClampNeg = j at *
    refine t_bind (wX2_becomes_T (B := fun k _ => Nat.ble 14 k && Nat.ble k 25) rfl hk (by omega) (fun o b ho => by
      rw [Bool.and_eq_true]
      exact ⟨Nat.ble_eq_true_of_le (by omega), Nat.ble_eq_true_of_le (by omega)⟩)) (fun s9 h9 => ?_)
    refine t_bind wX10_courtIsAnother_T (fun s12 h12 => t_some (Or.inr ⟨h4, c4, ?_, ?_⟩))
    · refine wA.trans (h9.1.mono (fun k b h => ?_)) (h12.mono (fun k b h => ?_))
      · rw [h, Bool.true_or]
      · rw [h, Bool.or_true]
    · show s12.1 14 11 = s.1 (104 + 12 * j) 11
      rw [h12 14 11 (bR_14 11), h9.2]
      refine h9.1 _ 11 ?_
      have : Nat.ble (104 + 12 * j) 25 = false := by
        cases e : Nat.ble (104 + 12 * j) 25
        · rfl
        · have := Nat.le_of_ble_eq_true e
          omega
      dsimp only
      rw [this, Bool.and_false]
  · rcases ht with h | h
    · exact absurd h.1 c
    · exact Or.inl h.2
end
