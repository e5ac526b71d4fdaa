/-! That the calls answer: the frame and the rules. -/
/-- it answers, so -/
noncomputable def Tot {α : Type} (x : Option α) (Q : α → Prop) : Prop := ∃ a, x = some a ∧ Q a
theorem t_some {α : Type} {Q : α → Prop} {a : α} (h : Q a) : Tot (some a) Q := ⟨a, rfl, h⟩
theorem t_bind {α β : Type} {x : Option α} {f : α → Option β} {P : α → Prop} {Q : β → Prop} (h : Tot x P) (g : ∀ a, P a → Tot (f a) Q) : Tot (x.bind f) Q := by
  obtain ⟨a, rfl, hp⟩ := h
  exact g a hp
theorem t_ite {α : Type} {c : Prop} [Decidable c] {x y : Option α} {Q : α → Prop} (h : c → Tot x Q) (g : ¬ c → Tot y Q) : Tot (if c then x else y) Q := by
  by_cases e : c
  · rw [if_pos e]; exact h e
  · rw [if_neg e]; exact g e
theorem t_elim {α : Type} {o : Option Nat} {x : Option α} {f : Nat → Option α} {Q : α → Prop} (h : o = none → Tot x Q) (g : ∀ k, o = some k → Tot (f k) Q) : Tot (o.elim x f) Q := by
  cases o with
  | none => exact h rfl
  | some k => exact g k rfl
theorem t_mono {α : Type} {x : Option α} {P Q : α → Prop} (h : Tot x P) (g : ∀ a, P a → Q a) : Tot x Q := by
  obtain ⟨a, e, hp⟩ := h
  exact ⟨a, e, g a hp⟩
/-- only these places of the ints were written -/
noncomputable def wA (B : Nat → Nat → Bool) (s s' : wS) : Prop := ∀ k b, B k b = false → s'.1 k b = s.1 k b
theorem wA.refl {B : Nat → Nat → Bool} {s : wS} : wA B s s := fun _ _ _ => rfl
theorem wA.trans {B : Nat → Nat → Bool} {s t u : wS} (h : wA B s t) (g : wA B t u) : wA B s u := fun k b hb => (g k b hb).trans (h k b hb)
theorem wA.mono {B C : Nat → Nat → Bool} {s t : wS} (h : wA B s t) (hBC : ∀ k b, B k b = true → C k b = true) : wA C s t := fun k b hb => h k b (by
  cases e : B k b
  · rfl
  · rw [hBC k b e] at hb; cases hb)
theorem wA_I {B : Nat → Nat → Bool} {s : wS} {k b : Nat} {v : Int32} (h : B k b = true) : wA B s (wupI s k b v) := by
  intro j c hc
  by_cases hj : j = k
  · subst hj
    rw [wupI_k]
    unfold upd
    by_cases hb : c = b
    · subst hb; rw [h] at hc; cases hc
    · rw [if_neg hb]
  · rw [wupI_n hj]
theorem wA_L {B : Nat → Nat → Bool} {s : wS} {k b : Nat} {v : Int64} : wA B s (wupL s k b v) := fun _ _ _ => rfl
theorem t_ix {i : Int32} {n : Nat} (h0 : 0 ≤ i.toInt) (h1 : i.toInt < n) : ¬ (i < 0 ∨ n ≤ i.toNatClampNeg) := by
  rintro (h | h)
  · rw [Int32.lt_iff_toInt_lt] at h
    have : (0 : Int32).toInt = 0 := rfl
    omega
  · unfold Int32.toNatClampNeg at h
    omega
theorem t_ldI {s : wS} {k n : Nat} {i : Int32} (h0 : 0 ≤ i.toInt) (h1 : i.toInt < n) : Tot (wldI s k n i) (fun v => v = s.1 k i.toNatClampNeg) := by
  refine ⟨_, ?_, rfl⟩
  unfold wldI
  rw [if_neg (t_ix h0 h1)]
theorem t_ldL {s : wS} {k n : Nat} {i : Int32} (h0 : 0 ≤ i.toInt) (h1 : i.toInt < n) : Tot (wldL s k n i) (fun v => v = s.2 k i.toNatClampNeg) := by
  refine ⟨_, ?_, rfl⟩
  unfold wldL
  rw [if_neg (t_ix h0 h1)]
theorem t_stI {B : Nat → Nat → Bool} {s : wS} {k n : Nat} {i v : Int32} (h0 : 0 ≤ i.toInt) (h1 : i.toInt < n) (hB : ∀ b, B k b = true) : Tot (wstI s k n i v) (fun s' => wA B s s' ∧ s' = wupI s k i.toNatClampNeg v) := by
  refine ⟨_, ?_, wA_I (hB _), rfl⟩
  unfold wstI
  rw [if_neg (t_ix h0 h1)]
theorem t_stB {B : Nat → Nat → Bool} {s : wS} {k n : Nat} {i v : Int32} (h0 : 0 ≤ i.toInt) (h1 : i.toInt < n) (hB : ∀ b, B k b = true) : Tot (wstB s k n i v) (fun s' => wA B s s' ∧ s' = wupI s k i.toNatClampNeg (vp_nar .byte v)) := by
  refine ⟨_, ?_, wA_I (hB _), rfl⟩
  unfold wstB
  rw [if_neg (t_ix h0 h1)]
theorem t_stZ {B : Nat → Nat → Bool} {s : wS} {k n : Nat} {i v : Int32} (h0 : 0 ≤ i.toInt) (h1 : i.toInt < n) (hB : ∀ b, B k b = true) : Tot (wstZ s k n i v) (fun s' => wA B s s' ∧ s' = wupI s k i.toNatClampNeg (vp_nar .boolean v)) := by
  refine ⟨_, ?_, wA_I (hB _), rfl⟩
  unfold wstZ
  rw [if_neg (t_ix h0 h1)]
theorem t_stL {B : Nat → Nat → Bool} {s : wS} {k n : Nat} {i : Int32} {v : Int64} (h0 : 0 ≤ i.toInt) (h1 : i.toInt < n) : Tot (wstL s k n i v) (fun s' => wA B s s' ∧ s' = wupL s k i.toNatClampNeg v) := by
  refine ⟨_, ?_, wA_L, rfl⟩
  unfold wstL
  rw [if_neg (t_ix h0 h1)]
theorem t_pfI {B : Nat → Nat → Bool} {s : wS} {k b : Nat} {v : Int32} (hB : B k b = true) : Tot (wpfI s k b v) (fun s' => wA B s s' ∧ s' = wupI s k b v) := ⟨_, rfl, wA_I hB, rfl⟩
theorem t_pfL {B : Nat → Nat → Bool} {s : wS} {k b : Nat} {v : Int64} : Tot (wpfL s k b v) (fun s' => wA B s s' ∧ s' = wupL s k b v) := ⟨_, rfl, wA_L, rfl⟩
theorem t_pfZ {B : Nat → Nat → Bool} {s : wS} {k b : Nat} {v : Int32} (hv : v = 0 ∨ v = 1) (hB : B k b = true) : Tot (wpfZ s k b v) (fun s' => wA B s s' ∧ s' = wupI s k b v) := by
  refine ⟨_, ?_, wA_I hB, rfl⟩
  unfold wpfZ
  rw [if_pos hv]
theorem t_dvI {x y : Int32} (h : y.toInt ≠ 0) : Tot (wdvI x y) (fun v => v = x / y) := by
  refine ⟨_, ?_, rfl⟩
  unfold wdvI
  rw [if_neg (fun e => h (by rw [e]; rfl))]
theorem t_rmI {x y : Int32} (h : y.toInt ≠ 0) : Tot (wrmI x y) (fun v => v = x - x / y * y) := by
  refine ⟨_, ?_, rfl⟩
  unfold wrmI
  rw [if_neg (fun e => h (by rw [e]; rfl))]
theorem t_dvL {x y : Int64} (h : ¬ y = 0) : Tot (wdvL x y) (fun v => v = x / y) := by
  refine ⟨_, ?_, rfl⟩
  unfold wdvL
  rw [if_neg h]
theorem t_rmL {x y : Int64} (h : ¬ y = 0) : Tot (wrmL x y) (fun v => v = x - x / y * y) := by
  refine ⟨_, ?_, rfl⟩
  unfold wrmL
  rw [if_neg h]
theorem t_rtZ {v : Int32} (h : v = 0 ∨ v = 1) : Tot (wrtZ v) (fun r => r = v) := by
  refine ⟨_, ?_, rfl⟩
  unfold wrtZ
  rw [if_pos h]
theorem t_ldR3 {i : Int32} (h0 : 0 ≤ i.toInt) (h1 : i.toInt < 6) : Tot (wldR 13 6 i) (fun k => wkd k = 3 ∧ k = 44 + 10 * i.toNatClampNeg) := by
  have h := t_ix (n := 6) h0 (by omega)
  have e : wldR 13 6 i = some (44 + 10 * i.toNatClampNeg) := by
    unfold wldR
    rw [if_neg h]
    have hl : i.toNatClampNeg < 6 := by unfold Int32.toNatClampNeg; omega
    have z : ∀ j < 6, (wrA 13 j).map Nat.pred = some (44 + 10 * j) := by decide +kernel
    exact z _ hl
  exact ⟨_, e, wldR_3 e, rfl⟩
theorem t_ldR2 {i : Int32} (h0 : 0 ≤ i.toInt) (h1 : i.toInt < 4) : Tot (wldR 26 4 i) (fun k => wkd k = 2 ∧ k = 104 + 12 * i.toNatClampNeg) := by
  have h := t_ix (n := 4) h0 (by omega)
  have e : wldR 26 4 i = some (104 + 12 * i.toNatClampNeg) := by
    unfold wldR
    rw [if_neg h]
    have hl : i.toNatClampNeg < 4 := by unfold Int32.toNatClampNeg; omega
    have z : ∀ j < 4, (wrA 26 j).map Nat.pred = some (104 + 12 * j) := by decide +kernel
    exact z _ hl
  exact ⟨_, e, wldR_2 e, rfl⟩
/-- counters: up to a bound -/
theorem t_m0 {x : Int32} (h : 2147483648 - x.toInt < ((0 : Nat) : Int)) : False := by
  have := Int32.toInt_lt x
  omega
theorem t_inc {x e : Int32} (c : x < e) : (x + 1).toInt = x.toInt + 1 := by
  rw [Int32.lt_iff_toInt_lt] at c
  rw [Int32.toInt_add, show (1 : Int32).toInt = 1 from rfl]
  have := Int32.toInt_lt e
  have := Int32.le_toInt x
  exact Int.bmod_eq_of_le (by omega) (by omega)
theorem t_m1 {x e : Int32} {n : Nat} (c : x < e) (h : 2147483648 - x.toInt < ((n + 1 : Nat) : Int)) : 2147483648 - (x + 1).toInt < (n : Int) := by
  rw [t_inc c]
  omega
theorem t_mi {x : Int32} : 2147483648 - x.toInt < ((wFuel : Nat) : Int) := by
  have := Int32.le_toInt x
  have : ((wFuel : Nat) : Int) = 1099511627776 := rfl
  omega
theorem t_n1 {x e : Int32} (c : x < e) (h : 0 ≤ x.toInt) : 0 ≤ (x + 1).toInt := by
  rw [t_inc c]
  omega
theorem t_lt {x e : Int32} (c : x < e) : x.toInt < e.toInt := Int32.lt_iff_toInt_lt.1 c
theorem t_ge {x e : Int32} (c : ¬ x < e) : e.toInt ≤ x.toInt := Int.not_lt.1 (fun h => c (Int32.lt_iff_toInt_lt.2 h))
theorem t_nq {x e : Int32} (c : ¬ x = e) : x.toInt ≠ e.toInt := fun h => c (Int32.toInt_inj.1 h)
/-- what a query may write -/
noncomputable def bQa (k : Nat) : Bool := (Nat.ble 32 k && Nat.ble k 43) || ((Nat.ble 44 k && Nat.ble k 103 && Nat.beq ((k - 44) % 10) 9) || (Nat.ble 165 k && Nat.ble k 168))
noncomputable def bQ (k b : Nat) : Bool := bQa k || ((Nat.ble 44 k && Nat.ble k 103 && Nat.beq ((k - 44) % 10) 0 && (Nat.beq b 9 || Nat.beq b 12)) || (Nat.beq k 152 && (Nat.beq b 22 || (Nat.ble 27 b && Nat.ble b 29) || (Nat.ble 33 b && Nat.ble b 35))))
/-- what a reading may write -/
noncomputable def bRa (k : Nat) : Bool := (Nat.ble 3 k && Nat.ble k 12) || ((Nat.ble 28 k && Nat.ble k 103) || (Nat.ble 165 k && Nat.ble k 168))
noncomputable def bR (k b : Nat) : Bool := bRa k || (Nat.beq k 152 && (Nat.beq b 22 || (Nat.ble 27 b && Nat.ble b 29) || (Nat.ble 33 b && Nat.ble b 35)))
theorem bQ_le_bR : ∀ k b, bQ k b = true → bR k b = true := by
  intro k b h
  simp only [bQ, bR, bQa, bRa, Bool.or_eq_true, Bool.and_eq_true, Nat.ble_eq, Nat.beq_eq] at *
  omega
theorem bQ_3 {k o : Nat} (hk : wkd k = 3) (ho : Nat.beq o 9 = true) : ∀ b, bQ (k + o) b = true := by
  intro b
  obtain rfl := Nat.eq_of_beq_eq_true ho
  have hl := wlt (k := k) (by omega)
  have : ∀ k < 172, wkd k = 3 → bQa (k + 9) = true := by decide +kernel
  unfold bQ
  rw [this k hl hk]
  rfl
theorem bQ_3_9 {k : Nat} (hk : wkd k = 3) : ∀ b, bQ (k + 9) b = true := bQ_3 hk rfl
theorem bQ_3f {k : Nat} (hk : wkd k = 3) : bQ k 9 = true ∧ bQ k 12 = true := by
  have hl := wlt (k := k) (by omega)
  have : ∀ k < 172, wkd k = 3 → bQ k 9 = true ∧ bQ k 12 = true := by decide +kernel
  exact this k hl hk
theorem bQ_3f9 {k : Nat} (hk : wkd k = 3) : bQ k 9 = true := (bQ_3f hk).1
theorem bQ_3f12 {k : Nat} (hk : wkd k = 3) : bQ k 12 = true := (bQ_3f hk).2
theorem bQ_7a {k : Nat} (hk : wkd k = 7) : bQa k = true ∧ bQa (k + 1) = true := by
  have hl := wlt (k := k) (by omega)
  have : ∀ k < 172, wkd k = 7 → bQa k = true ∧ bQa (k + 1) = true := by decide +kernel
  exact this k hl hk
theorem bQ_7_1 {k : Nat} (hk : wkd k = 7) : ∀ b, bQ (k + 1) b = true := fun b => by
  unfold bQ
  rw [(bQ_7a hk).2]
  rfl
theorem bQ_7f1 {k : Nat} (hk : wkd k = 7) : bQ k 1 = true := by
  unfold bQ
  rw [(bQ_7a hk).1]
  rfl
theorem bR_3a {k : Nat} (hk : wkd k = 3) : ∀ o < 10, bRa (k + o) = true := by
  have hl := wlt (k := k) (by omega)
  have : ∀ k < 172, wkd k = 3 → ∀ o < 10, bRa (k + o) = true := by decide +kernel
  exact this k hl hk
theorem bR_3x {k o : Nat} (hk : wkd k = 3) (ho : Nat.blt o 10 = true) : ∀ b, bR (k + o) b = true := fun b => by
  unfold bR
  rw [bR_3a hk o (Nat.le_of_ble_eq_true ho)]
  rfl
theorem bR_3_1 {k : Nat} (hk : wkd k = 3) : ∀ b, bR (k + 1) b = true := bR_3x hk rfl
theorem bR_3_2 {k : Nat} (hk : wkd k = 3) : ∀ b, bR (k + 2) b = true := bR_3x hk rfl
theorem bR_3_3 {k : Nat} (hk : wkd k = 3) : ∀ b, bR (k + 3) b = true := bR_3x hk rfl
theorem bR_3_4 {k : Nat} (hk : wkd k = 3) : ∀ b, bR (k + 4) b = true := bR_3x hk rfl
theorem bR_3_5 {k : Nat} (hk : wkd k = 3) : ∀ b, bR (k + 5) b = true := bR_3x hk rfl
theorem bR_3_0 {k : Nat} (hk : wkd k = 3) : ∀ b, bR k b = true := bR_3x (o := 0) hk rfl
theorem bR_3f1 {k : Nat} (hk : wkd k = 3) : bR k 1 = true := bR_3_0 hk 1
theorem bR_3f6 {k : Nat} (hk : wkd k = 3) : bR k 6 = true := bR_3_0 hk 6
theorem bR_3f12 {k : Nat} (hk : wkd k = 3) : bR k 12 = true := bR_3_0 hk 12
theorem wln_le {k : Nat} (h : wkd k ≠ 99) : wln k ≤ 2400 := by
  have hl := wlt h
  have : ∀ k < 172, wln k ≤ 2400 := by decide +kernel
  exact this k hl
theorem t_cpI {B : Nat → Nat → Bool} {s : wS} {k n k1 n1 : Nat} {sp dp m : Int32} (h : ¬ sp < 0 ∧ ¬ dp < 0 ∧ ¬ m < 0 ∧ sp.toNatClampNeg + m.toNatClampNeg ≤ n ∧ dp.toNatClampNeg + m.toNatClampNeg ≤ n1) (hB : ∀ b, B k1 b = true) : Tot (wcpI s k n k1 n1 sp dp m) (fun s' => wA B s s' ∧ s' = (fun j => if j = k1 then va_cpy (s.1 k) (s.1 k1) sp.toNatClampNeg dp.toNatClampNeg m.toNatClampNeg else s.1 j, s.2)) := by
  refine ⟨_, ?_, ?_, rfl⟩
  · unfold wcpI
    rw [if_pos h]
  · intro j b hb
    by_cases hj : j = k1
    · subst hj
      rw [hB b] at hb
      cases hb
    · simp only [if_neg hj]
theorem wup_same {s : wS} {k b : Nat} {v : Int32} : (wupI s k b v).1 k b = v := by
  rw [wupI_k]
  unfold upd
  rw [if_pos rfl]
theorem wup_nb {s : wS} {k b c : Nat} {v : Int32} (h : c ≠ b) : (wupI s k b v).1 k c = s.1 k c := by
  rw [wupI_k]
  unfold upd
  rw [if_neg h]
theorem t_sub {x y : Int32} (h : -2147483648 ≤ x.toInt - y.toInt) (g : x.toInt - y.toInt < 2147483648) : (x - y).toInt = x.toInt - y.toInt := by
  rw [Int32.toInt_sub]
  exact Int.bmod_eq_of_le (by omega) (by omega)
theorem t_add {x y : Int32} (h : -2147483648 ≤ x.toInt + y.toInt) (g : x.toInt + y.toInt < 2147483648) : (x + y).toInt = x.toInt + y.toInt := by
  rw [Int32.toInt_add]
  exact Int.bmod_eq_of_le (by omega) (by omega)
theorem t_mul {x y : Int32} (h : -2147483648 ≤ x.toInt * y.toInt) (g : x.toInt * y.toInt < 2147483648) : (x * y).toInt = x.toInt * y.toInt := by
  rw [Int32.toInt_mul]
  exact Int.bmod_eq_of_le (by omega) (by omega)
