section
/-! What keeps the tables right, a step each. -/
/-- if it answers, so -/
noncomputable def PK {α : Type} (x : Option α) (Q : α → Prop) : Prop := ∀ a, x = some a → Q a
theorem pk_none {α : Type} {Q : α → Prop} : PK none Q := fun _ h => by cases h
theorem pk_any {α : Type} {x : Option α} : PK x (fun _ => True) := fun _ _ => trivial
theorem pk_some {α : Type} {Q : α → Prop} {a : α} (h : Q a) : PK (some a) Q := fun b e => by cases e; exact h
theorem pk_bind {α β : Type} {x : Option α} {f : α → Option β} {P : α → Prop} {Q : β → Prop} (h : PK x P) (g : ∀ a, P a → PK (f a) Q) : PK (x.bind f) Q := by
  intro b e
  cases hx : x with
  | none => rw [hx] at e; cases e
  | some a => rw [hx] at e; exact g a (h a hx) b e
theorem pk_ite {α : Type} {c : Prop} [Decidable c] {x y : Option α} {Q : α → Prop} (h : c → PK x Q) (g : ¬ c → PK y Q) : PK (if c then x else y) Q := by
  by_cases e : c
  · rw [if_pos e]; exact h e
  · rw [if_neg e]; exact g e
theorem pk_elim {α : Type} {o : Option Nat} {x : Option α} {f : Nat → Option α} {Q : α → Prop} (h : PK x Q) (g : ∀ k, PK (f k) Q) : PK (o.elim x f) Q := by
  cases o with
  | none => exact h
  | some k => exact g k
theorem PK.get {α : Type} {x : Option α} {Q : α → Prop} {a : α} (h : PK x Q) (e : x = some a) : Q a := h a e
/-- what a question may write, the tables left out -/
noncomputable def bJ (k b : Nat) : Bool := bQ k b && !(Nat.ble 44 k && Nat.ble k 103)
theorem bJ_le : ∀ k b, bJ k b = true → bQ k b = true := by
  intro k b h
  unfold bJ at h
  rw [Bool.and_eq_true] at h
  exact h.1
theorem bJ_mid {k b : Nat} (h1 : 44 ≤ k) (h2 : k ≤ 103) : bJ k b = false := by
  have : (Nat.ble 44 k && Nat.ble k 103) = true := by
    simp only [Bool.and_eq_true, Nat.ble_eq]
    omega
  unfold bJ
  rw [this, Bool.not_true, Bool.and_false]
theorem JB_w {s s' : wS} (a : wA bJ s s') (hL : ∀ k, 44 ≤ k → k ≤ 103 → s'.2 k = s.2 k) (g : JB s) : JB s' := by
  refine ⟨JA_Q (a.mono bJ_le) g.1, TBS_go g.2 (a 152 2 rfl) g.1.1.1.2.1.2 (fun i _ => a 163 i rfl) (fun k h1 h2 => funext fun b => a k b (bJ_mid h1 h2)) (fun k h1 h2 => funext fun b => a k b ?_) hL⟩
  obtain rfl | rfl | rfl | rfl : k = 154 ∨ k = 155 ∨ k = 156 ∨ k = 157 := by omega
  all_goals rfl
theorem JB_I {s : wS} {k b : Nat} {v : Int32} (h : bJ k b = true) (g : JB s) : JB (wupI s k b v) := JB_w (wA_I h) (fun _ _ _ => rfl) g
theorem JB_L {s : wS} {k b : Nat} {v : Int64} (h : k < 44 ∨ 103 < k) (g : JB s) : JB (wupL s k b v) := JB_w wA_L (fun j h1 h2 => if_neg (by omega)) g
theorem pk_stI {s : wS} {k n : Nat} {i v : Int32} (h : ∀ b, bJ k b = true) (g : JB s) : PK (wstI s k n i v) JB := by
  unfold wstI
  exact pk_ite (fun _ => pk_none) (fun _ => pk_some (JB_I (h _) g))
theorem pk_stZ {s : wS} {k n : Nat} {i v : Int32} (h : ∀ b, bJ k b = true) (g : JB s) : PK (wstZ s k n i v) JB := by
  unfold wstZ
  exact pk_ite (fun _ => pk_none) (fun _ => pk_some (JB_I (h _) g))
theorem pk_stL {s : wS} {k n : Nat} {i : Int32} {v : Int64} (h : k < 44 ∨ 103 < k) (g : JB s) : PK (wstL s k n i v) JB := by
  unfold wstL
  exact pk_ite (fun _ => pk_none) (fun _ => pk_some (JB_L h g))
theorem pk_pfI {s : wS} {k b : Nat} {v : Int32} (h : bJ k b = true) (g : JB s) : PK (wpfI s k b v) JB := pk_some (JB_I h g)
theorem wX10_lawInUse_J {x1 : Int32} {s : wS} (g : JB s) : PK (wX10_lawInUse x1 s) (fun r => JB r.2) := by
  rcases lawInUse_E g x1 with ⟨-, e⟩ | ⟨-, l, s2, x, hl6, -, hlc, e, m, lk, t, fl⟩
  · rw [e]
    exact pk_some g
  · rw [e]
    refine pk_some ⟨m.ja hl6 g.1, ?_⟩
    intro l' hl'
    have h2 : s2.1 152 2 = s.1 152 2 := m.1 152 2 (by omega) (by omega)
    dsimp only at hl' ⊢
    rw [h2] at hl'
    have c6 := g.1.1.1.2.1
    by_cases q : l' = l
    · subst q
      exact Or.inr ⟨x, lk, t⟩
    · rcases g.2 l' hl' with z | ⟨y, ly, ty⟩
      · left
        rw [m.1 _ _ (by omega) (by omega)]
        exact z
      · right
        refine ⟨y, LK2_go ly (fun j hj b h9 h12 => m.1 _ _ (by omega) (by omega)) (fun j h1 h2 => funext fun b => m.1 _ _ (by omega) (by omega)) (fun k h1 h2 => funext fun b => m.1 _ _ (by omega) (by omega)), TBL_go ty (fun i _ => m.1 _ _ (by omega) (by omega)) (m.2 _ (by omega) (by omega) (by omega)) (funext fun b => m.1 _ _ (by omega) (by omega))⟩
end
section
/-! The class: a question leaves the tables right. -/
theorem wX10_set_J  {k0 : Nat} {x1 : Int32} {x2 : Int32} {s : wS}  (hk0_0 : ∀ b, bJ (k0) b = true) (g : JB s) : PK (wX10_set k0 x1 x2 s) (fun (r : wS) => JB r) := by
  unfold wX10_set
  refine pk_ite (fun _ => ?_) (fun _ => ?_)
  · exact pk_some g
  · refine pk_ite (fun _ => ?_) (fun _ => ?_)
    · refine pk_bind (pk_stI hk0_0 g) (fun s3 g1 => ?_)
      exact pk_some g1
    · exact pk_some g
theorem wX10_empty_h2_J  {k0 : Nat}  (hk0_0 : ∀ b, bJ (k0) b = true) : ∀ (n : Nat) {x1 : Int32} {s : wS}, JB s → PK (wX10_empty_h2 k0 n x1 s) (fun (r : wS) => JB r) := by
  intro n
  induction n with
  | zero =>
    intro x1 s g
    rw [wX10_empty_h2]
    exact pk_none
  | succ n ih =>
    intro x1 s g
    rw [wX10_empty_h2]
    refine pk_ite (fun _ => ?_) (fun _ => ?_)
    · refine pk_bind (pk_stI hk0_0 g) (fun s2 g1 => ?_)
      exact ih g1
    · exact pk_some g
theorem wX10_empty_J  {k0 : Nat} {s : wS}  (hk0_0 : ∀ b, bJ (k0) b = true) (g : JB s) : PK (wX10_empty k0 s) (fun (r : wS) => JB r) := by
  unfold wX10_empty
  refine pk_bind (wX10_empty_h2_J hk0_0 _ g) (fun s4 g1 => ?_)
  exact pk_some g1
theorem wX6_clear_J  {x1 : Int32} {s : wS}   (g : JB s) : PK (wX6_clear x1 s) (fun (r : wS) => JB r) := by
  unfold wX6_clear
  refine pk_bind (wX10_empty_J (fun _ => rfl) g) (fun s2 g1 => ?_)
  refine pk_bind (wX10_empty_J (fun _ => rfl) g1) (fun s5 g2 => ?_)
  refine pk_bind (pk_pfI rfl g2) (fun s7 g3 => ?_)
  refine pk_bind (pk_pfI rfl g3) (fun s8 g4 => ?_)
  exact pk_some g4
theorem wX6_add_h13_J  {x1 : Int32} {k2 : Nat} {k3 : Nat}   : ∀ (n : Nat) {x5 : Int32} {s : wS}, JB s → PK (wX6_add_h13 x1 k2 k3 n x5 s) (fun (r : wS) => JB r) := by
  intro n
  induction n with
  | zero =>
    intro x5 s g
    rw [wX6_add_h13]
    exact pk_none
  | succ n ih =>
    intro x5 s g
    rw [wX6_add_h13]
    refine pk_ite (fun _ => ?_) (fun _ => ?_)
    · refine pk_ite (fun _ => ?_) (fun _ => ?_)
      · refine pk_bind pk_any (fun t4 _ => ?_)
        refine pk_bind pk_any (fun t6 _ => ?_)
        refine pk_bind pk_any (fun t8 _ => ?_)
        refine pk_bind pk_any (fun t9 _ => ?_)
        refine pk_bind (pk_stI (fun _ => rfl) g) (fun s11 g1 => ?_)
        refine pk_bind pk_any (fun t12 _ => ?_)
        refine pk_bind pk_any (fun t13 _ => ?_)
        refine pk_bind (pk_stI (fun _ => rfl) g1) (fun s15 g2 => ?_)
        exact ih g2
      · exact pk_some g
    · exact pk_some g
theorem wX6_add_j108_J  {s : wS}   (g : JB s) : PK (wX6_add_j108 s) (fun (r : wS) => JB r) := by
  unfold wX6_add_j108
  refine pk_bind (pk_pfI rfl g) (fun s23 g1 => ?_)
  exact pk_some g1
theorem wX6_add_J  {x1 : Int32} {k2 : Nat} {k3 : Nat} {s : wS}   (g : JB s) : PK (wX6_add x1 k2 k3 s) (fun (r : wS) => JB r) := by
  unfold wX6_add
  refine pk_ite (fun _ => ?_) (fun _ => ?_)
  · refine pk_bind (wX6_add_h13_J _ g) (fun s17 g1 => ?_)
    exact wX6_add_j108_J g1
  · exact pk_some g
theorem wX6_pairsForAll_h11_J  {x1 : Int32}   : ∀ (n : Nat) {x2 : Int32} {s : wS}, JB s → PK (wX6_pairsForAll_h11 x1 n x2 s) (fun (r : wS) => JB r) := by
  intro n
  induction n with
  | zero =>
    intro x2 s g
    rw [wX6_pairsForAll_h11]
    exact pk_none
  | succ n ih =>
    intro x2 s g
    rw [wX6_pairsForAll_h11]
    refine pk_ite (fun _ => ?_) (fun _ => ?_)
    · exact pk_some g
    · refine pk_ite (fun _ => ?_) (fun _ => ?_)
      · refine pk_bind pk_any (fun t3 _ => ?_)
        refine pk_bind (pk_stI (fun _ => rfl) g) (fun s5 g1 => ?_)
        exact ih g1
      · exact pk_some g
theorem wX6_pairsForAll_j42_J  {x1 : Int32} {s : wS}   (g : JB s) : PK (wX6_pairsForAll_j42 x1 s) (fun (r : Int32 × wS) => JB r.2) := by
  unfold wX6_pairsForAll_j42
  refine pk_bind pk_any (fun t9 _ => ?_)
  exact pk_some g
theorem wX6_pairsForAll_J  {s : wS}   (g : JB s) : PK (wX6_pairsForAll s) (fun (r : Int32 × wS) => JB r.2) := by
  unfold wX6_pairsForAll
  refine pk_bind (wX6_pairsForAll_h11_J _ g) (fun s7 g1 => ?_)
  exact wX6_pairsForAll_j42_J g1
theorem wX7_clear_J  {k0 : Nat} {s : wS}  (hk0_0 : ∀ b, bJ (k0) b = true) (hk0_1 : ∀ b, bJ (k0 + 1) b = true) (g : JB s) : PK (wX7_clear k0 s) (fun (r : wS) => JB r) := by
  unfold wX7_clear
  refine pk_bind (wX10_empty_J hk0_1 g) (fun s2 g1 => ?_)
  refine pk_bind (pk_pfI (hk0_0 _) g1) (fun s4 g2 => ?_)
  exact pk_some g2
theorem wX7_addOne_J  {k0 : Nat} {x1 : Int32} {s : wS}  (hk0_1 : ∀ b, bJ (k0 + 1) b = true) (g : JB s) : PK (wX7_addOne k0 x1 s) (fun (r : wS) => JB r) := by
  unfold wX7_addOne
  refine pk_bind pk_any (fun t1 _ => ?_)
  refine pk_bind (wX10_set_J hk0_1 g) (fun s4 g1 => ?_)
  exact pk_some g1
theorem wX7_add_J  {k0 : Nat} {x1 : Int32} {x2 : Int32} {x3 : Int32} {s : wS}  (hk0_0 : ∀ b, bJ (k0) b = true) (hk0_1 : ∀ b, bJ (k0 + 1) b = true) (g : JB s) : PK (wX7_add k0 x1 x2 x3 s) (fun (r : wS) => JB r) := by
  unfold wX7_add
  refine pk_bind pk_any (fun t1 _ => ?_)
  refine pk_bind (wX7_addOne_J hk0_1 g) (fun s4 g1 => ?_)
  refine pk_bind pk_any (fun t6 _ => ?_)
  refine pk_bind (wX7_addOne_J hk0_1 g1) (fun s9 g2 => ?_)
  refine pk_bind pk_any (fun t11 _ => ?_)
  refine pk_bind (wX7_addOne_J hk0_1 g2) (fun s14 g3 => ?_)
  refine pk_bind (pk_pfI (hk0_0 _) g3) (fun s16 g4 => ?_)
  exact pk_some g4
theorem wX7_fillWith_j132_J  {k0 : Nat} {x1 : Int32} {x2 : Int32} {x3 : Int32} {x4 : Int32} {x5 : Int32} {k100 : Nat} {y1 : Int32} {y2 : Int32} {s : wS} {qq : Int32 → wS → Option (wS)} (hqq : ∀ (v0 : Int32) (v1 : wS), JB v1 → PK (qq v0 v1) (fun (r : wS) => JB r)) (hk100_0 : ∀ b, bJ (k100) b = true) (g : JB s) : PK (wX7_fillWith_j132 qq k0 x1 x2 x3 x4 x5 k100 y1 y2 s) (fun (r : wS) => JB r) := by
  unfold wX7_fillWith_j132
  refine pk_bind (pk_stI hk100_0 g) (fun s21 g1 => ?_)
  exact hqq _ _ g1
theorem wX7_fillWith_j115_J  {k0 : Nat} {x1 : Int32} {x2 : Int32} {x3 : Int32} {x4 : Int32} {x5 : Int32} {x6 : Int32} {x7 : Int32} {s : wS} {qq : Int32 → wS → Option (wS)} (hqq : ∀ (v0 : Int32) (v1 : wS), JB v1 → PK (qq v0 v1) (fun (r : wS) => JB r)) (hk0_1 : ∀ b, bJ (k0 + 1) b = true) (g : JB s) : PK (wX7_fillWith_j115 qq k0 x1 x2 x3 x4 x5 x6 x7 s) (fun (r : wS) => JB r) := by
  unfold wX7_fillWith_j115
  refine pk_ite (fun _ => ?_) (fun _ => ?_)
  · exact wX7_fillWith_j132_J hqq hk0_1 g
  · exact wX7_fillWith_j132_J hqq hk0_1 g
theorem wX7_fillWith_j98_J  {k0 : Nat} {x1 : Int32} {x2 : Int32} {x3 : Int32} {x4 : Int32} {x5 : Int32} {x6 : Int32} {y0 : Int32} {s : wS} {qq : Int32 → wS → Option (wS)} (hqq : ∀ (v0 : Int32) (v1 : wS), JB v1 → PK (qq v0 v1) (fun (r : wS) => JB r)) (hk0_1 : ∀ b, bJ (k0 + 1) b = true) (g : JB s) : PK (wX7_fillWith_j98 qq k0 x1 x2 x3 x4 x5 x6 y0 s) (fun (r : wS) => JB r) := by
  unfold wX7_fillWith_j98
  refine pk_bind pk_any (fun t17 _ => ?_)
  refine pk_ite (fun _ => ?_) (fun _ => ?_)
  · exact wX7_fillWith_j115_J hqq hk0_1 g
  · exact wX7_fillWith_j115_J hqq hk0_1 g
theorem wX7_fillWith_j75_J  {k0 : Nat} {x1 : Int32} {x2 : Int32} {x3 : Int32} {x4 : Int32} {x5 : Int32} {y0 : Int32} {s : wS} {qq : Int32 → wS → Option (wS)} (hqq : ∀ (v0 : Int32) (v1 : wS), JB v1 → PK (qq v0 v1) (fun (r : wS) => JB r)) (hk0_1 : ∀ b, bJ (k0 + 1) b = true) (g : JB s) : PK (wX7_fillWith_j75 qq k0 x1 x2 x3 x4 x5 y0 s) (fun (r : wS) => JB r) := by
  unfold wX7_fillWith_j75
  refine pk_bind pk_any (fun t14 _ => ?_)
  refine pk_ite (fun _ => ?_) (fun _ => ?_)
  · exact wX7_fillWith_j98_J hqq hk0_1 g
  · exact wX7_fillWith_j98_J hqq hk0_1 g
theorem wX7_fillWith_h53_J  {k0 : Nat} {x1 : Int32} {x2 : Int32} {x3 : Int32} {x4 : Int32}  (hk0_1 : ∀ b, bJ (k0 + 1) b = true) : ∀ (n : Nat) {x5 : Int32} {s : wS}, JB s → PK (wX7_fillWith_h53 k0 x1 x2 x3 x4 n x5 s) (fun (r : wS) => JB r) := by
  intro n
  induction n with
  | zero =>
    intro x5 s g
    rw [wX7_fillWith_h53]
    exact pk_none
  | succ n ih =>
    intro x5 s g
    rw [wX7_fillWith_h53]
    refine pk_ite (fun _ => ?_) (fun _ => ?_)
    · refine pk_ite (fun _ => ?_) (fun _ => ?_)
      · exact wX7_fillWith_j75_J (fun _ _ g => ih g) hk0_1 g
      · exact wX7_fillWith_j75_J (fun _ _ g => ih g) hk0_1 g
    · exact pk_some g
theorem wX7_fillWith_J  {k0 : Nat} {x1 : Int32} {s : wS}  (hk0_0 : ∀ b, bJ (k0) b = true) (hk0_1 : ∀ b, bJ (k0 + 1) b = true) (g : JB s) : PK (wX7_fillWith k0 x1 s) (fun (r : wS) => JB r) := by
  unfold wX7_fillWith
  refine pk_bind pk_any (fun t1 _ => ?_)
  refine pk_bind pk_any (fun t3 _ => ?_)
  refine pk_bind pk_any (fun t5 _ => ?_)
  refine pk_bind pk_any (fun t7 _ => ?_)
  refine pk_bind pk_any (fun t9 _ => ?_)
  refine pk_bind (pk_pfI (hk0_0 _) g) (fun s11 g1 => ?_)
  refine pk_bind (wX7_fillWith_h53_J hk0_1 _ g1) (fun s23 g2 => ?_)
  exact pk_some g2
theorem wX7_keepOnly_J  {k0 : Nat} {x1 : Int32} {x2 : Int32} {s : wS}  (hk0_0 : ∀ b, bJ (k0) b = true) (hk0_1 : ∀ b, bJ (k0 + 1) b = true) (g : JB s) : PK (wX7_keepOnly k0 x1 x2 s) (fun (r : wS) => JB r) := by
  unfold wX7_keepOnly
  refine pk_bind pk_any (fun t10 _ => ?_)
  refine pk_bind (wX7_fillWith_J hk0_0 hk0_1 g) (fun s16 g1 => ?_)
  exact pk_some g1
theorem wX10_far_J  {x1 : Int32} {x2 : Int32} {x3 : Int32} {x4 : Int32} {s : wS}   (g : JB s) : PK (wX10_far x1 x2 x3 x4 s) (fun (r : Int64 × wS) => JB r.2) := by
  unfold wX10_far
  refine pk_bind (wX10_lawInUse_J g) (fun p1 h2 => ?_)
  obtain ⟨o1, s2⟩ := p1
  have g3 : JB s2 := h2
  dsimp only
  refine pk_elim ?_ (fun k4 => ?_)
  · exact pk_some g3
  · refine pk_bind pk_any (fun t5 _ => ?_)
    refine pk_ite (fun _ => ?_) (fun _ => ?_)
    · exact pk_some g3
    · refine pk_bind pk_any (fun t8 _ => ?_)
      refine pk_ite (fun _ => ?_) (fun _ => ?_)
      · exact pk_some g3
      · refine pk_bind pk_any (fun t11 _ => ?_)
        exact pk_some g3
theorem wX10_holds_J  {x1 : Int32} {x2 : Int32} {x3 : Int32} {s : wS}   (g : JB s) : PK (wX10_holds x1 x2 x3 s) (fun (r : Int32 × wS) => JB r.2) := by
  unfold wX10_holds
  refine pk_bind (wX10_lawInUse_J g) (fun p1 h2 => ?_)
  obtain ⟨o1, s2⟩ := p1
  have g3 : JB s2 := h2
  dsimp only
  refine pk_elim ?_ (fun k4 => ?_)
  · exact pk_some g3
  · refine pk_bind pk_any (fun t5 _ => ?_)
    refine pk_ite (fun _ => ?_) (fun _ => ?_)
    · exact pk_some g3
    · refine pk_bind pk_any (fun t8 _ => ?_)
      refine pk_bind pk_any (fun t10 _ => ?_)
      refine pk_ite (fun _ => ?_) (fun _ => ?_)
      · refine pk_bind pk_any (fun t13 _ => ?_)
        refine pk_ite (fun _ => ?_) (fun _ => ?_)
        · exact pk_some g3
        · exact pk_some g3
      · exact pk_some g3
theorem wX10_addFalse_j51_J  {x1 : Int32} {x2 : Int32} {x3 : Int32} {s : wS} {qq : Int32 → wS → Option (wS)} (hqq : ∀ (v0 : Int32) (v1 : wS), JB v1 → PK (qq v0 v1) (fun (r : wS) => JB r)) (g : JB s) : PK (wX10_addFalse_j51 qq x1 x2 x3 s) (fun (r : wS) => JB r) := by
  unfold wX10_addFalse_j51
  exact hqq _ _ g
theorem wX10_addFalse_h2_J  {x1 : Int32} {x2 : Int32}   : ∀ (n : Nat) {x3 : Int32} {s : wS}, JB s → PK (wX10_addFalse_h2 x1 x2 n x3 s) (fun (r : wS) => JB r) := by
  intro n
  induction n with
  | zero =>
    intro x3 s g
    rw [wX10_addFalse_h2]
    exact pk_none
  | succ n ih =>
    intro x3 s g
    rw [wX10_addFalse_h2]
    refine pk_bind pk_any (fun t1 _ => ?_)
    refine pk_ite (fun _ => ?_) (fun _ => ?_)
    · refine pk_ite (fun _ => ?_) (fun _ => ?_)
      · refine pk_bind pk_any (fun t5 _ => ?_)
        refine pk_bind pk_any (fun t7 _ => ?_)
        refine pk_bind pk_any (fun t9 _ => ?_)
        refine pk_bind (wX10_set_J (fun _ => rfl) g) (fun s12 g1 => ?_)
        exact wX10_addFalse_j51_J (fun _ _ g => ih g) g1
      · exact wX10_addFalse_j51_J (fun _ _ g => ih g) g
    · exact pk_some g
theorem wX10_addFalse_J  {x1 : Int32} {x2 : Int32} {s : wS}   (g : JB s) : PK (wX10_addFalse x1 x2 s) (fun (r : wS) => JB r) := by
  unfold wX10_addFalse
  refine pk_bind (wX10_addFalse_h2_J _ g) (fun s15 g1 => ?_)
  exact pk_some g1
theorem wX10_countFalse_j93_J  {k1 : Nat} {x2 : Int32} {x3 : Int32} {x4 : Int32} {x5 : Int32} {s : wS} {qq : Int32 → wS → Option (wS)} (hqq : ∀ (v0 : Int32) (v1 : wS), JB v1 → PK (qq v0 v1) (fun (r : wS) => JB r)) (g : JB s) : PK (wX10_countFalse_j93 qq k1 x2 x3 x4 x5 s) (fun (r : wS) => JB r) := by
  unfold wX10_countFalse_j93
  exact hqq _ _ g
theorem wX10_countFalse_j43_J  {k1 : Nat} {x2 : Int32} {x3 : Int32} {x4 : Int32} {x5 : Int32} {y0 : Int32} {s : wS} {qq : Int32 → wS → Option (wS)} (hqq : ∀ (v0 : Int32) (v1 : wS), JB v1 → PK (qq v0 v1) (fun (r : wS) => JB r)) (g : JB s) : PK (wX10_countFalse_j43 qq k1 x2 x3 x4 x5 y0 s) (fun (r : wS) => JB r) := by
  unfold wX10_countFalse_j43
  refine pk_bind pk_any (fun t6 _ => ?_)
  refine pk_ite (fun _ => ?_) (fun _ => ?_)
  · exact wX10_countFalse_j93_J hqq g
  · refine pk_ite (fun _ => ?_) (fun _ => ?_)
    · exact wX10_countFalse_j93_J hqq g
    · refine pk_ite (fun _ => ?_) (fun _ => ?_)
      · exact wX10_countFalse_j93_J hqq g
      · refine pk_bind pk_any (fun t11 _ => ?_)
        refine pk_bind pk_any (fun t13 _ => ?_)
        refine pk_bind (wX10_addFalse_J g) (fun s16 g1 => ?_)
        exact wX10_countFalse_j93_J hqq g1
theorem wX10_countFalse_j38_J  {k1 : Nat} {x2 : Int32} {x3 : Int32} {x4 : Int32} {x5 : Int32} {s : wS} {qq : Int32 → wS → Option (wS)} (hqq : ∀ (v0 : Int32) (v1 : wS), JB v1 → PK (qq v0 v1) (fun (r : wS) => JB r)) (g : JB s) : PK (wX10_countFalse_j38 qq k1 x2 x3 x4 x5 s) (fun (r : wS) => JB r) := by
  unfold wX10_countFalse_j38
  exact wX10_countFalse_j43_J hqq g
theorem wX10_countFalse_h10_J  {k1 : Nat} {x2 : Int32} {x3 : Int32} {x4 : Int32}   : ∀ (n : Nat) {x5 : Int32} {s : wS}, JB s → PK (wX10_countFalse_h10 k1 x2 x3 x4 n x5 s) (fun (r : wS) => JB r) := by
  intro n
  induction n with
  | zero =>
    intro x5 s g
    rw [wX10_countFalse_h10]
    exact pk_none
  | succ n ih =>
    intro x5 s g
    rw [wX10_countFalse_h10]
    refine pk_ite (fun _ => ?_) (fun _ => ?_)
    · refine pk_ite (fun _ => ?_) (fun _ => ?_)
      · exact wX10_countFalse_j38_J (fun _ _ g => ih g) g
      · refine pk_bind pk_any (fun t18 _ => ?_)
        refine pk_ite (fun _ => ?_) (fun _ => ?_)
        · exact wX10_countFalse_j38_J (fun _ _ g => ih g) g
        · exact wX10_countFalse_j43_J (fun _ _ g => ih g) g
    · exact pk_some g
theorem wX10_countFalse_h172_J  {x6 : Int32} {x7 : Int32} {x8 : Int32}   : ∀ (n : Nat) {x5 : Int32} {x9 : Int32} {s : wS}, JB s → PK (wX10_countFalse_h172 x6 x7 x8 n x5 x9 s) (fun (r : Int32 × wS) => JB r.2) := by
  intro n
  induction n with
  | zero =>
    intro x5 x9 s g
    rw [wX10_countFalse_h172]
    exact pk_none
  | succ n ih =>
    intro x5 x9 s g
    rw [wX10_countFalse_h172]
    refine pk_bind pk_any (fun t46 _ => ?_)
    refine pk_ite (fun _ => ?_) (fun _ => ?_)
    · refine pk_bind pk_any (fun t49 _ => ?_)
      refine pk_bind pk_any (fun t51 _ => ?_)
      refine pk_bind (wX10_set_J (fun _ => rfl) g) (fun s54 g1 => ?_)
      exact ih g1
    · exact pk_some g
theorem wX10_countFalse_h124_J  {x6 : Int32}   : ∀ (n : Nat) {x5 : Int32} {x7 : Int32} {s : wS}, JB s → PK (wX10_countFalse_h124 x6 n x5 x7 s) (fun (r : Int32 × wS) => JB r.2) := by
  intro n
  induction n with
  | zero =>
    intro x5 x7 s g
    rw [wX10_countFalse_h124]
    exact pk_none
  | succ n ih =>
    intro x5 x7 s g
    rw [wX10_countFalse_h124]
    refine pk_bind pk_any (fun t35 _ => ?_)
    refine pk_ite (fun _ => ?_) (fun _ => ?_)
    · refine pk_bind pk_any (fun t38 _ => ?_)
      refine pk_bind pk_any (fun t40 _ => ?_)
      refine pk_bind pk_any (fun t42 _ => ?_)
      refine pk_bind pk_any (fun t44 _ => ?_)
      refine pk_bind (wX10_countFalse_h172_J _ g) (fun p1 h2 => ?_)
      obtain ⟨t57, s58⟩ := p1
      have g3 : JB s58 := h2
      dsimp only
      exact ih g3
    · exact pk_some g
theorem wX10_countFalse_h105_J     : ∀ (n : Nat) {x5 : Int32} {x6 : Int32} {s : wS}, JB s → PK (wX10_countFalse_h105 n x5 x6 s) (fun (r : wS) => JB r) := by
  intro n
  induction n with
  | zero =>
    intro x5 x6 s g
    rw [wX10_countFalse_h105]
    exact pk_none
  | succ n ih =>
    intro x5 x6 s g
    rw [wX10_countFalse_h105]
    refine pk_bind pk_any (fun t32 _ => ?_)
    refine pk_ite (fun _ => ?_) (fun _ => ?_)
    · refine pk_bind (wX10_countFalse_h124_J _ g) (fun p1 h2 => ?_)
      obtain ⟨t66, s67⟩ := p1
      have g3 : JB s67 := h2
      dsimp only
      exact ih g3
    · exact pk_some g
theorem wX10_countFalse_J  {k1 : Nat} {x2 : Int32} {x3 : Int32} {x4 : Int32} {s : wS}   (g : JB s) : PK (wX10_countFalse k1 x2 x3 x4 s) (fun (r : wS) => JB r) := by
  unfold wX10_countFalse
  refine pk_bind (wX10_empty_J (fun _ => rfl) g) (fun s2 g1 => ?_)
  refine pk_bind (wX10_countFalse_h10_J _ g1) (fun s22 g2 => ?_)
  refine pk_bind (wX10_countFalse_h105_J _ g2) (fun s76 g3 => ?_)
  exact pk_some g3
theorem wX10_wrong_J  {x1 : Int32} {x2 : Int32} {s : wS}   (g : JB s) : PK (wX10_wrong x1 x2 s) (fun (r : Int32 × wS) => JB r.2) := by
  unfold wX10_wrong
  refine pk_bind (wX10_lawInUse_J g) (fun p1 h2 => ?_)
  obtain ⟨o1, s2⟩ := p1
  have g3 : JB s2 := h2
  dsimp only
  refine pk_elim ?_ (fun k4 => ?_)
  · exact pk_some g3
  · refine pk_bind pk_any (fun t5 _ => ?_)
    refine pk_bind pk_any (fun t7 _ => ?_)
    refine pk_ite (fun _ => ?_) (fun _ => ?_)
    · refine pk_bind pk_any (fun t10 _ => ?_)
      refine pk_bind (wX10_countFalse_J g3) (fun s13 g4 => ?_)
      refine pk_bind pk_any (fun t15 _ => ?_)
      exact pk_some g4
    · exact pk_some g3
theorem wX10_fillKept_j98_J  {k1 : Nat} {x2 : Int32} {x3 : Int32} {x4 : Int32} {x5 : Int32} {x6 : Int32} {x7 : Int32} {s : wS} {qq : Int32 → Int32 → wS → Option (Int32 × wS)} (hqq : ∀ (v0 : Int32) (v1 : Int32) (v2 : wS), JB v2 → PK (qq v0 v1 v2) (fun (r : Int32 × wS) => JB r.2)) (g : JB s) : PK (wX10_fillKept_j98 qq k1 x2 x3 x4 x5 x6 x7 s) (fun (r : Int32 × wS) => JB r.2) := by
  unfold wX10_fillKept_j98
  exact hqq _ _ _ g
theorem wX10_fillKept_j88_J  {k1 : Nat} {x2 : Int32} {x3 : Int32} {x4 : Int32} {x5 : Int32} {x6 : Int32} {x7 : Int32} {s : wS} {qq : Int32 → Int32 → wS → Option (Int32 × wS)} (hqq : ∀ (v0 : Int32) (v1 : Int32) (v2 : wS), JB v2 → PK (qq v0 v1 v2) (fun (r : Int32 × wS) => JB r.2)) (hk1_0 : ∀ b, bJ (k1) b = true) (hk1_1 : ∀ b, bJ (k1 + 1) b = true) (g : JB s) : PK (wX10_fillKept_j88 qq k1 x2 x3 x4 x5 x6 x7 s) (fun (r : Int32 × wS) => JB r.2) := by
  unfold wX10_fillKept_j88
  refine pk_bind (wX7_add_J hk1_0 hk1_1 g) (fun s18 g1 => ?_)
  exact wX10_fillKept_j98_J hqq g1
theorem wX10_fillKept_h48_J  {k1 : Nat} {x2 : Int32} {x3 : Int32} {x5 : Int32} {x6 : Int32}  (hk1_0 : ∀ b, bJ (k1) b = true) (hk1_1 : ∀ b, bJ (k1 + 1) b = true) : ∀ (n : Nat) {x4 : Int32} {x7 : Int32} {s : wS}, JB s → PK (wX10_fillKept_h48 k1 x2 x3 x5 x6 n x4 x7 s) (fun (r : Int32 × wS) => JB r.2) := by
  intro n
  induction n with
  | zero =>
    intro x4 x7 s g
    rw [wX10_fillKept_h48]
    exact pk_none
  | succ n ih =>
    intro x4 x7 s g
    rw [wX10_fillKept_h48]
    refine pk_bind pk_any (fun t10 _ => ?_)
    refine pk_ite (fun _ => ?_) (fun _ => ?_)
    · refine pk_bind pk_any (fun t13 _ => ?_)
      refine pk_ite (fun _ => ?_) (fun _ => ?_)
      · exact wX10_fillKept_j98_J (fun _ _ _ g => ih g) g
      · refine pk_ite (fun _ => ?_) (fun _ => ?_)
        · exact wX10_fillKept_j88_J (fun _ _ _ g => ih g) hk1_0 hk1_1 g
        · refine pk_ite (fun _ => ?_) (fun _ => ?_)
          · exact wX10_fillKept_j88_J (fun _ _ _ g => ih g) hk1_0 hk1_1 g
          · exact wX10_fillKept_j98_J (fun _ _ _ g => ih g) g
    · exact pk_some g
theorem wX10_fillKept_h29_J  {k1 : Nat} {x2 : Int32} {x3 : Int32} {x5 : Int32}  (hk1_0 : ∀ b, bJ (k1) b = true) (hk1_1 : ∀ b, bJ (k1 + 1) b = true) : ∀ (n : Nat) {x4 : Int32} {x6 : Int32} {s : wS}, JB s → PK (wX10_fillKept_h29 k1 x2 x3 x5 n x4 x6 s) (fun (r : Int32 × wS) => JB r.2) := by
  intro n
  induction n with
  | zero =>
    intro x4 x6 s g
    rw [wX10_fillKept_h29]
    exact pk_none
  | succ n ih =>
    intro x4 x6 s g
    rw [wX10_fillKept_h29]
    refine pk_bind pk_any (fun t7 _ => ?_)
    refine pk_ite (fun _ => ?_) (fun _ => ?_)
    · refine pk_bind (wX10_fillKept_h48_J hk1_0 hk1_1 _ g) (fun p1 h2 => ?_)
      obtain ⟨t22, s23⟩ := p1
      have g3 : JB s23 := h2
      dsimp only
      exact ih g3
    · exact pk_some g
theorem wX10_fillKept_h10_J  {k1 : Nat} {x2 : Int32} {x3 : Int32}  (hk1_0 : ∀ b, bJ (k1) b = true) (hk1_1 : ∀ b, bJ (k1 + 1) b = true) : ∀ (n : Nat) {x4 : Int32} {x5 : Int32} {s : wS}, JB s → PK (wX10_fillKept_h10 k1 x2 x3 n x4 x5 s) (fun (r : wS) => JB r) := by
  intro n
  induction n with
  | zero =>
    intro x4 x5 s g
    rw [wX10_fillKept_h10]
    exact pk_none
  | succ n ih =>
    intro x4 x5 s g
    rw [wX10_fillKept_h10]
    refine pk_bind pk_any (fun t4 _ => ?_)
    refine pk_ite (fun _ => ?_) (fun _ => ?_)
    · refine pk_bind (wX10_fillKept_h29_J hk1_0 hk1_1 _ g) (fun p1 h2 => ?_)
      obtain ⟨t26, s27⟩ := p1
      have g3 : JB s27 := h2
      dsimp only
      exact ih g3
    · exact pk_some g
theorem wX10_fillKept_J  {k1 : Nat} {x2 : Int32} {x3 : Int32} {s : wS}  (hk1_0 : ∀ b, bJ (k1) b = true) (hk1_1 : ∀ b, bJ (k1 + 1) b = true) (g : JB s) : PK (wX10_fillKept k1 x2 x3 s) (fun (r : wS) => JB r) := by
  unfold wX10_fillKept
  refine pk_bind (wX7_clear_J hk1_0 hk1_1 g) (fun s2 g1 => ?_)
  refine pk_bind (wX10_fillKept_h10_J hk1_0 hk1_1 _ g1) (fun s31 g2 => ?_)
  exact pk_some g2
theorem wX10_lawWithKept_J  {x1 : Int32} {x2 : Int32} {s : wS}   (g : JB s) : PK (wX10_lawWithKept x1 x2 s) (fun (r : (Option Nat) × wS) => JB r.2) := by
  unfold wX10_lawWithKept
  refine pk_bind (wX10_lawInUse_J g) (fun p1 h2 => ?_)
  obtain ⟨o1, s2⟩ := p1
  have g3 : JB s2 := h2
  dsimp only
  refine pk_elim ?_ (fun k4 => ?_)
  · exact pk_some g3
  · refine pk_bind pk_any (fun t5 _ => ?_)
    refine pk_ite (fun _ => ?_) (fun _ => ?_)
    · refine pk_bind pk_any (fun t8 _ => ?_)
      refine pk_bind (wX10_countFalse_J g3) (fun s11 g4 => ?_)
      refine pk_bind (wX10_fillKept_J (fun _ => rfl) (fun _ => rfl) g4) (fun s14 g5 => ?_)
      exact pk_some g5
    · exact pk_some g3
theorem wX10_kept_J  {x1 : Int32} {x2 : Int32} {s : wS}   (g : JB s) : PK (wX10_kept x1 x2 s) (fun (r : Int32 × wS) => JB r.2) := by
  unfold wX10_kept
  refine pk_bind (wX10_lawWithKept_J g) (fun p1 h2 => ?_)
  obtain ⟨o1, s2⟩ := p1
  have g3 : JB s2 := h2
  dsimp only
  refine pk_elim ?_ (fun k4 => ?_)
  · exact pk_some g3
  · exact pk_some g3
theorem wX10_world_J  {x1 : Int32} {x2 : Int32} {x3 : Int32} {s : wS}   (g : JB s) : PK (wX10_world x1 x2 x3 s) (fun (r : Int32 × wS) => JB r.2) := by
  unfold wX10_world
  refine pk_bind (wX10_lawWithKept_J g) (fun p1 h2 => ?_)
  obtain ⟨o1, s2⟩ := p1
  have g3 : JB s2 := h2
  dsimp only
  refine pk_elim ?_ (fun k4 => ?_)
  · exact pk_some g3
  · refine pk_bind pk_any (fun z12 h4 => ?_)
    rcases z12 with _u | t19
    · dsimp only
      exact pk_some g3
    · dsimp only
      exact pk_some g3
theorem wX10_may_J  {x1 : Int32} {x2 : Int32} {x3 : Int32} {x4 : Int32} {s : wS}   (g : JB s) : PK (wX10_may x1 x2 x3 x4 s) (fun (r : Int32 × wS) => JB r.2) := by
  unfold wX10_may
  refine pk_bind (wX10_lawWithKept_J g) (fun p1 h2 => ?_)
  obtain ⟨o1, s2⟩ := p1
  have g3 : JB s2 := h2
  dsimp only
  refine pk_elim ?_ (fun k4 => ?_)
  · exact pk_some g3
  · refine pk_bind pk_any (fun t5 _ => ?_)
    refine pk_ite (fun _ => ?_) (fun _ => ?_)
    · exact pk_some g3
    · refine pk_bind pk_any (fun t8 _ => ?_)
      exact pk_some g3
theorem wX10_cleared_J  {x1 : Int32} {x2 : Int32} {s : wS}   (g : JB s) : PK (wX10_cleared x1 x2 s) (fun (r : Int32 × wS) => JB r.2) := by
  unfold wX10_cleared
  refine pk_bind (wX10_lawWithKept_J g) (fun p1 h2 => ?_)
  obtain ⟨o1, s2⟩ := p1
  have g3 : JB s2 := h2
  dsimp only
  refine pk_elim ?_ (fun k4 => ?_)
  · exact pk_some g3
  · refine pk_bind pk_any (fun t5 _ => ?_)
    refine pk_bind pk_any (fun t7 _ => ?_)
    exact pk_some g3
theorem wX10_bestWorld_J  {k1 : Nat} {s : wS}   (g : JB s) : PK (wX10_bestWorld k1 s) (fun (r : Int32 × wS) => JB r.2) := by
  unfold wX10_bestWorld
  refine pk_bind pk_any (fun t1 _ => ?_)
  refine pk_bind (wX10_countFalse_J g) (fun s4 g1 => ?_)
  refine pk_bind pk_any (fun t15 _ => ?_)
  exact pk_some g1
theorem wX10_fewest_J  {x1 : Int32} {x2 : Int32} {s : wS}   (g : JB s) : PK (wX10_fewest x1 x2 s) (fun (r : Int32 × wS) => JB r.2) := by
  unfold wX10_fewest
  refine pk_bind (wX10_lawInUse_J g) (fun p1 h2 => ?_)
  obtain ⟨o1, s2⟩ := p1
  have g3 : JB s2 := h2
  dsimp only
  refine pk_elim ?_ (fun k4 => ?_)
  · exact pk_some g3
  · refine pk_bind pk_any (fun t5 _ => ?_)
    refine pk_ite (fun _ => ?_) (fun _ => ?_)
    · refine pk_bind (wX10_bestWorld_J g3) (fun p4 h5 => ?_)
      obtain ⟨t8, s9⟩ := p4
      have g6 : JB s9 := h5
      dsimp only
      refine pk_bind pk_any (fun t11 _ => ?_)
      refine pk_ite (fun _ => ?_) (fun _ => ?_)
      · exact pk_some g6
      · refine pk_ite (fun _ => ?_) (fun _ => ?_)
        · exact pk_some g6
        · refine pk_bind pk_any (fun t15 _ => ?_)
          exact pk_some g6
    · exact pk_some g3
theorem wX10_falseOnes_J  {x1 : Int32} {s : wS}   (g : JB s) : PK (wX10_falseOnes x1 s) (fun (r : Int64 × wS) => JB r.2) := by
  unfold wX10_falseOnes
  refine pk_bind (wX10_lawInUse_J g) (fun p1 h2 => ?_)
  obtain ⟨o1, s2⟩ := p1
  have g3 : JB s2 := h2
  dsimp only
  refine pk_elim ?_ (fun k4 => ?_)
  · exact pk_some g3
  · refine pk_bind (wX10_bestWorld_J g3) (fun p4 h5 => ?_)
    obtain ⟨t5, s6⟩ := p4
    have g6 : JB s6 := h5
    dsimp only
    refine pk_bind pk_any (fun t18 _ => ?_)
    exact pk_some g6
theorem wX10_markLiars_j132_J  {k1 : Nat} {x2 : Int32} {s : wS} {qq : Int32 → wS → Option (wS)} (hqq : ∀ (v0 : Int32) (v1 : wS), JB v1 → PK (qq v0 v1) (fun (r : wS) => JB r)) (g : JB s) : PK (wX10_markLiars_j132 qq k1 x2 s) (fun (r : wS) => JB r) := by
  unfold wX10_markLiars_j132
  exact hqq _ _ g
theorem wX10_markLiars_j126_J  {k1 : Nat} {x2 : Int32} {x3 : Int32} {x4 : Int32} {x5 : Int32} {s : wS} {qq : Int32 → wS → Option (wS)} (hqq : ∀ (v0 : Int32) (v1 : wS), JB v1 → PK (qq v0 v1) (fun (r : wS) => JB r)) (g : JB s) : PK (wX10_markLiars_j126 qq k1 x2 x3 x4 x5 s) (fun (r : wS) => JB r) := by
  unfold wX10_markLiars_j126
  exact hqq _ _ g
theorem wX10_markLiars_h56_J  {k1 : Nat} {x2 : Int32} {x3 : Int32} {x4 : Int32}   : ∀ (n : Nat) {x5 : Int32} {s : wS}, JB s → PK (wX10_markLiars_h56 k1 x2 x3 x4 n x5 s) (fun (r : wS) => JB r) := by
  intro n
  induction n with
  | zero =>
    intro x5 s g
    rw [wX10_markLiars_h56]
    exact pk_none
  | succ n ih =>
    intro x5 s g
    rw [wX10_markLiars_h56]
    refine pk_bind pk_any (fun t14 _ => ?_)
    refine pk_ite (fun _ => ?_) (fun _ => ?_)
    · refine pk_ite (fun _ => ?_) (fun _ => ?_)
      · refine pk_bind pk_any (fun t18 _ => ?_)
        refine pk_bind pk_any (fun t20 _ => ?_)
        refine pk_bind pk_any (fun t22 _ => ?_)
        refine pk_bind pk_any (fun t24 _ => ?_)
        refine pk_bind (wX10_set_J (fun _ => rfl) g) (fun s27 g1 => ?_)
        exact wX10_markLiars_j126_J (fun _ _ g => ih g) g1
      · exact wX10_markLiars_j126_J (fun _ _ g => ih g) g
    · exact pk_some g
theorem wX10_markLiars_h9_J  {k1 : Nat}   : ∀ (n : Nat) {x2 : Int32} {s : wS}, JB s → PK (wX10_markLiars_h9 k1 n x2 s) (fun (r : wS) => JB r) := by
  intro n
  induction n with
  | zero =>
    intro x2 s g
    rw [wX10_markLiars_h9]
    exact pk_none
  | succ n ih =>
    intro x2 s g
    rw [wX10_markLiars_h9]
    refine pk_ite (fun _ => ?_) (fun _ => ?_)
    · refine pk_bind pk_any (fun t5 _ => ?_)
      refine pk_bind pk_any (fun t7 _ => ?_)
      refine pk_ite (fun _ => ?_) (fun _ => ?_)
      · exact wX10_markLiars_j132_J (fun _ _ g => ih g) g
      · refine pk_bind pk_any (fun t10 _ => ?_)
        refine pk_bind pk_any (fun t12 _ => ?_)
        refine pk_bind (wX10_markLiars_h56_J _ g) (fun s30 g1 => ?_)
        exact wX10_markLiars_j132_J (fun _ _ g => ih g) g1
    · exact pk_some g
theorem wX10_markLiars_J  {k1 : Nat} {s : wS}   (g : JB s) : PK (wX10_markLiars k1 s) (fun (r : wS) => JB r) := by
  unfold wX10_markLiars
  refine pk_bind (wX10_empty_J (fun _ => rfl) g) (fun s2 g1 => ?_)
  refine pk_bind (wX10_markLiars_h9_J _ g1) (fun s36 g2 => ?_)
  exact pk_some g2
theorem wX10_liars_J  {x1 : Int32} {s : wS}   (g : JB s) : PK (wX10_liars x1 s) (fun (r : Int32 × wS) => JB r.2) := by
  unfold wX10_liars
  refine pk_bind (wX10_lawInUse_J g) (fun p1 h2 => ?_)
  obtain ⟨o1, s2⟩ := p1
  have g3 : JB s2 := h2
  dsimp only
  refine pk_elim ?_ (fun k4 => ?_)
  · exact pk_some g3
  · refine pk_bind (wX10_markLiars_J g3) (fun s6 g4 => ?_)
    refine pk_bind pk_any (fun t28 _ => ?_)
    exact pk_some g4
theorem wX10_quarrel_J  {x1 : Int32} {s : wS}   (g : JB s) : PK (wX10_quarrel x1 s) (fun (r : Int32 × wS) => JB r.2) := by
  unfold wX10_quarrel
  refine pk_bind (wX10_lawInUse_J g) (fun p1 h2 => ?_)
  obtain ⟨o1, s2⟩ := p1
  have g3 : JB s2 := h2
  dsimp only
  refine pk_elim ?_ (fun k4 => ?_)
  · exact pk_some g3
  · refine pk_bind pk_any (fun z33 h4 => ?_)
    rcases z33 with _u | ⟨t39, t40⟩
    · dsimp only
      exact pk_some g3
    · dsimp only
      exact pk_some g3
theorem wX10_gatherProof_j51_J  {k1 : Nat} {x2 : Int32} {x3 : Int32} {s : wS} {qq : Int32 → Int32 → wS → Option (Int32 × wS)} (hqq : ∀ (v0 : Int32) (v1 : Int32) (v2 : wS), JB v2 → PK (qq v0 v1 v2) (fun (r : Int32 × wS) => JB r.2)) (g : JB s) : PK (wX10_gatherProof_j51 qq k1 x2 x3 s) (fun (r : Int32 × wS) => JB r.2) := by
  unfold wX10_gatherProof_j51
  exact hqq _ _ _ g
theorem wX10_gatherProof_h4_J  {k1 : Nat}   : ∀ (n : Nat) {x2 : Int32} {x3 : Int32} {s : wS}, JB s → PK (wX10_gatherProof_h4 k1 n x2 x3 s) (fun (r : Int32 × wS) => JB r.2) := by
  intro n
  induction n with
  | zero =>
    intro x2 x3 s g
    rw [wX10_gatherProof_h4]
    exact pk_none
  | succ n ih =>
    intro x2 x3 s g
    rw [wX10_gatherProof_h4]
    refine pk_ite (fun _ => ?_) (fun _ => ?_)
    · refine pk_ite (fun _ => ?_) (fun _ => ?_)
      · refine pk_bind pk_any (fun t3 _ => ?_)
        refine pk_bind pk_any (fun t5 _ => ?_)
        refine pk_ite (fun _ => ?_) (fun _ => ?_)
        · exact wX10_gatherProof_j51_J (fun _ _ _ g => ih g) g
        · refine pk_bind pk_any (fun t8 _ => ?_)
          refine pk_bind (wX10_set_J (fun _ => rfl) g) (fun s11 g1 => ?_)
          exact wX10_gatherProof_j51_J (fun _ _ _ g => ih g) g1
      · exact pk_some g
    · exact pk_some g
theorem wX10_gatherProof_J  {k1 : Nat} {s : wS}   (g : JB s) : PK (wX10_gatherProof k1 s) (fun (r : Int32 × wS) => JB r.2) := by
  unfold wX10_gatherProof
  refine pk_bind (wX10_gatherProof_h4_J _ g) (fun p1 h2 => ?_)
  obtain ⟨t14, s15⟩ := p1
  have g3 : JB s15 := h2
  dsimp only
  exact pk_some g3
theorem wX10_proof_J  {x1 : Int32} {x2 : Int32} {s : wS}   (g : JB s) : PK (wX10_proof x1 x2 s) (fun (r : Int32 × wS) => JB r.2) := by
  unfold wX10_proof
  refine pk_bind (wX10_lawInUse_J g) (fun p1 h2 => ?_)
  obtain ⟨o1, s2⟩ := p1
  have g3 : JB s2 := h2
  dsimp only
  refine pk_elim ?_ (fun k4 => ?_)
  · exact pk_some g3
  · refine pk_bind pk_any (fun t5 _ => ?_)
    refine pk_ite (fun _ => ?_) (fun _ => ?_)
    · exact pk_some g3
    · refine pk_bind (wX10_gatherProof_J g3) (fun p4 h5 => ?_)
      obtain ⟨t8, s9⟩ := p4
      have g6 : JB s9 := h5
      dsimp only
      refine pk_bind pk_any (fun t23 _ => ?_)
      exact pk_some g6
theorem wX10_countKeptBy_j118_J  {x1 : Int32} {x2 : Int32} {x3 : Int32} {s : wS} {qq : Int32 → wS → Option (wS)} (hqq : ∀ (v0 : Int32) (v1 : wS), JB v1 → PK (qq v0 v1) (fun (r : wS) => JB r)) (g : JB s) : PK (wX10_countKeptBy_j118 qq x1 x2 x3 s) (fun (r : wS) => JB r) := by
  unfold wX10_countKeptBy_j118
  exact hqq _ _ g
theorem wX10_countKeptBy_j108_J  {x1 : Int32} {x2 : Int32} {x3 : Int32} {x5 : Int32} {y1 : Int32} {y2 : Int32} {y3 : Int32} {s : wS} {qq : Int32 → wS → Option (wS)} (hqq : ∀ (v0 : Int32) (v1 : wS), JB v1 → PK (qq v0 v1) (fun (r : wS) => JB r)) (g : JB s) : PK (wX10_countKeptBy_j108 qq x1 x2 x3 x5 y1 y2 y3 s) (fun (r : wS) => JB r) := by
  unfold wX10_countKeptBy_j108
  refine pk_bind (wX10_set_J (fun _ => rfl) g) (fun s24 g1 => ?_)
  exact hqq _ _ g1
theorem wX10_countKeptBy_h60_J  {x1 : Int32} {x2 : Int32} {x3 : Int32}   : ∀ (n : Nat) {x5 : Int32} {s : wS}, JB s → PK (wX10_countKeptBy_h60 x1 x2 x3 n x5 s) (fun (r : wS) => JB r) := by
  intro n
  induction n with
  | zero =>
    intro x5 s g
    rw [wX10_countKeptBy_h60]
    exact pk_none
  | succ n ih =>
    intro x5 s g
    rw [wX10_countKeptBy_h60]
    refine pk_bind pk_any (fun t15 _ => ?_)
    refine pk_ite (fun _ => ?_) (fun _ => ?_)
    · refine pk_bind pk_any (fun t18 _ => ?_)
      refine pk_bind pk_any (fun t20 _ => ?_)
      refine pk_ite (fun _ => ?_) (fun _ => ?_)
      · exact wX10_countKeptBy_j108_J (fun _ _ g => ih g) g
      · exact wX10_countKeptBy_j108_J (fun _ _ g => ih g) g
    · exact pk_some g
theorem wX10_countKeptBy_j35_J  {x1 : Int32} {x2 : Int32} {x3 : Int32} {o100 : Option Nat} {s : wS} {qq : Int32 → wS → Option (wS)} (hqq : ∀ (v0 : Int32) (v1 : wS), JB v1 → PK (qq v0 v1) (fun (r : wS) => JB r)) (g : JB s) : PK (wX10_countKeptBy_j35 qq x1 x2 x3 o100 s) (fun (r : wS) => JB r) := by
  unfold wX10_countKeptBy_j35
  refine pk_elim ?_ (fun k9 => ?_)
  · exact wX10_countKeptBy_j118_J hqq g
  · refine pk_bind pk_any (fun t10 _ => ?_)
    refine pk_bind (wX10_countFalse_J g) (fun s13 g1 => ?_)
    refine pk_bind (wX10_countKeptBy_h60_J _ g1) (fun s27 g2 => ?_)
    exact wX10_countKeptBy_j118_J hqq g2
theorem wX10_countKeptBy_h9_J  {x1 : Int32} {x2 : Int32}   : ∀ (n : Nat) {x3 : Int32} {s : wS}, JB s → PK (wX10_countKeptBy_h9 x1 x2 n x3 s) (fun (r : wS) => JB r) := by
  intro n
  induction n with
  | zero =>
    intro x3 s g
    rw [wX10_countKeptBy_h9]
    exact pk_none
  | succ n ih =>
    intro x3 s g
    rw [wX10_countKeptBy_h9]
    refine pk_ite (fun _ => ?_) (fun _ => ?_)
    · refine pk_ite (fun _ => ?_) (fun _ => ?_)
      · refine pk_bind (wX10_lawInUse_J g) (fun p1 h2 => ?_)
        obtain ⟨o6, s7⟩ := p1
        have g3 : JB s7 := h2
        dsimp only
        exact wX10_countKeptBy_j35_J (fun _ _ g => ih g) g3
      · exact wX10_countKeptBy_j35_J (fun _ _ g => ih g) g
    · exact pk_some g
theorem wX10_countKeptBy_J  {x1 : Int32} {x2 : Int32} {s : wS}   (g : JB s) : PK (wX10_countKeptBy x1 x2 s) (fun (r : wS) => JB r) := by
  unfold wX10_countKeptBy
  refine pk_bind (wX10_empty_J (fun _ => rfl) g) (fun s2 g1 => ?_)
  refine pk_bind (wX10_countKeptBy_h9_J _ g1) (fun s31 g2 => ?_)
  exact pk_some g2
theorem wX10_byLaws_j77_J  {y0 : Int32} {s : wS}   (g : JB s) : PK (wX10_byLaws_j77 y0 s) (fun (r : Int32 × wS) => JB r.2) := by
  unfold wX10_byLaws_j77
  refine pk_bind pk_any (fun t25 _ => ?_)
  exact pk_some g
theorem wX10_byLaws_j20_J  {x1 : Int32} {x2 : Int32} {x3 : Int32} {y0 : Int32} {s : wS}   (g : JB s) : PK (wX10_byLaws_j20 x1 x2 x3 y0 s) (fun (r : Int32 × wS) => JB r.2) := by
  unfold wX10_byLaws_j20
  refine pk_ite (fun _ => ?_) (fun _ => ?_)
  · exact pk_some g
  · refine pk_bind pk_any (fun t3 _ => ?_)
    refine pk_ite (fun _ => ?_) (fun _ => ?_)
    · exact pk_some g
    · refine pk_bind pk_any (fun t6 _ => ?_)
      refine pk_ite (fun _ => ?_) (fun _ => ?_)
      · refine pk_bind pk_any (fun t9 _ => ?_)
        refine pk_ite (fun _ => ?_) (fun _ => ?_)
        · refine pk_bind (wX10_countKeptBy_J g) (fun s13 g1 => ?_)
          refine pk_ite (fun _ => ?_) (fun _ => ?_)
          · refine pk_bind pk_any (fun t16 _ => ?_)
            exact wX10_byLaws_j77_J g1
          · exact wX10_byLaws_j77_J g1
        · exact pk_some g
      · exact pk_some g
theorem wX10_byLaws_j19_J  {x1 : Int32} {x2 : Int32} {x3 : Int32} {s : wS}   (g : JB s) : PK (wX10_byLaws_j19 x1 x2 x3 s) (fun (r : Int32 × wS) => JB r.2) := by
  unfold wX10_byLaws_j19
  exact wX10_byLaws_j20_J g
theorem wX10_byLaws_J  {x1 : Int32} {x2 : Int32} {x3 : Int32} {s : wS}   (g : JB s) : PK (wX10_byLaws x1 x2 x3 s) (fun (r : Int32 × wS) => JB r.2) := by
  unfold wX10_byLaws
  refine pk_ite (fun _ => ?_) (fun _ => ?_)
  · exact wX10_byLaws_j19_J g
  · refine pk_ite (fun _ => ?_) (fun _ => ?_)
    · exact wX10_byLaws_j20_J g
    · exact wX10_byLaws_j19_J g
theorem wX10_looks_J  {x1 : Int32} {x2 : Int32} {x3 : Int32} {s : wS}   (g : JB s) : PK (wX10_looks x1 x2 x3 s) (fun (r : Int32 × wS) => JB r.2) := by
  unfold wX10_looks
  refine pk_bind (wX10_lawWithKept_J g) (fun p1 h2 => ?_)
  obtain ⟨o1, s2⟩ := p1
  have g3 : JB s2 := h2
  dsimp only
  refine pk_elim ?_ (fun k4 => ?_)
  · exact pk_some g3
  · refine pk_bind pk_any (fun t5 _ => ?_)
    refine pk_ite (fun _ => ?_) (fun _ => ?_)
    · exact pk_some g3
    · refine pk_bind pk_any (fun t8 _ => ?_)
      refine pk_bind pk_any (fun t10 _ => ?_)
      refine pk_bind pk_any (fun t12 _ => ?_)
      exact pk_some g3
theorem wX10_sure_J  {x1 : Int32} {x2 : Int32} {x3 : Int32} {s : wS}   (g : JB s) : PK (wX10_sure x1 x2 x3 s) (fun (r : Int32 × wS) => JB r.2) := by
  unfold wX10_sure
  refine pk_bind (wX10_lawWithKept_J g) (fun p1 h2 => ?_)
  obtain ⟨o1, s2⟩ := p1
  have g3 : JB s2 := h2
  dsimp only
  refine pk_elim ?_ (fun k4 => ?_)
  · exact pk_some g3
  · refine pk_bind pk_any (fun t5 _ => ?_)
    refine pk_ite (fun _ => ?_) (fun _ => ?_)
    · refine pk_bind pk_any (fun t8 _ => ?_)
      refine pk_bind pk_any (fun t10 _ => ?_)
      refine pk_ite (fun _ => ?_) (fun _ => ?_)
      · refine pk_bind pk_any (fun t13 _ => ?_)
        exact pk_some g3
      · exact pk_some g3
    · exact pk_some g3
theorem wX10_alone_J  {x1 : Int32} {x2 : Int32} {s : wS}   (g : JB s) : PK (wX10_alone x1 x2 s) (fun (r : Int32 × wS) => JB r.2) := by
  unfold wX10_alone
  refine pk_bind (wX10_lawInUse_J g) (fun p1 h2 => ?_)
  obtain ⟨o1, s2⟩ := p1
  have g3 : JB s2 := h2
  dsimp only
  refine pk_elim ?_ (fun k4 => ?_)
  · exact pk_some g3
  · refine pk_bind pk_any (fun t5 _ => ?_)
    refine pk_ite (fun _ => ?_) (fun _ => ?_)
    · refine pk_bind pk_any (fun t8 _ => ?_)
      refine pk_bind (wX10_countFalse_J g3) (fun s11 g4 => ?_)
      refine pk_bind pk_any (fun t13 _ => ?_)
      exact pk_some g4
    · exact pk_some g3
theorem wX10_mean_J  {x1 : Int32} {x2 : Int32} {x3 : Int32} {s : wS}   (g : JB s) : PK (wX10_mean x1 x2 x3 s) (fun (r : Int32 × wS) => JB r.2) := by
  unfold wX10_mean
  refine pk_bind (wX10_lawWithKept_J g) (fun p1 h2 => ?_)
  obtain ⟨o1, s2⟩ := p1
  have g3 : JB s2 := h2
  dsimp only
  refine pk_elim ?_ (fun k4 => ?_)
  · exact pk_some g3
  · refine pk_bind pk_any (fun t5 _ => ?_)
    refine pk_ite (fun _ => ?_) (fun _ => ?_)
    · refine pk_ite (fun _ => ?_) (fun _ => ?_)
      · refine pk_bind pk_any (fun t20 _ => ?_)
        refine pk_bind pk_any (fun t27 _ => ?_)
        exact pk_some g3
      · exact pk_some g3
    · exact pk_some g3
theorem wX10_filled_J  {x1 : Int32} {x2 : Int32} {x3 : Int32} {s : wS}   (g : JB s) : PK (wX10_filled x1 x2 x3 s) (fun (r : Int32 × wS) => JB r.2) := by
  unfold wX10_filled
  refine pk_bind (wX10_lawInUse_J g) (fun p1 h2 => ?_)
  obtain ⟨o1, s2⟩ := p1
  have g3 : JB s2 := h2
  dsimp only
  refine pk_elim ?_ (fun k4 => ?_)
  · exact pk_some g3
  · refine pk_bind pk_any (fun t5 _ => ?_)
    refine pk_ite (fun _ => ?_) (fun _ => ?_)
    · refine pk_bind pk_any (fun t8 _ => ?_)
      refine pk_ite (fun _ => ?_) (fun _ => ?_)
      · exact pk_some g3
      · refine pk_bind pk_any (fun t11 _ => ?_)
        refine pk_bind (wX10_countFalse_J g3) (fun s14 g4 => ?_)
        refine pk_bind (wX10_fillKept_J (fun _ => rfl) (fun _ => rfl) g4) (fun s17 g5 => ?_)
        refine pk_bind pk_any (fun t19 _ => ?_)
        refine pk_bind pk_any (fun t21 _ => ?_)
        refine pk_bind pk_any (fun t23 _ => ?_)
        refine pk_bind pk_any (fun t38 _ => ?_)
        exact pk_some g5
    · exact pk_some g3
theorem wX10_useful_J  {x1 : Int32} {x2 : Int32} {x3 : Int32} {s : wS}   (g : JB s) : PK (wX10_useful x1 x2 x3 s) (fun (r : Int32 × wS) => JB r.2) := by
  unfold wX10_useful
  refine pk_bind (wX10_lawWithKept_J g) (fun p1 h2 => ?_)
  obtain ⟨o1, s2⟩ := p1
  have g3 : JB s2 := h2
  dsimp only
  refine pk_elim ?_ (fun k4 => ?_)
  · exact pk_some g3
  · refine pk_bind pk_any (fun t5 _ => ?_)
    refine pk_ite (fun _ => ?_) (fun _ => ?_)
    · refine pk_ite (fun _ => ?_) (fun _ => ?_)
      · refine pk_bind pk_any (fun t9 _ => ?_)
        exact pk_some g3
      · refine pk_bind pk_any (fun t11 _ => ?_)
        exact pk_some g3
    · exact pk_some g3
theorem wX10_next_J  {x1 : Int32} {x2 : Int32} {x3 : Int32} {x4 : Int32} {s : wS}   (g : JB s) : PK (wX10_next x1 x2 x3 x4 s) (fun (r : Int32 × wS) => JB r.2) := by
  unfold wX10_next
  refine pk_bind pk_any (fun t1 _ => ?_)
  refine pk_ite (fun _ => ?_) (fun _ => ?_)
  · refine pk_bind pk_any (fun t4 _ => ?_)
    refine pk_ite (fun _ => ?_) (fun _ => ?_)
    · refine pk_bind (wX10_lawWithKept_J g) (fun p1 h2 => ?_)
      obtain ⟨o7, s8⟩ := p1
      have g3 : JB s8 := h2
      dsimp only
      refine pk_elim ?_ (fun k10 => ?_)
      · exact pk_some g3
      · refine pk_bind pk_any (fun t11 _ => ?_)
        refine pk_ite (fun _ => ?_) (fun _ => ?_)
        · exact pk_some g3
        · refine pk_bind pk_any (fun t14 _ => ?_)
          refine pk_bind pk_any (fun t16 _ => ?_)
          refine pk_bind pk_any (fun t18 _ => ?_)
          exact pk_some g3
    · exact pk_some g
  · exact pk_some g
theorem wX10_needed_j106_J  {x2 : Int32} {k3 : Nat} {x4 : Int32} {s : wS} {qq : Int32 → wS → Option (wS)} (hqq : ∀ (v0 : Int32) (v1 : wS), JB v1 → PK (qq v0 v1) (fun (r : wS) => JB r)) (g : JB s) : PK (wX10_needed_j106 qq x2 k3 x4 s) (fun (r : wS) => JB r) := by
  unfold wX10_needed_j106
  exact hqq _ _ g
theorem wX10_needed_h57_J  {x2 : Int32} {k3 : Nat}   : ∀ (n : Nat) {x4 : Int32} {s : wS}, JB s → PK (wX10_needed_h57 x2 k3 n x4 s) (fun (r : wS) => JB r) := by
  intro n
  induction n with
  | zero =>
    intro x4 s g
    rw [wX10_needed_h57]
    exact pk_none
  | succ n ih =>
    intro x4 s g
    rw [wX10_needed_h57]
    refine pk_bind pk_any (fun t10 _ => ?_)
    refine pk_ite (fun _ => ?_) (fun _ => ?_)
    · refine pk_bind pk_any (fun t13 _ => ?_)
      refine pk_ite (fun _ => ?_) (fun _ => ?_)
      · exact wX10_needed_j106_J (fun _ _ g => ih g) g
      · refine pk_bind (wX6_add_J g) (fun s17 g1 => ?_)
        exact wX10_needed_j106_J (fun _ _ g => ih g) g1
    · exact pk_some g
theorem wX10_needed_J  {x1 : Int32} {x2 : Int32} {s : wS}   (g : JB s) : PK (wX10_needed x1 x2 s) (fun (r : Int32 × wS) => JB r.2) := by
  unfold wX10_needed
  refine pk_bind (wX10_lawWithKept_J g) (fun p1 h2 => ?_)
  obtain ⟨o1, s2⟩ := p1
  have g3 : JB s2 := h2
  dsimp only
  refine pk_elim ?_ (fun k4 => ?_)
  · exact pk_some g3
  · refine pk_ite (fun _ => ?_) (fun _ => ?_)
    · exact pk_some g3
    · refine pk_ite (fun _ => ?_) (fun _ => ?_)
      · exact pk_some g3
      · refine pk_bind (wX6_clear_J g3) (fun s8 g4 => ?_)
        refine pk_bind (wX10_needed_h57_J _ g4) (fun s20 g5 => ?_)
        refine pk_bind (wX6_pairsForAll_J g5) (fun p6 h7 => ?_)
        obtain ⟨t25, s26⟩ := p6
        have g8 : JB s26 := h7
        dsimp only
        refine pk_ite (fun _ => ?_) (fun _ => ?_)
        · exact pk_some g8
        · exact pk_some g8
theorem wX10_steered_J  {x1 : Int32} {x2 : Int32} {x3 : Int32} {x4 : Int32} {x5 : Int32} {s : wS}   (g : JB s) : PK (wX10_steered x1 x2 x3 x4 x5 s) (fun (r : Int32 × wS) => JB r.2) := by
  unfold wX10_steered
  refine pk_bind (wX10_lawWithKept_J g) (fun p1 h2 => ?_)
  obtain ⟨o1, s2⟩ := p1
  have g3 : JB s2 := h2
  dsimp only
  refine pk_elim ?_ (fun k4 => ?_)
  · exact pk_some g3
  · refine pk_bind pk_any (fun t5 _ => ?_)
    refine pk_bind pk_any (fun t7 _ => ?_)
    refine pk_ite (fun _ => ?_) (fun _ => ?_)
    · refine pk_bind pk_any (fun t10 _ => ?_)
      refine pk_ite (fun _ => ?_) (fun _ => ?_)
      · exact pk_some g3
      · refine pk_bind pk_any (fun t13 _ => ?_)
        refine pk_ite (fun _ => ?_) (fun _ => ?_)
        · refine pk_bind (wX10_fillKept_J (fun _ => rfl) (fun _ => rfl) g3) (fun s17 g4 => ?_)
          refine pk_bind pk_any (fun p5 h6 => ?_)
          obtain ⟨t28, t29, t30⟩ := p5
          dsimp only
          refine pk_ite (fun _ => ?_) (fun _ => ?_)
          · exact pk_some g4
          · refine pk_bind pk_any (fun t40 _ => ?_)
            exact pk_some g4
        · exact pk_some g3
    · exact pk_some g3
theorem wX10_trial_h19_J  {k1 : Nat} {x2 : Int32}   : ∀ (n : Nat) {x3 : Int32} {s : wS}, JB s → PK (wX10_trial_h19 k1 x2 n x3 s) (Sum.elim (fun (r : Int32 × wS) => JB r.2) (fun (r : Int32 × wS) => JB r.2)) := by
  intro n
  induction n with
  | zero =>
    intro x3 s g
    rw [wX10_trial_h19]
    exact pk_none
  | succ n ih =>
    intro x3 s g
    rw [wX10_trial_h19]
    refine pk_ite (fun _ => ?_) (fun _ => ?_)
    · refine pk_ite (fun _ => ?_) (fun _ => ?_)
      · refine pk_bind pk_any (fun t8 _ => ?_)
        refine pk_ite (fun _ => ?_) (fun _ => ?_)
        · exact pk_some g
        · refine pk_bind pk_any (fun t11 _ => ?_)
          refine pk_ite (fun _ => ?_) (fun _ => ?_)
          · refine pk_bind pk_any (fun t14 _ => ?_)
            refine pk_bind pk_any (fun t16 _ => ?_)
            refine pk_bind (wX7_keepOnly_J (fun _ => rfl) (fun _ => rfl) g) (fun s19 g1 => ?_)
            exact ih g1
          · exact pk_some g
      · exact pk_some g
    · exact pk_some g
theorem wX10_trial_J  {k1 : Nat} {x2 : Int32} {s : wS}   (g : JB s) : PK (wX10_trial k1 x2 s) (fun (r : Int32 × wS) => JB r.2) := by
  unfold wX10_trial
  refine pk_bind pk_any (fun t1 _ => ?_)
  refine pk_bind (wX7_fillWith_J (fun _ => rfl) (fun _ => rfl) g) (fun s4 g1 => ?_)
  refine pk_bind (wX10_trial_h19_J _ g1) (fun z21 h2 => ?_)
  rcases z21 with ⟨t22, s23⟩ | ⟨t28, s29⟩
  · have g3 : JB s23 := h2
    dsimp only
    exact pk_some g3
  · have g4 : JB s29 := h2
    dsimp only
    exact pk_some g4
theorem wX10_trials_j130_J  {x2 : Int32} {x3 : Int32} {k4 : Nat} {x5 : Int32} {x6 : Int32} {x7 : Int32} {x8 : Int32} {x9 : Int32} {x10 : Int32} {s : wS} {qq : Int32 → Int32 → Int32 → Int32 → Int32 → wS → Option (Int32 × Int32 × Int32 × wS)} (hqq : ∀ (v0 : Int32) (v1 : Int32) (v2 : Int32) (v3 : Int32) (v4 : Int32) (v5 : wS), JB v5 → PK (qq v0 v1 v2 v3 v4 v5) (fun (r : Int32 × Int32 × Int32 × wS) => JB r.2.2.2)) (g : JB s) : PK (wX10_trials_j130 qq x2 x3 k4 x5 x6 x7 x8 x9 x10 s) (fun (r : Int32 × Int32 × Int32 × wS) => JB r.2.2.2) := by
  unfold wX10_trials_j130
  exact hqq _ _ _ _ _ _ g
theorem wX10_trials_h71_J  {x2 : Int32} {x3 : Int32} {k4 : Nat} {x5 : Int32}   : ∀ (n : Nat) {x6 : Int32} {x7 : Int32} {x8 : Int32} {x9 : Int32} {x10 : Int32} {s : wS}, JB s → PK (wX10_trials_h71 x2 x3 k4 x5 n x6 x7 x8 x9 x10 s) (fun (r : Int32 × Int32 × Int32 × wS) => JB r.2.2.2) := by
  intro n
  induction n with
  | zero =>
    intro x6 x7 x8 x9 x10 s g
    rw [wX10_trials_h71]
    exact pk_none
  | succ n ih =>
    intro x6 x7 x8 x9 x10 s g
    rw [wX10_trials_h71]
    refine pk_ite (fun _ => ?_) (fun _ => ?_)
    · refine pk_bind pk_any (fun t14 _ => ?_)
      refine pk_bind pk_any (fun t16 _ => ?_)
      refine pk_bind (wX10_trial_J g) (fun p1 h2 => ?_)
      obtain ⟨t17, s18⟩ := p1
      have g3 : JB s18 := h2
      dsimp only
      refine pk_ite (fun _ => ?_) (fun _ => ?_)
      · exact wX10_trials_j130_J (fun _ _ _ _ _ _ g => ih g) g3
      · exact wX10_trials_j130_J (fun _ _ _ _ _ _ g => ih g) g3
    · exact pk_some g
theorem wX10_trials_J  {x1 : Int32} {x2 : Int32} {x3 : Int32} {s : wS}   (g : JB s) : PK (wX10_trials x1 x2 x3 s) (fun (r : Int32 × wS) => JB r.2) := by
  unfold wX10_trials
  refine pk_bind (wX10_lawInUse_J g) (fun p1 h2 => ?_)
  obtain ⟨o1, s2⟩ := p1
  have g3 : JB s2 := h2
  dsimp only
  refine pk_bind pk_any (fun t4 _ => ?_)
  refine pk_elim ?_ (fun k6 => ?_)
  · exact pk_some g3
  · refine pk_ite (fun _ => ?_) (fun _ => ?_)
    · refine pk_ite (fun _ => ?_) (fun _ => ?_)
      · exact pk_some g3
      · refine pk_ite (fun _ => ?_) (fun _ => ?_)
        · exact pk_some g3
        · refine pk_bind pk_any (fun t10 _ => ?_)
          refine pk_ite (fun _ => ?_) (fun _ => ?_)
          · refine pk_bind (wX10_trials_h71_J _ g3) (fun p4 h5 => ?_)
            obtain ⟨t22, t23, t24, s25⟩ := p4
            have g6 : JB s25 := h5
            dsimp only
            refine pk_ite (fun _ => ?_) (fun _ => ?_)
            · exact pk_some g6
            · refine pk_ite (fun _ => ?_) (fun _ => ?_)
              · exact pk_some g6
              · exact pk_some g6
          · exact pk_some g3
    · exact pk_some g3
theorem wX10_old_j96_J  {x2 : Int32} {x4 : Int32} {x6 : Int32} {y0 : Int32} {s : wS}   (g : JB s) : PK (wX10_old_j96 x2 x4 x6 y0 s) (fun (r : Int32 × wS) => JB r.2) := by
  unfold wX10_old_j96
  refine pk_ite (fun _ => ?_) (fun _ => ?_)
  · exact pk_some g
  · refine pk_ite (fun _ => ?_) (fun _ => ?_)
    · refine pk_bind pk_any (fun t26 _ => ?_)
      exact pk_some g
    · exact pk_some g
theorem wX10_old_J  {x1 : Int32} {x2 : Int32} {x3 : Int32} {x4 : Int32} {s : wS}   (g : JB s) : PK (wX10_old x1 x2 x3 x4 s) (fun (r : Int32 × wS) => JB r.2) := by
  unfold wX10_old
  refine pk_bind (wX10_lawInUse_J g) (fun p1 h2 => ?_)
  obtain ⟨o1, s2⟩ := p1
  have g3 : JB s2 := h2
  dsimp only
  refine pk_elim ?_ (fun k4 => ?_)
  · exact pk_some g3
  · refine pk_bind pk_any (fun t5 _ => ?_)
    refine pk_ite (fun _ => ?_) (fun _ => ?_)
    · refine pk_bind pk_any (fun t8 _ => ?_)
      refine pk_ite (fun _ => ?_) (fun _ => ?_)
      · refine pk_bind pk_any (fun t11 _ => ?_)
        refine pk_ite (fun _ => ?_) (fun _ => ?_)
        · refine pk_bind pk_any (fun t14 _ => ?_)
          refine pk_bind (wX10_countFalse_J g3) (fun s17 g4 => ?_)
          refine pk_bind pk_any (fun t19 _ => ?_)
          refine pk_bind pk_any (fun t21 _ => ?_)
          refine pk_ite (fun _ => ?_) (fun _ => ?_)
          · exact wX10_old_j96_J g4
          · exact wX10_old_j96_J g4
        · exact pk_some g3
      · exact pk_some g3
    · exact pk_some g3
end
section
/-! The reference: a question leaves the tables right. -/
theorem wX11_push_J  {x1 : Int64} {s : wS}   (g : JB s) : PK (wX11_push x1 s) (fun (r : wS) => JB r) := by
  unfold wX11_push
  refine pk_bind (pk_stL (by decide) g) (fun s1 g1 => ?_)
  refine pk_bind (pk_pfI rfl g1) (fun s2 g2 => ?_)
  exact pk_some g2
theorem wX11_pop_J  {s : wS}   (g : JB s) : PK (wX11_pop s) (fun (r : Int64 × wS) => JB r.2) := by
  unfold wX11_pop
  refine pk_bind (pk_pfI rfl g) (fun s1 g1 => ?_)
  refine pk_bind pk_any (fun t2 _ => ?_)
  exact pk_some g1
theorem wX11_reckons_j129_J  {x1 : Int32} {x3 : Int32} {x4 : Int32} {s : wS} {qq : Int32 → wS → Option (wS)} (hqq : ∀ (v0 : Int32) (v1 : wS), JB v1 → PK (qq v0 v1) (fun (r : wS) => JB r)) (g : JB s) : PK (wX11_reckons_j129 qq x1 x3 x4 s) (fun (r : wS) => JB r) := by
  unfold wX11_reckons_j129
  exact hqq _ _ g
theorem wX11_reckons_h8_J  {x1 : Int32} {x3 : Int32}   : ∀ (n : Nat) {x4 : Int32} {s : wS}, JB s → PK (wX11_reckons_h8 x1 x3 n x4 s) (fun (r : wS) => JB r) := by
  intro n
  induction n with
  | zero =>
    intro x4 s g
    rw [wX11_reckons_h8]
    exact pk_none
  | succ n ih =>
    intro x4 s g
    rw [wX11_reckons_h8]
    refine pk_ite (fun _ => ?_) (fun _ => ?_)
    · refine pk_bind pk_any (fun t3 _ => ?_)
      refine pk_bind pk_any (fun t4 _ => ?_)
      refine pk_ite (fun _ => ?_) (fun _ => ?_)
      · refine pk_bind (wX11_push_J g) (fun s7 g1 => ?_)
        exact wX11_reckons_j129_J (fun _ _ g => ih g) g1
      · refine pk_ite (fun _ => ?_) (fun _ => ?_)
        · refine pk_bind pk_any (fun t10 _ => ?_)
          refine pk_bind (wX11_push_J g) (fun s12 g2 => ?_)
          exact wX11_reckons_j129_J (fun _ _ g => ih g) g2
        · refine pk_ite (fun _ => ?_) (fun _ => ?_)
          · refine pk_bind (wX11_pop_J g) (fun p3 h4 => ?_)
            obtain ⟨t15, s16⟩ := p3
            have g5 : JB s16 := h4
            dsimp only
            refine pk_bind (wX11_push_J g5) (fun s19 g6 => ?_)
            exact wX11_reckons_j129_J (fun _ _ g => ih g) g6
          · refine pk_bind (wX11_pop_J g) (fun p7 h8 => ?_)
            obtain ⟨t21, s22⟩ := p7
            have g9 : JB s22 := h8
            dsimp only
            refine pk_bind (wX11_pop_J g9) (fun p10 h11 => ?_)
            obtain ⟨t24, s25⟩ := p10
            have g12 : JB s25 := h11
            dsimp only
            refine pk_bind pk_any (fun t27 _ => ?_)
            refine pk_bind (wX11_push_J g12) (fun s30 g13 => ?_)
            exact wX11_reckons_j129_J (fun _ _ g => ih g) g13
    · exact pk_some g
theorem wX11_reckons_J  {x1 : Int32} {x2 : Int32} {x3 : Int32} {s : wS}   (g : JB s) : PK (wX11_reckons x1 x2 x3 s) (fun (r : Int64 × wS) => JB r.2) := by
  unfold wX11_reckons
  refine pk_bind (pk_pfI rfl g) (fun s1 g1 => ?_)
  refine pk_bind (wX11_reckons_h8_J _ g1) (fun s33 g2 => ?_)
  refine pk_bind (wX11_pop_J g2) (fun p3 h4 => ?_)
  obtain ⟨t44, s45⟩ := p3
  have g5 : JB s45 := h4
  dsimp only
  exact pk_some g5
theorem wX11_words_h3_J  {x1 : Int32} {x2 : Int32} {x3 : Int32}   : ∀ (n : Nat) {x4 : Int32} {s : wS}, JB s → PK (wX11_words_h3 x1 x2 x3 n x4 s) (fun (r : wS) => JB r) := by
  intro n
  induction n with
  | zero =>
    intro x4 s g
    rw [wX11_words_h3]
    exact pk_none
  | succ n ih =>
    intro x4 s g
    rw [wX11_words_h3]
    refine pk_ite (fun _ => ?_) (fun _ => ?_)
    · refine pk_bind (pk_stL (by decide) g) (fun s2 g1 => ?_)
      exact ih g1
    · exact pk_some g
theorem wX11_words_j221_J  {y1 : Int32} {y2 : Int64} {s : wS}   (g : JB s) : PK (wX11_words_j221 y1 y2 s) (fun (r : wS) => JB r) := by
  unfold wX11_words_j221
  refine pk_bind (pk_stL (by decide) g) (fun s33 g1 => ?_)
  exact pk_some g1
theorem wX11_words_j125_J  {x1 : Int32} {x2 : Int32} {x3 : Int32} {s : wS}   (g : JB s) : PK (wX11_words_j125 x1 x2 x3 s) (fun (r : wS) => JB r) := by
  unfold wX11_words_j125
  refine pk_ite (fun _ => ?_) (fun _ => ?_)
  · refine pk_bind pk_any (fun t23 _ => ?_)
    refine pk_bind (pk_stL (by decide) g) (fun s24 g1 => ?_)
    refine pk_bind pk_any (fun t25 _ => ?_)
    refine pk_bind pk_any (fun t26 _ => ?_)
    refine pk_bind pk_any (fun t27 _ => ?_)
    refine pk_bind (pk_stL (by decide) g1) (fun s29 g2 => ?_)
    refine pk_bind pk_any (fun t30 _ => ?_)
    refine pk_bind pk_any (fun t31 _ => ?_)
    refine pk_ite (fun _ => ?_) (fun _ => ?_)
    · exact wX11_words_j221_J g2
    · exact wX11_words_j221_J g2
  · exact pk_some g
theorem wX11_words_J  {x1 : Int32} {x2 : Int32} {x3 : Int32} {s : wS}   (g : JB s) : PK (wX11_words x1 x2 x3 s) (fun (r : wS) => JB r) := by
  unfold wX11_words
  refine pk_bind (wX11_words_h3_J _ g) (fun s4 g1 => ?_)
  refine pk_bind (pk_stL (by decide) g1) (fun s6 g2 => ?_)
  refine pk_bind (pk_stL (by decide) g2) (fun s7 g3 => ?_)
  refine pk_bind pk_any (fun t8 _ => ?_)
  refine pk_bind (pk_stL (by decide) g3) (fun s10 g4 => ?_)
  refine pk_ite (fun _ => ?_) (fun _ => ?_)
  · refine pk_bind pk_any (fun t12 _ => ?_)
    refine pk_bind pk_any (fun t13 _ => ?_)
    refine pk_bind pk_any (fun t14 _ => ?_)
    refine pk_bind (pk_stL (by decide) g4) (fun s16 g5 => ?_)
    refine pk_bind pk_any (fun t17 _ => ?_)
    refine pk_bind pk_any (fun t18 _ => ?_)
    refine pk_bind pk_any (fun t19 _ => ?_)
    refine pk_bind (pk_stL (by decide) g5) (fun s21 g6 => ?_)
    exact wX11_words_j125_J g6
  · exact wX11_words_j125_J g4
theorem wX11_farBy_j111_J  {x1 : Int32} {x2 : Int32} {x5 : Int32} {s : wS} {qq : Int32 → wS → Option ((wS) ⊕ (Int32 × wS))} (hqq : ∀ (v0 : Int32) (v1 : wS), JB v1 → PK (qq v0 v1) (Sum.elim (fun (r : wS) => JB r) (fun (r : Int32 × wS) => JB r.2))) (g : JB s) : PK (wX11_farBy_j111 qq x1 x2 x5 s) (Sum.elim (fun (r : wS) => JB r) (fun (r : Int32 × wS) => JB r.2)) := by
  unfold wX11_farBy_j111
  exact hqq _ _ g
theorem wX11_farBy_h11_J  {x1 : Int32} {x2 : Int32}   : ∀ (n : Nat) {x5 : Int32} {s : wS}, JB s → PK (wX11_farBy_h11 x1 x2 n x5 s) (Sum.elim (fun (r : wS) => JB r) (fun (r : Int32 × wS) => JB r.2)) := by
  intro n
  induction n with
  | zero =>
    intro x5 s g
    rw [wX11_farBy_h11]
    exact pk_none
  | succ n ih =>
    intro x5 s g
    rw [wX11_farBy_h11]
    refine pk_bind pk_any (fun t4 _ => ?_)
    refine pk_ite (fun _ => ?_) (fun _ => ?_)
    · refine pk_bind pk_any (fun t6 _ => ?_)
      refine pk_ite (fun _ => ?_) (fun _ => ?_)
      · refine pk_bind pk_any (fun t8 _ => ?_)
        refine pk_ite (fun _ => ?_) (fun _ => ?_)
        · exact pk_some g
        · refine pk_bind pk_any (fun t10 _ => ?_)
          refine pk_bind pk_any (fun t11 _ => ?_)
          refine pk_bind (wX11_reckons_J g) (fun p1 h2 => ?_)
          obtain ⟨t12, s13⟩ := p1
          have g3 : JB s13 := h2
          dsimp only
          refine pk_ite (fun _ => ?_) (fun _ => ?_)
          · exact wX11_farBy_j111_J (fun _ _ g => ih g) g3
          · exact pk_some g3
      · exact wX11_farBy_j111_J (fun _ _ g => ih g) g
    · exact pk_some g
theorem wX11_farBy_j87_J  {x1 : Int32} {x6 : Int32} {s : wS}   (g : JB s) : PK (wX11_farBy_j87 x1 x6 s) (fun (r : Int64 × wS) => JB r.2) := by
  unfold wX11_farBy_j87
  refine pk_bind pk_any (fun t31 _ => ?_)
  refine pk_bind pk_any (fun t32 _ => ?_)
  refine pk_bind (wX11_reckons_J g) (fun p1 h2 => ?_)
  obtain ⟨t33, s34⟩ := p1
  have g3 : JB s34 := h2
  dsimp only
  exact pk_some g3
theorem wX11_farBy_J  {x1 : Int32} {x2 : Int32} {x3 : Int32} {x4 : Int32} {s : wS}   (g : JB s) : PK (wX11_farBy x1 x2 x3 x4 s) (fun (r : Int64 × wS) => JB r.2) := by
  unfold wX11_farBy
  refine pk_bind (wX11_words_J g) (fun s2 g1 => ?_)
  refine pk_bind (wX11_farBy_h11_J _ g1) (fun z16 h2 => ?_)
  rcases z16 with s17 | ⟨t25, s26⟩
  · have g3 : JB s17 := h2
    dsimp only
    exact pk_some g3
  · have g4 : JB s26 := h2
    dsimp only
    exact wX11_farBy_j87_J g4
theorem wX11_far_J  {x1 : Int32} {x2 : Int32} {x3 : Int32} {x4 : Int32} {s : wS}   (g : JB s) : PK (wX11_far x1 x2 x3 x4 s) (fun (r : Int64 × wS) => JB r.2) := by
  unfold wX11_far
  refine pk_bind pk_any (fun t1 _ => ?_)
  refine pk_ite (fun _ => ?_) (fun _ => ?_)
  · exact pk_some g
  · refine pk_bind pk_any (fun t4 _ => ?_)
    refine pk_ite (fun _ => ?_) (fun _ => ?_)
    · exact pk_some g
    · refine pk_bind pk_any (fun t7 _ => ?_)
      refine pk_ite (fun _ => ?_) (fun _ => ?_)
      · exact pk_some g
      · refine pk_bind (wX11_farBy_J g) (fun p1 h2 => ?_)
        obtain ⟨t10, s11⟩ := p1
        have g3 : JB s11 := h2
        dsimp only
        exact pk_some g3
theorem wX11_reaches_h22_J  {x1 : Int32} {x2 : Int32} {x3 : Int32}   : ∀ (n : Nat) {x4 : Int32} {s : wS}, JB s → PK (wX11_reaches_h22 x1 x2 x3 n x4 s) (fun (r : wS) => JB r) := by
  intro n
  induction n with
  | zero =>
    intro x4 s g
    rw [wX11_reaches_h22]
    exact pk_none
  | succ n ih =>
    intro x4 s g
    rw [wX11_reaches_h22]
    refine pk_bind pk_any (fun t4 _ => ?_)
    refine pk_ite (fun _ => ?_) (fun _ => ?_)
    · refine pk_bind (wX11_farBy_J g) (fun p1 h2 => ?_)
      obtain ⟨t6, s7⟩ := p1
      have g3 : JB s7 := h2
      dsimp only
      refine pk_bind (pk_stL (by decide) g3) (fun s9 g4 => ?_)
      exact ih g4
    · exact pk_some g
theorem wX11_reaches_h9_J  {x1 : Int32} {x2 : Int32}   : ∀ (n : Nat) {x3 : Int32} {s : wS}, JB s → PK (wX11_reaches_h9 x1 x2 n x3 s) (fun (r : wS) => JB r) := by
  intro n
  induction n with
  | zero =>
    intro x3 s g
    rw [wX11_reaches_h9]
    exact pk_none
  | succ n ih =>
    intro x3 s g
    rw [wX11_reaches_h9]
    refine pk_bind pk_any (fun t2 _ => ?_)
    refine pk_ite (fun _ => ?_) (fun _ => ?_)
    · refine pk_bind (wX11_reaches_h22_J _ g) (fun s11 g1 => ?_)
      exact ih g1
    · exact pk_some g
theorem wX11_reaches_h2_J  {x1 : Int32}   : ∀ (n : Nat) {x2 : Int32} {s : wS}, JB s → PK (wX11_reaches_h2 x1 n x2 s) (fun (r : wS) => JB r) := by
  intro n
  induction n with
  | zero =>
    intro x2 s g
    rw [wX11_reaches_h2]
    exact pk_none
  | succ n ih =>
    intro x2 s g
    rw [wX11_reaches_h2]
    refine pk_ite (fun _ => ?_) (fun _ => ?_)
    · refine pk_bind (wX11_reaches_h9_J _ g) (fun s14 g1 => ?_)
      exact ih g1
    · exact pk_some g
theorem wX11_reaches_J  {x1 : Int32} {s : wS}   (g : JB s) : PK (wX11_reaches x1 s) (fun (r : wS) => JB r) := by
  unfold wX11_reaches
  refine pk_bind (wX11_reaches_h2_J _ g) (fun s18 g1 => ?_)
  exact pk_some g1
theorem wX11_keeps_j60_J  {x2 : Int32} {x3 : Int32} {x5 : Int32} {y0 : Int32} {y1 : Int32} {s : wS} {qq : Int32 → Int32 → wS → Option (Int32 × wS)} (hqq : ∀ (v0 : Int32) (v1 : Int32) (v2 : wS), JB v2 → PK (qq v0 v1 v2) (fun (r : Int32 × wS) => JB r.2)) (g : JB s) : PK (wX11_keeps_j60 qq x2 x3 x5 y0 y1 s) (fun (r : Int32 × wS) => JB r.2) := by
  unfold wX11_keeps_j60
  exact hqq _ _ _ g
theorem wX11_keeps_j42_J  {x2 : Int32} {x3 : Int32} {x4 : Int32} {x5 : Int32} {y1 : Int32} {y2 : Int32} {s : wS} {qq : Int32 → Int32 → wS → Option (Int32 × wS)} (hqq : ∀ (v0 : Int32) (v1 : Int32) (v2 : wS), JB v2 → PK (qq v0 v1 v2) (fun (r : Int32 × wS) => JB r.2)) (g : JB s) : PK (wX11_keeps_j42 qq x2 x3 x4 x5 y1 y2 s) (fun (r : Int32 × wS) => JB r.2) := by
  unfold wX11_keeps_j42
  refine pk_bind (pk_stZ (fun _ => rfl) g) (fun s10 g1 => ?_)
  refine pk_bind pk_any (fun t11 _ => ?_)
  refine pk_ite (fun _ => ?_) (fun _ => ?_)
  · exact wX11_keeps_j60_J hqq g1
  · exact wX11_keeps_j60_J hqq g1
theorem wX11_keeps_h11_J  {x2 : Int32} {x3 : Int32}   : ∀ (n : Nat) {x4 : Int32} {x5 : Int32} {s : wS}, JB s → PK (wX11_keeps_h11 x2 x3 n x4 x5 s) (fun (r : Int32 × wS) => JB r.2) := by
  intro n
  induction n with
  | zero =>
    intro x4 x5 s g
    rw [wX11_keeps_h11]
    exact pk_none
  | succ n ih =>
    intro x4 x5 s g
    rw [wX11_keeps_h11]
    refine pk_bind pk_any (fun t4 _ => ?_)
    refine pk_ite (fun _ => ?_) (fun _ => ?_)
    · refine pk_bind pk_any (fun t7 _ => ?_)
      refine pk_ite (fun _ => ?_) (fun _ => ?_)
      · exact wX11_keeps_j42_J (fun _ _ _ g => ih g) g
      · exact wX11_keeps_j42_J (fun _ _ _ g => ih g) g
    · exact pk_some g
theorem wX11_keeps_J  {x1 : Int32} {x2 : Int32} {x3 : Int32} {s : wS}   (g : JB s) : PK (wX11_keeps x1 x2 x3 s) (fun (r : Int32 × wS) => JB r.2) := by
  unfold wX11_keeps
  refine pk_bind (wX11_reaches_J g) (fun s2 g1 => ?_)
  refine pk_bind (wX11_keeps_h11_J _ g1) (fun p2 h3 => ?_)
  obtain ⟨t14, s15⟩ := p2
  have g4 : JB s15 := h3
  dsimp only
  exact pk_some g4
theorem wX11_holds_J  {x1 : Int32} {x2 : Int32} {x3 : Int32} {s : wS}   (g : JB s) : PK (wX11_holds x1 x2 x3 s) (fun (r : Int32 × wS) => JB r.2) := by
  unfold wX11_holds
  refine pk_bind pk_any (fun t1 _ => ?_)
  refine pk_ite (fun _ => ?_) (fun _ => ?_)
  · exact pk_some g
  · refine pk_bind pk_any (fun t4 _ => ?_)
    refine pk_ite (fun _ => ?_) (fun _ => ?_)
    · exact pk_some g
    · refine pk_bind pk_any (fun t7 _ => ?_)
      refine pk_ite (fun _ => ?_) (fun _ => ?_)
      · exact pk_some g
      · refine pk_bind (wX11_reaches_J g) (fun s11 g1 => ?_)
        refine pk_bind pk_any (fun t13 _ => ?_)
        refine pk_ite (fun _ => ?_) (fun _ => ?_)
        · exact pk_some g1
        · exact pk_some g1
theorem wX11_wrong_J  {x1 : Int32} {x2 : Int32} {s : wS}   (g : JB s) : PK (wX11_wrong x1 x2 s) (fun (r : Int32 × wS) => JB r.2) := by
  unfold wX11_wrong
  refine pk_bind pk_any (fun t1 _ => ?_)
  refine pk_ite (fun _ => ?_) (fun _ => ?_)
  · exact pk_some g
  · refine pk_bind pk_any (fun t4 _ => ?_)
    refine pk_ite (fun _ => ?_) (fun _ => ?_)
    · exact pk_some g
    · refine pk_bind (wX11_reaches_J g) (fun s8 g1 => ?_)
      refine pk_bind pk_any (fun t10 _ => ?_)
      exact pk_some g1
theorem wX11_kept_J  {x1 : Int32} {x2 : Int32} {s : wS}   (g : JB s) : PK (wX11_kept x1 x2 s) (fun (r : Int32 × wS) => JB r.2) := by
  unfold wX11_kept
  refine pk_bind pk_any (fun t1 _ => ?_)
  refine pk_ite (fun _ => ?_) (fun _ => ?_)
  · exact pk_some g
  · refine pk_bind pk_any (fun t4 _ => ?_)
    refine pk_ite (fun _ => ?_) (fun _ => ?_)
    · exact pk_some g
    · refine pk_bind (wX11_keeps_J g) (fun p1 h2 => ?_)
      obtain ⟨t7, s8⟩ := p1
      have g3 : JB s8 := h2
      dsimp only
      exact pk_some g3
theorem wX11_world_J  {x1 : Int32} {x2 : Int32} {x3 : Int32} {s : wS}   (g : JB s) : PK (wX11_world x1 x2 x3 s) (fun (r : Int32 × wS) => JB r.2) := by
  unfold wX11_world
  refine pk_bind pk_any (fun t1 _ => ?_)
  refine pk_ite (fun _ => ?_) (fun _ => ?_)
  · exact pk_some g
  · refine pk_bind pk_any (fun t4 _ => ?_)
    refine pk_ite (fun _ => ?_) (fun _ => ?_)
    · exact pk_some g
    · refine pk_ite (fun _ => ?_) (fun _ => ?_)
      · exact pk_some g
      · refine pk_bind (wX11_keeps_J g) (fun p1 h2 => ?_)
        obtain ⟨t8, s9⟩ := p1
        have g3 : JB s9 := h2
        dsimp only
        refine pk_bind pk_any (fun z17 h4 => ?_)
        rcases z17 with _u | t23
        · dsimp only
          exact pk_some g3
        · dsimp only
          exact pk_some g3
theorem wX11_may_J  {x1 : Int32} {x2 : Int32} {x3 : Int32} {x4 : Int32} {s : wS}   (g : JB s) : PK (wX11_may x1 x2 x3 x4 s) (fun (r : Int32 × wS) => JB r.2) := by
  unfold wX11_may
  refine pk_bind pk_any (fun t1 _ => ?_)
  refine pk_ite (fun _ => ?_) (fun _ => ?_)
  · exact pk_some g
  · refine pk_bind pk_any (fun t4 _ => ?_)
    refine pk_ite (fun _ => ?_) (fun _ => ?_)
    · exact pk_some g
    · refine pk_bind pk_any (fun t7 _ => ?_)
      refine pk_ite (fun _ => ?_) (fun _ => ?_)
      · exact pk_some g
      · refine pk_bind (wX11_keeps_J g) (fun p1 h2 => ?_)
        obtain ⟨t10, s11⟩ := p1
        have g3 : JB s11 := h2
        dsimp only
        refine pk_bind pk_any (fun t13 _ => ?_)
        exact pk_some g3
theorem wX11_cleared_J  {x1 : Int32} {x2 : Int32} {s : wS}   (g : JB s) : PK (wX11_cleared x1 x2 s) (fun (r : Int32 × wS) => JB r.2) := by
  unfold wX11_cleared
  refine pk_bind pk_any (fun t1 _ => ?_)
  refine pk_ite (fun _ => ?_) (fun _ => ?_)
  · exact pk_some g
  · refine pk_bind pk_any (fun t4 _ => ?_)
    refine pk_ite (fun _ => ?_) (fun _ => ?_)
    · exact pk_some g
    · refine pk_bind (wX11_keeps_J g) (fun p1 h2 => ?_)
      obtain ⟨t7, s8⟩ := p1
      have g3 : JB s8 := h2
      dsimp only
      refine pk_bind pk_any (fun t16 _ => ?_)
      exact pk_some g3
theorem wX11_finds_j85_J  {x2 : Int32} {y1 : Int32} {y2 : Int32} {s : wS} {qq : Int32 → wS → Option (wS)} (hqq : ∀ (v0 : Int32) (v1 : wS), JB v1 → PK (qq v0 v1) (fun (r : wS) => JB r)) (g : JB s) : PK (wX11_finds_j85 qq x2 y1 y2 s) (fun (r : wS) => JB r) := by
  unfold wX11_finds_j85
  refine pk_bind (pk_pfI rfl g) (fun s17 g1 => ?_)
  exact hqq _ _ g1
theorem wX11_finds_j67_J  {x2 : Int32} {x3 : Int32} {s : wS} {qq : Int32 → wS → Option (wS)} (hqq : ∀ (v0 : Int32) (v1 : wS), JB v1 → PK (qq v0 v1) (fun (r : wS) => JB r)) (g : JB s) : PK (wX11_finds_j67 qq x2 x3 s) (fun (r : wS) => JB r) := by
  unfold wX11_finds_j67
  refine pk_ite (fun _ => ?_) (fun _ => ?_)
  · exact wX11_finds_j85_J hqq g
  · exact wX11_finds_j85_J hqq g
theorem wX11_finds_j52_J  {x2 : Int32} {x3 : Int32} {s : wS} {qq : Int32 → wS → Option (wS)} (hqq : ∀ (v0 : Int32) (v1 : wS), JB v1 → PK (qq v0 v1) (fun (r : wS) => JB r)) (g : JB s) : PK (wX11_finds_j52 qq x2 x3 s) (fun (r : wS) => JB r) := by
  unfold wX11_finds_j52
  refine pk_bind (pk_pfI rfl g) (fun s13 g1 => ?_)
  refine pk_bind (pk_pfI rfl g1) (fun s14 g2 => ?_)
  refine pk_bind (pk_pfI rfl g2) (fun s15 g3 => ?_)
  exact wX11_finds_j67_J hqq g3
theorem wX11_finds_h22_J     : ∀ (n : Nat) {x2 : Int32} {s : wS}, JB s → PK (wX11_finds_h22 n x2 s) (fun (r : wS) => JB r) := by
  intro n
  induction n with
  | zero =>
    intro x2 s g
    rw [wX11_finds_h22]
    exact pk_none
  | succ n ih =>
    intro x2 s g
    rw [wX11_finds_h22]
    refine pk_bind pk_any (fun t7 _ => ?_)
    refine pk_ite (fun _ => ?_) (fun _ => ?_)
    · refine pk_bind pk_any (fun t10 _ => ?_)
      refine pk_ite (fun _ => ?_) (fun _ => ?_)
      · exact wX11_finds_j52_J (fun _ _ g => ih g) g
      · refine pk_ite (fun _ => ?_) (fun _ => ?_)
        · exact wX11_finds_j52_J (fun _ _ g => ih g) g
        · exact wX11_finds_j67_J (fun _ _ g => ih g) g
    · exact pk_some g
theorem wX11_finds_J  {x1 : Int32} {s : wS}   (g : JB s) : PK (wX11_finds x1 s) (fun (r : wS) => JB r) := by
  unfold wX11_finds
  refine pk_bind (wX11_reaches_J g) (fun s2 g1 => ?_)
  refine pk_bind (pk_pfI rfl g1) (fun s4 g2 => ?_)
  refine pk_bind (pk_pfI rfl g2) (fun s5 g3 => ?_)
  refine pk_bind (pk_pfI rfl g3) (fun s6 g4 => ?_)
  refine pk_bind (wX11_finds_h22_J _ g4) (fun s20 g5 => ?_)
  exact pk_some g5
theorem wX11_fewest_J  {x1 : Int32} {x2 : Int32} {s : wS}   (g : JB s) : PK (wX11_fewest x1 x2 s) (fun (r : Int32 × wS) => JB r.2) := by
  unfold wX11_fewest
  refine pk_bind pk_any (fun t1 _ => ?_)
  refine pk_ite (fun _ => ?_) (fun _ => ?_)
  · exact pk_some g
  · refine pk_bind pk_any (fun t4 _ => ?_)
    refine pk_ite (fun _ => ?_) (fun _ => ?_)
    · exact pk_some g
    · refine pk_bind (wX11_finds_J g) (fun s8 g1 => ?_)
      refine pk_ite (fun _ => ?_) (fun _ => ?_)
      · exact pk_some g1
      · refine pk_ite (fun _ => ?_) (fun _ => ?_)
        · exact pk_some g1
        · exact pk_some g1
theorem wX11_falseOnes_J  {x1 : Int32} {s : wS}   (g : JB s) : PK (wX11_falseOnes x1 s) (fun (r : Int64 × wS) => JB r.2) := by
  unfold wX11_falseOnes
  refine pk_bind pk_any (fun t1 _ => ?_)
  refine pk_ite (fun _ => ?_) (fun _ => ?_)
  · exact pk_some g
  · refine pk_bind (wX11_finds_J g) (fun s5 g1 => ?_)
    refine pk_bind pk_any (fun t16 _ => ?_)
    exact pk_some g1
theorem wX11_liars_J  {x1 : Int32} {s : wS}   (g : JB s) : PK (wX11_liars x1 s) (fun (r : Int32 × wS) => JB r.2) := by
  unfold wX11_liars
  refine pk_bind pk_any (fun t1 _ => ?_)
  refine pk_ite (fun _ => ?_) (fun _ => ?_)
  · exact pk_some g
  · refine pk_bind (wX11_reaches_J g) (fun s5 g1 => ?_)
    refine pk_bind pk_any (fun t37 _ => ?_)
    exact pk_some g1
theorem wX11_quarrel_J  {x1 : Int32} {s : wS}   (g : JB s) : PK (wX11_quarrel x1 s) (fun (r : Int32 × wS) => JB r.2) := by
  unfold wX11_quarrel
  refine pk_bind pk_any (fun t1 _ => ?_)
  refine pk_ite (fun _ => ?_) (fun _ => ?_)
  · exact pk_some g
  · refine pk_bind (wX11_reaches_J g) (fun s5 g1 => ?_)
    refine pk_bind pk_any (fun z25 h2 => ?_)
    rcases z25 with _u | ⟨t29, t30⟩
    · dsimp only
      exact pk_some g1
    · dsimp only
      exact pk_some g1
theorem wX11_twelve_h4_J  {x1 : Int32}   : ∀ (n : Nat) {x2 : Int32} {s : wS}, JB s → PK (wX11_twelve_h4 x1 n x2 s) (fun (r : wS) => JB r) := by
  intro n
  induction n with
  | zero =>
    intro x2 s g
    rw [wX11_twelve_h4]
    exact pk_none
  | succ n ih =>
    intro x2 s g
    rw [wX11_twelve_h4]
    refine pk_bind pk_any (fun t1 _ => ?_)
    refine pk_ite (fun _ => ?_) (fun _ => ?_)
    · refine pk_bind (pk_stI (fun _ => rfl) g) (fun s4 g1 => ?_)
      exact ih g1
    · exact pk_some g
theorem wX11_twelve_j98_J  {x1 : Int32} {x2 : Int32} {s : wS} {qq : Int32 → Int32 → wS → Option (Int32 × wS)} (hqq : ∀ (v0 : Int32) (v1 : Int32) (v2 : wS), JB v2 → PK (qq v0 v1 v2) (fun (r : Int32 × wS) => JB r.2)) (g : JB s) : PK (wX11_twelve_j98 qq x1 x2 s) (fun (r : Int32 × wS) => JB r.2) := by
  unfold wX11_twelve_j98
  exact hqq _ _ _ g
theorem wX11_twelve_j87_J  {x1 : Int32} {x2 : Int32} {x3 : Int32} {y1 : Int32} {y2 : Int32} {y3 : Int32} {s : wS} {qq : Int32 → wS → Option (wS)} (hqq : ∀ (v0 : Int32) (v1 : wS), JB v1 → PK (qq v0 v1) (fun (r : wS) => JB r)) (g : JB s) : PK (wX11_twelve_j87 qq x1 x2 x3 y1 y2 y3 s) (fun (r : wS) => JB r) := by
  unfold wX11_twelve_j87
  refine pk_bind (pk_stI (fun _ => rfl) g) (fun s22 g1 => ?_)
  exact hqq _ _ g1
theorem wX11_twelve_h56_J  {x1 : Int32} {x2 : Int32}   : ∀ (n : Nat) {x3 : Int32} {s : wS}, JB s → PK (wX11_twelve_h56 x1 x2 n x3 s) (fun (r : wS) => JB r) := by
  intro n
  induction n with
  | zero =>
    intro x3 s g
    rw [wX11_twelve_h56]
    exact pk_none
  | succ n ih =>
    intro x3 s g
    rw [wX11_twelve_h56]
    refine pk_bind pk_any (fun t15 _ => ?_)
    refine pk_ite (fun _ => ?_) (fun _ => ?_)
    · refine pk_bind pk_any (fun t18 _ => ?_)
      refine pk_bind pk_any (fun t19 _ => ?_)
      refine pk_ite (fun _ => ?_) (fun _ => ?_)
      · exact wX11_twelve_j87_J (fun _ _ g => ih g) g
      · exact wX11_twelve_j87_J (fun _ _ g => ih g) g
    · exact pk_some g
theorem wX11_twelve_h27_J     : ∀ (n : Nat) {x1 : Int32} {x2 : Int32} {s : wS}, JB s → PK (wX11_twelve_h27 n x1 x2 s) (fun (r : Int32 × wS) => JB r.2) := by
  intro n
  induction n with
  | zero =>
    intro x1 x2 s g
    rw [wX11_twelve_h27]
    exact pk_none
  | succ n ih =>
    intro x1 x2 s g
    rw [wX11_twelve_h27]
    refine pk_ite (fun _ => ?_) (fun _ => ?_)
    · refine pk_ite (fun _ => ?_) (fun _ => ?_)
      · refine pk_bind pk_any (fun t12 _ => ?_)
        refine pk_ite (fun _ => ?_) (fun _ => ?_)
        · exact wX11_twelve_j98_J (fun _ _ _ g => ih g) g
        · refine pk_bind (wX11_twelve_h56_J _ g) (fun s24 g1 => ?_)
          exact wX11_twelve_j98_J (fun _ _ _ g => ih g) g1
      · exact pk_some g
    · exact pk_some g
theorem wX11_twelve_J  {s : wS}   (g : JB s) : PK (wX11_twelve s) (fun (r : Int32 × wS) => JB r.2) := by
  unfold wX11_twelve
  refine pk_bind (wX11_twelve_h4_J _ g) (fun s6 g1 => ?_)
  refine pk_bind (wX11_twelve_h27_J _ g1) (fun p2 h3 => ?_)
  obtain ⟨t27, s28⟩ := p2
  have g4 : JB s28 := h3
  dsimp only
  exact pk_some g4
theorem wX11_proof_J  {x1 : Int32} {x2 : Int32} {s : wS}   (g : JB s) : PK (wX11_proof x1 x2 s) (fun (r : Int32 × wS) => JB r.2) := by
  unfold wX11_proof
  refine pk_bind pk_any (fun t1 _ => ?_)
  refine pk_ite (fun _ => ?_) (fun _ => ?_)
  · exact pk_some g
  · refine pk_bind pk_any (fun t4 _ => ?_)
    refine pk_ite (fun _ => ?_) (fun _ => ?_)
    · exact pk_some g
    · refine pk_bind (wX11_reaches_J g) (fun s8 g1 => ?_)
      refine pk_bind (wX11_twelve_J g1) (fun p2 h3 => ?_)
      obtain ⟨t10, s11⟩ := p2
      have g4 : JB s11 := h3
      dsimp only
      refine pk_bind pk_any (fun t24 _ => ?_)
      exact pk_some g4
theorem wX11_byLaws_h47_J  {x1 : Int32} {x2 : Int32} {x3 : Int32}   : ∀ (n : Nat) {x4 : Int32} {s : wS}, JB s → PK (wX11_byLaws_h47 x1 x2 x3 n x4 s) (fun (r : wS) => JB r) := by
  intro n
  induction n with
  | zero =>
    intro x4 s g
    rw [wX11_byLaws_h47]
    exact pk_none
  | succ n ih =>
    intro x4 s g
    rw [wX11_byLaws_h47]
    refine pk_bind pk_any (fun t13 _ => ?_)
    refine pk_ite (fun _ => ?_) (fun _ => ?_)
    · refine pk_bind (pk_stI (fun _ => rfl) g) (fun s16 g1 => ?_)
      exact ih g1
    · exact pk_some g
theorem wX11_byLaws_j146_J  {x1 : Int32} {x2 : Int32} {x3 : Int32} {x4 : Int32} {s : wS} {qq : Int32 → wS → Option (wS)} (hqq : ∀ (v0 : Int32) (v1 : wS), JB v1 → PK (qq v0 v1) (fun (r : wS) => JB r)) (g : JB s) : PK (wX11_byLaws_j146 qq x1 x2 x3 x4 s) (fun (r : wS) => JB r) := by
  unfold wX11_byLaws_j146
  exact hqq _ _ g
theorem wX11_byLaws_j138_J  {x1 : Int32} {x2 : Int32} {x3 : Int32} {x4 : Int32} {x5 : Int32} {y1 : Int32} {y2 : Int32} {y3 : Int32} {s : wS} {qq : Int32 → wS → Option (wS)} (hqq : ∀ (v0 : Int32) (v1 : wS), JB v1 → PK (qq v0 v1) (fun (r : wS) => JB r)) (g : JB s) : PK (wX11_byLaws_j138 qq x1 x2 x3 x4 x5 y1 y2 y3 s) (fun (r : wS) => JB r) := by
  unfold wX11_byLaws_j138
  refine pk_bind (pk_stI (fun _ => rfl) g) (fun s32 g1 => ?_)
  exact hqq _ _ g1
theorem wX11_byLaws_h106_J  {x1 : Int32} {x2 : Int32} {x3 : Int32} {x4 : Int32}   : ∀ (n : Nat) {x5 : Int32} {s : wS}, JB s → PK (wX11_byLaws_h106 x1 x2 x3 x4 n x5 s) (fun (r : wS) => JB r) := by
  intro n
  induction n with
  | zero =>
    intro x5 s g
    rw [wX11_byLaws_h106]
    exact pk_none
  | succ n ih =>
    intro x5 s g
    rw [wX11_byLaws_h106]
    refine pk_bind pk_any (fun t26 _ => ?_)
    refine pk_ite (fun _ => ?_) (fun _ => ?_)
    · refine pk_bind pk_any (fun t29 _ => ?_)
      refine pk_bind pk_any (fun t30 _ => ?_)
      refine pk_ite (fun _ => ?_) (fun _ => ?_)
      · exact wX11_byLaws_j138_J (fun _ _ g => ih g) g
      · exact wX11_byLaws_j138_J (fun _ _ g => ih g) g
    · exact pk_some g
theorem wX11_byLaws_h73_J  {x1 : Int32} {x2 : Int32} {x3 : Int32}   : ∀ (n : Nat) {x4 : Int32} {s : wS}, JB s → PK (wX11_byLaws_h73 x1 x2 x3 n x4 s) (fun (r : wS) => JB r) := by
  intro n
  induction n with
  | zero =>
    intro x4 s g
    rw [wX11_byLaws_h73]
    exact pk_none
  | succ n ih =>
    intro x4 s g
    rw [wX11_byLaws_h73]
    refine pk_ite (fun _ => ?_) (fun _ => ?_)
    · refine pk_ite (fun _ => ?_) (fun _ => ?_)
      · exact wX11_byLaws_j146_J (fun _ _ g => ih g) g
      · refine pk_bind (wX11_keeps_J g) (fun p1 h2 => ?_)
        obtain ⟨t23, s24⟩ := p1
        have g3 : JB s24 := h2
        dsimp only
        refine pk_bind (wX11_byLaws_h106_J _ g3) (fun s34 g4 => ?_)
        exact wX11_byLaws_j146_J (fun _ _ g => ih g) g4
    · exact pk_some g
theorem wX11_byLaws_J  {x1 : Int32} {x2 : Int32} {x3 : Int32} {s : wS}   (g : JB s) : PK (wX11_byLaws x1 x2 x3 s) (fun (r : Int32 × wS) => JB r.2) := by
  unfold wX11_byLaws
  refine pk_bind pk_any (fun t1 _ => ?_)
  refine pk_ite (fun _ => ?_) (fun _ => ?_)
  · exact pk_some g
  · refine pk_bind pk_any (fun t4 _ => ?_)
    refine pk_ite (fun _ => ?_) (fun _ => ?_)
    · exact pk_some g
    · refine pk_bind pk_any (fun t7 _ => ?_)
      refine pk_ite (fun _ => ?_) (fun _ => ?_)
      · exact pk_some g
      · refine pk_bind pk_any (fun t10 _ => ?_)
        refine pk_ite (fun _ => ?_) (fun _ => ?_)
        · exact pk_some g
        · refine pk_bind (wX11_byLaws_h47_J _ g) (fun s18 g1 => ?_)
          refine pk_bind (wX11_byLaws_h73_J _ g1) (fun s37 g2 => ?_)
          refine pk_bind pk_any (fun t50 _ => ?_)
          exact pk_some g2
theorem wX11_looks_J  {x1 : Int32} {x2 : Int32} {x3 : Int32} {s : wS}   (g : JB s) : PK (wX11_looks x1 x2 x3 s) (fun (r : Int32 × wS) => JB r.2) := by
  unfold wX11_looks
  refine pk_bind pk_any (fun t1 _ => ?_)
  refine pk_ite (fun _ => ?_) (fun _ => ?_)
  · exact pk_some g
  · refine pk_bind pk_any (fun t4 _ => ?_)
    refine pk_ite (fun _ => ?_) (fun _ => ?_)
    · exact pk_some g
    · refine pk_bind pk_any (fun t7 _ => ?_)
      refine pk_ite (fun _ => ?_) (fun _ => ?_)
      · exact pk_some g
      · refine pk_bind (wX11_keeps_J g) (fun p1 h2 => ?_)
        obtain ⟨t10, s11⟩ := p1
        have g3 : JB s11 := h2
        dsimp only
        refine pk_bind pk_any (fun t22 _ => ?_)
        exact pk_some g3
theorem wX11_sure_J  {x1 : Int32} {x2 : Int32} {x3 : Int32} {s : wS}   (g : JB s) : PK (wX11_sure x1 x2 x3 s) (fun (r : Int32 × wS) => JB r.2) := by
  unfold wX11_sure
  refine pk_bind pk_any (fun t1 _ => ?_)
  refine pk_ite (fun _ => ?_) (fun _ => ?_)
  · exact pk_some g
  · refine pk_bind pk_any (fun t4 _ => ?_)
    refine pk_ite (fun _ => ?_) (fun _ => ?_)
    · exact pk_some g
    · refine pk_bind pk_any (fun t7 _ => ?_)
      refine pk_ite (fun _ => ?_) (fun _ => ?_)
      · exact pk_some g
      · refine pk_bind (wX11_keeps_J g) (fun p1 h2 => ?_)
        obtain ⟨t10, s11⟩ := p1
        have g3 : JB s11 := h2
        dsimp only
        refine pk_bind pk_any (fun z19 h4 => ?_)
        rcases z19 with _u | t25
        · dsimp only
          exact pk_some g3
        · dsimp only
          exact pk_some g3
theorem wX11_alone_J  {x1 : Int32} {x2 : Int32} {s : wS}   (g : JB s) : PK (wX11_alone x1 x2 s) (fun (r : Int32 × wS) => JB r.2) := by
  unfold wX11_alone
  refine pk_bind pk_any (fun t1 _ => ?_)
  refine pk_ite (fun _ => ?_) (fun _ => ?_)
  · exact pk_some g
  · refine pk_bind pk_any (fun t4 _ => ?_)
    refine pk_ite (fun _ => ?_) (fun _ => ?_)
    · exact pk_some g
    · refine pk_bind (wX11_reaches_J g) (fun s8 g1 => ?_)
      refine pk_bind pk_any (fun t31 _ => ?_)
      exact pk_some g1
theorem wX11_mean_J  {x1 : Int32} {x2 : Int32} {x3 : Int32} {s : wS}   (g : JB s) : PK (wX11_mean x1 x2 x3 s) (fun (r : Int32 × wS) => JB r.2) := by
  unfold wX11_mean
  refine pk_bind pk_any (fun t1 _ => ?_)
  refine pk_ite (fun _ => ?_) (fun _ => ?_)
  · exact pk_some g
  · refine pk_bind pk_any (fun t4 _ => ?_)
    refine pk_ite (fun _ => ?_) (fun _ => ?_)
    · exact pk_some g
    · refine pk_bind pk_any (fun t7 _ => ?_)
      refine pk_ite (fun _ => ?_) (fun _ => ?_)
      · exact pk_some g
      · refine pk_bind (wX11_keeps_J g) (fun p1 h2 => ?_)
        obtain ⟨t10, s11⟩ := p1
        have g3 : JB s11 := h2
        dsimp only
        refine pk_bind pk_any (fun t22 _ => ?_)
        refine pk_ite (fun _ => ?_) (fun _ => ?_)
        · exact pk_some g3
        · refine pk_bind pk_any (fun t28 _ => ?_)
          exact pk_some g3
theorem wX11_gathers_h28_J  {x1 : Int32} {x2 : Int32}   : ∀ (n : Nat) {x3 : Int32} {s : wS}, JB s → PK (wX11_gathers_h28 x1 x2 n x3 s) (fun (r : wS) => JB r) := by
  intro n
  induction n with
  | zero =>
    intro x3 s g
    rw [wX11_gathers_h28]
    exact pk_none
  | succ n ih =>
    intro x3 s g
    rw [wX11_gathers_h28]
    refine pk_bind pk_any (fun t5 _ => ?_)
    refine pk_ite (fun _ => ?_) (fun _ => ?_)
    · refine pk_bind (pk_stI (fun _ => rfl) g) (fun s7 g1 => ?_)
      refine pk_bind (pk_stI (fun _ => rfl) g1) (fun s8 g2 => ?_)
      refine pk_bind (pk_stI (fun _ => rfl) g2) (fun s9 g3 => ?_)
      refine pk_bind (pk_pfI rfl g3) (fun s10 g4 => ?_)
      exact ih g4
    · exact pk_some g
theorem wX11_gathers_h14_J  {x1 : Int32}   : ∀ (n : Nat) {x2 : Int32} {s : wS}, JB s → PK (wX11_gathers_h14 x1 n x2 s) (fun (r : wS) => JB r) := by
  intro n
  induction n with
  | zero =>
    intro x2 s g
    rw [wX11_gathers_h14]
    exact pk_none
  | succ n ih =>
    intro x2 s g
    rw [wX11_gathers_h14]
    refine pk_bind pk_any (fun t3 _ => ?_)
    refine pk_ite (fun _ => ?_) (fun _ => ?_)
    · refine pk_bind (wX11_gathers_h28_J _ g) (fun s12 g1 => ?_)
      exact ih g1
    · exact pk_some g
theorem wX11_gathers_h7_J     : ∀ (n : Nat) {x1 : Int32} {s : wS}, JB s → PK (wX11_gathers_h7 n x1 s) (fun (r : wS) => JB r) := by
  intro n
  induction n with
  | zero =>
    intro x1 s g
    rw [wX11_gathers_h7]
    exact pk_none
  | succ n ih =>
    intro x1 s g
    rw [wX11_gathers_h7]
    refine pk_ite (fun _ => ?_) (fun _ => ?_)
    · refine pk_bind (wX11_gathers_h14_J _ g) (fun s15 g1 => ?_)
      exact ih g1
    · exact pk_some g
theorem wX11_gathers_J  {s : wS}   (g : JB s) : PK (wX11_gathers s) (fun (r : wS) => JB r) := by
  unfold wX11_gathers
  refine pk_bind (pk_pfI rfl g) (fun s1 g1 => ?_)
  refine pk_bind (wX11_gathers_h7_J _ g1) (fun s19 g2 => ?_)
  exact pk_some g2
theorem wX11_asks_j80_J  {x1 : Int32} {x2 : Int32} {s : wS} {qq : Int32 → wS → Option (wS)} (hqq : ∀ (v0 : Int32) (v1 : wS), JB v1 → PK (qq v0 v1) (fun (r : wS) => JB r)) (g : JB s) : PK (wX11_asks_j80 qq x1 x2 s) (fun (r : wS) => JB r) := by
  unfold wX11_asks_j80
  exact hqq _ _ g
theorem wX11_asks_j76_J  {x1 : Int32} {x2 : Int32} {y1 : Int32} {y2 : Int32} {s : wS} {qq : Int32 → wS → Option (wS)} (hqq : ∀ (v0 : Int32) (v1 : wS), JB v1 → PK (qq v0 v1) (fun (r : wS) => JB r)) (g : JB s) : PK (wX11_asks_j76 qq x1 x2 y1 y2 s) (fun (r : wS) => JB r) := by
  unfold wX11_asks_j76
  refine pk_bind (pk_pfI rfl g) (fun s15 g1 => ?_)
  exact wX11_asks_j80_J hqq g1
theorem wX11_asks_j52_J  {x1 : Int32} {x2 : Int32} {y1 : Int32} {y2 : Int32} {s : wS} {qq : Int32 → wS → Option (wS)} (hqq : ∀ (v0 : Int32) (v1 : wS), JB v1 → PK (qq v0 v1) (fun (r : wS) => JB r)) (g : JB s) : PK (wX11_asks_j52 qq x1 x2 y1 y2 s) (fun (r : wS) => JB r) := by
  unfold wX11_asks_j52
  refine pk_bind (pk_pfI rfl g) (fun s11 g1 => ?_)
  refine pk_bind pk_any (fun t12 _ => ?_)
  refine pk_ite (fun _ => ?_) (fun _ => ?_)
  · exact wX11_asks_j76_J hqq g1
  · exact wX11_asks_j76_J hqq g1
theorem wX11_asks_h12_J  {x1 : Int32}   : ∀ (n : Nat) {x2 : Int32} {s : wS}, JB s → PK (wX11_asks_h12 x1 n x2 s) (fun (r : wS) => JB r) := by
  intro n
  induction n with
  | zero =>
    intro x2 s g
    rw [wX11_asks_h12]
    exact pk_none
  | succ n ih =>
    intro x2 s g
    rw [wX11_asks_h12]
    refine pk_bind pk_any (fun t3 _ => ?_)
    refine pk_ite (fun _ => ?_) (fun _ => ?_)
    · refine pk_bind pk_any (fun t6 _ => ?_)
      refine pk_ite (fun _ => ?_) (fun _ => ?_)
      · exact wX11_asks_j80_J (fun _ _ g => ih g) g
      · refine pk_bind pk_any (fun t8 _ => ?_)
        refine pk_ite (fun _ => ?_) (fun _ => ?_)
        · exact wX11_asks_j52_J (fun _ _ g => ih g) g
        · exact wX11_asks_j52_J (fun _ _ g => ih g) g
    · exact pk_some g
theorem wX11_asks_J  {x1 : Int32} {s : wS}   (g : JB s) : PK (wX11_asks x1 s) (fun (r : wS) => JB r) := by
  unfold wX11_asks
  refine pk_bind (pk_pfI rfl g) (fun s1 g1 => ?_)
  refine pk_bind (pk_pfI rfl g1) (fun s2 g2 => ?_)
  refine pk_bind (wX11_asks_h12_J _ g2) (fun s17 g3 => ?_)
  exact pk_some g3
theorem wX11_asksNext_j90_J  {x1 : Int32} {x2 : Int32} {x3 : Int64} {x5 : Int32} {s : wS} {qq : Int32 → Int64 → Int32 → wS → Option (Int32 × wS)} (hqq : ∀ (v0 : Int32) (v1 : Int64) (v2 : Int32) (v3 : wS), JB v3 → PK (qq v0 v1 v2 v3) (fun (r : Int32 × wS) => JB r.2)) (g : JB s) : PK (wX11_asksNext_j90 qq x1 x2 x3 x5 s) (fun (r : Int32 × wS) => JB r.2) := by
  unfold wX11_asksNext_j90
  exact hqq _ _ _ _ g
theorem wX11_asksNext_j84_J  {x1 : Int32} {x5 : Int32} {x6 : Int64} {s : wS} {qq : Int32 → Int64 → Int32 → wS → Option (Int32 × wS)} (hqq : ∀ (v0 : Int32) (v1 : Int64) (v2 : Int32) (v3 : wS), JB v3 → PK (qq v0 v1 v2 v3) (fun (r : Int32 × wS) => JB r.2)) (g : JB s) : PK (wX11_asksNext_j84 qq x1 x5 x6 s) (fun (r : Int32 × wS) => JB r.2) := by
  unfold wX11_asksNext_j84
  exact wX11_asksNext_j90_J hqq g
theorem wX11_asksNext_j68_J  {x1 : Int32} {x2 : Int32} {x3 : Int64} {x5 : Int32} {y0 : Int64} {s : wS} {qq : Int32 → Int64 → Int32 → wS → Option (Int32 × wS)} (hqq : ∀ (v0 : Int32) (v1 : Int64) (v2 : Int32) (v3 : wS), JB v3 → PK (qq v0 v1 v2 v3) (fun (r : Int32 × wS) => JB r.2)) (g : JB s) : PK (wX11_asksNext_j68 qq x1 x2 x3 x5 y0 s) (fun (r : Int32 × wS) => JB r.2) := by
  unfold wX11_asksNext_j68
  refine pk_ite (fun _ => ?_) (fun _ => ?_)
  · exact wX11_asksNext_j84_J hqq g
  · refine pk_ite (fun _ => ?_) (fun _ => ?_)
    · exact wX11_asksNext_j84_J hqq g
    · exact wX11_asksNext_j90_J hqq g
theorem wX11_asksNext_h11_J  {x1 : Int32}   : ∀ (n : Nat) {x2 : Int32} {x3 : Int64} {x5 : Int32} {s : wS}, JB s → PK (wX11_asksNext_h11 x1 n x2 x3 x5 s) (fun (r : Int32 × wS) => JB r.2) := by
  intro n
  induction n with
  | zero =>
    intro x2 x3 x5 s g
    rw [wX11_asksNext_h11]
    exact pk_none
  | succ n ih =>
    intro x2 x3 x5 s g
    rw [wX11_asksNext_h11]
    refine pk_ite (fun _ => ?_) (fun _ => ?_)
    · refine pk_bind (wX11_asks_J g) (fun s6 g1 => ?_)
      refine pk_ite (fun _ => ?_) (fun _ => ?_)
      · refine pk_bind pk_any (fun t9 _ => ?_)
        exact wX11_asksNext_j68_J (fun _ _ _ _ g => ih g) g1
      · exact wX11_asksNext_j68_J (fun _ _ _ _ g => ih g) g1
    · exact pk_some g
theorem wX11_asksNext_J  {x1 : Int32} {s : wS}   (g : JB s) : PK (wX11_asksNext x1 s) (fun (r : Int32 × wS) => JB r.2) := by
  unfold wX11_asksNext
  refine pk_bind (wX11_gathers_J g) (fun s2 g1 => ?_)
  refine pk_bind (wX11_asksNext_h11_J _ g1) (fun p2 h3 => ?_)
  obtain ⟨t14, s15⟩ := p2
  have g4 : JB s15 := h3
  dsimp only
  refine pk_ite (fun _ => ?_) (fun _ => ?_)
  · exact pk_some g4
  · refine pk_bind (wX11_asks_J g4) (fun s23 g5 => ?_)
    exact pk_some g5
theorem wX11_useful_j112_J  {x4 : Int32} {x6 : Int32} {y0 : Int32} {y1 : Int32} {s : wS} {qq : Int32 → Int32 → wS → Option (Int32 × wS)} (hqq : ∀ (v0 : Int32) (v1 : Int32) (v2 : wS), JB v2 → PK (qq v0 v1 v2) (fun (r : Int32 × wS) => JB r.2)) (g : JB s) : PK (wX11_useful_j112 qq x4 x6 y0 y1 s) (fun (r : Int32 × wS) => JB r.2) := by
  unfold wX11_useful_j112
  exact hqq _ _ _ g
theorem wX11_useful_h74_J  {x4 : Int32}   : ∀ (n : Nat) {x5 : Int32} {x6 : Int32} {s : wS}, JB s → PK (wX11_useful_h74 x4 n x5 x6 s) (fun (r : Int32 × wS) => JB r.2) := by
  intro n
  induction n with
  | zero =>
    intro x5 x6 s g
    rw [wX11_useful_h74]
    exact pk_none
  | succ n ih =>
    intro x5 x6 s g
    rw [wX11_useful_h74]
    refine pk_ite (fun _ => ?_) (fun _ => ?_)
    · refine pk_bind (wX11_asks_J g) (fun s28 g1 => ?_)
      refine pk_bind pk_any (fun t30 _ => ?_)
      refine pk_ite (fun _ => ?_) (fun _ => ?_)
      · exact wX11_useful_j112_J (fun _ _ _ g => ih g) g1
      · exact wX11_useful_j112_J (fun _ _ _ g => ih g) g1
    · exact pk_some g
theorem wX11_useful_J  {x1 : Int32} {x2 : Int32} {x3 : Int32} {s : wS}   (g : JB s) : PK (wX11_useful x1 x2 x3 s) (fun (r : Int32 × wS) => JB r.2) := by
  unfold wX11_useful
  refine pk_bind pk_any (fun t1 _ => ?_)
  refine pk_ite (fun _ => ?_) (fun _ => ?_)
  · exact pk_some g
  · refine pk_bind pk_any (fun t4 _ => ?_)
    refine pk_ite (fun _ => ?_) (fun _ => ?_)
    · exact pk_some g
    · refine pk_bind pk_any (fun t7 _ => ?_)
      refine pk_ite (fun _ => ?_) (fun _ => ?_)
      · exact pk_some g
      · refine pk_bind (wX11_keeps_J g) (fun p1 h2 => ?_)
        obtain ⟨t10, s11⟩ := p1
        have g3 : JB s11 := h2
        dsimp only
        refine pk_ite (fun _ => ?_) (fun _ => ?_)
        · refine pk_bind pk_any (fun t17 _ => ?_)
          exact pk_some g3
        · refine pk_bind (wX11_gathers_J g3) (fun s24 g4 => ?_)
          refine pk_bind (wX11_useful_h74_J _ g4) (fun p5 h6 => ?_)
          obtain ⟨t34, s35⟩ := p5
          have g7 : JB s35 := h6
          dsimp only
          exact pk_some g7
theorem wX11_filled_J  {x1 : Int32} {x2 : Int32} {x3 : Int32} {s : wS}   (g : JB s) : PK (wX11_filled x1 x2 x3 s) (fun (r : Int32 × wS) => JB r.2) := by
  unfold wX11_filled
  refine pk_bind pk_any (fun t1 _ => ?_)
  refine pk_ite (fun _ => ?_) (fun _ => ?_)
  · exact pk_some g
  · refine pk_bind pk_any (fun t4 _ => ?_)
    refine pk_ite (fun _ => ?_) (fun _ => ?_)
    · exact pk_some g
    · refine pk_bind pk_any (fun t7 _ => ?_)
      refine pk_ite (fun _ => ?_) (fun _ => ?_)
      · exact pk_some g
      · refine pk_bind (wX11_keeps_J g) (fun p1 h2 => ?_)
        obtain ⟨t10, s11⟩ := p1
        have g3 : JB s11 := h2
        dsimp only
        refine pk_bind pk_any (fun t13 _ => ?_)
        refine pk_bind pk_any (fun t45 _ => ?_)
        exact pk_some g3
theorem wX11_next_j59_J  {x4 : Int32} {y1 : Int32} {s : wS}   (g : JB s) : PK (wX11_next_j59 x4 y1 s) (fun (r : Int32 × wS) => JB r.2) := by
  unfold wX11_next_j59
  refine pk_bind (wX11_asksNext_J g) (fun p1 h2 => ?_)
  obtain ⟨t17, s18⟩ := p1
  have g3 : JB s18 := h2
  dsimp only
  refine pk_ite (fun _ => ?_) (fun _ => ?_)
  · exact pk_some g3
  · refine pk_ite (fun _ => ?_) (fun _ => ?_)
    · refine pk_bind pk_any (fun t22 _ => ?_)
      exact pk_some g3
    · refine pk_bind pk_any (fun t23 _ => ?_)
      refine pk_ite (fun _ => ?_) (fun _ => ?_)
      · exact pk_some g3
      · exact pk_some g3
theorem wX11_next_J  {x1 : Int32} {x2 : Int32} {x3 : Int32} {x4 : Int32} {s : wS}   (g : JB s) : PK (wX11_next x1 x2 x3 x4 s) (fun (r : Int32 × wS) => JB r.2) := by
  unfold wX11_next
  refine pk_bind pk_any (fun t1 _ => ?_)
  refine pk_ite (fun _ => ?_) (fun _ => ?_)
  · exact pk_some g
  · refine pk_bind pk_any (fun t4 _ => ?_)
    refine pk_ite (fun _ => ?_) (fun _ => ?_)
    · exact pk_some g
    · refine pk_bind pk_any (fun t7 _ => ?_)
      refine pk_ite (fun _ => ?_) (fun _ => ?_)
      · exact pk_some g
      · refine pk_bind pk_any (fun t10 _ => ?_)
        refine pk_ite (fun _ => ?_) (fun _ => ?_)
        · exact pk_some g
        · refine pk_bind (wX11_keeps_J g) (fun p1 h2 => ?_)
          obtain ⟨t13, s14⟩ := p1
          have g3 : JB s14 := h2
          dsimp only
          refine pk_ite (fun _ => ?_) (fun _ => ?_)
          · exact wX11_next_j59_J g3
          · exact wX11_next_j59_J g3
theorem wX11_needed_j125_J  {x3 : Int32} {x4 : Int32} {x5 : Int32} {x6 : Int32} {s : wS} {qq : Int32 → Int32 → wS → Option (wS)} (hqq : ∀ (v0 : Int32) (v1 : Int32) (v2 : wS), JB v2 → PK (qq v0 v1 v2) (fun (r : wS) => JB r)) (g : JB s) : PK (wX11_needed_j125 qq x3 x4 x5 x6 s) (fun (r : wS) => JB r) := by
  unfold wX11_needed_j125
  exact hqq _ _ _ g
theorem wX11_needed_j120_J  {x3 : Int32} {x4 : Int32} {x5 : Int32} {x6 : Int32} {y1 : Int32} {y2 : Int64} {y3 : Int64} {s : wS} {qq : Int32 → Int32 → wS → Option (wS)} (hqq : ∀ (v0 : Int32) (v1 : Int32) (v2 : wS), JB v2 → PK (qq v0 v1 v2) (fun (r : wS) => JB r)) (g : JB s) : PK (wX11_needed_j120 qq x3 x4 x5 x6 y1 y2 y3 s) (fun (r : wS) => JB r) := by
  unfold wX11_needed_j120
  refine pk_bind (pk_stL (by decide) g) (fun s25 g1 => ?_)
  exact wX11_needed_j125_J hqq g1
theorem wX11_needed_h65_J  {x3 : Int32} {x4 : Int32}   : ∀ (n : Nat) {x5 : Int32} {x6 : Int32} {s : wS}, JB s → PK (wX11_needed_h65 x3 x4 n x5 x6 s) (fun (r : wS) => JB r) := by
  intro n
  induction n with
  | zero =>
    intro x5 x6 s g
    rw [wX11_needed_h65]
    exact pk_none
  | succ n ih =>
    intro x5 x6 s g
    rw [wX11_needed_h65]
    refine pk_bind pk_any (fun t16 _ => ?_)
    refine pk_ite (fun _ => ?_) (fun _ => ?_)
    · refine pk_bind pk_any (fun t19 _ => ?_)
      refine pk_ite (fun _ => ?_) (fun _ => ?_)
      · exact wX11_needed_j125_J (fun _ _ _ g => ih g) g
      · refine pk_bind pk_any (fun t21 _ => ?_)
        refine pk_bind pk_any (fun t22 _ => ?_)
        refine pk_ite (fun _ => ?_) (fun _ => ?_)
        · exact wX11_needed_j120_J (fun _ _ _ g => ih g) g
        · exact wX11_needed_j120_J (fun _ _ _ g => ih g) g
    · exact pk_some g
theorem wX11_needed_h40_J  {x3 : Int32}   : ∀ (n : Nat) {x4 : Int32} {s : wS}, JB s → PK (wX11_needed_h40 x3 n x4 s) (fun (r : wS) => JB r) := by
  intro n
  induction n with
  | zero =>
    intro x4 s g
    rw [wX11_needed_h40]
    exact pk_none
  | succ n ih =>
    intro x4 s g
    rw [wX11_needed_h40]
    refine pk_ite (fun _ => ?_) (fun _ => ?_)
    · refine pk_bind (pk_stL (by decide) g) (fun s15 g1 => ?_)
      refine pk_bind (wX11_needed_h65_J _ g1) (fun s27 g2 => ?_)
      exact ih g2
    · exact pk_some g
theorem wX11_needed_j154_J  {y0 : Int64} {s : wS}   (g : JB s) : PK (wX11_needed_j154 y0 s) (fun (r : Int32 × wS) => JB r.2) := by
  unfold wX11_needed_j154
  refine pk_bind pk_any (fun t40 _ => ?_)
  refine pk_ite (fun _ => ?_) (fun _ => ?_)
  · refine pk_bind pk_any (fun t43 _ => ?_)
    refine pk_ite (fun _ => ?_) (fun _ => ?_)
    · refine pk_bind pk_any (fun t46 _ => ?_)
      refine pk_ite (fun _ => ?_) (fun _ => ?_)
      · refine pk_bind pk_any (fun t49 _ => ?_)
        refine pk_ite (fun _ => ?_) (fun _ => ?_)
        · exact pk_some g
        · exact pk_some g
      · exact pk_some g
    · exact pk_some g
  · exact pk_some g
theorem wX11_needed_J  {x1 : Int32} {x2 : Int32} {s : wS}   (g : JB s) : PK (wX11_needed x1 x2 s) (fun (r : Int32 × wS) => JB r.2) := by
  unfold wX11_needed
  refine pk_bind pk_any (fun t1 _ => ?_)
  refine pk_ite (fun _ => ?_) (fun _ => ?_)
  · exact pk_some g
  · refine pk_bind pk_any (fun t4 _ => ?_)
    refine pk_ite (fun _ => ?_) (fun _ => ?_)
    · exact pk_some g
    · refine pk_bind (wX11_keeps_J g) (fun p1 h2 => ?_)
      obtain ⟨t7, s8⟩ := p1
      have g3 : JB s8 := h2
      dsimp only
      refine pk_ite (fun _ => ?_) (fun _ => ?_)
      · exact pk_some g3
      · refine pk_bind (wX11_gathers_J g3) (fun s12 g4 => ?_)
        refine pk_bind (wX11_needed_h40_J _ g4) (fun s33 g5 => ?_)
        refine pk_ite (fun _ => ?_) (fun _ => ?_)
        · exact wX11_needed_j154_J g5
        · exact wX11_needed_j154_J g5
theorem wX11_steered_J  {x1 : Int32} {x2 : Int32} {x3 : Int32} {x4 : Int32} {x5 : Int32} {s : wS}   (g : JB s) : PK (wX11_steered x1 x2 x3 x4 x5 s) (fun (r : Int32 × wS) => JB r.2) := by
  unfold wX11_steered
  refine pk_bind pk_any (fun t1 _ => ?_)
  refine pk_ite (fun _ => ?_) (fun _ => ?_)
  · exact pk_some g
  · refine pk_bind pk_any (fun t4 _ => ?_)
    refine pk_ite (fun _ => ?_) (fun _ => ?_)
    · exact pk_some g
    · refine pk_bind pk_any (fun t7 _ => ?_)
      refine pk_ite (fun _ => ?_) (fun _ => ?_)
      · exact pk_some g
      · refine pk_bind pk_any (fun t10 _ => ?_)
        refine pk_ite (fun _ => ?_) (fun _ => ?_)
        · exact pk_some g
        · refine pk_bind pk_any (fun t13 _ => ?_)
          refine pk_ite (fun _ => ?_) (fun _ => ?_)
          · exact pk_some g
          · refine pk_bind (wX11_keeps_J g) (fun p1 h2 => ?_)
            obtain ⟨t16, s17⟩ := p1
            have g3 : JB s17 := h2
            dsimp only
            refine pk_bind (wX11_gathers_J g3) (fun s20 g4 => ?_)
            refine pk_bind pk_any (fun p5 h6 => ?_)
            obtain ⟨t48, t49, t50⟩ := p5
            dsimp only
            refine pk_ite (fun _ => ?_) (fun _ => ?_)
            · exact pk_some g4
            · refine pk_ite (fun _ => ?_) (fun _ => ?_)
              · refine pk_bind pk_any (fun t62 _ => ?_)
                exact pk_some g4
              · refine pk_ite (fun _ => ?_) (fun _ => ?_)
                · exact pk_some g4
                · exact pk_some g4
theorem wX11_trials_h101_J  {x2 : Int32} {x3 : Int32} {x4 : Int64} {x6 : Int32} {x7 : Int32} {x8 : Int32} {x9 : Int32} {x10 : Int32}   : ∀ (n : Nat) {x11 : Int32} {s : wS}, JB s → PK (wX11_trials_h101 x2 x3 x4 x6 x7 x8 x9 x10 n x11 s) (fun (r : wS) => JB r) := by
  intro n
  induction n with
  | zero =>
    intro x11 s g
    rw [wX11_trials_h101]
    exact pk_none
  | succ n ih =>
    intro x11 s g
    rw [wX11_trials_h101]
    refine pk_bind pk_any (fun t20 _ => ?_)
    refine pk_ite (fun _ => ?_) (fun _ => ?_)
    · refine pk_bind (pk_stZ (fun _ => rfl) g) (fun s23 g1 => ?_)
      exact ih g1
    · exact pk_some g
theorem wX11_trials_h237_J  {x2 : Int32} {x3 : Int32} {x4 : Int64} {x6 : Int32} {x7 : Int32} {x8 : Int32} {x9 : Int32} {x10 : Int32} {x11 : Int32} {x12 : Int32} {x13 : Int32} {x14 : Int32} {x15 : Int32}   : ∀ (n : Nat) {x16 : Int32} {s : wS}, JB s → PK (wX11_trials_h237 x2 x3 x4 x6 x7 x8 x9 x10 x11 x12 x13 x14 x15 n x16 s) (fun (r : wS) => JB r) := by
  intro n
  induction n with
  | zero =>
    intro x16 s g
    rw [wX11_trials_h237]
    exact pk_none
  | succ n ih =>
    intro x16 s g
    rw [wX11_trials_h237]
    refine pk_bind pk_any (fun t47 _ => ?_)
    refine pk_ite (fun _ => ?_) (fun _ => ?_)
    · refine pk_bind pk_any (fun t50 _ => ?_)
      refine pk_bind pk_any (fun t51 _ => ?_)
      refine pk_bind (pk_stZ (fun _ => rfl) g) (fun s53 g1 => ?_)
      exact ih g1
    · exact pk_some g
theorem wX11_trials_j232_J  {x2 : Int32} {x3 : Int32} {x4 : Int64} {x6 : Int32} {x7 : Int32} {x8 : Int32} {x9 : Int32} {x10 : Int32} {x12 : Int32} {x13 : Int32} {x14 : Int32} {x15 : Int32} {y0 : Int32} {s : wS} {qq : Int32 → Int32 → Int32 → wS → Option (Int32 × Int32 × wS)} (hqq : ∀ (v0 : Int32) (v1 : Int32) (v2 : Int32) (v3 : wS), JB v3 → PK (qq v0 v1 v2 v3) (fun (r : Int32 × Int32 × wS) => JB r.2.2)) (g : JB s) : PK (wX11_trials_j232 qq x2 x3 x4 x6 x7 x8 x9 x10 x12 x13 x14 x15 y0 s) (fun (r : Int32 × Int32 × wS) => JB r.2.2) := by
  unfold wX11_trials_j232
  refine pk_bind (wX11_trials_h237_J _ g) (fun s55 g1 => ?_)
  exact hqq _ _ _ _ g1
theorem wX11_trials_j214_J  {x2 : Int32} {x3 : Int32} {x4 : Int64} {x6 : Int32} {x7 : Int32} {x8 : Int32} {x9 : Int32} {x10 : Int32} {x12 : Int32} {x13 : Int32} {x14 : Int32} {y0 : Int32} {s : wS} {qq : Int32 → Int32 → Int32 → wS → Option (Int32 × Int32 × wS)} (hqq : ∀ (v0 : Int32) (v1 : Int32) (v2 : Int32) (v3 : wS), JB v3 → PK (qq v0 v1 v2 v3) (fun (r : Int32 × Int32 × wS) => JB r.2.2)) (g : JB s) : PK (wX11_trials_j214 qq x2 x3 x4 x6 x7 x8 x9 x10 x12 x13 x14 y0 s) (fun (r : Int32 × Int32 × wS) => JB r.2.2) := by
  unfold wX11_trials_j214
  refine pk_ite (fun _ => ?_) (fun _ => ?_)
  · exact wX11_trials_j232_J hqq g
  · exact wX11_trials_j232_J hqq g
theorem wX11_trials_j187_J  {x2 : Int32} {x3 : Int32} {x4 : Int64} {x6 : Int32} {x7 : Int32} {x8 : Int32} {x9 : Int32} {x10 : Int32} {x11 : Int32} {x12 : Int32} {x14 : Int32} {y0 : Int32} {s : wS} {qq : Int32 → Int32 → Int32 → wS → Option (Int32 × Int32 × wS)} (hqq : ∀ (v0 : Int32) (v1 : Int32) (v2 : Int32) (v3 : wS), JB v3 → PK (qq v0 v1 v2 v3) (fun (r : Int32 × Int32 × wS) => JB r.2.2)) (g : JB s) : PK (wX11_trials_j187 qq x2 x3 x4 x6 x7 x8 x9 x10 x11 x12 x14 y0 s) (fun (r : Int32 × Int32 × wS) => JB r.2.2) := by
  unfold wX11_trials_j187
  refine pk_ite (fun _ => ?_) (fun _ => ?_)
  · exact hqq _ _ _ _ g
  · refine pk_bind pk_any (fun t43 _ => ?_)
    refine pk_ite (fun _ => ?_) (fun _ => ?_)
    · exact wX11_trials_j214_J hqq g
    · exact wX11_trials_j214_J hqq g
theorem wX11_trials_j186_J  {x2 : Int32} {x3 : Int32} {x4 : Int64} {x6 : Int32} {x7 : Int32} {x8 : Int32} {x9 : Int32} {x10 : Int32} {x11 : Int32} {x12 : Int32} {x14 : Int32} {s : wS} {qq : Int32 → Int32 → Int32 → wS → Option (Int32 × Int32 × wS)} (hqq : ∀ (v0 : Int32) (v1 : Int32) (v2 : Int32) (v3 : wS), JB v3 → PK (qq v0 v1 v2 v3) (fun (r : Int32 × Int32 × wS) => JB r.2.2)) (g : JB s) : PK (wX11_trials_j186 qq x2 x3 x4 x6 x7 x8 x9 x10 x11 x12 x14 s) (fun (r : Int32 × Int32 × wS) => JB r.2.2) := by
  unfold wX11_trials_j186
  exact wX11_trials_j187_J hqq g
theorem wX11_trials_h136_J  {x2 : Int32} {x3 : Int32} {x4 : Int64} {x6 : Int32} {x7 : Int32} {x8 : Int32} {x9 : Int32} {x10 : Int32}   : ∀ (n : Nat) {x11 : Int32} {x12 : Int32} {x13 : Int32} {s : wS}, JB s → PK (wX11_trials_h136 x2 x3 x4 x6 x7 x8 x9 x10 n x11 x12 x13 s) (fun (r : Int32 × Int32 × wS) => JB r.2.2) := by
  intro n
  induction n with
  | zero =>
    intro x11 x12 x13 s g
    rw [wX11_trials_h136]
    exact pk_none
  | succ n ih =>
    intro x11 x12 x13 s g
    rw [wX11_trials_h136]
    refine pk_ite (fun _ => ?_) (fun _ => ?_)
    · exact pk_some g
    · refine pk_ite (fun _ => ?_) (fun _ => ?_)
      · refine pk_ite (fun _ => ?_) (fun _ => ?_)
        · refine pk_bind (wX11_asksNext_J g) (fun p1 h2 => ?_)
          obtain ⟨t38, s39⟩ := p1
          have g3 : JB s39 := h2
          dsimp only
          refine pk_ite (fun _ => ?_) (fun _ => ?_)
          · exact wX11_trials_j186_J (fun _ _ _ _ g => ih g) g3
          · refine pk_bind pk_any (fun t60 _ => ?_)
            refine pk_ite (fun _ => ?_) (fun _ => ?_)
            · exact wX11_trials_j187_J (fun _ _ _ _ g => ih g) g3
            · exact wX11_trials_j186_J (fun _ _ _ _ g => ih g) g3
        · exact pk_some g
      · exact pk_some g
theorem wX11_trials_j298_J  {x2 : Int32} {x3 : Int32} {x4 : Int64} {x6 : Int32} {x8 : Int32} {x9 : Int32} {x11 : Int32} {y0 : Int32} {y1 : Int32} {s : wS} {qq : Int64 → Int32 → Int32 → Int32 → Int32 → wS → Option (Int32 × Int32 × Int32 × wS)} (hqq : ∀ (v0 : Int64) (v1 : Int32) (v2 : Int32) (v3 : Int32) (v4 : Int32) (v5 : wS), JB v5 → PK (qq v0 v1 v2 v3 v4 v5) (fun (r : Int32 × Int32 × Int32 × wS) => JB r.2.2.2)) (g : JB s) : PK (wX11_trials_j298 qq x2 x3 x4 x6 x8 x9 x11 y0 y1 s) (fun (r : Int32 × Int32 × Int32 × wS) => JB r.2.2.2) := by
  unfold wX11_trials_j298
  exact hqq _ _ _ _ _ _ g
theorem wX11_trials_j278_J  {x2 : Int32} {x3 : Int32} {x4 : Int64} {x6 : Int32} {x7 : Int32} {x8 : Int32} {x9 : Int32} {x11 : Int32} {x12 : Int32} {s : wS} {qq : Int64 → Int32 → Int32 → Int32 → Int32 → wS → Option (Int32 × Int32 × Int32 × wS)} (hqq : ∀ (v0 : Int64) (v1 : Int32) (v2 : Int32) (v3 : Int32) (v4 : Int32) (v5 : wS), JB v5 → PK (qq v0 v1 v2 v3 v4 v5) (fun (r : Int32 × Int32 × Int32 × wS) => JB r.2.2.2)) (g : JB s) : PK (wX11_trials_j278 qq x2 x3 x4 x6 x7 x8 x9 x11 x12 s) (fun (r : Int32 × Int32 × Int32 × wS) => JB r.2.2.2) := by
  unfold wX11_trials_j278
  refine pk_ite (fun _ => ?_) (fun _ => ?_)
  · exact wX11_trials_j298_J hqq g
  · exact wX11_trials_j298_J hqq g
theorem wX11_trials_h61_J  {x2 : Int32} {x3 : Int32}   : ∀ (n : Nat) {x4 : Int64} {x6 : Int32} {x7 : Int32} {x8 : Int32} {x9 : Int32} {s : wS}, JB s → PK (wX11_trials_h61 x2 x3 n x4 x6 x7 x8 x9 s) (fun (r : Int32 × Int32 × Int32 × wS) => JB r.2.2.2) := by
  intro n
  induction n with
  | zero =>
    intro x4 x6 x7 x8 x9 s g
    rw [wX11_trials_h61]
    exact pk_none
  | succ n ih =>
    intro x4 x6 x7 x8 x9 s g
    rw [wX11_trials_h61]
    refine pk_ite (fun _ => ?_) (fun _ => ?_)
    · refine pk_bind pk_any (fun t15 _ => ?_)
      refine pk_bind pk_any (fun t16 _ => ?_)
      refine pk_bind pk_any (fun t17 _ => ?_)
      refine pk_bind pk_any (fun t19 _ => ?_)
      refine pk_bind (wX11_trials_h101_J _ g) (fun s25 g1 => ?_)
      refine pk_bind pk_any (fun t33 _ => ?_)
      refine pk_bind (wX11_trials_h136_J _ g1) (fun p2 h3 => ?_)
      obtain ⟨t64, t65, s66⟩ := p2
      have g4 : JB s66 := h3
      dsimp only
      exact wX11_trials_j278_J (fun _ _ _ _ _ _ g => ih g) g4
    · exact pk_some g
theorem wX11_trials_J  {x1 : Int32} {x2 : Int32} {x3 : Int32} {s : wS}   (g : JB s) : PK (wX11_trials x1 x2 x3 s) (fun (r : Int32 × wS) => JB r.2) := by
  unfold wX11_trials
  refine pk_bind pk_any (fun t1 _ => ?_)
  refine pk_ite (fun _ => ?_) (fun _ => ?_)
  · exact pk_some g
  · refine pk_bind pk_any (fun t4 _ => ?_)
    refine pk_ite (fun _ => ?_) (fun _ => ?_)
    · exact pk_some g
    · refine pk_bind pk_any (fun t7 _ => ?_)
      refine pk_ite (fun _ => ?_) (fun _ => ?_)
      · exact pk_some g
      · refine pk_bind (wX11_reaches_J g) (fun s11 g1 => ?_)
        refine pk_bind (wX11_trials_h61_J _ g1) (fun p2 h3 => ?_)
        obtain ⟨t75, t76, t77, s78⟩ := p2
        have g4 : JB s78 := h3
        dsimp only
        refine pk_ite (fun _ => ?_) (fun _ => ?_)
        · exact pk_some g4
        · refine pk_ite (fun _ => ?_) (fun _ => ?_)
          · exact pk_some g4
          · exact pk_some g4
theorem wX11_old_J  {x1 : Int32} {x2 : Int32} {x3 : Int32} {x4 : Int32} {s : wS}   (g : JB s) : PK (wX11_old x1 x2 x3 x4 s) (fun (r : Int32 × wS) => JB r.2) := by
  unfold wX11_old
  refine pk_bind pk_any (fun t1 _ => ?_)
  refine pk_ite (fun _ => ?_) (fun _ => ?_)
  · exact pk_some g
  · refine pk_bind pk_any (fun t4 _ => ?_)
    refine pk_ite (fun _ => ?_) (fun _ => ?_)
    · exact pk_some g
    · refine pk_bind pk_any (fun t8 _ => ?_)
      refine pk_ite (fun _ => ?_) (fun _ => ?_)
      · exact pk_some g
      · refine pk_bind pk_any (fun t11 _ => ?_)
        refine pk_ite (fun _ => ?_) (fun _ => ?_)
        · exact pk_some g
        · refine pk_bind (wX11_reaches_J g) (fun s15 g1 => ?_)
          refine pk_bind pk_any (fun t17 _ => ?_)
          refine pk_bind pk_any (fun t18 _ => ?_)
          refine pk_ite (fun _ => ?_) (fun _ => ?_)
          · exact pk_some g1
          · refine pk_bind pk_any (fun p2 h3 => ?_)
            obtain ⟨t39, t40⟩ := p2
            dsimp only
            refine pk_ite (fun _ => ?_) (fun _ => ?_)
            · exact pk_some g1
            · exact pk_some g1
end
section
/-! What is told: what it leaves. -/
theorem pk_mono {α : Type} {x : Option α} {P Q : α → Prop} (h : PK x P) (g : ∀ a, P a → Q a) : PK x Q := fun a e => g a (h a e)
/-- all but the COURT, its PAIRS, how many LAWS, and their tables -/
noncomputable def bKt (k b : Nat) : Bool := !((Nat.beq k 0 && Nat.beq b 6) || ((Nat.ble 16 k && Nat.ble k 18) || ((Nat.ble 28 k && Nat.ble k 31) || (Nat.ble 44 k && Nat.ble k 103))))
theorem bK_hc {k b : Nat} (h1 : 16 ≤ k) (h2 : k ≤ 18) : bKt k b = false := by
  have : (Nat.ble 16 k && Nat.ble k 18) = true := by
    simp only [Bool.and_eq_true, Nat.ble_eq]
    omega
  unfold bKt
  rw [this, Bool.true_or, Bool.or_true, Bool.not_true]
theorem bK_tab {k b : Nat} (h1 : 44 ≤ k) (h2 : k ≤ 103) : bKt k b = false := by
  have : (Nat.ble 44 k && Nat.ble k 103) = true := by
    simp only [Bool.and_eq_true, Nat.ble_eq]
    omega
  unfold bKt
  rw [this, Bool.or_true, Bool.or_true, Bool.or_true, Bool.not_true]
theorem bK_pr {k b : Nat} (h1 : 28 ≤ k) (h2 : k ≤ 31) : bKt k b = false := by
  have : (Nat.ble 28 k && Nat.ble k 31) = true := by
    simp only [Bool.and_eq_true, Nat.ble_eq]
    omega
  unfold bKt
  rw [this, Bool.true_or, Bool.or_true, Bool.or_true, Bool.not_true]
theorem bK_im0 {k b : Nat} (h : 104 ≤ k ∧ k ≤ 140) : bKt k b = true := by
  unfold bKt
  rw [nq_false (show k ≠ 0 by omega), nb_false (show k > 18 by omega), nb_false (show k > 31 by omega), nb_false (show k > 103 by omega), Bool.and_false, Bool.and_false, Bool.and_false, Bool.false_and]
  rfl
theorem bK_im {k j b : Nat} (h : 104 ≤ k ∧ k ≤ 140) (hj : j ≤ 11) : bKt (k + j) b = true := by
  unfold bKt
  rw [nq_false (show k + j ≠ 0 by omega), nb_false (show k + j > 18 by omega), nb_false (show k + j > 31 by omega), nb_false (show k + j > 103 by omega), Bool.and_false, Bool.and_false, Bool.and_false, Bool.false_and]
  rfl
noncomputable def KT (s0 s : wS) : Prop := wA bKt s0 s ∧ s.2 = s0.2
theorem KT.refl {s : wS} : KT s s := ⟨wA.refl, rfl⟩
theorem KT.trans {s t u : wS} (a : KT s t) (b : KT t u) : KT s u := ⟨a.1.trans b.1, b.2.trans a.2⟩
theorem KT_I {s0 s : wS} {k b : Nat} {v : Int32} (h : bKt k b = true) (g : KT s0 s) : KT s0 (wupI s k b v) := ⟨g.1.trans (wA_I h), g.2⟩
section KTP
variable {s0 s : wS} {k n k1 n1 b : Nat} {i v sp dp m : Int32}
theorem kt_stI (h : ∀ b, bKt k b = true) (g : KT s0 s) : PK (wstI s k n i v) (KT s0) := by
  unfold wstI
  exact pk_ite (fun _ => pk_none) (fun _ => pk_some (KT_I (h _) g))
theorem kt_stZ (h : ∀ b, bKt k b = true) (g : KT s0 s) : PK (wstZ s k n i v) (KT s0) := by
  unfold wstZ
  exact pk_ite (fun _ => pk_none) (fun _ => pk_some (KT_I (h _) g))
theorem kt_stB (h : ∀ b, bKt k b = true) (g : KT s0 s) : PK (wstB s k n i v) (KT s0) := by
  unfold wstB
  exact pk_ite (fun _ => pk_none) (fun _ => pk_some (KT_I (h _) g))
theorem kt_pfI (h : bKt k b = true) (g : KT s0 s) : PK (wpfI s k b v) (KT s0) := pk_some (KT_I h g)
theorem kt_pfZ (h : bKt k b = true) (g : KT s0 s) : PK (wpfZ s k b v) (KT s0) := by
  unfold wpfZ
  exact pk_ite (fun _ => pk_some (KT_I h g)) (fun _ => pk_none)
theorem kt_cpI (h : ∀ b, bKt k1 b = true) (g : KT s0 s) : PK (wcpI s k n k1 n1 sp dp m) (KT s0) := by
  unfold wcpI
  refine pk_ite (fun _ => pk_some ⟨g.1.trans (fun j b hb => ?_), g.2⟩) (fun _ => pk_none)
  dsimp only
  rw [if_neg]
  intro q
  subst q
  rw [h b] at hb
  cases hb
theorem pk_ldR26 : PK (wldR 26 n i) (fun k => 104 ≤ k ∧ k ≤ 140) := by
  unfold wldR
  refine pk_ite (fun _ => pk_none) (fun _ => ?_)
  intro a e
  have w : wrA 26 i.toNatClampNeg = bif Nat.blt i.toNatClampNeg 4 then some (105 + 12 * i.toNatClampNeg) else none := rfl
  cases hb : Nat.blt i.toNatClampNeg 4 with
  | false =>
    rw [w, hb] at e
    cases e
  | true =>
    rw [w, hb] at e
    have h4 := Nat.le_of_ble_eq_true hb
    have e' : some (105 + 12 * i.toNatClampNeg - 1) = some a := e
    have := Option.some.inj e'
    omega
theorem pk_ldR13 : PK (wldR 13 n i) (fun k => k = 44 + 10 * i.toNatClampNeg) := by
  unfold wldR
  refine pk_ite (fun _ => pk_none) (fun _ => ?_)
  intro a e
  have w : wrA 13 i.toNatClampNeg = bif Nat.blt i.toNatClampNeg 6 then some (45 + 10 * i.toNatClampNeg) else none := rfl
  cases hb : Nat.blt i.toNatClampNeg 6 with
  | false =>
    rw [w, hb] at e
    cases e
  | true =>
    rw [w, hb] at e
    have e' : some (45 + 10 * i.toNatClampNeg - 1) = some a := e
    have := Option.some.inj e'
    omega
/-- the longs are left as they were -/
noncomputable def KLo (s0 s : wS) : Prop := s.2 = s0.2
theorem KLo.refl : KLo s s := rfl
theorem kl_stI (g : KLo s0 s) : PK (wstI s k n i v) (KLo s0) := by
  unfold wstI
  exact pk_ite (fun _ => pk_none) (fun _ => pk_some g)
theorem kl_stZ (g : KLo s0 s) : PK (wstZ s k n i v) (KLo s0) := by
  unfold wstZ
  exact pk_ite (fun _ => pk_none) (fun _ => pk_some g)
theorem kl_stB (g : KLo s0 s) : PK (wstB s k n i v) (KLo s0) := by
  unfold wstB
  exact pk_ite (fun _ => pk_none) (fun _ => pk_some g)
theorem kl_pfI (g : KLo s0 s) : PK (wpfI s k b v) (KLo s0) := pk_some g
theorem kl_pfZ (g : KLo s0 s) : PK (wpfZ s k b v) (KLo s0) := by
  unfold wpfZ
  exact pk_ite (fun _ => pk_some g) (fun _ => pk_none)
theorem kl_cpI (g : KLo s0 s) : PK (wcpI s k n k1 n1 sp dp m) (KLo s0) := by
  unfold wcpI
  exact pk_ite (fun _ => pk_some g) (fun _ => pk_none)
end KTP
theorem ofN_inj {a b : Nat} (ha : a ≤ 1000) (hb : b ≤ 1000) (h : Int32.ofNat a = Int32.ofNat b) : a = b := by
  have := congrArg Int32.toInt h
  rw [t_on (by omega), t_on (by omega)] at this
  omega
/-- a LAW's code says which it is -/
theorem CLc.uniq {k : Nat} {x x' : lC} {s : wS} (h : CLc k x s) (h' : CLc k x' s) : x.2.2 = x'.2.2 := by
  obtain ⟨⟨c1, c2, c3⟩, ⟨⟨l1, l2⟩, l3⟩, -⟩ := h
  obtain ⟨⟨d1, d2, d3⟩, ⟨⟨m1, m2⟩, m3⟩, -⟩ := h'
  have n1 : x.2.2.1.length = x'.2.2.1.length := ofN_inj (by omega) (by omega) (c1.symm.trans d1)
  have n2 : x.2.2.2.length = x'.2.2.2.length := ofN_inj (by omega) (by omega) (l1.symm.trans m1)
  refine Prod.ext (List.ext_getElem n1 (fun i h1 h2 => ?_)) (List.ext_getElem n2 (fun i h1 h2 => ?_))
  · exact (c3 i _ (List.getElem?_eq_getElem h1)).1.symm.trans (d3 i _ (List.getElem?_eq_getElem h2)).1
  · obtain ⟨a1, a2, a3, a4, a5, ⟨a6, a7, a8⟩, -⟩ := l3 i _ (List.getElem?_eq_getElem h1)
    obtain ⟨b1, b2, b3, b4, b5, ⟨b6, b7, b8⟩, -⟩ := m3 i _ (List.getElem?_eq_getElem h2)
    have e1 := a1.symm.trans b1
    have e2 := ofN_inj (by omega) (by omega) (a2.symm.trans b2)
    have e3 := ofN_inj (by omega) (by omega) (a3.symm.trans b3)
    have e4 := ofN_inj (by omega) (by omega) (a4.symm.trans b4)
    have e5 := Bool.eq_iff_iff.2 (a5.trans ((by rw [e3, e4] : _ ↔ _).trans b5.symm))
    exact Prod.ext e1 (Prod.ext e2 (Prod.ext e3 (Prod.ext e4 e5)))
theorem FVx_x {x x' : lC} (e : x.2.2 = x'.2.2) : FVx x' = FVx x := by
  funext f kd a b
  unfold FVx cdL
  rw [e]
theorem TBL.x {l : Nat} {x x' : lC} {s : wS} (t : TBL l x s) (e : x.2.2 = x'.2.2) : TBL l x' s := by
  intro j hj
  unfold TBk
  rw [FVx_x e]
  exact t j hj
theorem WD_cg2 {f f' : Nat → Int32} {kd : Int32} {a b : Nat} (h1 : kd = 1 → (f' (10 + 2 * a) = f (10 + 2 * a) ∧ f' (10 + 2 * a + 1) = f (10 + 2 * a + 1)) ∧ (f' (10 + 2 * b) = f (10 + 2 * b) ∧ f' (10 + 2 * b + 1) = f (10 + 2 * b + 1))) (h2 : kd = 2 → (f' (26 + 2 * a) = f (26 + 2 * a) ∧ f' (26 + 2 * a + 1) = f (26 + 2 * a + 1)) ∧ (f' (26 + 2 * b) = f (26 + 2 * b) ∧ f' (26 + 2 * b + 1) = f (26 + 2 * b + 1))) : WD f' kd a b = WD f kd a b := by
  funext j
  unfold WD
  by_cases k1 : kd = 1
  · obtain ⟨⟨e1, e2⟩, e3, e4⟩ := h1 k1
    have n2 : ¬ kd = 2 := by rw [k1]; decide
    simp only [if_neg n2, if_pos k1, e1, e2, e3, e4]
  · by_cases k2 : kd = 2
    · obtain ⟨⟨e1, e2⟩, e3, e4⟩ := h2 k2
      simp only [if_neg k1, if_pos k2, e1, e2, e3, e4]
    · simp only [if_neg k1, if_neg k2]
section TOLD
variable {s s2 : wS}
/-- the COURT is the same -/
theorem court_same (g : JA s) (g2 : JA s2) (hc : ∀ k, 16 ≤ k → k ≤ 18 → s2.1 k = s.1 k) : (∀ j, j < 3 → s2.1 163 j = s.1 163 j) ∧ (∀ i : Nat, (i : Int) < (s.1 163 1).toInt → s2.1 163 (10 + 2 * i) = s.1 163 (10 + 2 * i) ∧ s2.1 163 (10 + 2 * i + 1) = s.1 163 (10 + 2 * i + 1)) ∧ (∀ i : Nat, (i : Int) < (s.1 163 2).toInt → s2.1 163 (26 + 2 * i) = s.1 163 (26 + 2 * i) ∧ s2.1 163 (26 + 2 * i + 1) = s.1 163 (26 + 2 * i + 1)) := by
  obtain ⟨⟨a0, a1, a2⟩, ar, am⟩ := g.h.1
  obtain ⟨⟨b0, b1, b2⟩, br, bm⟩ := g2.h.1
  have e16 := hc 16 (by decide) (by decide)
  have e17 := hc 17 (by decide) (by decide)
  have e18 := hc 18 (by decide) (by decide)
  have f0 : s2.1 163 0 = s.1 163 0 := by rw [← a0, ← b0]; exact congrFun e16 0
  have f1 : s2.1 163 1 = s.1 163 1 := by rw [← a1, ← b1]; exact congrFun e16 1
  have f2 : s2.1 163 2 = s.1 163 2 := by rw [← a2, ← b2]; exact congrFun e16 2
  refine ⟨fun j hj => ?_, fun i hi => ?_, fun i hi => ?_⟩
  · obtain rfl | rfl | rfl : j = 0 ∨ j = 1 ∨ j = 2 := by omega
    · exact f0
    · exact f1
    · exact f2
  · obtain ⟨p1, p2⟩ := ar i hi
    obtain ⟨q1, q2⟩ := br i (by rw [f1]; exact hi)
    exact ⟨by rw [← p1, ← q1]; exact congrFun e17 _, by rw [← p2, ← q2]; exact congrFun e18 _⟩
  · obtain ⟨p1, p2⟩ := am i hi
    obtain ⟨q1, q2⟩ := bm i (by rw [f2]; exact hi)
    exact ⟨by rw [← p1, ← q1]; exact congrFun e17 _, by rw [← p2, ← q2]; exact congrFun e18 _⟩
theorem TBL_told {l : Nat} {x : lC} (t : TBL l x s) (g : JA s) (g2 : JA s2) (hc : ∀ k, 16 ≤ k → k ≤ 18 → s2.1 k = s.1 k) (h8 : s2.2 (44 + 10 * l + 8) = s.2 (44 + 10 * l + 8)) (h9 : s2.1 (44 + 10 * l + 9) = s.1 (44 + 10 * l + 9)) : TBL l x s2 := by
  obtain ⟨c0, c1, c2⟩ := court_same g g2 hc
  intro j hj M hM hM8 p q hp hq
  have ej : (Int32.ofNat j).toNatClampNeg = j := t_nc (by omega)
  rw [ej, c0 j hj] at hM
  obtain ⟨t1, t2⟩ := t j hj M (by rw [ej]; exact hM) hM8 p q hp hq
  have eM : (Int32.ofNat M).toInt = M := t_on (by omega)
  have c : ∀ a b, a < M → b < M → FVx x (s.1 163) (Int32.ofNat j) a b = FVx x (s2.1 163) (Int32.ofNat j) a b := fun a b ha hb => by
    unfold FVx
    rw [WD_cg2 (f' := s2.1 163) (f := s.1 163) (fun k1 => ?_) (fun k2 => ?_)]
    · have hj1 : j = 1 := ofN_inj (by omega) (by omega) k1
      rw [hj1] at hM
      exact ⟨c1 a (by rw [hM, eM]; omega), c1 b (by rw [hM, eM]; omega)⟩
    · have hj2 : j = 2 := ofN_inj (by omega) (by omega) k2
      rw [hj2] at hM
      exact ⟨c2 a (by rw [hM, eM]; omega), c2 b (by rw [hM, eM]; omega)⟩
  refine ⟨?_, ?_⟩
  · rw [h8, t1, c p q hp hq]
  · rw [h9, t2]
    exact nb2_congr (fun d hd => ⟨c p d hp hd, c q d hq hd⟩)
theorem TBS_told (g : JB s) (g2 : JA s2) (h : ∀ l : Nat, (l : Int) < (s2.1 152 2).toInt → s2.1 (44 + 10 * l) 12 = 0 ∨ ((l : Int) < (s.1 152 2).toInt ∧ (∀ k, 16 ≤ k → k ≤ 18 → s2.1 k = s.1 k) ∧ (∀ k, 44 + 10 * l ≤ k → k ≤ 44 + 10 * l + 9 → s2.1 k = s.1 k) ∧ s2.2 (44 + 10 * l + 8) = s.2 (44 + 10 * l + 8))) : TBS s2 := by
  intro l hl
  rcases h l hl with z | ⟨hl0, hc, hi, hL⟩
  · exact Or.inl z
  · rcases g.2 l hl0 with z | ⟨x, lk, tb⟩
    · left
      rw [hi _ (by omega) (by omega)]
      exact z
    · right
      obtain ⟨x', lk'⟩ := g2.lk hl
      have cl : CLc (44 + 10 * l) x s2 := lk.1.go (by rw [hi _ (by omega) (by omega)]) (by rw [hi _ (by omega) (by omega)]) (fun j h1 h2 => hi _ (by omega) (by omega))
      exact ⟨x', lk', TBL_told (tb.x (cl.uniq lk'.1)) g.1 g2 hc hL (hi _ (by omega) (by omega))⟩
theorem JB.n (g : JB s) : (s.1 152 2).toInt ≤ 6 := g.1.1.1.2.1.2
theorem told_B {s1 : wS} (g : JB s) (k1 : KT s s1) (k2 : KT s1 s2) (g2 : JA s2) : JB s2 := by
  have k := k1.trans k2
  refine ⟨g2, TBS_told g g2 (fun l hl => Or.inr ⟨?_, fun k' h1 h2 => funext fun b => k.1 k' b (bK_hc h1 h2), fun k' h1 h2 => funext fun b => k.1 k' b (bK_tab (by omega) ?_), by rw [k.2]⟩)⟩
  · rw [← g2.2.1, k.1 0 6 rfl, g.1.2.1] at hl
    exact hl
  · have := g2.1.1.2.1.2
    omega
end TOLD
end
section
/-! What is told leaves the COURT, the LAWS and their tables. -/
theorem wX0_clear_KT {s0 : wS} {k0 : Nat} {s : wS}  (hk0_1 : ∀ b, bKt (k0 + 1) b = true) (g : KT s0 s) : PK (wX0_clear k0 s) (fun (r : wS) => KT s0 r) := by
  unfold wX0_clear
  refine pk_bind (kt_stI hk0_1 g) (fun s1 g1 => ?_)
  refine pk_bind (kt_stI hk0_1 g1) (fun s2 g2 => ?_)
  refine pk_bind (kt_stI hk0_1 g2) (fun s3 g3 => ?_)
  exact pk_some g3
theorem wX0_setHours_j19_KT {s0 : wS} {k100 : Nat} {y1 : Int32} {y2 : Int32} {s : wS}  (hk100_0 : ∀ b, bKt (k100) b = true) (g : KT s0 s) : PK (wX0_setHours_j19 k100 y1 y2 s) (fun (r : wS) => KT s0 r) := by
  unfold wX0_setHours_j19
  refine pk_bind (kt_stI hk100_0 g) (fun s4 g1 => ?_)
  exact pk_some g1
theorem wX0_setHours_KT {s0 : wS} {k0 : Nat} {x1 : Int32} {s : wS}  (hk0_1 : ∀ b, bKt (k0 + 1) b = true) (g : KT s0 s) : PK (wX0_setHours k0 x1 s) (fun (r : wS) => KT s0 r) := by
  unfold wX0_setHours
  refine pk_bind pk_any (fun t1 _ => ?_)
  refine pk_ite (fun _ => ?_) (fun _ => ?_)
  · exact wX0_setHours_j19_KT hk0_1 g
  · exact wX0_setHours_j19_KT hk0_1 g
theorem wX10_set_KT {s0 : wS} {k0 : Nat} {x1 : Int32} {x2 : Int32} {s : wS}  (hk0_0 : ∀ b, bKt (k0) b = true) (g : KT s0 s) : PK (wX10_set k0 x1 x2 s) (fun (r : wS) => KT s0 r) := by
  unfold wX10_set
  refine pk_ite (fun _ => ?_) (fun _ => ?_)
  · exact pk_some g
  · refine pk_ite (fun _ => ?_) (fun _ => ?_)
    · refine pk_bind (kt_stI hk0_0 g) (fun s3 g1 => ?_)
      exact pk_some g1
    · exact pk_some g
theorem wX0_add_KT {s0 : wS} {k0 : Nat} {x1 : Int32} {x2 : Int32} {x3 : Int32} {s : wS}  (hk0_1 : ∀ b, bKt (k0 + 1) b = true) (hk0_2 : ∀ b, bKt (k0 + 2) b = true) (hk0_3 : ∀ b, bKt (k0 + 3) b = true) (g : KT s0 s) : PK (wX0_add k0 x1 x2 x3 s) (fun (r : wS) => KT s0 r) := by
  unfold wX0_add
  refine pk_bind pk_any (fun t1 _ => ?_)
  refine pk_ite (fun _ => ?_) (fun _ => ?_)
  · refine pk_bind pk_any (fun t4 _ => ?_)
    refine pk_bind (wX10_set_KT hk0_2 g) (fun s7 g1 => ?_)
    refine pk_bind pk_any (fun t9 _ => ?_)
    refine pk_bind (wX10_set_KT hk0_3 g1) (fun s12 g2 => ?_)
    refine pk_bind (wX10_set_KT hk0_1 g2) (fun s15 g3 => ?_)
    exact pk_some g3
  · exact pk_some g
theorem wX0_becomes_KT {s0 : wS} {k0 : Nat} {k1 : Nat} {s : wS}  (hk0_1 : ∀ b, bKt (k0 + 1) b = true) (hk0_2 : ∀ b, bKt (k0 + 2) b = true) (hk0_3 : ∀ b, bKt (k0 + 3) b = true) (g : KT s0 s) : PK (wX0_becomes k0 k1 s) (fun (r : wS) => KT s0 r) := by
  unfold wX0_becomes
  refine pk_bind (kt_cpI hk0_1 g) (fun s1 g1 => ?_)
  refine pk_bind (kt_cpI hk0_2 g1) (fun s2 g2 => ?_)
  refine pk_bind (kt_cpI hk0_3 g2) (fun s3 g3 => ?_)
  exact pk_some g3
theorem wX9_skip_KT {s0 : wS} {s : wS}   (g : KT s0 s) : PK (wX9_skip s) (fun (r : wS) => KT s0 r) := by
  unfold wX9_skip
  refine pk_ite (fun _ => ?_) (fun _ => ?_)
  · refine pk_bind (kt_pfI rfl g) (fun s2 g1 => ?_)
    exact pk_some g1
  · exact pk_some g
theorem wX9_fail_j29_KT {s0 : wS} {s : wS}   (g : KT s0 s) : PK (wX9_fail_j29 s) (fun (r : wS) => KT s0 r) := by
  unfold wX9_fail_j29
  refine pk_bind (kt_pfI rfl g) (fun s5 g1 => ?_)
  exact pk_some g1
theorem wX9_fail_KT {s0 : wS} {x1 : Int32} {s : wS}   (g : KT s0 s) : PK (wX9_fail x1 s) (fun (r : wS) => KT s0 r) := by
  unfold wX9_fail
  refine pk_ite (fun _ => ?_) (fun _ => ?_)
  · refine pk_bind pk_any (fun t2 _ => ?_)
    refine pk_bind (kt_pfI rfl g) (fun s4 g1 => ?_)
    exact wX9_fail_j29_KT g1
  · exact wX9_fail_j29_KT g
theorem wX9_takeNumber_j45_KT {s0 : wS} {x3 : Int32} {s : wS}   (g : KT s0 s) : PK (wX9_takeNumber_j45 x3 s) (fun (r : Int32 × wS) => KT s0 r.2) := by
  unfold wX9_takeNumber_j45
  refine pk_bind (wX9_fail_KT g) (fun s8 g1 => ?_)
  exact pk_some g1
theorem wX9_takeNumber_KT {s0 : wS} {x1 : Int32} {x2 : Int32} {s : wS}   (g : KT s0 s) : PK (wX9_takeNumber x1 x2 s) (fun (r : Int32 × wS) => KT s0 r.2) := by
  unfold wX9_takeNumber
  refine pk_bind pk_any (fun t1 _ => ?_)
  refine pk_bind pk_any (fun t3 _ => ?_)
  refine pk_ite (fun _ => ?_) (fun _ => ?_)
  · refine pk_ite (fun _ => ?_) (fun _ => ?_)
    · exact wX9_takeNumber_j45_KT g
    · refine pk_ite (fun _ => ?_) (fun _ => ?_)
      · exact wX9_takeNumber_j45_KT g
      · refine pk_bind (wX9_skip_KT g) (fun s12 g1 => ?_)
        exact pk_some g1
  · refine pk_bind (wX9_fail_KT g) (fun s15 g2 => ?_)
    exact pk_some g2
theorem wX1_readClause_j121_KT {s0 : wS} {k100 : Nat} {y1 : Int32} {y2 : Int32} {y4 : Int32} {y5 : Int32} {s : wS}  (hk100_1 : ∀ b, bKt (k100 + 1) b = true) (hk100_2 : ∀ b, bKt (k100 + 2) b = true) (hk100_3 : ∀ b, bKt (k100 + 3) b = true) (g : KT s0 s) : PK (wX1_readClause_j121 k100 y1 y2 y4 y5 s) (fun (r : wS) => KT s0 r) := by
  unfold wX1_readClause_j121
  refine pk_bind (wX9_takeNumber_KT g) (fun p1 h2 => ?_)
  obtain ⟨t26, s27⟩ := p1
  have g3 : KT s0 s27 := h2
  dsimp only
  refine pk_bind (wX0_add_KT hk100_1 hk100_2 hk100_3 g3) (fun s30 g4 => ?_)
  exact pk_some g4
theorem wX1_readClause_j51_KT {s0 : wS} {k2 : Nat} {x4 : Int32} {y0 : Int32} {s : wS}  (hk2_1 : ∀ b, bKt (k2 + 1) b = true) (hk2_2 : ∀ b, bKt (k2 + 2) b = true) (hk2_3 : ∀ b, bKt (k2 + 3) b = true) (g : KT s0 s) : PK (wX1_readClause_j51 k2 x4 y0 s) (fun (r : wS) => KT s0 r) := by
  unfold wX1_readClause_j51
  refine pk_ite (fun _ => ?_) (fun _ => ?_)
  · refine pk_bind (wX9_skip_KT g) (fun s12 g1 => ?_)
    refine pk_ite (fun _ => ?_) (fun _ => ?_)
    · refine pk_bind (wX9_takeNumber_KT g1) (fun p2 h3 => ?_)
      obtain ⟨t15, s16⟩ := p2
      have g4 : KT s0 s16 := h3
      dsimp only
      refine pk_bind (wX0_setHours_KT hk2_1 g4) (fun s19 g5 => ?_)
      refine pk_bind (kt_pfZ rfl g5) (fun s21 g6 => ?_)
      exact pk_some g6
    · refine pk_bind (wX9_takeNumber_KT g1) (fun p7 h8 => ?_)
      obtain ⟨t22, s23⟩ := p7
      have g9 : KT s0 s23 := h8
      dsimp only
      refine pk_ite (fun _ => ?_) (fun _ => ?_)
      · exact wX1_readClause_j121_KT hk2_1 hk2_2 hk2_3 g9
      · exact wX1_readClause_j121_KT hk2_1 hk2_2 hk2_3 g9
  · refine pk_bind (wX9_fail_KT g) (fun s33 g10 => ?_)
    exact pk_some g10
theorem wX1_readClause_KT {s0 : wS} {k2 : Nat} {s : wS}  (hk2_1 : ∀ b, bKt (k2 + 1) b = true) (hk2_2 : ∀ b, bKt (k2 + 2) b = true) (hk2_3 : ∀ b, bKt (k2 + 3) b = true) (g : KT s0 s) : PK (wX1_readClause k2 s) (fun (r : wS) => KT s0 r) := by
  unfold wX1_readClause
  refine pk_bind pk_any (fun t1 _ => ?_)
  refine pk_bind pk_any (fun t3 _ => ?_)
  refine pk_ite (fun _ => ?_) (fun _ => ?_)
  · refine pk_bind (wX9_fail_KT g) (fun s7 g1 => ?_)
    exact pk_some g1
  · refine pk_ite (fun _ => ?_) (fun _ => ?_)
    · exact wX1_readClause_j51_KT hk2_1 hk2_2 hk2_3 g
    · refine pk_bind pk_any (fun t35 _ => ?_)
      refine pk_ite (fun _ => ?_) (fun _ => ?_)
      · exact wX1_readClause_j51_KT hk2_1 hk2_2 hk2_3 g
      · exact wX1_readClause_j51_KT hk2_1 hk2_2 hk2_3 g
theorem wX9_take_KT {s0 : wS} {x1 : Int32} {s : wS}   (g : KT s0 s) : PK (wX9_take x1 s) (fun (r : Int32 × wS) => KT s0 r.2) := by
  unfold wX9_take
  refine pk_bind pk_any (fun t1 _ => ?_)
  refine pk_ite (fun _ => ?_) (fun _ => ?_)
  · refine pk_bind (wX9_skip_KT g) (fun s5 g1 => ?_)
    exact pk_some g1
  · exact pk_some g
theorem wX1_read_h14_KT {s0 : wS} {k2 : Nat}  (hk2_1 : ∀ b, bKt (k2 + 1) b = true) (hk2_2 : ∀ b, bKt (k2 + 2) b = true) (hk2_3 : ∀ b, bKt (k2 + 3) b = true) : ∀ (n : Nat) {x3 : Int32} {x4 : Int32} {s : wS}, KT s0 s → PK (wX1_read_h14 k2 n x3 x4 s) (fun (r : wS) => KT s0 r) := by
  intro n
  induction n with
  | zero =>
    intro x3 x4 s g
    rw [wX1_read_h14]
    exact pk_none
  | succ n ih =>
    intro x3 x4 s g
    rw [wX1_read_h14]
    refine pk_ite (fun _ => ?_) (fun _ => ?_)
    · refine pk_ite (fun _ => ?_) (fun _ => ?_)
      · exact pk_some g
      · refine pk_bind (wX1_readClause_KT hk2_1 hk2_2 hk2_3 g) (fun s8 g1 => ?_)
        refine pk_bind (wX9_take_KT g1) (fun p2 h3 => ?_)
        obtain ⟨t10, s11⟩ := p2
        have g4 : KT s0 s11 := h3
        dsimp only
        exact ih g4
    · exact pk_some g
theorem wX1_read_j58_KT {s0 : wS} {s : wS}   (g : KT s0 s) : PK (wX1_read_j58 s) (fun (r : wS) => KT s0 r) := by
  unfold wX1_read_j58
  refine pk_bind (wX9_fail_KT g) (fun s24 g1 => ?_)
  exact pk_some g1
theorem wX1_read_j44_KT {s0 : wS} {k2 : Nat} {s : wS}   (g : KT s0 s) : PK (wX1_read_j44 k2 s) (fun (r : wS) => KT s0 r) := by
  unfold wX1_read_j44
  refine pk_bind pk_any (fun t17 _ => ?_)
  refine pk_ite (fun _ => ?_) (fun _ => ?_)
  · refine pk_bind pk_any (fun t20 _ => ?_)
    refine pk_ite (fun _ => ?_) (fun _ => ?_)
    · exact wX1_read_j58_KT g
    · exact pk_some g
  · exact wX1_read_j58_KT g
theorem wX1_read_KT {s0 : wS} {k2 : Nat} {s : wS}  (hk2_1 : ∀ b, bKt (k2 + 1) b = true) (hk2_2 : ∀ b, bKt (k2 + 2) b = true) (hk2_3 : ∀ b, bKt (k2 + 3) b = true) (g : KT s0 s) : PK (wX1_read k2 s) (fun (r : wS) => KT s0 r) := by
  unfold wX1_read
  refine pk_bind (wX0_clear_KT hk2_1 g) (fun s2 g1 => ?_)
  refine pk_bind (kt_pfZ rfl g1) (fun s4 g2 => ?_)
  refine pk_bind (wX1_read_h14_KT hk2_1 hk2_2 hk2_3 _ g2) (fun s14 g3 => ?_)
  exact wX1_read_j44_KT g3
theorem wX2_becomes_h73_KT {s0 : wS} {k0 : Nat} {k1 : Nat}  (hk0_9 : ∀ b, bKt (k0 + 9) b = true) : ∀ (n : Nat) {x2 : Int32} {s : wS}, KT s0 s → PK (wX2_becomes_h73 k0 k1 n x2 s) (fun (r : wS) => KT s0 r) := by
  intro n
  induction n with
  | zero =>
    intro x2 s g
    rw [wX2_becomes_h73]
    exact pk_none
  | succ n ih =>
    intro x2 s g
    rw [wX2_becomes_h73]
    refine pk_ite (fun _ => ?_) (fun _ => ?_)
    · refine pk_bind pk_any (fun t9 _ => ?_)
      refine pk_bind (kt_stZ hk0_9 g) (fun s10 g1 => ?_)
      exact ih g1
    · exact pk_some g
theorem wX2_becomes_KT {s0 : wS} {k0 : Nat} {k1 : Nat} {s : wS}  (hk0_0 : ∀ b, bKt (k0) b = true) (hk0_2 : ∀ b, bKt (k0 + 2) b = true) (hk0_3 : ∀ b, bKt (k0 + 3) b = true) (hk0_4 : ∀ b, bKt (k0 + 4) b = true) (hk0_5 : ∀ b, bKt (k0 + 5) b = true) (hk0_6 : ∀ b, bKt (k0 + 6) b = true) (hk0_7 : ∀ b, bKt (k0 + 7) b = true) (hk0_8 : ∀ b, bKt (k0 + 8) b = true) (hk0_9 : ∀ b, bKt (k0 + 9) b = true) (hk0_10 : ∀ b, bKt (k0 + 10) b = true) (hk0_11 : ∀ b, bKt (k0 + 11) b = true) (g : KT s0 s) : PK (wX2_becomes k0 k1 s) (fun (r : wS) => KT s0 r) := by
  unfold wX2_becomes
  refine pk_bind (wX0_becomes_KT hk0_2 hk0_3 hk0_4 g) (fun s2 g1 => ?_)
  refine pk_bind (kt_cpI hk0_5 g1) (fun s4 g2 => ?_)
  refine pk_bind (kt_cpI hk0_6 g2) (fun s5 g3 => ?_)
  refine pk_bind (kt_cpI hk0_7 g3) (fun s6 g4 => ?_)
  refine pk_bind (kt_cpI hk0_8 g4) (fun s7 g5 => ?_)
  refine pk_bind (wX2_becomes_h73_KT hk0_9 _ g5) (fun s12 g6 => ?_)
  refine pk_bind (kt_pfI (hk0_0 _) g6) (fun s14 g7 => ?_)
  refine pk_bind (kt_pfI (hk0_0 _) g7) (fun s15 g8 => ?_)
  refine pk_bind (kt_cpI hk0_10 g8) (fun s16 g9 => ?_)
  refine pk_bind (kt_cpI hk0_11 g9) (fun s17 g10 => ?_)
  refine pk_bind (kt_pfI (hk0_0 _) g10) (fun s18 g11 => ?_)
  refine pk_bind (kt_pfI (hk0_0 _) g11) (fun s19 g12 => ?_)
  exact pk_some g12
theorem wX2_takeDown_KT {s0 : wS} {k0 : Nat} {x1 : Int32} {x2 : Int32} {x3 : Int32} {x4 : Int32} {s : wS}  (hk0_0 : ∀ b, bKt (k0) b = true) (hk0_5 : ∀ b, bKt (k0 + 5) b = true) (hk0_6 : ∀ b, bKt (k0 + 6) b = true) (hk0_7 : ∀ b, bKt (k0 + 7) b = true) (hk0_8 : ∀ b, bKt (k0 + 8) b = true) (hk0_9 : ∀ b, bKt (k0 + 9) b = true) (g : KT s0 s) : PK (wX2_takeDown k0 x1 x2 x3 x4 s) (fun (r : Int32 × wS) => KT s0 r.2) := by
  unfold wX2_takeDown
  refine pk_bind pk_any (fun t1 _ => ?_)
  refine pk_ite (fun _ => ?_) (fun _ => ?_)
  · refine pk_bind (kt_stI hk0_5 g) (fun s4 g1 => ?_)
    refine pk_bind (kt_stI hk0_6 g1) (fun s5 g2 => ?_)
    refine pk_bind (kt_stI hk0_7 g2) (fun s6 g3 => ?_)
    refine pk_bind (kt_stI hk0_8 g3) (fun s7 g4 => ?_)
    refine pk_bind (kt_stZ hk0_9 g4) (fun s8 g5 => ?_)
    refine pk_bind (kt_pfI (hk0_0 _) g5) (fun s9 g6 => ?_)
    exact pk_some g6
  · exact pk_some g
theorem wX2_setStruck_KT {s0 : wS} {k0 : Nat} {x1 : Int32} {x2 : Int32} {s : wS}  (hk0_9 : ∀ b, bKt (k0 + 9) b = true) (g : KT s0 s) : PK (wX2_setStruck k0 x1 x2 s) (fun (r : wS) => KT s0 r) := by
  unfold wX2_setStruck
  refine pk_bind pk_any (fun t1 _ => ?_)
  refine pk_ite (fun _ => ?_) (fun _ => ?_)
  · refine pk_bind (kt_stZ hk0_9 g) (fun s4 g1 => ?_)
    exact pk_some g1
  · exact pk_some g
theorem wX2_judge_KT {s0 : wS} {k0 : Nat} {x1 : Int32} {s : wS}  (hk0_0 : ∀ b, bKt (k0) b = true) (hk0_10 : ∀ b, bKt (k0 + 10) b = true) (hk0_11 : ∀ b, bKt (k0 + 11) b = true) (g : KT s0 s) : PK (wX2_judge k0 x1 s) (fun (r : wS) => KT s0 r) := by
  unfold wX2_judge
  refine pk_bind pk_any (fun t1 _ => ?_)
  refine pk_ite (fun _ => ?_) (fun _ => ?_)
  · refine pk_bind (kt_stI hk0_10 g) (fun s4 g1 => ?_)
    refine pk_bind (kt_stI hk0_11 g1) (fun s5 g2 => ?_)
    refine pk_bind (kt_pfI (hk0_0 _) g2) (fun s6 g3 => ?_)
    exact pk_some g3
  · exact pk_some g
theorem wX8_putNumber_j45_KT {s0 : wS} {x1 : Int32} {x2 : Int32} {s : wS} {qq : Int32 → wS → Option (wS)} (hqq : ∀ (v0 : Int32) (v1 : wS), KT s0 v1 → PK (qq v0 v1) (fun (r : wS) => KT s0 r)) (g : KT s0 s) : PK (wX8_putNumber_j45 qq x1 x2 s) (fun (r : wS) => KT s0 r) := by
  unfold wX8_putNumber_j45
  exact hqq _ _ g
theorem wX8_putNumber_h3_KT {s0 : wS} {x1 : Int32}   : ∀ (n : Nat) {x2 : Int32} {s : wS}, KT s0 s → PK (wX8_putNumber_h3 x1 n x2 s) (fun (r : wS) => KT s0 r) := by
  intro n
  induction n with
  | zero =>
    intro x2 s g
    rw [wX8_putNumber_h3]
    exact pk_none
  | succ n ih =>
    intro x2 s g
    rw [wX8_putNumber_h3]
    refine pk_ite (fun _ => ?_) (fun _ => ?_)
    · exact pk_some g
    · refine pk_bind pk_any (fun t2 _ => ?_)
      refine pk_ite (fun _ => ?_) (fun _ => ?_)
      · refine pk_bind (kt_stB (fun _ => rfl) g) (fun s5 g1 => ?_)
        refine pk_bind (kt_pfI rfl g1) (fun s6 g2 => ?_)
        exact wX8_putNumber_j45_KT (fun _ _ g => ih g) g2
      · exact wX8_putNumber_j45_KT (fun _ _ g => ih g) g
theorem wX8_putNumber_KT {s0 : wS} {x1 : Int32} {s : wS}   (g : KT s0 s) : PK (wX8_putNumber x1 s) (fun (r : wS) => KT s0 r) := by
  unfold wX8_putNumber
  refine pk_bind (wX8_putNumber_h3_KT _ g) (fun s8 g1 => ?_)
  exact pk_some g1
theorem wX9_put_KT {s0 : wS} {x1 : Int32} {x2 : Int32} {x3 : Int32} {s : wS}   (g : KT s0 s) : PK (wX9_put x1 x2 x3 s) (fun (r : wS) => KT s0 r) := by
  unfold wX9_put
  refine pk_bind pk_any (fun t1 _ => ?_)
  refine pk_ite (fun _ => ?_) (fun _ => ?_)
  · refine pk_bind (kt_stI (fun _ => rfl) g) (fun s4 g1 => ?_)
    refine pk_bind (kt_stI (fun _ => rfl) g1) (fun s5 g2 => ?_)
    refine pk_bind (kt_stI (fun _ => rfl) g2) (fun s6 g3 => ?_)
    refine pk_bind (kt_pfI rfl g3) (fun s7 g4 => ?_)
    exact pk_some g4
  · exact pk_some g
theorem wX10_feed_KT {s0 : wS} {x1 : Int32} {x2 : Int32} {x3 : Int32} {x4 : Int32} {x5 : Int32} {s : wS}   (g : KT s0 s) : PK (wX10_feed x1 x2 x3 x4 x5 s) (fun (r : Int32 × wS) => KT s0 r.2) := by
  unfold wX10_feed
  refine pk_ite (fun _ => ?_) (fun _ => ?_)
  · exact pk_some g
  · refine pk_bind (wX8_putNumber_KT g) (fun s3 g1 => ?_)
    refine pk_bind (wX8_putNumber_KT g1) (fun s6 g2 => ?_)
    refine pk_bind (wX8_putNumber_KT g2) (fun s9 g3 => ?_)
    refine pk_bind (wX8_putNumber_KT g3) (fun s12 g4 => ?_)
    refine pk_bind (wX8_putNumber_KT g4) (fun s15 g5 => ?_)
    exact pk_some g5
theorem wX10_end_KT {s0 : wS} {x1 : Int32} {s : wS}   (g : KT s0 s) : PK (wX10_end x1 s) (fun (r : Int32 × wS) => KT s0 r.2) := by
  unfold wX10_end
  refine pk_ite (fun _ => ?_) (fun _ => ?_)
  · exact pk_some g
  · refine pk_ite (fun _ => ?_) (fun _ => ?_)
    · exact pk_some g
    · refine pk_bind (kt_pfI rfl g) (fun s3 g1 => ?_)
      exact pk_some g1
theorem wX10_answer_KT {s0 : wS} {x1 : Int32} {x2 : Int32} {x3 : Int32} {x4 : Int32} {s : wS}   (g : KT s0 s) : PK (wX10_answer x1 x2 x3 x4 s) (fun (r : Int32 × wS) => KT s0 r.2) := by
  unfold wX10_answer
  refine pk_bind pk_any (fun t1 _ => ?_)
  refine pk_ite (fun _ => ?_) (fun _ => ?_)
  · refine pk_bind pk_any (fun t4 _ => ?_)
    refine pk_ite (fun _ => ?_) (fun _ => ?_)
    · refine pk_bind pk_any (fun t7 _ => ?_)
      refine pk_ite (fun _ => ?_) (fun _ => ?_)
      · exact pk_some g
      · refine pk_bind pk_any (fun t10 _ => ?_)
        refine pk_ite (fun _ => ?_) (fun _ => ?_)
        · exact pk_some g
        · refine pk_ite (fun _ => ?_) (fun _ => ?_)
          · exact pk_some g
          · refine pk_bind (wX2_takeDown_KT (fun _ => rfl) (fun _ => rfl) (fun _ => rfl) (fun _ => rfl) (fun _ => rfl) (fun _ => rfl) g) (fun p1 h2 => ?_)
            obtain ⟨t14, s15⟩ := p1
            have g3 : KT s0 s15 := h2
            dsimp only
            exact pk_some g3
    · exact pk_some g
  · exact pk_some g
theorem wX10_strike_KT {s0 : wS} {x1 : Int32} {x2 : Int32} {s : wS}   (g : KT s0 s) : PK (wX10_strike x1 x2 s) (fun (r : Int32 × wS) => KT s0 r.2) := by
  unfold wX10_strike
  refine pk_bind pk_any (fun t1 _ => ?_)
  refine pk_ite (fun _ => ?_) (fun _ => ?_)
  · exact pk_some g
  · refine pk_bind pk_any (fun t4 _ => ?_)
    refine pk_ite (fun _ => ?_) (fun _ => ?_)
    · exact pk_some g
    · refine pk_bind (wX2_setStruck_KT (fun _ => rfl) g) (fun s8 g1 => ?_)
      exact pk_some g1
theorem wX10_only_KT {s0 : wS} {x1 : Int32} {s : wS}   (g : KT s0 s) : PK (wX10_only x1 s) (fun (r : Int32 × wS) => KT s0 r.2) := by
  unfold wX10_only
  refine pk_ite (fun _ => ?_) (fun _ => ?_)
  · exact pk_some g
  · refine pk_ite (fun _ => ?_) (fun _ => ?_)
    · exact pk_some g
    · refine pk_bind (kt_pfI rfl g) (fun s3 g1 => ?_)
      exact pk_some g1
theorem wX10_seed_KT {s0 : wS} {x1 : Int32} {s : wS}   (g : KT s0 s) : PK (wX10_seed x1 s) (fun (r : Int32 × wS) => KT s0 r.2) := by
  unfold wX10_seed
  refine pk_ite (fun _ => ?_) (fun _ => ?_)
  · exact pk_some g
  · refine pk_bind (kt_pfI rfl g) (fun s2 g1 => ?_)
    exact pk_some g1
theorem wX10_verdict_KT {s0 : wS} {x1 : Int32} {s : wS}   (g : KT s0 s) : PK (wX10_verdict x1 s) (fun (r : Int32 × wS) => KT s0 r.2) := by
  unfold wX10_verdict
  refine pk_ite (fun _ => ?_) (fun _ => ?_)
  · refine pk_bind (kt_pfI rfl g) (fun s2 g1 => ?_)
    exact pk_some g1
  · refine pk_bind pk_any (fun t3 _ => ?_)
    refine pk_bind pk_any (fun t5 _ => ?_)
    refine pk_ite (fun _ => ?_) (fun _ => ?_)
    · refine pk_ite (fun _ => ?_) (fun _ => ?_)
      · refine pk_bind (wX2_judge_KT (fun _ => rfl) (fun _ => rfl) (fun _ => rfl) g) (fun s10 g2 => ?_)
        exact pk_some g2
      · exact pk_some g
    · exact pk_some g
theorem wX10_image_KT {s0 : wS} {x1 : Int32} {s : wS}   (g : KT s0 s) : PK (wX10_image x1 s) (fun (r : Int32 × wS) => KT s0 r.2) := by
  unfold wX10_image
  refine pk_bind pk_any (fun t1 _ => ?_)
  refine pk_ite (fun _ => ?_) (fun _ => ?_)
  · refine pk_bind pk_ldR26 (fun k4 hk4 => ?_)
    refine pk_bind pk_ldR26 (fun k5 hk5 => ?_)
    refine pk_bind (wX2_becomes_KT (fun _ => bK_im0 hk5) (fun _ => bK_im hk5 (by decide)) (fun _ => bK_im hk5 (by decide)) (fun _ => bK_im hk5 (by decide)) (fun _ => bK_im hk5 (by decide)) (fun _ => bK_im hk5 (by decide)) (fun _ => bK_im hk5 (by decide)) (fun _ => bK_im hk5 (by decide)) (fun _ => bK_im hk5 (by decide)) (fun _ => bK_im hk5 (by decide)) (fun _ => bK_im hk5 (by decide)) g) (fun s7 g1 => ?_)
    refine pk_bind (kt_stZ (fun _ => rfl) g1) (fun s9 g2 => ?_)
    exact pk_some g2
  · exact pk_some g
theorem wX11_four_h3_KT {s0 : wS} {x1 : Int32}   : ∀ (n : Nat) {x2 : Int32} {s : wS}, KT s0 s → PK (wX11_four_h3 x1 n x2 s) (fun (r : wS) => KT s0 r) := by
  intro n
  induction n with
  | zero =>
    intro x2 s g
    rw [wX11_four_h3]
    exact pk_none
  | succ n ih =>
    intro x2 s g
    rw [wX11_four_h3]
    refine pk_ite (fun _ => ?_) (fun _ => ?_)
    · exact pk_some g
    · refine pk_bind (kt_stB (fun _ => rfl) g) (fun s2 g1 => ?_)
      refine pk_bind (kt_pfI rfl g1) (fun s3 g2 => ?_)
      exact ih g2
theorem wX11_four_KT {s0 : wS} {x1 : Int32} {s : wS}   (g : KT s0 s) : PK (wX11_four x1 s) (fun (r : wS) => KT s0 r) := by
  unfold wX11_four
  refine pk_bind (wX11_four_h3_KT _ g) (fun s5 g1 => ?_)
  exact pk_some g1
theorem wX11_feed_KT {s0 : wS} {x1 : Int32} {x2 : Int32} {x3 : Int32} {x4 : Int32} {x5 : Int32} {s : wS}   (g : KT s0 s) : PK (wX11_feed x1 x2 x3 x4 x5 s) (fun (r : Int32 × wS) => KT s0 r.2) := by
  unfold wX11_feed
  refine pk_ite (fun _ => ?_) (fun _ => ?_)
  · exact pk_some g
  · refine pk_bind (wX11_four_KT g) (fun s3 g1 => ?_)
    refine pk_bind (wX11_four_KT g1) (fun s6 g2 => ?_)
    refine pk_bind (wX11_four_KT g2) (fun s9 g3 => ?_)
    refine pk_bind (wX11_four_KT g3) (fun s12 g4 => ?_)
    refine pk_bind (wX11_four_KT g4) (fun s15 g5 => ?_)
    exact pk_some g5
theorem wX11_end_KT {s0 : wS} {x1 : Int32} {s : wS}   (g : KT s0 s) : PK (wX11_end x1 s) (fun (r : Int32 × wS) => KT s0 r.2) := by
  unfold wX11_end
  refine pk_ite (fun _ => ?_) (fun _ => ?_)
  · exact pk_some g
  · refine pk_ite (fun _ => ?_) (fun _ => ?_)
    · exact pk_some g
    · refine pk_bind (kt_pfI rfl g) (fun s3 g1 => ?_)
      exact pk_some g1
theorem wX11_fails_KT {s0 : wS} {x1 : Int32} {x2 : Int32} {s : wS}   (g : KT s0 s) : PK (wX11_fails x1 x2 s) (fun (r : Int32 × wS) => KT s0 r.2) := by
  unfold wX11_fails
  refine pk_ite (fun _ => ?_) (fun _ => ?_)
  · refine pk_bind (kt_pfI rfl g) (fun s2 g1 => ?_)
    exact pk_some g1
  · exact pk_some g
theorem wX11_see_h0_KT {s0 : wS}    : ∀ (n : Nat) {s : wS}, KT s0 s → PK (wX11_see_h0 n s) (fun (r : wS) => KT s0 r) := by
  intro n
  induction n with
  | zero =>
    intro s g
    rw [wX11_see_h0]
    exact pk_none
  | succ n ih =>
    intro s g
    rw [wX11_see_h0]
    refine pk_ite (fun _ => ?_) (fun _ => ?_)
    · refine pk_bind pk_any (fun t2 _ => ?_)
      refine pk_ite (fun _ => ?_) (fun _ => ?_)
      · refine pk_bind (kt_pfI rfl g) (fun s4 g1 => ?_)
        exact ih g1
      · exact pk_some g
    · exact pk_some g
theorem wX11_see_j38_KT {s0 : wS} {s : wS}   (g : KT s0 s) : PK (wX11_see_j38 s) (fun (r : Int32 × wS) => KT s0 r.2) := by
  unfold wX11_see_j38
  refine pk_ite (fun _ => ?_) (fun _ => ?_)
  · refine pk_bind pk_any (fun t8 _ => ?_)
    exact pk_some g
  · exact pk_some g
theorem wX11_see_KT {s0 : wS} {s : wS}   (g : KT s0 s) : PK (wX11_see s) (fun (r : Int32 × wS) => KT s0 r.2) := by
  unfold wX11_see
  refine pk_bind (wX11_see_h0_KT _ g) (fun s6 g1 => ?_)
  exact wX11_see_j38_KT g1
theorem wX11_isWord_KT {s0 : wS} {x1 : Int64} {s : wS}   (g : KT s0 s) : PK (wX11_isWord x1 s) (fun (r : Int32 × wS) => KT s0 r.2) := by
  unfold wX11_isWord
  refine pk_bind (wX11_see_KT g) (fun p1 h2 => ?_)
  obtain ⟨t1, s2⟩ := p1
  have g3 : KT s0 s2 := h2
  dsimp only
  refine pk_bind pk_any (fun p4 h5 => ?_)
  obtain ⟨t10, t11⟩ := p4
  dsimp only
  refine pk_ite (fun _ => ?_) (fun _ => ?_)
  · refine pk_ite (fun _ => ?_) (fun _ => ?_)
    · refine pk_ite (fun _ => ?_) (fun _ => ?_)
      · exact pk_some g3
      · exact pk_some g3
    · exact pk_some g3
  · exact pk_some g3
theorem wX11_passWord_h0_KT {s0 : wS}    : ∀ (n : Nat) {s : wS}, KT s0 s → PK (wX11_passWord_h0 n s) (fun (r : wS) => KT s0 r) := by
  intro n
  induction n with
  | zero =>
    intro s g
    rw [wX11_passWord_h0]
    exact pk_none
  | succ n ih =>
    intro s g
    rw [wX11_passWord_h0]
    refine pk_bind pk_any (fun t1 _ => ?_)
    refine pk_ite (fun _ => ?_) (fun _ => ?_)
    · exact pk_some g
    · refine pk_bind (kt_pfI rfl g) (fun s4 g1 => ?_)
      exact ih g1
theorem wX11_passWord_KT {s0 : wS} {s : wS}   (g : KT s0 s) : PK (wX11_passWord s) (fun (r : wS) => KT s0 r) := by
  unfold wX11_passWord
  refine pk_bind (wX11_passWord_h0_KT _ g) (fun s6 g1 => ?_)
  exact pk_some g1
theorem wX11_takesWord_KT {s0 : wS} {x1 : Int64} {s : wS}   (g : KT s0 s) : PK (wX11_takesWord x1 s) (fun (r : Int32 × wS) => KT s0 r.2) := by
  unfold wX11_takesWord
  refine pk_bind (wX11_isWord_KT g) (fun p1 h2 => ?_)
  obtain ⟨t1, s2⟩ := p1
  have g3 : KT s0 s2 := h2
  dsimp only
  refine pk_ite (fun _ => ?_) (fun _ => ?_)
  · exact pk_some g3
  · refine pk_bind (wX11_passWord_KT g3) (fun s6 g4 => ?_)
    exact pk_some g4
theorem wX11_numberHere_j75_KT {s0 : wS} {x1 : Int32} {x2 : Int32} {x3 : Int32} {x4 : Int32} {s : wS} {qq : Int32 → wS → Option (Int32 × wS)} (hqq : ∀ (v0 : Int32) (v1 : wS), KT s0 v1 → PK (qq v0 v1) (fun (r : Int32 × wS) => KT s0 r.2)) (g : KT s0 s) : PK (wX11_numberHere_j75 qq x1 x2 x3 x4 s) (fun (r : Int32 × wS) => KT s0 r.2) := by
  unfold wX11_numberHere_j75
  refine pk_bind (kt_pfI rfl g) (fun s16 g1 => ?_)
  exact hqq _ _ g1
theorem wX11_numberHere_h34_KT {s0 : wS} {x1 : Int32} {x2 : Int32} {x3 : Int32}   : ∀ (n : Nat) {x4 : Int32} {s : wS}, KT s0 s → PK (wX11_numberHere_h34 x1 x2 x3 n x4 s) (fun (r : Int32 × wS) => KT s0 r.2) := by
  intro n
  induction n with
  | zero =>
    intro x4 s g
    rw [wX11_numberHere_h34]
    exact pk_none
  | succ n ih =>
    intro x4 s g
    rw [wX11_numberHere_h34]
    refine pk_bind pk_any (fun t11 _ => ?_)
    refine pk_ite (fun _ => ?_) (fun _ => ?_)
    · exact pk_some g
    · refine pk_ite (fun _ => ?_) (fun _ => ?_)
      · refine pk_bind pk_any (fun t15 _ => ?_)
        exact wX11_numberHere_j75_KT (fun _ _ g => ih g) g
      · exact wX11_numberHere_j75_KT (fun _ _ g => ih g) g
theorem wX11_numberHere_j126_KT {s0 : wS} {s : wS}   (g : KT s0 s) : PK (wX11_numberHere_j126 s) (fun (r : Int32 × wS) => KT s0 r.2) := by
  unfold wX11_numberHere_j126
  exact pk_some g
theorem wX11_numberHere_j117_KT {s0 : wS} {x3 : Int32} {s : wS}   (g : KT s0 s) : PK (wX11_numberHere_j117 x3 s) (fun (r : Int32 × wS) => KT s0 r.2) := by
  unfold wX11_numberHere_j117
  refine pk_bind (wX11_fails_KT g) (fun p1 h2 => ?_)
  obtain ⟨t22, s23⟩ := p1
  have g3 : KT s0 s23 := h2
  dsimp only
  refine pk_ite (fun _ => ?_) (fun _ => ?_)
  · exact pk_some g3
  · exact wX11_numberHere_j126_KT g3
theorem wX11_numberHere_KT {s0 : wS} {x1 : Int32} {x2 : Int32} {s : wS}   (g : KT s0 s) : PK (wX11_numberHere x1 x2 s) (fun (r : Int32 × wS) => KT s0 r.2) := by
  unfold wX11_numberHere
  refine pk_bind (wX11_see_KT g) (fun p1 h2 => ?_)
  obtain ⟨t1, s2⟩ := p1
  have g3 : KT s0 s2 := h2
  dsimp only
  refine pk_bind pk_any (fun t4 _ => ?_)
  refine pk_ite (fun _ => ?_) (fun _ => ?_)
  · refine pk_bind (wX11_fails_KT g3) (fun p4 h5 => ?_)
    obtain ⟨t7, s8⟩ := p4
    have g6 : KT s0 s8 := h5
    dsimp only
    refine pk_bind pk_any (fun t10 _ => ?_)
    exact pk_some g6
  · refine pk_bind (wX11_numberHere_h34_KT _ g3) (fun p7 h8 => ?_)
    obtain ⟨t18, s19⟩ := p7
    have g9 : KT s0 s19 := h8
    dsimp only
    refine pk_bind (kt_pfI rfl g9) (fun s20 g10 => ?_)
    refine pk_ite (fun _ => ?_) (fun _ => ?_)
    · exact wX11_numberHere_j117_KT g10
    · refine pk_bind pk_any (fun t26 _ => ?_)
      refine pk_ite (fun _ => ?_) (fun _ => ?_)
      · exact wX11_numberHere_j117_KT g10
      · exact wX11_numberHere_j126_KT g10
theorem wX11_wordHere_KT {s0 : wS} {s : wS}   (g : KT s0 s) : PK (wX11_wordHere s) (fun (r : Int32 × wS) => KT s0 r.2) := by
  unfold wX11_wordHere
  refine pk_bind (wX11_isWord_KT g) (fun p1 h2 => ?_)
  obtain ⟨t1, s2⟩ := p1
  have g3 : KT s0 s2 := h2
  dsimp only
  refine pk_ite (fun _ => ?_) (fun _ => ?_)
  · refine pk_bind (wX11_isWord_KT g3) (fun p4 h5 => ?_)
    obtain ⟨t5, s6⟩ := p4
    have g6 : KT s0 s6 := h5
    dsimp only
    refine pk_ite (fun _ => ?_) (fun _ => ?_)
    · refine pk_bind (wX11_isWord_KT g6) (fun p7 h8 => ?_)
      obtain ⟨t9, s10⟩ := p7
      have g9 : KT s0 s10 := h8
      dsimp only
      refine pk_ite (fun _ => ?_) (fun _ => ?_)
      · refine pk_bind (wX11_isWord_KT g9) (fun p10 h11 => ?_)
        obtain ⟨t13, s14⟩ := p10
        have g12 : KT s0 s14 := h11
        dsimp only
        refine pk_ite (fun _ => ?_) (fun _ => ?_)
        · refine pk_bind (wX11_isWord_KT g12) (fun p13 h14 => ?_)
          obtain ⟨t17, s18⟩ := p13
          have g15 : KT s0 s18 := h14
          dsimp only
          refine pk_ite (fun _ => ?_) (fun _ => ?_)
          · refine pk_bind (wX11_isWord_KT g15) (fun p16 h17 => ?_)
            obtain ⟨t21, s22⟩ := p16
            have g18 : KT s0 s22 := h17
            dsimp only
            refine pk_ite (fun _ => ?_) (fun _ => ?_)
            · refine pk_bind (wX11_isWord_KT g18) (fun p19 h20 => ?_)
              obtain ⟨t25, s26⟩ := p19
              have g21 : KT s0 s26 := h20
              dsimp only
              refine pk_ite (fun _ => ?_) (fun _ => ?_)
              · refine pk_bind (wX11_isWord_KT g21) (fun p22 h23 => ?_)
                obtain ⟨t29, s30⟩ := p22
                have g24 : KT s0 s30 := h23
                dsimp only
                refine pk_ite (fun _ => ?_) (fun _ => ?_)
                · exact pk_some g24
                · exact pk_some g24
              · exact pk_some g21
            · exact pk_some g18
          · exact pk_some g15
        · exact pk_some g12
      · exact pk_some g9
    · exact pk_some g6
  · exact pk_some g3
theorem wX11_puts_KT {s0 : wS} {x1 : Int32} {x2 : Int32} {s : wS}   (g : KT s0 s) : PK (wX11_puts x1 x2 s) (fun (r : wS) => KT s0 r) := by
  unfold wX11_puts
  refine pk_bind pk_any (fun t1 _ => ?_)
  refine pk_bind (kt_stI (fun _ => rfl) g) (fun s2 g1 => ?_)
  refine pk_bind pk_any (fun t3 _ => ?_)
  refine pk_bind (kt_stI (fun _ => rfl) g1) (fun s4 g2 => ?_)
  exact pk_some g2
theorem wX11_makes_KT {s0 : wS} {x1 : Int32} {s : wS}   (g : KT s0 s) : PK (wX11_makes x1 s) (fun (r : Int32 × wS) => KT s0 r.2) := by
  unfold wX11_makes
  refine pk_ite (fun _ => ?_) (fun _ => ?_)
  · refine pk_bind (wX11_fails_KT g) (fun p1 h2 => ?_)
    obtain ⟨t2, s3⟩ := p1
    have g3 : KT s0 s3 := h2
    dsimp only
    refine pk_bind pk_any (fun t5 _ => ?_)
    exact pk_some g3
  · refine pk_bind (kt_pfI rfl g) (fun s6 g4 => ?_)
    exact pk_some g4
theorem wX11_opens_KT {s0 : wS} {x1 : Int32} {s : wS}   (g : KT s0 s) : PK (wX11_opens x1 s) (fun (r : Int32 × wS) => KT s0 r.2) := by
  unfold wX11_opens
  refine pk_ite (fun _ => ?_) (fun _ => ?_)
  · refine pk_bind (wX11_fails_KT g) (fun p1 h2 => ?_)
    obtain ⟨t2, s3⟩ := p1
    have g3 : KT s0 s3 := h2
    dsimp only
    refine pk_bind pk_any (fun t5 _ => ?_)
    exact pk_some g3
  · refine pk_bind (kt_pfI rfl g) (fun s6 g4 => ?_)
    refine pk_bind (kt_stI (fun _ => rfl) g4) (fun s7 g5 => ?_)
    refine pk_bind (kt_pfI rfl g5) (fun s8 g6 => ?_)
    exact pk_some g6
theorem wX11_settles_h0_KT {s0 : wS} {x1 : Int32}   : ∀ (n : Nat) {s : wS}, KT s0 s → PK (wX11_settles_h0 x1 n s) (fun (r : wS) => KT s0 r) := by
  intro n
  induction n with
  | zero =>
    intro s g
    rw [wX11_settles_h0]
    exact pk_none
  | succ n ih =>
    intro s g
    rw [wX11_settles_h0]
    refine pk_ite (fun _ => ?_) (fun _ => ?_)
    · refine pk_bind pk_any (fun t2 _ => ?_)
      refine pk_bind pk_any (fun t3 _ => ?_)
      refine pk_ite (fun _ => ?_) (fun _ => ?_)
      · exact pk_some g
      · refine pk_bind (kt_pfI rfl g) (fun s6 g1 => ?_)
        refine pk_bind pk_any (fun t7 _ => ?_)
        refine pk_bind (wX11_puts_KT g1) (fun s9 g2 => ?_)
        refine pk_bind pk_any (fun t11 _ => ?_)
        refine pk_ite (fun _ => ?_) (fun _ => ?_)
        · refine pk_bind (kt_pfI rfl g2) (fun s13 g3 => ?_)
          exact ih g3
        · exact ih g2
    · exact pk_some g
theorem wX11_settles_KT {s0 : wS} {x1 : Int32} {s : wS}   (g : KT s0 s) : PK (wX11_settles x1 s) (fun (r : wS) => KT s0 r) := by
  unfold wX11_settles
  refine pk_bind (wX11_settles_h0_KT _ g) (fun s15 g1 => ?_)
  exact pk_some g1
theorem wX11_value_KT {s0 : wS} {s : wS}   (g : KT s0 s) : PK (wX11_value s) (fun (r : Int32 × wS) => KT s0 r.2) := by
  unfold wX11_value
  refine pk_bind (wX11_see_KT g) (fun p1 h2 => ?_)
  obtain ⟨t1, s2⟩ := p1
  have g3 : KT s0 s2 := h2
  dsimp only
  refine pk_bind pk_any (fun t4 _ => ?_)
  refine pk_ite (fun _ => ?_) (fun _ => ?_)
  · refine pk_bind (wX11_wordHere_KT g3) (fun p4 h5 => ?_)
    obtain ⟨t7, s8⟩ := p4
    have g6 : KT s0 s8 := h5
    dsimp only
    refine pk_ite (fun _ => ?_) (fun _ => ?_)
    · refine pk_bind (wX11_fails_KT g6) (fun p7 h8 => ?_)
      obtain ⟨t11, s12⟩ := p7
      have g9 : KT s0 s12 := h8
      dsimp only
      refine pk_bind pk_any (fun t14 _ => ?_)
      exact pk_some g9
    · refine pk_bind (wX11_makes_KT g6) (fun p10 h11 => ?_)
      obtain ⟨t15, s16⟩ := p10
      have g12 : KT s0 s16 := h11
      dsimp only
      refine pk_ite (fun _ => ?_) (fun _ => ?_)
      · exact pk_some g12
      · refine pk_bind (wX11_passWord_KT g12) (fun s20 g13 => ?_)
        refine pk_bind (wX11_puts_KT g13) (fun s23 g14 => ?_)
        exact pk_some g14
  · refine pk_bind (wX11_numberHere_KT g3) (fun p15 h16 => ?_)
    obtain ⟨t25, s26⟩ := p15
    have g17 : KT s0 s26 := h16
    dsimp only
    refine pk_ite (fun _ => ?_) (fun _ => ?_)
    · exact pk_some g17
    · refine pk_bind (wX11_makes_KT g17) (fun p18 h19 => ?_)
      obtain ⟨t29, s30⟩ := p18
      have g20 : KT s0 s30 := h19
      dsimp only
      refine pk_ite (fun _ => ?_) (fun _ => ?_)
      · exact pk_some g20
      · refine pk_bind (wX11_puts_KT g20) (fun s34 g21 => ?_)
        exact pk_some g21
theorem wX11_term_j46_KT {s0 : wS} {y0 : Int32} {s : wS} {qq : wS → Option ((wS) ⊕ (wS))} (hqq : ∀ (v0 : wS), KT s0 v0 → PK (qq v0) (Sum.elim (fun (r : wS) => KT s0 r) (fun (r : wS) => KT s0 r))) (g : KT s0 s) : PK (wX11_term_j46 qq y0 s) (Sum.elim (fun (r : wS) => KT s0 r) (fun (r : wS) => KT s0 r)) := by
  unfold wX11_term_j46
  refine pk_bind (kt_pfI rfl g) (fun s11 g1 => ?_)
  refine pk_bind (wX11_value_KT g1) (fun p2 h3 => ?_)
  obtain ⟨t12, s13⟩ := p2
  have g4 : KT s0 s13 := h3
  dsimp only
  refine pk_ite (fun _ => ?_) (fun _ => ?_)
  · exact pk_some g4
  · refine pk_bind (wX11_puts_KT g4) (fun s17 g5 => ?_)
    exact hqq _ g5
theorem wX11_term_j27_KT {s0 : wS} {s : wS} {qq : wS → Option ((wS) ⊕ (wS))} (hqq : ∀ (v0 : wS), KT s0 v0 → PK (qq v0) (Sum.elim (fun (r : wS) => KT s0 r) (fun (r : wS) => KT s0 r))) (g : KT s0 s) : PK (wX11_term_j27 qq s) (Sum.elim (fun (r : wS) => KT s0 r) (fun (r : wS) => KT s0 r)) := by
  unfold wX11_term_j27
  refine pk_bind pk_any (fun t9 _ => ?_)
  refine pk_ite (fun _ => ?_) (fun _ => ?_)
  · exact wX11_term_j46_KT hqq g
  · exact wX11_term_j46_KT hqq g
theorem wX11_term_h9_KT {s0 : wS}    : ∀ (n : Nat) {s : wS}, KT s0 s → PK (wX11_term_h9 n s) (Sum.elim (fun (r : wS) => KT s0 r) (fun (r : wS) => KT s0 r)) := by
  intro n
  induction n with
  | zero =>
    intro s g
    rw [wX11_term_h9]
    exact pk_none
  | succ n ih =>
    intro s g
    rw [wX11_term_h9]
    refine pk_bind (wX11_see_KT g) (fun p1 h2 => ?_)
    obtain ⟨t5, s6⟩ := p1
    have g3 : KT s0 s6 := h2
    dsimp only
    refine pk_ite (fun _ => ?_) (fun _ => ?_)
    · exact wX11_term_j27_KT (fun _ g => ih g) g3
    · refine pk_bind (wX11_see_KT g3) (fun p4 h5 => ?_)
      obtain ⟨t19, s20⟩ := p4
      have g6 : KT s0 s20 := h5
      dsimp only
      refine pk_ite (fun _ => ?_) (fun _ => ?_)
      · exact wX11_term_j27_KT (fun _ g => ih g) g6
      · exact pk_some g6
theorem wX11_term_KT {s0 : wS} {s : wS}   (g : KT s0 s) : PK (wX11_term s) (fun (r : Int32 × wS) => KT s0 r.2) := by
  unfold wX11_term
  refine pk_bind (wX11_value_KT g) (fun p1 h2 => ?_)
  obtain ⟨t1, s2⟩ := p1
  have g3 : KT s0 s2 := h2
  dsimp only
  refine pk_ite (fun _ => ?_) (fun _ => ?_)
  · exact pk_some g3
  · refine pk_bind (wX11_term_h9_KT _ g3) (fun z23 h4 => ?_)
    rcases z23 with s24 | s26
    · have g5 : KT s0 s24 := h4
      dsimp only
      exact pk_some g5
    · have g6 : KT s0 s26 := h4
      dsimp only
      exact pk_some g6
theorem wX11_sum_j46_KT {s0 : wS} {y0 : Int32} {s : wS} {qq : wS → Option ((wS) ⊕ (wS))} (hqq : ∀ (v0 : wS), KT s0 v0 → PK (qq v0) (Sum.elim (fun (r : wS) => KT s0 r) (fun (r : wS) => KT s0 r))) (g : KT s0 s) : PK (wX11_sum_j46 qq y0 s) (Sum.elim (fun (r : wS) => KT s0 r) (fun (r : wS) => KT s0 r)) := by
  unfold wX11_sum_j46
  refine pk_bind (kt_pfI rfl g) (fun s11 g1 => ?_)
  refine pk_bind (wX11_term_KT g1) (fun p2 h3 => ?_)
  obtain ⟨t12, s13⟩ := p2
  have g4 : KT s0 s13 := h3
  dsimp only
  refine pk_ite (fun _ => ?_) (fun _ => ?_)
  · exact pk_some g4
  · refine pk_bind (wX11_puts_KT g4) (fun s17 g5 => ?_)
    exact hqq _ g5
theorem wX11_sum_j27_KT {s0 : wS} {s : wS} {qq : wS → Option ((wS) ⊕ (wS))} (hqq : ∀ (v0 : wS), KT s0 v0 → PK (qq v0) (Sum.elim (fun (r : wS) => KT s0 r) (fun (r : wS) => KT s0 r))) (g : KT s0 s) : PK (wX11_sum_j27 qq s) (Sum.elim (fun (r : wS) => KT s0 r) (fun (r : wS) => KT s0 r)) := by
  unfold wX11_sum_j27
  refine pk_bind pk_any (fun t9 _ => ?_)
  refine pk_ite (fun _ => ?_) (fun _ => ?_)
  · exact wX11_sum_j46_KT hqq g
  · exact wX11_sum_j46_KT hqq g
theorem wX11_sum_h9_KT {s0 : wS}    : ∀ (n : Nat) {s : wS}, KT s0 s → PK (wX11_sum_h9 n s) (Sum.elim (fun (r : wS) => KT s0 r) (fun (r : wS) => KT s0 r)) := by
  intro n
  induction n with
  | zero =>
    intro s g
    rw [wX11_sum_h9]
    exact pk_none
  | succ n ih =>
    intro s g
    rw [wX11_sum_h9]
    refine pk_bind (wX11_see_KT g) (fun p1 h2 => ?_)
    obtain ⟨t5, s6⟩ := p1
    have g3 : KT s0 s6 := h2
    dsimp only
    refine pk_ite (fun _ => ?_) (fun _ => ?_)
    · exact wX11_sum_j27_KT (fun _ g => ih g) g3
    · refine pk_bind (wX11_see_KT g3) (fun p4 h5 => ?_)
      obtain ⟨t19, s20⟩ := p4
      have g6 : KT s0 s20 := h5
      dsimp only
      refine pk_ite (fun _ => ?_) (fun _ => ?_)
      · exact wX11_sum_j27_KT (fun _ g => ih g) g6
      · exact pk_some g6
theorem wX11_sum_KT {s0 : wS} {s : wS}   (g : KT s0 s) : PK (wX11_sum s) (fun (r : Int32 × wS) => KT s0 r.2) := by
  unfold wX11_sum
  refine pk_bind (wX11_term_KT g) (fun p1 h2 => ?_)
  obtain ⟨t1, s2⟩ := p1
  have g3 : KT s0 s2 := h2
  dsimp only
  refine pk_ite (fun _ => ?_) (fun _ => ?_)
  · exact pk_some g3
  · refine pk_bind (wX11_sum_h9_KT _ g3) (fun z23 h4 => ?_)
    rcases z23 with s24 | s26
    · have g5 : KT s0 s24 := h4
      dsimp only
      exact pk_some g5
    · have g6 : KT s0 s26 := h4
      dsimp only
      exact pk_some g6
theorem wX11_compare_j152_KT {s0 : wS} {y0 : Int32} {s : wS}   (g : KT s0 s) : PK (wX11_compare_j152 y0 s) (fun (r : Int32 × wS) => KT s0 r.2) := by
  unfold wX11_compare_j152
  refine pk_bind (wX11_sum_KT g) (fun p1 h2 => ?_)
  obtain ⟨t18, s19⟩ := p1
  have g3 : KT s0 s19 := h2
  dsimp only
  refine pk_ite (fun _ => ?_) (fun _ => ?_)
  · exact pk_some g3
  · refine pk_bind (wX11_puts_KT g3) (fun s23 g4 => ?_)
    exact pk_some g4
theorem wX11_compare_j105_KT {s0 : wS} {x1 : Int32} {x2 : Int32} {x3 : Int32} {s : wS}   (g : KT s0 s) : PK (wX11_compare_j105 x1 x2 x3 s) (fun (r : Int32 × wS) => KT s0 r.2) := by
  unfold wX11_compare_j105
  refine pk_bind (wX11_makes_KT g) (fun p1 h2 => ?_)
  obtain ⟨t12, s13⟩ := p1
  have g3 : KT s0 s13 := h2
  dsimp only
  refine pk_ite (fun _ => ?_) (fun _ => ?_)
  · exact pk_some g3
  · refine pk_ite (fun _ => ?_) (fun _ => ?_)
    · refine pk_ite (fun _ => ?_) (fun _ => ?_)
      · exact wX11_compare_j152_KT g3
      · exact wX11_compare_j152_KT g3
    · refine pk_ite (fun _ => ?_) (fun _ => ?_)
      · exact wX11_compare_j152_KT g3
      · refine pk_ite (fun _ => ?_) (fun _ => ?_)
        · exact wX11_compare_j152_KT g3
        · exact wX11_compare_j152_KT g3
theorem wX11_compare_j90_KT {s0 : wS} {x1 : Int32} {x2 : Int32} {y0 : Int32} {s : wS}   (g : KT s0 s) : PK (wX11_compare_j90 x1 x2 y0 s) (fun (r : Int32 × wS) => KT s0 r.2) := by
  unfold wX11_compare_j90
  refine pk_ite (fun _ => ?_) (fun _ => ?_)
  · exact wX11_compare_j105_KT g
  · refine pk_bind (kt_pfI rfl g) (fun s27 g1 => ?_)
    exact wX11_compare_j105_KT g1
theorem wX11_compare_j89_KT {s0 : wS} {x1 : Int32} {x2 : Int32} {s : wS}   (g : KT s0 s) : PK (wX11_compare_j89 x1 x2 s) (fun (r : Int32 × wS) => KT s0 r.2) := by
  unfold wX11_compare_j89
  exact wX11_compare_j90_KT g
theorem wX11_compare_j44_KT {s0 : wS} {x1 : Int32} {x2 : Int32} {s : wS}   (g : KT s0 s) : PK (wX11_compare_j44 x1 x2 s) (fun (r : Int32 × wS) => KT s0 r.2) := by
  unfold wX11_compare_j44
  refine pk_bind (kt_pfI rfl g) (fun s9 g1 => ?_)
  refine pk_ite (fun _ => ?_) (fun _ => ?_)
  · exact wX11_compare_j89_KT g1
  · refine pk_ite (fun _ => ?_) (fun _ => ?_)
    · refine pk_bind pk_any (fun t29 _ => ?_)
      refine pk_ite (fun _ => ?_) (fun _ => ?_)
      · exact wX11_compare_j90_KT g1
      · exact wX11_compare_j89_KT g1
    · exact wX11_compare_j89_KT g1
theorem wX11_compare_KT {s0 : wS} {s : wS}   (g : KT s0 s) : PK (wX11_compare s) (fun (r : Int32 × wS) => KT s0 r.2) := by
  unfold wX11_compare
  refine pk_bind (wX11_sum_KT g) (fun p1 h2 => ?_)
  obtain ⟨t1, s2⟩ := p1
  have g3 : KT s0 s2 := h2
  dsimp only
  refine pk_ite (fun _ => ?_) (fun _ => ?_)
  · exact pk_some g3
  · refine pk_bind (wX11_see_KT g3) (fun p4 h5 => ?_)
    obtain ⟨t5, s6⟩ := p4
    have g6 : KT s0 s6 := h5
    dsimp only
    refine pk_ite (fun _ => ?_) (fun _ => ?_)
    · exact wX11_compare_j44_KT g6
    · refine pk_ite (fun _ => ?_) (fun _ => ?_)
      · exact wX11_compare_j44_KT g6
      · refine pk_ite (fun _ => ?_) (fun _ => ?_)
        · exact wX11_compare_j44_KT g6
        · refine pk_bind (wX11_fails_KT g6) (fun p7 h8 => ?_)
          obtain ⟨t33, s34⟩ := p7
          have g9 : KT s0 s34 := h8
          dsimp only
          refine pk_bind pk_any (fun t36 _ => ?_)
          exact pk_some g9
theorem wX11_fact_j72_KT {s0 : wS} {x1 : Int32} {s : wS} {qq : Int32 → wS → Option ((wS) ⊕ ((wS) ⊕ (wS)))} (hqq : ∀ (v0 : Int32) (v1 : wS), KT s0 v1 → PK (qq v0 v1) (Sum.elim (fun (r : wS) => KT s0 r) (Sum.elim (fun (r : wS) => KT s0 r) (fun (r : wS) => KT s0 r)))) (g : KT s0 s) : PK (wX11_fact_j72 qq x1 s) (Sum.elim (fun (r : wS) => KT s0 r) (Sum.elim (fun (r : wS) => KT s0 r) (fun (r : wS) => KT s0 r))) := by
  unfold wX11_fact_j72
  exact hqq _ _ g
theorem wX11_fact_h2_KT {s0 : wS}    : ∀ (n : Nat) {x1 : Int32} {s : wS}, KT s0 s → PK (wX11_fact_h2 n x1 s) (Sum.elim (fun (r : wS) => KT s0 r) (Sum.elim (fun (r : wS) => KT s0 r) (fun (r : wS) => KT s0 r))) := by
  intro n
  induction n with
  | zero =>
    intro x1 s g
    rw [wX11_fact_h2]
    exact pk_none
  | succ n ih =>
    intro x1 s g
    rw [wX11_fact_h2]
    refine pk_ite (fun _ => ?_) (fun _ => ?_)
    · exact pk_some g
    · refine pk_bind (wX11_see_KT g) (fun p1 h2 => ?_)
      obtain ⟨t2, s3⟩ := p1
      have g3 : KT s0 s3 := h2
      dsimp only
      refine pk_bind (wX11_isWord_KT g3) (fun p4 h5 => ?_)
      obtain ⟨t5, s6⟩ := p4
      have g6 : KT s0 s6 := h5
      dsimp only
      refine pk_ite (fun _ => ?_) (fun _ => ?_)
      · refine pk_ite (fun _ => ?_) (fun _ => ?_)
        · refine pk_bind (wX11_opens_KT g6) (fun p7 h8 => ?_)
          obtain ⟨t10, s11⟩ := p7
          have g9 : KT s0 s11 := h8
          dsimp only
          refine pk_ite (fun _ => ?_) (fun _ => ?_)
          · exact pk_some g9
          · refine pk_bind (kt_pfI rfl g9) (fun s14 g10 => ?_)
            exact wX11_fact_j72_KT (fun _ _ g => ih g) g10
        · exact wX11_fact_j72_KT (fun _ _ g => ih g) g6
      · refine pk_bind (wX11_opens_KT g6) (fun p11 h12 => ?_)
        obtain ⟨t15, s16⟩ := p11
        have g13 : KT s0 s16 := h12
        dsimp only
        refine pk_ite (fun _ => ?_) (fun _ => ?_)
        · exact pk_some g13
        · refine pk_bind (wX11_passWord_KT g13) (fun s20 g14 => ?_)
          exact wX11_fact_j72_KT (fun _ _ g => ih g) g14
theorem wX11_fact_KT {s0 : wS} {s : wS}   (g : KT s0 s) : PK (wX11_fact s) (fun (r : Int32 × wS) => KT s0 r.2) := by
  unfold wX11_fact
  refine pk_bind (wX11_fact_h2_KT _ g) (fun z22 h1 => ?_)
  rcases z22 with s23 | (s30 | s33)
  · have g2 : KT s0 s23 := h1
    dsimp only
    refine pk_bind (wX11_compare_KT g2) (fun p3 h4 => ?_)
    obtain ⟨t26, s27⟩ := p3
    have g5 : KT s0 s27 := h4
    dsimp only
    refine pk_bind pk_any (fun t29 _ => ?_)
    exact pk_some g5
  · have g6 : KT s0 s30 := h1
    dsimp only
    exact pk_some g6
  · have g7 : KT s0 s33 := h1
    dsimp only
    exact pk_some g7
theorem wX11_closes_h5_KT {s0 : wS}    : ∀ (n : Nat) {s : wS}, KT s0 s → PK (wX11_closes_h5 n s) (fun (r : wS) => KT s0 r) := by
  intro n
  induction n with
  | zero =>
    intro s g
    rw [wX11_closes_h5]
    exact pk_none
  | succ n ih =>
    intro s g
    rw [wX11_closes_h5]
    refine pk_bind (wX11_see_KT g) (fun p1 h2 => ?_)
    obtain ⟨t4, s5⟩ := p1
    have g3 : KT s0 s5 := h2
    dsimp only
    refine pk_ite (fun _ => ?_) (fun _ => ?_)
    · refine pk_bind pk_any (fun t8 _ => ?_)
      refine pk_ite (fun _ => ?_) (fun _ => ?_)
      · exact pk_some g3
      · refine pk_bind (wX11_settles_KT g3) (fun s12 g4 => ?_)
        refine pk_bind (kt_pfI rfl g4) (fun s14 g5 => ?_)
        refine pk_bind (kt_pfI rfl g5) (fun s15 g6 => ?_)
        refine pk_bind (kt_pfI rfl g6) (fun s16 g7 => ?_)
        refine pk_bind (wX11_settles_KT g7) (fun s18 g8 => ?_)
        exact ih g8
    · exact pk_some g3
theorem wX11_closes_KT {s0 : wS} {s : wS}   (g : KT s0 s) : PK (wX11_closes s) (fun (r : wS) => KT s0 r) := by
  unfold wX11_closes
  refine pk_bind (wX11_settles_KT g) (fun s2 g1 => ?_)
  refine pk_bind (wX11_closes_h5_KT _ g1) (fun s21 g2 => ?_)
  exact pk_some g2
theorem wX11_tested_j76_KT {s0 : wS} {x1 : Int32} {y0 : Int32} {s : wS} {qq : Int32 → wS → Option ((wS) ⊕ (wS))} (hqq : ∀ (v0 : Int32) (v1 : wS), KT s0 v1 → PK (qq v0 v1) (Sum.elim (fun (r : wS) => KT s0 r) (fun (r : wS) => KT s0 r))) (g : KT s0 s) : PK (wX11_tested_j76 qq x1 y0 s) (Sum.elim (fun (r : wS) => KT s0 r) (fun (r : wS) => KT s0 r)) := by
  unfold wX11_tested_j76
  refine pk_bind (wX11_passWord_KT g) (fun s25 g1 => ?_)
  refine pk_bind pk_any (fun t27 _ => ?_)
  refine pk_bind (wX11_settles_KT g1) (fun s30 g2 => ?_)
  refine pk_bind (kt_stI (fun _ => rfl) g2) (fun s32 g3 => ?_)
  refine pk_bind (kt_pfI rfl g3) (fun s33 g4 => ?_)
  exact hqq _ _ g4
theorem wX11_tested_j54_KT {s0 : wS} {y0 : Int32} {s : wS} {qq : Int32 → wS → Option ((wS) ⊕ (wS))} (hqq : ∀ (v0 : Int32) (v1 : wS), KT s0 v1 → PK (qq v0 v1) (Sum.elim (fun (r : wS) => KT s0 r) (fun (r : wS) => KT s0 r))) (g : KT s0 s) : PK (wX11_tested_j54 qq y0 s) (Sum.elim (fun (r : wS) => KT s0 r) (fun (r : wS) => KT s0 r)) := by
  unfold wX11_tested_j54
  refine pk_ite (fun _ => ?_) (fun _ => ?_)
  · exact hqq _ _ g
  · refine pk_bind (wX11_isWord_KT g) (fun p1 h2 => ?_)
    obtain ⟨t20, s21⟩ := p1
    have g3 : KT s0 s21 := h2
    dsimp only
    refine pk_ite (fun _ => ?_) (fun _ => ?_)
    · exact wX11_tested_j76_KT hqq g3
    · exact wX11_tested_j76_KT hqq g3
theorem wX11_tested_j49_KT {s0 : wS} {s : wS} {qq : Int32 → wS → Option ((wS) ⊕ (wS))} (hqq : ∀ (v0 : Int32) (v1 : wS), KT s0 v1 → PK (qq v0 v1) (Sum.elim (fun (r : wS) => KT s0 r) (fun (r : wS) => KT s0 r))) (g : KT s0 s) : PK (wX11_tested_j49 qq s) (Sum.elim (fun (r : wS) => KT s0 r) (fun (r : wS) => KT s0 r)) := by
  unfold wX11_tested_j49
  exact wX11_tested_j54_KT hqq g
theorem wX11_tested_h12_KT {s0 : wS}    : ∀ (n : Nat) {x1 : Int32} {s : wS}, KT s0 s → PK (wX11_tested_h12 n x1 s) (Sum.elim (fun (r : wS) => KT s0 r) (fun (r : wS) => KT s0 r)) := by
  intro n
  induction n with
  | zero =>
    intro x1 s g
    rw [wX11_tested_h12]
    exact pk_none
  | succ n ih =>
    intro x1 s g
    rw [wX11_tested_h12]
    refine pk_ite (fun _ => ?_) (fun _ => ?_)
    · exact pk_some g
    · refine pk_bind (wX11_fact_KT g) (fun p1 h2 => ?_)
      obtain ⟨t4, s5⟩ := p1
      have g3 : KT s0 s5 := h2
      dsimp only
      refine pk_ite (fun _ => ?_) (fun _ => ?_)
      · exact pk_some g3
      · refine pk_bind (wX11_closes_KT g3) (fun s9 g4 => ?_)
        refine pk_bind (wX11_isWord_KT g4) (fun p5 h6 => ?_)
        obtain ⟨t11, s12⟩ := p5
        have g7 : KT s0 s12 := h6
        dsimp only
        refine pk_ite (fun _ => ?_) (fun _ => ?_)
        · refine pk_bind (wX11_isWord_KT g7) (fun p8 h9 => ?_)
          obtain ⟨t15, s16⟩ := p8
          have g10 : KT s0 s16 := h9
          dsimp only
          refine pk_ite (fun _ => ?_) (fun _ => ?_)
          · exact wX11_tested_j54_KT (fun _ _ g => ih g) g10
          · exact wX11_tested_j49_KT (fun _ _ g => ih g) g10
        · exact wX11_tested_j49_KT (fun _ _ g => ih g) g7
theorem wX11_tested_KT {s0 : wS} {s : wS}   (g : KT s0 s) : PK (wX11_tested s) (fun (r : Int32 × wS) => KT s0 r.2) := by
  unfold wX11_tested
  refine pk_bind (kt_pfI rfl g) (fun s1 g1 => ?_)
  refine pk_bind (kt_pfI rfl g1) (fun s2 g2 => ?_)
  refine pk_bind (wX11_tested_h12_KT _ g2) (fun z34 h3 => ?_)
  rcases z34 with s35 | s51
  · have g4 : KT s0 s35 := h3
    dsimp only
    refine pk_bind pk_any (fun t38 _ => ?_)
    refine pk_ite (fun _ => ?_) (fun _ => ?_)
    · refine pk_bind (wX11_settles_KT g4) (fun s42 g5 => ?_)
      exact pk_some g5
    · refine pk_bind (wX11_see_KT g4) (fun p6 h7 => ?_)
      obtain ⟨t44, s45⟩ := p6
      have g8 : KT s0 s45 := h7
      dsimp only
      refine pk_bind (wX11_fails_KT g8) (fun p9 h10 => ?_)
      obtain ⟨t47, s48⟩ := p9
      have g11 : KT s0 s48 := h10
      dsimp only
      refine pk_bind pk_any (fun t50 _ => ?_)
      exact pk_some g11
  · have g12 : KT s0 s51 := h3
    dsimp only
    exact pk_some g12
theorem wX11_clauseOf_j119_KT {s0 : wS} {x2 : Int32} {s : wS}   (g : KT s0 s) : PK (wX11_clauseOf_j119 x2 s) (fun (r : Int32 × wS) => KT s0 r.2) := by
  unfold wX11_clauseOf_j119
  refine pk_bind pk_any (fun t19 _ => ?_)
  refine pk_bind (kt_stI (fun _ => rfl) g) (fun s20 g1 => ?_)
  refine pk_bind pk_any (fun t21 _ => ?_)
  refine pk_bind (kt_stI (fun _ => rfl) g1) (fun s22 g2 => ?_)
  exact pk_some g2
theorem wX11_clauseOf_KT {s0 : wS} {x1 : Int32} {s : wS}   (g : KT s0 s) : PK (wX11_clauseOf x1 s) (fun (r : Int32 × wS) => KT s0 r.2) := by
  unfold wX11_clauseOf
  refine pk_bind (wX11_passWord_KT g) (fun s2 g1 => ?_)
  refine pk_bind pk_any (fun t4 _ => ?_)
  refine pk_bind (kt_stI (fun _ => rfl) g1) (fun s5 g2 => ?_)
  refine pk_bind pk_any (fun t6 _ => ?_)
  refine pk_bind (kt_stI (fun _ => rfl) g2) (fun s7 g3 => ?_)
  refine pk_bind (wX11_sum_KT g3) (fun p4 h5 => ?_)
  obtain ⟨t8, s9⟩ := p4
  have g6 : KT s0 s9 := h5
  dsimp only
  refine pk_ite (fun _ => ?_) (fun _ => ?_)
  · exact pk_some g6
  · refine pk_bind pk_any (fun t12 _ => ?_)
    refine pk_bind (kt_stI (fun _ => rfl) g6) (fun s13 g7 => ?_)
    refine pk_bind (kt_stI (fun _ => rfl) g7) (fun s14 g8 => ?_)
    refine pk_bind (wX11_takesWord_KT g8) (fun p9 h10 => ?_)
    obtain ⟨t15, s16⟩ := p9
    have g11 : KT s0 s16 := h10
    dsimp only
    refine pk_ite (fun _ => ?_) (fun _ => ?_)
    · exact wX11_clauseOf_j119_KT g11
    · refine pk_bind pk_any (fun t23 _ => ?_)
      refine pk_bind (kt_stI (fun _ => rfl) g11) (fun s24 g12 => ?_)
      refine pk_bind (wX11_tested_KT g12) (fun p13 h14 => ?_)
      obtain ⟨t25, s26⟩ := p13
      have g15 : KT s0 s26 := h14
      dsimp only
      refine pk_ite (fun _ => ?_) (fun _ => ?_)
      · exact pk_some g15
      · exact wX11_clauseOf_j119_KT g15
theorem wX11_isRoadHere_h2_KT {s0 : wS}    : ∀ (n : Nat) {x1 : Int32} {s : wS}, KT s0 s → PK (wX11_isRoadHere_h2 n x1 s) (Sum.elim (fun (r : wS) => KT s0 r) (fun (r : wS) => KT s0 r)) := by
  intro n
  induction n with
  | zero =>
    intro x1 s g
    rw [wX11_isRoadHere_h2]
    exact pk_none
  | succ n ih =>
    intro x1 s g
    rw [wX11_isRoadHere_h2]
    refine pk_ite (fun _ => ?_) (fun _ => ?_)
    · refine pk_bind (wX11_numberHere_KT g) (fun p1 h2 => ?_)
      obtain ⟨t2, s3⟩ := p1
      have g3 : KT s0 s3 := h2
      dsimp only
      refine pk_ite (fun _ => ?_) (fun _ => ?_)
      · exact pk_some g3
      · refine pk_bind (kt_stI (fun _ => rfl) g3) (fun s6 g4 => ?_)
        exact ih g4
    · exact pk_some g
theorem wX11_isRoadHere_KT {s0 : wS} {s : wS}   (g : KT s0 s) : PK (wX11_isRoadHere s) (fun (r : Int32 × wS) => KT s0 r.2) := by
  unfold wX11_isRoadHere
  refine pk_bind (wX11_isRoadHere_h2_KT _ g) (fun z7 h1 => ?_)
  rcases z7 with s8 | s11
  · have g2 : KT s0 s8 := h1
    dsimp only
    refine pk_bind (kt_pfI rfl g2) (fun s10 g3 => ?_)
    exact pk_some g3
  · have g4 : KT s0 s11 := h1
    dsimp only
    exact pk_some g4
theorem wX11_isManHere_j20_KT {s0 : wS} {x1 : Int32} {y1 : Int32} {y2 : Int32} {s : wS} {qq : Int32 → wS → Option ((wS) ⊕ (wS))} (hqq : ∀ (v0 : Int32) (v1 : wS), KT s0 v1 → PK (qq v0 v1) (Sum.elim (fun (r : wS) => KT s0 r) (fun (r : wS) => KT s0 r))) (g : KT s0 s) : PK (wX11_isManHere_j20 qq x1 y1 y2 s) (Sum.elim (fun (r : wS) => KT s0 r) (fun (r : wS) => KT s0 r)) := by
  unfold wX11_isManHere_j20
  refine pk_bind (wX11_numberHere_KT g) (fun p1 h2 => ?_)
  obtain ⟨t3, s4⟩ := p1
  have g3 : KT s0 s4 := h2
  dsimp only
  refine pk_ite (fun _ => ?_) (fun _ => ?_)
  · exact pk_some g3
  · refine pk_bind (kt_stI (fun _ => rfl) g3) (fun s7 g4 => ?_)
    exact hqq _ _ g4
theorem wX11_isManHere_h2_KT {s0 : wS}    : ∀ (n : Nat) {x1 : Int32} {s : wS}, KT s0 s → PK (wX11_isManHere_h2 n x1 s) (Sum.elim (fun (r : wS) => KT s0 r) (fun (r : wS) => KT s0 r)) := by
  intro n
  induction n with
  | zero =>
    intro x1 s g
    rw [wX11_isManHere_h2]
    exact pk_none
  | succ n ih =>
    intro x1 s g
    rw [wX11_isManHere_h2]
    refine pk_ite (fun _ => ?_) (fun _ => ?_)
    · refine pk_ite (fun _ => ?_) (fun _ => ?_)
      · exact wX11_isManHere_j20_KT (fun _ _ g => ih g) g
      · exact wX11_isManHere_j20_KT (fun _ _ g => ih g) g
    · exact pk_some g
theorem wX11_isManHere_KT {s0 : wS} {s : wS}   (g : KT s0 s) : PK (wX11_isManHere s) (fun (r : Int32 × wS) => KT s0 r.2) := by
  unfold wX11_isManHere
  refine pk_bind (wX11_isManHere_h2_KT _ g) (fun z8 h1 => ?_)
  rcases z8 with s9 | s12
  · have g2 : KT s0 s9 := h1
    dsimp only
    refine pk_bind (kt_pfI rfl g2) (fun s11 g3 => ?_)
    exact pk_some g3
  · have g4 : KT s0 s12 := h1
    dsimp only
    exact pk_some g4
theorem wX11_courtLineHere_j73_KT {s0 : wS} {x1 : Int32} {x2 : Int32} {y0 : Int32} {s : wS}   (g : KT s0 s) : PK (wX11_courtLineHere_j73 x1 x2 y0 s) (fun (r : Int32 × wS) => KT s0 r.2) := by
  unfold wX11_courtLineHere_j73
  refine pk_ite (fun _ => ?_) (fun _ => ?_)
  · refine pk_bind (wX11_fails_KT g) (fun p1 h2 => ?_)
    obtain ⟨t10, s11⟩ := p1
    have g3 : KT s0 s11 := h2
    dsimp only
    refine pk_bind pk_any (fun t13 _ => ?_)
    exact pk_some g3
  · refine pk_bind (wX11_passWord_KT g) (fun s15 g4 => ?_)
    refine pk_ite (fun _ => ?_) (fun _ => ?_)
    · refine pk_bind (wX11_isManHere_KT g4) (fun p5 h6 => ?_)
      obtain ⟨t18, s19⟩ := p5
      have g7 : KT s0 s19 := h6
      dsimp only
      refine pk_bind pk_any (fun t21 _ => ?_)
      exact pk_some g7
    · refine pk_bind (wX11_isRoadHere_KT g4) (fun p8 h9 => ?_)
      obtain ⟨t22, s23⟩ := p8
      have g10 : KT s0 s23 := h9
      dsimp only
      refine pk_bind pk_any (fun t25 _ => ?_)
      exact pk_some g10
theorem wX11_courtLineHere_KT {s0 : wS} {x1 : Int32} {s : wS}   (g : KT s0 s) : PK (wX11_courtLineHere x1 s) (fun (r : Int32 × wS) => KT s0 r.2) := by
  unfold wX11_courtLineHere
  refine pk_bind (wX11_isWord_KT g) (fun p1 h2 => ?_)
  obtain ⟨t1, s2⟩ := p1
  have g3 : KT s0 s2 := h2
  dsimp only
  refine pk_ite (fun _ => ?_) (fun _ => ?_)
  · refine pk_bind (wX11_isWord_KT g3) (fun p4 h5 => ?_)
    obtain ⟨t5, s6⟩ := p4
    have g6 : KT s0 s6 := h5
    dsimp only
    refine pk_ite (fun _ => ?_) (fun _ => ?_)
    · exact wX11_courtLineHere_j73_KT g6
    · exact wX11_courtLineHere_j73_KT g6
  · refine pk_ite (fun _ => ?_) (fun _ => ?_)
    · refine pk_bind (wX11_fails_KT g3) (fun p7 h8 => ?_)
      obtain ⟨t27, s28⟩ := p7
      have g9 : KT s0 s28 := h8
      dsimp only
      refine pk_bind pk_any (fun t30 _ => ?_)
      exact pk_some g9
    · refine pk_bind (wX11_passWord_KT g3) (fun s32 g10 => ?_)
      refine pk_bind (wX11_numberHere_KT g10) (fun p11 h12 => ?_)
      obtain ⟨t34, s35⟩ := p11
      have g13 : KT s0 s35 := h12
      dsimp only
      refine pk_ite (fun _ => ?_) (fun _ => ?_)
      · exact pk_some g13
      · refine pk_bind (kt_pfI rfl g13) (fun s38 g14 => ?_)
        exact pk_some g14
theorem wX11_clauseHere_j157_KT {s0 : wS} {y1 : Int32} {s : wS}   (g : KT s0 s) : PK (wX11_clauseHere_j157 y1 s) (fun (r : Int32 × wS) => KT s0 r.2) := by
  unfold wX11_clauseHere_j157
  refine pk_bind (wX11_clauseOf_KT g) (fun p1 h2 => ?_)
  obtain ⟨t39, s40⟩ := p1
  have g3 : KT s0 s40 := h2
  dsimp only
  refine pk_bind pk_any (fun t42 _ => ?_)
  exact pk_some g3
theorem wX11_clauseHere_j97_KT {s0 : wS} {x1 : Int32} {x2 : Int32} {y0 : Int32} {y1 : Int32} {s : wS}   (g : KT s0 s) : PK (wX11_clauseHere_j97 x1 x2 y0 y1 s) (fun (r : Int32 × wS) => KT s0 r.2) := by
  unfold wX11_clauseHere_j97
  refine pk_ite (fun _ => ?_) (fun _ => ?_)
  · refine pk_bind (wX11_fails_KT g) (fun p1 h2 => ?_)
    obtain ⟨t25, s26⟩ := p1
    have g3 : KT s0 s26 := h2
    dsimp only
    refine pk_bind pk_any (fun t28 _ => ?_)
    exact pk_some g3
  · refine pk_bind (kt_pfI rfl g) (fun s29 g4 => ?_)
    refine pk_ite (fun _ => ?_) (fun _ => ?_)
    · refine pk_bind (wX11_isWord_KT g4) (fun p5 h6 => ?_)
      obtain ⟨t31, s32⟩ := p5
      have g7 : KT s0 s32 := h6
      dsimp only
      refine pk_ite (fun _ => ?_) (fun _ => ?_)
      · refine pk_bind (wX11_isWord_KT g7) (fun p8 h9 => ?_)
        obtain ⟨t35, s36⟩ := p8
        have g10 : KT s0 s36 := h9
        dsimp only
        refine pk_ite (fun _ => ?_) (fun _ => ?_)
        · exact wX11_clauseHere_j157_KT g10
        · exact wX11_clauseHere_j157_KT g10
      · exact wX11_clauseHere_j157_KT g7
    · refine pk_bind (wX11_courtLineHere_KT g4) (fun p11 h12 => ?_)
      obtain ⟨t43, s44⟩ := p11
      have g13 : KT s0 s44 := h12
      dsimp only
      refine pk_bind pk_any (fun t46 _ => ?_)
      exact pk_some g13
theorem wX11_clauseHere_j70_KT {s0 : wS} {x1 : Int32} {x2 : Int32} {y0 : Int32} {s : wS}   (g : KT s0 s) : PK (wX11_clauseHere_j70 x1 x2 y0 s) (fun (r : Int32 × wS) => KT s0 r.2) := by
  unfold wX11_clauseHere_j70
  refine pk_ite (fun _ => ?_) (fun _ => ?_)
  · refine pk_bind (wX11_fails_KT g) (fun p1 h2 => ?_)
    obtain ⟨t19, s20⟩ := p1
    have g3 : KT s0 s20 := h2
    dsimp only
    refine pk_bind pk_any (fun t22 _ => ?_)
    exact pk_some g3
  · refine pk_ite (fun _ => ?_) (fun _ => ?_)
    · exact wX11_clauseHere_j97_KT g
    · exact wX11_clauseHere_j97_KT g
theorem wX11_clauseHere_j65_KT {s0 : wS} {x1 : Int32} {x2 : Int32} {s : wS}   (g : KT s0 s) : PK (wX11_clauseHere_j65 x1 x2 s) (fun (r : Int32 × wS) => KT s0 r.2) := by
  unfold wX11_clauseHere_j65
  exact wX11_clauseHere_j70_KT g
theorem wX11_clauseHere_j59_KT {s0 : wS} {x1 : Int32} {x2 : Int32} {y1 : Int64} {s : wS}   (g : KT s0 s) : PK (wX11_clauseHere_j59 x1 x2 y1 s) (fun (r : Int32 × wS) => KT s0 r.2) := by
  unfold wX11_clauseHere_j59
  refine pk_bind (wX11_isWord_KT g) (fun p1 h2 => ?_)
  obtain ⟨t14, s15⟩ := p1
  have g3 : KT s0 s15 := h2
  dsimp only
  refine pk_ite (fun _ => ?_) (fun _ => ?_)
  · exact wX11_clauseHere_j70_KT g3
  · exact wX11_clauseHere_j65_KT g3
theorem wX11_clauseHere_j24_KT {s0 : wS} {x1 : Int32} {y0 : Int32} {s : wS}   (g : KT s0 s) : PK (wX11_clauseHere_j24 x1 y0 s) (fun (r : Int32 × wS) => KT s0 r.2) := by
  unfold wX11_clauseHere_j24
  refine pk_bind (wX11_isWord_KT g) (fun p1 h2 => ?_)
  obtain ⟨t5, s6⟩ := p1
  have g3 : KT s0 s6 := h2
  dsimp only
  refine pk_ite (fun _ => ?_) (fun _ => ?_)
  · refine pk_bind (wX11_isWord_KT g3) (fun p4 h5 => ?_)
    obtain ⟨t9, s10⟩ := p4
    have g6 : KT s0 s10 := h5
    dsimp only
    refine pk_ite (fun _ => ?_) (fun _ => ?_)
    · refine pk_ite (fun _ => ?_) (fun _ => ?_)
      · exact wX11_clauseHere_j59_KT g6
      · exact wX11_clauseHere_j59_KT g6
    · exact wX11_clauseHere_j65_KT g6
  · exact wX11_clauseHere_j65_KT g3
theorem wX11_clauseHere_KT {s0 : wS} {s : wS}   (g : KT s0 s) : PK (wX11_clauseHere s) (fun (r : Int32 × wS) => KT s0 r.2) := by
  unfold wX11_clauseHere
  refine pk_bind (wX11_see_KT g) (fun p1 h2 => ?_)
  obtain ⟨t1, s2⟩ := p1
  have g3 : KT s0 s2 := h2
  dsimp only
  refine pk_ite (fun _ => ?_) (fun _ => ?_)
  · exact wX11_clauseHere_j24_KT g3
  · exact wX11_clauseHere_j24_KT g3
theorem wX11_readsAll_h35_KT {s0 : wS}    : ∀ (n : Nat) {x1 : Int32} {s : wS}, KT s0 s → PK (wX11_readsAll_h35 n x1 s) (fun (r : Int32 × wS) => KT s0 r.2) := by
  intro n
  induction n with
  | zero =>
    intro x1 s g
    rw [wX11_readsAll_h35]
    exact pk_none
  | succ n ih =>
    intro x1 s g
    rw [wX11_readsAll_h35]
    refine pk_ite (fun _ => ?_) (fun _ => ?_)
    · exact pk_some g
    · refine pk_bind (wX11_see_KT g) (fun p1 h2 => ?_)
      obtain ⟨t10, s11⟩ := p1
      have g3 : KT s0 s11 := h2
      dsimp only
      refine pk_ite (fun _ => ?_) (fun _ => ?_)
      · refine pk_bind (kt_pfI rfl g3) (fun s14 g4 => ?_)
        refine pk_bind (wX11_clauseHere_KT g4) (fun p5 h6 => ?_)
        obtain ⟨t15, s16⟩ := p5
        have g7 : KT s0 s16 := h6
        dsimp only
        exact ih g7
      · exact pk_some g3
theorem wX11_readsAll_j125_KT {s0 : wS} {s : wS}   (g : KT s0 s) : PK (wX11_readsAll_j125 s) (fun (r : Int32 × wS) => KT s0 r.2) := by
  unfold wX11_readsAll_j125
  refine pk_bind (kt_pfI rfl g) (fun s23 g1 => ?_)
  refine pk_ite (fun _ => ?_) (fun _ => ?_)
  · exact pk_some g1
  · exact pk_some g1
theorem wX11_readsAll_j115_KT {s0 : wS} {s : wS}   (g : KT s0 s) : PK (wX11_readsAll_j115 s) (fun (r : Int32 × wS) => KT s0 r.2) := by
  unfold wX11_readsAll_j115
  refine pk_bind (wX11_fails_KT g) (fun p1 h2 => ?_)
  obtain ⟨t27, s28⟩ := p1
  have g3 : KT s0 s28 := h2
  dsimp only
  exact wX11_readsAll_j125_KT g3
theorem wX11_readsAll_j88_KT {s0 : wS} {x1 : Int32} {s : wS}   (g : KT s0 s) : PK (wX11_readsAll_j88 x1 s) (fun (r : Int32 × wS) => KT s0 r.2) := by
  unfold wX11_readsAll_j88
  refine pk_ite (fun _ => ?_) (fun _ => ?_)
  · exact wX11_readsAll_j125_KT g
  · refine pk_ite (fun _ => ?_) (fun _ => ?_)
    · refine pk_ite (fun _ => ?_) (fun _ => ?_)
      · exact wX11_readsAll_j115_KT g
      · refine pk_ite (fun _ => ?_) (fun _ => ?_)
        · exact wX11_readsAll_j115_KT g
        · exact wX11_readsAll_j125_KT g
    · exact wX11_readsAll_j125_KT g
theorem wX11_readsAll_j66_KT {s0 : wS} {x1 : Int32} {s : wS}   (g : KT s0 s) : PK (wX11_readsAll_j66 x1 s) (fun (r : Int32 × wS) => KT s0 r.2) := by
  unfold wX11_readsAll_j66
  refine pk_ite (fun _ => ?_) (fun _ => ?_)
  · exact wX11_readsAll_j88_KT g
  · refine pk_bind (wX11_see_KT g) (fun p1 h2 => ?_)
    obtain ⟨t31, s32⟩ := p1
    have g3 : KT s0 s32 := h2
    dsimp only
    refine pk_ite (fun _ => ?_) (fun _ => ?_)
    · exact wX11_readsAll_j88_KT g3
    · refine pk_bind (wX11_fails_KT g3) (fun p4 h5 => ?_)
      obtain ⟨t35, s36⟩ := p4
      have g6 : KT s0 s36 := h5
      dsimp only
      exact wX11_readsAll_j88_KT g6
theorem wX11_readsAll_KT {s0 : wS} {s : wS}   (g : KT s0 s) : PK (wX11_readsAll s) (fun (r : Int32 × wS) => KT s0 r.2) := by
  unfold wX11_readsAll
  refine pk_bind (kt_stI (fun _ => rfl) g) (fun s1 g1 => ?_)
  refine pk_bind (kt_pfI rfl g1) (fun s2 g2 => ?_)
  refine pk_bind (kt_pfI rfl g2) (fun s3 g3 => ?_)
  refine pk_bind (kt_pfI rfl g3) (fun s4 g4 => ?_)
  refine pk_bind (kt_pfI rfl g4) (fun s5 g5 => ?_)
  refine pk_bind (wX11_clauseHere_KT g5) (fun p6 h7 => ?_)
  obtain ⟨t6, s7⟩ := p6
  have g8 : KT s0 s7 := h7
  dsimp only
  refine pk_bind (wX11_readsAll_h35_KT _ g8) (fun p9 h10 => ?_)
  obtain ⟨t19, s20⟩ := p9
  have g11 : KT s0 s20 := h10
  dsimp only
  exact wX11_readsAll_j66_KT g11
theorem wX11_law_KT {s0 : wS} {s : wS}   (g : KT s0 s) : PK (wX11_law s) (fun (r : Int32 × wS) => KT s0 r.2) := by
  unfold wX11_law
  refine pk_ite (fun _ => ?_) (fun _ => ?_)
  · exact pk_some g
  · refine pk_bind (kt_pfI rfl g) (fun s2 g1 => ?_)
    refine pk_bind (kt_stI (fun _ => rfl) g1) (fun s3 g2 => ?_)
    refine pk_bind (wX11_readsAll_KT g2) (fun p3 h4 => ?_)
    obtain ⟨t4, s5⟩ := p3
    have g5 : KT s0 s5 := h4
    dsimp only
    refine pk_ite (fun _ => ?_) (fun _ => ?_)
    · exact pk_some g5
    · refine pk_bind (kt_pfI rfl g5) (fun s8 g6 => ?_)
      exact pk_some g6
theorem wX11_court_h100_KT {s0 : wS}    : ∀ (n : Nat) {x1 : Int32} {s : wS}, KT s0 s → PK (wX11_court_h100 n x1 s) (fun (r : wS) => KT s0 r) := by
  intro n
  induction n with
  | zero =>
    intro x1 s g
    rw [wX11_court_h100]
    exact pk_none
  | succ n ih =>
    intro x1 s g
    rw [wX11_court_h100]
    refine pk_ite (fun _ => ?_) (fun _ => ?_)
    · refine pk_bind pk_any (fun t17 _ => ?_)
      refine pk_bind (kt_stI (fun _ => rfl) g) (fun s18 g1 => ?_)
      exact ih g1
    · exact pk_some g
theorem wX11_court_h133_KT {s0 : wS}    : ∀ (n : Nat) {x1 : Int32} {s : wS}, KT s0 s → PK (wX11_court_h133 n x1 s) (fun (r : wS) => KT s0 r) := by
  intro n
  induction n with
  | zero =>
    intro x1 s g
    rw [wX11_court_h133]
    exact pk_none
  | succ n ih =>
    intro x1 s g
    rw [wX11_court_h133]
    refine pk_ite (fun _ => ?_) (fun _ => ?_)
    · refine pk_bind pk_any (fun t23 _ => ?_)
      refine pk_bind (kt_stI (fun _ => rfl) g) (fun s24 g1 => ?_)
      exact ih g1
    · exact pk_some g
theorem wX11_court_j56_KT {s0 : wS} {y1 : Int32} {y2 : Int32} {s : wS}   (g : KT s0 s) : PK (wX11_court_j56 y1 y2 s) (fun (r : Int32 × wS) => KT s0 r.2) := by
  unfold wX11_court_j56
  refine pk_bind (kt_stI (fun _ => rfl) g) (fun s10 g1 => ?_)
  refine pk_bind (kt_stI (fun _ => rfl) g1) (fun s11 g2 => ?_)
  refine pk_bind (kt_stI (fun _ => rfl) g2) (fun s12 g3 => ?_)
  refine pk_bind (kt_stI (fun _ => rfl) g3) (fun s13 g4 => ?_)
  refine pk_bind (kt_stI (fun _ => rfl) g4) (fun s14 g5 => ?_)
  refine pk_bind (kt_stI (fun _ => rfl) g5) (fun s15 g6 => ?_)
  refine pk_bind (wX11_court_h100_KT _ g6) (fun s20 g7 => ?_)
  refine pk_bind (wX11_court_h133_KT _ g7) (fun s26 g8 => ?_)
  refine pk_bind pk_any (fun t28 _ => ?_)
  exact pk_some g8
theorem wX11_court_KT {s0 : wS} {s : wS}   (g : KT s0 s) : PK (wX11_court s) (fun (r : Int32 × wS) => KT s0 r.2) := by
  unfold wX11_court
  refine pk_bind (kt_pfI rfl g) (fun s1 g1 => ?_)
  refine pk_bind (kt_pfI rfl g1) (fun s2 g2 => ?_)
  refine pk_bind (kt_pfI rfl g2) (fun s3 g3 => ?_)
  refine pk_bind (kt_pfI rfl g3) (fun s4 g4 => ?_)
  refine pk_bind (wX11_readsAll_KT g4) (fun p5 h6 => ?_)
  obtain ⟨t5, s6⟩ := p5
  have g7 : KT s0 s6 := h6
  dsimp only
  refine pk_ite (fun _ => ?_) (fun _ => ?_)
  · exact pk_some g7
  · refine pk_ite (fun _ => ?_) (fun _ => ?_)
    · exact wX11_court_j56_KT g7
    · exact wX11_court_j56_KT g7
theorem wX11_answer_KT {s0 : wS} {x1 : Int32} {x2 : Int32} {x3 : Int32} {x4 : Int32} {s : wS}   (g : KT s0 s) : PK (wX11_answer x1 x2 x3 x4 s) (fun (r : Int32 × wS) => KT s0 r.2) := by
  unfold wX11_answer
  refine pk_ite (fun _ => ?_) (fun _ => ?_)
  · exact pk_some g
  · refine pk_bind pk_any (fun t3 _ => ?_)
    refine pk_ite (fun _ => ?_) (fun _ => ?_)
    · exact pk_some g
    · refine pk_bind pk_any (fun t6 _ => ?_)
      refine pk_ite (fun _ => ?_) (fun _ => ?_)
      · exact pk_some g
      · refine pk_bind pk_any (fun t9 _ => ?_)
        refine pk_ite (fun _ => ?_) (fun _ => ?_)
        · exact pk_some g
        · refine pk_ite (fun _ => ?_) (fun _ => ?_)
          · exact pk_some g
          · refine pk_bind pk_any (fun t13 _ => ?_)
            refine pk_ite (fun _ => ?_) (fun _ => ?_)
            · exact pk_some g
            · refine pk_bind (kt_stI (fun _ => rfl) g) (fun s17 g1 => ?_)
              refine pk_bind (kt_stI (fun _ => rfl) g1) (fun s18 g2 => ?_)
              refine pk_bind (kt_stI (fun _ => rfl) g2) (fun s19 g3 => ?_)
              refine pk_bind (kt_stI (fun _ => rfl) g3) (fun s20 g4 => ?_)
              refine pk_bind (kt_stI (fun _ => rfl) g4) (fun s21 g5 => ?_)
              refine pk_bind (kt_stI (fun _ => rfl) g5) (fun s23 g6 => ?_)
              exact pk_some g6
theorem wX11_strike_j50_KT {s0 : wS} {y1 : Int32} {y2 : Int32} {s : wS}   (g : KT s0 s) : PK (wX11_strike_j50 y1 y2 s) (fun (r : Int32 × wS) => KT s0 r.2) := by
  unfold wX11_strike_j50
  refine pk_bind (kt_stI (fun _ => rfl) g) (fun s9 g1 => ?_)
  exact pk_some g1
theorem wX11_strike_j23_KT {s0 : wS} {x1 : Int32} {x2 : Int32} {y0 : Int32} {s : wS}   (g : KT s0 s) : PK (wX11_strike_j23 x1 x2 y0 s) (fun (r : Int32 × wS) => KT s0 r.2) := by
  unfold wX11_strike_j23
  refine pk_ite (fun _ => ?_) (fun _ => ?_)
  · exact pk_some g
  · refine pk_ite (fun _ => ?_) (fun _ => ?_)
    · exact wX11_strike_j50_KT g
    · exact wX11_strike_j50_KT g
theorem wX11_strike_KT {s0 : wS} {x1 : Int32} {x2 : Int32} {s : wS}   (g : KT s0 s) : PK (wX11_strike x1 x2 s) (fun (r : Int32 × wS) => KT s0 r.2) := by
  unfold wX11_strike
  refine pk_bind pk_any (fun t1 _ => ?_)
  refine pk_ite (fun _ => ?_) (fun _ => ?_)
  · exact pk_some g
  · refine pk_bind pk_any (fun t4 _ => ?_)
    refine pk_ite (fun _ => ?_) (fun _ => ?_)
    · exact wX11_strike_j23_KT g
    · exact wX11_strike_j23_KT g
theorem wX11_only_KT {s0 : wS} {x1 : Int32} {s : wS}   (g : KT s0 s) : PK (wX11_only x1 s) (fun (r : Int32 × wS) => KT s0 r.2) := by
  unfold wX11_only
  refine pk_bind pk_any (fun t1 _ => ?_)
  refine pk_ite (fun _ => ?_) (fun _ => ?_)
  · exact pk_some g
  · refine pk_bind (kt_stI (fun _ => rfl) g) (fun s5 g1 => ?_)
    exact pk_some g1
theorem wX11_seed_KT {s0 : wS} {x1 : Int32} {s : wS}   (g : KT s0 s) : PK (wX11_seed x1 s) (fun (r : Int32 × wS) => KT s0 r.2) := by
  unfold wX11_seed
  refine pk_ite (fun _ => ?_) (fun _ => ?_)
  · exact pk_some g
  · refine pk_bind (kt_stI (fun _ => rfl) g) (fun s3 g1 => ?_)
    exact pk_some g1
theorem wX11_verdict_KT {s0 : wS} {x1 : Int32} {s : wS}   (g : KT s0 s) : PK (wX11_verdict x1 s) (fun (r : Int32 × wS) => KT s0 r.2) := by
  unfold wX11_verdict
  refine pk_ite (fun _ => ?_) (fun _ => ?_)
  · refine pk_bind (kt_stI (fun _ => rfl) g) (fun s2 g1 => ?_)
    exact pk_some g1
  · refine pk_bind pk_any (fun t3 _ => ?_)
    refine pk_ite (fun _ => ?_) (fun _ => ?_)
    · exact pk_some g
    · refine pk_ite (fun _ => ?_) (fun _ => ?_)
      · exact pk_some g
      · refine pk_bind (kt_stI (fun _ => rfl) g) (fun s9 g2 => ?_)
        refine pk_bind (kt_stI (fun _ => rfl) g2) (fun s12 g3 => ?_)
        refine pk_bind (kt_stI (fun _ => rfl) g3) (fun s14 g4 => ?_)
        exact pk_some g4
theorem wX11_image_h23_KT {s0 : wS} {x1 : Int32}   : ∀ (n : Nat) {x2 : Int32} {s : wS}, KT s0 s → PK (wX11_image_h23 x1 n x2 s) (fun (r : wS) => KT s0 r) := by
  intro n
  induction n with
  | zero =>
    intro x2 s g
    rw [wX11_image_h23]
    exact pk_none
  | succ n ih =>
    intro x2 s g
    rw [wX11_image_h23]
    refine pk_ite (fun _ => ?_) (fun _ => ?_)
    · refine pk_bind pk_any (fun t6 _ => ?_)
      refine pk_bind (kt_stI (fun _ => rfl) g) (fun s7 g1 => ?_)
      exact ih g1
    · exact pk_some g
theorem wX11_image_KT {s0 : wS} {x1 : Int32} {s : wS}   (g : KT s0 s) : PK (wX11_image x1 s) (fun (r : Int32 × wS) => KT s0 r.2) := by
  unfold wX11_image
  refine pk_bind pk_any (fun t1 _ => ?_)
  refine pk_ite (fun _ => ?_) (fun _ => ?_)
  · exact pk_some g
  · refine pk_bind (kt_stZ (fun _ => rfl) g) (fun s4 g1 => ?_)
    refine pk_bind (wX11_image_h23_KT _ g1) (fun s9 g2 => ?_)
    exact pk_some g2
theorem wX11_back_h25_KT {s0 : wS} {x1 : Int32}   : ∀ (n : Nat) {x2 : Int32} {s : wS}, KT s0 s → PK (wX11_back_h25 x1 n x2 s) (fun (r : wS) => KT s0 r) := by
  intro n
  induction n with
  | zero =>
    intro x2 s g
    rw [wX11_back_h25]
    exact pk_none
  | succ n ih =>
    intro x2 s g
    rw [wX11_back_h25]
    refine pk_ite (fun _ => ?_) (fun _ => ?_)
    · refine pk_bind pk_any (fun t7 _ => ?_)
      refine pk_bind (kt_stI (fun _ => rfl) g) (fun s8 g1 => ?_)
      exact ih g1
    · exact pk_some g
theorem wX11_back_KT {s0 : wS} {x1 : Int32} {s : wS}   (g : KT s0 s) : PK (wX11_back x1 s) (fun (r : Int32 × wS) => KT s0 r.2) := by
  unfold wX11_back
  refine pk_bind pk_any (fun t1 _ => ?_)
  refine pk_ite (fun _ => ?_) (fun _ => ?_)
  · exact pk_some g
  · refine pk_bind pk_any (fun t4 _ => ?_)
    refine pk_ite (fun _ => ?_) (fun _ => ?_)
    · exact pk_some g
    · refine pk_bind (wX11_back_h25_KT _ g) (fun s10 g1 => ?_)
      exact pk_some g1
theorem wX9_cutOne_j131_KT {s0 : wS} {x2 : Int32} {s : wS}   (g : KT s0 s) : PK (wX9_cutOne_j131 x2 s) (fun (r : Int32 × wS) => KT s0 r.2) := by
  unfold wX9_cutOne_j131
  exact pk_some g
theorem wX9_cutOne_j108_KT {s0 : wS} {x2 : Int32} {y0 : Int32} {y1 : Int32} {s : wS}   (g : KT s0 s) : PK (wX9_cutOne_j108 x2 y0 y1 s) (fun (r : Int32 × wS) => KT s0 r.2) := by
  unfold wX9_cutOne_j108
  refine pk_bind pk_any (fun t15 _ => ?_)
  refine pk_bind (wX9_put_KT g) (fun s18 g1 => ?_)
  refine pk_ite (fun _ => ?_) (fun _ => ?_)
  · exact wX9_cutOne_j131_KT g1
  · refine pk_ite (fun _ => ?_) (fun _ => ?_)
    · exact wX9_cutOne_j131_KT g1
    · exact pk_some g1
theorem wX9_cutOne_KT {s0 : wS} {x2 : Int32} {s : wS}   (g : KT s0 s) : PK (wX9_cutOne x2 s) (fun (r : Int32 × wS) => KT s0 r.2) := by
  unfold wX9_cutOne
  refine pk_bind pk_any (fun t1 _ => ?_)
  refine pk_ite (fun _ => ?_) (fun _ => ?_)
  · exact pk_some g
  · refine pk_bind pk_any (fun t4 _ => ?_)
    refine pk_ite (fun _ => ?_) (fun _ => ?_)
    · refine pk_bind pk_any (fun t7 _ => ?_)
      refine pk_ite (fun _ => ?_) (fun _ => ?_)
      · refine pk_bind pk_any (fun t10 _ => ?_)
        refine pk_bind pk_any (fun t12 _ => ?_)
        refine pk_ite (fun _ => ?_) (fun _ => ?_)
        · exact wX9_cutOne_j108_KT g
        · exact wX9_cutOne_j108_KT g
      · refine pk_bind pk_any (fun t22 _ => ?_)
        refine pk_bind pk_any (fun t24 _ => ?_)
        refine pk_bind (wX9_put_KT g) (fun s27 g1 => ?_)
        exact pk_some g1
    · refine pk_bind pk_any (fun t29 _ => ?_)
      refine pk_bind pk_any (fun t31 _ => ?_)
      refine pk_bind (wX9_put_KT g) (fun s34 g2 => ?_)
      exact pk_some g2
theorem wX9_cut_h19_KT {s0 : wS}    : ∀ (n : Nat) {x2 : Int32} {x3 : Int32} {s : wS}, KT s0 s → PK (wX9_cut_h19 n x2 x3 s) (fun (r : wS) => KT s0 r) := by
  intro n
  induction n with
  | zero =>
    intro x2 x3 s g
    rw [wX9_cut_h19]
    exact pk_none
  | succ n ih =>
    intro x2 x3 s g
    rw [wX9_cut_h19]
    refine pk_ite (fun _ => ?_) (fun _ => ?_)
    · refine pk_ite (fun _ => ?_) (fun _ => ?_)
      · refine pk_bind (wX9_cutOne_KT g) (fun p1 h2 => ?_)
        obtain ⟨t6, s7⟩ := p1
        have g3 : KT s0 s7 := h2
        dsimp only
        exact ih g3
      · exact pk_some g
    · exact pk_some g
theorem wX9_cut_j47_KT {s0 : wS} {s : wS}   (g : KT s0 s) : PK (wX9_cut_j47 s) (fun (r : wS) => KT s0 r) := by
  unfold wX9_cut_j47
  refine pk_bind (wX9_put_KT g) (fun s14 g1 => ?_)
  exact pk_some g1
theorem wX9_cut_KT {s0 : wS} {s : wS}   (g : KT s0 s) : PK (wX9_cut s) (fun (r : wS) => KT s0 r) := by
  unfold wX9_cut
  refine pk_bind (kt_pfI rfl g) (fun s1 g1 => ?_)
  refine pk_bind (kt_pfI rfl g1) (fun s2 g2 => ?_)
  refine pk_bind (kt_pfI rfl g2) (fun s3 g3 => ?_)
  refine pk_bind (wX9_cut_h19_KT _ g3) (fun s10 g4 => ?_)
  exact wX9_cut_j47_KT g4
end
section
/-! What is told writes no far table. -/
theorem wX0_clear_KL {s0 : wS} {k0 : Nat} {s : wS}   (g : KLo s0 s) : PK (wX0_clear k0 s) (fun (r : wS) => KLo s0 r) := by
  unfold wX0_clear
  refine pk_bind (kl_stI  g) (fun s1 g1 => ?_)
  refine pk_bind (kl_stI  g1) (fun s2 g2 => ?_)
  refine pk_bind (kl_stI  g2) (fun s3 g3 => ?_)
  exact pk_some g3
theorem wX0_setHours_j19_KL {s0 : wS} {k100 : Nat} {y1 : Int32} {y2 : Int32} {s : wS}   (g : KLo s0 s) : PK (wX0_setHours_j19 k100 y1 y2 s) (fun (r : wS) => KLo s0 r) := by
  unfold wX0_setHours_j19
  refine pk_bind (kl_stI  g) (fun s4 g1 => ?_)
  exact pk_some g1
theorem wX0_setHours_KL {s0 : wS} {k0 : Nat} {x1 : Int32} {s : wS}   (g : KLo s0 s) : PK (wX0_setHours k0 x1 s) (fun (r : wS) => KLo s0 r) := by
  unfold wX0_setHours
  refine pk_bind pk_any (fun t1 _ => ?_)
  refine pk_ite (fun _ => ?_) (fun _ => ?_)
  · exact wX0_setHours_j19_KL g
  · exact wX0_setHours_j19_KL g
theorem wX10_set_KL {s0 : wS} {k0 : Nat} {x1 : Int32} {x2 : Int32} {s : wS}   (g : KLo s0 s) : PK (wX10_set k0 x1 x2 s) (fun (r : wS) => KLo s0 r) := by
  unfold wX10_set
  refine pk_ite (fun _ => ?_) (fun _ => ?_)
  · exact pk_some g
  · refine pk_ite (fun _ => ?_) (fun _ => ?_)
    · refine pk_bind (kl_stI  g) (fun s3 g1 => ?_)
      exact pk_some g1
    · exact pk_some g
theorem wX0_add_KL {s0 : wS} {k0 : Nat} {x1 : Int32} {x2 : Int32} {x3 : Int32} {s : wS}   (g : KLo s0 s) : PK (wX0_add k0 x1 x2 x3 s) (fun (r : wS) => KLo s0 r) := by
  unfold wX0_add
  refine pk_bind pk_any (fun t1 _ => ?_)
  refine pk_ite (fun _ => ?_) (fun _ => ?_)
  · refine pk_bind pk_any (fun t4 _ => ?_)
    refine pk_bind (wX10_set_KL g) (fun s7 g1 => ?_)
    refine pk_bind pk_any (fun t9 _ => ?_)
    refine pk_bind (wX10_set_KL g1) (fun s12 g2 => ?_)
    refine pk_bind (wX10_set_KL g2) (fun s15 g3 => ?_)
    exact pk_some g3
  · exact pk_some g
theorem wX0_becomes_KL {s0 : wS} {k0 : Nat} {k1 : Nat} {s : wS}   (g : KLo s0 s) : PK (wX0_becomes k0 k1 s) (fun (r : wS) => KLo s0 r) := by
  unfold wX0_becomes
  refine pk_bind (kl_cpI  g) (fun s1 g1 => ?_)
  refine pk_bind (kl_cpI  g1) (fun s2 g2 => ?_)
  refine pk_bind (kl_cpI  g2) (fun s3 g3 => ?_)
  exact pk_some g3
theorem wX9_skip_KL {s0 : wS} {s : wS}   (g : KLo s0 s) : PK (wX9_skip s) (fun (r : wS) => KLo s0 r) := by
  unfold wX9_skip
  refine pk_ite (fun _ => ?_) (fun _ => ?_)
  · refine pk_bind (kl_pfI  g) (fun s2 g1 => ?_)
    exact pk_some g1
  · exact pk_some g
theorem wX9_fail_j29_KL {s0 : wS} {s : wS}   (g : KLo s0 s) : PK (wX9_fail_j29 s) (fun (r : wS) => KLo s0 r) := by
  unfold wX9_fail_j29
  refine pk_bind (kl_pfI  g) (fun s5 g1 => ?_)
  exact pk_some g1
theorem wX9_fail_KL {s0 : wS} {x1 : Int32} {s : wS}   (g : KLo s0 s) : PK (wX9_fail x1 s) (fun (r : wS) => KLo s0 r) := by
  unfold wX9_fail
  refine pk_ite (fun _ => ?_) (fun _ => ?_)
  · refine pk_bind pk_any (fun t2 _ => ?_)
    refine pk_bind (kl_pfI  g) (fun s4 g1 => ?_)
    exact wX9_fail_j29_KL g1
  · exact wX9_fail_j29_KL g
theorem wX9_takeNumber_j45_KL {s0 : wS} {x3 : Int32} {s : wS}   (g : KLo s0 s) : PK (wX9_takeNumber_j45 x3 s) (fun (r : Int32 × wS) => KLo s0 r.2) := by
  unfold wX9_takeNumber_j45
  refine pk_bind (wX9_fail_KL g) (fun s8 g1 => ?_)
  exact pk_some g1
theorem wX9_takeNumber_KL {s0 : wS} {x1 : Int32} {x2 : Int32} {s : wS}   (g : KLo s0 s) : PK (wX9_takeNumber x1 x2 s) (fun (r : Int32 × wS) => KLo s0 r.2) := by
  unfold wX9_takeNumber
  refine pk_bind pk_any (fun t1 _ => ?_)
  refine pk_bind pk_any (fun t3 _ => ?_)
  refine pk_ite (fun _ => ?_) (fun _ => ?_)
  · refine pk_ite (fun _ => ?_) (fun _ => ?_)
    · exact wX9_takeNumber_j45_KL g
    · refine pk_ite (fun _ => ?_) (fun _ => ?_)
      · exact wX9_takeNumber_j45_KL g
      · refine pk_bind (wX9_skip_KL g) (fun s12 g1 => ?_)
        exact pk_some g1
  · refine pk_bind (wX9_fail_KL g) (fun s15 g2 => ?_)
    exact pk_some g2
theorem wX1_readClause_j121_KL {s0 : wS} {k100 : Nat} {y1 : Int32} {y2 : Int32} {y4 : Int32} {y5 : Int32} {s : wS}   (g : KLo s0 s) : PK (wX1_readClause_j121 k100 y1 y2 y4 y5 s) (fun (r : wS) => KLo s0 r) := by
  unfold wX1_readClause_j121
  refine pk_bind (wX9_takeNumber_KL g) (fun p1 h2 => ?_)
  obtain ⟨t26, s27⟩ := p1
  have g3 : KLo s0 s27 := h2
  dsimp only
  refine pk_bind (wX0_add_KL g3) (fun s30 g4 => ?_)
  exact pk_some g4
theorem wX1_readClause_j51_KL {s0 : wS} {k2 : Nat} {x4 : Int32} {y0 : Int32} {s : wS}   (g : KLo s0 s) : PK (wX1_readClause_j51 k2 x4 y0 s) (fun (r : wS) => KLo s0 r) := by
  unfold wX1_readClause_j51
  refine pk_ite (fun _ => ?_) (fun _ => ?_)
  · refine pk_bind (wX9_skip_KL g) (fun s12 g1 => ?_)
    refine pk_ite (fun _ => ?_) (fun _ => ?_)
    · refine pk_bind (wX9_takeNumber_KL g1) (fun p2 h3 => ?_)
      obtain ⟨t15, s16⟩ := p2
      have g4 : KLo s0 s16 := h3
      dsimp only
      refine pk_bind (wX0_setHours_KL g4) (fun s19 g5 => ?_)
      refine pk_bind (kl_pfZ  g5) (fun s21 g6 => ?_)
      exact pk_some g6
    · refine pk_bind (wX9_takeNumber_KL g1) (fun p7 h8 => ?_)
      obtain ⟨t22, s23⟩ := p7
      have g9 : KLo s0 s23 := h8
      dsimp only
      refine pk_ite (fun _ => ?_) (fun _ => ?_)
      · exact wX1_readClause_j121_KL g9
      · exact wX1_readClause_j121_KL g9
  · refine pk_bind (wX9_fail_KL g) (fun s33 g10 => ?_)
    exact pk_some g10
theorem wX1_readClause_KL {s0 : wS} {k2 : Nat} {s : wS}   (g : KLo s0 s) : PK (wX1_readClause k2 s) (fun (r : wS) => KLo s0 r) := by
  unfold wX1_readClause
  refine pk_bind pk_any (fun t1 _ => ?_)
  refine pk_bind pk_any (fun t3 _ => ?_)
  refine pk_ite (fun _ => ?_) (fun _ => ?_)
  · refine pk_bind (wX9_fail_KL g) (fun s7 g1 => ?_)
    exact pk_some g1
  · refine pk_ite (fun _ => ?_) (fun _ => ?_)
    · exact wX1_readClause_j51_KL g
    · refine pk_bind pk_any (fun t35 _ => ?_)
      refine pk_ite (fun _ => ?_) (fun _ => ?_)
      · exact wX1_readClause_j51_KL g
      · exact wX1_readClause_j51_KL g
theorem wX9_take_KL {s0 : wS} {x1 : Int32} {s : wS}   (g : KLo s0 s) : PK (wX9_take x1 s) (fun (r : Int32 × wS) => KLo s0 r.2) := by
  unfold wX9_take
  refine pk_bind pk_any (fun t1 _ => ?_)
  refine pk_ite (fun _ => ?_) (fun _ => ?_)
  · refine pk_bind (wX9_skip_KL g) (fun s5 g1 => ?_)
    exact pk_some g1
  · exact pk_some g
theorem wX1_read_h14_KL {s0 : wS} {k2 : Nat}   : ∀ (n : Nat) {x3 : Int32} {x4 : Int32} {s : wS}, KLo s0 s → PK (wX1_read_h14 k2 n x3 x4 s) (fun (r : wS) => KLo s0 r) := by
  intro n
  induction n with
  | zero =>
    intro x3 x4 s g
    rw [wX1_read_h14]
    exact pk_none
  | succ n ih =>
    intro x3 x4 s g
    rw [wX1_read_h14]
    refine pk_ite (fun _ => ?_) (fun _ => ?_)
    · refine pk_ite (fun _ => ?_) (fun _ => ?_)
      · exact pk_some g
      · refine pk_bind (wX1_readClause_KL g) (fun s8 g1 => ?_)
        refine pk_bind (wX9_take_KL g1) (fun p2 h3 => ?_)
        obtain ⟨t10, s11⟩ := p2
        have g4 : KLo s0 s11 := h3
        dsimp only
        exact ih g4
    · exact pk_some g
theorem wX1_read_j58_KL {s0 : wS} {s : wS}   (g : KLo s0 s) : PK (wX1_read_j58 s) (fun (r : wS) => KLo s0 r) := by
  unfold wX1_read_j58
  refine pk_bind (wX9_fail_KL g) (fun s24 g1 => ?_)
  exact pk_some g1
theorem wX1_read_j44_KL {s0 : wS} {k2 : Nat} {s : wS}   (g : KLo s0 s) : PK (wX1_read_j44 k2 s) (fun (r : wS) => KLo s0 r) := by
  unfold wX1_read_j44
  refine pk_bind pk_any (fun t17 _ => ?_)
  refine pk_ite (fun _ => ?_) (fun _ => ?_)
  · refine pk_bind pk_any (fun t20 _ => ?_)
    refine pk_ite (fun _ => ?_) (fun _ => ?_)
    · exact wX1_read_j58_KL g
    · exact pk_some g
  · exact wX1_read_j58_KL g
theorem wX1_read_KL {s0 : wS} {k2 : Nat} {s : wS}   (g : KLo s0 s) : PK (wX1_read k2 s) (fun (r : wS) => KLo s0 r) := by
  unfold wX1_read
  refine pk_bind (wX0_clear_KL g) (fun s2 g1 => ?_)
  refine pk_bind (kl_pfZ  g1) (fun s4 g2 => ?_)
  refine pk_bind (wX1_read_h14_KL _ g2) (fun s14 g3 => ?_)
  exact wX1_read_j44_KL g3
theorem wX2_open_KL {s0 : wS} {k0 : Nat} {k1 : Nat} {s : wS}   (g : KLo s0 s) : PK (wX2_open k0 k1 s) (fun (r : wS) => KLo s0 r) := by
  unfold wX2_open
  refine pk_bind (wX0_becomes_KL g) (fun s2 g1 => ?_)
  refine pk_bind (kl_pfI  g1) (fun s4 g2 => ?_)
  refine pk_bind (kl_pfI  g2) (fun s5 g3 => ?_)
  refine pk_bind (kl_pfI  g3) (fun s6 g4 => ?_)
  exact pk_some g4
theorem wX2_becomes_h73_KL {s0 : wS} {k0 : Nat} {k1 : Nat}   : ∀ (n : Nat) {x2 : Int32} {s : wS}, KLo s0 s → PK (wX2_becomes_h73 k0 k1 n x2 s) (fun (r : wS) => KLo s0 r) := by
  intro n
  induction n with
  | zero =>
    intro x2 s g
    rw [wX2_becomes_h73]
    exact pk_none
  | succ n ih =>
    intro x2 s g
    rw [wX2_becomes_h73]
    refine pk_ite (fun _ => ?_) (fun _ => ?_)
    · refine pk_bind pk_any (fun t9 _ => ?_)
      refine pk_bind (kl_stZ  g) (fun s10 g1 => ?_)
      exact ih g1
    · exact pk_some g
theorem wX2_becomes_KL {s0 : wS} {k0 : Nat} {k1 : Nat} {s : wS}   (g : KLo s0 s) : PK (wX2_becomes k0 k1 s) (fun (r : wS) => KLo s0 r) := by
  unfold wX2_becomes
  refine pk_bind (wX0_becomes_KL g) (fun s2 g1 => ?_)
  refine pk_bind (kl_cpI  g1) (fun s4 g2 => ?_)
  refine pk_bind (kl_cpI  g2) (fun s5 g3 => ?_)
  refine pk_bind (kl_cpI  g3) (fun s6 g4 => ?_)
  refine pk_bind (kl_cpI  g4) (fun s7 g5 => ?_)
  refine pk_bind (wX2_becomes_h73_KL _ g5) (fun s12 g6 => ?_)
  refine pk_bind (kl_pfI  g6) (fun s14 g7 => ?_)
  refine pk_bind (kl_pfI  g7) (fun s15 g8 => ?_)
  refine pk_bind (kl_cpI  g8) (fun s16 g9 => ?_)
  refine pk_bind (kl_cpI  g9) (fun s17 g10 => ?_)
  refine pk_bind (kl_pfI  g10) (fun s18 g11 => ?_)
  refine pk_bind (kl_pfI  g11) (fun s19 g12 => ?_)
  exact pk_some g12
theorem wX2_takeDown_KL {s0 : wS} {k0 : Nat} {x1 : Int32} {x2 : Int32} {x3 : Int32} {x4 : Int32} {s : wS}   (g : KLo s0 s) : PK (wX2_takeDown k0 x1 x2 x3 x4 s) (fun (r : Int32 × wS) => KLo s0 r.2) := by
  unfold wX2_takeDown
  refine pk_bind pk_any (fun t1 _ => ?_)
  refine pk_ite (fun _ => ?_) (fun _ => ?_)
  · refine pk_bind (kl_stI  g) (fun s4 g1 => ?_)
    refine pk_bind (kl_stI  g1) (fun s5 g2 => ?_)
    refine pk_bind (kl_stI  g2) (fun s6 g3 => ?_)
    refine pk_bind (kl_stI  g3) (fun s7 g4 => ?_)
    refine pk_bind (kl_stZ  g4) (fun s8 g5 => ?_)
    refine pk_bind (kl_pfI  g5) (fun s9 g6 => ?_)
    exact pk_some g6
  · exact pk_some g
theorem wX2_setStruck_KL {s0 : wS} {k0 : Nat} {x1 : Int32} {x2 : Int32} {s : wS}   (g : KLo s0 s) : PK (wX2_setStruck k0 x1 x2 s) (fun (r : wS) => KLo s0 r) := by
  unfold wX2_setStruck
  refine pk_bind pk_any (fun t1 _ => ?_)
  refine pk_ite (fun _ => ?_) (fun _ => ?_)
  · refine pk_bind (kl_stZ  g) (fun s4 g1 => ?_)
    exact pk_some g1
  · exact pk_some g
theorem wX2_judge_KL {s0 : wS} {k0 : Nat} {x1 : Int32} {s : wS}   (g : KLo s0 s) : PK (wX2_judge k0 x1 s) (fun (r : wS) => KLo s0 r) := by
  unfold wX2_judge
  refine pk_bind pk_any (fun t1 _ => ?_)
  refine pk_ite (fun _ => ?_) (fun _ => ?_)
  · refine pk_bind (kl_stI  g) (fun s4 g1 => ?_)
    refine pk_bind (kl_stI  g1) (fun s5 g2 => ?_)
    refine pk_bind (kl_pfI  g2) (fun s6 g3 => ?_)
    exact pk_some g3
  · exact pk_some g
theorem wX3_clear_KL {s0 : wS} {k0 : Nat} {s : wS}   (g : KLo s0 s) : PK (wX3_clear k0 s) (fun (r : wS) => KLo s0 r) := by
  unfold wX3_clear
  refine pk_bind (kl_pfI  g) (fun s1 g1 => ?_)
  refine pk_bind (kl_pfI  g1) (fun s2 g2 => ?_)
  refine pk_bind (kl_pfZ  g2) (fun s3 g3 => ?_)
  exact pk_some g3
theorem wX3_put_KL {s0 : wS} {k0 : Nat} {x1 : Int32} {s : wS}   (g : KLo s0 s) : PK (wX3_put k0 x1 s) (fun (r : wS) => KLo s0 r) := by
  unfold wX3_put
  refine pk_ite (fun _ => ?_) (fun _ => ?_)
  · exact pk_some g
  · refine pk_ite (fun _ => ?_) (fun _ => ?_)
    · exact pk_some g
    · refine pk_ite (fun _ => ?_) (fun _ => ?_)
      · refine pk_bind (kl_stI  g) (fun s4 g1 => ?_)
        refine pk_bind (kl_pfI  g1) (fun s5 g2 => ?_)
        exact pk_some g2
      · exact pk_some g
theorem wX3_addClause_KL {s0 : wS} {k0 : Nat} {x1 : Int32} {x2 : Int32} {x3 : Int32} {s : wS}   (g : KLo s0 s) : PK (wX3_addClause k0 x1 x2 x3 s) (fun (r : wS) => KLo s0 r) := by
  unfold wX3_addClause
  refine pk_bind pk_any (fun t1 _ => ?_)
  refine pk_ite (fun _ => ?_) (fun _ => ?_)
  · refine pk_bind (kl_stI  g) (fun s4 g1 => ?_)
    refine pk_bind (kl_stI  g1) (fun s5 g2 => ?_)
    refine pk_bind (kl_stI  g2) (fun s6 g3 => ?_)
    refine pk_bind (kl_stI  g3) (fun s7 g4 => ?_)
    refine pk_bind (kl_pfI  g4) (fun s8 g5 => ?_)
    exact pk_some g5
  · exact pk_some g
theorem wX4_readValue_j34_KL {s0 : wS} {s : wS}   (g : KLo s0 s) : PK (wX4_readValue_j34 s) (fun (r : wS) => KLo s0 r) := by
  unfold wX4_readValue_j34
  refine pk_bind (wX9_fail_KL g) (fun s7 g1 => ?_)
  exact pk_some g1
theorem wX4_readValue_j111_KL {s0 : wS} {k100 : Nat} {y1 : Int32} {s : wS}   (g : KLo s0 s) : PK (wX4_readValue_j111 k100 y1 s) (fun (r : wS) => KLo s0 r) := by
  unfold wX4_readValue_j111
  refine pk_bind (wX3_put_KL g) (fun s15 g1 => ?_)
  refine pk_bind (wX9_skip_KL g1) (fun s18 g2 => ?_)
  exact pk_some g2
theorem wX4_readValue_j67_KL {s0 : wS} {k2 : Nat} {x3 : Int32} {x4 : Int32} {s : wS}   (g : KLo s0 s) : PK (wX4_readValue_j67 k2 x3 x4 s) (fun (r : wS) => KLo s0 r) := by
  unfold wX4_readValue_j67
  refine pk_ite (fun _ => ?_) (fun _ => ?_)
  · refine pk_bind (kl_pfI  g) (fun s12 g1 => ?_)
    refine pk_ite (fun _ => ?_) (fun _ => ?_)
    · exact wX4_readValue_j111_KL g1
    · refine pk_bind pk_any (fun t20 _ => ?_)
      exact wX4_readValue_j111_KL g1
  · refine pk_bind (wX9_fail_KL g) (fun s23 g2 => ?_)
    exact pk_some g2
theorem wX4_readValue_j42_KL {s0 : wS} {k2 : Nat} {x3 : Int32} {x4 : Int32} {s : wS}   (g : KLo s0 s) : PK (wX4_readValue_j42 k2 x3 x4 s) (fun (r : wS) => KLo s0 r) := by
  unfold wX4_readValue_j42
  refine pk_ite (fun _ => ?_) (fun _ => ?_)
  · exact wX4_readValue_j67_KL g
  · refine pk_bind pk_any (fun t25 _ => ?_)
    refine pk_bind pk_any (fun t27 _ => ?_)
    refine pk_ite (fun _ => ?_) (fun _ => ?_)
    · exact wX4_readValue_j67_KL g
    · refine pk_bind (wX9_fail_KL g) (fun s31 g1 => ?_)
      exact pk_some g1
theorem wX4_readValue_j15_KL {s0 : wS} {k2 : Nat} {x3 : Int32} {y0 : Int32} {s : wS}   (g : KLo s0 s) : PK (wX4_readValue_j15 k2 x3 y0 s) (fun (r : wS) => KLo s0 r) := by
  unfold wX4_readValue_j15
  refine pk_ite (fun _ => ?_) (fun _ => ?_)
  · refine pk_ite (fun _ => ?_) (fun _ => ?_)
    · exact wX4_readValue_j34_KL g
    · refine pk_ite (fun _ => ?_) (fun _ => ?_)
      · exact wX4_readValue_j34_KL g
      · exact wX4_readValue_j42_KL g
  · exact wX4_readValue_j42_KL g
theorem wX4_readValue_KL {s0 : wS} {k2 : Nat} {s : wS}   (g : KLo s0 s) : PK (wX4_readValue k2 s) (fun (r : wS) => KLo s0 r) := by
  unfold wX4_readValue
  refine pk_bind pk_any (fun t1 _ => ?_)
  refine pk_ite (fun _ => ?_) (fun _ => ?_)
  · exact wX4_readValue_j15_KL g
  · exact wX4_readValue_j15_KL g
theorem wX4_readSum_j89_KL {s0 : wS} {k2 : Nat} {x3 : Int32} {x4 : Int32} {s : wS} {qq : Int32 → Int32 → wS → Option ((Int32 × wS) ⊕ (Int32 × wS))} (hqq : ∀ (v0 : Int32) (v1 : Int32) (v2 : wS), KLo s0 v2 → PK (qq v0 v1 v2) (Sum.elim (fun (r : Int32 × wS) => KLo s0 r.2) (fun (r : Int32 × wS) => KLo s0 r.2))) (g : KLo s0 s) : PK (wX4_readSum_j89 qq k2 x3 x4 s) (Sum.elim (fun (r : Int32 × wS) => KLo s0 r.2) (fun (r : Int32 × wS) => KLo s0 r.2)) := by
  unfold wX4_readSum_j89
  exact hqq _ _ _ g
theorem wX4_readSum_j60_KL {s0 : wS} {k2 : Nat} {x3 : Int32} {x4 : Int32} {x5 : Int32} {s : wS} {qq : Int32 → Int32 → wS → Option ((Int32 × wS) ⊕ (Int32 × wS))} (hqq : ∀ (v0 : Int32) (v1 : Int32) (v2 : wS), KLo s0 v2 → PK (qq v0 v1 v2) (Sum.elim (fun (r : Int32 × wS) => KLo s0 r.2) (fun (r : Int32 × wS) => KLo s0 r.2))) (g : KLo s0 s) : PK (wX4_readSum_j60 qq k2 x3 x4 x5 s) (Sum.elim (fun (r : Int32 × wS) => KLo s0 r.2) (fun (r : Int32 × wS) => KLo s0 r.2)) := by
  unfold wX4_readSum_j60
  refine pk_bind (wX4_readValue_KL g) (fun s14 g1 => ?_)
  refine pk_bind (wX3_put_KL g1) (fun s17 g2 => ?_)
  exact wX4_readSum_j89_KL hqq g2
theorem wX4_readSum_h11_KL {s0 : wS} {k2 : Nat}   : ∀ (n : Nat) {x3 : Int32} {x4 : Int32} {s : wS}, KLo s0 s → PK (wX4_readSum_h11 k2 n x3 x4 s) (Sum.elim (fun (r : Int32 × wS) => KLo s0 r.2) (fun (r : Int32 × wS) => KLo s0 r.2)) := by
  intro n
  induction n with
  | zero =>
    intro x3 x4 s g
    rw [wX4_readSum_h11]
    exact pk_none
  | succ n ih =>
    intro x3 x4 s g
    rw [wX4_readSum_h11]
    refine pk_ite (fun _ => ?_) (fun _ => ?_)
    · refine pk_bind pk_any (fun t5 _ => ?_)
      refine pk_ite (fun _ => ?_) (fun _ => ?_)
      · exact pk_some g
      · refine pk_ite (fun _ => ?_) (fun _ => ?_)
        · exact pk_some g
        · refine pk_bind (wX9_skip_KL g) (fun s10 g1 => ?_)
          refine pk_ite (fun _ => ?_) (fun _ => ?_)
          · exact wX4_readSum_j60_KL (fun _ _ _ g => ih g) g1
          · refine pk_ite (fun _ => ?_) (fun _ => ?_)
            · exact wX4_readSum_j60_KL (fun _ _ _ g => ih g) g1
            · refine pk_bind (wX3_put_KL g1) (fun s21 g2 => ?_)
              refine pk_bind (wX4_readValue_KL g2) (fun s24 g3 => ?_)
              exact wX4_readSum_j89_KL (fun _ _ _ g => ih g) g3
    · exact pk_some g
theorem wX4_readSum_j95_KL {s0 : wS} {k2 : Nat} {x3 : Int32} {s : wS}   (g : KLo s0 s) : PK (wX4_readSum_j95 k2 x3 s) (fun (r : wS) => KLo s0 r) := by
  unfold wX4_readSum_j95
  refine pk_bind (wX3_put_KL g) (fun s32 g1 => ?_)
  exact pk_some g1
theorem wX4_readSum_KL {s0 : wS} {k2 : Nat} {s : wS}   (g : KLo s0 s) : PK (wX4_readSum k2 s) (fun (r : wS) => KLo s0 r) := by
  unfold wX4_readSum
  refine pk_bind (wX4_readValue_KL g) (fun s2 g1 => ?_)
  refine pk_bind (wX4_readSum_h11_KL _ g1) (fun z26 h2 => ?_)
  rcases z26 with ⟨t27, s28⟩ | ⟨t34, s35⟩
  · have g3 : KLo s0 s28 := h2
    dsimp only
    exact wX4_readSum_j95_KL g3
  · have g4 : KLo s0 s35 := h2
    dsimp only
    exact wX4_readSum_j95_KL g4
theorem wX4_readTest_j76_KL {s0 : wS} {k2 : Nat} {x3 : Int32} {x4 : Int32} {x5 : Int32} {s : wS} {q : Nat → Int32 → wS → Option wS} {qq : Int32 → Int32 → wS → Option (Int32 × wS)} (hq : ∀ (v0 : Nat) (v1 : Int32) (v2 : wS), KLo s0 v2 → PK (q v0 v1 v2) (fun (r : wS) => KLo s0 r)) (hqq : ∀ (v0 : Int32) (v1 : Int32) (v2 : wS), KLo s0 v2 → PK (qq v0 v1 v2) (fun (r : Int32 × wS) => KLo s0 r.2)) (g : KLo s0 s) : PK (wX4_readTest_j76 q qq k2 x3 x4 x5 s) (fun (r : Int32 × wS) => KLo s0 r.2) := by
  unfold wX4_readTest_j76
  exact hqq _ _ _ g
theorem wX4_readTest_j66_KL {s0 : wS} {k2 : Nat} {x3 : Int32} {x5 : Int32} {s : wS} {q : Nat → Int32 → wS → Option wS} {qq : Int32 → Int32 → wS → Option (Int32 × wS)} (hq : ∀ (v0 : Nat) (v1 : Int32) (v2 : wS), KLo s0 v2 → PK (q v0 v1 v2) (fun (r : wS) => KLo s0 r)) (hqq : ∀ (v0 : Int32) (v1 : Int32) (v2 : wS), KLo s0 v2 → PK (qq v0 v1 v2) (fun (r : Int32 × wS) => KLo s0 r.2)) (g : KLo s0 s) : PK (wX4_readTest_j66 q qq k2 x3 x5 s) (fun (r : Int32 × wS) => KLo s0 r.2) := by
  unfold wX4_readTest_j66
  refine pk_bind (hq _ _ _ g) (fun s15 g1 => ?_)
  exact wX4_readTest_j76_KL hq hqq g1
theorem wX4_readTest_h13_KL {s0 : wS} {k2 : Nat} {x3 : Int32} {q : Nat → Int32 → wS → Option wS} (hq : ∀ (v0 : Nat) (v1 : Int32) (v2 : wS), KLo s0 v2 → PK (q v0 v1 v2) (fun (r : wS) => KLo s0 r)) : ∀ (n : Nat) {x4 : Int32} {x5 : Int32} {s : wS}, KLo s0 s → PK (wX4_readTest_h13 q k2 x3 n x4 x5 s) (fun (r : Int32 × wS) => KLo s0 r.2) := by
  intro n
  induction n with
  | zero =>
    intro x4 x5 s g
    rw [wX4_readTest_h13]
    exact pk_none
  | succ n ih =>
    intro x4 x5 s g
    rw [wX4_readTest_h13]
    refine pk_ite (fun _ => ?_) (fun _ => ?_)
    · refine pk_bind (wX9_take_KL g) (fun p1 h2 => ?_)
      obtain ⟨t5, s6⟩ := p1
      have g3 : KLo s0 s6 := h2
      dsimp only
      refine pk_ite (fun _ => ?_) (fun _ => ?_)
      · refine pk_bind (wX9_take_KL g3) (fun p4 h5 => ?_)
        obtain ⟨t9, s10⟩ := p4
        have g6 : KLo s0 s10 := h5
        dsimp only
        refine pk_ite (fun _ => ?_) (fun _ => ?_)
        · exact pk_some g6
        · refine pk_ite (fun _ => ?_) (fun _ => ?_)
          · exact wX4_readTest_j66_KL hq (fun _ _ _ g => ih g) g6
          · refine pk_bind (wX3_put_KL g6) (fun s18 g7 => ?_)
            exact wX4_readTest_j66_KL hq (fun _ _ _ g => ih g) g7
      · refine pk_bind (hq _ _ _ g3) (fun s21 g8 => ?_)
        refine pk_bind (wX3_put_KL g8) (fun s24 g9 => ?_)
        exact wX4_readTest_j76_KL hq (fun _ _ _ g => ih g) g9
    · exact pk_some g
theorem wX4_readTest_j82_KL {s0 : wS} {k2 : Nat} {x4 : Int32} {s : wS} {q : Nat → Int32 → wS → Option wS} (hq : ∀ (v0 : Nat) (v1 : Int32) (v2 : wS), KLo s0 v2 → PK (q v0 v1 v2) (fun (r : wS) => KLo s0 r)) (g : KLo s0 s) : PK (wX4_readTest_j82 q k2 x4 s) (fun (r : wS) => KLo s0 r) := by
  unfold wX4_readTest_j82
  refine pk_ite (fun _ => ?_) (fun _ => ?_)
  · exact pk_some g
  · refine pk_bind (wX3_put_KL g) (fun s33 g1 => ?_)
    exact pk_some g1
theorem wX4_readTest_b_KL {s0 : wS} {k2 : Nat} {x3 : Int32} {s : wS} {q : Nat → Int32 → wS → Option wS} (hq : ∀ (v0 : Nat) (v1 : Int32) (v2 : wS), KLo s0 v2 → PK (q v0 v1 v2) (fun (r : wS) => KLo s0 r)) (g : KLo s0 s) : PK (wX4_readTest_b q k2 x3 s) (fun (r : wS) => KLo s0 r) := by
  unfold wX4_readTest_b
  refine pk_bind (hq _ _ _ g) (fun s2 g1 => ?_)
  refine pk_bind (wX4_readTest_h13_KL hq _ g1) (fun p2 h3 => ?_)
  obtain ⟨t27, s28⟩ := p2
  have g4 : KLo s0 s28 := h3
  dsimp only
  exact wX4_readTest_j82_KL hq g4
theorem wX4_readFact_j153_KL {s0 : wS} {k2 : Nat} {x6 : Int32} {s : wS} {q : Nat → Int32 → wS → Option wS} (hq : ∀ (v0 : Nat) (v1 : Int32) (v2 : wS), KLo s0 v2 → PK (q v0 v1 v2) (fun (r : wS) => KLo s0 r)) (g : KLo s0 s) : PK (wX4_readFact_j153 q k2 x6 s) (fun (r : wS) => KLo s0 r) := by
  unfold wX4_readFact_j153
  refine pk_bind (kl_pfI  g) (fun s22 g1 => ?_)
  refine pk_bind (wX9_skip_KL g1) (fun s24 g2 => ?_)
  refine pk_bind (wX4_readSum_KL g2) (fun s27 g3 => ?_)
  refine pk_bind (wX3_put_KL g3) (fun s30 g4 => ?_)
  exact pk_some g4
theorem wX4_readFact_j131_KL {s0 : wS} {k2 : Nat} {x6 : Int32} {s : wS} {q : Nat → Int32 → wS → Option wS} (hq : ∀ (v0 : Nat) (v1 : Int32) (v2 : wS), KLo s0 v2 → PK (q v0 v1 v2) (fun (r : wS) => KLo s0 r)) (g : KLo s0 s) : PK (wX4_readFact_j131 q k2 x6 s) (fun (r : wS) => KLo s0 r) := by
  unfold wX4_readFact_j131
  refine pk_bind (wX9_fail_KL g) (fun s20 g1 => ?_)
  exact wX4_readFact_j153_KL hq g1
theorem wX4_readFact_j45_KL {s0 : wS} {k2 : Nat} {x3 : Int32} {s : wS} {q : Nat → Int32 → wS → Option wS} (hq : ∀ (v0 : Nat) (v1 : Int32) (v2 : wS), KLo s0 v2 → PK (q v0 v1 v2) (fun (r : wS) => KLo s0 r)) (g : KLo s0 s) : PK (wX4_readFact_j45 q k2 x3 s) (fun (r : wS) => KLo s0 r) := by
  unfold wX4_readFact_j45
  refine pk_bind (wX9_take_KL g) (fun p1 h2 => ?_)
  obtain ⟨t5, s6⟩ := p1
  have g3 : KLo s0 s6 := h2
  dsimp only
  refine pk_ite (fun _ => ?_) (fun _ => ?_)
  · refine pk_bind (wX9_take_KL g3) (fun p4 h5 => ?_)
    obtain ⟨t9, s10⟩ := p4
    have g6 : KLo s0 s10 := h5
    dsimp only
    refine pk_ite (fun _ => ?_) (fun _ => ?_)
    · refine pk_bind (wX4_readSum_KL g6) (fun s14 g7 => ?_)
      refine pk_bind pk_any (fun t16 _ => ?_)
      refine pk_ite (fun _ => ?_) (fun _ => ?_)
      · exact wX4_readFact_j131_KL hq g7
      · refine pk_ite (fun _ => ?_) (fun _ => ?_)
        · exact wX4_readFact_j131_KL hq g7
        · refine pk_ite (fun _ => ?_) (fun _ => ?_)
          · exact wX4_readFact_j153_KL hq g7
          · refine pk_bind (wX9_fail_KL g7) (fun s35 g8 => ?_)
            exact wX4_readFact_j153_KL hq g8
    · refine pk_bind (wX4_readTest_b_KL hq g6) (fun s38 g9 => ?_)
      refine pk_bind (wX9_take_KL g9) (fun p10 h11 => ?_)
      obtain ⟨t40, s41⟩ := p10
      have g12 : KLo s0 s41 := h11
      dsimp only
      refine pk_ite (fun _ => ?_) (fun _ => ?_)
      · refine pk_bind (wX9_fail_KL g12) (fun s45 g13 => ?_)
        exact pk_some g13
      · exact pk_some g12
  · refine pk_bind (hq _ _ _ g3) (fun s48 g14 => ?_)
    refine pk_bind (wX3_put_KL g14) (fun s51 g15 => ?_)
    exact pk_some g15
theorem wX4_readFact_j24_KL {s0 : wS} {k2 : Nat} {x3 : Int32} {y0 : Int32} {s : wS} {q : Nat → Int32 → wS → Option wS} (hq : ∀ (v0 : Nat) (v1 : Int32) (v2 : wS), KLo s0 v2 → PK (q v0 v1 v2) (fun (r : wS) => KLo s0 r)) (g : KLo s0 s) : PK (wX4_readFact_j24 q k2 x3 y0 s) (fun (r : wS) => KLo s0 r) := by
  unfold wX4_readFact_j24
  refine pk_ite (fun _ => ?_) (fun _ => ?_)
  · exact wX4_readFact_j45_KL hq g
  · refine pk_ite (fun _ => ?_) (fun _ => ?_)
    · exact wX4_readFact_j45_KL hq g
    · refine pk_bind (wX9_fail_KL g) (fun s55 g1 => ?_)
      exact pk_some g1
theorem wX4_readFact_j19_KL {s0 : wS} {k2 : Nat} {x3 : Int32} {s : wS} {q : Nat → Int32 → wS → Option wS} (hq : ∀ (v0 : Nat) (v1 : Int32) (v2 : wS), KLo s0 v2 → PK (q v0 v1 v2) (fun (r : wS) => KLo s0 r)) (g : KLo s0 s) : PK (wX4_readFact_j19 q k2 x3 s) (fun (r : wS) => KLo s0 r) := by
  unfold wX4_readFact_j19
  exact wX4_readFact_j24_KL hq g
theorem wX4_readFact_b_KL {s0 : wS} {k2 : Nat} {x3 : Int32} {s : wS} {q : Nat → Int32 → wS → Option wS} (hq : ∀ (v0 : Nat) (v1 : Int32) (v2 : wS), KLo s0 v2 → PK (q v0 v1 v2) (fun (r : wS) => KLo s0 r)) (g : KLo s0 s) : PK (wX4_readFact_b q k2 x3 s) (fun (r : wS) => KLo s0 r) := by
  unfold wX4_readFact_b
  refine pk_bind pk_any (fun t1 _ => ?_)
  refine pk_ite (fun _ => ?_) (fun _ => ?_)
  · exact wX4_readFact_j19_KL hq g
  · refine pk_ite (fun _ => ?_) (fun _ => ?_)
    · exact wX4_readFact_j19_KL hq g
    · exact wX4_readFact_j24_KL hq g
theorem wX4_readFact_KL {s0 : wS}    : ∀ (n : Nat) {k : Nat} {a : Int32} {s : wS}, KLo s0 s → PK (wX4_readFact n k a s) (fun (r : wS) => KLo s0 r) := by
  intro n
  induction n with
  | zero =>
    intro k a s g
    rw [wX4_readFact]
    exact pk_none
  | succ n ih =>
    intro k a s g
    rw [wX4_readFact]
    exact wX4_readFact_b_KL (fun _ _ _ g => ih g) g
theorem wX4_readTest_KL {s0 : wS} {k : Nat} {a : Int32} {s : wS}   (g : KLo s0 s) : PK (wX4_readTest k a s) (fun (r : wS) => KLo s0 r) := by
  unfold wX4_readTest
  exact wX4_readTest_b_KL (fun _ _ _ g => wX4_readFact_KL _ g) g
theorem wX4_read_j101_KL {s0 : wS} {k2 : Nat} {x4 : Int32} {x5 : Int32} {x6 : Int32} {x7 : Int32} {s : wS} {qq : Int32 → Int32 → wS → Option (wS)} (hqq : ∀ (v0 : Int32) (v1 : Int32) (v2 : wS), KLo s0 v2 → PK (qq v0 v1 v2) (fun (r : wS) => KLo s0 r)) (g : KLo s0 s) : PK (wX4_read_j101 qq k2 x4 x5 x6 x7 s) (fun (r : wS) => KLo s0 r) := by
  unfold wX4_read_j101
  refine pk_bind (wX3_addClause_KL g) (fun s26 g1 => ?_)
  refine pk_bind (wX9_take_KL g1) (fun p2 h3 => ?_)
  obtain ⟨t28, s29⟩ := p2
  have g4 : KLo s0 s29 := h3
  dsimp only
  exact hqq _ _ _ g4
theorem wX4_read_j63_KL {s0 : wS} {k2 : Nat} {x4 : Int32} {x5 : Int32} {s : wS} {qq : Int32 → Int32 → wS → Option (wS)} (hqq : ∀ (v0 : Int32) (v1 : Int32) (v2 : wS), KLo s0 v2 → PK (qq v0 v1 v2) (fun (r : wS) => KLo s0 r)) (g : KLo s0 s) : PK (wX4_read_j63 qq k2 x4 x5 s) (fun (r : wS) => KLo s0 r) := by
  unfold wX4_read_j63
  refine pk_bind (wX9_skip_KL g) (fun s16 g1 => ?_)
  refine pk_bind (wX4_readSum_KL g1) (fun s19 g2 => ?_)
  refine pk_bind (wX9_take_KL g2) (fun p3 h4 => ?_)
  obtain ⟨t21, s22⟩ := p3
  have g5 : KLo s0 s22 := h4
  dsimp only
  refine pk_ite (fun _ => ?_) (fun _ => ?_)
  · exact wX4_read_j101_KL hqq g5
  · refine pk_bind (wX4_readTest_KL g5) (fun s32 g6 => ?_)
    exact wX4_read_j101_KL hqq g6
theorem wX4_read_h14_KL {s0 : wS} {k2 : Nat}   : ∀ (n : Nat) {x3 : Int32} {x4 : Int32} {s : wS}, KLo s0 s → PK (wX4_read_h14 k2 n x3 x4 s) (fun (r : wS) => KLo s0 r) := by
  intro n
  induction n with
  | zero =>
    intro x3 x4 s g
    rw [wX4_read_h14]
    exact pk_none
  | succ n ih =>
    intro x3 x4 s g
    rw [wX4_read_h14]
    refine pk_ite (fun _ => ?_) (fun _ => ?_)
    · refine pk_ite (fun _ => ?_) (fun _ => ?_)
      · exact pk_some g
      · refine pk_bind pk_any (fun t7 _ => ?_)
        refine pk_bind pk_any (fun t9 _ => ?_)
        refine pk_ite (fun _ => ?_) (fun _ => ?_)
        · refine pk_bind (wX9_fail_KL g) (fun s13 g1 => ?_)
          exact wX4_read_j63_KL (fun _ _ _ g => ih g) g1
        · refine pk_ite (fun _ => ?_) (fun _ => ?_)
          · exact wX4_read_j63_KL (fun _ _ _ g => ih g) g
          · refine pk_bind (wX9_fail_KL g) (fun s36 g2 => ?_)
            exact wX4_read_j63_KL (fun _ _ _ g => ih g) g2
    · exact pk_some g
theorem wX4_read_j123_KL {s0 : wS} {s : wS}   (g : KLo s0 s) : PK (wX4_read_j123 s) (fun (r : wS) => KLo s0 r) := by
  unfold wX4_read_j123
  refine pk_bind pk_any (fun t46 _ => ?_)
  refine pk_ite (fun _ => ?_) (fun _ => ?_)
  · exact pk_some g
  · refine pk_bind (wX9_fail_KL g) (fun s50 g1 => ?_)
    exact pk_some g1
theorem wX4_read_KL {s0 : wS} {k2 : Nat} {s : wS}   (g : KLo s0 s) : PK (wX4_read k2 s) (fun (r : wS) => KLo s0 r) := by
  unfold wX4_read
  refine pk_bind (kl_pfI  g) (fun s1 g1 => ?_)
  refine pk_bind (wX3_clear_KL g1) (fun s3 g2 => ?_)
  refine pk_bind (wX4_read_h14_KL _ g2) (fun s39 g3 => ?_)
  exact wX4_read_j123_KL g3
theorem wX5_add_KL {s0 : wS} {x1 : Int32} {x2 : Int32} {x3 : Int32} {s : wS}   (g : KLo s0 s) : PK (wX5_add x1 x2 x3 s) (fun (r : wS) => KLo s0 r) := by
  unfold wX5_add
  refine pk_bind pk_any (fun t1 _ => ?_)
  refine pk_ite (fun _ => ?_) (fun _ => ?_)
  · refine pk_bind (kl_stI  g) (fun s4 g1 => ?_)
    refine pk_bind (kl_stI  g1) (fun s5 g2 => ?_)
    refine pk_bind (kl_stI  g2) (fun s6 g3 => ?_)
    refine pk_bind (kl_pfI  g3) (fun s7 g4 => ?_)
    exact pk_some g4
  · exact pk_some g
theorem wX5_fill_h28_KL {s0 : wS} {k1 : Nat} {x2 : Int32} {x3 : Int32}   : ∀ (n : Nat) {x4 : Int32} {s : wS}, KLo s0 s → PK (wX5_fill_h28 k1 x2 x3 n x4 s) (fun (r : wS) => KLo s0 r) := by
  intro n
  induction n with
  | zero =>
    intro x4 s g
    rw [wX5_fill_h28]
    exact pk_none
  | succ n ih =>
    intro x4 s g
    rw [wX5_fill_h28]
    refine pk_bind pk_any (fun t6 _ => ?_)
    refine pk_ite (fun _ => ?_) (fun _ => ?_)
    · refine pk_bind (wX5_add_KL g) (fun s10 g1 => ?_)
      exact ih g1
    · exact pk_some g
theorem wX5_fill_h14_KL {s0 : wS} {k1 : Nat} {x2 : Int32}   : ∀ (n : Nat) {x3 : Int32} {s : wS}, KLo s0 s → PK (wX5_fill_h14 k1 x2 n x3 s) (fun (r : wS) => KLo s0 r) := by
  intro n
  induction n with
  | zero =>
    intro x3 s g
    rw [wX5_fill_h14]
    exact pk_none
  | succ n ih =>
    intro x3 s g
    rw [wX5_fill_h14]
    refine pk_bind pk_any (fun t3 _ => ?_)
    refine pk_ite (fun _ => ?_) (fun _ => ?_)
    · refine pk_bind (wX5_fill_h28_KL _ g) (fun s13 g1 => ?_)
      exact ih g1
    · exact pk_some g
theorem wX5_fill_h7_KL {s0 : wS} {k1 : Nat}   : ∀ (n : Nat) {x2 : Int32} {s : wS}, KLo s0 s → PK (wX5_fill_h7 k1 n x2 s) (fun (r : wS) => KLo s0 r) := by
  intro n
  induction n with
  | zero =>
    intro x2 s g
    rw [wX5_fill_h7]
    exact pk_none
  | succ n ih =>
    intro x2 s g
    rw [wX5_fill_h7]
    refine pk_ite (fun _ => ?_) (fun _ => ?_)
    · refine pk_bind (wX5_fill_h14_KL _ g) (fun s16 g1 => ?_)
      exact ih g1
    · exact pk_some g
theorem wX5_fill_KL {s0 : wS} {k1 : Nat} {s : wS}   (g : KLo s0 s) : PK (wX5_fill k1 s) (fun (r : wS) => KLo s0 r) := by
  unfold wX5_fill
  refine pk_bind (kl_pfI  g) (fun s1 g1 => ?_)
  refine pk_bind (wX5_fill_h7_KL _ g1) (fun s20 g2 => ?_)
  exact pk_some g2
theorem wX8_putNumber_j45_KL {s0 : wS} {x1 : Int32} {x2 : Int32} {s : wS} {qq : Int32 → wS → Option (wS)} (hqq : ∀ (v0 : Int32) (v1 : wS), KLo s0 v1 → PK (qq v0 v1) (fun (r : wS) => KLo s0 r)) (g : KLo s0 s) : PK (wX8_putNumber_j45 qq x1 x2 s) (fun (r : wS) => KLo s0 r) := by
  unfold wX8_putNumber_j45
  exact hqq _ _ g
theorem wX8_putNumber_h3_KL {s0 : wS} {x1 : Int32}   : ∀ (n : Nat) {x2 : Int32} {s : wS}, KLo s0 s → PK (wX8_putNumber_h3 x1 n x2 s) (fun (r : wS) => KLo s0 r) := by
  intro n
  induction n with
  | zero =>
    intro x2 s g
    rw [wX8_putNumber_h3]
    exact pk_none
  | succ n ih =>
    intro x2 s g
    rw [wX8_putNumber_h3]
    refine pk_ite (fun _ => ?_) (fun _ => ?_)
    · exact pk_some g
    · refine pk_bind pk_any (fun t2 _ => ?_)
      refine pk_ite (fun _ => ?_) (fun _ => ?_)
      · refine pk_bind (kl_stB  g) (fun s5 g1 => ?_)
        refine pk_bind (kl_pfI  g1) (fun s6 g2 => ?_)
        exact wX8_putNumber_j45_KL (fun _ _ g => ih g) g2
      · exact wX8_putNumber_j45_KL (fun _ _ g => ih g) g
theorem wX8_putNumber_KL {s0 : wS} {x1 : Int32} {s : wS}   (g : KLo s0 s) : PK (wX8_putNumber x1 s) (fun (r : wS) => KLo s0 r) := by
  unfold wX8_putNumber
  refine pk_bind (wX8_putNumber_h3_KL _ g) (fun s8 g1 => ?_)
  exact pk_some g1
theorem wX9_put_KL {s0 : wS} {x1 : Int32} {x2 : Int32} {x3 : Int32} {s : wS}   (g : KLo s0 s) : PK (wX9_put x1 x2 x3 s) (fun (r : wS) => KLo s0 r) := by
  unfold wX9_put
  refine pk_bind pk_any (fun t1 _ => ?_)
  refine pk_ite (fun _ => ?_) (fun _ => ?_)
  · refine pk_bind (kl_stI  g) (fun s4 g1 => ?_)
    refine pk_bind (kl_stI  g1) (fun s5 g2 => ?_)
    refine pk_bind (kl_stI  g2) (fun s6 g3 => ?_)
    refine pk_bind (kl_pfI  g3) (fun s7 g4 => ?_)
    exact pk_some g4
  · exact pk_some g
theorem wX10_feed_KL {s0 : wS} {x1 : Int32} {x2 : Int32} {x3 : Int32} {x4 : Int32} {x5 : Int32} {s : wS}   (g : KLo s0 s) : PK (wX10_feed x1 x2 x3 x4 x5 s) (fun (r : Int32 × wS) => KLo s0 r.2) := by
  unfold wX10_feed
  refine pk_ite (fun _ => ?_) (fun _ => ?_)
  · exact pk_some g
  · refine pk_bind (wX8_putNumber_KL g) (fun s3 g1 => ?_)
    refine pk_bind (wX8_putNumber_KL g1) (fun s6 g2 => ?_)
    refine pk_bind (wX8_putNumber_KL g2) (fun s9 g3 => ?_)
    refine pk_bind (wX8_putNumber_KL g3) (fun s12 g4 => ?_)
    refine pk_bind (wX8_putNumber_KL g4) (fun s15 g5 => ?_)
    exact pk_some g5
theorem wX10_end_KL {s0 : wS} {x1 : Int32} {s : wS}   (g : KLo s0 s) : PK (wX10_end x1 s) (fun (r : Int32 × wS) => KLo s0 r.2) := by
  unfold wX10_end
  refine pk_ite (fun _ => ?_) (fun _ => ?_)
  · exact pk_some g
  · refine pk_ite (fun _ => ?_) (fun _ => ?_)
    · exact pk_some g
    · refine pk_bind (kl_pfI  g) (fun s3 g1 => ?_)
      exact pk_some g1
theorem wX10_courtIsAnother_j44_KL {s0 : wS} {x1 : Int32} {s : wS} {qq : Int32 → wS → Option (wS)} (hqq : ∀ (v0 : Int32) (v1 : wS), KLo s0 v1 → PK (qq v0 v1) (fun (r : wS) => KLo s0 r)) (g : KLo s0 s) : PK (wX10_courtIsAnother_j44 qq x1 s) (fun (r : wS) => KLo s0 r) := by
  unfold wX10_courtIsAnother_j44
  exact hqq _ _ g
theorem wX10_courtIsAnother_h16_KL {s0 : wS}    : ∀ (n : Nat) {x1 : Int32} {s : wS}, KLo s0 s → PK (wX10_courtIsAnother_h16 n x1 s) (fun (r : wS) => KLo s0 r) := by
  intro n
  induction n with
  | zero =>
    intro x1 s g
    rw [wX10_courtIsAnother_h16]
    exact pk_none
  | succ n ih =>
    intro x1 s g
    rw [wX10_courtIsAnother_h16]
    refine pk_ite (fun _ => ?_) (fun _ => ?_)
    · refine pk_bind pk_any (fun k5 _ => ?_)
      refine pk_bind pk_any (fun k6 _ => ?_)
      refine pk_bind (kl_pfZ  g) (fun s7 g1 => ?_)
      exact wX10_courtIsAnother_j44_KL (fun _ _ g => ih g) g1
    · exact pk_some g
theorem wX10_courtIsAnother_KL {s0 : wS} {s : wS}   (g : KLo s0 s) : PK (wX10_courtIsAnother s) (fun (r : wS) => KLo s0 r) := by
  unfold wX10_courtIsAnother
  refine pk_bind (wX5_fill_KL g) (fun s2 g1 => ?_)
  refine pk_bind (wX10_courtIsAnother_h16_KL _ g1) (fun s9 g2 => ?_)
  exact pk_some g2
theorem wX10_answer_KL {s0 : wS} {x1 : Int32} {x2 : Int32} {x3 : Int32} {x4 : Int32} {s : wS}   (g : KLo s0 s) : PK (wX10_answer x1 x2 x3 x4 s) (fun (r : Int32 × wS) => KLo s0 r.2) := by
  unfold wX10_answer
  refine pk_bind pk_any (fun t1 _ => ?_)
  refine pk_ite (fun _ => ?_) (fun _ => ?_)
  · refine pk_bind pk_any (fun t4 _ => ?_)
    refine pk_ite (fun _ => ?_) (fun _ => ?_)
    · refine pk_bind pk_any (fun t7 _ => ?_)
      refine pk_ite (fun _ => ?_) (fun _ => ?_)
      · exact pk_some g
      · refine pk_bind pk_any (fun t10 _ => ?_)
        refine pk_ite (fun _ => ?_) (fun _ => ?_)
        · exact pk_some g
        · refine pk_ite (fun _ => ?_) (fun _ => ?_)
          · exact pk_some g
          · refine pk_bind (wX2_takeDown_KL g) (fun p1 h2 => ?_)
            obtain ⟨t14, s15⟩ := p1
            have g3 : KLo s0 s15 := h2
            dsimp only
            exact pk_some g3
    · exact pk_some g
  · exact pk_some g
theorem wX10_strike_KL {s0 : wS} {x1 : Int32} {x2 : Int32} {s : wS}   (g : KLo s0 s) : PK (wX10_strike x1 x2 s) (fun (r : Int32 × wS) => KLo s0 r.2) := by
  unfold wX10_strike
  refine pk_bind pk_any (fun t1 _ => ?_)
  refine pk_ite (fun _ => ?_) (fun _ => ?_)
  · exact pk_some g
  · refine pk_bind pk_any (fun t4 _ => ?_)
    refine pk_ite (fun _ => ?_) (fun _ => ?_)
    · exact pk_some g
    · refine pk_bind (wX2_setStruck_KL g) (fun s8 g1 => ?_)
      exact pk_some g1
theorem wX10_only_KL {s0 : wS} {x1 : Int32} {s : wS}   (g : KLo s0 s) : PK (wX10_only x1 s) (fun (r : Int32 × wS) => KLo s0 r.2) := by
  unfold wX10_only
  refine pk_ite (fun _ => ?_) (fun _ => ?_)
  · exact pk_some g
  · refine pk_ite (fun _ => ?_) (fun _ => ?_)
    · exact pk_some g
    · refine pk_bind (kl_pfI  g) (fun s3 g1 => ?_)
      exact pk_some g1
theorem wX10_seed_KL {s0 : wS} {x1 : Int32} {s : wS}   (g : KLo s0 s) : PK (wX10_seed x1 s) (fun (r : Int32 × wS) => KLo s0 r.2) := by
  unfold wX10_seed
  refine pk_ite (fun _ => ?_) (fun _ => ?_)
  · exact pk_some g
  · refine pk_bind (kl_pfI  g) (fun s2 g1 => ?_)
    exact pk_some g1
theorem wX10_verdict_KL {s0 : wS} {x1 : Int32} {s : wS}   (g : KLo s0 s) : PK (wX10_verdict x1 s) (fun (r : Int32 × wS) => KLo s0 r.2) := by
  unfold wX10_verdict
  refine pk_ite (fun _ => ?_) (fun _ => ?_)
  · refine pk_bind (kl_pfI  g) (fun s2 g1 => ?_)
    exact pk_some g1
  · refine pk_bind pk_any (fun t3 _ => ?_)
    refine pk_bind pk_any (fun t5 _ => ?_)
    refine pk_ite (fun _ => ?_) (fun _ => ?_)
    · refine pk_ite (fun _ => ?_) (fun _ => ?_)
      · refine pk_bind (wX2_judge_KL g) (fun s10 g2 => ?_)
        exact pk_some g2
      · exact pk_some g
    · exact pk_some g
theorem wX10_image_KL {s0 : wS} {x1 : Int32} {s : wS}   (g : KLo s0 s) : PK (wX10_image x1 s) (fun (r : Int32 × wS) => KLo s0 r.2) := by
  unfold wX10_image
  refine pk_bind pk_any (fun t1 _ => ?_)
  refine pk_ite (fun _ => ?_) (fun _ => ?_)
  · refine pk_bind pk_any (fun k4 _ => ?_)
    refine pk_bind pk_any (fun k5 _ => ?_)
    refine pk_bind (wX2_becomes_KL g) (fun s7 g1 => ?_)
    refine pk_bind (kl_stZ  g1) (fun s9 g2 => ?_)
    exact pk_some g2
  · exact pk_some g
theorem wX10_back_KL {s0 : wS} {x1 : Int32} {s : wS}   (g : KLo s0 s) : PK (wX10_back x1 s) (fun (r : Int32 × wS) => KLo s0 r.2) := by
  unfold wX10_back
  refine pk_bind pk_any (fun t1 _ => ?_)
  refine pk_ite (fun _ => ?_) (fun _ => ?_)
  · refine pk_bind pk_any (fun t4 _ => ?_)
    refine pk_ite (fun _ => ?_) (fun _ => ?_)
    · exact pk_some g
    · refine pk_bind pk_any (fun k6 _ => ?_)
      refine pk_bind pk_any (fun k7 _ => ?_)
      refine pk_bind (wX2_becomes_KL g) (fun s9 g1 => ?_)
      refine pk_bind (wX10_courtIsAnother_KL g1) (fun s12 g2 => ?_)
      exact pk_some g2
  · exact pk_some g
theorem wX9_cutOne_j131_KL {s0 : wS} {x2 : Int32} {s : wS}   (g : KLo s0 s) : PK (wX9_cutOne_j131 x2 s) (fun (r : Int32 × wS) => KLo s0 r.2) := by
  unfold wX9_cutOne_j131
  exact pk_some g
theorem wX9_cutOne_j108_KL {s0 : wS} {x2 : Int32} {y0 : Int32} {y1 : Int32} {s : wS}   (g : KLo s0 s) : PK (wX9_cutOne_j108 x2 y0 y1 s) (fun (r : Int32 × wS) => KLo s0 r.2) := by
  unfold wX9_cutOne_j108
  refine pk_bind pk_any (fun t15 _ => ?_)
  refine pk_bind (wX9_put_KL g) (fun s18 g1 => ?_)
  refine pk_ite (fun _ => ?_) (fun _ => ?_)
  · exact wX9_cutOne_j131_KL g1
  · refine pk_ite (fun _ => ?_) (fun _ => ?_)
    · exact wX9_cutOne_j131_KL g1
    · exact pk_some g1
theorem wX9_cutOne_KL {s0 : wS} {x2 : Int32} {s : wS}   (g : KLo s0 s) : PK (wX9_cutOne x2 s) (fun (r : Int32 × wS) => KLo s0 r.2) := by
  unfold wX9_cutOne
  refine pk_bind pk_any (fun t1 _ => ?_)
  refine pk_ite (fun _ => ?_) (fun _ => ?_)
  · exact pk_some g
  · refine pk_bind pk_any (fun t4 _ => ?_)
    refine pk_ite (fun _ => ?_) (fun _ => ?_)
    · refine pk_bind pk_any (fun t7 _ => ?_)
      refine pk_ite (fun _ => ?_) (fun _ => ?_)
      · refine pk_bind pk_any (fun t10 _ => ?_)
        refine pk_bind pk_any (fun t12 _ => ?_)
        refine pk_ite (fun _ => ?_) (fun _ => ?_)
        · exact wX9_cutOne_j108_KL g
        · exact wX9_cutOne_j108_KL g
      · refine pk_bind pk_any (fun t22 _ => ?_)
        refine pk_bind pk_any (fun t24 _ => ?_)
        refine pk_bind (wX9_put_KL g) (fun s27 g1 => ?_)
        exact pk_some g1
    · refine pk_bind pk_any (fun t29 _ => ?_)
      refine pk_bind pk_any (fun t31 _ => ?_)
      refine pk_bind (wX9_put_KL g) (fun s34 g2 => ?_)
      exact pk_some g2
theorem wX9_cut_h19_KL {s0 : wS}    : ∀ (n : Nat) {x2 : Int32} {x3 : Int32} {s : wS}, KLo s0 s → PK (wX9_cut_h19 n x2 x3 s) (fun (r : wS) => KLo s0 r) := by
  intro n
  induction n with
  | zero =>
    intro x2 x3 s g
    rw [wX9_cut_h19]
    exact pk_none
  | succ n ih =>
    intro x2 x3 s g
    rw [wX9_cut_h19]
    refine pk_ite (fun _ => ?_) (fun _ => ?_)
    · refine pk_ite (fun _ => ?_) (fun _ => ?_)
      · refine pk_bind (wX9_cutOne_KL g) (fun p1 h2 => ?_)
        obtain ⟨t6, s7⟩ := p1
        have g3 : KLo s0 s7 := h2
        dsimp only
        exact ih g3
      · exact pk_some g
    · exact pk_some g
theorem wX9_cut_j47_KL {s0 : wS} {s : wS}   (g : KLo s0 s) : PK (wX9_cut_j47 s) (fun (r : wS) => KLo s0 r) := by
  unfold wX9_cut_j47
  refine pk_bind (wX9_put_KL g) (fun s14 g1 => ?_)
  exact pk_some g1
theorem wX9_cut_KL {s0 : wS} {s : wS}   (g : KLo s0 s) : PK (wX9_cut s) (fun (r : wS) => KLo s0 r) := by
  unfold wX9_cut
  refine pk_bind (kl_pfI  g) (fun s1 g1 => ?_)
  refine pk_bind (kl_pfI  g1) (fun s2 g2 => ?_)
  refine pk_bind (kl_pfI  g2) (fun s3 g3 => ?_)
  refine pk_bind (wX9_cut_h19_KL _ g3) (fun s10 g4 => ?_)
  exact wX9_cut_j47_KL g4
theorem wX10_court_KL {s0 : wS} {s : wS}   (g : KLo s0 s) : PK (wX10_court s) (fun (r : Int32 × wS) => KLo s0 r.2) := by
  unfold wX10_court
  refine pk_bind (wX9_cut_KL g) (fun s2 g1 => ?_)
  refine pk_bind (kl_pfI  g1) (fun s4 g2 => ?_)
  refine pk_bind (wX1_read_KL g2) (fun s6 g3 => ?_)
  refine pk_ite (fun _ => ?_) (fun _ => ?_)
  · refine pk_bind (wX2_open_KL g3) (fun s10 g4 => ?_)
    refine pk_bind (wX10_courtIsAnother_KL g4) (fun s13 g5 => ?_)
    refine pk_bind pk_any (fun t15 _ => ?_)
    exact pk_some g5
  · exact pk_some g3
theorem wX10_law_KL {s0 : wS} {s : wS}   (g : KLo s0 s) : PK (wX10_law s) (fun (r : Int32 × wS) => KLo s0 r.2) := by
  unfold wX10_law
  refine pk_ite (fun _ => ?_) (fun _ => ?_)
  · refine pk_bind pk_any (fun k2 _ => ?_)
    refine pk_bind (wX9_cut_KL g) (fun s4 g1 => ?_)
    refine pk_bind (kl_pfI  g1) (fun s6 g2 => ?_)
    refine pk_bind (wX4_read_KL g2) (fun s8 g3 => ?_)
    refine pk_ite (fun _ => ?_) (fun _ => ?_)
    · refine pk_bind (kl_pfI  g3) (fun s11 g4 => ?_)
      exact pk_some g4
    · exact pk_some g3
  · exact pk_some g
end
section
/-! What is told, and the images: the tables stay right. -/
theorem cIA_h16 : ∀ (n : Nat) {x1 : Int32} {s : wS}, 0 ≤ x1.toInt → x1.toInt ≤ 6 → PK (wX10_courtIsAnother_h16 n x1 s) (fun r => ∀ l : Nat, l < 6 → (x1.toInt ≤ l ∨ s.1 (44 + 10 * l) 12 = 0) → r.1 (44 + 10 * l) 12 = 0) := by
  intro n
  induction n with
  | zero =>
    intro x1 s _ _
    rw [wX10_courtIsAnother_h16]
    exact pk_none
  | succ n ih =>
    intro x1 s h0 h6
    rw [wX10_courtIsAnother_h16]
    refine pk_ite (fun c => ?_) (fun c => ?_)
    · have hc := t_lt c
      rw [show (6 : Int32).toInt = 6 from rfl] at hc
      refine pk_bind pk_any (fun k5 _ => ?_)
      refine pk_bind pk_ldR13 (fun k6 h => ?_)
      have e : wpfZ s k6 12 0 = some (wupI s k6 12 0) := rfl
      rw [e, t_sbe]
      unfold wX10_courtIsAnother_j44
      have p1 : (x1 + 1).toInt = x1.toInt + 1 := t_p1 h0 (by omega)
      refine pk_mono (ih (by omega) (by omega)) (fun r hr l hl q => hr l hl ?_)
      have xn := t_cln h0
      by_cases k : x1.toInt = l
      · right
        have : k6 = 44 + 10 * l := by omega
        rw [this]
        exact wup_same
      · rcases q with q | q
        · left
          omega
        · right
          rw [wupI_n (by omega)]
          exact q
    · have hc := t_ge c
      rw [show (6 : Int32).toInt = 6 from rfl] at hc
      refine pk_some (fun l hl q => ?_)
      rcases q with q | q
      · omega
      · exact q
theorem cIA_K {s : wS} : PK (wX10_courtIsAnother s) (fun r => ∀ l : Nat, l < 6 → r.1 (44 + 10 * l) 12 = 0) := by
  unfold wX10_courtIsAnother
  refine pk_bind pk_any (fun s2 _ => ?_)
  refine pk_bind (cIA_h16 _ (by decide) (by decide)) (fun s9 h => pk_some (fun l hl => h l hl (Or.inl ?_)))
  rw [t_i0]
  omega
theorem court_K {s : wS} : PK (wX10_court s) (fun r => (∀ l : Nat, l < 6 → r.2.1 (44 + 10 * l) 12 = 0) ∨ KT s r.2) := by
  unfold wX10_court
  refine pk_bind (wX9_cut_KT KT.refl) (fun s2 g1 => ?_)
  refine pk_bind (kt_pfI rfl g1) (fun s4 g2 => ?_)
  refine pk_bind (wX1_read_KT (fun _ => rfl) (fun _ => rfl) (fun _ => rfl) g2) (fun s6 g3 => ?_)
  refine pk_ite (fun _ => ?_) (fun _ => pk_some (Or.inr g3))
  refine pk_bind pk_any (fun s10 _ => ?_)
  refine pk_bind cIA_K (fun s13 h => ?_)
  exact pk_bind pk_any (fun t15 _ => pk_some (Or.inl h))
theorem back_K {x1 : Int32} {s : wS} : PK (wX10_back x1 s) (fun r => (∀ l : Nat, l < 6 → r.2.1 (44 + 10 * l) 12 = 0) ∨ KT s r.2) := by
  unfold wX10_back
  refine pk_bind pk_any (fun t1 _ => ?_)
  refine pk_ite (fun _ => ?_) (fun _ => pk_some (Or.inr KT.refl))
  refine pk_bind pk_any (fun t4 _ => ?_)
  refine pk_ite (fun _ => pk_some (Or.inr KT.refl)) (fun _ => ?_)
  refine pk_bind pk_any (fun k6 _ => ?_)
  refine pk_bind pk_any (fun k7 _ => ?_)
  refine pk_bind pk_any (fun s9 _ => ?_)
  exact pk_bind cIA_K (fun s12 h => pk_some (Or.inl h))
section TOPS
variable {s : wS}
theorem told_C {s1 s2 : wS} (g : JB s) (k1 : (∀ l : Nat, l < 6 → s1.1 (44 + 10 * l) 12 = 0) ∨ KT s s1) (k2 : KT s1 s2) (g2 : JA s2) : JB s2 := by
  rcases k1 with z | k1
  · refine ⟨g2, fun l hl => Or.inl ?_⟩
    have := g2.1.1.2.1.2
    rw [k2.1 _ _ (bK_tab (by omega) (by omega))]
    exact z l (by omega)
  · exact told_B g k1 k2 g2
theorem op_feed_B {x1 x2 x3 x4 x5 : Int32} (g : JB s) : ∃ v s1 v2 s2, wX10_feed x1 x2 x3 x4 x5 s = some (v, s1) ∧ wX11_feed x1 x2 x3 x4 x5 s1 = some (v2, s2) ∧ v = v2 ∧ JB s2 := by
  obtain ⟨v, s1, v2, s2, e1, e2, hv, g2⟩ := op_feed (x1 := x1) (x2 := x2) (x3 := x3) (x4 := x4) (x5 := x5) g.1
  exact ⟨v, s1, v2, s2, e1, e2, hv, told_B g ((wX10_feed_KT KT.refl).get e1) ((wX11_feed_KT KT.refl).get e2) g2⟩
theorem op_end_B {x1 : Int32} (g : JB s) : ∃ v s1 v2 s2, wX10_end x1 s = some (v, s1) ∧ wX11_end x1 s1 = some (v2, s2) ∧ v = v2 ∧ JB s2 := by
  obtain ⟨v, s1, v2, s2, e1, e2, hv, g2⟩ := op_end (x1 := x1) g.1
  exact ⟨v, s1, v2, s2, e1, e2, hv, told_B g ((wX10_end_KT KT.refl).get e1) ((wX11_end_KT KT.refl).get e2) g2⟩
theorem op_answer_B {x1 x2 x3 x4 : Int32} (g : JB s) : ∃ v s1 v2 s2, wX10_answer x1 x2 x3 x4 s = some (v, s1) ∧ wX11_answer x1 x2 x3 x4 s1 = some (v2, s2) ∧ v = v2 ∧ JB s2 := by
  obtain ⟨v, s1, v2, s2, e1, e2, hv, g2⟩ := op_answer (x1 := x1) (x2 := x2) (x3 := x3) (x4 := x4) g.1
  exact ⟨v, s1, v2, s2, e1, e2, hv, told_B g ((wX10_answer_KT KT.refl).get e1) ((wX11_answer_KT KT.refl).get e2) g2⟩
theorem op_strike_B {x1 x2 : Int32} (g : JB s) (hx2 : x2 = 0 ∨ x2 = 1) : ∃ v s1 v2 s2, wX10_strike x1 x2 s = some (v, s1) ∧ wX11_strike x1 x2 s1 = some (v2, s2) ∧ v = v2 ∧ JB s2 := by
  obtain ⟨v, s1, v2, s2, e1, e2, hv, g2⟩ := op_strike (x1 := x1) g.1 hx2
  exact ⟨v, s1, v2, s2, e1, e2, hv, told_B g ((wX10_strike_KT KT.refl).get e1) ((wX11_strike_KT KT.refl).get e2) g2⟩
theorem op_only_B {x1 : Int32} (g : JB s) : ∃ v s1 v2 s2, wX10_only x1 s = some (v, s1) ∧ wX11_only x1 s1 = some (v2, s2) ∧ v = v2 ∧ JB s2 := by
  obtain ⟨v, s1, v2, s2, e1, e2, hv, g2⟩ := op_only (x1 := x1) g.1
  exact ⟨v, s1, v2, s2, e1, e2, hv, told_B g ((wX10_only_KT KT.refl).get e1) ((wX11_only_KT KT.refl).get e2) g2⟩
theorem op_seed_B {x1 : Int32} (g : JB s) : ∃ v s1 v2 s2, wX10_seed x1 s = some (v, s1) ∧ wX11_seed x1 s1 = some (v2, s2) ∧ v = v2 ∧ JB s2 := by
  obtain ⟨v, s1, v2, s2, e1, e2, hv, g2⟩ := op_seed (x1 := x1) g.1
  exact ⟨v, s1, v2, s2, e1, e2, hv, told_B g ((wX10_seed_KT KT.refl).get e1) ((wX11_seed_KT KT.refl).get e2) g2⟩
theorem op_verdict_B {x1 : Int32} (g : JB s) : ∃ v s1 v2 s2, wX10_verdict x1 s = some (v, s1) ∧ wX11_verdict x1 s1 = some (v2, s2) ∧ v = v2 ∧ JB s2 := by
  obtain ⟨v, s1, v2, s2, e1, e2, hv, g2⟩ := op_verdict (x1 := x1) g.1
  exact ⟨v, s1, v2, s2, e1, e2, hv, told_B g ((wX10_verdict_KT KT.refl).get e1) ((wX11_verdict_KT KT.refl).get e2) g2⟩
theorem op_image_B {x1 : Int32} (g : JB s) : ∃ v s1 v2 s2, wX10_image x1 s = some (v, s1) ∧ wX11_image x1 s1 = some (v2, s2) ∧ v = v2 ∧ JB s2 := by
  obtain ⟨v, s1, v2, s2, e1, e2, hv, g2⟩ := op_image (x1 := x1) g.1
  exact ⟨v, s1, v2, s2, e1, e2, hv, told_B g ((wX10_image_KT KT.refl).get e1) ((wX11_image_KT KT.refl).get e2) g2⟩
theorem op_back_B {x1 : Int32} (g : JB s) : ∃ v s1 v2 s2, wX10_back x1 s = some (v, s1) ∧ wX11_back x1 s1 = some (v2, s2) ∧ v = v2 ∧ JB s2 := by
  obtain ⟨v, s1, v2, s2, e1, e2, hv, g2⟩ := op_back (x1 := x1) g.1
  exact ⟨v, s1, v2, s2, e1, e2, hv, told_C g (back_K.get e1) ((wX11_back_KT KT.refl).get e2) g2⟩
theorem op_court_B (g : JB s) : ∃ v s1 v2 s2, wX10_court s = some (v, s1) ∧ wX11_court s1 = some (v2, s2) ∧ v = v2 ∧ JB s2 := by
  obtain ⟨v, s1, v2, s2, e1, e2, hv, g2⟩ := op_court g.1
  exact ⟨v, s1, v2, s2, e1, e2, hv, told_C g (court_K.get e1) ((wX11_court_KT KT.refl).get e2) g2⟩
theorem op_law_B (g : JB s) : ∃ v s1 v2 s2, wX10_law s = some (v, s1) ∧ wX11_law s1 = some (v2, s2) ∧ v = v2 ∧ JB s2 := by
  obtain ⟨v, s1, v2, s2, e1, e2, hv, g2⟩ := op_law g.1
  refine ⟨v, s1, v2, s2, e1, e2, hv, g2, ?_⟩
  have k2 : KT s1 s2 := (wX11_law_KT KT.refl).get e2
  have kl : KLo s s1 := (wX10_law_KL KLo.refl).get e1
  obtain ⟨gR, c0, ⟨gT1, gT2, gT3⟩, -⟩ := id g.1
  have hL := gR.1.2.1
  have hL2 := g2.1.1.2.1
  have c2 := g2.2.1
  rw [k2.1 0 6 rfl] at c2
  by_cases c6 : s.1 152 2 = 6
  · have e : wX10_law s = some (-1, s) := by
      unfold wX10_law
      rw [c0, c6, if_neg (by decide)]
    rw [e] at e1
    obtain ⟨-, rfl⟩ := Prod.mk.inj (Option.some.inj e1)
    exact (told_B g KT.refl k2 g2).2
  · have n6 := t_nq c6
    rw [show (6 : Int32).toInt = 6 from rfl] at n6
    obtain ⟨l, hl, hl6⟩ : ∃ l : Nat, s.1 152 2 = Int32.ofNat l ∧ l < 6 := ⟨(s.1 152 2).toNatClampNeg, (t_oc hL.1).symm, by unfold Int32.toNatClampNeg; omega⟩
    have el : (Int32.ofNat l).toInt = l := t_on (by omega)
    obtain ⟨⟨v', s1'⟩, e1', aL, t11, S, P, N, E, K, tk, hE, h1⟩ := wX10_law_E hl6 (c0.trans hl) gT2.1 gT2.2
    rw [e1] at e1'
    obtain ⟨rfl, rfl⟩ := Prod.mk.inj (Option.some.inj e1')
    dsimp only at aL h1
    have old : ∀ l' : Nat, l' < l → l' < 6 → s2.1 (44 + 10 * l') 12 = 0 ∨ ((l' : Int) < (s.1 152 2).toInt ∧ (∀ k, 16 ≤ k → k ≤ 18 → s2.1 k = s.1 k) ∧ (∀ k, 44 + 10 * l' ≤ k → k ≤ 44 + 10 * l' + 9 → s2.1 k = s.1 k) ∧ s2.2 (44 + 10 * l' + 8) = s.2 (44 + 10 * l' + 8)) := fun l' h' h6 => by
      refine Or.inr ⟨by rw [hl, el]; omega, fun k p1 p2 => funext fun b => ?_, fun k p1 p2 => funext fun b => ?_, ?_⟩
      · rw [k2.1 k b (bK_hc p1 p2)]
        exact aL k b (bLw_n (by omega) (by omega) (by omega) (by omega) (by omega))
      · rw [k2.1 k b (bK_tab (by omega) (by omega))]
        exact aL k b (bLw_n (by omega) (by omega) (by omega) (by omega) (by omega))
      · rw [k2.2]
        exact congrFun kl _
    refine TBS_told g g2 (fun l' hl' => ?_)
    rw [← c2] at hl'
    rcases h1 with ⟨e, -, -, f1⟩ | ⟨c', -, -, f1, -, m0⟩
    · rw [f1, c0, hl, el] at hl'
      exact old l' (by omega) (by omega)
    · rw [f1, t_on (by omega)] at hl'
      by_cases q : l' = l
      · left
        rw [q, k2.1 _ _ (bK_tab (by omega) (by omega))]
        exact m0
      · exact old l' (by omega) (by omega)
end TOPS
end
section
/-! The fresh objects keep what is between the calls. -/
theorem w0_JA : JA w0 := by
  have z163 : ∀ b, b ≠ 4 → w0.1 163 b = 0 := fun b hb => by
    show (bif (Nat.beq 163 163 && Nat.beq b 4) || (false && Nat.beq b 7) then (-1 : Int32) else 0) = 0
    rw [nq_false hb]
    rfl
  have e4 : w0.1 163 4 = -1 := rfl
  have neg : ∀ {x : Nat} {y : Int32}, y = 0 → (x : Int) < y.toInt → False := fun hy h => by
    rw [hy, t_i0] at h
    omega
  have neg2 : ∀ {x : Nat} {y : Int32}, y = 0 → (x : Int) < 2 * y.toInt → False := fun hy h => by
    rw [hy, t_i0] at h
    omega
  have z1 := z163 1 (by decide)
  have z2 := z163 2 (by decide)
  have z3 := z163 3 (by decide)
  have z5 := z163 5 (by decide)
  refine ⟨w0_INV.2.1, rfl, ⟨rfl, by decide, rfl⟩, fun i => ?_, ⟨⟨⟨rfl, rfl, rfl⟩, fun i hi => (neg z1 hi).elim, fun i hi => (neg z2 hi).elim⟩, ⟨⟨rfl, rfl, rfl, rfl⟩, fun i hi => (neg z3 hi).elim, fun i hi => (neg z5 hi).elim⟩, ⟨fun _ => ⟨z1, z2⟩, ?_, fun i hi => (neg z3 hi).elim, fun w => ?_, fun i hi => (neg z5 hi).elim, fun i hi => (neg2 z1 hi).elim, fun i hi => (neg2 z2 hi).elim⟩⟩, fun k _ => ⟨Iff.rfl, fun h => absurd rfl h⟩, fun l hl => ?_⟩
  · have : w0.1 2 i = 0 := rfl
    rw [this, t_i0]
    omega
  · rw [e4]
    decide
  · rw [z3]
    show (0 : Nat) ≤ 9
    omega
  · have : w0.1 152 2 = 0 := rfl
    exact (neg this hl).elim
end
