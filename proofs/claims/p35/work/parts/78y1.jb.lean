/-! What keeps the tables right, a step each. -/
/-- if it answers, so -/
noncomputable def PK {α : Type} (x : Option α) (Q : α → Prop) : Prop := ∀ a, x = some a → Q a
theorem pk_none {α : Type} {Q : α → Prop} : PK none Q := fun _ h => by cases h
theorem pk_any {α : Type} {x : Option α} : PK x (fun _ => True) := fun _ _ => trivial
theorem pk_some {α : Type} {Q : α → Prop} {a : α} (h : Q a) : PK (some a) Q := fun b e => by cases e; exact h
theorem pk_bind {α β : Type} {x : Option α} {f : α → Option β} {P : α → Prop} {Q : β → Prop} (h : PK x P) (g : ∀ a, P a → PK (f a) Q) : PK (x.bind f) Q := by
  intro b e
  cases hx : x with
  | none => rw [hx] at e; cases e
  | some a => rw [hx] at e; exact g a (h a hx) b e
theorem pk_ite {α : Type} {c : Prop} [Decidable c] {x y : Option α} {Q : α → Prop} (h : c → PK x Q) (g : ¬ c → PK y Q) : PK (if c then x else y) Q := by
  by_cases e : c
  · rw [if_pos e]; exact h e
  · rw [if_neg e]; exact g e
theorem pk_elim {α : Type} {o : Option Nat} {x : Option α} {f : Nat → Option α} {Q : α → Prop} (h : PK x Q) (g : ∀ k, PK (f k) Q) : PK (o.elim x f) Q := by
  cases o with
  | none => exact h
  | some k => exact g k
theorem PK.get {α : Type} {x : Option α} {Q : α → Prop} {a : α} (h : PK x Q) (e : x = some a) : Q a := h a e
/-- what a question may write, the tables left out -/
noncomputable def bJ (k b : Nat) : Bool := bQ k b && !(Nat.ble 44 k && Nat.ble k 103)
theorem bJ_le : ∀ k b, bJ k b = true → bQ k b = true := by
  intro k b h
  unfold bJ at h
  rw [Bool.and_eq_true] at h
  exact h.1
theorem bJ_mid {k b : Nat} (h1 : 44 ≤ k) (h2 : k ≤ 103) : bJ k b = false := by
  have : (Nat.ble 44 k && Nat.ble k 103) = true := by
    simp only [Bool.and_eq_true, Nat.ble_eq]
    omega
  unfold bJ
  rw [this, Bool.not_true, Bool.and_false]
theorem JB_w {s s' : wS} (a : wA bJ s s') (hL : ∀ k, 44 ≤ k → k ≤ 103 → s'.2 k = s.2 k) (g : JB s) : JB s' := by
  refine ⟨JA_Q (a.mono bJ_le) g.1, TBS_go g.2 (a 152 2 rfl) g.1.1.1.2.1.2 (fun i _ => a 163 i rfl) (fun k h1 h2 => funext fun b => a k b (bJ_mid h1 h2)) (fun k h1 h2 => funext fun b => a k b ?_) hL⟩
  obtain rfl | rfl | rfl | rfl : k = 154 ∨ k = 155 ∨ k = 156 ∨ k = 157 := by omega
  all_goals rfl
theorem JB_I {s : wS} {k b : Nat} {v : Int32} (h : bJ k b = true) (g : JB s) : JB (wupI s k b v) := JB_w (wA_I h) (fun _ _ _ => rfl) g
theorem JB_L {s : wS} {k b : Nat} {v : Int64} (h : k < 44 ∨ 103 < k) (g : JB s) : JB (wupL s k b v) := JB_w wA_L (fun j h1 h2 => if_neg (by omega)) g
theorem pk_stI {s : wS} {k n : Nat} {i v : Int32} (h : ∀ b, bJ k b = true) (g : JB s) : PK (wstI s k n i v) JB := by
  unfold wstI
  exact pk_ite (fun _ => pk_none) (fun _ => pk_some (JB_I (h _) g))
theorem pk_stZ {s : wS} {k n : Nat} {i v : Int32} (h : ∀ b, bJ k b = true) (g : JB s) : PK (wstZ s k n i v) JB := by
  unfold wstZ
  exact pk_ite (fun _ => pk_none) (fun _ => pk_some (JB_I (h _) g))
theorem pk_stL {s : wS} {k n : Nat} {i : Int32} {v : Int64} (h : k < 44 ∨ 103 < k) (g : JB s) : PK (wstL s k n i v) JB := by
  unfold wstL
  exact pk_ite (fun _ => pk_none) (fun _ => pk_some (JB_L h g))
theorem pk_pfI {s : wS} {k b : Nat} {v : Int32} (h : bJ k b = true) (g : JB s) : PK (wpfI s k b v) JB := pk_some (JB_I h g)
theorem wX10_lawInUse_J {x1 : Int32} {s : wS} (g : JB s) : PK (wX10_lawInUse x1 s) (fun r => JB r.2) := by
  rcases lawInUse_E g x1 with ⟨-, e⟩ | ⟨-, l, s2, x, hl6, -, hlc, e, m, lk, t, fl⟩
  · rw [e]
    exact pk_some g
  · rw [e]
    refine pk_some ⟨m.ja hl6 g.1, ?_⟩
    intro l' hl'
    have h2 : s2.1 152 2 = s.1 152 2 := m.1 152 2 (by omega) (by omega)
    dsimp only at hl' ⊢
    rw [h2] at hl'
    have c6 := g.1.1.1.2.1
    by_cases q : l' = l
    · subst q
      exact Or.inr ⟨x, lk, t⟩
    · rcases g.2 l' hl' with z | ⟨y, ly, ty⟩
      · left
        rw [m.1 _ _ (by omega) (by omega)]
        exact z
      · right
        refine ⟨y, LK2_go ly (fun j hj b h9 h12 => m.1 _ _ (by omega) (by omega)) (fun j h1 h2 => funext fun b => m.1 _ _ (by omega) (by omega)) (fun k h1 h2 => funext fun b => m.1 _ _ (by omega) (by omega)), TBL_go ty (fun i _ => m.1 _ _ (by omega) (by omega)) (m.2 _ (by omega) (by omega) (by omega)) (funext fun b => m.1 _ _ (by omega) (by omega))⟩
