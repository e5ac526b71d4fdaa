/-! Only eight words count; how far, by the reference, whole. -/
theorem es_w {w w' : Nat → Int64} {v : Int32} {x : (Nat → Int64) × Nat} (ok : okc v) (h : ∀ j, j < 8 → w j = w' j) : es w v x = es w' v x := by
  unfold es
  rcases okc_cases ok with ⟨c, c1⟩ | ⟨c, d, d1⟩ | ⟨c, d, k⟩ | ⟨c, d, k, e1⟩
  · rw [if_pos c, if_pos c]
  · obtain ⟨-, -, r3, r4, r5⟩ := rc_w d1
    rw [if_neg c, if_pos d, if_neg c, if_pos d, h _ (by unfold Int32.toNatClampNeg; omega)]
  · rw [if_neg c, if_neg d, if_pos k, if_neg c, if_neg d]
  · rw [if_neg c, if_neg d, if_neg k, if_neg c, if_neg d]
theorem er_w {w w' : Nat → Int64} {C : Nat → Int32} (h : ∀ j, j < 8 → w j = w' j) : ∀ {n i : Nat} {x : (Nat → Int64) × Nat}, (∀ j, i ≤ j → j < i + n → okc (C j)) → er w C n i x = er w' C n i x := by
  intro n
  induction n with
  | zero => intro i x _; rfl
  | succ n ih =>
    intro i x ok
    show er w C n (i + 1) (es w (C i) x) = er w' C n (i + 1) (es w' (C i) x)
    rw [es_w (ok i (by omega) (by omega)) h]
    exact ih (fun j h1 h2 => ok j (by omega) (by omega))
theorem VAL_w {w w' : Nat → Int64} {C : Nat → Int32} {b e : Nat} (h : ∀ j, j < 8 → w j = w' j) (ok : ∀ j, b ≤ j → j < e → okc (C j)) : VAL w C b e = VAL w' C b e := by
  unfold VAL
  rw [er_w h (fun j h1 h2 => ok j h1 (by omega))]
theorem FV_w {w w' : Nat → Int64} {C : Nat → Int32} {kd : Int32} {n : Nat} (h : ∀ j, j < 8 → w j = w' j) (ok : ∀ j, j < n → okc (C j)) : ∀ {q : List qT}, (∀ y ∈ q, y.2.2.1 ≤ n ∧ y.2.2.2.1 ≤ n) → FV w C kd q = FV w' C kd q := by
  intro q
  induction q with
  | nil => intro _; exact h 2 (by decide)
  | cons y q ih =>
    intro hq
    obtain ⟨h1, h2⟩ := hq y (List.mem_cons_self ..)
    have e1 : VAL w C y.2.1 y.2.2.1 = VAL w' C y.2.1 y.2.2.1 := VAL_w h (fun j _ hj => ok j (by omega))
    have e2 : VAL w C y.2.2.1 y.2.2.2.1 = VAL w' C y.2.2.1 y.2.2.2.1 := VAL_w h (fun j _ hj => ok j (by omega))
    show (if y.1 = kd then (if y.2.2.2.2 = true then (if VAL w C y.2.2.1 y.2.2.2.1 = 0 then FV w C kd q else VAL w C y.2.1 y.2.2.1) else VAL w C y.2.1 y.2.2.1) else FV w C kd q) = (if y.1 = kd then (if y.2.2.2.2 = true then (if VAL w' C y.2.2.1 y.2.2.2.1 = 0 then FV w' C kd q else VAL w' C y.2.1 y.2.2.1) else VAL w' C y.2.1 y.2.2.1) else FV w' C kd q)
    rw [e1, e2, ih (fun z hz => hq z (List.mem_cons_of_mem _ hz))]
section FVR
variable {s : wS} {x : lC} {l : Nat}
theorem CLc.lq {k0 : Nat} (h : CLc k0 x s) : ∀ (i : Nat) (y : qT), x.2.2.2[i]? = some y → y.2.1 ≤ y.2.2.1 ∧ y.2.2.1 ≤ y.2.2.2.1 ∧ y.2.2.2.1 ≤ 400 := fun i y hy => (h.2.1.2 i y hy).2.2.2.2.2.1
theorem CLc.mem {k0 : Nat} (h : CLc k0 x s) : ∀ y ∈ x.2.2.2, y.2.2.1 ≤ x.2.2.1.length ∧ y.2.2.2.1 ≤ x.2.2.1.length := fun y hy => by
  obtain ⟨i, hi, e⟩ := List.mem_iff_getElem.1 hy
  have e' : x.2.2.2[i]? = some y := by rw [List.getElem?_eq_getElem hi, e]
  have a := h.lq i y e'
  have b := h.2.2 i y e'
  omega
/-- how far, as both sides say it -/
noncomputable def FVx (x : lC) (f : Nat → Int32) (kd : Int32) (a b : Nat) : Int64 := FV (WD f kd a b) (cdL x) kd x.2.2.2
/-- the LAW is known to both -/
noncomputable def LK2 (l : Nat) (x : lC) (s : wS) : Prop := CLc (44 + 10 * l) x s ∧ RLf l x s ∧ QW (cdL x) x.2.2.2
theorem JA.lk (g : JA s) {l : Nat} (hl : (l : Int) < (s.1 152 2).toInt) : ∃ x, LK2 l x s := by
  obtain ⟨x, x1, x2⟩ := g.2.2.2.2.2.2 l hl
  exact ⟨x, x1, x2, QW_of (g.1.1.2.2 l hl) x2 x1.2.2 x1.lq⟩
theorem farR_E (g : JA s) (hl : (l : Int) < (s.1 152 2).toInt) (k : LK2 l x s) {xl kd a b : Int32} (hxl : xl = Int32.ofNat l) (ha : TH (s.1 163) kd a) (hb : TH (s.1 163) kd b) : Tot (wX11_farBy xl kd a b s) (fun p => p.1 = FVx x (s.1 163) kd a.toNatClampNeg b.toNatClampNeg ∧ (∀ k c, ¬ (k = 152 ∧ c = 22) → p.2.1 k c = s.1 k c) ∧ (∀ k, k ≠ 161 → k ≠ 162 → p.2.2 k = s.2 k)) := by
  have hl6 : l < 6 := by have := g.1.1.2.1; omega
  obtain ⟨k1, k2, k3⟩ := k
  have ok : ∀ j, j < x.2.2.1.length → okc (cdL x j) := fun j hj => (k1.code hj).2
  unfold wX11_farBy
  refine t_bind (words_E g ha hb) (fun s2 h2 => ?_)
  obtain ⟨z1, z2, z3⟩ := h2
  have k2' : RLf l x s2 := k2.keep (by rw [z1]) (by rw [z1]) (by rw [z1]) (by rw [z1])
  have q12 := k1.2.1.1.2
  refine t_mono (farR_h hxl hl6 k1.1.2.1 ok k1.2.2 k1.lq k3 wFuel (i := 0) rfl (Nat.zero_le _) k2' (by
    have e : wFuel = 1099511627776 := rfl
    omega)) (fun p hp => ⟨?_, fun k c hk => by rw [hp.2.1 k c hk, z1], fun k h1 h2 => by rw [hp.2.2 k h1, z2 k h2]⟩)
  rw [hp.1, List.drop_zero]
  exact FV_w (n := x.2.2.1.length) z3 ok k1.mem
end FVR
