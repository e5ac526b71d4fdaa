/-! What a code makes: the same on both sides. -/
theorem vpL_s {f : Nat → Int64} {k : Nat} {v : Int64} : vp_updL f k v k = v := by unfold vp_updL; rw [if_pos rfl]
theorem vpL_n {f : Nat → Int64} {k j : Nat} {v : Int64} (h : j ≠ k) : vp_updL f k v j = f j := by unfold vp_updL; rw [if_neg h]
noncomputable def jn (v : Int32) (x y : Int64) : Int64 :=
  if v = 6 then x + y else if v = 7 then x - y else if v = 8 then x * y else if v = 9 then (if y = 0 then 0 else x / y) else if v = 10 then (if x < y then 1 else 0) else if v = 11 then (if y < x then 0 else 1) else if v = 12 then (if x = y then 1 else 0) else if v = 13 then (if x < y then 0 else 1) else if v = 14 then (if y < x then 1 else 0) else if v = 21 then x &&& y else x ||| y
theorem ite_some {α : Type} {c : Prop} [Decidable c] {a b : α} : (if c then some a else some b) = some (if c then a else b) := by
  by_cases h : c
  · rw [if_pos h, if_pos h]
  · rw [if_neg h, if_neg h]
theorem joined_E {v : Int32} {x y : Int64} {s : wS} : wX3_joined v x y s = some (jn v x y) := by
  have d : (if y = 0 then (some 0) else ((wdvL x y).bind fun t6 => some t6)) = some (if y = 0 then 0 else x / y) := by
    unfold wdvL
    by_cases c : y = 0
    · rw [if_pos c, if_pos c]
    · rw [if_neg c, if_neg c, if_neg c]; rfl
  unfold wX3_joined wX3_joined_j170 jn
  rw [d]
  simp only [ite_some]
theorem one_E {v : Int32} {x y : Int64} {s : wS} (h : (6 ≤ v.toInt ∧ v.toInt ≤ 14) ∨ v = 20 ∨ v = 21) : wX11_one (rc v) x y s = some (jn v x y) := by
  have d : (if y = 0 then (some 0) else ((wdvL x y).bind fun t6 => some t6)) = some (if y = 0 then 0 else x / y) := by
    unfold wdvL
    by_cases c : y = 0
    · rw [if_pos c, if_pos c]
    · rw [if_neg c, if_neg c, if_neg c]; rfl
  have w : v = 6 ∨ v = 7 ∨ v = 8 ∨ v = 9 ∨ v = 10 ∨ v = 11 ∨ v = 12 ∨ v = 13 ∨ v = 14 ∨ v = 20 ∨ v = 21 := by
    have i : ∀ c : Int32, v.toInt = c.toInt → v = c := fun c h => Int32.toInt_inj.1 h
    rcases h with h | h | h
    · have : v.toInt = 6 ∨ v.toInt = 7 ∨ v.toInt = 8 ∨ v.toInt = 9 ∨ v.toInt = 10 ∨ v.toInt = 11 ∨ v.toInt = 12 ∨ v.toInt = 13 ∨ v.toInt = 14 := by omega
      rcases this with q | q | q | q | q | q | q | q | q
      · exact Or.inl (i 6 q)
      · exact Or.inr (Or.inl (i 7 q))
      · exact Or.inr (Or.inr (Or.inl (i 8 q)))
      · exact Or.inr (Or.inr (Or.inr (Or.inl (i 9 q))))
      · exact Or.inr (Or.inr (Or.inr (Or.inr (Or.inl (i 10 q)))))
      · exact Or.inr (Or.inr (Or.inr (Or.inr (Or.inr (Or.inl (i 11 q))))))
      · exact Or.inr (Or.inr (Or.inr (Or.inr (Or.inr (Or.inr (Or.inl (i 12 q)))))))
      · exact Or.inr (Or.inr (Or.inr (Or.inr (Or.inr (Or.inr (Or.inr (Or.inl (i 13 q))))))))
      · exact Or.inr (Or.inr (Or.inr (Or.inr (Or.inr (Or.inr (Or.inr (Or.inr (Or.inl (i 14 q)))))))))
    · rw [h]; decide
    · rw [h]; decide
  unfold wX11_one wX11_one_j150 jn
  rw [d]
  simp only [ite_some]
  rcases w with rfl | rfl | rfl | rfl | rfl | rfl | rfl | rfl | rfl | rfl | rfl <;> rfl
/-- one code, done to a stack -/
noncomputable def es (w : Nat → Int64) (v : Int32) (x : (Nat → Int64) × Nat) : (Nat → Int64) × Nat :=
  if 100 ≤ v then (vp_updL x.1 x.2 (v - 100).toInt64, x.2 + 1)
  else if 23 ≤ v then (vp_updL x.1 x.2 (w (v - 23).toNatClampNeg), x.2 + 1)
  else if v = 22 then (vp_updL x.1 (x.2 - 1) (1 - x.1 (x.2 - 1)), x.2)
  else (vp_updL x.1 (x.2 - 2) (jn v (x.1 (x.2 - 2)) (x.1 (x.2 - 1))), x.2 - 1)
noncomputable def er (w : Nat → Int64) (C : Nat → Int32) : Nat → Nat → (Nat → Int64) × Nat → (Nat → Int64) × Nat
  | 0, _, x => x
  | n + 1, i, x => er w C n (i + 1) (es w (C i) x)
theorem okc_cases {v : Int32} (h : okc v) : (100 ≤ v ∧ (100 ≤ v.toInt ∧ v.toInt ≤ 100099)) ∨ (¬ 100 ≤ v ∧ 23 ≤ v ∧ (23 ≤ v.toInt ∧ v.toInt ≤ 30)) ∨ (¬ 100 ≤ v ∧ ¬ 23 ≤ v ∧ v = 22) ∨ (¬ 100 ≤ v ∧ ¬ 23 ≤ v ∧ ¬ v = 22 ∧ ((6 ≤ v.toInt ∧ v.toInt ≤ 14) ∨ v = 20 ∨ v = 21)) := by
  unfold okc at h
  have e100 : (100 : Int32).toInt = 100 := rfl
  have e23 : (23 : Int32).toInt = 23 := rfl
  have e22 : (22 : Int32).toInt = 22 := rfl
  by_cases c : 100 ≤ v
  · have := Int32.le_iff_toInt_le.1 c
    exact Or.inl ⟨c, by omega⟩
  · have c' : ¬ 100 ≤ v.toInt := fun q => c (Int32.le_iff_toInt_le.2 (by omega))
    by_cases d : 23 ≤ v
    · have := Int32.le_iff_toInt_le.1 d
      exact Or.inr (Or.inl ⟨c, d, by omega⟩)
    · have d' : ¬ 23 ≤ v.toInt := fun q => d (Int32.le_iff_toInt_le.2 (by omega))
      by_cases e : v = 22
      · exact Or.inr (Or.inr (Or.inl ⟨c, d, e⟩))
      · have e' := t_nq e
        rw [e22] at e'
        refine Or.inr (Or.inr (Or.inr ⟨c, d, e, ?_⟩))
        rcases h with h | h | h
        · omega
        · have : v.toInt = 20 ∨ v.toInt = 21 := by omega
          rcases this with q | q
          · exact Or.inr (Or.inl (Int32.toInt_inj.1 q))
          · exact Or.inr (Or.inr (Int32.toInt_inj.1 q))
        · exact Or.inl h
theorem sh4 {x : Int32} (h0 : 0 ≤ x.toInt) (h1 : x.toInt ≤ 100000) : (16 * x) >>> (4 &&& 31) = x := by
  have e : (16 * x).toInt = 16 * x.toInt := by rw [t_mul (by rw [show (16 : Int32).toInt = 16 from rfl]; omega) (by rw [show (16 : Int32).toInt = 16 from rfl]; omega)]; rfl
  apply Int32.toInt_inj.1
  have : ((16 * x) >>> (4 &&& 31)).toInt = (16 * x).toInt >>> 4 := by
    show ((16 * x).toBitVec.sshiftRight' ((4 &&& 31 : Int32).toBitVec.smod 32)).toInt = _
    have q : ((4 &&& 31 : Int32).toBitVec.smod 32) = 4#32 := by decide
    rw [q]
    show (BitVec.sshiftRight (16 * x).toBitVec 4).toInt = _
    rw [BitVec.toInt_sshiftRight]
    rfl
  rw [this, e, Int.shiftRight_eq_div_pow]
  omega
/-- how a code lies in the reference -/
theorem rc_n {v : Int32} (h : 100 ≤ v) (h0 : 100 ≤ v.toInt ∧ v.toInt ≤ 100099) : rc v &&& 15 = 0 ∧ rc v >>> (4 &&& 31) = v - 100 := by
  have e : (v - 100).toInt = v.toInt - 100 := by rw [t_sub (by rw [show (100 : Int32).toInt = 100 from rfl]; omega) (by rw [show (100 : Int32).toInt = 100 from rfl]; omega)]; rfl
  unfold rc
  rw [if_pos h]
  exact ⟨hs_and15 _, sh4 (by omega) (by omega)⟩
theorem rc_w {v : Int32} (h : 23 ≤ v.toInt ∧ v.toInt ≤ 30) : rc v &&& 15 = 1 ∧ rc v >>> (4 &&& 31) = v - 23 ∧ (v - 23).toInt = v.toInt - 23 ∧ 0 ≤ (v - 23).toInt ∧ (v - 23).toInt < 8 := by
  have i : ∀ c : Int32, v.toInt = c.toInt → v = c := fun c h => Int32.toInt_inj.1 h
  have : v.toInt = 23 ∨ v.toInt = 24 ∨ v.toInt = 25 ∨ v.toInt = 26 ∨ v.toInt = 27 ∨ v.toInt = 28 ∨ v.toInt = 29 ∨ v.toInt = 30 := by omega
  rcases this with q | q | q | q | q | q | q | q
  · rw [i 23 q]; decide
  · rw [i 24 q]; decide
  · rw [i 25 q]; decide
  · rw [i 26 q]; decide
  · rw [i 27 q]; decide
  · rw [i 28 q]; decide
  · rw [i 29 q]; decide
  · rw [i 30 q]; decide
theorem rc_o {v : Int32} (h : (6 ≤ v.toInt ∧ v.toInt ≤ 14) ∨ v = 20 ∨ v = 21) : ¬ rc v &&& 15 = 0 ∧ ¬ rc v &&& 15 = 1 ∧ ¬ rc v &&& 15 = 11 ∧ rc v &&& 15 = rc v := by
  have i : ∀ c : Int32, v.toInt = c.toInt → v = c := fun c h => Int32.toInt_inj.1 h
  rcases h with h | h | h
  · have : v.toInt = 6 ∨ v.toInt = 7 ∨ v.toInt = 8 ∨ v.toInt = 9 ∨ v.toInt = 10 ∨ v.toInt = 11 ∨ v.toInt = 12 ∨ v.toInt = 13 ∨ v.toInt = 14 := by omega
    rcases this with q | q | q | q | q | q | q | q | q
    · rw [i 6 q]; decide
    · rw [i 7 q]; decide
    · rw [i 8 q]; decide
    · rw [i 9 q]; decide
    · rw [i 10 q]; decide
    · rw [i 11 q]; decide
    · rw [i 12 q]; decide
    · rw [i 13 q]; decide
    · rw [i 14 q]; decide
  · rw [h]; decide
  · rw [h]; decide
theorem hstep_rc {v : Int32} (h : okc v) {n : Nat} : hstep (rc v) n = if 23 ≤ v then (if n < 60 then some (n + 1) else none) else if v = 22 then (if 1 ≤ n then some n else none) else (if 2 ≤ n then some (n - 1) else none) := by
  unfold hstep
  rcases okc_cases h with ⟨c, c1⟩ | ⟨c, d, d1⟩ | ⟨c, d, rfl⟩ | ⟨c, d, e, e1⟩
  · have : (23 : Int32) ≤ v := Int32.le_iff_toInt_le.2 (by rw [show (23 : Int32).toInt = 23 from rfl]; omega)
    rw [if_pos (rc_n c c1).1, if_pos this]
  · obtain ⟨r1, r2, r3, r4, r5⟩ := rc_w d1
    rw [r1, if_neg (by decide), if_pos rfl, r2, if_pos d]
    by_cases k : n < 60
    · rw [if_pos ⟨k, r4, r5⟩, if_pos k]
    · rw [if_neg (fun q => k q.1), if_neg k]
  · rw [if_neg (show ¬ rc 22 &&& 15 = 0 by decide), if_neg (show ¬ rc 22 &&& 15 = 1 by decide), if_pos (show rc 22 &&& 15 = 11 by decide), if_neg d, if_pos rfl]
  · obtain ⟨r1, r2, r3, -⟩ := rc_o e1
    rw [if_neg r1, if_neg r2, if_neg r3, if_neg d, if_neg e]
/-- the height is the one foreseen -/
theorem es_h {w : Nat → Int64} {v : Int32} {f : Nat → Int64} {n m : Nat} (h : okc v) (e : hstep (rc v) n = some m) : (es w v (f, n)).2 = m := by
  rw [hstep_rc h] at e
  unfold es
  rcases okc_cases h with ⟨c, c1⟩ | ⟨c, d, d1⟩ | ⟨c, d, rfl⟩ | ⟨c, d, k, e1⟩
  · have : (23 : Int32) ≤ v := Int32.le_iff_toInt_le.2 (by rw [show (23 : Int32).toInt = 23 from rfl]; omega)
    rw [if_pos this] at e
    rw [if_pos c]
    by_cases q : n < 60
    · rw [if_pos q] at e; exact Option.some.inj e
    · rw [if_neg q] at e; cases e
  · rw [if_pos d] at e
    rw [if_neg c, if_pos d]
    by_cases q : n < 60
    · rw [if_pos q] at e; exact Option.some.inj e
    · rw [if_neg q] at e; cases e
  · rw [if_neg d, if_pos rfl] at e
    rw [if_neg c, if_neg d, if_pos rfl]
    by_cases q : 1 ≤ n
    · rw [if_pos q] at e; exact Option.some.inj e
    · rw [if_neg q] at e; cases e
  · rw [if_neg d, if_neg k] at e
    rw [if_neg c, if_neg d, if_neg k]
    by_cases q : 2 ≤ n
    · rw [if_pos q] at e; exact Option.some.inj e
    · rw [if_neg q] at e; cases e
/-- only what lies below the height counts -/
theorem es_low {w : Nat → Int64} {v : Int32} {f g : Nat → Int64} {n m : Nat} (h : okc v) (e : hstep (rc v) n = some m) (hf : ∀ j, j < n → f j = g j) : ∀ j, j < m → (es w v (f, n)).1 j = (es w v (g, n)).1 j := by
  rw [hstep_rc h] at e
  unfold es
  have up : ∀ (k : Nat) (x y : Int64) (m : Nat), x = y → m ≤ n + 1 → k ≤ n → (∀ j, j < m → j ≠ k → j < n) → ∀ j, j < m → vp_updL f k x j = vp_updL g k y j := by
    intro k x y m hxy _ _ hm j hj
    by_cases q : j = k
    · rw [q, vpL_s, vpL_s, hxy]
    · rw [vpL_n q, vpL_n q]; exact hf j (hm j hj q)
  rcases okc_cases h with ⟨c, c1⟩ | ⟨c, d, d1⟩ | ⟨c, d, rfl⟩ | ⟨c, d, k, e1⟩
  · have : (23 : Int32) ≤ v := Int32.le_iff_toInt_le.2 (by rw [show (23 : Int32).toInt = 23 from rfl]; omega)
    rw [if_pos this] at e
    by_cases q : n < 60
    · rw [if_pos q] at e
      obtain rfl := Option.some.inj e
      rw [if_pos c, if_pos c]
      exact up n _ _ (n + 1) rfl (by omega) (by omega) (fun j h1 h2 => by omega)
    · rw [if_neg q] at e; cases e
  · rw [if_pos d] at e
    by_cases q : n < 60
    · rw [if_pos q] at e
      obtain rfl := Option.some.inj e
      rw [if_neg c, if_pos d, if_neg c, if_pos d]
      exact up n _ _ (n + 1) rfl (by omega) (by omega) (fun j h1 h2 => by omega)
    · rw [if_neg q] at e; cases e
  · rw [if_neg d, if_pos rfl] at e
    by_cases q : 1 ≤ n
    · rw [if_pos q] at e
      obtain rfl := Option.some.inj e
      rw [if_neg c, if_neg d, if_pos rfl, if_neg c, if_neg d, if_pos rfl]
      exact up (n - 1) _ _ n (by dsimp only; rw [hf (n - 1) (by omega)]) (by omega) (by omega) (fun j h1 h2 => by omega)
    · rw [if_neg q] at e; cases e
  · rw [if_neg d, if_neg k] at e
    by_cases q : 2 ≤ n
    · rw [if_pos q] at e
      obtain rfl := Option.some.inj e
      rw [if_neg c, if_neg d, if_neg k, if_neg c, if_neg d, if_neg k]
      exact up (n - 2) _ _ (n - 1) (by dsimp only; rw [hf (n - 1) (by omega), hf (n - 2) (by omega)]) (by omega) (by omega) (fun j h1 h2 => by omega)
    · rw [if_neg q] at e; cases e
theorem er_low {w : Nat → Int64} {C : Nat → Int32} : ∀ {n i h m : Nat} {f g : Nat → Int64}, (∀ j, i ≤ j → j < i + n → okc (C j)) → hrun (fun j => rc (C j)) n i h = some m → (∀ j, j < h → f j = g j) → (er w C n i (f, h)).2 = m ∧ ∀ j, j < m → (er w C n i (f, h)).1 j = (er w C n i (g, h)).1 j := by
  intro n
  induction n with
  | zero =>
    intro i h m f g _ e hf
    obtain rfl := Option.some.inj e
    exact ⟨rfl, hf⟩
  | succ n ih =>
    intro i h m f g ok e hf
    unfold hrun at e
    have ok0 := ok i (by omega) (by omega)
    split at e
    · cases e
    · next h1 hs =>
      have a1 := es_h (w := w) (f := f) ok0 hs
      have a2 := es_h (w := w) (f := g) ok0 hs
      have a3 := es_low (w := w) ok0 hs hf
      show (er w C n (i + 1) (es w (C i) (f, h))).2 = m ∧ ∀ j, j < m → (er w C n (i + 1) (es w (C i) (f, h))).1 j = (er w C n (i + 1) (es w (C i) (g, h))).1 j
      have b1 : es w (C i) (f, h) = ((es w (C i) (f, h)).1, h1) := by rw [← a1]
      have b2 : es w (C i) (g, h) = ((es w (C i) (g, h)).1, h1) := by rw [← a2]
      rw [b1, b2]
      exact ih (fun j h1 h2 => ok j (by omega) (by omega)) e a3
/-- what the codes from b to e make -/
noncomputable def VAL (w : Nat → Int64) (C : Nat → Int32) (b e : Nat) : Int64 := (er w C (e - b) b (fun _ => 0, 0)).1 0
