section
/-! What a code makes: the same on both sides. -/
theorem vpL_s {f : Nat → Int64} {k : Nat} {v : Int64} : vp_updL f k v k = v := by unfold vp_updL; rw [if_pos rfl]
theorem vpL_n {f : Nat → Int64} {k j : Nat} {v : Int64} (h : j ≠ k) : vp_updL f k v j = f j := by unfold vp_updL; rw [if_neg h]
noncomputable def jn (v : Int32) (x y : Int64) : Int64 :=
  if v = 6 then x + y else if v = 7 then x - y else if v = 8 then x * y else if v = 9 then (if y = 0 then 0 else x / y) else if v = 10 then (if x < y then 1 else 0) else if v = 11 then (if y < x then 0 else 1) else if v = 12 then (if x = y then 1 else 0) else if v = 13 then (if x < y then 0 else 1) else if v = 14 then (if y < x then 1 else 0) else if v = 21 then x &&& y else x ||| y
theorem ite_some {α : Type} {c : Prop} [Decidable c] {a b : α} : (if c then some a else some b) = some (if c then a else b) := by
  by_cases h : c
  · rw [if_pos h, if_pos h]
  · rw [if_neg h, if_neg h]
theorem joined_E {v : Int32} {x y : Int64} {s : wS} : wX3_joined v x y s = some (jn v x y) := by
  have d : (if y = 0 then (some 0) else ((wdvL x y).bind fun t6 => some t6)) = some (if y = 0 then 0 else x / y) := by
    unfold wdvL
    by_cases c : y = 0
    · rw [if_pos c, if_pos c]
    · rw [if_neg c, if_neg c, if_neg c]; rfl
  unfold wX3_joined wX3_joined_j170 jn
  rw [d]
  simp only [ite_some]
theorem one_E {v : Int32} {x y : Int64} {s : wS} (h : (6 ≤ v.toInt ∧ v.toInt ≤ 14) ∨ v = 20 ∨ v = 21) : wX11_one (rc v) x y s = some (jn v x y) := by
  have d : (if y = 0 then (some 0) else ((wdvL x y).bind fun t6 => some t6)) = some (if y = 0 then 0 else x / y) := by
    unfold wdvL
    by_cases c : y = 0
    · rw [if_pos c, if_pos c]
    · rw [if_neg c, if_neg c, if_neg c]; rfl
  have w : v = 6 ∨ v = 7 ∨ v = 8 ∨ v = 9 ∨ v = 10 ∨ v = 11 ∨ v = 12 ∨ v = 13 ∨ v = 14 ∨ v = 20 ∨ v = 21 := by
    have i : ∀ c : Int32, v.toInt = c.toInt → v = c := fun c h => Int32.toInt_inj.1 h
    rcases h with h | h | h
    · have : v.toInt = 6 ∨ v.toInt = 7 ∨ v.toInt = 8 ∨ v.toInt = 9 ∨ v.toInt = 10 ∨ v.toInt = 11 ∨ v.toInt = 12 ∨ v.toInt = 13 ∨ v.toInt = 14 := by omega
      rcases this with q | q | q | q | q | q | q | q | q
      · exact Or.inl (i 6 q)
      · exact Or.inr (Or.inl (i 7 q))
      · exact Or.inr (Or.inr (Or.inl (i 8 q)))
      · exact Or.inr (Or.inr (Or.inr (Or.inl (i 9 q))))
      · exact Or.inr (Or.inr (Or.inr (Or.inr (Or.inl (i 10 q)))))
      · exact Or.inr (Or.inr (Or.inr (Or.inr (Or.inr (Or.inl (i 11 q))))))
      · exact Or.inr (Or.inr (Or.inr (Or.inr (Or.inr (Or.inr (Or.inl (i 12 q)))))))
      · exact Or.inr (Or.inr (Or.inr (Or.inr (Or.inr (Or.inr (Or.inr (Or.inl (i 13 q))))))))
      · exact Or.inr (Or.inr (Or.inr (Or.inr (Or.inr (Or.inr (Or.inr (Or.inr (Or.inl (i 14 q)))))))))
    · rw [h]; decide
    · rw [h]; decide
  unfold wX11_one wX11_one_j150 jn
  rw [d]
  simp only [ite_some]
  rcases w with rfl | rfl | rfl | rfl | rfl | rfl | rfl | rfl | rfl | rfl | rfl <;> rfl
/-- one code, done to a stack -/
noncomputable def es (w : Nat → Int64) (v : Int32) (x : (Nat → Int64) × Nat) : (Nat → Int64) × Nat :=
  if 100 ≤ v then (vp_updL x.1 x.2 (v - 100).toInt64, x.2 + 1)
  else if 23 ≤ v then (vp_updL x.1 x.2 (w (v - 23).toNatClampNeg), x.2 + 1)
  else if v = 22 then (vp_updL x.1 (x.2 - 1) (1 - x.1 (x.2 - 1)), x.2)
  else (vp_updL x.1 (x.2 - 2) (jn v (x.1 (x.2 - 2)) (x.1 (x.2 - 1))), x.2 - 1)
noncomputable def er (w : Nat → Int64) (C : Nat → Int32) : Nat → Nat → (Nat → Int64) × Nat → (Nat → Int64) × Nat
  | 0, _, x => x
  | n + 1, i, x => er w C n (i + 1) (es w (C i) x)
theorem okc_cases {v : Int32} (h : okc v) : (100 ≤ v ∧ (100 ≤ v.toInt ∧ v.toInt ≤ 100099)) ∨ (¬ 100 ≤ v ∧ 23 ≤ v ∧ (23 ≤ v.toInt ∧ v.toInt ≤ 30)) ∨ (¬ 100 ≤ v ∧ ¬ 23 ≤ v ∧ v = 22) ∨ (¬ 100 ≤ v ∧ ¬ 23 ≤ v ∧ ¬ v = 22 ∧ ((6 ≤ v.toInt ∧ v.toInt ≤ 14) ∨ v = 20 ∨ v = 21)) := by
  unfold okc at h
  have e100 : (100 : Int32).toInt = 100 := rfl
  have e23 : (23 : Int32).toInt = 23 := rfl
  have e22 : (22 : Int32).toInt = 22 := rfl
  by_cases c : 100 ≤ v
  · have := Int32.le_iff_toInt_le.1 c
    exact Or.inl ⟨c, by omega⟩
  · have c' : ¬ 100 ≤ v.toInt := fun q => c (Int32.le_iff_toInt_le.2 (by omega))
    by_cases d : 23 ≤ v
    · have := Int32.le_iff_toInt_le.1 d
      exact Or.inr (Or.inl ⟨c, d, by omega⟩)
    · have d' : ¬ 23 ≤ v.toInt := fun q => d (Int32.le_iff_toInt_le.2 (by omega))
      by_cases e : v = 22
      · exact Or.inr (Or.inr (Or.inl ⟨c, d, e⟩))
      · have e' := t_nq e
        rw [e22] at e'
        refine Or.inr (Or.inr (Or.inr ⟨c, d, e, ?_⟩))
        rcases h with h | h | h
        · omega
        · have : v.toInt = 20 ∨ v.toInt = 21 := by omega
          rcases this with q | q
          · exact Or.inr (Or.inl (Int32.toInt_inj.1 q))
          · exact Or.inr (Or.inr (Int32.toInt_inj.1 q))
        · exact Or.inl h
theorem sh4 {x : Int32} (h0 : 0 ≤ x.toInt) (h1 : x.toInt ≤ 100000) : (16 * x) >>> (4 &&& 31) = x := by
  have e : (16 * x).toInt = 16 * x.toInt := by rw [t_mul (by rw [show (16 : Int32).toInt = 16 from rfl]; omega) (by rw [show (16 : Int32).toInt = 16 from rfl]; omega)]; rfl
  apply Int32.toInt_inj.1
  have : ((16 * x) >>> (4 &&& 31)).toInt = (16 * x).toInt >>> 4 := by
    show ((16 * x).toBitVec.sshiftRight' ((4 &&& 31 : Int32).toBitVec.smod 32)).toInt = _
    have q : ((4 &&& 31 : Int32).toBitVec.smod 32) = 4#32 := by decide
    rw [q]
    show (BitVec.sshiftRight (16 * x).toBitVec 4).toInt = _
    rw [BitVec.toInt_sshiftRight]
    rfl
  rw [this, e, Int.shiftRight_eq_div_pow]
  omega
/-- how a code lies in the reference -/
theorem rc_n {v : Int32} (h : 100 ≤ v) (h0 : 100 ≤ v.toInt ∧ v.toInt ≤ 100099) : rc v &&& 15 = 0 ∧ rc v >>> (4 &&& 31) = v - 100 := by
  have e : (v - 100).toInt = v.toInt - 100 := by rw [t_sub (by rw [show (100 : Int32).toInt = 100 from rfl]; omega) (by rw [show (100 : Int32).toInt = 100 from rfl]; omega)]; rfl
  unfold rc
  rw [if_pos h]
  exact ⟨hs_and15 _, sh4 (by omega) (by omega)⟩
theorem rc_w {v : Int32} (h : 23 ≤ v.toInt ∧ v.toInt ≤ 30) : rc v &&& 15 = 1 ∧ rc v >>> (4 &&& 31) = v - 23 ∧ (v - 23).toInt = v.toInt - 23 ∧ 0 ≤ (v - 23).toInt ∧ (v - 23).toInt < 8 := by
  have i : ∀ c : Int32, v.toInt = c.toInt → v = c := fun c h => Int32.toInt_inj.1 h
  have : v.toInt = 23 ∨ v.toInt = 24 ∨ v.toInt = 25 ∨ v.toInt = 26 ∨ v.toInt = 27 ∨ v.toInt = 28 ∨ v.toInt = 29 ∨ v.toInt = 30 := by omega
  rcases this with q | q | q | q | q | q | q | q
  · rw [i 23 q]; decide
  · rw [i 24 q]; decide
  · rw [i 25 q]; decide
  · rw [i 26 q]; decide
  · rw [i 27 q]; decide
  · rw [i 28 q]; decide
  · rw [i 29 q]; decide
  · rw [i 30 q]; decide
theorem rc_o {v : Int32} (h : (6 ≤ v.toInt ∧ v.toInt ≤ 14) ∨ v = 20 ∨ v = 21) : ¬ rc v &&& 15 = 0 ∧ ¬ rc v &&& 15 = 1 ∧ ¬ rc v &&& 15 = 11 ∧ rc v &&& 15 = rc v := by
  have i : ∀ c : Int32, v.toInt = c.toInt → v = c := fun c h => Int32.toInt_inj.1 h
  rcases h with h | h | h
  · have : v.toInt = 6 ∨ v.toInt = 7 ∨ v.toInt = 8 ∨ v.toInt = 9 ∨ v.toInt = 10 ∨ v.toInt = 11 ∨ v.toInt = 12 ∨ v.toInt = 13 ∨ v.toInt = 14 := by omega
    rcases this with q | q | q | q | q | q | q | q | q
    · rw [i 6 q]; decide
    · rw [i 7 q]; decide
    · rw [i 8 q]; decide
    · rw [i 9 q]; decide
    · rw [i 10 q]; decide
    · rw [i 11 q]; decide
    · rw [i 12 q]; decide
    · rw [i 13 q]; decide
    · rw [i 14 q]; decide
  · rw [h]; decide
  · rw [h]; decide
theorem hstep_rc {v : Int32} (h : okc v) {n : Nat} : hstep (rc v) n = if 23 ≤ v then (if n < 60 then some (n + 1) else none) else if v = 22 then (if 1 ≤ n then some n else none) else (if 2 ≤ n then some (n - 1) else none) := by
  unfold hstep
  rcases okc_cases h with ⟨c, c1⟩ | ⟨c, d, d1⟩ | ⟨c, d, rfl⟩ | ⟨c, d, e, e1⟩
  · have : (23 : Int32) ≤ v := Int32.le_iff_toInt_le.2 (by rw [show (23 : Int32).toInt = 23 from rfl]; omega)
    rw [if_pos (rc_n c c1).1, if_pos this]
  · obtain ⟨r1, r2, r3, r4, r5⟩ := rc_w d1
    rw [r1, if_neg (by decide), if_pos rfl, r2, if_pos d]
    by_cases k : n < 60
    · rw [if_pos ⟨k, r4, r5⟩, if_pos k]
    · rw [if_neg (fun q => k q.1), if_neg k]
  · rw [if_neg (show ¬ rc 22 &&& 15 = 0 by decide), if_neg (show ¬ rc 22 &&& 15 = 1 by decide), if_pos (show rc 22 &&& 15 = 11 by decide), if_neg d, if_pos rfl]
  · obtain ⟨r1, r2, r3, -⟩ := rc_o e1
    rw [if_neg r1, if_neg r2, if_neg r3, if_neg d, if_neg e]
/-- the height is the one foreseen -/
theorem es_h {w : Nat → Int64} {v : Int32} {f : Nat → Int64} {n m : Nat} (h : okc v) (e : hstep (rc v) n = some m) : (es w v (f, n)).2 = m := by
  rw [hstep_rc h] at e
  unfold es
  rcases okc_cases h with ⟨c, c1⟩ | ⟨c, d, d1⟩ | ⟨c, d, rfl⟩ | ⟨c, d, k, e1⟩
  · have : (23 : Int32) ≤ v := Int32.le_iff_toInt_le.2 (by rw [show (23 : Int32).toInt = 23 from rfl]; omega)
    rw [if_pos this] at e
    rw [if_pos c]
    by_cases q : n < 60
    · rw [if_pos q] at e; exact Option.some.inj e
    · rw [if_neg q] at e; cases e
  · rw [if_pos d] at e
    rw [if_neg c, if_pos d]
    by_cases q : n < 60
    · rw [if_pos q] at e; exact Option.some.inj e
    · rw [if_neg q] at e; cases e
  · rw [if_neg d, if_pos rfl] at e
    rw [if_neg c, if_neg d, if_pos rfl]
    by_cases q : 1 ≤ n
    · rw [if_pos q] at e; exact Option.some.inj e
    · rw [if_neg q] at e; cases e
  · rw [if_neg d, if_neg k] at e
    rw [if_neg c, if_neg d, if_neg k]
    by_cases q : 2 ≤ n
    · rw [if_pos q] at e; exact Option.some.inj e
    · rw [if_neg q] at e; cases e
/-- only what lies below the height counts -/
theorem es_low {w : Nat → Int64} {v : Int32} {f g : Nat → Int64} {n m : Nat} (h : okc v) (e : hstep (rc v) n = some m) (hf : ∀ j, j < n → f j = g j) : ∀ j, j < m → (es w v (f, n)).1 j = (es w v (g, n)).1 j := by
  rw [hstep_rc h] at e
  unfold es
  have up : ∀ (k : Nat) (x y : Int64) (m : Nat), x = y → m ≤ n + 1 → k ≤ n → (∀ j, j < m → j ≠ k → j < n) → ∀ j, j < m → vp_updL f k x j = vp_updL g k y j := by
    intro k x y m hxy _ _ hm j hj
    by_cases q : j = k
    · rw [q, vpL_s, vpL_s, hxy]
    · rw [vpL_n q, vpL_n q]; exact hf j (hm j hj q)
  rcases okc_cases h with ⟨c, c1⟩ | ⟨c, d, d1⟩ | ⟨c, d, rfl⟩ | ⟨c, d, k, e1⟩
  · have : (23 : Int32) ≤ v := Int32.le_iff_toInt_le.2 (by rw [show (23 : Int32).toInt = 23 from rfl]; omega)
    rw [if_pos this] at e
    by_cases q : n < 60
    · rw [if_pos q] at e
      obtain rfl := Option.some.inj e
      rw [if_pos c, if_pos c]
      exact up n _ _ (n + 1) rfl (by omega) (by omega) (fun j h1 h2 => by omega)
    · rw [if_neg q] at e; cases e
  · rw [if_pos d] at e
    by_cases q : n < 60
    · rw [if_pos q] at e
      obtain rfl := Option.some.inj e
      rw [if_neg c, if_pos d, if_neg c, if_pos d]
      exact up n _ _ (n + 1) rfl (by omega) (by omega) (fun j h1 h2 => by omega)
    · rw [if_neg q] at e; cases e
  · rw [if_neg d, if_pos rfl] at e
    by_cases q : 1 ≤ n
    · rw [if_pos q] at e
      obtain rfl := Option.some.inj e
      rw [if_neg c, if_neg d, if_pos rfl, if_neg c, if_neg d, if_pos rfl]
      exact up (n - 1) _ _ n (by dsimp only; rw [hf (n - 1) (by omega)]) (by omega) (by omega) (fun j h1 h2 => by omega)
    · rw [if_neg q] at e; cases e
  · rw [if_neg d, if_neg k] at e
    by_cases q : 2 ≤ n
    · rw [if_pos q] at e
      obtain rfl := Option.some.inj e
      rw [if_neg c, if_neg d, if_neg k, if_neg c, if_neg d, if_neg k]
      exact up (n - 2) _ _ (n - 1) (by dsimp only; rw [hf (n - 1) (by omega), hf (n - 2) (by omega)]) (by omega) (by omega) (fun j h1 h2 => by omega)
    · rw [if_neg q] at e; cases e
theorem er_low {w : Nat → Int64} {C : Nat → Int32} : ∀ {n i h m : Nat} {f g : Nat → Int64}, (∀ j, i ≤ j → j < i + n → okc (C j)) → hrun (fun j => rc (C j)) n i h = some m → (∀ j, j < h → f j = g j) → (er w C n i (f, h)).2 = m ∧ ∀ j, j < m → (er w C n i (f, h)).1 j = (er w C n i (g, h)).1 j := by
  intro n
  induction n with
  | zero =>
    intro i h m f g _ e hf
    obtain rfl := Option.some.inj e
    exact ⟨rfl, hf⟩
  | succ n ih =>
    intro i h m f g ok e hf
    unfold hrun at e
    have ok0 := ok i (by omega) (by omega)
    split at e
    · cases e
    · next h1 hs =>
      have a1 := es_h (w := w) (f := f) ok0 hs
      have a2 := es_h (w := w) (f := g) ok0 hs
      have a3 := es_low (w := w) ok0 hs hf
      show (er w C n (i + 1) (es w (C i) (f, h))).2 = m ∧ ∀ j, j < m → (er w C n (i + 1) (es w (C i) (f, h))).1 j = (er w C n (i + 1) (es w (C i) (g, h))).1 j
      have b1 : es w (C i) (f, h) = ((es w (C i) (f, h)).1, h1) := by rw [← a1]
      have b2 : es w (C i) (g, h) = ((es w (C i) (g, h)).1, h1) := by rw [← a2]
      rw [b1, b2]
      exact ih (fun j h1 h2 => ok j (by omega) (by omega)) e a3
/-- what the codes from b to e make -/
noncomputable def VAL (w : Nat → Int64) (C : Nat → Int32) (b e : Nat) : Int64 := (er w C (e - b) b (fun _ => 0, 0)).1 0
end
section
/-! Both sides run the same codes. -/
/-- only the stack of a LAW was touched -/
noncomputable def EC (k0 : Nat) (s0 : wS) (f : Nat → Int64) (h : Nat) (s : wS) : Prop := (∀ k b, ¬ (k = k0 ∧ b = 9) → s.1 k b = s0.1 k b) ∧ (∀ k, k ≠ k0 + 7 → s.2 k = s0.2 k) ∧ s.1 k0 9 = Int32.ofNat h ∧ s.2 (k0 + 7) = f
theorem wstL_E {k n : Nat} {i : Int32} {v : Int64} {s : wS} (h0 : 0 ≤ i.toInt) (h1 : i.toInt < n) : wstL s k n i v = some (wupL s k i.toNatClampNeg v) := by
  unfold wstL
  rw [if_neg (t_ix h0 h1)]
theorem wldL_E {k n : Nat} {i : Int32} {s : wS} (h0 : 0 ≤ i.toInt) (h1 : i.toInt < n) : wldL s k n i = some (s.2 k i.toNatClampNeg) := by
  unfold wldL
  rw [if_neg (t_ix h0 h1)]
theorem i_on1 {h : Nat} (hh : h ≤ 1000) : Int32.ofNat h + 1 = Int32.ofNat (h + 1) := Int32.toInt_inj.1 (by rw [t_p1 (by rw [t_on (by omega)]; omega) (by rw [t_on (by omega)]; omega), t_on (by omega), t_on (by omega)]; rfl)
theorem i_om1 {h : Nat} (h1 : 1 ≤ h) (hh : h ≤ 1000) : Int32.ofNat h - 1 = Int32.ofNat (h - 1) := Int32.toInt_inj.1 (by
  have e1 : (1 : Int32).toInt = 1 := rfl
  rw [t_sub (by rw [t_on (by omega), e1]; omega) (by rw [t_on (by omega), e1]; omega), t_on (by omega), t_on (by omega), e1]
  omega)
section RUNC
variable {k0 : Nat} {s0 s : wS} {f : Nat → Int64} {h : Nat}
theorem push_R {x : Int64} (g : EC k0 s0 f h s) (hh : h ≤ 60) : Tot (wX3_push k0 x s) (EC k0 s0 (vp_updL f h x) (h + 1)) := by
  obtain ⟨g1, g2, g3, g4⟩ := g
  have e : (Int32.ofNat h).toInt = h := t_on (by omega)
  unfold wX3_push
  rw [g3, if_neg (fun q => by have := t_lt q; rw [e, t_i0] at this; omega), if_pos (Int32.lt_iff_toInt_lt.2 (by rw [e, show (61 : Int32).toInt = 61 from rfl]; omega)), wstL_E (by omega) (by omega), t_sbe, t_nc (by omega)]
  refine t_bind (t_pfI (B := fun _ _ => true) rfl) (fun s5 h5 => t_some ?_)
  have z : (wupL s (k0 + 7) h x).1 = s.1 := rfl
  rw [z, g3, i_on1 (by omega)] at h5
  have h5 := h5.2
  refine ⟨fun k b hk => ?_, fun k hk => ?_, by rw [h5, wup_same], ?_⟩
  · by_cases q : k = k0
    · rw [q, h5, wup_nb (fun e => hk ⟨q, e⟩), z, ← q]
      exact g1 k b hk
    · rw [h5, wupI_n q, z]
      exact g1 k b hk
  · have : s5.2 = (wupL s (k0 + 7) h x).2 := by rw [h5]; rfl
    rw [this, wupL_n hk]
    exact g2 k hk
  · have : s5.2 = (wupL s (k0 + 7) h x).2 := by rw [h5]; rfl
    rw [this, wupL_k, g4]
theorem pop_R (g : EC k0 s0 f h s) (h1 : 1 ≤ h) (hh : h ≤ 61) : Tot (wX3_pop k0 s) (fun p => p.1 = f (h - 1) ∧ EC k0 s0 f (h - 1) p.2) := by
  obtain ⟨g1, g2, g3, g4⟩ := g
  have e : (Int32.ofNat h).toInt = h := t_on (by omega)
  have e' : (Int32.ofNat (h - 1)).toInt = (h - 1 : Nat) := t_on (by omega)
  unfold wX3_pop
  rw [g3, if_neg (fun q => by have := t_lt q; rw [e, show (1 : Int32).toInt = 1 from rfl] at this; omega), if_neg (fun q => by have := t_lt q; rw [e, show (61 : Int32).toInt = 61 from rfl] at this; omega), i_om1 h1 (by omega)]
  refine t_bind (t_pfI (B := fun _ _ => true) rfl) (fun s3 h3 => ?_)
  have h3 := h3.2
  have z9 : s3.1 k0 9 = Int32.ofNat (h - 1) := by rw [h3, wup_same]
  have z2 : s3.2 = s.2 := by rw [h3]; rfl
  rw [z9, wldL_E (by omega) (by omega), t_sbe, t_nc (by omega), z2, g4]
  refine t_some ⟨rfl, fun k b hk => ?_, fun k hk => by rw [z2]; exact g2 k hk, z9, by rw [z2]; exact g4⟩
  by_cases q : k = k0
  · rw [q, h3, wup_nb (fun e => hk ⟨q, e⟩), ← q]
    exact g1 k b hk
  · rw [h3, wupI_n q]
    exact g1 k b hk
theorem wordOf_E {j : Int32} (h0 : 0 ≤ (j - 23).toInt) (h1 : (j - 23).toInt < 8) : wX3_wordOf k0 j s = some (s.2 (k0 + 6) (j - 23).toNatClampNeg) := by
  unfold wX3_wordOf
  rw [if_neg (fun q => by have := t_lt q; rw [t_i0] at this; omega), if_pos (Int32.lt_iff_toInt_lt.2 (by rw [show (8 : Int32).toInt = 8 from rfl]; omega)), wldL_E h0 (by omega), t_sbe]
theorem run_h {C : Nat → Int32} {e m : Nat} (hk0 : wkd k0 = 3) (he : e ≤ 400) : ∀ (n : Nat) {i h : Nat} {x3 : Int32} {s : wS} {f : Nat → Int64}, x3 = Int32.ofNat i → i ≤ e → EC k0 s0 f h s → h ≤ 60 → (∀ j, i ≤ j → j < e → s0.1 (k0 + 1) j = C j ∧ okc (C j)) → hrun (fun j => rc (C j)) (e - i) i h = some m → e - i < n → Tot (wX3_run_h7 k0 (Int32.ofNat e) n x3 s) (fun r => EC k0 s0 (er (s0.2 (k0 + 6)) C (e - i) i (f, h)).1 m r) := by
  intro n
  induction n with
  | zero => intro i h x3 s f _ _ _ _ _ _ hm; exact absurd hm (by omega)
  | succ n ih =>
    intro i h x3 s f h3 hi g hh hC hr hm
    have e3 : x3.toInt = i := by rw [h3, t_on (by omega)]
    have ee : (Int32.ofNat e).toInt = e := t_on (by omega)
    have en : x3.toNatClampNeg = i := by unfold Int32.toNatClampNeg; omega
    have e1 : x3 + 1 = Int32.ofNat (i + 1) := by rw [h3, i_on1 (by omega)]
    rw [wX3_run_h7]
    by_cases c : x3 < Int32.ofNat e
    · have hc := t_lt c
      rw [e3, ee] at hc
      have hie : i < e := by omega
      obtain ⟨d1, ok⟩ := hC i (Nat.le_refl _) hie
      have em : e - i = (e - (i + 1)) + 1 := by omega
      rw [em] at hr ⊢
      unfold hrun at hr
      have cd : s.1 (k0 + 1) i = C i := by rw [g.1 (k0 + 1) i (by omega)]; exact d1
      rw [if_pos c, at_E (wly_3_0 hk0).2.2 (by decide) (by omega) (by omega), t_sbe, en, cd]
      split at hr
      · cases hr
      · next h1 hs =>
        show Tot _ (fun r => EC k0 s0 (er (s0.2 (k0 + 6)) C (e - (i + 1)) (i + 1) (es (s0.2 (k0 + 6)) (C i) (f, h))).1 m r)
        have go : ∀ (s' : wS), EC k0 s0 (es (s0.2 (k0 + 6)) (C i) (f, h)).1 (es (s0.2 (k0 + 6)) (C i) (f, h)).2 s' → Tot (wX3_run_h7 k0 (Int32.ofNat e) n (x3 + 1) s') (fun r => EC k0 s0 (er (s0.2 (k0 + 6)) C (e - (i + 1)) (i + 1) (es (s0.2 (k0 + 6)) (C i) (f, h))).1 m r) := by
          intro s' g'
          have hh1 := es_h (w := s0.2 (k0 + 6)) (f := f) ok hs
          rw [hh1] at g'
          have b1 : es (s0.2 (k0 + 6)) (C i) (f, h) = ((es (s0.2 (k0 + 6)) (C i) (f, h)).1, h1) := by rw [← hh1]
          rw [b1]
          refine ih e1 (by omega) g' ?_ (fun j a1 a2 => hC j (by omega) a2) hr (by omega)
          rw [hstep_rc ok] at hs
          by_cases q1 : 23 ≤ C i
          · rw [if_pos q1] at hs
            by_cases q2 : h < 60
            · rw [if_pos q2] at hs; have := Option.some.inj hs; omega
            · rw [if_neg q2] at hs; cases hs
          · rw [if_neg q1] at hs
            by_cases q2 : C i = 22
            · rw [if_pos q2] at hs
              by_cases q3 : 1 ≤ h
              · rw [if_pos q3] at hs; have := Option.some.inj hs; omega
              · rw [if_neg q3] at hs; cases hs
            · rw [if_neg q2] at hs
              by_cases q3 : 2 ≤ h
              · rw [if_pos q3] at hs; have := Option.some.inj hs; omega
              · rw [if_neg q3] at hs; cases hs
        rw [hstep_rc ok] at hs
        unfold wX3_run_j103
        rcases okc_cases ok with ⟨k, k1⟩ | ⟨k, d, dd⟩ | ⟨k, d, k2⟩ | ⟨k, d, k2, kk⟩
        · have ees : es (s0.2 (k0 + 6)) (C i) (f, h) = (vp_updL f h (C i - 100).toInt64, h + 1) := by unfold es; rw [if_pos k]
          rw [ees] at go ⊢
          rw [if_neg (fun q => by have := t_lt q; rw [show (100 : Int32).toInt = 100 from rfl] at this; omega)]
          exact t_bind (push_R g hh) (fun s31 h31 => go s31 h31)
        · obtain ⟨-, -, r3, r4, r5⟩ := rc_w dd
          have ees : es (s0.2 (k0 + 6)) (C i) (f, h) = (vp_updL f h (s0.2 (k0 + 6) (C i - 23).toNatClampNeg), h + 1) := by unfold es; rw [if_neg k, if_pos d]
          rw [ees] at go ⊢
          rw [if_pos (Int32.lt_iff_toInt_lt.2 (by rw [show (100 : Int32).toInt = 100 from rfl]; omega)), if_neg (fun q => by have := t_lt q; rw [show (23 : Int32).toInt = 23 from rfl] at this; omega), wordOf_E r4 r5, t_sbe, g.2.1 (k0 + 6) (by omega)]
          exact t_bind (push_R g hh) (fun s28 h28 => go s28 h28)
        · have ees : es (s0.2 (k0 + 6)) (C i) (f, h) = (vp_updL f (h - 1) (1 - f (h - 1)), h) := by unfold es; rw [if_neg k, if_neg d, if_pos k2]
          rw [ees] at go ⊢
          rw [if_neg d, if_pos k2] at hs
          have h1' : 1 ≤ h := by
            by_cases q : 1 ≤ h
            · exact q
            · rw [if_neg q] at hs; cases hs
          rw [if_pos (show C i < 100 by rw [k2]; decide), if_pos (show C i < 23 by rw [k2]; decide), if_pos k2]
          refine t_bind (pop_R g h1' (by omega)) (fun p hp => ?_)
          obtain ⟨t8, s9⟩ := p
          obtain ⟨p1, p2⟩ := hp
          dsimp only at p1 p2 ⊢
          refine t_bind (push_R p2 (by omega)) (fun s12 h12 => ?_)
          refine go s12 ?_
          dsimp only
          rw [← p1]
          rw [show h - 1 + 1 = h by omega] at h12
          exact h12
        · have ees : es (s0.2 (k0 + 6)) (C i) (f, h) = (vp_updL f (h - 2) (jn (C i) (f (h - 2)) (f (h - 1))), h - 1) := by unfold es; rw [if_neg k, if_neg d, if_neg k2]
          rw [ees] at go ⊢
          rw [if_neg d, if_neg k2] at hs
          have h2' : 2 ≤ h := by
            by_cases q : 2 ≤ h
            · exact q
            · rw [if_neg q] at hs; cases hs
          have l100 : C i < 100 := by
            rcases kk with q | q | q
            · exact Int32.lt_iff_toInt_lt.2 (by rw [show (100 : Int32).toInt = 100 from rfl]; omega)
            · rw [q]; decide
            · rw [q]; decide
          have l23 : C i < 23 := by
            rcases kk with q | q | q
            · exact Int32.lt_iff_toInt_lt.2 (by rw [show (23 : Int32).toInt = 23 from rfl]; omega)
            · rw [q]; decide
            · rw [q]; decide
          rw [if_pos l100, if_pos l23, if_neg k2]
          refine t_bind (pop_R g (by omega) (by omega)) (fun p hp => ?_)
          obtain ⟨t14, s15⟩ := p
          obtain ⟨p1, p2⟩ := hp
          dsimp only at p1 p2 ⊢
          refine t_bind (pop_R p2 (by omega) (by omega)) (fun p hp => ?_)
          obtain ⟨t17, s18⟩ := p
          obtain ⟨p3, p4⟩ := hp
          dsimp only at p3 p4 ⊢
          rw [joined_E, t_sbe]
          refine t_bind (push_R p4 (by omega)) (fun s23 h23 => ?_)
          refine go s23 ?_
          dsimp only
          rw [show h - 1 - 1 = h - 2 by omega] at p3 h23
          rw [← p1, ← p3]
          rw [show h - 2 + 1 = h - 1 by omega] at h23
          exact h23
    · have hc := t_ge c
      rw [e3, ee] at hc
      obtain rfl : i = e := by omega
      rw [Nat.sub_self] at hr ⊢
      obtain rfl := Option.some.inj hr
      rw [if_neg c]
      exact t_some g
/-- a run of the class -/
theorem run_E {C : Nat → Int32} {b e : Nat} (hk0 : wkd k0 = 3) (hb : b ≤ e) (he : e ≤ 400) (hC : ∀ j, b ≤ j → j < e → s.1 (k0 + 1) j = C j ∧ okc (C j)) (hr : hrun (fun j => rc (C j)) (e - b) b 0 = some 1) : Tot (wX3_run k0 (Int32.ofNat b) (Int32.ofNat e) s) (fun p => p.1 = VAL (s.2 (k0 + 6)) C b e ∧ (∀ k c, ¬ (k = k0 ∧ c = 9) → p.2.1 k c = s.1 k c) ∧ (∀ k, k ≠ k0 + 7 → p.2.2 k = s.2 k)) := by
  unfold wX3_run
  refine t_bind (t_pfI (B := fun _ _ => true) rfl) (fun s1 h1 => ?_)
  have h1 := h1.2
  have g : EC k0 s (s.2 (k0 + 7)) 0 s1 := by
    refine ⟨fun k c hk => ?_, fun k _ => by rw [h1]; rfl, by rw [h1, wup_same]; rfl, by rw [h1]; rfl⟩
    by_cases q : k = k0
    · rw [q, h1, wup_nb (fun e => hk ⟨q, e⟩)]
    · rw [h1, wupI_n q]
  have wf : e - b < wFuel := by
    have e : wFuel = 1099511627776 := rfl
    omega
  refine t_bind (run_h (C := C) hk0 he wFuel rfl hb g (by decide) hC hr wf) (fun s34 h34 => ?_)
  refine t_bind (pop_R h34 (by decide) (by decide)) (fun p hp => ?_)
  obtain ⟨t41, s42⟩ := p
  obtain ⟨p1, p2⟩ := hp
  dsimp only at p1 p2 ⊢
  refine t_some ⟨?_, p2.1, p2.2.1⟩
  rw [p1]
  exact (er_low (w := s.2 (k0 + 6)) (C := C) (f := s.2 (k0 + 7)) (g := fun _ => 0) (fun j a1 a2 => (hC j a1 (by omega)).2) hr (fun j hj => absurd hj (by omega))).2 0 (by decide)
end RUNC
end
section
/-! The reference runs them too. -/
noncomputable def ER (s0 : wS) (f : Nat → Int64) (h : Nat) (s : wS) : Prop := (∀ k b, ¬ (k = 152 ∧ b = 22) → s.1 k b = s0.1 k b) ∧ (∀ k, k ≠ 161 → s.2 k = s0.2 k) ∧ s.1 152 22 = Int32.ofNat h ∧ s.2 161 = f
section RUNR
variable {s0 s : wS} {f : Nat → Int64} {h : Nat}
theorem rpush_R {x : Int64} (g : ER s0 f h s) (hh : h ≤ 60) : Tot (wX11_push x s) (ER s0 (vp_updL f h x) (h + 1)) := by
  obtain ⟨g1, g2, g3, g4⟩ := g
  have e : (Int32.ofNat h).toInt = h := t_on (by omega)
  unfold wX11_push
  rw [g3, wstL_E (by omega) (by omega), t_sbe, t_nc (by omega)]
  refine t_bind (t_pfI (B := fun _ _ => true) rfl) (fun s5 h5 => t_some ?_)
  have z : (wupL s 161 h x).1 = s.1 := rfl
  rw [z, g3, i_on1 (by omega)] at h5
  have h5 := h5.2
  refine ⟨fun k b hk => ?_, fun k hk => ?_, by rw [h5, wup_same], ?_⟩
  · by_cases q : k = 152
    · rw [q, h5, wup_nb (fun e => hk ⟨q, e⟩), z, ← q]
      exact g1 k b hk
    · rw [h5, wupI_n q, z]
      exact g1 k b hk
  · have : s5.2 = (wupL s 161 h x).2 := by rw [h5]; rfl
    rw [this, wupL_n hk]
    exact g2 k hk
  · have : s5.2 = (wupL s 161 h x).2 := by rw [h5]; rfl
    rw [this, wupL_k, g4]
theorem rpop_R (g : ER s0 f h s) (h1 : 1 ≤ h) (hh : h ≤ 61) : Tot (wX11_pop s) (fun p => p.1 = f (h - 1) ∧ ER s0 f (h - 1) p.2) := by
  obtain ⟨g1, g2, g3, g4⟩ := g
  have e : (Int32.ofNat h).toInt = h := t_on (by omega)
  have e' : (Int32.ofNat (h - 1)).toInt = (h - 1 : Nat) := t_on (by omega)
  unfold wX11_pop
  rw [g3, i_om1 h1 (by omega)]
  refine t_bind (t_pfI (B := fun _ _ => true) rfl) (fun s3 h3 => ?_)
  have h3 := h3.2
  have z9 : s3.1 152 22 = Int32.ofNat (h - 1) := by rw [h3, wup_same]
  have z2 : s3.2 = s.2 := by rw [h3]; rfl
  rw [z9, wldL_E (by omega) (by omega), t_sbe, t_nc (by omega), z2, g4]
  refine t_some ⟨rfl, fun k b hk => ?_, fun k hk => by rw [z2]; exact g2 k hk, z9, by rw [z2]; exact g4⟩
  by_cases q : k = 152
  · rw [q, h3, wup_nb (fun e => hk ⟨q, e⟩), ← q]
    exact g1 k b hk
  · rw [h3, wupI_n q]
    exact g1 k b hk
theorem reck_h {C : Nat → Int32} {l e m : Nat} {xl : Int32} (hxl : xl = Int32.ofNat l) (hl : l < 6) (he : e ≤ 400) : ∀ (n : Nat) {i h : Nat} {x4 : Int32} {s : wS} {f : Nat → Int64}, x4 = Int32.ofNat i → i ≤ e → ER s0 f h s → h ≤ 60 → (∀ j, i ≤ j → j < e → s0.1 154 (400 * l + j) = rc (C j) ∧ okc (C j)) → hrun (fun j => rc (C j)) (e - i) i h = some m → e - i < n → Tot (wX11_reckons_h8 xl (Int32.ofNat e) n x4 s) (fun r => ER s0 (er (s0.2 162) C (e - i) i (f, h)).1 m r) := by
  intro n
  induction n with
  | zero => intro i h x4 s f _ _ _ _ _ _ hm; exact absurd hm (by omega)
  | succ n ih =>
    intro i h x4 s f h3 hi g hh hC hr hm
    have e3 : x4.toInt = i := by rw [h3, t_on (by omega)]
    have el : xl.toInt = l := by rw [hxl, t_on (by omega)]
    have eln : xl.toNatClampNeg = l := by unfold Int32.toNatClampNeg; omega
    have ee : (Int32.ofNat e).toInt = e := t_on (by omega)
    have en : x4.toNatClampNeg = i := by unfold Int32.toNatClampNeg; omega
    have e1 : x4 + 1 = Int32.ofNat (i + 1) := by rw [h3, i_on1 (by omega)]
    rw [wX11_reckons_h8]
    by_cases c : x4 < Int32.ofNat e
    · have hc := t_lt c
      rw [e3, ee] at hc
      have hie : i < e := by omega
      obtain ⟨d1, ok⟩ := hC i (Nat.le_refl _) hie
      have em : e - i = (e - (i + 1)) + 1 := by omega
      rw [em] at hr ⊢
      unfold hrun at hr
      have ad : ((400 * xl) + x4).toInt = 400 * l + i := by rw [t_sg (by omega) (by omega) (by omega) (by omega), el, e3]
      have adn : ((400 * xl) + x4).toNatClampNeg = 400 * l + i := by unfold Int32.toNatClampNeg; omega
      have cd : s.1 154 (400 * l + i) = rc (C i) := by rw [g.1 154 _ (by omega)]; exact d1
      rw [if_pos c, wld_E (by omega) (by omega), t_sbe, t_sbe, adn, cd]
      split at hr
      · cases hr
      · next h1 hs =>
        show Tot _ (fun r => ER s0 (er (s0.2 162) C (e - (i + 1)) (i + 1) (es (s0.2 162) (C i) (f, h))).1 m r)
        have go : ∀ (s' : wS), ER s0 (es (s0.2 162) (C i) (f, h)).1 (es (s0.2 162) (C i) (f, h)).2 s' → Tot (wX11_reckons_h8 xl (Int32.ofNat e) n (x4 + 1) s') (fun r => ER s0 (er (s0.2 162) C (e - (i + 1)) (i + 1) (es (s0.2 162) (C i) (f, h))).1 m r) := by
          intro s' g'
          have hh1 := es_h (w := s0.2 162) (f := f) ok hs
          rw [hh1] at g'
          have b1 : es (s0.2 162) (C i) (f, h) = ((es (s0.2 162) (C i) (f, h)).1, h1) := by rw [← hh1]
          rw [b1]
          refine ih e1 (by omega) g' ?_ (fun j a1 a2 => hC j (by omega) a2) hr (by omega)
          rw [hstep_rc ok] at hs
          by_cases q1 : 23 ≤ C i
          · rw [if_pos q1] at hs
            by_cases q2 : h < 60
            · rw [if_pos q2] at hs; have := Option.some.inj hs; omega
            · rw [if_neg q2] at hs; cases hs
          · rw [if_neg q1] at hs
            by_cases q2 : C i = 22
            · rw [if_pos q2] at hs
              by_cases q3 : 1 ≤ h
              · rw [if_pos q3] at hs; have := Option.some.inj hs; omega
              · rw [if_neg q3] at hs; cases hs
            · rw [if_neg q2] at hs
              by_cases q3 : 2 ≤ h
              · rw [if_pos q3] at hs; have := Option.some.inj hs; omega
              · rw [if_neg q3] at hs; cases hs
        rw [hstep_rc ok] at hs
        unfold wX11_reckons_j129
        rcases okc_cases ok with ⟨k, k1⟩ | ⟨k, d, dd⟩ | ⟨k, d, k2⟩ | ⟨k, d, k2, kk⟩
        · have ees : es (s0.2 162) (C i) (f, h) = (vp_updL f h (C i - 100).toInt64, h + 1) := by unfold es; rw [if_pos k]
          rw [ees] at go ⊢
          obtain ⟨r1, r2⟩ := rc_n k k1
          rw [if_pos r1, r2]
          exact t_bind (rpush_R g hh) (fun s31 h31 => go s31 h31)
        · obtain ⟨r1, r2, r3, r4, r5⟩ := rc_w dd
          have ees : es (s0.2 162) (C i) (f, h) = (vp_updL f h (s0.2 162 (C i - 23).toNatClampNeg), h + 1) := by unfold es; rw [if_neg k, if_pos d]
          rw [ees] at go ⊢
          rw [r1, if_neg (show ¬ (1 : Int32) = 0 by decide), if_pos (rfl : (1 : Int32) = 1), r2, wldL_E r4 (by omega), t_sbe, g.2.1 162 (by decide)]
          exact t_bind (rpush_R g hh) (fun s28 h28 => go s28 h28)
        · have ees : es (s0.2 162) (C i) (f, h) = (vp_updL f (h - 1) (1 - f (h - 1)), h) := by unfold es; rw [if_neg k, if_neg d, if_pos k2]
          rw [ees] at go ⊢
          rw [if_neg d, if_pos k2] at hs
          have h1' : 1 ≤ h := by
            by_cases q : 1 ≤ h
            · exact q
            · rw [if_neg q] at hs; cases hs
          rw [k2, if_neg (show ¬ rc 22 &&& 15 = 0 by decide), if_neg (show ¬ rc 22 &&& 15 = 1 by decide), if_pos (show rc 22 &&& 15 = 11 by decide)]
          refine t_bind (rpop_R g h1' (by omega)) (fun p hp => ?_)
          obtain ⟨t8, s9⟩ := p
          obtain ⟨p1, p2⟩ := hp
          dsimp only at p1 p2 ⊢
          refine t_bind (rpush_R p2 (by omega)) (fun s12 h12 => ?_)
          refine go s12 ?_
          dsimp only
          rw [← p1]
          rw [show h - 1 + 1 = h by omega] at h12
          exact h12
        · have ees : es (s0.2 162) (C i) (f, h) = (vp_updL f (h - 2) (jn (C i) (f (h - 2)) (f (h - 1))), h - 1) := by unfold es; rw [if_neg k, if_neg d, if_neg k2]
          rw [ees] at go ⊢
          rw [if_neg d, if_neg k2] at hs
          have h2' : 2 ≤ h := by
            by_cases q : 2 ≤ h
            · exact q
            · rw [if_neg q] at hs; cases hs
          obtain ⟨r1, r2, r3, r4⟩ := rc_o kk
          rw [if_neg r1, if_neg r2, if_neg r3, r4]
          refine t_bind (rpop_R g (by omega) (by omega)) (fun p hp => ?_)
          obtain ⟨t14, s15⟩ := p
          obtain ⟨p1, p2⟩ := hp
          dsimp only at p1 p2 ⊢
          refine t_bind (rpop_R p2 (by omega) (by omega)) (fun p hp => ?_)
          obtain ⟨t17, s18⟩ := p
          obtain ⟨p3, p4⟩ := hp
          dsimp only at p3 p4 ⊢
          rw [one_E kk, t_sbe]
          refine t_bind (rpush_R p4 (by omega)) (fun s23 h23 => ?_)
          refine go s23 ?_
          dsimp only
          rw [show h - 1 - 1 = h - 2 by omega] at p3 h23
          rw [← p1, ← p3]
          rw [show h - 2 + 1 = h - 1 by omega] at h23
          exact h23
    · have hc := t_ge c
      rw [e3, ee] at hc
      obtain rfl : i = e := by omega
      rw [Nat.sub_self] at hr ⊢
      obtain rfl := Option.some.inj hr
      rw [if_neg c]
      exact t_some g
/-- a run of the reference -/
theorem reck_E {C : Nat → Int32} {l b e : Nat} {xl : Int32} (hxl : xl = Int32.ofNat l) (hl : l < 6) (hb : b ≤ e) (he : e ≤ 400) (hC : ∀ j, b ≤ j → j < e → s.1 154 (400 * l + j) = rc (C j) ∧ okc (C j)) (hr : hrun (fun j => rc (C j)) (e - b) b 0 = some 1) : Tot (wX11_reckons xl (Int32.ofNat b) (Int32.ofNat e) s) (fun p => p.1 = VAL (s.2 162) C b e ∧ (∀ k c, ¬ (k = 152 ∧ c = 22) → p.2.1 k c = s.1 k c) ∧ (∀ k, k ≠ 161 → p.2.2 k = s.2 k)) := by
  unfold wX11_reckons
  refine t_bind (t_pfI (B := fun _ _ => true) rfl) (fun s1 h1 => ?_)
  have h1 := h1.2
  have g : ER s (s.2 161) 0 s1 := by
    refine ⟨fun k c hk => ?_, fun k _ => by rw [h1]; rfl, by rw [h1, wup_same]; rfl, by rw [h1]; rfl⟩
    by_cases q : k = 152
    · rw [q, h1, wup_nb (fun e => hk ⟨q, e⟩)]
    · rw [h1, wupI_n q]
  have wf : e - b < wFuel := by
    have e : wFuel = 1099511627776 := rfl
    omega
  refine t_bind (reck_h (C := C) hxl hl he wFuel rfl hb g (by decide) hC hr wf) (fun s34 h34 => ?_)
  refine t_bind (rpop_R h34 (by decide) (by decide)) (fun p hp => ?_)
  obtain ⟨t41, s42⟩ := p
  obtain ⟨p1, p2⟩ := hp
  dsimp only at p1 p2 ⊢
  refine t_some ⟨?_, p2.1, p2.2.1⟩
  rw [p1]
  exact (er_low (w := s.2 162) (C := C) (f := s.2 161) (g := fun _ => 0) (fun j a1 a2 => (hC j a1 (by omega)).2) hr (fun j hj => absurd hj (by omega))).2 0 (by decide)
end RUNR
end
section
/-! The words of a LAW: the same on both sides. -/
/-- how far apart -/
noncomputable def ap (x y : Int32) : Int32 := if x < y then y - x else x - y
theorem ap_abs {x y : Int32} (hx : 0 ≤ x.toInt ∧ x.toInt ≤ 99) (hy : 0 ≤ y.toInt ∧ y.toInt ≤ 99) : wabs (x - y) = ap x y := by
  have e : (x - y).toInt = x.toInt - y.toInt := t_sub (by omega) (by omega)
  have e2 : (y - x).toInt = y.toInt - x.toInt := t_sub (by omega) (by omega)
  unfold wabs ap
  by_cases c : x < y
  · have := t_lt c
    rw [if_pos c, if_neg (fun q => by have := Int32.le_iff_toInt_le.1 q; rw [t_i0] at this; omega)]
    exact Int32.toInt_inj.1 (by rw [t_sub (by rw [t_i0]; omega) (by rw [t_i0]; omega), t_i0]; omega)
  · have := t_ge c
    rw [if_neg c, if_pos (Int32.le_iff_toInt_le.2 (by rw [t_i0]; omega))]
noncomputable def WD (f : Nat → Int32) (kd : Int32) (a b : Nat) (j : Nat) : Int64 :=
  if j = 0 then (Int32.ofNat a).toInt64 else if j = 1 then (Int32.ofNat b).toInt64 else if j = 2 then (ap (Int32.ofNat a) (Int32.ofNat b)).toInt64
  else if j = 3 then (if kd = 1 then (ap (f (10 + 2 * a)) (f (10 + 2 * b))).toInt64 else 0)
  else if j = 4 then (if kd = 1 then (ap (f (10 + 2 * a + 1)) (f (10 + 2 * b + 1))).toInt64 else 0)
  else if j = 5 then (if kd = 2 then (f (26 + 2 * a)).toInt64 else 0)
  else if j = 6 then (if kd = 2 then (ap (f (26 + 2 * a)) (f (26 + 2 * b))).toInt64 else 0)
  else (if kd = 2 then (if f (26 + 2 * a + 1) = f (26 + 2 * b + 1) then 1 else 0) else 0)
noncomputable abbrev W8 (s : wS) (k : Nat) (v0 v1 v2 v3 v4 v5 v6 v7 : Int64) : wS := wupL (wupL (wupL (wupL (wupL (wupL (wupL (wupL s k 0 v0) k 1 v1) k 2 v2) k 3 v3) k 4 v4) k 5 v5) k 6 v6) k 7 v7
theorem W8_at {s : wS} {k : Nat} {v0 v1 v2 v3 v4 v5 v6 v7 : Int64} {j : Nat} (h : j < 8) : (W8 s k v0 v1 v2 v3 v4 v5 v6 v7).2 k j = if j = 0 then v0 else if j = 1 then v1 else if j = 2 then v2 else if j = 3 then v3 else if j = 4 then v4 else if j = 5 then v5 else if j = 6 then v6 else v7 := by
  rw [wupL_k, wupL_k, wupL_k, wupL_k, wupL_k, wupL_k, wupL_k, wupL_k]
  match j, h with
  | 0, _ => rfl
  | 1, _ => rfl
  | 2, _ => rfl
  | 3, _ => rfl
  | 4, _ => rfl
  | 5, _ => rfl
  | 6, _ => rfl
  | 7, _ => rfl
theorem W8_n {s : wS} {k i : Nat} {v0 v1 v2 v3 v4 v5 v6 v7 : Int64} (h : i ≠ k) : (W8 s k v0 v1 v2 v3 v4 v5 v6 v7).2 i = s.2 i := by
  rw [wupL_n h, wupL_n h, wupL_n h, wupL_n h, wupL_n h, wupL_n h, wupL_n h, wupL_n h]
section WORDS
variable {s : wS} {k0 : Nat}
theorem setWord_E {c x : Int32} {j : Nat} (h : (c - 23).toInt = j) (hj : j < 8) : wX3_setWord k0 c x s = some (wupL s (k0 + 6) j x.toInt64) := by
  unfold wX3_setWord
  have n : (c - 23).toNatClampNeg = j := by unfold Int32.toNatClampNeg; omega
  rw [if_neg (fun q => by have := t_lt q; rw [t_i0] at this; omega), if_pos (Int32.lt_iff_toInt_lt.2 (by rw [show (8 : Int32).toInt = 8 from rfl]; omega)), wstL_E (by omega) (by omega), n]
  rfl
theorem firstOf_s {k : Nat} {x y : Int32} {s' : wS} (h : s'.1 = s.1) : wX0_firstOf k x y s' = wX0_firstOf k x y s := by
  unfold wX0_firstOf wX10_at wX10_slot wldI
  rw [h]
theorem slot_0 {x : Int32} (h0 : 0 ≤ x.toInt) (h1 : x.toInt < 8) : ((0 : Int32) * 8 + x).toInt = x.toInt := by
  rw [show (0 : Int32) * 8 = 0 from rfl, Int32.zero_add]
theorem first_0 {x : Int32} (h0 : 0 ≤ x.toInt) (h1 : x.toInt < 8) : wX0_firstOf 15 0 x s = some (s.1 17 x.toNatClampNeg) ∧ wX0_secondOf 15 0 x s = some (s.1 18 x.toNatClampNeg) := by
  have e := slot_0 h0 h1
  have en : ((0 : Int32) * 8 + x).toNatClampNeg = x.toNatClampNeg := by unfold Int32.toNatClampNeg; omega
  unfold wX0_firstOf wX0_secondOf wX10_slot
  rw [t_sbe, t_sbe, at_E (n := 24) rfl (by omega) (by omega) (by omega), at_E (n := 24) rfl (by omega) (by omega) (by omega), en]
  exact ⟨rfl, rfl⟩
/-- numbers of things -/
theorem th_ix (g : JA s) {kd x : Int32} (h : TH (s.1 163) kd x) : x.toNatClampNeg < 8 ∧ x = Int32.ofNat x.toNatClampNeg ∧ x.toInt = x.toNatClampNeg ∧ x.toInt < 8 := by
  obtain ⟨k, y0, y1⟩ := h
  obtain ⟨c0, c1, c2, -⟩ := g.c
  have : (s.1 163 kd.toNatClampNeg).toInt ≤ 8 := by
    rcases (kind_3 k).2 with r | r | r <;> rw [r]
    · exact c0.2
    · exact c1.2
    · exact c2.2
  have e := t_cln y0
  exact ⟨by omega, (t_oc y0).symm, e.symm, by omega⟩
theorem num_99 (g : JA s) {x : Int32} (h : TH (s.1 163) 1 x) : (0 ≤ (s.1 163 (10 + 2 * x.toNatClampNeg)).toInt ∧ (s.1 163 (10 + 2 * x.toNatClampNeg)).toInt ≤ 99) ∧ (0 ≤ (s.1 163 (10 + 2 * x.toNatClampNeg + 1)).toInt ∧ (s.1 163 (10 + 2 * x.toNatClampNeg + 1)).toInt ≤ 99) := by
  obtain ⟨-, y0, y1⟩ := h
  have y1 : x.toInt < (s.1 163 1).toInt := y1
  have e := t_cln y0
  have q := g.h.2.2.2.2.2.2.2.1
  exact ⟨q (2 * x.toNatClampNeg) (by omega), q (2 * x.toNatClampNeg + 1) (by omega)⟩
theorem num_99' (g : JA s) {x : Int32} (h : TH (s.1 163) 2 x) : (0 ≤ (s.1 163 (26 + 2 * x.toNatClampNeg)).toInt ∧ (s.1 163 (26 + 2 * x.toNatClampNeg)).toInt ≤ 99) ∧ (0 ≤ (s.1 163 (26 + 2 * x.toNatClampNeg + 1)).toInt ∧ (s.1 163 (26 + 2 * x.toNatClampNeg + 1)).toInt ≤ 99) := by
  obtain ⟨-, y0, y1⟩ := h
  have y1 : x.toInt < (s.1 163 2).toInt := y1
  have e := t_cln y0
  have q := g.h.2.2.2.2.2.2.2.2
  exact ⟨q (2 * x.toNatClampNeg) (by omega), q (2 * x.toNatClampNeg + 1) (by omega)⟩
theorem sw1_E {x2 x3 x4 x5 x6 : Int32} (hkd : ¬ x2 = 2) : wX3_setWords_j48 k0 15 x2 x3 x4 x5 x6 1 s = some (W8 s (k0 + 6) x3.toInt64 x4.toInt64 (wabs (x3 - x4)).toInt64 x5.toInt64 x6.toInt64 0 0 0) := by
  unfold wX3_setWords_j48 wX3_setWords_j60 wX3_setWords_j104 wX3_setWords_j121 wX3_setWords_j142 wX3_setWords_j159 wX3_setWords_j179 wX3_setWords_j180
  rw [if_neg hkd, setWord_E (j := 0) rfl (by decide), t_sbe, setWord_E (j := 1) rfl (by decide), t_sbe, setWord_E (j := 2) rfl (by decide), t_sbe, qi1, setWord_E (j := 3) rfl (by decide), t_sbe, qi1, setWord_E (j := 4) rfl (by decide), t_sbe, qi0, setWord_E (j := 5) rfl (by decide), t_sbe, qi0, setWord_E (j := 6) rfl (by decide), t_sbe, qi0, setWord_E (j := 7) rfl (by decide), t_sbe]
  rfl
theorem sw0_E {x2 x3 x4 x5 x6 : Int32} (hkd : ¬ x2 = 2) : wX3_setWords_j48 k0 15 x2 x3 x4 x5 x6 0 s = some (W8 s (k0 + 6) x3.toInt64 x4.toInt64 (wabs (x3 - x4)).toInt64 0 0 0 0 0) := by
  unfold wX3_setWords_j48 wX3_setWords_j60 wX3_setWords_j104 wX3_setWords_j121 wX3_setWords_j142 wX3_setWords_j159 wX3_setWords_j179 wX3_setWords_j180
  rw [if_neg hkd, setWord_E (j := 0) rfl (by decide), t_sbe, setWord_E (j := 1) rfl (by decide), t_sbe, setWord_E (j := 2) rfl (by decide), t_sbe, qi0, setWord_E (j := 3) rfl (by decide), t_sbe, qi0, setWord_E (j := 4) rfl (by decide), t_sbe, qi0, setWord_E (j := 5) rfl (by decide), t_sbe, qi0, setWord_E (j := 6) rfl (by decide), t_sbe, qi0, setWord_E (j := 7) rfl (by decide), t_sbe]
  rfl
theorem sw2_E {x3 x4 x5 x6 p : Int32} (hp : wX0_firstOf 15 2 x3 s = some p) : wX3_setWords_j48 k0 15 2 x3 x4 x5 x6 0 s = some (W8 s (k0 + 6) x3.toInt64 x4.toInt64 (wabs (x3 - x4)).toInt64 0 0 p.toInt64 x5.toInt64 (if x6 = 0 then 1 else 0)) := by
  unfold wX3_setWords_j48 wX3_setWords_j60 wX3_setWords_j104 wX3_setWords_j121 wX3_setWords_j142 wX3_setWords_j159 wX3_setWords_j179 wX3_setWords_j180
  rw [if_pos rfl, setWord_E (j := 0) rfl (by decide), t_sbe, setWord_E (j := 1) rfl (by decide), t_sbe, setWord_E (j := 2) rfl (by decide), t_sbe, qi0, setWord_E (j := 3) rfl (by decide), t_sbe, qi0, setWord_E (j := 4) rfl (by decide), t_sbe, qi1, firstOf_s (s := s) (s' := wupL (wupL (wupL (wupL (wupL s (k0 + 6) 0 x3.toInt64) (k0 + 6) 1 x4.toInt64) (k0 + 6) 2 (wabs (x3 - x4)).toInt64) (k0 + 6) 3 (Int32.toInt64 0)) (k0 + 6) 4 (Int32.toInt64 0)) rfl, hp, t_sbe, setWord_E (j := 5) rfl (by decide), t_sbe, qi1, setWord_E (j := 6) rfl (by decide), t_sbe, qi1]
  by_cases c : x6 = 0
  · rw [if_pos c, if_pos c, setWord_E (j := 7) rfl (by decide), t_sbe]; rfl
  · rw [if_neg c, if_neg c, setWord_E (j := 7) rfl (by decide), t_sbe]; rfl
theorem abs_0 {x y : Int32} (hx : 0 ≤ x.toInt ∧ x.toInt ≤ 99) (hy : 0 ≤ y.toInt ∧ y.toInt ≤ 99) : wabs (x - y) = 0 ↔ x = y := by
  rw [ap_abs hx hy]
  unfold ap
  have e : (x - y).toInt = x.toInt - y.toInt := t_sub (by omega) (by omega)
  have e2 : (y - x).toInt = y.toInt - x.toInt := t_sub (by omega) (by omega)
  by_cases c : x < y
  · have := t_lt c
    rw [if_pos c]
    constructor
    · intro q
      have := congrArg Int32.toInt q
      rw [e2, t_i0] at this
      omega
    · intro q
      rw [q] at this
      omega
  · rw [if_neg c]
    constructor
    · intro q
      have := congrArg Int32.toInt q
      rw [e, t_i0] at this
      exact Int32.toInt_inj.1 (by omega)
    · intro q
      rw [q]
      exact Int32.toInt_inj.1 (by rw [t_sub (by omega) (by omega), t_i0]; omega)
theorem wn01 {α : Type} {a b : α} : (if (0 : Int32) = 1 then a else b) = b := if_neg (by decide)
theorem wn02 {α : Type} {a b : α} : (if (0 : Int32) = 2 then a else b) = b := if_neg (by decide)
theorem wn11 {α : Type} {a b : α} : (if (1 : Int32) = 1 then a else b) = a := if_pos rfl
theorem wn12 {α : Type} {a b : α} : (if (1 : Int32) = 2 then a else b) = b := if_neg (by decide)
theorem wn21 {α : Type} {a b : α} : (if (2 : Int32) = 1 then a else b) = b := if_neg (by decide)
theorem wn22 {α : Type} {a b : α} : (if (2 : Int32) = 2 then a else b) = a := if_pos rfl
/-- the class's words -/
theorem setWords_E (g : JA s) {kd x y : Int32} (hx : TH (s.1 163) kd x) (hy : TH (s.1 163) kd y) : Tot (wX3_setWords k0 15 kd x y s) (fun r => r.1 = s.1 ∧ (∀ k, k ≠ k0 + 6 → r.2 k = s.2 k) ∧ ∀ j, j < 8 → r.2 (k0 + 6) j = WD (s.1 163) kd x.toNatClampNeg y.toNatClampNeg j) := by
  obtain ⟨x8, xo, xi, xl⟩ := th_ix g hx
  obtain ⟨y8, yo, yi, yl⟩ := th_ix g hy
  have a3 : ap x y = ap (Int32.ofNat x.toNatClampNeg) (Int32.ofNat y.toNatClampNeg) := by rw [← xo, ← yo]
  have ab : wabs (x - y) = ap x y := ap_abs ⟨hx.2.1, by omega⟩ ⟨hy.2.1, by omega⟩
  unfold wX3_setWords
  rcases (kind_3 hx.1).2 with rfl | rfl | rfl
  · obtain ⟨p1, p2⟩ := first_0 (s := s) hx.2.1 xl
    obtain ⟨q1, q2⟩ := first_0 (s := s) hy.2.1 yl
    rw [p1, t_sbe, q1, t_sbe, p2, t_sbe, q2, t_sbe, if_neg (by decide), sw0_E (by decide)]
    refine t_some ⟨rfl, fun k hk => W8_n hk, fun j hj => ?_⟩
    rw [W8_at hj]
    unfold WD
    rw [← xo, ← yo, ab, wn01, wn01, wn02, wn02, wn02]
  · obtain ⟨p1, p2⟩ := first_E g hx (Or.inl rfl)
    obtain ⟨q1, q2⟩ := first_E g hy (Or.inl rfl)
    rw [if_pos rfl] at p1 p2 q1 q2
    obtain ⟨n1, n2⟩ := num_99 g hx
    obtain ⟨m1, m2⟩ := num_99 g hy
    rw [p1, t_sbe, q1, t_sbe, p2, t_sbe, q2, t_sbe, if_pos rfl, sw1_E (by decide)]
    refine t_some ⟨rfl, fun k hk => W8_n hk, fun j hj => ?_⟩
    rw [W8_at hj]
    unfold WD
    rw [← xo, ← yo, ab, ap_abs n1 m1, ap_abs n2 m2, wn11, wn11, wn12, wn12, wn12]
  · obtain ⟨p1, p2⟩ := first_E g hx (Or.inr rfl)
    obtain ⟨q1, q2⟩ := first_E g hy (Or.inr rfl)
    rw [if_neg (by decide)] at p1 p2 q1 q2
    obtain ⟨n1, n2⟩ := num_99' g hx
    obtain ⟨m1, m2⟩ := num_99' g hy
    rw [p1, t_sbe, q1, t_sbe, p2, t_sbe, q2, t_sbe, if_neg (by decide), sw2_E p1]
    refine t_some ⟨rfl, fun k hk => W8_n hk, fun j hj => ?_⟩
    rw [W8_at hj]
    unfold WD
    rw [← xo, ← yo, ab, ap_abs n1 m1, wn21, wn21, wn22, wn22, wn22]
    by_cases c : wabs (s.1 163 (26 + 2 * x.toNatClampNeg + 1) - s.1 163 (26 + 2 * y.toNatClampNeg + 1)) = 0
    · rw [if_pos c, if_pos ((abs_0 n2 m2).1 c)]
    · rw [if_neg c, if_neg (fun q => c ((abs_0 n2 m2).2 q))]
end WORDS
end
section
/-! The reference's words. -/
section RWORDS
variable {s : wS}
theorem apart_E {x y : Int32} : wX11_apart x y s = some (ap x y) := by
  unfold wX11_apart ap
  rw [ite_some]
theorem words_0 {x1 x2 x3 : Int32} : ∀ (n : Nat) {i : Nat} {x4 : Int32} {s : wS}, x4 = Int32.ofNat i → i ≤ 8 → 8 - i < n → Tot (wX11_words_h3 x1 x2 x3 n x4 s) (fun r => r.1 = s.1 ∧ (∀ k, k ≠ 162 → r.2 k = s.2 k) ∧ ∀ j, j < 8 → r.2 162 j = if i ≤ j then 0 else s.2 162 j) := by
  intro n
  induction n with
  | zero => intro i x4 s _ _ hm; exact absurd hm (by omega)
  | succ n ih =>
    intro i x4 s h4 hi hm
    have e4 : x4.toInt = i := by rw [h4, t_on (by omega)]
    have en : x4.toNatClampNeg = i := by unfold Int32.toNatClampNeg; omega
    rw [wX11_words_h3]
    by_cases c : x4 < 8
    · have hc := t_lt c
      rw [e4, show (8 : Int32).toInt = 8 from rfl] at hc
      rw [if_pos c, wstL_E (by omega) (by omega), t_sbe, en]
      refine t_mono (ih (i := i + 1) (by rw [h4, i_on1 (by omega)]) (by omega) (by omega)) (fun r hr => ⟨hr.1, fun k hk => by rw [hr.2.1 k hk, wupL_n hk], fun j hj => ?_⟩)
      rw [hr.2.2 j hj, wupL_k]
      by_cases q : j = i
      · rw [q, if_neg (by omega), if_pos (Nat.le_refl _), vpL_s]
      · rw [vpL_n q]
        by_cases p : i ≤ j
        · rw [if_pos (by omega), if_pos p]
        · rw [if_neg (by omega), if_neg p]
    · have hc := t_ge c
      rw [e4, show (8 : Int32).toInt = 8 from rfl] at hc
      rw [if_neg c]
      exact t_some ⟨rfl, fun k _ => rfl, fun j hj => by rw [if_neg (by omega)]⟩
theorem ix_E {c x : Int32} {m : Nat} (hc : c.toInt = m) (hm : m ≤ 30) (h0 : 0 ≤ x.toInt) (h1 : x.toInt < 8) : ((c + 2 * x).toInt = m + 2 * x.toInt ∧ (c + 2 * x).toNatClampNeg = m + 2 * x.toNatClampNeg) ∧ ((c + 2 * x + 1).toInt = m + 2 * x.toInt + 1 ∧ (c + 2 * x + 1).toNatClampNeg = m + 2 * x.toNatClampNeg + 1) := by
  have q1 := t_2p (x := x) h0 (by omega)
  have q2 : (c + 2 * x).toInt = m + 2 * x.toInt := by rw [t_add (by omega) (by omega), q1, hc]
  have q3 : (c + 2 * x + 1).toInt = m + 2 * x.toInt + 1 := by rw [t_add (by rw [show (1 : Int32).toInt = 1 from rfl]; omega) (by rw [show (1 : Int32).toInt = 1 from rfl]; omega), q2]; rfl
  refine ⟨⟨q2, ?_⟩, q3, ?_⟩ <;> unfold Int32.toNatClampNeg <;> omega
theorem ite_wupL {c : Prop} [Decidable c] {k j : Nat} {a b : Int64} : (if c then wupL s k j a else wupL s k j b) = wupL s k j (if c then a else b) := by
  by_cases h : c
  · rw [if_pos h, if_pos h]
  · rw [if_neg h, if_neg h]
theorem WD_v {f : Nat → Int32} {kd : Int32} {a b : Nat} : WD f kd a b 0 = (Int32.ofNat a).toInt64 ∧ WD f kd a b 1 = (Int32.ofNat b).toInt64 ∧ WD f kd a b 2 = (ap (Int32.ofNat a) (Int32.ofNat b)).toInt64 ∧ WD f kd a b 3 = (if kd = 1 then (ap (f (10 + 2 * a)) (f (10 + 2 * b))).toInt64 else 0) ∧ WD f kd a b 4 = (if kd = 1 then (ap (f (10 + 2 * a + 1)) (f (10 + 2 * b + 1))).toInt64 else 0) ∧ WD f kd a b 5 = (if kd = 2 then (f (26 + 2 * a)).toInt64 else 0) ∧ WD f kd a b 6 = (if kd = 2 then (ap (f (26 + 2 * a)) (f (26 + 2 * b))).toInt64 else 0) ∧ WD f kd a b 7 = (if kd = 2 then (if f (26 + 2 * a + 1) = f (26 + 2 * b + 1) then 1 else 0) else 0) := by
  unfold WD
  refine ⟨if_pos rfl, ?_, ?_, ?_, ?_, ?_, ?_, ?_⟩
  · exact (if_neg (show ¬ (1 : Nat) = 0 by decide)).trans ((if_pos rfl))
  · exact (if_neg (show ¬ (2 : Nat) = 0 by decide)).trans ((if_neg (show ¬ (2 : Nat) = 1 by decide)).trans ((if_pos rfl)))
  · exact (if_neg (show ¬ (3 : Nat) = 0 by decide)).trans ((if_neg (show ¬ (3 : Nat) = 1 by decide)).trans ((if_neg (show ¬ (3 : Nat) = 2 by decide)).trans ((if_pos rfl))))
  · exact (if_neg (show ¬ (4 : Nat) = 0 by decide)).trans ((if_neg (show ¬ (4 : Nat) = 1 by decide)).trans ((if_neg (show ¬ (4 : Nat) = 2 by decide)).trans ((if_neg (show ¬ (4 : Nat) = 3 by decide)).trans ((if_pos rfl)))))
  · exact (if_neg (show ¬ (5 : Nat) = 0 by decide)).trans ((if_neg (show ¬ (5 : Nat) = 1 by decide)).trans ((if_neg (show ¬ (5 : Nat) = 2 by decide)).trans ((if_neg (show ¬ (5 : Nat) = 3 by decide)).trans ((if_neg (show ¬ (5 : Nat) = 4 by decide)).trans ((if_pos rfl))))))
  · exact (if_neg (show ¬ (6 : Nat) = 0 by decide)).trans ((if_neg (show ¬ (6 : Nat) = 1 by decide)).trans ((if_neg (show ¬ (6 : Nat) = 2 by decide)).trans ((if_neg (show ¬ (6 : Nat) = 3 by decide)).trans ((if_neg (show ¬ (6 : Nat) = 4 by decide)).trans ((if_neg (show ¬ (6 : Nat) = 5 by decide)).trans ((if_pos rfl)))))))
  · exact (if_neg (show ¬ (7 : Nat) = 0 by decide)).trans ((if_neg (show ¬ (7 : Nat) = 1 by decide)).trans ((if_neg (show ¬ (7 : Nat) = 2 by decide)).trans ((if_neg (show ¬ (7 : Nat) = 3 by decide)).trans ((if_neg (show ¬ (7 : Nat) = 4 by decide)).trans ((if_neg (show ¬ (7 : Nat) = 5 by decide)).trans ((if_neg (show ¬ (7 : Nat) = 6 by decide))))))))
/-- three words -/
noncomputable abbrev W3 (s : wS) (i j k : Nat) (v0 v1 v2 : Int64) : wS := wupL (wupL (wupL s 162 i v0) 162 j v1) 162 k v2
theorem words_E (g : JA s) {kd x y : Int32} (hx : TH (s.1 163) kd x) (hy : TH (s.1 163) kd y) : Tot (wX11_words kd x y s) (fun r => r.1 = s.1 ∧ (∀ k, k ≠ 162 → r.2 k = s.2 k) ∧ ∀ j, j < 8 → r.2 162 j = WD (s.1 163) kd x.toNatClampNeg y.toNatClampNeg j) := by
  obtain ⟨x8, xo, xi, xl⟩ := th_ix g hx
  obtain ⟨y8, yo, yi, yl⟩ := th_ix g hy
  have a3 : ap x y = ap (Int32.ofNat x.toNatClampNeg) (Int32.ofNat y.toNatClampNeg) := by rw [← xo, ← yo]
  unfold wX11_words
  refine t_bind (words_0 wFuel (i := 0) rfl (by decide) (by
    have e : wFuel = 1099511627776 := rfl
    omega)) (fun s4 h4 => ?_)
  obtain ⟨z1, z2, z3⟩ := h4
  rw [wstL_E (by decide) (by decide), t_sbe, wstL_E (by decide) (by decide), t_sbe, apart_E, t_sbe, wstL_E (by decide) (by decide), t_sbe]
  have u : (wupL (wupL (wupL s4 162 (Int32.toNatClampNeg 0) x.toInt64) 162 (Int32.toNatClampNeg 1) y.toInt64) 162 (Int32.toNatClampNeg 2) (ap x y).toInt64).1 = s.1 := z1
  have w2 : ∀ k, k ≠ 162 → (wupL (wupL (wupL s4 162 (Int32.toNatClampNeg 0) x.toInt64) 162 (Int32.toNatClampNeg 1) y.toInt64) 162 (Int32.toNatClampNeg 2) (ap x y).toInt64).2 k = s.2 k := fun k hk => by rw [wupL_n hk, wupL_n hk, wupL_n hk, z2 k hk]
  have w3 : (wupL (wupL (wupL s4 162 (Int32.toNatClampNeg 0) x.toInt64) 162 (Int32.toNatClampNeg 1) y.toInt64) 162 (Int32.toNatClampNeg 2) (ap x y).toInt64).2 162 0 = x.toInt64 ∧ (wupL (wupL (wupL s4 162 (Int32.toNatClampNeg 0) x.toInt64) 162 (Int32.toNatClampNeg 1) y.toInt64) 162 (Int32.toNatClampNeg 2) (ap x y).toInt64).2 162 1 = y.toInt64 ∧ (wupL (wupL (wupL s4 162 (Int32.toNatClampNeg 0) x.toInt64) 162 (Int32.toNatClampNeg 1) y.toInt64) 162 (Int32.toNatClampNeg 2) (ap x y).toInt64).2 162 2 = (ap x y).toInt64 ∧ (wupL (wupL (wupL s4 162 (Int32.toNatClampNeg 0) x.toInt64) 162 (Int32.toNatClampNeg 1) y.toInt64) 162 (Int32.toNatClampNeg 2) (ap x y).toInt64).2 162 3 = 0 ∧ (wupL (wupL (wupL s4 162 (Int32.toNatClampNeg 0) x.toInt64) 162 (Int32.toNatClampNeg 1) y.toInt64) 162 (Int32.toNatClampNeg 2) (ap x y).toInt64).2 162 4 = 0 ∧ (wupL (wupL (wupL s4 162 (Int32.toNatClampNeg 0) x.toInt64) 162 (Int32.toNatClampNeg 1) y.toInt64) 162 (Int32.toNatClampNeg 2) (ap x y).toInt64).2 162 5 = 0 ∧ (wupL (wupL (wupL s4 162 (Int32.toNatClampNeg 0) x.toInt64) 162 (Int32.toNatClampNeg 1) y.toInt64) 162 (Int32.toNatClampNeg 2) (ap x y).toInt64).2 162 6 = 0 ∧ (wupL (wupL (wupL s4 162 (Int32.toNatClampNeg 0) x.toInt64) 162 (Int32.toNatClampNeg 1) y.toInt64) 162 (Int32.toNatClampNeg 2) (ap x y).toInt64).2 162 7 = 0 := by
    rw [wupL_k, wupL_k, wupL_k]
    refine ⟨?_, ?_, ?_, ?_, ?_, ?_, ?_, ?_⟩
    · rw [vpL_n (by decide), vpL_n (by decide)]; exact vpL_s
    · rw [vpL_n (by decide)]; exact vpL_s
    · exact vpL_s
    · rw [vpL_n (by decide), vpL_n (by decide), vpL_n (by decide), z3 _ (by decide), if_pos (Nat.zero_le _)]
    · rw [vpL_n (by decide), vpL_n (by decide), vpL_n (by decide), z3 _ (by decide), if_pos (Nat.zero_le _)]
    · rw [vpL_n (by decide), vpL_n (by decide), vpL_n (by decide), z3 _ (by decide), if_pos (Nat.zero_le _)]
    · rw [vpL_n (by decide), vpL_n (by decide), vpL_n (by decide), z3 _ (by decide), if_pos (Nat.zero_le _)]
    · rw [vpL_n (by decide), vpL_n (by decide), vpL_n (by decide), z3 _ (by decide), if_pos (Nat.zero_le _)]
  generalize wupL (wupL (wupL s4 162 (Int32.toNatClampNeg 0) x.toInt64) 162 (Int32.toNatClampNeg 1) y.toInt64) 162 (Int32.toNatClampNeg 2) (ap x y).toInt64 = s10 at *
  obtain ⟨⟨i1, i2⟩, i3, i4⟩ := ix_E (c := 10) (x := x) (m := 10) rfl (by decide) hx.2.1 xl
  obtain ⟨⟨j1, j2⟩, j3, j4⟩ := ix_E (c := 10) (x := y) (m := 10) rfl (by decide) hy.2.1 yl
  obtain ⟨⟨k1, k2⟩, k3, k4⟩ := ix_E (c := 26) (x := x) (m := 26) rfl (by decide) hx.2.1 xl
  obtain ⟨⟨l1, l2⟩, l3, l4⟩ := ix_E (c := 26) (x := y) (m := 26) rfl (by decide) hy.2.1 yl
  have cases8 : ∀ (P : Nat → Prop), P 0 → P 1 → P 2 → P 3 → P 4 → P 5 → P 6 → P 7 → ∀ j, j < 8 → P j := fun P p0 p1 p2 p3 p4 p5 p6 p7 j hj => by
    match j, hj with
    | 0, _ => exact p0
    | 1, _ => exact p1
    | 2, _ => exact p2
    | 3, _ => exact p3
    | 4, _ => exact p4
    | 5, _ => exact p5
    | 6, _ => exact p6
    | 7, _ => exact p7
  unfold wX11_words_j125 wX11_words_j221
  rcases (kind_3 hx.1).2 with rfl | rfl | rfl
  · rw [wn01, wn02]
    obtain ⟨d0, d1, d2, d3, d4, d5, d6, d7⟩ := WD_v (f := s.1 163) (kd := 0) (a := x.toNatClampNeg) (b := y.toNatClampNeg)
    rw [wn01] at d3 d4
    rw [wn02] at d5 d6 d7
    rw [← xo] at d0
    rw [← yo] at d1
    rw [← a3] at d2
    obtain ⟨c0, c1, c2, c3, c4, c5, c6, c7⟩ := w3
    exact t_some ⟨u, w2, cases8 _ (c0.trans d0.symm) (c1.trans d1.symm) (c2.trans d2.symm) (c3.trans d3.symm) (c4.trans d4.symm) (c5.trans d5.symm) (c6.trans d6.symm) (c7.trans d7.symm)⟩
  · rw [wn11, wld_E (by omega) (by omega), t_sbe, wld_E (by omega) (by omega), t_sbe, apart_E, t_sbe, wstL_E (by decide) (by decide), t_sbe, wld_E (by omega) (by omega), t_sbe, wld_E (by omega) (by omega), t_sbe, apart_E, t_sbe, wstL_E (by decide) (by decide), t_sbe, wn12, i2, j2, i4, j4]
    show Tot (some (wupL (wupL s10 162 3 (ap (s10.1 163 (10 + 2 * x.toNatClampNeg)) (s10.1 163 (10 + 2 * y.toNatClampNeg))).toInt64) 162 4 (ap (s10.1 163 (10 + 2 * x.toNatClampNeg + 1)) (s10.1 163 (10 + 2 * y.toNatClampNeg + 1))).toInt64)) _
    rw [u]
    refine t_some ⟨u, fun k hk => by rw [wupL_n hk, wupL_n hk, w2 k hk], ?_⟩
    obtain ⟨d0, d1, d2, d3, d4, d5, d6, d7⟩ := WD_v (f := s.1 163) (kd := 1) (a := x.toNatClampNeg) (b := y.toNatClampNeg)
    rw [wn11] at d3 d4
    rw [wn12] at d5 d6 d7
    rw [← xo] at d0
    rw [← yo] at d1
    rw [← a3] at d2
    obtain ⟨c0, c1, c2, c3, c4, c5, c6, c7⟩ := w3
    rw [wupL_k, wupL_k]
    refine cases8 _ ?_ ?_ ?_ ?_ ?_ ?_ ?_ ?_
    · rw [vpL_n (by decide), vpL_n (by decide)]; exact c0.trans d0.symm
    · rw [vpL_n (by decide), vpL_n (by decide)]; exact c1.trans d1.symm
    · rw [vpL_n (by decide), vpL_n (by decide)]; exact c2.trans d2.symm
    · rw [vpL_n (by decide), vpL_s]; exact d3.symm
    · rw [vpL_s]; exact d4.symm
    · rw [vpL_n (by decide), vpL_n (by decide)]; exact c5.trans d5.symm
    · rw [vpL_n (by decide), vpL_n (by decide)]; exact c6.trans d6.symm
    · rw [vpL_n (by decide), vpL_n (by decide)]; exact c7.trans d7.symm
  · rw [wn21, wn22, wld_E (by omega) (by omega), t_sbe, wstL_E (by decide) (by decide), t_sbe, wld_E (by omega) (by omega), t_sbe, wld_E (by omega) (by omega), t_sbe, apart_E, t_sbe, wstL_E (by decide) (by decide), t_sbe, wld_E (by omega) (by omega), t_sbe, wld_E (by omega) (by omega), t_sbe, k2, l2, k4, l4, wstL_E (by decide) (by decide), t_sbe, wstL_E (by decide) (by decide), t_sbe, ite_some, ite_wupL]
    show Tot (some (wupL (wupL (wupL s10 162 5 (s10.1 163 (26 + 2 * x.toNatClampNeg)).toInt64) 162 6 (ap (s10.1 163 (26 + 2 * x.toNatClampNeg)) (s10.1 163 (26 + 2 * y.toNatClampNeg))).toInt64) 162 7 (if s10.1 163 (26 + 2 * x.toNatClampNeg + 1) = s10.1 163 (26 + 2 * y.toNatClampNeg + 1) then 1 else 0))) _
    rw [u]
    refine t_some ⟨u, fun k hk => by rw [wupL_n hk, wupL_n hk, wupL_n hk, w2 k hk], ?_⟩
    obtain ⟨d0, d1, d2, d3, d4, d5, d6, d7⟩ := WD_v (f := s.1 163) (kd := 2) (a := x.toNatClampNeg) (b := y.toNatClampNeg)
    rw [wn21] at d3 d4
    rw [wn22] at d5 d6 d7
    rw [← xo] at d0
    rw [← yo] at d1
    rw [← a3] at d2
    obtain ⟨c0, c1, c2, c3, c4, c5, c6, c7⟩ := w3
    rw [wupL_k, wupL_k, wupL_k]
    refine cases8 _ ?_ ?_ ?_ ?_ ?_ ?_ ?_ ?_
    · rw [vpL_n (by decide), vpL_n (by decide), vpL_n (by decide)]; exact c0.trans d0.symm
    · rw [vpL_n (by decide), vpL_n (by decide), vpL_n (by decide)]; exact c1.trans d1.symm
    · rw [vpL_n (by decide), vpL_n (by decide), vpL_n (by decide)]; exact c2.trans d2.symm
    · rw [vpL_n (by decide), vpL_n (by decide), vpL_n (by decide)]; exact c3.trans d3.symm
    · rw [vpL_n (by decide), vpL_n (by decide), vpL_n (by decide)]; exact c4.trans d4.symm
    · rw [vpL_n (by decide), vpL_n (by decide), vpL_s]; exact d5.symm
    · rw [vpL_n (by decide), vpL_s]; exact d6.symm
    · rw [vpL_s]; exact d7.symm
end RWORDS
end
section
/-! How far, by the CLAUSES: the class. -/
/-- the code of a LAW as a row -/
noncomputable def cdL (x : lC) : Nat → Int32 := fun j => (x.2.2.1[j]?).getD 0
noncomputable def FV (w : Nat → Int64) (C : Nat → Int32) (kd : Int32) : List qT → Int64
  | [] => w 2
  | x :: q => if x.1 = kd then (if x.2.2.2.2 = true then (if VAL w C x.2.2.1 x.2.2.2.1 = 0 then FV w C kd q else VAL w C x.2.1 x.2.2.1) else VAL w C x.2.1 x.2.2.1) else FV w C kd q
/-- the CLAUSES' codes are well made -/
noncomputable def QW (C : Nat → Int32) (q : List qT) : Prop := ∀ (i : Nat) (x : qT), q[i]? = some x → hrun (fun j => rc (C j)) (x.2.2.1 - x.2.1) x.2.1 0 = some 1 ∧ (x.2.2.2.2 = true → hrun (fun j => rc (C j)) (x.2.2.2.1 - x.2.2.1) x.2.2.1 0 = some 1)
section FARC
variable {k0 : Nat} {s0 s : wS} {x : lC} {kd : Int32}
theorem CLc.code (h : CLc k0 x s) {j : Nat} (hj : j < x.2.2.1.length) : s.1 (k0 + 1) j = cdL x j ∧ okc (cdL x j) := by
  have e : x.2.2.1[j]? = some (x.2.2.1[j]) := List.getElem?_eq_getElem hj
  have c : cdL x j = x.2.2.1[j] := by unfold cdL; rw [e]; rfl
  rw [c]
  exact h.1.2.2 j _ e
/-- only the stack was touched -/
noncomputable def KC (k0 : Nat) (s0 s : wS) : Prop := (∀ k b, ¬ (k = k0 ∧ b = 9) → s.1 k b = s0.1 k b) ∧ (∀ k, k ≠ k0 + 7 → s.2 k = s0.2 k)
theorem KC.refl : KC k0 s s := ⟨fun _ _ _ => rfl, fun _ _ => rfl⟩
theorem KC.trans {s1 s2 s3 : wS} (a : KC k0 s1 s2) (b : KC k0 s2 s3) : KC k0 s1 s3 := ⟨fun k c h => (b.1 k c h).trans (a.1 k c h), fun k h => (b.2 k h).trans (a.2 k h)⟩
theorem CLc.fc {s' : wS} (h : CLc k0 x s) (f : KC k0 s s') : CLc k0 x s' := h.go (f.1 _ _ (by omega)) (f.1 _ _ (by omega)) (fun j h1 h2 => funext fun b => f.1 _ _ (by omega))
/-- a run between two places of the code -/
theorem run_L (hk0 : wkd k0 = 3) (h : CLc k0 x s) {b e : Nat} (hb : b ≤ e) (he : e ≤ x.2.2.1.length) (hr : hrun (fun j => rc (cdL x j)) (e - b) b 0 = some 1) : Tot (wX3_run k0 (Int32.ofNat b) (Int32.ofNat e) s) (fun p => p.1 = VAL (s.2 (k0 + 6)) (cdL x) b e ∧ KC k0 s p.2) :=
  t_mono (run_E hk0 hb (by have := h.1.2.1; omega) (fun j h1 h2 => h.code (by omega)) hr) (fun p hp => ⟨hp.1, hp.2⟩)
theorem farC_h (hk0 : wkd k0 = 3) (hQ : QW (cdL x) x.2.2.2) : ∀ (n : Nat) {i : Nat} {x2 : Int32} {s : wS}, x2 = Int32.ofNat i → i ≤ x.2.2.2.length → CLc k0 x s → x.2.2.2.length - i < n → Tot ((wX3_farByClauses_h2 k0 kd n x2 s).bind fun z15 => (match z15 with | .inl s16 => wX3_farByClauses_j95 k0 s16 | .inr (t22, s23) => wX3_farByClauses_j72 k0 t22 s23)) (fun p => p.1 = FV (s.2 (k0 + 6)) (cdL x) kd (x.2.2.2.drop i) ∧ KC k0 s p.2) := by
  intro n
  induction n with
  | zero => intro i x2 s _ _ _ hm; exact absurd hm (by omega)
  | succ n ih =>
    intro i x2 s h2 hi h hm
    obtain ⟨⟨q6, q12⟩, qx⟩ := h.2.1
    have lb := h.2.2
    have e2 : x2.toInt = i := by rw [h2, t_on (by omega)]
    have en : x2.toNatClampNeg = i := by unfold Int32.toNatClampNeg; omega
    have el : (Int32.ofNat x.2.2.2.length).toInt = x.2.2.2.length := t_on (by omega)
    rw [wX3_farByClauses_h2, q6]
    by_cases c : x2 < Int32.ofNat x.2.2.2.length
    · have hc := t_lt c
      rw [e2, el] at hc
      have hil : i < x.2.2.2.length := by omega
      have e : x.2.2.2[i]? = some (x.2.2.2[i]) := List.getElem?_eq_getElem hil
      obtain ⟨a1, a2, a3, a4, a5, ⟨a6, a7, a8⟩, -⟩ := qx i _ e
      obtain ⟨w1, w2⟩ := hQ i _ e
      have lbi := lb i _ e
      rw [List.drop_eq_getElem_cons hil]
      generalize x.2.2.2[i] = y at *
      have em : (Int32.ofNat y.2.2.1).toInt = y.2.2.1 := t_on (by omega)
      have et : (Int32.ofNat y.2.2.2.1).toInt = y.2.2.2.1 := t_on (by omega)
      have nx : ∀ s' : wS, KC k0 s s' → Tot ((wX3_farByClauses_j89 (wX3_farByClauses_h2 k0 kd n) k0 kd x2 s').bind fun z15 => (match z15 with | .inl s16 => wX3_farByClauses_j95 k0 s16 | .inr (t22, s23) => wX3_farByClauses_j72 k0 t22 s23)) (fun p => p.1 = FV (s.2 (k0 + 6)) (cdL x) kd (x.2.2.2.drop (i + 1)) ∧ KC k0 s p.2) := by
        intro s' f
        unfold wX3_farByClauses_j89
        refine t_mono (ih (by rw [h2, i_on1 (by omega)]) (by omega) (h.fc f) (by omega)) (fun p hp => ⟨?_, f.trans hp.2⟩)
        rw [hp.1, f.2 (k0 + 6) (by omega)]
      have fin : ∀ s' : wS, KC k0 s s' → Tot (wX3_farByClauses_j72 k0 x2 s') (fun p => p.1 = VAL (s.2 (k0 + 6)) (cdL x) y.2.1 y.2.2.1 ∧ KC k0 s p.2) := by
        intro s' f
        have b3 : s'.1 (k0 + 3) i = Int32.ofNat y.2.1 := by rw [f.1 _ _ (by omega)]; exact a2
        have b4 : s'.1 (k0 + 4) i = Int32.ofNat y.2.2.1 := by rw [f.1 _ _ (by omega)]; exact a3
        unfold wX3_farByClauses_j72
        rw [wld_E (by omega) (by omega), t_sbe, wld_E (by omega) (by omega), t_sbe, en, b3, b4]
        refine t_bind (run_L hk0 (h.fc f) a6 (by omega) w1) (fun p hp => ?_)
        obtain ⟨t28, s29⟩ := p
        obtain ⟨p1, p2⟩ := hp
        dsimp only at p1 p2 ⊢
        exact t_some ⟨by rw [p1, f.2 (k0 + 6) (by omega)], f.trans p2⟩
      rw [if_pos c, if_pos (Int32.lt_iff_toInt_lt.2 (by rw [show (12 : Int32).toInt = 12 from rfl]; omega)), wld_E (by omega) (by omega), t_sbe, wld_E (by omega) (by omega), t_sbe, en, a3, a4]
      show Tot _ (fun (p : Int64 × wS) => p.1 = (if y.1 = kd then (if y.2.2.2.2 = true then (if VAL (s.2 (k0 + 6)) (cdL x) y.2.2.1 y.2.2.2.1 = 0 then FV (s.2 (k0 + 6)) (cdL x) kd (x.2.2.2.drop (i + 1)) else VAL (s.2 (k0 + 6)) (cdL x) y.2.1 y.2.2.1) else VAL (s.2 (k0 + 6)) (cdL x) y.2.1 y.2.2.1) else FV (s.2 (k0 + 6)) (cdL x) kd (x.2.2.2.drop (i + 1))) ∧ KC k0 s p.2)
      unfold wX3_farByClauses_j36
      rw [wld_E (by omega) (by omega), t_sbe, t_sbe, en, a1]
      by_cases b : y.2.2.2.2 = true
      · rw [if_pos (Int32.lt_iff_toInt_lt.2 (by have := a5.1 b; omega))]
        by_cases k : y.1 = kd
        · rw [if_pos k, if_pos k, if_pos b, qi1, wld_E (by omega) (by omega), t_sbe, wld_E (by omega) (by omega), t_sbe, en, a3, a4]
          refine t_assoc (t_bind (run_L hk0 h a7 (by omega) (w2 b)) (fun p hp => ?_))
          obtain ⟨t11, s12⟩ := p
          obtain ⟨p1, p2⟩ := hp
          dsimp only at p1 p2 ⊢
          rw [p1]
          by_cases z : VAL (s.2 (k0 + 6)) (cdL x) y.2.2.1 y.2.2.2.1 = 0
          · rw [if_pos z, if_pos z]
            exact nx s12 p2
          · rw [if_neg z, if_neg z, t_sbe]
            exact fin s12 p2
        · rw [if_neg k, if_neg k]
          exact nx s KC.refl
      · rw [if_neg (fun q => b (a5.2 (by have := t_lt q; omega)))]
        by_cases k : y.1 = kd
        · rw [if_pos k, if_pos k, if_neg b, qi0, t_sbe]
          exact fin s KC.refl
        · rw [if_neg k, if_neg k]
          exact nx s KC.refl
    · have hc := t_ge c
      rw [e2, el] at hc
      obtain rfl : i = x.2.2.2.length := by omega
      rw [if_neg c, t_sbe, List.drop_length]
      dsimp only
      unfold wX3_farByClauses_j95
      rw [wordOf_E (by decide) (by decide), t_sbe]
      exact t_some ⟨rfl, KC.refl⟩
theorem farC_E (hk0 : wkd k0 = 3) (hQ : QW (cdL x) x.2.2.2) (h : CLc k0 x s) : Tot (wX3_farByClauses k0 kd s) (fun p => p.1 = FV (s.2 (k0 + 6)) (cdL x) kd x.2.2.2 ∧ KC k0 s p.2) := by
  unfold wX3_farByClauses
  have q12 := h.2.1.1.2
  exact farC_h hk0 hQ wFuel (i := 0) rfl (Nat.zero_le _) h (by
    have e : wFuel = 1099511627776 := rfl
    omega)
end FARC
end
section
/-! How far, by the CLAUSES: the reference. -/
noncomputable def KR (s0 s : wS) : Prop := (∀ k b, ¬ (k = 152 ∧ b = 22) → s.1 k b = s0.1 k b) ∧ (∀ k, k ≠ 161 → s.2 k = s0.2 k)
theorem KR.refl {s : wS} : KR s s := ⟨fun _ _ _ => rfl, fun _ _ => rfl⟩
theorem KR.trans {s1 s2 s3 : wS} (a : KR s1 s2) (b : KR s2 s3) : KR s1 s3 := ⟨fun k c h => (b.1 k c h).trans (a.1 k c h), fun k h => (b.2 k h).trans (a.2 k h)⟩
section FARR
variable {s0 s : wS} {x : lC} {kd : Int32} {l : Nat}
theorem RLf.code (h : RLf l x s) {j : Nat} (hj : j < x.2.2.1.length) : s.1 154 (400 * l + j) = rc (cdL x j) := by
  have e : x.2.2.1[j]? = some (x.2.2.1[j]) := List.getElem?_eq_getElem hj
  have c : cdL x j = x.2.2.1[j] := by unfold cdL; rw [e]; rfl
  rw [c]
  exact h.1.2 j _ e
theorem RLf.kr {s' : wS} (h : RLf l x s) (f : KR s s') : RLf l x s' := h.keep (funext fun b => f.1 _ _ (by omega)) (funext fun b => f.1 _ _ (by omega)) (funext fun b => f.1 _ _ (by omega)) (funext fun b => f.1 _ _ (by omega))
theorem QW_of (hq : qLW s l) (h : RLf l x s) (lb : LB x.2.2.1.length x.2.2.2) (lq : ∀ (i : Nat) (y : qT), x.2.2.2[i]? = some y → y.2.1 ≤ y.2.2.1 ∧ y.2.2.1 ≤ y.2.2.2.1 ∧ y.2.2.2.1 ≤ 400) : QW (cdL x) x.2.2.2 := by
  intro i y hy
  obtain ⟨⟨c1, c2⟩, cs⟩ := h.2
  obtain ⟨-, qq⟩ := hq
  have hi := (List.getElem?_eq_some_iff.1 hy).1
  obtain ⟨b0, b1, b2, b3, b4⟩ := cs i y hy
  obtain ⟨l1, l2, l3⟩ := lq i y hy
  have lb := lb i y hy
  obtain ⟨w1, w2⟩ := qq i (by rw [c1, t_on (by omega)]; omega)
  rw [b3, b4] at w2
  rw [b1, b2] at w1
  have co : ∀ j, j < x.2.2.1.length → rc (cdL x j) = s.1 154 (400 * l + j) := fun j hj => (h.code hj).symm
  refine ⟨?_, fun f => ?_⟩
  · obtain ⟨-, -, -, w⟩ := w1
    rw [t_on (by omega), t_on (by omega)] at w
    rw [← hrun_congr (C := fun j => rc (cdL x j)) (C' := fun i => s.1 154 (400 * l + i)) (n := y.2.2.1 - y.2.1) (i := y.2.1) (h := 0) (fun j h1 h2 => (co j (by omega)).symm)]
    rw [show ((y.2.2.1 : Int) - (y.2.1 : Int)).toNat = y.2.2.1 - y.2.1 by omega, show ((y.2.1 : Int)).toNat = y.2.1 by omega] at w
    exact w
  · rw [if_pos f] at w2
    rcases w2 with w2 | ⟨-, -, -, w⟩
    · rw [t_on (by omega)] at w2; omega
    · rw [t_on (by omega), t_on (by omega)] at w
      rw [← hrun_congr (C := fun j => rc (cdL x j)) (C' := fun i => s.1 154 (400 * l + i)) (n := y.2.2.2.1 - y.2.2.1) (i := y.2.2.1) (h := 0) (fun j h1 h2 => (co j (by omega)).symm)]
      rw [show ((y.2.2.2.1 : Int) - (y.2.2.1 : Int)).toNat = y.2.2.2.1 - y.2.2.1 by omega, show ((y.2.2.1 : Int)).toNat = y.2.2.1 by omega] at w
      exact w
theorem reck_L {xl : Int32} (hxl : xl = Int32.ofNat l) (hl : l < 6) (h : RLf l x s) (hlen : x.2.2.1.length ≤ 400) (ok : ∀ j, j < x.2.2.1.length → okc (cdL x j)) {b e : Nat} (hb : b ≤ e) (he : e ≤ x.2.2.1.length) (hr : hrun (fun j => rc (cdL x j)) (e - b) b 0 = some 1) : Tot (wX11_reckons xl (Int32.ofNat b) (Int32.ofNat e) s) (fun p => p.1 = VAL (s.2 162) (cdL x) b e ∧ KR s p.2) :=
  t_mono (reck_E hxl hl hb (by omega) (fun j h1 h2 => ⟨h.code (by omega), ok j (by omega)⟩) hr) (fun p hp => ⟨hp.1, hp.2⟩)
theorem ad_E {xl y : Int32} {i : Nat} (hxl : xl = Int32.ofNat l) (hl : l < 6) (hy : y = Int32.ofNat i) (hi : i ≤ 12) : ((60 * xl) + (5 * y)).toInt = 60 * l + 5 * i ∧ ((60 * xl) + (5 * y)).toNatClampNeg = 60 * l + 5 * i := by
  have el : xl.toInt = l := by rw [hxl, t_on (by omega)]
  have ei : y.toInt = i := by rw [hy, t_on (by omega)]
  have e60 : (60 : Int32).toInt = 60 := rfl
  have e5 : (5 : Int32).toInt = 5 := rfl
  have q1 : (60 * xl).toInt = 60 * l := by rw [t_mul (by rw [e60, el]; omega) (by rw [e60, el]; omega), e60, el]
  have q2 : (5 * y).toInt = 5 * i := by rw [t_mul (by rw [e5, ei]; omega) (by rw [e5, ei]; omega), e5, ei]
  have q3 : ((60 * xl) + (5 * y)).toInt = 60 * l + 5 * i := by rw [t_add (by omega) (by omega), q1, q2]
  exact ⟨q3, by unfold Int32.toNatClampNeg; omega⟩
theorem ad_p {z : Int32} {a d : Nat} {c : Int32} (h : z.toInt = a) (ha : a ≤ 360) (hc : c.toInt = d) (hd : d ≤ 4) : (z + c).toInt = a + d ∧ (z + c).toNatClampNeg = a + d := by
  have e : (z + c).toInt = a + d := by rw [t_add (by omega) (by omega), h, hc]
  exact ⟨e, by unfold Int32.toNatClampNeg; omega⟩
theorem farR_h {xl : Int32} (hxl : xl = Int32.ofNat l) (hl : l < 6) (hlen : x.2.2.1.length ≤ 400) (ok : ∀ j, j < x.2.2.1.length → okc (cdL x j)) (lb : LB x.2.2.1.length x.2.2.2) (lq : ∀ (i : Nat) (y : qT), x.2.2.2[i]? = some y → y.2.1 ≤ y.2.2.1 ∧ y.2.2.1 ≤ y.2.2.2.1 ∧ y.2.2.2.1 ≤ 400) (hQ : QW (cdL x) x.2.2.2) : ∀ (n : Nat) {i : Nat} {x5 : Int32} {s : wS}, x5 = Int32.ofNat i → i ≤ x.2.2.2.length → RLf l x s → x.2.2.2.length - i < n → Tot ((wX11_farBy_h11 xl kd n x5 s).bind fun z16 => (match z16 with | .inl s17 => some ((s17.2 162 2), s17) | .inr (t25, s26) => wX11_farBy_j87 xl t25 s26)) (fun p => p.1 = FV (s.2 162) (cdL x) kd (x.2.2.2.drop i) ∧ KR s p.2) := by
  intro n
  induction n with
  | zero => intro i x5 s _ _ _ hm; exact absurd hm (by omega)
  | succ n ih =>
    intro i x5 s h5 hi h hm
    obtain ⟨⟨q6, q12⟩, qx⟩ := h.2
    have e5 : x5.toInt = i := by rw [h5, t_on (by omega)]
    have el : (Int32.ofNat x.2.2.2.length).toInt = x.2.2.2.length := t_on (by omega)
    have elx : xl.toInt = l := by rw [hxl, t_on (by omega)]
    have eln : xl.toNatClampNeg = l := by unfold Int32.toNatClampNeg; omega
    rw [wX11_farBy_h11, wld_E (by omega) (by omega), t_sbe, eln, q6]
    by_cases c : x5 < Int32.ofNat x.2.2.2.length
    · have hc := t_lt c
      rw [e5, el] at hc
      have hil : i < x.2.2.2.length := by omega
      have e : x.2.2.2[i]? = some (x.2.2.2[i]) := List.getElem?_eq_getElem hil
      obtain ⟨a0, a1, a2, a3, a4⟩ := qx i _ e
      obtain ⟨w1, w2⟩ := hQ i _ e
      obtain ⟨l1, l2, l3⟩ := lq i _ e
      have lbi := lb i _ e
      rw [List.drop_eq_getElem_cons hil]
      generalize x.2.2.2[i] = y at *
      obtain ⟨ad, adn⟩ := ad_E hxl hl h5 (by omega)
      have ad' : ((60 * xl) + (5 * x5)).toInt = (60 * l + 5 * i : Nat) := by rw [ad]; omega
      obtain ⟨d1, d1n⟩ := ad_p (c := 1) (d := 1) ad' (by omega) rfl (by decide)
      obtain ⟨d2, d2n⟩ := ad_p (c := 2) (d := 2) ad' (by omega) rfl (by decide)
      obtain ⟨d3, d3n⟩ := ad_p (c := 3) (d := 3) ad' (by omega) rfl (by decide)
      obtain ⟨d4, d4n⟩ := ad_p (c := 4) (d := 4) ad' (by omega) rfl (by decide)
      have nx : ∀ s' : wS, KR s s' → Tot ((wX11_farBy_j111 (wX11_farBy_h11 xl kd n) xl kd x5 s').bind fun z16 => (match z16 with | .inl s17 => some ((s17.2 162 2), s17) | .inr (t25, s26) => wX11_farBy_j87 xl t25 s26)) (fun p => p.1 = FV (s.2 162) (cdL x) kd (x.2.2.2.drop (i + 1)) ∧ KR s p.2) := by
        intro s' f
        unfold wX11_farBy_j111
        refine t_mono (ih (by rw [h5, i_on1 (by omega)]) (by omega) (h.kr f) (by omega)) (fun p hp => ⟨?_, f.trans hp.2⟩)
        rw [hp.1, f.2 162 (by omega)]
      have fin : ∀ s' : wS, KR s s' → Tot (wX11_farBy_j87 xl ((60 * xl) + (5 * x5)) s') (fun p => p.1 = VAL (s.2 162) (cdL x) y.2.1 y.2.2.1 ∧ KR s p.2) := by
        intro s' f
        have b1 : s'.1 156 (60 * l + 5 * i + 1) = Int32.ofNat y.2.1 := by rw [f.1 _ _ (by omega)]; exact a1
        have b2 : s'.1 156 (60 * l + 5 * i + 2) = Int32.ofNat y.2.2.1 := by rw [f.1 _ _ (by omega)]; exact a2
        unfold wX11_farBy_j87
        rw [wld_E (by omega) (by omega), t_sbe, wld_E (by omega) (by omega), t_sbe, d1n, d2n, b1, b2]
        refine t_bind (reck_L hxl hl (h.kr f) hlen ok l1 (by omega) w1) (fun p hp => ?_)
        obtain ⟨t28, s29⟩ := p
        obtain ⟨p1, p2⟩ := hp
        dsimp only at p1 p2 ⊢
        exact t_some ⟨by rw [p1, f.2 162 (by omega)], f.trans p2⟩
      rw [if_pos c, wld_E (by omega) (by omega), t_sbe, adn, a0]
      show Tot _ (fun (p : Int64 × wS) => p.1 = (if y.1 = kd then (if y.2.2.2.2 = true then (if VAL (s.2 162) (cdL x) y.2.2.1 y.2.2.2.1 = 0 then FV (s.2 162) (cdL x) kd (x.2.2.2.drop (i + 1)) else VAL (s.2 162) (cdL x) y.2.1 y.2.2.1) else VAL (s.2 162) (cdL x) y.2.1 y.2.2.1) else FV (s.2 162) (cdL x) kd (x.2.2.2.drop (i + 1))) ∧ KR s p.2)
      by_cases k : y.1 = kd
      · rw [if_pos k, if_pos k, wld_E (by omega) (by omega), t_sbe, d3n, a3]
        by_cases b : y.2.2.2.2 = true
        · rw [if_pos b, if_pos b, if_neg (fun q => by have := t_lt q; rw [t_on (by omega), t_i0] at this; omega), t_sbe, wld_E (by omega) (by omega), t_sbe, d4n, a4]
          refine t_assoc (t_bind (reck_L hxl hl h hlen ok l2 (by omega) (w2 b)) (fun p hp => ?_))
          obtain ⟨t11, s12⟩ := p
          obtain ⟨p1, p2⟩ := hp
          dsimp only at p1 p2 ⊢
          rw [p1]
          by_cases z : VAL (s.2 162) (cdL x) y.2.2.1 y.2.2.2.1 = 0
          · rw [if_pos z, if_pos z]
            exact nx s12 p2
          · rw [if_neg z, if_neg z, t_sbe]
            exact fin s12 p2
        · rw [if_neg b, if_neg b, if_pos (show (-1 : Int32) < 0 by decide), t_sbe]
          exact fin s KR.refl
      · rw [if_neg k, if_neg k]
        exact nx s KR.refl
    · have hc := t_ge c
      rw [e5, el] at hc
      obtain rfl : i = x.2.2.2.length := by omega
      rw [if_neg c, t_sbe, List.drop_length]
      dsimp only
      exact t_some ⟨rfl, KR.refl⟩
end FARR
end
section
/-! Only eight words count; how far, by the reference, whole. -/
theorem es_w {w w' : Nat → Int64} {v : Int32} {x : (Nat → Int64) × Nat} (ok : okc v) (h : ∀ j, j < 8 → w j = w' j) : es w v x = es w' v x := by
  unfold es
  rcases okc_cases ok with ⟨c, c1⟩ | ⟨c, d, d1⟩ | ⟨c, d, k⟩ | ⟨c, d, k, e1⟩
  · rw [if_pos c, if_pos c]
  · obtain ⟨-, -, r3, r4, r5⟩ := rc_w d1
    rw [if_neg c, if_pos d, if_neg c, if_pos d, h _ (by unfold Int32.toNatClampNeg; omega)]
  · rw [if_neg c, if_neg d, if_pos k, if_neg c, if_neg d]
  · rw [if_neg c, if_neg d, if_neg k, if_neg c, if_neg d]
theorem er_w {w w' : Nat → Int64} {C : Nat → Int32} (h : ∀ j, j < 8 → w j = w' j) : ∀ {n i : Nat} {x : (Nat → Int64) × Nat}, (∀ j, i ≤ j → j < i + n → okc (C j)) → er w C n i x = er w' C n i x := by
  intro n
  induction n with
  | zero => intro i x _; rfl
  | succ n ih =>
    intro i x ok
    show er w C n (i + 1) (es w (C i) x) = er w' C n (i + 1) (es w' (C i) x)
    rw [es_w (ok i (by omega) (by omega)) h]
    exact ih (fun j h1 h2 => ok j (by omega) (by omega))
theorem VAL_w {w w' : Nat → Int64} {C : Nat → Int32} {b e : Nat} (h : ∀ j, j < 8 → w j = w' j) (ok : ∀ j, b ≤ j → j < e → okc (C j)) : VAL w C b e = VAL w' C b e := by
  unfold VAL
  rw [er_w h (fun j h1 h2 => ok j h1 (by omega))]
theorem FV_w {w w' : Nat → Int64} {C : Nat → Int32} {kd : Int32} {n : Nat} (h : ∀ j, j < 8 → w j = w' j) (ok : ∀ j, j < n → okc (C j)) : ∀ {q : List qT}, (∀ y ∈ q, y.2.2.1 ≤ n ∧ y.2.2.2.1 ≤ n) → FV w C kd q = FV w' C kd q := by
  intro q
  induction q with
  | nil => intro _; exact h 2 (by decide)
  | cons y q ih =>
    intro hq
    obtain ⟨h1, h2⟩ := hq y (List.mem_cons_self ..)
    have e1 : VAL w C y.2.1 y.2.2.1 = VAL w' C y.2.1 y.2.2.1 := VAL_w h (fun j _ hj => ok j (by omega))
    have e2 : VAL w C y.2.2.1 y.2.2.2.1 = VAL w' C y.2.2.1 y.2.2.2.1 := VAL_w h (fun j _ hj => ok j (by omega))
    show (if y.1 = kd then (if y.2.2.2.2 = true then (if VAL w C y.2.2.1 y.2.2.2.1 = 0 then FV w C kd q else VAL w C y.2.1 y.2.2.1) else VAL w C y.2.1 y.2.2.1) else FV w C kd q) = (if y.1 = kd then (if y.2.2.2.2 = true then (if VAL w' C y.2.2.1 y.2.2.2.1 = 0 then FV w' C kd q else VAL w' C y.2.1 y.2.2.1) else VAL w' C y.2.1 y.2.2.1) else FV w' C kd q)
    rw [e1, e2, ih (fun z hz => hq z (List.mem_cons_of_mem _ hz))]
section FVR
variable {s : wS} {x : lC} {l : Nat}
theorem CLc.lq {k0 : Nat} (h : CLc k0 x s) : ∀ (i : Nat) (y : qT), x.2.2.2[i]? = some y → y.2.1 ≤ y.2.2.1 ∧ y.2.2.1 ≤ y.2.2.2.1 ∧ y.2.2.2.1 ≤ 400 := fun i y hy => (h.2.1.2 i y hy).2.2.2.2.2.1
theorem CLc.mem {k0 : Nat} (h : CLc k0 x s) : ∀ y ∈ x.2.2.2, y.2.2.1 ≤ x.2.2.1.length ∧ y.2.2.2.1 ≤ x.2.2.1.length := fun y hy => by
  obtain ⟨i, hi, e⟩ := List.mem_iff_getElem.1 hy
  have e' : x.2.2.2[i]? = some y := by rw [List.getElem?_eq_getElem hi, e]
  have a := h.lq i y e'
  have b := h.2.2 i y e'
  omega
/-- how far, as both sides say it -/
noncomputable def FVx (x : lC) (f : Nat → Int32) (kd : Int32) (a b : Nat) : Int64 := FV (WD f kd a b) (cdL x) kd x.2.2.2
/-- the LAW is known to both -/
noncomputable def LK2 (l : Nat) (x : lC) (s : wS) : Prop := CLc (44 + 10 * l) x s ∧ RLf l x s ∧ QW (cdL x) x.2.2.2
theorem JA.lk (g : JA s) {l : Nat} (hl : (l : Int) < (s.1 152 2).toInt) : ∃ x, LK2 l x s := by
  obtain ⟨x, x1, x2⟩ := g.2.2.2.2.2.2 l hl
  exact ⟨x, x1, x2, QW_of (g.1.1.2.2 l hl) x2 x1.2.2 x1.lq⟩
theorem farR_E (g : JA s) (hl : (l : Int) < (s.1 152 2).toInt) (k : LK2 l x s) {xl kd a b : Int32} (hxl : xl = Int32.ofNat l) (ha : TH (s.1 163) kd a) (hb : TH (s.1 163) kd b) : Tot (wX11_farBy xl kd a b s) (fun p => p.1 = FVx x (s.1 163) kd a.toNatClampNeg b.toNatClampNeg ∧ (∀ k c, ¬ (k = 152 ∧ c = 22) → p.2.1 k c = s.1 k c) ∧ (∀ k, k ≠ 161 → k ≠ 162 → p.2.2 k = s.2 k)) := by
  have hl6 : l < 6 := by have := g.1.1.2.1; omega
  obtain ⟨k1, k2, k3⟩ := k
  have ok : ∀ j, j < x.2.2.1.length → okc (cdL x j) := fun j hj => (k1.code hj).2
  unfold wX11_farBy
  refine t_bind (words_E g ha hb) (fun s2 h2 => ?_)
  obtain ⟨z1, z2, z3⟩ := h2
  have k2' : RLf l x s2 := k2.keep (by rw [z1]) (by rw [z1]) (by rw [z1]) (by rw [z1])
  have q12 := k1.2.1.1.2
  refine t_mono (farR_h hxl hl6 k1.1.2.1 ok k1.2.2 k1.lq k3 wFuel (i := 0) rfl (Nat.zero_le _) k2' (by
    have e : wFuel = 1099511627776 := rfl
    omega)) (fun p hp => ⟨?_, fun k c hk => by rw [hp.2.1 k c hk, z1], fun k h1 h2 => by rw [hp.2.2 k h1, z2 k h2]⟩)
  rw [hp.1, List.drop_zero]
  exact FV_w (n := x.2.2.1.length) z3 ok k1.mem
end FVR
end
section
/-! The class measures: how far. -/
/-- what measuring touches -/
noncomputable def MF (k0 : Nat) (s0 s : wS) : Prop := (∀ k b, ¬ (k = k0 ∧ b = 9) → s.1 k b = s0.1 k b) ∧ (∀ k, k ≠ k0 + 6 → k ≠ k0 + 7 → k ≠ k0 + 8 → s.2 k = s0.2 k)
theorem MF.refl {k0 : Nat} {s : wS} : MF k0 s s := ⟨fun _ _ _ => rfl, fun _ _ _ _ => rfl⟩
theorem MF.trans {k0 : Nat} {s1 s2 s3 : wS} (a : MF k0 s1 s2) (b : MF k0 s2 s3) : MF k0 s1 s3 := ⟨fun k c h => (b.1 k c h).trans (a.1 k c h), fun k h1 h2 h3 => (b.2 k h1 h2 h3).trans (a.2 k h1 h2 h3)⟩
section MEAS
variable {s : wS} {x : lC} {l : Nat}
theorem bO2_9 (hl : l < 6) : bO2 (44 + 10 * l) 9 = true := by
  have : ∀ l, l < 6 → bO2 (44 + 10 * l) 9 = true := by decide +kernel
  exact this l hl
theorem MF.ja {s' : wS} (hl : l < 6) (f : MF (44 + 10 * l) s s') (g : JA s) : JA s' := JA_go g (fun k b h => f.1 k b (fun q => by
  rw [q.1, q.2, bO2_9 hl] at h
  cases h))
theorem MF.lk {s' : wS} (hl : l < 6) (f : MF (44 + 10 * l) s s') (h : LK2 l x s) : LK2 l x s' := by
  obtain ⟨h1, h2, h3⟩ := h
  exact ⟨h1.go (f.1 _ _ (by omega)) (f.1 _ _ (by omega)) (fun j a b => funext fun c => f.1 _ _ (by omega)), h2.keep (funext fun b => f.1 _ _ (by omega)) (funext fun b => f.1 _ _ (by omega)) (funext fun b => f.1 _ _ (by omega)) (funext fun b => f.1 _ _ (by omega)), h3⟩
theorem MF.f163 {s' : wS} (hl : l < 6) (f : MF (44 + 10 * l) s s') : s'.1 163 = s.1 163 := funext fun b => f.1 _ _ (by omega)
theorem wkd_L (hl : l < 6) : wkd (44 + 10 * l) = 3 := by
  have : ∀ l, l < 6 → wkd (44 + 10 * l) = 3 := by decide +kernel
  exact this l hl
/-- the place of two things in the table -/
theorem cell_E {kd a b : Int32} {i j : Nat} (hk : 0 ≤ kd.toInt ∧ kd.toInt ≤ 2) (ha : a = Int32.ofNat i) (hi : i < 8) (hb : b = Int32.ofNat j) (hj : j < 8) : ∃ t : Int32, wX3_cell kd a b s = some t ∧ t.toInt = (64 * kd.toNatClampNeg + 8 * i + j : Nat) ∧ t.toNatClampNeg = 64 * kd.toNatClampNeg + 8 * i + j := by
  have e8 : (8 : Int32).toInt = 8 := rfl
  have ea : a.toInt = i := by rw [ha, t_on (by omega)]
  have eb : b.toInt = j := by rw [hb, t_on (by omega)]
  have ek := t_cln hk.1
  have q1 : (kd * 8).toInt = kd.toInt * 8 := by rw [t_mul (by rw [e8]; omega) (by rw [e8]; omega), e8]
  have q2 : (kd * 8 + a).toInt = kd.toInt * 8 + i := by rw [t_add (by omega) (by omega), q1, ea]
  have q3 : ((kd * 8 + a) * 8).toInt = (kd.toInt * 8 + i) * 8 := by rw [t_mul (by rw [e8]; omega) (by rw [e8]; omega), e8, q2]
  have q4 : ((kd * 8 + a) * 8 + b).toInt = (kd.toInt * 8 + i) * 8 + j := by rw [t_add (by omega) (by omega), q3, eb]
  refine ⟨(kd * 8 + a) * 8 + b, rfl, by omega, by unfold Int32.toNatClampNeg; omega⟩
/-- how many things of a kind -/
theorem many_V (g : JA s) {kd : Int32} (hk : 0 ≤ kd.toInt ∧ kd.toInt ≤ 2) : ∃ M : Nat, wX0_manyOf 15 kd s = some (Int32.ofNat M) ∧ s.1 163 kd.toNatClampNeg = Int32.ofNat M ∧ M ≤ 8 := by
  obtain ⟨k3, k4⟩ := kind_3 hk
  obtain ⟨c0, c1, c2, -⟩ := g.c
  have b : 0 ≤ (s.1 163 kd.toNatClampNeg).toInt ∧ (s.1 163 kd.toNatClampNeg).toInt ≤ 8 := by
    rcases k4 with r | r | r <;> rw [r]
    · exact c0
    · exact c1
    · exact c2
  have e := t_cln b.1
  refine ⟨(s.1 163 kd.toNatClampNeg).toNatClampNeg, ?_, (t_oc b.1).symm, by omega⟩
  unfold wX0_manyOf
  rw [at_E (n := 3) rfl (by omega) (by omega) (by omega), t_sbe, t_oc b.1]
  exact congrArg some (many_E g _ k3)
theorem th_of {f : Nat → Int32} {kd a : Int32} {M i : Nat} (hk : 0 ≤ kd.toInt ∧ kd.toInt ≤ 2) (hM : f kd.toNatClampNeg = Int32.ofNat M) (hM8 : M ≤ 8) (ha : a = Int32.ofNat i) (hi : i < M) : TH f kd a := by
  have ea : a.toInt = i := by rw [ha, t_on (by omega)]
  exact ⟨hk, by omega, by rw [hM, t_on (by omega)]; omega⟩
theorem far_h14 (hl : l < 6) {kd a : Int32} {M i : Nat} (hk : 0 ≤ kd.toInt ∧ kd.toInt ≤ 2) (hM8 : M ≤ 8) (ha : a = Int32.ofNat i) (hi : i < M) : ∀ (n : Nat) {j : Nat} {b : Int32} {s : wS}, JA s → LK2 l x s → s.1 163 kd.toNatClampNeg = Int32.ofNat M → b = Int32.ofNat j → j ≤ M → M - j < n → Tot (wX3_measureFar_h14 (44 + 10 * l) 15 kd a n b s) (fun r => MF (44 + 10 * l) s r ∧ ∀ c, r.2 (44 + 10 * l + 8) c = if 64 * kd.toNatClampNeg + 8 * i + j ≤ c ∧ c < 64 * kd.toNatClampNeg + 8 * i + M then FVx x (s.1 163) kd i (c - (64 * kd.toNatClampNeg + 8 * i)) else s.2 (44 + 10 * l + 8) c) := by
  intro n
  induction n with
  | zero => intro j b s _ _ _ _ _ hm; exact absurd hm (by omega)
  | succ n ih =>
    intro j b s g k hM hb hj hm
    have eb : b.toInt = j := by rw [hb, t_on (by omega)]
    have eM : (Int32.ofNat M).toInt = M := t_on (by omega)
    obtain ⟨M', e1, e2, hM'8⟩ := many_V g hk
    obtain rfl : M' = M := by
      have := hM.symm.trans e2
      have := congrArg Int32.toInt this
      rw [eM, t_on (by omega)] at this
      omega
    rw [wX3_measureFar_h14, e1, t_sbe]
    by_cases c : b < Int32.ofNat M'
    · have hc := t_lt c
      rw [eb, eM] at hc
      have hjM : j < M' := by omega
      have tha : TH (s.1 163) kd a := th_of hk hM hM8 ha hi
      have thb : TH (s.1 163) kd b := th_of hk hM hM8 hb hjM
      have an : a.toNatClampNeg = i := by rw [ha, t_nc (by omega)]
      have bn : b.toNatClampNeg = j := by rw [hb, t_nc (by omega)]
      rw [if_pos c]
      refine t_bind (setWords_E (k0 := 44 + 10 * l) g tha thb) (fun s8 h8 => ?_)
      obtain ⟨z1, z2, z3⟩ := h8
      obtain ⟨t10, ct, c1, c2⟩ := cell_E (s := s8) hk ha (by omega) hb (by omega)
      have ekd := t_cln hk.1
      rw [ct, t_sbe, isOutside_E, if_pos ⟨by omega, by rw [c1, show (192 : Int32).toInt = 192 from rfl]; omega⟩, t_sbe, qi0]
      have m8 : MF (44 + 10 * l) s s8 := ⟨fun k b _ => by rw [z1], fun k h1 h2 h3 => z2 k h1⟩
      have k8 := m8.lk hl k
      refine t_bind (farC_E (wkd_L hl) k.2.2 k8.1) (fun p hp => ?_)
      obtain ⟨t15, s16⟩ := p
      obtain ⟨p1, p2⟩ := hp
      dsimp only at p1 p2 ⊢
      rw [wstL_E (by omega) (by omega), t_sbe, c2]
      have v : t15 = FVx x (s.1 163) kd i j := by
        rw [p1]
        have ok : ∀ j, j < x.2.2.1.length → okc (cdL x j) := fun j hj => (k.1.code hj).2
        rw [an, bn] at z3
        exact FV_w (n := x.2.2.1.length) z3 ok k.1.mem
      have m16 : MF (44 + 10 * l) s s16 := m8.trans ⟨p2.1, fun k h1 h2 h3 => p2.2 k h2⟩
      have t16 : s16.2 (44 + 10 * l + 8) = s.2 (44 + 10 * l + 8) := by rw [p2.2 _ (by omega), z2 _ (by omega)]
      have m18 : MF (44 + 10 * l) s (wupL s16 (44 + 10 * l + 8) (64 * kd.toNatClampNeg + 8 * i + j) t15) := ⟨m16.1, fun k h1 h2 h3 => by rw [wupL_n h3, m16.2 k h1 h2 h3]⟩
      unfold wX3_measureFar_j67
      refine t_mono (ih (m18.ja hl g) (m18.lk hl k) (by rw [m18.f163 hl]; exact hM) (by rw [hb, i_on1 (by omega)]) (by omega) (by omega)) (fun r hr => ⟨m18.trans hr.1, fun c => ?_⟩)
      rw [hr.2 c, m18.f163 hl, wupL_k, t16]
      by_cases q : c = 64 * kd.toNatClampNeg + 8 * i + j
      · rw [q, if_neg (by omega), if_pos (by omega), vpL_s, v, Nat.add_sub_cancel_left]
      · rw [vpL_n q]
        by_cases w : 64 * kd.toNatClampNeg + 8 * i + j ≤ c ∧ c < 64 * kd.toNatClampNeg + 8 * i + M'
        · rw [if_pos (by omega), if_pos w]
        · rw [if_neg (by omega), if_neg w]
    · have hc := t_ge c
      rw [eb, eM] at hc
      rw [if_neg c]
      exact t_some ⟨MF.refl, fun c => by rw [if_neg (by omega)]⟩
end MEAS
end
section
/-! The class measures: all things of a kind. -/
section MEAS2
variable {s : wS} {x : lC} {l : Nat}
theorem far_h2 (hl : l < 6) {kd : Int32} {M : Nat} (hk : 0 ≤ kd.toInt ∧ kd.toInt ≤ 2) (hM8 : M ≤ 8) : ∀ (n : Nat) {i : Nat} {a : Int32} {s : wS}, JA s → LK2 l x s → s.1 163 kd.toNatClampNeg = Int32.ofNat M → a = Int32.ofNat i → i ≤ M → M - i < n → Tot (wX3_measureFar_h2 (44 + 10 * l) 15 kd n a s) (fun r => MF (44 + 10 * l) s r ∧ (∀ p q, i ≤ p → p < M → q < M → r.2 (44 + 10 * l + 8) (64 * kd.toNatClampNeg + 8 * p + q) = FVx x (s.1 163) kd p q) ∧ (∀ c, ¬ (64 * kd.toNatClampNeg + 8 * i ≤ c ∧ c < 64 * kd.toNatClampNeg + 64) → r.2 (44 + 10 * l + 8) c = s.2 (44 + 10 * l + 8) c)) := by
  intro n
  induction n with
  | zero => intro i a s _ _ _ _ _ hm; exact absurd hm (by omega)
  | succ n ih =>
    intro i a s g k hM ha hi hm
    have ea : a.toInt = i := by rw [ha, t_on (by omega)]
    have eM : (Int32.ofNat M).toInt = M := t_on (by omega)
    obtain ⟨M', e1, e2, hM'8⟩ := many_V g hk
    obtain rfl : M' = M := by
      have := hM.symm.trans e2
      have := congrArg Int32.toInt this
      rw [eM, t_on (by omega)] at this
      omega
    rw [wX3_measureFar_h2, e1, t_sbe]
    by_cases c : a < Int32.ofNat M'
    · have hc := t_lt c
      rw [ea, eM] at hc
      rw [if_pos c]
      refine t_bind (far_h14 hl hk hM8 ha (by omega) wFuel (j := 0) g k hM rfl (Nat.zero_le _) (by
        have e : wFuel = 1099511627776 := rfl
        omega)) (fun s20 h20 => ?_)
      obtain ⟨m, v⟩ := h20
      refine t_mono (ih (m.ja hl g) (m.lk hl k) (by rw [m.f163 hl]; exact hM) (by rw [ha, i_on1 (by omega)]) (by omega) (by omega)) (fun r hr => ⟨m.trans hr.1, fun p q hp hpM hqM => ?_, fun c hc' => ?_⟩)
      · by_cases w : p = i
        · rw [w, hr.2.2 _ (by omega), v _, if_pos (by omega), Nat.add_sub_cancel_left]
        · rw [hr.2.1 p q (by omega) hpM hqM, m.f163 hl]
      · rw [hr.2.2 c (by omega), v c, if_neg (by omega)]
    · have hc := t_ge c
      rw [ea, eM] at hc
      rw [if_neg c]
      exact t_some ⟨MF.refl, fun p q h1 h2 _ => absurd h1 (by omega), fun c _ => rfl⟩
theorem measFar_E (hl : l < 6) (g : JA s) (k : LK2 l x s) {kd : Int32} {M : Nat} (hk : 0 ≤ kd.toInt ∧ kd.toInt ≤ 2) (hM8 : M ≤ 8) (hM : s.1 163 kd.toNatClampNeg = Int32.ofNat M) : Tot (wX3_measureFar (44 + 10 * l) 15 kd s) (fun r => MF (44 + 10 * l) s r ∧ (∀ p q, p < M → q < M → r.2 (44 + 10 * l + 8) (64 * kd.toNatClampNeg + 8 * p + q) = FVx x (s.1 163) kd p q) ∧ (∀ c, ¬ (64 * kd.toNatClampNeg ≤ c ∧ c < 64 * kd.toNatClampNeg + 64) → r.2 (44 + 10 * l + 8) c = s.2 (44 + 10 * l + 8) c)) := by
  unfold wX3_measureFar
  refine t_bind (far_h2 hl hk hM8 wFuel (i := 0) g k hM rfl (Nat.zero_le _) (by
    have e : wFuel = 1099511627776 := rfl
    omega)) (fun s24 h24 => t_some ⟨h24.1, fun p q hp hq => h24.2.1 p q (Nat.zero_le _) hp hq, fun c hc => h24.2.2 c (by omega)⟩)
/-- those as near to one as to another, as bits -/
noncomputable def nb2 (F : Nat → Nat → Int64) (p q : Nat) : Nat → Int32
  | 0 => 0
  | n + 1 => if F q n < F p n then nb2 F p q n else (nb2 F p q n ||| (1 <<< (Int32.ofNat n &&& 31)))
theorem farOf_E {kd a b : Int32} {i j : Nat} (hk : 0 ≤ kd.toInt ∧ kd.toInt ≤ 2) (ha : a = Int32.ofNat i) (hi : i < 8) (hb : b = Int32.ofNat j) (hj : j < 8) {k0 : Nat} : wX3_farOf k0 kd a b s = some (s.2 (k0 + 8) (64 * kd.toNatClampNeg + 8 * i + j)) := by
  obtain ⟨t, ct, c1, c2⟩ := cell_E (s := s) hk ha hi hb hj
  have ekd := t_cln hk.1
  unfold wX3_farOf
  rw [ct, t_sbe, isOutside_E, if_pos ⟨by omega, by rw [c1, show (192 : Int32).toInt = 192 from rfl]; omega⟩, t_sbe, qi0, wldL_E (by omega) (by omega), t_sbe, c2]
theorem near_h30 {k0 : Nat} {kd a b : Int32} {i j M : Nat} (hk : 0 ≤ kd.toInt ∧ kd.toInt ≤ 2) (hM8 : M ≤ 8) (ha : a = Int32.ofNat i) (hi : i < 8) (hb : b = Int32.ofNat j) (hj : j < 8) : ∀ (n : Nat) {c : Nat} {x6 x7 : Int32}, x7 = Int32.ofNat c → c ≤ M → x6 = nb2 (fun p q => s.2 (k0 + 8) (64 * kd.toNatClampNeg + 8 * p + q)) i j c → M - c < n → wX3_measureNear_h30 k0 kd (Int32.ofNat M) a b s n x6 x7 = some (nb2 (fun p q => s.2 (k0 + 8) (64 * kd.toNatClampNeg + 8 * p + q)) i j M) := by
  intro n
  induction n with
  | zero => intro c x6 x7 _ _ _ hm; exact absurd hm (by omega)
  | succ n ih =>
    intro c x6 x7 h7 hc h6 hm
    have e7 : x7.toInt = c := by rw [h7, t_on (by omega)]
    have eM : (Int32.ofNat M).toInt = M := t_on (by omega)
    have e1 : x7 + 1 = Int32.ofNat (c + 1) := by rw [h7, i_on1 (by omega)]
    rw [wX3_measureNear_h30]
    by_cases d : x7 < Int32.ofNat M
    · have hd := t_lt d
      rw [e7, eM] at hd
      rw [if_pos d, farOf_E hk ha hi h7 (by omega), t_sbe, farOf_E hk hb hj h7 (by omega), t_sbe]
      unfold wX3_measureNear_j67
      by_cases z : s.2 (k0 + 8) (64 * kd.toNatClampNeg + 8 * j + c) < s.2 (k0 + 8) (64 * kd.toNatClampNeg + 8 * i + c)
      · rw [if_pos z]
        refine ih e1 (by omega) ?_ (by omega)
        show x6 = (if s.2 (k0 + 8) (64 * kd.toNatClampNeg + 8 * j + c) < s.2 (k0 + 8) (64 * kd.toNatClampNeg + 8 * i + c) then _ else _)
        rw [if_pos z, h6]
      · rw [if_neg z]
        refine ih e1 (by omega) ?_ (by omega)
        show _ = (if s.2 (k0 + 8) (64 * kd.toNatClampNeg + 8 * j + c) < s.2 (k0 + 8) (64 * kd.toNatClampNeg + 8 * i + c) then _ else _)
        rw [if_neg z, h6, h7]
    · have hd := t_ge d
      rw [e7, eM] at hd
      obtain rfl : c = M := by omega
      rw [if_neg d, h6]
end MEAS2
end
section
/-! The class measures: who is as near. -/
noncomputable def MG (k0 : Nat) (s0 s : wS) : Prop := (∀ k b, ¬ (k = k0 ∧ (b = 9 ∨ b = 12)) → k ≠ k0 + 9 → s.1 k b = s0.1 k b) ∧ (∀ k, k ≠ k0 + 6 → k ≠ k0 + 7 → k ≠ k0 + 8 → s.2 k = s0.2 k)
theorem MG.refl {k0 : Nat} {s : wS} : MG k0 s s := ⟨fun _ _ _ _ => rfl, fun _ _ _ _ => rfl⟩
theorem MG.trans {k0 : Nat} {s1 s2 s3 : wS} (a : MG k0 s1 s2) (b : MG k0 s2 s3) : MG k0 s1 s3 := ⟨fun k c h1 h2 => (b.1 k c h1 h2).trans (a.1 k c h1 h2), fun k h1 h2 h3 => (b.2 k h1 h2 h3).trans (a.2 k h1 h2 h3)⟩
theorem MF.mg {k0 : Nat} {s s' : wS} (f : MF k0 s s') : MG k0 s s' := ⟨fun k b h1 _ => f.1 k b (by omega), f.2⟩
section MEAS3
variable {s : wS} {x : lC} {l : Nat}
theorem bO2_x (hl : l < 6) : bO2 (44 + 10 * l) 9 = true ∧ bO2 (44 + 10 * l) 12 = true := by
  have : ∀ l, l < 6 → bO2 (44 + 10 * l) 9 = true ∧ bO2 (44 + 10 * l) 12 = true := by decide +kernel
  exact this l hl
theorem bO2_y (hl : l < 6) {b : Nat} : bO2 (44 + 10 * l + 9) b = true := by
  unfold bO2
  rw [show (44 + 10 * l + 9 - 44) % 10 = 9 by omega]
  simp only [Bool.or_eq_true, Bool.and_eq_true, Nat.ble_eq, Nat.beq_eq]
  omega
theorem MG.ja {s' : wS} (hl : l < 6) (f : MG (44 + 10 * l) s s') (g : JA s) : JA s' := JA_go g (fun k b h => f.1 k b (fun q => by
  rcases q.2 with r | r
  · rw [q.1, r, (bO2_x hl).1] at h; cases h
  · rw [q.1, r, (bO2_x hl).2] at h; cases h) (fun q => by
  rw [q, bO2_y hl] at h
  cases h))
theorem MG.lk {s' : wS} (hl : l < 6) (f : MG (44 + 10 * l) s s') (h : LK2 l x s) : LK2 l x s' := by
  obtain ⟨h1, h2, h3⟩ := h
  exact ⟨h1.go (f.1 _ _ (by omega) (by omega)) (f.1 _ _ (by omega) (by omega)) (fun j a b => funext fun c => f.1 _ _ (by omega) (by omega)), h2.keep (funext fun b => f.1 _ _ (by omega) (by omega)) (funext fun b => f.1 _ _ (by omega) (by omega)) (funext fun b => f.1 _ _ (by omega) (by omega)) (funext fun b => f.1 _ _ (by omega) (by omega)), h3⟩
theorem MG.f163 {s' : wS} (hl : l < 6) (f : MG (44 + 10 * l) s s') : s'.1 163 = s.1 163 := funext fun b => f.1 _ _ (by omega) (by omega)
theorem wln_9 (hl : l < 6) : wln (44 + 10 * l + 9) = 192 := (wly_3_11 (wkd_L hl)).2.2
/-- the far table read as a function -/
noncomputable abbrev FT (k0 : Nat) (kd : Int32) (s : wS) : Nat → Nat → Int64 := fun p q => s.2 (k0 + 8) (64 * kd.toNatClampNeg + 8 * p + q)
theorem near_h18 (hl : l < 6) {kd a : Int32} {i M : Nat} (hk : 0 ≤ kd.toInt ∧ kd.toInt ≤ 2) (hM8 : M ≤ 8) (ha : a = Int32.ofNat i) (hi : i < M) : ∀ (n : Nat) {j : Nat} {b : Int32} {s : wS}, b = Int32.ofNat j → j ≤ M → M - j < n → Tot (wX3_measureNear_h18 (44 + 10 * l) kd (Int32.ofNat M) a n b s) (fun r => (∀ k, k ≠ 44 + 10 * l + 9 → r.1 k = s.1 k) ∧ r.2 = s.2 ∧ ∀ c, r.1 (44 + 10 * l + 9) c = if 64 * kd.toNatClampNeg + 8 * i + j ≤ c ∧ c < 64 * kd.toNatClampNeg + 8 * i + M then nb2 (FT (44 + 10 * l) kd s) i (c - (64 * kd.toNatClampNeg + 8 * i)) M else s.1 (44 + 10 * l + 9) c) := by
  intro n
  induction n with
  | zero => intro j b s _ _ hm; exact absurd hm (by omega)
  | succ n ih =>
    intro j b s hb hj hm
    have eb : b.toInt = j := by rw [hb, t_on (by omega)]
    have eM : (Int32.ofNat M).toInt = M := t_on (by omega)
    rw [wX3_measureNear_h18]
    by_cases c : b < Int32.ofNat M
    · have hc := t_lt c
      rw [eb, eM] at hc
      obtain ⟨t, ct, c1, c2⟩ := cell_E (s := s) hk ha (by omega) hb (by omega)
      have ekd := t_cln hk.1
      rw [if_pos c, near_h30 (s := s) (k0 := 44 + 10 * l) (M := M) hk hM8 ha (by omega) hb (by omega) wFuel (c := 0) (x6 := 0) (x7 := 0) rfl (Nat.zero_le _) rfl (by
        have e : wFuel = 1099511627776 := rfl
        omega), t_sbe, ct, t_sbe, set_E (n := 192) (wln_9 hl) (by decide) (by omega) (by omega), t_sbe, c2]
      refine t_mono (ih (j := j + 1) (by rw [hb, i_on1 (by omega)]) (by omega) (by omega)) (fun r hr => ⟨fun k hk => by rw [hr.1 k hk, wupI_n hk], by rw [hr.2.1]; rfl, fun c => ?_⟩)
      rw [hr.2.2 c]
      by_cases q : c = 64 * kd.toNatClampNeg + 8 * i + j
      · rw [q, if_neg (by omega), if_pos (by omega), wup_same, Nat.add_sub_cancel_left]
      · rw [wup_nb q]
        by_cases w : 64 * kd.toNatClampNeg + 8 * i + j ≤ c ∧ c < 64 * kd.toNatClampNeg + 8 * i + M
        · rw [if_pos (by omega), if_pos w]
          rfl
        · rw [if_neg (by omega), if_neg w]
    · have hc := t_ge c
      rw [eb, eM] at hc
      rw [if_neg c]
      exact t_some ⟨fun _ _ => rfl, rfl, fun c => by rw [if_neg (by omega)]⟩
theorem near_h9 (hl : l < 6) {kd : Int32} {M : Nat} (hk : 0 ≤ kd.toInt ∧ kd.toInt ≤ 2) (hM8 : M ≤ 8) : ∀ (n : Nat) {i : Nat} {a : Int32} {s : wS}, a = Int32.ofNat i → i ≤ M → M - i < n → Tot (wX3_measureNear_h9 (44 + 10 * l) kd (Int32.ofNat M) n a s) (fun r => (∀ k, k ≠ 44 + 10 * l + 9 → r.1 k = s.1 k) ∧ r.2 = s.2 ∧ (∀ p q, i ≤ p → p < M → q < M → r.1 (44 + 10 * l + 9) (64 * kd.toNatClampNeg + 8 * p + q) = nb2 (FT (44 + 10 * l) kd s) p q M) ∧ (∀ c, ¬ (64 * kd.toNatClampNeg + 8 * i ≤ c ∧ c < 64 * kd.toNatClampNeg + 64) → r.1 (44 + 10 * l + 9) c = s.1 (44 + 10 * l + 9) c)) := by
  intro n
  induction n with
  | zero => intro i a s _ _ hm; exact absurd hm (by omega)
  | succ n ih =>
    intro i a s ha hi hm
    have ea : a.toInt = i := by rw [ha, t_on (by omega)]
    have eM : (Int32.ofNat M).toInt = M := t_on (by omega)
    rw [wX3_measureNear_h9]
    by_cases c : a < Int32.ofNat M
    · have hc := t_lt c
      rw [ea, eM] at hc
      rw [if_pos c]
      refine t_bind (near_h18 hl hk hM8 ha (by omega) wFuel (j := 0) rfl (Nat.zero_le _) (by
        have e : wFuel = 1099511627776 := rfl
        omega)) (fun s21 h21 => ?_)
      obtain ⟨m1, m2, v⟩ := h21
      refine t_mono (ih (i := i + 1) (by rw [ha, i_on1 (by omega)]) (by omega) (by omega)) (fun r hr => ⟨fun k hk => by rw [hr.1 k hk, m1 k hk], by rw [hr.2.1, m2], fun p q hp hpM hqM => ?_, fun c hc' => ?_⟩)
      · have e : FT (44 + 10 * l) kd s21 = FT (44 + 10 * l) kd s := by unfold FT; rw [m2]
        by_cases w : p = i
        · rw [w, hr.2.2.2 _ (by omega), v _, if_pos (by omega), Nat.add_sub_cancel_left]
        · rw [hr.2.2.1 p q (by omega) hpM hqM, e]
      · rw [hr.2.2.2 c (by omega), v c, if_neg (by omega)]
    · have hc := t_ge c
      rw [ea, eM] at hc
      rw [if_neg c]
      exact t_some ⟨fun _ _ => rfl, rfl, fun p q h1 h2 _ => absurd h1 (by omega), fun c _ => rfl⟩
theorem nb2_congr {F F' : Nat → Nat → Int64} {p q : Nat} : ∀ {n : Nat}, (∀ c, c < n → F p c = F' p c ∧ F q c = F' q c) → nb2 F p q n = nb2 F' p q n := by
  intro n
  induction n with
  | zero => intro _; rfl
  | succ n ih =>
    intro h
    show (if F q n < F p n then nb2 F p q n else (nb2 F p q n ||| (1 <<< (Int32.ofNat n &&& 31)))) = (if F' q n < F' p n then nb2 F' p q n else (nb2 F' p q n ||| (1 <<< (Int32.ofNat n &&& 31))))
    rw [ih (fun c hc => h c (by omega)), (h n (by omega)).1, (h n (by omega)).2]
/-- a LAW's tables are right for a kind -/
noncomputable def TBk (l : Nat) (x : lC) (kd : Int32) (s : wS) : Prop := ∀ M : Nat, s.1 163 kd.toNatClampNeg = Int32.ofNat M → M ≤ 8 → ∀ p q, p < M → q < M → s.2 (44 + 10 * l + 8) (64 * kd.toNatClampNeg + 8 * p + q) = FVx x (s.1 163) kd p q ∧ s.1 (44 + 10 * l + 9) (64 * kd.toNatClampNeg + 8 * p + q) = nb2 (FVx x (s.1 163) kd) p q M
end MEAS3
end
section
/-! The class measures a LAW, whole. -/
section MEAS4
variable {s : wS} {x : lC} {l : Nat}
theorem knd_cn {kd kd' : Int32} (h : 0 ≤ kd.toInt ∧ kd.toInt ≤ 2) (h' : 0 ≤ kd'.toInt ∧ kd'.toInt ≤ 2) (n : kd' ≠ kd) : kd'.toNatClampNeg ≠ kd.toNatClampNeg := fun e => n (Int32.toInt_inj.1 (by have a := t_cln h.1; have b := t_cln h'.1; omega))
theorem measNear_E (hl : l < 6) (g : JA s) {kd : Int32} {M : Nat} (hk : 0 ≤ kd.toInt ∧ kd.toInt ≤ 2) (hM8 : M ≤ 8) (hM : s.1 163 kd.toNatClampNeg = Int32.ofNat M) : Tot (wX3_measureNear (44 + 10 * l) 15 kd s) (fun r => (∀ k, k ≠ 44 + 10 * l + 9 → r.1 k = s.1 k) ∧ r.2 = s.2 ∧ (∀ p q, p < M → q < M → r.1 (44 + 10 * l + 9) (64 * kd.toNatClampNeg + 8 * p + q) = nb2 (FT (44 + 10 * l) kd s) p q M) ∧ (∀ c, ¬ (64 * kd.toNatClampNeg ≤ c ∧ c < 64 * kd.toNatClampNeg + 64) → r.1 (44 + 10 * l + 9) c = s.1 (44 + 10 * l + 9) c)) := by
  obtain ⟨M', e1, e2, hM'8⟩ := many_V g hk
  obtain rfl : M' = M := by
    have := congrArg Int32.toInt (hM.symm.trans e2)
    rw [t_on (by omega), t_on (by omega)] at this
    omega
  unfold wX3_measureNear
  rw [e1, t_sbe]
  refine t_bind (near_h9 hl hk hM8 wFuel (i := 0) rfl (Nat.zero_le _) (by
    have e : wFuel = 1099511627776 := rfl
    omega)) (fun s27 h27 => t_some ⟨h27.1, h27.2.1, fun p q hp hq => h27.2.2.1 p q (Nat.zero_le _) hp hq, fun c hc => h27.2.2.2 c (by omega)⟩)
theorem meas_one (hl : l < 6) (g : JA s) (k : LK2 l x s) {kd : Int32} (hk : 0 ≤ kd.toInt ∧ kd.toInt ≤ 2) : Tot ((wX3_measureFar (44 + 10 * l) 15 kd s).bind fun s3 => wX3_measureNear (44 + 10 * l) 15 kd s3) (fun r => MG (44 + 10 * l) s r ∧ TBk l x kd r ∧ ∀ kd' : Int32, (0 ≤ kd'.toInt ∧ kd'.toInt ≤ 2) → kd' ≠ kd → TBk l x kd' s → TBk l x kd' r) := by
  obtain ⟨M, -, hM, hM8⟩ := many_V g hk
  refine t_bind (measFar_E hl g k hk hM8 hM) (fun s3 h3 => ?_)
  obtain ⟨m3, v3, u3⟩ := h3
  have g3 := m3.ja hl g
  have f3 := m3.f163 hl
  refine t_mono (measNear_E hl g3 hk hM8 (by rw [f3]; exact hM)) (fun r hr => ?_)
  obtain ⟨a1, a2, a3, a4⟩ := hr
  have fr : r.1 163 = s.1 163 := by rw [a1 163 (by omega), f3]
  have mg : MG (44 + 10 * l) s r := m3.mg.trans ⟨fun k b _ h => by rw [a1 k h], fun k _ _ _ => by rw [a2]⟩
  refine ⟨mg, fun M' hM' hM'8 p q hp hq => ?_, fun kd' hk' ne tb M' hM' hM'8 p q hp hq => ?_⟩
  · rw [fr] at hM' ⊢
    obtain rfl : M' = M := by
      have := congrArg Int32.toInt (hM'.symm.trans hM)
      rw [t_on (by omega), t_on (by omega)] at this
      omega
    refine ⟨by rw [a2]; exact v3 p q hp hq, ?_⟩
    rw [a3 p q hp hq]
    exact nb2_congr (fun c hc => ⟨v3 p c hp hc, v3 q c hq hc⟩)
  · rw [fr] at hM' ⊢
    obtain ⟨t1, t2⟩ := tb M' hM' hM'8 p q hp hq
    have nk := knd_cn hk hk' ne
    refine ⟨?_, ?_⟩
    · rw [a2, u3 _ (by omega)]; exact t1
    · rw [a4 _ (by omega), m3.1 _ _ (by omega)]; exact t2
theorem meas_h2 (hl : l < 6) : ∀ (n : Nat) {i : Nat} {x2 : Int32} {s : wS}, JA s → LK2 l x s → x2 = Int32.ofNat i → i ≤ 3 → 3 - i < n → (∀ j, j < i → TBk l x (Int32.ofNat j) s) → Tot (wX3_measure_h2 (44 + 10 * l) 15 n x2 s) (fun r => MG (44 + 10 * l) s r ∧ ∀ j, j < 3 → TBk l x (Int32.ofNat j) r) := by
  intro n
  induction n with
  | zero => intro i x2 s _ _ _ _ hm; exact absurd hm (by omega)
  | succ n ih =>
    intro i x2 s g k h2 hi hm tb
    have e2 : x2.toInt = i := by rw [h2, t_on (by omega)]
    rw [wX3_measure_h2]
    by_cases c : x2 < 3
    · have hc := t_lt c
      rw [e2, show (3 : Int32).toInt = 3 from rfl] at hc
      rw [if_pos c]
      have one := meas_one hl g k (kd := x2) ⟨by omega, by omega⟩
      obtain ⟨r, er, m, t1, t2⟩ := one
      have e : ((wX3_measureFar (44 + 10 * l) 15 x2 s).bind fun s3 => (wX3_measureNear (44 + 10 * l) 15 x2 s3).bind fun s6 => wX3_measure_h2 (44 + 10 * l) 15 n (x2 + 1) s6) = ((wX3_measureFar (44 + 10 * l) 15 x2 s).bind fun s3 => wX3_measureNear (44 + 10 * l) 15 x2 s3).bind fun s6 => wX3_measure_h2 (44 + 10 * l) 15 n (x2 + 1) s6 := (Option.bind_assoc ..).symm
      rw [e, er, t_sbe]
      refine t_mono (ih (m.ja hl g) (m.lk hl k) (by rw [h2, i_on1 (by omega)]) (by omega) (by omega) (fun j hj => ?_)) (fun r' hr' => ⟨m.trans hr'.1, hr'.2⟩)
      by_cases q : j = i
      · rw [q, ← h2]; exact t1
      · have ej : (Int32.ofNat j).toInt = j := t_on (by omega)
        refine t2 (Int32.ofNat j) ⟨by omega, by omega⟩ (fun q' => q ?_) (tb j (by omega))
        have := congrArg Int32.toInt q'
        omega
    · have hc := t_ge c
      rw [e2, show (3 : Int32).toInt = 3 from rfl] at hc
      obtain rfl : i = 3 := by omega
      rw [if_neg c]
      exact t_some ⟨MG.refl, tb⟩
/-- a LAW's tables are right -/
noncomputable def TBL (l : Nat) (x : lC) (s : wS) : Prop := ∀ j, j < 3 → TBk l x (Int32.ofNat j) s
theorem measure_E (hl : l < 6) (g : JA s) (k : LK2 l x s) : Tot (wX3_measure (44 + 10 * l) 15 s) (fun r => MG (44 + 10 * l) s r ∧ ¬ r.1 (44 + 10 * l) 12 = 0 ∧ TBL l x r) := by
  unfold wX3_measure
  refine t_bind (meas_h2 hl wFuel (i := 0) g k rfl (by decide) (by
    have e : wFuel = 1099511627776 := rfl
    omega) (fun j hj => absurd hj (by omega))) (fun s9 h9 => ?_)
  refine t_bind (t_pfZ (B := fun _ _ => true) (by decide) rfl) (fun s12 h12 => t_some ?_)
  have h12 := h12.2
  obtain ⟨m, t⟩ := h9
  have z : ∀ k, k ≠ 44 + 10 * l → s12.1 k = s9.1 k := fun k hk => by rw [h12, wupI_n hk]
  have z2 : s12.2 = s9.2 := by rw [h12]; rfl
  refine ⟨⟨fun k b h1 h2 => ?_, fun k h1 h2 h3 => by rw [z2]; exact m.2 k h1 h2 h3⟩, ?_, fun j hj M hM hM8 p q hp hq => ?_⟩
  · by_cases w : k = 44 + 10 * l
    · rw [w, h12, wup_nb (by omega), ← w]
      exact m.1 k b h1 h2
    · rw [z k w]
      exact m.1 k b h1 h2
  · rw [h12, wup_same]
    decide
  · rw [z 163 (by omega)] at hM ⊢
    rw [z2, z _ (by omega)]
    exact t j hj M hM hM8 p q hp hq
end MEAS4
end
section
/-! A LAW in use; far. -/
/-- what is between the calls, with the tables -/
noncomputable def TBS (s : wS) : Prop := ∀ l : Nat, (l : Int) < (s.1 152 2).toInt → s.1 (44 + 10 * l) 12 = 0 ∨ ∃ x, LK2 l x s ∧ TBL l x s
noncomputable def JB (s : wS) : Prop := JA s ∧ TBS s
section USE
variable {s : wS}
/-- the LAW is there and a COURT is told -/
noncomputable def UL (s : wS) (x1 : Int32) : Prop := 0 < (s.1 163 0).toInt ∧ 0 ≤ x1.toInt ∧ x1.toInt < (s.1 152 2).toInt
theorem lawInUse_E (g : JB s) (x1 : Int32) : (¬ UL s x1 ∧ wX10_lawInUse x1 s = some (none, s)) ∨ (UL s x1 ∧ ∃ l s2 x, l < 6 ∧ x1 = Int32.ofNat l ∧ (l : Int) < (s.1 152 2).toInt ∧ wX10_lawInUse x1 s = some (some (44 + 10 * l), s2) ∧ MG (44 + 10 * l) s s2 ∧ LK2 l x s2 ∧ TBL l x s2 ∧ ¬ s2.1 (44 + 10 * l) 12 = 0) := by
  obtain ⟨ja, tb⟩ := g
  have c6 := ja.1.1.2.1
  unfold wX10_lawInUse UL
  rw [isTold15_E ja]
  by_cases told : 0 < (s.1 163 0).toInt
  · rw [if_pos told, t_sbe, qi1, isOutside_E, ja.2.1]
    by_cases k : 0 ≤ x1.toInt ∧ x1.toInt < (s.1 152 2).toInt
    · right
      refine ⟨⟨told, k⟩, x1.toNatClampNeg, ?_⟩
      have xc := t_cln k.1
      have hl6 : x1.toNatClampNeg < 6 := by omega
      obtain ⟨k2, hk, hk3, rfl⟩ := t_ldR3 (i := x1) k.1 (by omega)
      rw [if_pos k, t_sbe, qi0, isOutside_E, if_pos ⟨k.1, by rw [show (6 : Int32).toInt = 6 from rfl]; omega⟩, t_sbe, qi0, hk, t_sbe]
      by_cases z : s.1 (44 + 10 * x1.toNatClampNeg) 12 = 0
      · obtain ⟨x, lk⟩ := ja.lk (l := x1.toNatClampNeg) (by omega)
        obtain ⟨r, er, m, fl, t⟩ := measure_E hl6 ja lk
        rw [if_pos z, er, t_sbe]
        exact ⟨r, x, hl6, (t_oc k.1).symm, by omega, rfl, m, m.lk hl6 lk, t, fl⟩
      · rcases tb x1.toNatClampNeg (by omega) with q | ⟨x, lk, t⟩
        · exact absurd q z
        · rw [if_neg z]
          exact ⟨s, x, hl6, (t_oc k.1).symm, by omega, rfl, MG.refl, lk, t, z⟩
    · left
      refine ⟨fun q => k q.2, ?_⟩
      rw [if_neg k, t_sbe, qi1]
  · left
    refine ⟨fun q => told q.1, ?_⟩
    rw [if_neg told, t_sbe, qi0]
theorem isLaw_E {x1 : Int32} : wX11_isLaw x1 s = some (if 0 ≤ x1.toInt ∧ x1.toInt < (s.1 152 2).toInt then 1 else 0) := by
  unfold wX11_isLaw
  by_cases c : x1 < 0
  · have := t_lt c
    rw [t_i0] at this
    rw [if_pos c, if_neg (by omega)]
  · have a := t_ge c
    rw [t_i0] at a
    rw [if_neg c]
    by_cases d : x1 < s.1 152 2
    · rw [if_pos d, if_pos ⟨a, t_lt d⟩]
    · rw [if_neg d, if_neg (fun q => d (Int32.lt_iff_toInt_lt.2 q.2))]
theorem th_0 (g : JA s) (h : ¬ 0 < (s.1 163 0).toInt) {x y : Int32} : ¬ TH (s.1 163) x y := by
  rintro ⟨k, y0, y1⟩
  obtain ⟨c0, -⟩ := g.c
  have z : s.1 163 0 = 0 := Int32.toInt_inj.1 (by rw [t_i0]; omega)
  obtain ⟨z1, z2⟩ := g.h.2.2.1 z
  have : s.1 163 x.toNatClampNeg = 0 := by
    rcases (kind_3 k).2 with r | r | r <;> rw [r]
    · exact z
    · exact z1
    · exact z2
  rw [this, t_i0] at y1
  omega
/-- one of the three kinds as a number -/
theorem kd_ofNat {kd : Int32} (h : 0 ≤ kd.toInt ∧ kd.toInt ≤ 2) : kd = Int32.ofNat kd.toNatClampNeg ∧ kd.toNatClampNeg < 3 := ⟨(t_oc h.1).symm, (kind_3 h).1⟩
theorem TBL.far {l : Nat} {x : lC} (g : JA s) (t : TBL l x s) {kd a b : Int32} (ha : TH (s.1 163) kd a) (hb : TH (s.1 163) kd b) : s.2 (44 + 10 * l + 8) (64 * kd.toNatClampNeg + 8 * a.toNatClampNeg + b.toNatClampNeg) = FVx x (s.1 163) kd a.toNatClampNeg b.toNatClampNeg := by
  obtain ⟨M, -, hM, hM8⟩ := many_V g ha.1
  obtain ⟨k1, k2⟩ := kd_ofNat ha.1
  have t := t kd.toNatClampNeg k2
  rw [← k1] at t
  have eM : (Int32.ofNat M).toInt = M := t_on (by omega)
  have a1 := ha.2.2
  have b1 := hb.2.2
  rw [hM, eM] at a1 b1
  have ac := t_cln ha.2.1
  have bc := t_cln hb.2.1
  exact (t M hM hM8 _ _ (by omega) (by omega)).1
theorem op_far {x1 x2 x3 x4 : Int32} (g : JB s) : ∃ v s1 v2 s2, wX10_far x1 x2 x3 x4 s = some (v, s1) ∧ wX11_far x1 x2 x3 x4 s1 = some (v2, s2) ∧ v = v2 := by
  unfold wX10_far wX11_far
  rcases lawInUse_E g x1 with ⟨no, e⟩ | ⟨us, l, s2, x, hl6, hx1, hlc, e, m, lk, t, fl⟩
  · rw [e, t_sbe]
    refine ⟨-1000000000000, s, -1000000000000, s, rfl, ?_, rfl⟩
    rw [isLaw_E]
    by_cases k : 0 ≤ x1.toInt ∧ x1.toInt < (s.1 152 2).toInt
    · rw [if_pos k, t_sbe, qi1]
      have nt : ¬ 0 < (s.1 163 0).toInt := fun q => no ⟨q, k⟩
      rcases has_E g.1 x2 x3 with ⟨a, -, -⟩ | ⟨-, -, a⟩
      · exact absurd a (th_0 g.1 nt)
      · rw [a, t_sbe, qi0]
    · rw [if_neg k, t_sbe, qi0]
  · rw [e, t_sbe]
    have g2 : JA s2 := m.ja hl6 g.1
    have c2 : s2.1 152 2 = s.1 152 2 := m.1 152 2 (by omega) (by omega)
    show ∃ v s1 v2 s3, ((wX0_has 15 x2 x3 s2).bind fun t5 => if t5 = 0 then (some ((-1000000000000), s2)) else ((wX0_has 15 x2 x4 s2).bind fun t8 => if t8 = 0 then (some ((-1000000000000), s2)) else ((wX3_farOf (44 + 10 * l) x2 x3 x4 s2).bind fun t11 => some (t11, s2)))) = some (v, s1) ∧ _
    rcases has_E g2 x2 x3 with ⟨a, a1, a2⟩ | ⟨-, a1, a2⟩
    · rw [a1, t_sbe, qi1]
      rcases has_E g2 x2 x4 with ⟨b, b1, b2⟩ | ⟨-, b1, b2⟩
      · obtain ⟨x38, xo3, -, -⟩ := th_ix g2 a
        obtain ⟨x48, xo4, -, -⟩ := th_ix g2 b
        rw [b1, t_sbe, qi1, farOf_E a.1 xo3 x38 xo4 x48, t_sbe, TBL.far g2 t a b]
        obtain ⟨⟨v, s3⟩, ev, hv, -⟩ := farR_E g2 (by rw [c2]; exact hlc) lk hx1 a b
        refine ⟨_, s2, v, s3, rfl, ?_, hv.symm⟩
        rw [isLaw_E, if_pos ⟨us.2.1, by rw [c2]; exact us.2.2⟩, t_sbe, qi1, a2, t_sbe, qi1, b2, t_sbe, qi1, ev]
        rfl
      · rw [b1, t_sbe, qi0]
        refine ⟨_, _, -1000000000000, s2, rfl, ?_, rfl⟩
        rw [isLaw_E, if_pos ⟨us.2.1, by rw [c2]; exact us.2.2⟩, t_sbe, qi1, a2, t_sbe, qi1, b2, t_sbe, qi0]
    · rw [a1, t_sbe, qi0]
      refine ⟨_, _, -1000000000000, s2, rfl, ?_, rfl⟩
      rw [isLaw_E, if_pos ⟨us.2.1, by rw [c2]; exact us.2.2⟩, t_sbe, qi1, a2, t_sbe, qi0]
end USE
end
section
/-! What leaves the tables right. -/
theorem WD_congr {f f' : Nat → Int32} {kd : Int32} {a b : Nat} (ha : a < 8) (hb : b < 8) (h : ∀ i, 10 ≤ i → i ≤ 41 → f' i = f i) : WD f' kd a b = WD f kd a b := by
  funext j
  unfold WD
  rw [h (10 + 2 * a) (by omega) (by omega), h (10 + 2 * b) (by omega) (by omega), h (10 + 2 * a + 1) (by omega) (by omega), h (10 + 2 * b + 1) (by omega) (by omega), h (26 + 2 * a) (by omega) (by omega), h (26 + 2 * b) (by omega) (by omega), h (26 + 2 * a + 1) (by omega) (by omega), h (26 + 2 * b + 1) (by omega) (by omega)]
theorem FVx_congr {x : lC} {f f' : Nat → Int32} {kd : Int32} {a b : Nat} (ha : a < 8) (hb : b < 8) (h : ∀ i, 10 ≤ i → i ≤ 41 → f' i = f i) : FVx x f' kd a b = FVx x f kd a b := by
  unfold FVx
  rw [WD_congr ha hb h]
theorem nb2_cg {F F' : Nat → Nat → Int64} {p q M : Nat} (hp : p < 8) (hq : q < 8) (hM : M ≤ 8) (h : ∀ a b, a < 8 → b < 8 → F a b = F' a b) : nb2 F p q M = nb2 F' p q M := nb2_congr (fun c hc => ⟨h p c hp (by omega), h q c hq (by omega)⟩)
theorem TBL_go {l : Nat} {x : lC} {s s' : wS} (t : TBL l x s) (hf : ∀ i, i ≤ 41 → s'.1 163 i = s.1 163 i) (h8 : s'.2 (44 + 10 * l + 8) = s.2 (44 + 10 * l + 8)) (h9 : s'.1 (44 + 10 * l + 9) = s.1 (44 + 10 * l + 9)) : TBL l x s' := by
  intro j hj M hM hM8 p q hp hq
  have ej : (Int32.ofNat j).toNatClampNeg = j := t_nc (by omega)
  rw [ej, hf j (by omega)] at hM
  obtain ⟨t1, t2⟩ := t j hj M (by rw [ej]; exact hM) hM8 p q hp hq
  have c : ∀ a b, a < 8 → b < 8 → FVx x (s.1 163) (Int32.ofNat j) a b = FVx x (s'.1 163) (Int32.ofNat j) a b := fun a b ha hb => (FVx_congr ha hb (fun i _ hi => hf i hi)).symm
  refine ⟨?_, ?_⟩
  · rw [h8, t1, c p q (by omega) (by omega)]
  · rw [h9, t2]
    exact nb2_cg (by omega) (by omega) hM8 c
theorem LK2_go {l : Nat} {x : lC} {s s' : wS} (h : LK2 l x s) (hl : ∀ j, j ≤ 5 → ∀ b, b ≠ 9 → b ≠ 12 → s'.1 (44 + 10 * l + j) b = s.1 (44 + 10 * l + j) b) (hw : ∀ j, 1 ≤ j → j ≤ 5 → s'.1 (44 + 10 * l + j) = s.1 (44 + 10 * l + j)) (hr : ∀ k, 154 ≤ k → k ≤ 157 → s'.1 k = s.1 k) : LK2 l x s' := by
  obtain ⟨h1, h2, h3⟩ := h
  exact ⟨h1.go (hl 0 (by decide) 1 (by decide) (by decide)) (hl 0 (by decide) 6 (by decide) (by decide)) hw, h2.keep (hr _ (by decide) (by decide)) (hr _ (by decide) (by decide)) (hr _ (by decide) (by decide)) (hr _ (by decide) (by decide)), h3⟩
/-- the COURT, the LAWS and their tables are as they were -/
theorem TBS_go {s s' : wS} (t : TBS s) (h2 : s'.1 152 2 = s.1 152 2) (hb : (s.1 152 2).toInt ≤ 6) (hf : ∀ i, i ≤ 41 → s'.1 163 i = s.1 163 i) (hw : ∀ k, 44 ≤ k → k ≤ 103 → s'.1 k = s.1 k) (hr : ∀ k, 154 ≤ k → k ≤ 157 → s'.1 k = s.1 k) (hL : ∀ k, 44 ≤ k → k ≤ 103 → s'.2 k = s.2 k) : TBS s' := by
  intro l hl
  rw [h2] at hl
  have hl6 : l < 6 := by omega
  rw [hw _ (by omega) (by omega)]
  rcases t l hl with q | ⟨x, lk, tb⟩
  · exact Or.inl q
  · exact Or.inr ⟨x, LK2_go lk (fun j hj b _ _ => by rw [hw _ (by omega) (by omega)]) (fun j h1 h2 => hw _ (by omega) (by omega)) hr, TBL_go tb hf (hL _ (by omega) (by omega)) (hw _ (by omega) (by omega))⟩
end
