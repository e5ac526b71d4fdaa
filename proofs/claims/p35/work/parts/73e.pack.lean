/-! The reference's WORDS, packed. -/
theorem t_bv {x : Int64} (h : 0 ≤ x.toInt) : x.toInt = x.toBitVec.toNat ∧ x.toBitVec.toNat < 2 ^ 63 := by
  have e : x.toInt = x.toBitVec.toInt := rfl
  have c := BitVec.toInt_eq_toNat_cond x.toBitVec
  have l := x.toBitVec.isLt
  rw [e] at h ⊢
  rw [c] at h ⊢
  by_cases q : 2 * x.toBitVec.toNat < 2 ^ 64
  · rw [if_pos q]
    exact ⟨rfl, by omega⟩
  · rw [if_neg q] at h
    omega
theorem pk_step {x : Int64} {c : Int32} (h0 : 0 ≤ x.toInt) (h1 : x.toInt < 2 ^ 48) (c0 : 0 ≤ c.toInt) (c1 : c.toInt < 256) : ((x <<< ((8 : Int32).toInt64 &&& 63)) ||| c.toInt64).toInt = 256 * x.toInt + c.toInt := by
  have es : ((8 : Int32).toInt64 &&& 63) = 8 := by decide
  rw [es]
  obtain ⟨ex, lx'⟩ := t_bv h0
  have hc : (c.toInt64).toInt = c.toInt := Int32.toInt_toInt64 c
  obtain ⟨ec, lc⟩ := t_bv (x := c.toInt64) (by rw [hc]; exact c0)
  have es2 : (8 : Int64).toBitVec.smod 64 = 8#64 := by decide
  have n1 : ((x <<< (8 : Int64)) ||| c.toInt64).toBitVec.toNat = 256 * x.toBitVec.toNat + c.toInt64.toBitVec.toNat := by
    rw [Int64.toBitVec_or, Int64.toBitVec_shiftLeft, es2, BitVec.toNat_or]
    have e8 : (x.toBitVec <<< (8#64)).toNat = x.toBitVec.toNat <<< 8 := by
      rw [BitVec.shiftLeft_eq', BitVec.toNat_shiftLeft]
      rw [show (8#64).toNat = 8 from rfl, Nat.mod_eq_of_lt]
      rw [Nat.shiftLeft_eq]
      omega
    rw [e8, ← Nat.shiftLeft_add_eq_or_of_lt (by omega), Nat.shiftLeft_eq]
    omega
  have r : ((x <<< (8 : Int64)) ||| c.toInt64).toInt = ((x <<< (8 : Int64)) ||| c.toInt64).toBitVec.toInt := rfl
  rw [r, BitVec.toInt_eq_toNat_cond, n1, if_pos (by omega)]
  omega
noncomputable def pkN (s : wS) (i : Nat) : Nat → Int
  | 0 => 0
  | m + 1 => 256 * pkN s i m + (s.1 153 (i + m)).toInt
theorem pkN_b {s : wS} {i : Nat} : ∀ {m : Nat}, (∀ j, j < m → LTx s (i + j)) → 0 ≤ pkN s i m ∧ pkN s i m < 256 ^ m := by
  intro m
  induction m with
  | zero => intro _; exact ⟨by show (0 : Int) ≤ 0; omega, by show (0 : Int) < 256 ^ 0; decide⟩
  | succ m ih =>
    intro h
    obtain ⟨a, b⟩ := ih (fun j hj => h j (by omega))
    have c := h m (by omega)
    unfold LTx at c
    show 0 ≤ 256 * pkN s i m + (s.1 153 (i + m)).toInt ∧ 256 * pkN s i m + (s.1 153 (i + m)).toInt < 256 ^ (m + 1)
    rw [Int.pow_succ]
    omega
/-- the letters from a place on: how many, and packed -/
noncomputable def RUN (s : wS) (M : Nat) : Prop := (∀ j : Nat, j < M → LTx s ((s.1 152 12).toNatClampNeg + j)) ∧ (s.1 152 12).toInt + M ≤ (s.1 152 1).toInt ∧ ((s.1 152 12).toInt + M < (s.1 152 1).toInt → ¬ LTx s ((s.1 152 12).toNatClampNeg + M))
theorem wX11_isWord_h10_E {x1 : Int64} {s : wS} (g : TP s) : ∀ (n : Nat) {m : Nat} {x3 : Int64} {x5 : Int32}, x5.toInt = m → (∀ j : Nat, j < m → LTx s ((s.1 152 12).toNatClampNeg + j)) → (s.1 152 12).toInt + m ≤ (s.1 152 1).toInt → (m ≤ 7 → x3.toInt = pkN s (s.1 152 12).toNatClampNeg m) → (s.1 152 1).toInt - (s.1 152 12).toInt - m < (n : Int) → Tot (wX11_isWord_h10 x1 s n x3 x5) (fun r => ∃ M : Nat, r.2.toInt = M ∧ RUN s M ∧ (M ≤ 7 → r.1.toInt = pkN s (s.1 152 12).toNatClampNeg M)) := by
  intro n
  induction n with
  | zero => intro m x3 x5 h5 hL hT hp hm; exfalso; omega
  | succ n ih =>
    intro m x3 x5 h5 hL hT hp hm
    rw [wX11_isWord_h10]
    obtain ⟨g1, g2⟩ := g
    have e : (s.1 152 12 + x5).toInt = (s.1 152 12).toInt + m := by rw [t_add (by omega) (by omega), h5]
    have en : (s.1 152 12 + x5).toNatClampNeg = (s.1 152 12).toNatClampNeg + m := by unfold Int32.toNatClampNeg; omega
    refine t_bind (wX11_isLetter_T ⟨g1, g2⟩ (by omega)) (fun t4 h4 => t_ite (fun c => ?_) (fun c => ?_))
    · refine t_some ⟨m, h5, ⟨hL, hT, fun q1 q2 => ?_⟩, hp⟩
      rcases h4 with h | h
      · exact h.2 ⟨by omega, by rw [en]; exact q2⟩
      · rw [h.1] at c; exact absurd c (by decide)
    · have h6 : (s.1 152 12 + x5).toInt < (s.1 152 1).toInt ∧ LTx s (s.1 152 12 + x5).toNatClampNeg := by
        rcases h4 with h | h
        · exact absurd h.1 c
        · exact h.2
      rw [en] at h6
      have hL2 : ∀ j : Nat, j < m + 1 → LTx s ((s.1 152 12).toNatClampNeg + j) := by
        intro j hj
        by_cases hjm : j = m
        · rw [hjm]; exact h6.2
        · exact hL j (by omega)
      have e1 := t_p1 (x := x5) (by omega) (by omega)
      have e8 : (8 : Int32).toInt = 8 := rfl
      refine t_ite (fun c8 => ?_) (fun c8 => ?_)
      · have hc8 := t_lt c8
        refine t_bind (t_ldI (n := 400) (by omega) (by omega)) (fun t8 h8 => ?_)
        unfold wX11_isWord_j50
        refine ih (m := m + 1) (by omega) hL2 (by omega) (fun h7 => ?_) (by omega)
        obtain ⟨b0, b1⟩ := pkN_b hL
        have p := hp (by omega)
        have l := h6.2
        unfold LTx at l
        have hb : (256 : Int) ^ m ≤ 2 ^ 48 := (show ∀ m : Nat, m < 7 → (256 : Int) ^ m ≤ 2 ^ 48 by decide) m (by omega)
        rw [h8, en, pk_step (by omega) (by omega) (by omega) (by omega), p]
        rfl
      · have hc8 := t_ge c8
        unfold wX11_isWord_j50
        exact ih (m := m + 1) (by omega) hL2 (by omega) (fun h7 => by omega) (by omega)
