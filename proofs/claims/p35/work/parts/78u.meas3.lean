/-! The class measures: who is as near. -/
noncomputable def MG (k0 : Nat) (s0 s : wS) : Prop := (∀ k b, ¬ (k = k0 ∧ (b = 9 ∨ b = 12)) → k ≠ k0 + 9 → s.1 k b = s0.1 k b) ∧ (∀ k, k ≠ k0 + 6 → k ≠ k0 + 7 → k ≠ k0 + 8 → s.2 k = s0.2 k)
theorem MG.refl {k0 : Nat} {s : wS} : MG k0 s s := ⟨fun _ _ _ _ => rfl, fun _ _ _ _ => rfl⟩
theorem MG.trans {k0 : Nat} {s1 s2 s3 : wS} (a : MG k0 s1 s2) (b : MG k0 s2 s3) : MG k0 s1 s3 := ⟨fun k c h1 h2 => (b.1 k c h1 h2).trans (a.1 k c h1 h2), fun k h1 h2 h3 => (b.2 k h1 h2 h3).trans (a.2 k h1 h2 h3)⟩
theorem MF.mg {k0 : Nat} {s s' : wS} (f : MF k0 s s') : MG k0 s s' := ⟨fun k b h1 _ => f.1 k b (by omega), f.2⟩
section MEAS3
variable {s : wS} {x : lC} {l : Nat}
theorem bO2_x (hl : l < 6) : bO2 (44 + 10 * l) 9 = true ∧ bO2 (44 + 10 * l) 12 = true := by
  have : ∀ l, l < 6 → bO2 (44 + 10 * l) 9 = true ∧ bO2 (44 + 10 * l) 12 = true := by decide +kernel
  exact this l hl
theorem bO2_y (hl : l < 6) {b : Nat} : bO2 (44 + 10 * l + 9) b = true := by
  unfold bO2
  rw [show (44 + 10 * l + 9 - 44) % 10 = 9 by omega]
  simp only [Bool.or_eq_true, Bool.and_eq_true, Nat.ble_eq, Nat.beq_eq]
  omega
theorem MG.ja {s' : wS} (hl : l < 6) (f : MG (44 + 10 * l) s s') (g : JA s) : JA s' := JA_go g (fun k b h => f.1 k b (fun q => by
  rcases q.2 with r | r
  · rw [q.1, r, (bO2_x hl).1] at h; cases h
  · rw [q.1, r, (bO2_x hl).2] at h; cases h) (fun q => by
  rw [q, bO2_y hl] at h
  cases h))
theorem MG.lk {s' : wS} (hl : l < 6) (f : MG (44 + 10 * l) s s') (h : LK2 l x s) : LK2 l x s' := by
  obtain ⟨h1, h2, h3⟩ := h
  exact ⟨h1.go (f.1 _ _ (by omega) (by omega)) (f.1 _ _ (by omega) (by omega)) (fun j a b => funext fun c => f.1 _ _ (by omega) (by omega)), h2.keep (funext fun b => f.1 _ _ (by omega) (by omega)) (funext fun b => f.1 _ _ (by omega) (by omega)) (funext fun b => f.1 _ _ (by omega) (by omega)) (funext fun b => f.1 _ _ (by omega) (by omega)), h3⟩
theorem MG.f163 {s' : wS} (hl : l < 6) (f : MG (44 + 10 * l) s s') : s'.1 163 = s.1 163 := funext fun b => f.1 _ _ (by omega) (by omega)
theorem wln_9 (hl : l < 6) : wln (44 + 10 * l + 9) = 192 := (wly_3_11 (wkd_L hl)).2.2
/-- the far table read as a function -/
noncomputable abbrev FT (k0 : Nat) (kd : Int32) (s : wS) : Nat → Nat → Int64 := fun p q => s.2 (k0 + 8) (64 * kd.toNatClampNeg + 8 * p + q)
theorem near_h18 (hl : l < 6) {kd a : Int32} {i M : Nat} (hk : 0 ≤ kd.toInt ∧ kd.toInt ≤ 2) (hM8 : M ≤ 8) (ha : a = Int32.ofNat i) (hi : i < M) : ∀ (n : Nat) {j : Nat} {b : Int32} {s : wS}, b = Int32.ofNat j → j ≤ M → M - j < n → Tot (wX3_measureNear_h18 (44 + 10 * l) kd (Int32.ofNat M) a n b s) (fun r => (∀ k, k ≠ 44 + 10 * l + 9 → r.1 k = s.1 k) ∧ r.2 = s.2 ∧ ∀ c, r.1 (44 + 10 * l + 9) c = if 64 * kd.toNatClampNeg + 8 * i + j ≤ c ∧ c < 64 * kd.toNatClampNeg + 8 * i + M then nb2 (FT (44 + 10 * l) kd s) i (c - (64 * kd.toNatClampNeg + 8 * i)) M else s.1 (44 + 10 * l + 9) c) := by
  intro n
  induction n with
  | zero => intro j b s _ _ hm; exact absurd hm (by omega)
  | succ n ih =>
    intro j b s hb hj hm
    have eb : b.toInt = j := by rw [hb, t_on (by omega)]
    have eM : (Int32.ofNat M).toInt = M := t_on (by omega)
    rw [wX3_measureNear_h18]
    by_cases c : b < Int32.ofNat M
    · have hc := t_lt c
      rw [eb, eM] at hc
      obtain ⟨t, ct, c1, c2⟩ := cell_E (s := s) hk ha (by omega) hb (by omega)
      have ekd := t_cln hk.1
      rw [if_pos c, near_h30 (s := s) (k0 := 44 + 10 * l) (M := M) hk hM8 ha (by omega) hb (by omega) wFuel (c := 0) (x6 := 0) (x7 := 0) rfl (Nat.zero_le _) rfl (by
        have e : wFuel = 1099511627776 := rfl
        omega), t_sbe, ct, t_sbe, set_E (n := 192) (wln_9 hl) (by decide) (by omega) (by omega), t_sbe, c2]
      refine t_mono (ih (j := j + 1) (by rw [hb, i_on1 (by omega)]) (by omega) (by omega)) (fun r hr => ⟨fun k hk => by rw [hr.1 k hk, wupI_n hk], by rw [hr.2.1]; rfl, fun c => ?_⟩)
      rw [hr.2.2 c]
      by_cases q : c = 64 * kd.toNatClampNeg + 8 * i + j
      · rw [q, if_neg (by omega), if_pos (by omega), wup_same, Nat.add_sub_cancel_left]
      · rw [wup_nb q]
        by_cases w : 64 * kd.toNatClampNeg + 8 * i + j ≤ c ∧ c < 64 * kd.toNatClampNeg + 8 * i + M
        · rw [if_pos (by omega), if_pos w]
          rfl
        · rw [if_neg (by omega), if_neg w]
    · have hc := t_ge c
      rw [eb, eM] at hc
      rw [if_neg c]
      exact t_some ⟨fun _ _ => rfl, rfl, fun c => by rw [if_neg (by omega)]⟩
theorem near_h9 (hl : l < 6) {kd : Int32} {M : Nat} (hk : 0 ≤ kd.toInt ∧ kd.toInt ≤ 2) (hM8 : M ≤ 8) : ∀ (n : Nat) {i : Nat} {a : Int32} {s : wS}, a = Int32.ofNat i → i ≤ M → M - i < n → Tot (wX3_measureNear_h9 (44 + 10 * l) kd (Int32.ofNat M) n a s) (fun r => (∀ k, k ≠ 44 + 10 * l + 9 → r.1 k = s.1 k) ∧ r.2 = s.2 ∧ (∀ p q, i ≤ p → p < M → q < M → r.1 (44 + 10 * l + 9) (64 * kd.toNatClampNeg + 8 * p + q) = nb2 (FT (44 + 10 * l) kd s) p q M) ∧ (∀ c, ¬ (64 * kd.toNatClampNeg + 8 * i ≤ c ∧ c < 64 * kd.toNatClampNeg + 64) → r.1 (44 + 10 * l + 9) c = s.1 (44 + 10 * l + 9) c)) := by
  intro n
  induction n with
  | zero => intro i a s _ _ hm; exact absurd hm (by omega)
  | succ n ih =>
    intro i a s ha hi hm
    have ea : a.toInt = i := by rw [ha, t_on (by omega)]
    have eM : (Int32.ofNat M).toInt = M := t_on (by omega)
    rw [wX3_measureNear_h9]
    by_cases c : a < Int32.ofNat M
    · have hc := t_lt c
      rw [ea, eM] at hc
      rw [if_pos c]
      refine t_bind (near_h18 hl hk hM8 ha (by omega) wFuel (j := 0) rfl (Nat.zero_le _) (by
        have e : wFuel = 1099511627776 := rfl
        omega)) (fun s21 h21 => ?_)
      obtain ⟨m1, m2, v⟩ := h21
      refine t_mono (ih (i := i + 1) (by rw [ha, i_on1 (by omega)]) (by omega) (by omega)) (fun r hr => ⟨fun k hk => by rw [hr.1 k hk, m1 k hk], by rw [hr.2.1, m2], fun p q hp hpM hqM => ?_, fun c hc' => ?_⟩)
      · have e : FT (44 + 10 * l) kd s21 = FT (44 + 10 * l) kd s := by unfold FT; rw [m2]
        by_cases w : p = i
        · rw [w, hr.2.2.2 _ (by omega), v _, if_pos (by omega), Nat.add_sub_cancel_left]
        · rw [hr.2.2.1 p q (by omega) hpM hqM, e]
      · rw [hr.2.2.2 c (by omega), v c, if_neg (by omega)]
    · have hc := t_ge c
      rw [ea, eM] at hc
      rw [if_neg c]
      exact t_some ⟨fun _ _ => rfl, rfl, fun p q h1 h2 _ => absurd h1 (by omega), fun c _ => rfl⟩
theorem nb2_congr {F F' : Nat → Nat → Int64} {p q : Nat} : ∀ {n : Nat}, (∀ c, c < n → F p c = F' p c ∧ F q c = F' q c) → nb2 F p q n = nb2 F' p q n := by
  intro n
  induction n with
  | zero => intro _; rfl
  | succ n ih =>
    intro h
    show (if F q n < F p n then nb2 F p q n else (nb2 F p q n ||| (1 <<< (Int32.ofNat n &&& 31)))) = (if F' q n < F' p n then nb2 F' p q n else (nb2 F' p q n ||| (1 <<< (Int32.ofNat n &&& 31))))
    rw [ih (fun c hc => h c (by omega)), (h n (by omega)).1, (h n (by omega)).2]
/-- a LAW's tables are right for a kind -/
noncomputable def TBk (l : Nat) (x : lC) (kd : Int32) (s : wS) : Prop := ∀ M : Nat, s.1 163 kd.toNatClampNeg = Int32.ofNat M → M ≤ 8 → ∀ p q, p < M → q < M → s.2 (44 + 10 * l + 8) (64 * kd.toNatClampNeg + 8 * p + q) = FVx x (s.1 163) kd p q ∧ s.1 (44 + 10 * l + 9) (64 * kd.toNatClampNeg + 8 * p + q) = nb2 (FVx x (s.1 163) kd) p q M
end MEAS3
