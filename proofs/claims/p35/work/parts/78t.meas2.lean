/-! The class measures: all things of a kind. -/
section MEAS2
variable {s : wS} {x : lC} {l : Nat}
theorem far_h2 (hl : l < 6) {kd : Int32} {M : Nat} (hk : 0 ≤ kd.toInt ∧ kd.toInt ≤ 2) (hM8 : M ≤ 8) : ∀ (n : Nat) {i : Nat} {a : Int32} {s : wS}, JA s → LK2 l x s → s.1 163 kd.toNatClampNeg = Int32.ofNat M → a = Int32.ofNat i → i ≤ M → M - i < n → Tot (wX3_measureFar_h2 (44 + 10 * l) 15 kd n a s) (fun r => MF (44 + 10 * l) s r ∧ (∀ p q, i ≤ p → p < M → q < M → r.2 (44 + 10 * l + 8) (64 * kd.toNatClampNeg + 8 * p + q) = FVx x (s.1 163) kd p q) ∧ (∀ c, ¬ (64 * kd.toNatClampNeg + 8 * i ≤ c ∧ c < 64 * kd.toNatClampNeg + 64) → r.2 (44 + 10 * l + 8) c = s.2 (44 + 10 * l + 8) c)) := by
  intro n
  induction n with
  | zero => intro i a s _ _ _ _ _ hm; exact absurd hm (by omega)
  | succ n ih =>
    intro i a s g k hM ha hi hm
    have ea : a.toInt = i := by rw [ha, t_on (by omega)]
    have eM : (Int32.ofNat M).toInt = M := t_on (by omega)
    obtain ⟨M', e1, e2, hM'8⟩ := many_V g hk
    obtain rfl : M' = M := by
      have := hM.symm.trans e2
      have := congrArg Int32.toInt this
      rw [eM, t_on (by omega)] at this
      omega
    rw [wX3_measureFar_h2, e1, t_sbe]
    by_cases c : a < Int32.ofNat M'
    · have hc := t_lt c
      rw [ea, eM] at hc
      rw [if_pos c]
      refine t_bind (far_h14 hl hk hM8 ha (by omega) wFuel (j := 0) g k hM rfl (Nat.zero_le _) (by
        have e : wFuel = 1099511627776 := rfl
        omega)) (fun s20 h20 => ?_)
      obtain ⟨m, v⟩ := h20
      refine t_mono (ih (m.ja hl g) (m.lk hl k) (by rw [m.f163 hl]; exact hM) (by rw [ha, i_on1 (by omega)]) (by omega) (by omega)) (fun r hr => ⟨m.trans hr.1, fun p q hp hpM hqM => ?_, fun c hc' => ?_⟩)
      · by_cases w : p = i
        · rw [w, hr.2.2 _ (by omega), v _, if_pos (by omega), Nat.add_sub_cancel_left]
        · rw [hr.2.1 p q (by omega) hpM hqM, m.f163 hl]
      · rw [hr.2.2 c (by omega), v c, if_neg (by omega)]
    · have hc := t_ge c
      rw [ea, eM] at hc
      rw [if_neg c]
      exact t_some ⟨MF.refl, fun p q h1 h2 _ => absurd h1 (by omega), fun c _ => rfl⟩
theorem measFar_E (hl : l < 6) (g : JA s) (k : LK2 l x s) {kd : Int32} {M : Nat} (hk : 0 ≤ kd.toInt ∧ kd.toInt ≤ 2) (hM8 : M ≤ 8) (hM : s.1 163 kd.toNatClampNeg = Int32.ofNat M) : Tot (wX3_measureFar (44 + 10 * l) 15 kd s) (fun r => MF (44 + 10 * l) s r ∧ (∀ p q, p < M → q < M → r.2 (44 + 10 * l + 8) (64 * kd.toNatClampNeg + 8 * p + q) = FVx x (s.1 163) kd p q) ∧ (∀ c, ¬ (64 * kd.toNatClampNeg ≤ c ∧ c < 64 * kd.toNatClampNeg + 64) → r.2 (44 + 10 * l + 8) c = s.2 (44 + 10 * l + 8) c)) := by
  unfold wX3_measureFar
  refine t_bind (far_h2 hl hk hM8 wFuel (i := 0) g k hM rfl (Nat.zero_le _) (by
    have e : wFuel = 1099511627776 := rfl
    omega)) (fun s24 h24 => t_some ⟨h24.1, fun p q hp hq => h24.2.1 p q (Nat.zero_le _) hp hq, fun c hc => h24.2.2 c (by omega)⟩)
/-- those as near to one as to another, as bits -/
noncomputable def nb2 (F : Nat → Nat → Int64) (p q : Nat) : Nat → Int32
  | 0 => 0
  | n + 1 => if F q n < F p n then nb2 F p q n else (nb2 F p q n ||| (1 <<< (Int32.ofNat n &&& 31)))
theorem farOf_E {kd a b : Int32} {i j : Nat} (hk : 0 ≤ kd.toInt ∧ kd.toInt ≤ 2) (ha : a = Int32.ofNat i) (hi : i < 8) (hb : b = Int32.ofNat j) (hj : j < 8) {k0 : Nat} : wX3_farOf k0 kd a b s = some (s.2 (k0 + 8) (64 * kd.toNatClampNeg + 8 * i + j)) := by
  obtain ⟨t, ct, c1, c2⟩ := cell_E (s := s) hk ha hi hb hj
  have ekd := t_cln hk.1
  unfold wX3_farOf
  rw [ct, t_sbe, isOutside_E, if_pos ⟨by omega, by rw [c1, show (192 : Int32).toInt = 192 from rfl]; omega⟩, t_sbe, qi0, wldL_E (by omega) (by omega), t_sbe, c2]
theorem near_h30 {k0 : Nat} {kd a b : Int32} {i j M : Nat} (hk : 0 ≤ kd.toInt ∧ kd.toInt ≤ 2) (hM8 : M ≤ 8) (ha : a = Int32.ofNat i) (hi : i < 8) (hb : b = Int32.ofNat j) (hj : j < 8) : ∀ (n : Nat) {c : Nat} {x6 x7 : Int32}, x7 = Int32.ofNat c → c ≤ M → x6 = nb2 (fun p q => s.2 (k0 + 8) (64 * kd.toNatClampNeg + 8 * p + q)) i j c → M - c < n → wX3_measureNear_h30 k0 kd (Int32.ofNat M) a b s n x6 x7 = some (nb2 (fun p q => s.2 (k0 + 8) (64 * kd.toNatClampNeg + 8 * p + q)) i j M) := by
  intro n
  induction n with
  | zero => intro c x6 x7 _ _ _ hm; exact absurd hm (by omega)
  | succ n ih =>
    intro c x6 x7 h7 hc h6 hm
    have e7 : x7.toInt = c := by rw [h7, t_on (by omega)]
    have eM : (Int32.ofNat M).toInt = M := t_on (by omega)
    have e1 : x7 + 1 = Int32.ofNat (c + 1) := by rw [h7, i_on1 (by omega)]
    rw [wX3_measureNear_h30]
    by_cases d : x7 < Int32.ofNat M
    · have hd := t_lt d
      rw [e7, eM] at hd
      rw [if_pos d, farOf_E hk ha hi h7 (by omega), t_sbe, farOf_E hk hb hj h7 (by omega), t_sbe]
      unfold wX3_measureNear_j67
      by_cases z : s.2 (k0 + 8) (64 * kd.toNatClampNeg + 8 * j + c) < s.2 (k0 + 8) (64 * kd.toNatClampNeg + 8 * i + c)
      · rw [if_pos z]
        refine ih e1 (by omega) ?_ (by omega)
        show x6 = (if s.2 (k0 + 8) (64 * kd.toNatClampNeg + 8 * j + c) < s.2 (k0 + 8) (64 * kd.toNatClampNeg + 8 * i + c) then _ else _)
        rw [if_pos z, h6]
      · rw [if_neg z]
        refine ih e1 (by omega) ?_ (by omega)
        show _ = (if s.2 (k0 + 8) (64 * kd.toNatClampNeg + 8 * j + c) < s.2 (k0 + 8) (64 * kd.toNatClampNeg + 8 * i + c) then _ else _)
        rw [if_neg z, h6, h7]
    · have hd := t_ge d
      rw [e7, eM] at hd
      obtain rfl : c = M := by omega
      rw [if_neg d, h6]
end MEAS2
