/-! The class measures a LAW, whole. -/
section MEAS4
variable {s : wS} {x : lC} {l : Nat}
theorem knd_cn {kd kd' : Int32} (h : 0 ≤ kd.toInt ∧ kd.toInt ≤ 2) (h' : 0 ≤ kd'.toInt ∧ kd'.toInt ≤ 2) (n : kd' ≠ kd) : kd'.toNatClampNeg ≠ kd.toNatClampNeg := fun e => n (Int32.toInt_inj.1 (by have a := t_cln h.1; have b := t_cln h'.1; omega))
theorem measNear_E (hl : l < 6) (g : JA s) {kd : Int32} {M : Nat} (hk : 0 ≤ kd.toInt ∧ kd.toInt ≤ 2) (hM8 : M ≤ 8) (hM : s.1 163 kd.toNatClampNeg = Int32.ofNat M) : Tot (wX3_measureNear (44 + 10 * l) 15 kd s) (fun r => (∀ k, k ≠ 44 + 10 * l + 9 → r.1 k = s.1 k) ∧ r.2 = s.2 ∧ (∀ p q, p < M → q < M → r.1 (44 + 10 * l + 9) (64 * kd.toNatClampNeg + 8 * p + q) = nb2 (FT (44 + 10 * l) kd s) p q M) ∧ (∀ c, ¬ (64 * kd.toNatClampNeg ≤ c ∧ c < 64 * kd.toNatClampNeg + 64) → r.1 (44 + 10 * l + 9) c = s.1 (44 + 10 * l + 9) c)) := by
  obtain ⟨M', e1, e2, hM'8⟩ := many_V g hk
  obtain rfl : M' = M := by
    have := congrArg Int32.toInt (hM.symm.trans e2)
    rw [t_on (by omega), t_on (by omega)] at this
    omega
  unfold wX3_measureNear
  rw [e1, t_sbe]
  refine t_bind (near_h9 hl hk hM8 wFuel (i := 0) rfl (Nat.zero_le _) (by
    have e : wFuel = 1099511627776 := rfl
    omega)) (fun s27 h27 => t_some ⟨h27.1, h27.2.1, fun p q hp hq => h27.2.2.1 p q (Nat.zero_le _) hp hq, fun c hc => h27.2.2.2 c (by omega)⟩)
theorem meas_one (hl : l < 6) (g : JA s) (k : LK2 l x s) {kd : Int32} (hk : 0 ≤ kd.toInt ∧ kd.toInt ≤ 2) : Tot ((wX3_measureFar (44 + 10 * l) 15 kd s).bind fun s3 => wX3_measureNear (44 + 10 * l) 15 kd s3) (fun r => MG (44 + 10 * l) s r ∧ TBk l x kd r ∧ ∀ kd' : Int32, (0 ≤ kd'.toInt ∧ kd'.toInt ≤ 2) → kd' ≠ kd → TBk l x kd' s → TBk l x kd' r) := by
  obtain ⟨M, -, hM, hM8⟩ := many_V g hk
  refine t_bind (measFar_E hl g k hk hM8 hM) (fun s3 h3 => ?_)
  obtain ⟨m3, v3, u3⟩ := h3
  have g3 := m3.ja hl g
  have f3 := m3.f163 hl
  refine t_mono (measNear_E hl g3 hk hM8 (by rw [f3]; exact hM)) (fun r hr => ?_)
  obtain ⟨a1, a2, a3, a4⟩ := hr
  have fr : r.1 163 = s.1 163 := by rw [a1 163 (by omega), f3]
  have mg : MG (44 + 10 * l) s r := m3.mg.trans ⟨fun k b _ h => by rw [a1 k h], fun k _ _ _ => by rw [a2]⟩
  refine ⟨mg, fun M' hM' hM'8 p q hp hq => ?_, fun kd' hk' ne tb M' hM' hM'8 p q hp hq => ?_⟩
  · rw [fr] at hM' ⊢
    obtain rfl : M' = M := by
      have := congrArg Int32.toInt (hM'.symm.trans hM)
      rw [t_on (by omega), t_on (by omega)] at this
      omega
    refine ⟨by rw [a2]; exact v3 p q hp hq, ?_⟩
    rw [a3 p q hp hq]
    exact nb2_congr (fun c hc => ⟨v3 p c hp hc, v3 q c hq hc⟩)
  · rw [fr] at hM' ⊢
    obtain ⟨t1, t2⟩ := tb M' hM' hM'8 p q hp hq
    have nk := knd_cn hk hk' ne
    refine ⟨?_, ?_⟩
    · rw [a2, u3 _ (by omega)]; exact t1
    · rw [a4 _ (by omega), m3.1 _ _ (by omega)]; exact t2
theorem meas_h2 (hl : l < 6) : ∀ (n : Nat) {i : Nat} {x2 : Int32} {s : wS}, JA s → LK2 l x s → x2 = Int32.ofNat i → i ≤ 3 → 3 - i < n → (∀ j, j < i → TBk l x (Int32.ofNat j) s) → Tot (wX3_measure_h2 (44 + 10 * l) 15 n x2 s) (fun r => MG (44 + 10 * l) s r ∧ ∀ j, j < 3 → TBk l x (Int32.ofNat j) r) := by
  intro n
  induction n with
  | zero => intro i x2 s _ _ _ _ hm; exact absurd hm (by omega)
  | succ n ih =>
    intro i x2 s g k h2 hi hm tb
    have e2 : x2.toInt = i := by rw [h2, t_on (by omega)]
    rw [wX3_measure_h2]
    by_cases c : x2 < 3
    · have hc := t_lt c
      rw [e2, show (3 : Int32).toInt = 3 from rfl] at hc
      rw [if_pos c]
      have one := meas_one hl g k (kd := x2) ⟨by omega, by omega⟩
      obtain ⟨r, er, m, t1, t2⟩ := one
      have e : ((wX3_measureFar (44 + 10 * l) 15 x2 s).bind fun s3 => (wX3_measureNear (44 + 10 * l) 15 x2 s3).bind fun s6 => wX3_measure_h2 (44 + 10 * l) 15 n (x2 + 1) s6) = ((wX3_measureFar (44 + 10 * l) 15 x2 s).bind fun s3 => wX3_measureNear (44 + 10 * l) 15 x2 s3).bind fun s6 => wX3_measure_h2 (44 + 10 * l) 15 n (x2 + 1) s6 := (Option.bind_assoc ..).symm
      rw [e, er, t_sbe]
      refine t_mono (ih (m.ja hl g) (m.lk hl k) (by rw [h2, i_on1 (by omega)]) (by omega) (by omega) (fun j hj => ?_)) (fun r' hr' => ⟨m.trans hr'.1, hr'.2⟩)
      by_cases q : j = i
      · rw [q, ← h2]; exact t1
      · have ej : (Int32.ofNat j).toInt = j := t_on (by omega)
        refine t2 (Int32.ofNat j) ⟨by omega, by omega⟩ (fun q' => q ?_) (tb j (by omega))
        have := congrArg Int32.toInt q'
        omega
    · have hc := t_ge c
      rw [e2, show (3 : Int32).toInt = 3 from rfl] at hc
      obtain rfl : i = 3 := by omega
      rw [if_neg c]
      exact t_some ⟨MG.refl, tb⟩
/-- a LAW's tables are right -/
noncomputable def TBL (l : Nat) (x : lC) (s : wS) : Prop := ∀ j, j < 3 → TBk l x (Int32.ofNat j) s
theorem measure_E (hl : l < 6) (g : JA s) (k : LK2 l x s) : Tot (wX3_measure (44 + 10 * l) 15 s) (fun r => MG (44 + 10 * l) s r ∧ ¬ r.1 (44 + 10 * l) 12 = 0 ∧ TBL l x r) := by
  unfold wX3_measure
  refine t_bind (meas_h2 hl wFuel (i := 0) g k rfl (by decide) (by
    have e : wFuel = 1099511627776 := rfl
    omega) (fun j hj => absurd hj (by omega))) (fun s9 h9 => ?_)
  refine t_bind (t_pfZ (B := fun _ _ => true) (by decide) rfl) (fun s12 h12 => t_some ?_)
  have h12 := h12.2
  obtain ⟨m, t⟩ := h9
  have z : ∀ k, k ≠ 44 + 10 * l → s12.1 k = s9.1 k := fun k hk => by rw [h12, wupI_n hk]
  have z2 : s12.2 = s9.2 := by rw [h12]; rfl
  refine ⟨⟨fun k b h1 h2 => ?_, fun k h1 h2 h3 => by rw [z2]; exact m.2 k h1 h2 h3⟩, ?_, fun j hj M hM hM8 p q hp hq => ?_⟩
  · by_cases w : k = 44 + 10 * l
    · rw [w, h12, wup_nb (by omega), ← w]
      exact m.1 k b h1 h2
    · rw [z k w]
      exact m.1 k b h1 h2
  · rw [h12, wup_same]
    decide
  · rw [z 163 (by omega)] at hM ⊢
    rw [z2, z _ (by omega)]
    exact t j hj M hM hM8 p q hp hq
end MEAS4
