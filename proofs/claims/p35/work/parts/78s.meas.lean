/-! The class measures: how far. -/
/-- what measuring touches -/
noncomputable def MF (k0 : Nat) (s0 s : wS) : Prop := (∀ k b, ¬ (k = k0 ∧ b = 9) → s.1 k b = s0.1 k b) ∧ (∀ k, k ≠ k0 + 6 → k ≠ k0 + 7 → k ≠ k0 + 8 → s.2 k = s0.2 k)
theorem MF.refl {k0 : Nat} {s : wS} : MF k0 s s := ⟨fun _ _ _ => rfl, fun _ _ _ _ => rfl⟩
theorem MF.trans {k0 : Nat} {s1 s2 s3 : wS} (a : MF k0 s1 s2) (b : MF k0 s2 s3) : MF k0 s1 s3 := ⟨fun k c h => (b.1 k c h).trans (a.1 k c h), fun k h1 h2 h3 => (b.2 k h1 h2 h3).trans (a.2 k h1 h2 h3)⟩
section MEAS
variable {s : wS} {x : lC} {l : Nat}
theorem bO2_9 (hl : l < 6) : bO2 (44 + 10 * l) 9 = true := by
  have : ∀ l, l < 6 → bO2 (44 + 10 * l) 9 = true := by decide +kernel
  exact this l hl
theorem MF.ja {s' : wS} (hl : l < 6) (f : MF (44 + 10 * l) s s') (g : JA s) : JA s' := JA_go g (fun k b h => f.1 k b (fun q => by
  rw [q.1, q.2, bO2_9 hl] at h
  cases h))
theorem MF.lk {s' : wS} (hl : l < 6) (f : MF (44 + 10 * l) s s') (h : LK2 l x s) : LK2 l x s' := by
  obtain ⟨h1, h2, h3⟩ := h
  exact ⟨h1.go (f.1 _ _ (by omega)) (f.1 _ _ (by omega)) (fun j a b => funext fun c => f.1 _ _ (by omega)), h2.keep (funext fun b => f.1 _ _ (by omega)) (funext fun b => f.1 _ _ (by omega)) (funext fun b => f.1 _ _ (by omega)) (funext fun b => f.1 _ _ (by omega)), h3⟩
theorem MF.f163 {s' : wS} (hl : l < 6) (f : MF (44 + 10 * l) s s') : s'.1 163 = s.1 163 := funext fun b => f.1 _ _ (by omega)
theorem wkd_L (hl : l < 6) : wkd (44 + 10 * l) = 3 := by
  have : ∀ l, l < 6 → wkd (44 + 10 * l) = 3 := by decide +kernel
  exact this l hl
/-- the place of two things in the table -/
theorem cell_E {kd a b : Int32} {i j : Nat} (hk : 0 ≤ kd.toInt ∧ kd.toInt ≤ 2) (ha : a = Int32.ofNat i) (hi : i < 8) (hb : b = Int32.ofNat j) (hj : j < 8) : ∃ t : Int32, wX3_cell kd a b s = some t ∧ t.toInt = (64 * kd.toNatClampNeg + 8 * i + j : Nat) ∧ t.toNatClampNeg = 64 * kd.toNatClampNeg + 8 * i + j := by
  have e8 : (8 : Int32).toInt = 8 := rfl
  have ea : a.toInt = i := by rw [ha, t_on (by omega)]
  have eb : b.toInt = j := by rw [hb, t_on (by omega)]
  have ek := t_cln hk.1
  have q1 : (kd * 8).toInt = kd.toInt * 8 := by rw [t_mul (by rw [e8]; omega) (by rw [e8]; omega), e8]
  have q2 : (kd * 8 + a).toInt = kd.toInt * 8 + i := by rw [t_add (by omega) (by omega), q1, ea]
  have q3 : ((kd * 8 + a) * 8).toInt = (kd.toInt * 8 + i) * 8 := by rw [t_mul (by rw [e8]; omega) (by rw [e8]; omega), e8, q2]
  have q4 : ((kd * 8 + a) * 8 + b).toInt = (kd.toInt * 8 + i) * 8 + j := by rw [t_add (by omega) (by omega), q3, eb]
  refine ⟨(kd * 8 + a) * 8 + b, rfl, by omega, by unfold Int32.toNatClampNeg; omega⟩
/-- how many things of a kind -/
theorem many_V (g : JA s) {kd : Int32} (hk : 0 ≤ kd.toInt ∧ kd.toInt ≤ 2) : ∃ M : Nat, wX0_manyOf 15 kd s = some (Int32.ofNat M) ∧ s.1 163 kd.toNatClampNeg = Int32.ofNat M ∧ M ≤ 8 := by
  obtain ⟨k3, k4⟩ := kind_3 hk
  obtain ⟨c0, c1, c2, -⟩ := g.c
  have b : 0 ≤ (s.1 163 kd.toNatClampNeg).toInt ∧ (s.1 163 kd.toNatClampNeg).toInt ≤ 8 := by
    rcases k4 with r | r | r <;> rw [r]
    · exact c0
    · exact c1
    · exact c2
  have e := t_cln b.1
  refine ⟨(s.1 163 kd.toNatClampNeg).toNatClampNeg, ?_, (t_oc b.1).symm, by omega⟩
  unfold wX0_manyOf
  rw [at_E (n := 3) rfl (by omega) (by omega) (by omega), t_sbe, t_oc b.1]
  exact congrArg some (many_E g _ k3)
theorem th_of {f : Nat → Int32} {kd a : Int32} {M i : Nat} (hk : 0 ≤ kd.toInt ∧ kd.toInt ≤ 2) (hM : f kd.toNatClampNeg = Int32.ofNat M) (hM8 : M ≤ 8) (ha : a = Int32.ofNat i) (hi : i < M) : TH f kd a := by
  have ea : a.toInt = i := by rw [ha, t_on (by omega)]
  exact ⟨hk, by omega, by rw [hM, t_on (by omega)]; omega⟩
theorem far_h14 (hl : l < 6) {kd a : Int32} {M i : Nat} (hk : 0 ≤ kd.toInt ∧ kd.toInt ≤ 2) (hM8 : M ≤ 8) (ha : a = Int32.ofNat i) (hi : i < M) : ∀ (n : Nat) {j : Nat} {b : Int32} {s : wS}, JA s → LK2 l x s → s.1 163 kd.toNatClampNeg = Int32.ofNat M → b = Int32.ofNat j → j ≤ M → M - j < n → Tot (wX3_measureFar_h14 (44 + 10 * l) 15 kd a n b s) (fun r => MF (44 + 10 * l) s r ∧ ∀ c, r.2 (44 + 10 * l + 8) c = if 64 * kd.toNatClampNeg + 8 * i + j ≤ c ∧ c < 64 * kd.toNatClampNeg + 8 * i + M then FVx x (s.1 163) kd i (c - (64 * kd.toNatClampNeg + 8 * i)) else s.2 (44 + 10 * l + 8) c) := by
  intro n
  induction n with
  | zero => intro j b s _ _ _ _ _ hm; exact absurd hm (by omega)
  | succ n ih =>
    intro j b s g k hM hb hj hm
    have eb : b.toInt = j := by rw [hb, t_on (by omega)]
    have eM : (Int32.ofNat M).toInt = M := t_on (by omega)
    obtain ⟨M', e1, e2, hM'8⟩ := many_V g hk
    obtain rfl : M' = M := by
      have := hM.symm.trans e2
      have := congrArg Int32.toInt this
      rw [eM, t_on (by omega)] at this
      omega
    rw [wX3_measureFar_h14, e1, t_sbe]
    by_cases c : b < Int32.ofNat M'
    · have hc := t_lt c
      rw [eb, eM] at hc
      have hjM : j < M' := by omega
      have tha : TH (s.1 163) kd a := th_of hk hM hM8 ha hi
      have thb : TH (s.1 163) kd b := th_of hk hM hM8 hb hjM
      have an : a.toNatClampNeg = i := by rw [ha, t_nc (by omega)]
      have bn : b.toNatClampNeg = j := by rw [hb, t_nc (by omega)]
      rw [if_pos c]
      refine t_bind (setWords_E (k0 := 44 + 10 * l) g tha thb) (fun s8 h8 => ?_)
      obtain ⟨z1, z2, z3⟩ := h8
      obtain ⟨t10, ct, c1, c2⟩ := cell_E (s := s8) hk ha (by omega) hb (by omega)
      have ekd := t_cln hk.1
      rw [ct, t_sbe, isOutside_E, if_pos ⟨by omega, by rw [c1, show (192 : Int32).toInt = 192 from rfl]; omega⟩, t_sbe, qi0]
      have m8 : MF (44 + 10 * l) s s8 := ⟨fun k b _ => by rw [z1], fun k h1 h2 h3 => z2 k h1⟩
      have k8 := m8.lk hl k
      refine t_bind (farC_E (wkd_L hl) k.2.2 k8.1) (fun p hp => ?_)
      obtain ⟨t15, s16⟩ := p
      obtain ⟨p1, p2⟩ := hp
      dsimp only at p1 p2 ⊢
      rw [wstL_E (by omega) (by omega), t_sbe, c2]
      have v : t15 = FVx x (s.1 163) kd i j := by
        rw [p1]
        have ok : ∀ j, j < x.2.2.1.length → okc (cdL x j) := fun j hj => (k.1.code hj).2
        rw [an, bn] at z3
        exact FV_w (n := x.2.2.1.length) z3 ok k.1.mem
      have m16 : MF (44 + 10 * l) s s16 := m8.trans ⟨p2.1, fun k h1 h2 h3 => p2.2 k h2⟩
      have t16 : s16.2 (44 + 10 * l + 8) = s.2 (44 + 10 * l + 8) := by rw [p2.2 _ (by omega), z2 _ (by omega)]
      have m18 : MF (44 + 10 * l) s (wupL s16 (44 + 10 * l + 8) (64 * kd.toNatClampNeg + 8 * i + j) t15) := ⟨m16.1, fun k h1 h2 h3 => by rw [wupL_n h3, m16.2 k h1 h2 h3]⟩
      unfold wX3_measureFar_j67
      refine t_mono (ih (m18.ja hl g) (m18.lk hl k) (by rw [m18.f163 hl]; exact hM) (by rw [hb, i_on1 (by omega)]) (by omega) (by omega)) (fun r hr => ⟨m18.trans hr.1, fun c => ?_⟩)
      rw [hr.2 c, m18.f163 hl, wupL_k, t16]
      by_cases q : c = 64 * kd.toNatClampNeg + 8 * i + j
      · rw [q, if_neg (by omega), if_pos (by omega), vpL_s, v, Nat.add_sub_cancel_left]
      · rw [vpL_n q]
        by_cases w : 64 * kd.toNatClampNeg + 8 * i + j ≤ c ∧ c < 64 * kd.toNatClampNeg + 8 * i + M'
        · rw [if_pos (by omega), if_pos w]
        · rw [if_neg (by omega), if_neg w]
    · have hc := t_ge c
      rw [eb, eM] at hc
      rw [if_neg c]
      exact t_some ⟨MF.refl, fun c => by rw [if_neg (by omega)]⟩
end MEAS
