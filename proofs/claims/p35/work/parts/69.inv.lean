/-! What holds between the calls of both sides. -/
noncomputable def INV (s : wS) : Prop := (0 ≤ (s.1 0 6).toInt ∧ (s.1 0 6).toInt ≤ 6) ∧ RI s ∧ s.1 14 11 = s.1 163 6 ∧ ∀ k : Nat, k < 4 → ((s.1 27 k = 0 ↔ s.1 171 k = 0) ∧ (¬ s.1 171 k = 0 → s.1 (104 + 12 * k) 11 = s.1 170 (262 * k + 6)))
theorem INV.rq {s : wS} (g : INV s) : RQ s := g.2.1.1
/-- the class wrote, but nothing of x -/
theorem INV_C {B : Nat → Nat → Bool} {s s' : wS} (h : wA B s s') (g : INV s) (h0 : 0 ≤ (s'.1 0 6).toInt ∧ (s'.1 0 6).toInt ≤ 6) (h14 : B 14 11 = false) (h27 : ∀ b, B 27 b = false) (hI : B 104 11 = false ∧ B 116 11 = false ∧ B 128 11 = false ∧ B 140 11 = false) (hr : ∀ b, B 163 b = false ∧ B 157 b = false ∧ B 156 b = false ∧ B 154 b = false ∧ B 170 b = false ∧ B 171 b = false) (h1 : B 152 1 = false) (h2 : B 152 2 = false) : INV s' := by
  obtain ⟨g0, gR, gx, gI⟩ := g
  obtain ⟨r1, x1, x2, x3⟩ := RI_taped h gR (fun b => (hr b).1) (fun b => (hr b).2.1) (fun b => (hr b).2.2.1) (fun b => (hr b).2.2.2.1) h2 (fun b => (hr b).2.2.2.2.1) (fun b => (hr b).2.2.2.2.2) (by rw [h 152 1 h1]; exact gR.2.1)
  refine ⟨h0, r1, ?_, fun k hk => ?_⟩
  · rw [h 14 11 h14, x1, gx]
  · rw [h 27 k (h27 k), x2, x3]
    have e : s'.1 (104 + 12 * k) 11 = s.1 (104 + 12 * k) 11 := by
      refine h _ 11 ?_
      match k, hk with
      | 0, _ => exact hI.1
      | 1, _ => exact hI.2.1
      | 2, _ => exact hI.2.2.1
      | 3, _ => exact hI.2.2.2
    rw [e]
    exact gI k hk
theorem INV_Q {s s' : wS} (h : wA bQ s s') (g : INV s) : INV s' :=
  INV_C h g (by rw [h 0 6 rfl]; exact g.1) rfl (fun _ => rfl) ⟨rfl, rfl, rfl, rfl⟩ (fun _ => ⟨rfl, rfl, rfl, rfl, rfl, rfl⟩) rfl rfl
/-- the reference wrote, but nothing of x -/
theorem INV_R {s s' : wS} (g : INV s) (h : RI s' ∧ wA bX s s' ∧ XR s s') : INV s' := by
  obtain ⟨g0, gR, gx, gI⟩ := g
  obtain ⟨r1, a, x1, x2, x3⟩ := h
  refine ⟨by rw [a 0 6 rfl]; exact g0, r1, by rw [a 14 11 rfl, x1, gx], fun k hk => ?_⟩
  rw [a 27 k rfl, x2, x3, a (104 + 12 * k) 11 (nb_false (by omega))]
  exact gI k hk
theorem INV_P {s s' : wS} (h : wA bP s s') (g : INV s) : INV s' := INV_Q (h.mono bP_le_bQ) g
theorem seed_both {x : Int32} {s s1 s2 : wS} {v v2 : Int32} (g : INV s) (h : wA (fun k b => Nat.beq k 14 && Nat.beq b 11) s s1 ∧ ((x < 0 ∧ (v, s1) = (-1, s)) ∨ (¬ x < 0 ∧ v = s.1 14 11 ∧ s1.1 14 11 = x))) (h2 : RI s1 → RI s2 ∧ wA bX s1 s2 ∧ s2.1 170 = s1.1 170 ∧ s2.1 171 = s1.1 171 ∧ ((x < 0 ∧ (v2, s2) = (-1, s1)) ∨ (¬ x < 0 ∧ v2 = s1.1 163 6 ∧ s2.1 163 6 = x))) : v = v2 ∧ INV s2 := by
  obtain ⟨g0, gR, gx, gI⟩ := g
  obtain ⟨a, h⟩ := h
  obtain ⟨r1, x1, x2, x3⟩ := RI_taped a gR (fun _ => rfl) (fun _ => rfl) (fun _ => rfl) (fun _ => rfl) rfl (fun _ => rfl) (fun _ => rfl) (by rw [a 152 1 rfl]; exact gR.2.1)
  obtain ⟨r2, a2, y2, y3, h2⟩ := h2 r1
  have A0 : s2.1 0 6 = s.1 0 6 := by rw [a2 0 6 rfl, a 0 6 rfl]
  have A27 : ∀ k, s2.1 27 k = s.1 27 k := fun k => by rw [a2 27 k rfl, a 27 k rfl]
  have AI : ∀ k, k < 4 → s2.1 (104 + 12 * k) 11 = s.1 (104 + 12 * k) 11 := fun k hk => by
    rw [a2 (104 + 12 * k) 11 (nb_false (by omega)), a (104 + 12 * k) 11 (by dsimp only; rw [nq_false (show 104 + 12 * k ≠ 14 by omega)]; rfl)]
  have e14 : s2.1 14 11 = s1.1 14 11 := a2 14 11 rfl
  have I2 : ∀ k : Nat, k < 4 → ((s2.1 27 k = 0 ↔ s2.1 171 k = 0) ∧ (¬ s2.1 171 k = 0 → s2.1 (104 + 12 * k) 11 = s2.1 170 (262 * k + 6))) := fun k hk => by
    rw [A27, y3, x3, y2, x2, AI k hk]
    exact gI k hk
  rcases h with ⟨hx, e⟩ | ⟨hx, e, e'⟩
  · obtain ⟨rfl, rfl⟩ := Prod.mk.inj e
    rcases h2 with ⟨_, q⟩ | ⟨hx', _⟩
    · obtain ⟨rfl, rfl⟩ := Prod.mk.inj q
      exact ⟨rfl, g0, gR, gx, gI⟩
    · exact absurd hx hx'
  · rcases h2 with ⟨hx', _⟩ | ⟨_, q, q'⟩
    · exact absurd hx' hx
    · refine ⟨by rw [e, q, x1, gx], by rw [A0]; exact g0, r2, by rw [e14, e', q'], I2⟩
theorem image_both {x : Int32} {s s1 s2 : wS} {v v2 : Int32} (g : INV s) (h : ((v, s1) = (-1, s) ∧ ¬ (0 ≤ x.toInt ∧ x.toInt < 4)) ∨ ((0 ≤ x.toInt ∧ x.toInt < 4) ∧ wA (fun k _ => Nat.beq k 27 || (Nat.ble (104 + 12 * x.toNatClampNeg) k && Nat.ble k (115 + 12 * x.toNatClampNeg))) s s1 ∧ s1.1 (104 + 12 * x.toNatClampNeg) 11 = s.1 14 11 ∧ s1.1 27 = upd (s.1 27) x.toNatClampNeg 1)) (h2 : RI s1 → RI s2 ∧ wA bX s1 s2 ∧ (((v2, s2) = (-1, s1) ∧ ¬ (0 ≤ x.toInt ∧ x.toInt < 4)) ∨ ((0 ≤ x.toInt ∧ x.toInt < 4) ∧ s2.1 163 = s1.1 163 ∧ s2.1 171 = upd (s1.1 171) x.toNatClampNeg 1 ∧ (∀ i, s2.1 170 i = if 262 * x.toNatClampNeg ≤ i ∧ i < 262 * x.toNatClampNeg + 262 then s1.1 163 (i - 262 * x.toNatClampNeg) else s1.1 170 i)))) : INV s2 := by
  rcases h with ⟨e, hx⟩ | ⟨hx, a, e11, e27⟩
  · obtain ⟨rfl, rfl⟩ := Prod.mk.inj e
    obtain ⟨r2, a2, h2⟩ := h2 g.2.1
    rcases h2 with ⟨q, _⟩ | ⟨q, _⟩
    · obtain ⟨rfl, rfl⟩ := Prod.mk.inj q
      exact g
    · exact absurd q hx
  · obtain ⟨g0, gR, gx, gI⟩ := g
    have hxn : x.toNatClampNeg < 4 := by unfold Int32.toNatClampNeg; omega
    have z : ∀ k b, 152 ≤ k → s1.1 k b = s.1 k b := fun k b hk => a k b (by
      dsimp only
      rw [nq_false (show k ≠ 27 by omega), nb_false (show 115 + 12 * x.toNatClampNeg < k by omega), Bool.and_false]
      rfl)
    have z' : ∀ k, 152 ≤ k → s1.1 k = s.1 k := fun k hk => funext fun b => z k b hk
    have r1 : RI s1 := by
      obtain ⟨g1, g2, g3⟩ := gR
      exact ⟨RQ_same ⟨z' 163 (by omega), z' 157 (by omega), z' 156 (by omega), z' 154 (by omega), z 152 2 (by omega)⟩ g1, by rw [z 152 1 (by omega)]; exact g2, IM_eq (z' 170 (by omega)) (z' 171 (by omega)) g3⟩
    obtain ⟨r2, a2, h2⟩ := h2 r1
    rcases h2 with ⟨_, q⟩ | ⟨_, q163, q171, q170⟩
    · exact absurd hx q
    · have c0 : s1.1 0 6 = s.1 0 6 := a 0 6 (by dsimp only; rw [nb_false (show 0 < 104 + 12 * x.toNatClampNeg by omega)]; rfl)
      have c14 : s1.1 14 11 = s.1 14 11 := a 14 11 (by dsimp only; rw [nb_false (show 14 < 104 + 12 * x.toNatClampNeg by omega)]; rfl)
      refine ⟨by rw [a2 0 6 rfl, c0]; exact g0, r2, by rw [a2 14 11 rfl, c14, q163, z 163 6 (by omega), gx], fun k hk => ?_⟩
      have e6 : s2.1 170 (262 * k + 6) = if k = x.toNatClampNeg then s.1 163 6 else s.1 170 (262 * k + 6) := by
        rw [q170]
        by_cases hkx : k = x.toNatClampNeg
        · rw [if_pos hkx, if_pos (by omega), z 163 _ (by omega), hkx, Nat.add_sub_cancel_left]
        · rw [if_neg hkx, if_neg (by omega), z 170 _ (by omega)]
      have e171 : s2.1 171 k = if k = x.toNatClampNeg then 1 else s.1 171 k := by
        rw [q171]
        unfold upd
        by_cases hkx : k = x.toNatClampNeg
        · rw [if_pos hkx, if_pos hkx]
        · rw [if_neg hkx, if_neg hkx, z 171 _ (by omega)]
      have f27 : s2.1 27 k = if k = x.toNatClampNeg then 1 else s.1 27 k := by
        rw [a2 27 k rfl, e27]
        unfold upd
        rfl
      rw [a2 (104 + 12 * k) 11 (nb_false (by omega)), e6, e171, f27]
      by_cases hkx : k = x.toNatClampNeg
      · rw [if_pos hkx, if_pos hkx, if_pos hkx]
        exact ⟨Iff.rfl, fun _ => by rw [hkx, e11, gx]⟩
      · rw [if_neg hkx, if_neg hkx, if_neg hkx, a (104 + 12 * k) 11 ?_]
        · exact gI k hk
        · dsimp only
          rw [nq_false (show 104 + 12 * k ≠ 27 by omega)]
          rcases Nat.lt_or_gt_of_ne hkx with q | q
          · rw [nb_false (show 104 + 12 * k < 104 + 12 * x.toNatClampNeg by omega)]; rfl
          · rw [nb_false (show 115 + 12 * x.toNatClampNeg < 104 + 12 * k by omega), Bool.and_false]; rfl
theorem back_both {x : Int32} {s s1 s2 : wS} {v v2 : Int32} (g : INV s) (h : ((v, s1) = (-1, s) ∧ (¬ (0 ≤ x.toInt ∧ x.toInt < 4) ∨ s.1 27 x.toNatClampNeg = 0)) ∨ ((0 ≤ x.toInt ∧ x.toInt < 4) ∧ ¬ s.1 27 x.toNatClampNeg = 0 ∧ wA (fun k b => (Nat.ble 14 k && Nat.ble k 25) || bR k b) s s1 ∧ s1.1 14 11 = s.1 (104 + 12 * x.toNatClampNeg) 11)) (h2 : RI s1 → RI s2 ∧ wA bX s1 s2 ∧ s2.1 170 = s1.1 170 ∧ s2.1 171 = s1.1 171 ∧ (((v2, s2) = (-1, s1) ∧ (¬ (0 ≤ x.toInt ∧ x.toInt < 4) ∨ s1.1 171 x.toNatClampNeg = 0)) ∨ ((0 ≤ x.toInt ∧ x.toInt < 4) ∧ ¬ s1.1 171 x.toNatClampNeg = 0 ∧ (∀ i, i < 262 → s2.1 163 i = s1.1 170 (262 * x.toNatClampNeg + i))))) : INV s2 := by
  rcases h with ⟨e, hx⟩ | ⟨hx, hm, a, e11⟩
  · obtain ⟨rfl, rfl⟩ := Prod.mk.inj e
    obtain ⟨r2, a2, y2, y3, h2⟩ := h2 g.2.1
    rcases h2 with ⟨q, _⟩ | ⟨q, q', _⟩
    · obtain ⟨rfl, rfl⟩ := Prod.mk.inj q
      exact g
    · exfalso
      rcases hx with hx | hx
      · exact hx q
      · exact q' (((g.2.2.2 _ (by unfold Int32.toNatClampNeg; omega)).1).1 hx)
  · obtain ⟨g0, gR, gx, gI⟩ := g
    have hxn : x.toNatClampNeg < 4 := by unfold Int32.toNatClampNeg; omega
    obtain ⟨r1, x1, x2, x3⟩ := RI_taped a gR (fun _ => rfl) (fun _ => rfl) (fun _ => rfl) (fun _ => rfl) rfl (fun _ => rfl) (fun _ => rfl) (by rw [a 152 1 rfl]; exact gR.2.1)
    obtain ⟨r2, a2, y2, y3, h2⟩ := h2 r1
    have hm' : ¬ s.1 171 x.toNatClampNeg = 0 := fun q => hm ((gI _ hxn).1.2 q)
    rcases h2 with ⟨_, q⟩ | ⟨_, _, q⟩
    · rcases q with q | q
      · exact absurd hx q
      · rw [x3] at q; exact absurd q hm'
    · refine ⟨by rw [a2 0 6 rfl, a 0 6 rfl]; exact g0, r2, ?_, fun k hk => ?_⟩
      · rw [a2 14 11 rfl, e11, q 6 (by omega), x2]
        exact (gI _ hxn).2 hm'
      · have eI : s1.1 (104 + 12 * k) 11 = s.1 (104 + 12 * k) 11 := a _ 11 (by
          match k, hk with
          | 0, _ => rfl
          | 1, _ => rfl
          | 2, _ => rfl
          | 3, _ => rfl)
        rw [a2 27 k rfl, a 27 k rfl, y3, x3, y2, x2, a2 (104 + 12 * k) 11 (nb_false (by omega)), eI]
        exact gI k hk
