/-! The reference: PAIRS, KEPT. -/
noncomputable def PV (s : wS) : Prop := (0 ≤ (s.1 152 33).toInt ∧ (s.1 152 33).toInt ≤ 84) ∧ ∀ p : Nat, (p : Int) < (s.1 152 33).toInt → (0 ≤ (s.1 168 (3 * p)).toInt ∧ (s.1 168 (3 * p)).toInt ≤ 2) ∧ (0 ≤ (s.1 168 (3 * p + 1)).toInt ∧ (s.1 168 (3 * p + 1)).toInt < 8) ∧ (0 ≤ (s.1 168 (3 * p + 2)).toInt ∧ (s.1 168 (3 * p + 2)).toInt < 8)
theorem PV_P {s s' : wS} (h : wA bP s s') (g : PV s) : PV s' := by
  have h1 : s'.1 168 = s.1 168 := funext fun b => h 168 b rfl
  have h2 : s'.1 152 33 = s.1 152 33 := h 152 33 rfl
  unfold PV at *
  rw [h1, h2]
  exact g
theorem t_3p {x : Int32} (h : 0 ≤ x.toInt) (h2 : x.toInt ≤ 84) : (3 * x).toInt = 3 * x.toInt := by
  have e : (3 : Int32).toInt = 3 := rfl
  rw [t_mul (by rw [e]; omega) (by rw [e]; omega), e]
theorem wX11_leaves_T {x1 x2 x3 : Int32} {s : wS} (hR : RQ s) (hP : PV s) (hp : 0 ≤ x1.toInt) (hp2 : x1.toInt < (s.1 152 33).toInt) (hb : 0 ≤ x2.toInt) (hb2 : x2.toInt ≤ 1) (hw : 0 ≤ x3.toInt) (hw2 : x3.toInt < (wW s).toInt) : Tot (wX11_leaves x1 x2 x3 s) (fun t => t = 0 ∨ t = 1) := by
  unfold wX11_leaves
  obtain ⟨⟨p0, p1⟩, hq⟩ := hP
  obtain ⟨⟨k0, k2⟩, ⟨a0, a8⟩, ⟨b0, b8⟩⟩ := hq x1.toNatClampNeg (by unfold Int32.toNatClampNeg; omega)
  have e3 := t_3p hp (by omega)
  have e1 := t_pl (x := 3 * x1) (d := 1) (m := 1) rfl (by omega) (by omega) (by omega) (by omega)
  have e2 := t_pl (x := 3 * x1) (d := 2) (m := 2) rfl (by omega) (by omega) (by omega) (by omega)
  have f1 : (((3 * x1) + 1) + x2).toInt = 3 * x1.toInt + 1 + x2.toInt := by rw [t_add (by omega) (by omega), e1, e3]
  have f2 : (((3 * x1) + 2) - x2).toInt = 3 * x1.toInt + 2 - x2.toInt := by rw [t_sub (by omega) (by omega), e2, e3]
  refine t_bind (t_ldI (n := 252) (by omega) (by omega)) (fun t1 h1 => ?_)
  refine t_bind (t_ldI (n := 252) (by omega) (by omega)) (fun t2 h2 => ?_)
  refine t_bind (t_ldI (n := 252) (by omega) (by omega)) (fun t3 h3 => ?_)
  have n1 : (3 * x1).toNatClampNeg = 3 * x1.toNatClampNeg := by unfold Int32.toNatClampNeg; omega
  rw [n1] at h1
  rw [← h1] at k0 k2
  have hd : (0 ≤ t2.toInt ∧ t2.toInt < 8) ∧ (0 ≤ t3.toInt ∧ t3.toInt < 8) := by
    rcases (by omega : x2.toInt = 0 ∨ x2.toInt = 1) with e | e
    · have n2 : (((3 * x1) + 1) + x2).toNatClampNeg = 3 * x1.toNatClampNeg + 1 := by unfold Int32.toNatClampNeg; omega
      have n3 : (((3 * x1) + 2) - x2).toNatClampNeg = 3 * x1.toNatClampNeg + 2 := by unfold Int32.toNatClampNeg; omega
      rw [n2] at h2
      rw [n3] at h3
      rw [h2, h3]
      exact ⟨⟨a0, a8⟩, ⟨b0, b8⟩⟩
    · have n2 : (((3 * x1) + 1) + x2).toNatClampNeg = 3 * x1.toNatClampNeg + 2 := by unfold Int32.toNatClampNeg; omega
      have n3 : (((3 * x1) + 2) - x2).toNatClampNeg = 3 * x1.toNatClampNeg + 1 := by unfold Int32.toNatClampNeg; omega
      rw [n2] at h2
      rw [n3] at h3
      rw [h2, h3]
      exact ⟨⟨b0, b8⟩, ⟨a0, a8⟩⟩
  refine t_bind (wX11_isNearer_T hR k0 k2 hd.1.1 hd.1.2 hd.2.1 hd.2.2 hw hw2) (fun t4 h4 => ?_)
  exact t_mono (t_rtZ h4) (fun r h => by rw [h]; exact h4)
/-- PAIRS of the kinds before, and of the first things of a kind -/
noncomputable def tri (a : Int) : Int := if a ≤ 0 then 0 else if a = 1 then 7 else if a = 2 then 13 else if a = 3 then 18 else if a = 4 then 22 else if a = 5 then 25 else if a = 6 then 27 else 28
theorem wX11_gathers_h28_T {x1 x2 : Int32} {s0 : wS} (hR : RQ s0) (hk : 0 ≤ x1.toInt) (hk2 : x1.toInt ≤ 2) (h2 : 0 ≤ x2.toInt) (h2b : x2.toInt < 8) : ∀ (n : Nat) {x3 : Int32} {s : wS}, wA bQ s0 s → PV s → (s.1 152 33).toInt ≤ 28 * x1.toInt + tri x2.toInt + (x3.toInt - x2.toInt - 1) → x2.toInt < x3.toInt → x3.toInt ≤ 8 → 2147483648 - x3.toInt < (n : Int) → Tot (wX11_gathers_h28 x1 x2 n x3 s) (fun r => wA bQ s0 r ∧ PV r ∧ (r.1 152 33).toInt ≤ 28 * x1.toInt + tri (x2.toInt + 1)) := by
  intro n
  induction n with
  | zero => intro x3 s _ _ _ _ _ hm; exact (t_m0 hm).elim
  | succ n ih =>
    intro x3 s ha hP hc hi hi8 hm
    rw [wX11_gathers_h28]
    have hR1 := RQ_A ha hR
    have hkb := (RQ_k hR1 hk hk2).2
    have htri : tri x2.toInt + (7 - x2.toInt) = tri (x2.toInt + 1) ∧ 0 ≤ tri x2.toInt ∧ tri (x2.toInt + 1) ≤ 28 := by
      rcases (by omega : x2.toInt = 0 ∨ x2.toInt = 1 ∨ x2.toInt = 2 ∨ x2.toInt = 3 ∨ x2.toInt = 4 ∨ x2.toInt = 5 ∨ x2.toInt = 6 ∨ x2.toInt = 7) with e | e | e | e | e | e | e | e <;> rw [e] <;> decide
    refine t_bind (t_ldI (n := 262) hk (by omega)) (fun t5 h5 => t_ite (fun c => ?_) (fun c => t_some ⟨ha, hP, by omega⟩))
    have hc5 := t_lt c
    rw [h5] at hc5
    obtain ⟨⟨p0, p1⟩, hq⟩ := hP
    have e3 := t_3p p0 p1
    have e1 := t_pl (x := 3 * s.1 152 33) (d := 1) (m := 1) rfl (by omega) (by omega) (by omega) (by omega)
    have e2 := t_pl (x := 3 * s.1 152 33) (d := 2) (m := 2) rfl (by omega) (by omega) (by omega) (by omega)
    refine t_bind (t_stI (B := bQ) (n := 252) (by omega) (by omega) (fun _ => rfl)) (fun s7 h7 => ?_)
    have f7 : s7.1 152 33 = s.1 152 33 := by rw [h7.2, wupI_n (by omega)]
    refine t_bind (t_stI (B := bQ) (n := 252) (by rw [f7]; omega) (by rw [f7]; omega) (fun _ => rfl)) (fun s8 h8 => ?_)
    have f8 : s8.1 152 33 = s.1 152 33 := by rw [h8.2, wupI_n (by omega), f7]
    refine t_bind (t_stI (B := bQ) (n := 252) (by rw [f8]; omega) (by rw [f8]; omega) (fun _ => rfl)) (fun s9 h9 => ?_)
    have f9 : s9.1 152 33 = s.1 152 33 := by rw [h9.2, wupI_n (by omega), f8]
    refine t_bind (t_pfI (B := bQ) rfl) (fun s10 h10 => ?_)
    have f10 : (s10.1 152 33).toInt = (s.1 152 33).toInt + 1 := by
      rw [h10.2, wup_same, f9]
      exact t_pl rfl (by omega) (by omega) (by omega) (by omega)
    have n0 : (3 * s.1 152 33).toNatClampNeg = 3 * (s.1 152 33).toNatClampNeg := by unfold Int32.toNatClampNeg; omega
    have n1 : (3 * s.1 152 33 + 1).toNatClampNeg = 3 * (s.1 152 33).toNatClampNeg + 1 := by unfold Int32.toNatClampNeg; omega
    have n2 : (3 * s.1 152 33 + 2).toNatClampNeg = 3 * (s.1 152 33).toNatClampNeg + 2 := by unfold Int32.toNatClampNeg; omega
    have g : ∀ j, s10.1 168 j = if j = 3 * (s.1 152 33).toNatClampNeg + 2 then x3 else if j = 3 * (s.1 152 33).toNatClampNeg + 1 then x2 else if j = 3 * (s.1 152 33).toNatClampNeg then x1 else s.1 168 j := by
      intro j
      rw [h10.2, wupI_n (by omega), h9.2, wupI_k, f8, n2, h8.2, wupI_k, f7, n1, h7.2, wupI_k, n0]
      rfl
    have hP2 : PV s10 := by
      refine ⟨⟨by omega, by omega⟩, fun p hp => ?_⟩
      rw [f10] at hp
      rw [g, g, g]
      by_cases ep : (p : Int) = (s.1 152 33).toInt
      · have ep2 : p = (s.1 152 33).toNatClampNeg := by unfold Int32.toNatClampNeg; omega
        rw [if_neg (by omega), if_neg (by omega), if_pos (by omega), if_neg (by omega), if_pos (by omega), if_pos (by omega)]
        exact ⟨⟨hk, hk2⟩, ⟨h2, h2b⟩, ⟨by omega, by omega⟩⟩
      · have ep2 : p < (s.1 152 33).toNatClampNeg := by unfold Int32.toNatClampNeg; omega
        rw [if_neg (by omega), if_neg (by omega), if_neg (by omega), if_neg (by omega), if_neg (by omega), if_neg (by omega), if_neg (by omega), if_neg (by omega), if_neg (by omega)]
        exact hq p (by omega)
    have hx := t_inc c
    exact ih ((((ha.trans h7.1).trans h8.1).trans h9.1).trans h10.1) hP2 (by omega) (by omega) (by omega) (t_m1 c hm)
theorem wX11_gathers_h14_T {x1 : Int32} {s0 : wS} (hR : RQ s0) (hk : 0 ≤ x1.toInt) (hk2 : x1.toInt ≤ 2) : ∀ (n : Nat) {x2 : Int32} {s : wS}, wA bQ s0 s → PV s → (s.1 152 33).toInt ≤ 28 * x1.toInt + tri x2.toInt → 0 ≤ x2.toInt → x2.toInt ≤ 8 → 2147483648 - x2.toInt < (n : Int) → Tot (wX11_gathers_h14 x1 n x2 s) (fun r => wA bQ s0 r ∧ PV r ∧ (r.1 152 33).toInt ≤ 28 * (x1.toInt + 1)) := by
  intro n
  induction n with
  | zero => intro x2 s _ _ _ _ _ hm; exact (t_m0 hm).elim
  | succ n ih =>
    intro x2 s ha hP hc hi hi8 hm
    rw [wX11_gathers_h14]
    have hR1 := RQ_A ha hR
    have hkb := (RQ_k hR1 hk hk2).2
    have htri : tri x2.toInt ≤ 28 := by
      rcases (by omega : x2.toInt = 0 ∨ x2.toInt = 1 ∨ x2.toInt = 2 ∨ x2.toInt = 3 ∨ x2.toInt = 4 ∨ x2.toInt = 5 ∨ x2.toInt = 6 ∨ x2.toInt = 7 ∨ x2.toInt = 8) with e | e | e | e | e | e | e | e | e <;> rw [e] <;> decide
    refine t_bind (t_ldI (n := 262) hk (by omega)) (fun t5 h5 => t_ite (fun c => ?_) (fun c => t_some ⟨ha, hP, by omega⟩))
    have hc5 := t_lt c
    rw [h5] at hc5
    have hx := t_inc c
    refine t_bind (wX11_gathers_h28_T hR hk hk2 hi (by omega) _ ha hP (by omega) (by omega) (by omega) t_mi) (fun s12 h12 => ?_)
    exact ih h12.1 h12.2.1 (by rw [hx]; exact h12.2.2) (by omega) (by omega) (t_m1 c hm)
theorem wX11_gathers_h7_T {s0 : wS} (hR : RQ s0) : ∀ (n : Nat) {x1 : Int32} {s : wS}, wA bQ s0 s → PV s → (s.1 152 33).toInt ≤ 28 * x1.toInt → 0 ≤ x1.toInt → 2147483648 - x1.toInt < (n : Int) → Tot (wX11_gathers_h7 n x1 s) (fun r => wA bQ s0 r ∧ PV r) := by
  intro n
  induction n with
  | zero => intro x1 s _ _ _ _ hm; exact (t_m0 hm).elim
  | succ n ih =>
    intro x1 s ha hP hc hi hm
    rw [wX11_gathers_h7]
    refine t_ite (fun c => ?_) (fun c => t_some ⟨ha, hP⟩)
    have hc5 := t_lt c
    rw [show (3 : Int32).toInt = 3 from rfl] at hc5
    have hx := t_inc c
    refine t_bind (wX11_gathers_h14_T hR hi (by omega) _ ha hP (by rw [show tri (0 : Int32).toInt = 0 from rfl]; omega) (by decide) (by decide) t_mi) (fun s12 h12 => ?_)
    exact ih h12.1 h12.2.1 (by rw [hx]; exact h12.2.2) (by omega) (t_m1 c hm)
theorem wX11_gathers_T {s : wS} (hR : RQ s) : Tot (wX11_gathers s) (fun r => wA bQ s r ∧ PV r) := by
  unfold wX11_gathers
  refine t_bind (t_pfI (B := bQ) rfl) (fun s1 h1 => ?_)
  have f : (s1.1 152 33).toInt = 0 := by rw [h1.2, wup_same]; rfl
  refine t_bind (wX11_gathers_h7_T hR _ h1.1 ⟨⟨by omega, by omega⟩, fun p hp => by omega⟩ (by rw [f]; decide) (by decide) t_mi) (fun s19 h => t_some h)
