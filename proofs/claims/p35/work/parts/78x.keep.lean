/-! What leaves the tables right. -/
theorem WD_congr {f f' : Nat → Int32} {kd : Int32} {a b : Nat} (ha : a < 8) (hb : b < 8) (h : ∀ i, 10 ≤ i → i ≤ 41 → f' i = f i) : WD f' kd a b = WD f kd a b := by
  funext j
  unfold WD
  rw [h (10 + 2 * a) (by omega) (by omega), h (10 + 2 * b) (by omega) (by omega), h (10 + 2 * a + 1) (by omega) (by omega), h (10 + 2 * b + 1) (by omega) (by omega), h (26 + 2 * a) (by omega) (by omega), h (26 + 2 * b) (by omega) (by omega), h (26 + 2 * a + 1) (by omega) (by omega), h (26 + 2 * b + 1) (by omega) (by omega)]
theorem FVx_congr {x : lC} {f f' : Nat → Int32} {kd : Int32} {a b : Nat} (ha : a < 8) (hb : b < 8) (h : ∀ i, 10 ≤ i → i ≤ 41 → f' i = f i) : FVx x f' kd a b = FVx x f kd a b := by
  unfold FVx
  rw [WD_congr ha hb h]
theorem nb2_cg {F F' : Nat → Nat → Int64} {p q M : Nat} (hp : p < 8) (hq : q < 8) (hM : M ≤ 8) (h : ∀ a b, a < 8 → b < 8 → F a b = F' a b) : nb2 F p q M = nb2 F' p q M := nb2_congr (fun c hc => ⟨h p c hp (by omega), h q c hq (by omega)⟩)
theorem TBL_go {l : Nat} {x : lC} {s s' : wS} (t : TBL l x s) (hf : ∀ i, i ≤ 41 → s'.1 163 i = s.1 163 i) (h8 : s'.2 (44 + 10 * l + 8) = s.2 (44 + 10 * l + 8)) (h9 : s'.1 (44 + 10 * l + 9) = s.1 (44 + 10 * l + 9)) : TBL l x s' := by
  intro j hj M hM hM8 p q hp hq
  have ej : (Int32.ofNat j).toNatClampNeg = j := t_nc (by omega)
  rw [ej, hf j (by omega)] at hM
  obtain ⟨t1, t2⟩ := t j hj M (by rw [ej]; exact hM) hM8 p q hp hq
  have c : ∀ a b, a < 8 → b < 8 → FVx x (s.1 163) (Int32.ofNat j) a b = FVx x (s'.1 163) (Int32.ofNat j) a b := fun a b ha hb => (FVx_congr ha hb (fun i _ hi => hf i hi)).symm
  refine ⟨?_, ?_⟩
  · rw [h8, t1, c p q (by omega) (by omega)]
  · rw [h9, t2]
    exact nb2_cg (by omega) (by omega) hM8 c
theorem LK2_go {l : Nat} {x : lC} {s s' : wS} (h : LK2 l x s) (hl : ∀ j, j ≤ 5 → ∀ b, b ≠ 9 → b ≠ 12 → s'.1 (44 + 10 * l + j) b = s.1 (44 + 10 * l + j) b) (hw : ∀ j, 1 ≤ j → j ≤ 5 → s'.1 (44 + 10 * l + j) = s.1 (44 + 10 * l + j)) (hr : ∀ k, 154 ≤ k → k ≤ 157 → s'.1 k = s.1 k) : LK2 l x s' := by
  obtain ⟨h1, h2, h3⟩ := h
  exact ⟨h1.go (hl 0 (by decide) 1 (by decide) (by decide)) (hl 0 (by decide) 6 (by decide) (by decide)) hw, h2.keep (hr _ (by decide) (by decide)) (hr _ (by decide) (by decide)) (hr _ (by decide) (by decide)) (hr _ (by decide) (by decide)), h3⟩
/-- the COURT, the LAWS and their tables are as they were -/
theorem TBS_go {s s' : wS} (t : TBS s) (h2 : s'.1 152 2 = s.1 152 2) (hb : (s.1 152 2).toInt ≤ 6) (hf : ∀ i, i ≤ 41 → s'.1 163 i = s.1 163 i) (hw : ∀ k, 44 ≤ k → k ≤ 103 → s'.1 k = s.1 k) (hr : ∀ k, 154 ≤ k → k ≤ 157 → s'.1 k = s.1 k) (hL : ∀ k, 44 ≤ k → k ≤ 103 → s'.2 k = s.2 k) : TBS s' := by
  intro l hl
  rw [h2] at hl
  have hl6 : l < 6 := by omega
  rw [hw _ (by omega) (by omega)]
  rcases t l hl with q | ⟨x, lk, tb⟩
  · exact Or.inl q
  · exact Or.inr ⟨x, LK2_go lk (fun j hj b _ _ => by rw [hw _ (by omega) (by omega)]) (fun j h1 h2 => hw _ (by omega) (by omega)) hr, TBL_go tb hf (hL _ (by omega) (by omega)) (hw _ (by omega) (by omega))⟩
