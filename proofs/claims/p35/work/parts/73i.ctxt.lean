/-! The class's tokens, read along. -/
theorem at_E {k n : Nat} {i : Int32} {s : wS} (hk : wln k = n) (hn : n ≤ 2400) (h0 : 0 ≤ i.toInt) (h1 : i.toInt < n) : wX10_at k i s = some (s.1 k i.toNatClampNeg) := by
  unfold wX10_at
  rw [if_neg (fun c => by have := t_lt c; rw [t_i0] at this; omega), hk, if_pos (Int32.lt_iff_toInt_lt.2 (by rw [t_ofNat hn]; exact h1))]
  obtain ⟨v, e, hv⟩ := t_ldI (s := s) (k := k) (n := n) h0 h1
  rw [e, hv]
  rfl
theorem at_0 {k n : Nat} {i : Int32} {s : wS} (hk : wln k = n) (hn : n ≤ 2400) (h : ¬ (0 ≤ i.toInt ∧ i.toInt < n)) : wX10_at k i s = some 0 := by
  unfold wX10_at
  by_cases c : i < 0
  · rw [if_pos c]
  · have hc := t_ge c
    rw [t_i0] at hc
    rw [if_neg c, hk, if_neg (fun c => by have := t_lt c; rw [t_ofNat hn] at this; omega)]
/-- the class's tokens are these, and here it stands -/
noncomputable def CT (S P N : Nat → Int32) (K k : Nat) (s : wS) : Prop := (s.1 4 = S ∧ s.1 5 = P ∧ s.1 6 = N) ∧ ((s.1 3 3).toInt = (K : Int) + 1 ∧ K ≤ 400) ∧ s.1 3 4 = Int32.ofNat k
noncomputable abbrev hr (s : wS) (k : Nat) : wS := wupI s 3 4 (Int32.ofNat k)
section CTX
variable {S P N : Nat → Int32} {K k : Nat} {s : wS}
theorem CT.hr {j : Nat} (h : CT S P N K k s) : CT S P N K j (hr s j) := by
  obtain ⟨⟨h1, h2, h3⟩, h4, h5⟩ := h
  refine ⟨⟨?_, ?_, ?_⟩, ?_, wup_same⟩
  · rw [wupI_n (by omega)]; exact h1
  · rw [wupI_n (by omega)]; exact h2
  · rw [wupI_n (by omega)]; exact h3
  · rw [wup_nb (by omega)]; exact h4
theorem CT.f5 {v : Int32} (h : CT S P N K k s) : CT S P N K k (wupI s 3 5 v) := by
  obtain ⟨⟨h1, h2, h3⟩, h4, h5⟩ := h
  refine ⟨⟨?_, ?_, ?_⟩, ?_, ?_⟩
  · rw [wupI_n (by omega)]; exact h1
  · rw [wupI_n (by omega)]; exact h2
  · rw [wupI_n (by omega)]; exact h3
  · rw [wup_nb (by omega)]; exact h4
  · rw [wup_nb (by omega)]; exact h5
theorem CT.go {s' : wS} (h : CT S P N K k s) (h4 : s'.1 4 = s.1 4) (h5 : s'.1 5 = s.1 5) (h6 : s'.1 6 = s.1 6) (h33 : s'.1 3 3 = s.1 3 3) (h34 : s'.1 3 4 = s.1 3 4) : CT S P N K k s' := by
  unfold CT
  rw [h4, h5, h6, h33, h34]
  exact h
theorem CT.he (h : CT S P N K k s) (hk : k ≤ K) : (s.1 3 4).toInt = k ∧ (s.1 3 4).toNatClampNeg = k := by
  have e : (s.1 3 4).toInt = k := by rw [h.2.2, t_on (by have := h.2.1.2; omega)]
  exact ⟨e, by unfold Int32.toNatClampNeg; omega⟩
theorem sign_E (h : CT S P N K k s) (hk : k ≤ K) : wX9_sign s = some (S k) := by
  obtain ⟨e, en⟩ := h.he hk
  have := h.2.1.2
  unfold wX9_sign
  rw [at_E (n := 401) rfl (by omega) (by omega) (by omega), en, h.1.1]
  rfl
theorem number_E (h : CT S P N K k s) (hk : k ≤ K) : wX9_number s = some (N k) := by
  obtain ⟨e, en⟩ := h.he hk
  have := h.2.1.2
  unfold wX9_number
  rw [at_E (n := 401) rfl (by omega) (by omega) (by omega), en, h.1.2.2]
  rfl
theorem skip_E (h : CT S P N K k s) (hk : k ≤ K) : wX9_skip s = some (if k < K then hr s (k + 1) else s) := by
  obtain ⟨e, en⟩ := h.he hk
  have h2 := h.2.1
  have e1 : (s.1 3 3 - 1).toInt = K := by rw [t_sub (by rw [show (1 : Int32).toInt = 1 from rfl]; omega) (by rw [show (1 : Int32).toInt = 1 from rfl]; omega), show (1 : Int32).toInt = 1 from rfl]; omega
  unfold wX9_skip
  by_cases c : k < K
  · rw [if_pos (Int32.lt_iff_toInt_lt.2 (by omega)), if_pos c]
    have : s.1 3 4 + 1 = Int32.ofNat (k + 1) := Int32.toInt_inj.1 (by rw [t_p1 (by omega) (by omega), t_on (by omega), e]; rfl)
    show some (wupI s 3 4 (s.1 3 4 + 1)) = _
    rw [this]
  · rw [if_neg (fun q => by have := t_lt q; omega), if_neg c]
theorem take_E {x : Int32} (h : CT S P N K k s) (hk : k ≤ K) : wX9_take x s = some (if S k = x then (1, if k < K then hr s (k + 1) else s) else (0, s)) := by
  obtain ⟨e, en⟩ := h.he hk
  have := h.2.1.2
  unfold wX9_take
  rw [at_E (n := 401) rfl (by omega) (by omega) (by omega), en, h.1.1]
  rw [t_sbe]
  try dsimp only
  by_cases c : S k = x
  · rw [if_pos c, if_pos c, skip_E h hk]
    rfl
  · rw [if_neg c, if_neg c]
theorem fail_E {c : Int32} (h : CT S P N K k s) (hk : k ≤ K) : wX9_fail c s = some (hr (if s.1 3 5 = 0 then wupI s 3 5 (fl c (P k)) else s) K) := by
  obtain ⟨e, en⟩ := h.he hk
  have h2 := h.2.1
  have j : ∀ u : wS, u.1 3 3 = s.1 3 3 → wX9_fail_j29 u = some (hr u K) := by
    intro u hu
    have : u.1 3 3 - 1 = Int32.ofNat K := Int32.toInt_inj.1 (by
      rw [hu, t_sub (by rw [show (1 : Int32).toInt = 1 from rfl]; omega) (by rw [show (1 : Int32).toInt = 1 from rfl]; omega), show (1 : Int32).toInt = 1 from rfl, t_on (by omega)]
      omega)
    unfold wX9_fail_j29
    rw [this]
    rfl
  unfold wX9_fail
  by_cases q : s.1 3 5 = 0
  · rw [if_pos q, if_pos q, at_E (n := 401) rfl (by omega) (by omega) (by omega), en, h.1.2.1]
    show wX9_fail_j29 (wupI s 3 5 (fl c (P k))) = _
    rw [j _ (wup_nb (by decide))]
  · rw [if_neg q, if_neg q, j _ rfl]
/-- a fault is told: nothing more is read -/
noncomputable def CF (S P N : Nat → Int32) (K : Nat) (e : Int32) (s : wS) : Prop := CT S P N K K s ∧ s.1 3 5 = e ∧ ¬ e = 0 ∧ S K = 0
theorem hr_id (h : s.1 3 4 = Int32.ofNat k) : hr s k = s := by
  show wupI s 3 4 (Int32.ofNat k) = s
  rw [← h]
  exact wup_id
theorem CF.fail {e c : Int32} (h : CF S P N K e s) : wX9_fail c s = some s := by
  obtain ⟨h1, h2, h3, -⟩ := h
  rw [fail_E h1 (Nat.le_refl _), if_neg (by rw [h2]; exact h3), hr_id h1.2.2]
theorem CF.skip {e : Int32} (h : CF S P N K e s) : wX9_skip s = some s := by
  rw [skip_E h.1 (Nat.le_refl _), if_neg (by omega)]
theorem CF.take {e x : Int32} (h : CF S P N K e s) (hx : ¬ x = 0) : wX9_take x s = some (0, s) := by
  rw [take_E h.1 (Nat.le_refl _), h.2.2.2, if_neg (fun q => hx q.symm)]
theorem CF.sign {e : Int32} (h : CF S P N K e s) : wX9_sign s = some 0 := by
  rw [sign_E h.1 (Nat.le_refl _), h.2.2.2]
theorem CF.go {e : Int32} {s' : wS} (h : CF S P N K e s) (h4 : s'.1 4 = s.1 4) (h5 : s'.1 5 = s.1 5) (h6 : s'.1 6 = s.1 6) (h3 : s'.1 3 = s.1 3) : CF S P N K e s' := by
  obtain ⟨h1, h2, hx⟩ := h
  exact ⟨h1.go h4 h5 h6 (by rw [h3]) (by rw [h3]), by rw [h3]; exact h2, hx⟩
/-- the first fault -/
theorem CT.fault {c : Int32} (h : CT S P N K k s) (hk : k ≤ K) (h0 : s.1 3 5 = 0) (hS : S K = 0) (hf : ¬ fl c (P k) = 0) : ∃ r, wX9_fail c s = some r ∧ CF S P N K (fl c (P k)) r ∧ wA (fun k b => Nat.beq k 3 && (Nat.beq b 4 || Nat.beq b 5)) s r := by
  refine ⟨_, fail_E h hk, ⟨?_, ?_, hf, hS⟩, ?_⟩
  · rw [if_pos h0]
    exact h.f5.hr
  · rw [if_pos h0, wup_nb (by decide), wup_same]
  · rw [if_pos h0]
    exact (wA_I (B := fun k b => Nat.beq k 3 && (Nat.beq b 4 || Nat.beq b 5)) rfl).trans (wA_I rfl)
theorem takeNumber_F {e lo hi : Int32} (h : CF S P N K e s) : ∃ v, wX9_takeNumber lo hi s = some (v, s) := by
  obtain ⟨h1, h2, h3, h4⟩ := id h
  have := h1.2.1.2
  obtain ⟨e', en⟩ := h1.he (Nat.le_refl _)
  refine ⟨N K, ?_⟩
  unfold wX9_takeNumber
  rw [at_E (n := 401) rfl (by omega) (by omega) (by omega), en, h1.1.2.2]
  rw [t_sbe]
  try dsimp only
  rw [at_E (n := 401) rfl (by omega) (by omega) (by omega), en, h1.1.1, h4]
  rw [t_sbe]
  try dsimp only
  rw [if_neg (by decide), h.fail]
  rfl
theorem takeNumber_E {lo hi : Int32} (h : CT S P N K k s) (hk : k ≤ K) (h0 : s.1 3 5 = 0) (hS : S K = 0) (p0 : 0 ≤ (P k).toInt) (p1 : (P k).toInt ≤ 400) : (num S P N k lo hi = none ∧ k < K ∧ wX9_takeNumber lo hi s = some (N k, hr s (k + 1))) ∨ (∃ e r, num S P N k lo hi = some e ∧ wX9_takeNumber lo hi s = some (N k, r) ∧ CF S P N K e r ∧ wA (fun k b => Nat.beq k 3 && (Nat.beq b 4 || Nat.beq b 5)) s r) := by
  have := h.2.1.2
  obtain ⟨e', en⟩ := h.he hk
  have hu : wX9_takeNumber lo hi s = if S k = 2 then (if N k < lo then (wX9_takeNumber_j45 (N k) s) else (if hi < N k then (wX9_takeNumber_j45 (N k) s) else ((wX9_skip s).bind fun s12 => some (N k, s12)))) else ((wX9_fail 0 s).bind fun s15 => some (N k, s15)) := by
    unfold wX9_takeNumber
    rw [at_E (n := 401) rfl (by omega) (by omega) (by omega), en, h.1.2.2]
    rw [t_sbe]
    try dsimp only
    rw [at_E (n := 401) rfl (by omega) (by omega) (by omega), en, h.1.1]
    rfl
  rw [hu]
  unfold num
  have bad : (∃ e r, some (fl 1 (P k)) = some e ∧ wX9_takeNumber_j45 (N k) s = some (N k, r) ∧ CF S P N K e r ∧ wA (fun k b => Nat.beq k 3 && (Nat.beq b 4 || Nat.beq b 5)) s r) := by
    obtain ⟨r, e1, e2, e3⟩ := h.fault (c := 1) hk h0 hS (fl_0 (by decide) (by decide) p0 p1)
    refine ⟨fl 1 (P k), r, rfl, ?_, e2, e3⟩
    unfold wX9_takeNumber_j45
    rw [e1]
    rfl
  by_cases c : S k = 2
  · have hkK : k < K := by
      by_cases q : k = K
      · rw [q, hS] at c; exact absurd c (by decide)
      · omega
    rw [if_pos c, if_pos c]
    by_cases c1 : N k < lo
    · rw [if_pos c1, if_pos (Or.inl c1)]
      exact Or.inr bad
    · rw [if_neg c1]
      by_cases c2 : hi < N k
      · rw [if_pos c2, if_pos (Or.inr c2)]
        exact Or.inr bad
      · rw [if_neg c2, if_neg (fun q => q.elim c1 c2), skip_E h hk, if_pos hkK]
        exact Or.inl ⟨rfl, hkK, rfl⟩
  · rw [if_neg c, if_neg c]
    obtain ⟨r, e1, e2, e3⟩ := h.fault (c := 0) hk h0 hS (fl_0 (by decide) (by decide) p0 p1)
    refine Or.inr ⟨fl 0 (P k), r, rfl, ?_, e2, e3⟩
    rw [e1]
    rfl
end CTX
