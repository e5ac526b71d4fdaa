/-! The reference: feed, end, answer, strike, only, seed, verdict, image, back. -/
theorem wX11_four_h3_T {x1 : Int32} : ∀ (n : Nat) {m : Nat} {x2 : Int32} {s : wS}, x2.toInt = 8 * (m : Int) - 8 → m ≤ 4 → 0 ≤ (s.1 152 1).toInt → (s.1 152 1).toInt + m ≤ 400 → m < n → Tot (wX11_four_h3 x1 n x2 s) (fun r => wA (fun k b => Nat.beq k 153 || (Nat.beq k 152 && Nat.beq b 1)) s r ∧ (r.1 152 1).toInt = (s.1 152 1).toInt + m) := by
  intro n
  induction n with
  | zero => intro m x2 s _ _ _ _ h; exact absurd h (by omega)
  | succ n ih =>
    intro m x2 s hx hm4 h0 h4 hm
    rw [wX11_four_h3]
    refine t_ite (fun c => t_some ⟨wA.refl, ?_⟩) (fun c => ?_)
    · have hc := t_lt c
      rw [t_i0] at hc
      omega
    · have hc := t_ge c
      rw [t_i0] at hc
      obtain ⟨k, rfl⟩ : ∃ k, m = k + 1 := ⟨m - 1, by omega⟩
      refine t_bind (t_stB (B := fun k b => Nat.beq k 153 || (Nat.beq k 152 && Nat.beq b 1)) (n := 400) h0 (by omega) (fun _ => rfl)) (fun s2 h2 => ?_)
      refine t_bind (t_pfI (B := fun k b => Nat.beq k 153 || (Nat.beq k 152 && Nat.beq b 1)) rfl) (fun s3 h3 => ?_)
      have e : (s3.1 152 1).toInt = (s.1 152 1).toInt + 1 := by
        rw [h3.2, wup_same, h2.2, wupI_n (by omega)]
        exact t_p1 h0 (by omega)
      have e8 : (x2 + (-8)).toInt = x2.toInt - 8 := by
        rw [t_add (by rw [show (-8 : Int32).toInt = -8 from rfl]; omega) (by rw [show (-8 : Int32).toInt = -8 from rfl]; omega), show (-8 : Int32).toInt = -8 from rfl]
        omega
      exact t_mono (ih (m := k) (x2 := x2 + (-8)) (s := s3) (by omega) (by omega) (by omega) (by omega) (by omega)) (fun r hr => ⟨(h2.1.trans h3.1).trans hr.1, by rw [hr.2]; omega⟩)
theorem wX11_four_T {x1 : Int32} {s : wS} (h0 : 0 ≤ (s.1 152 1).toInt) (h4 : (s.1 152 1).toInt + 4 ≤ 400) : Tot (wX11_four x1 s) (fun r => wA (fun k b => Nat.beq k 153 || (Nat.beq k 152 && Nat.beq b 1)) s r ∧ (r.1 152 1).toInt = (s.1 152 1).toInt + 4) := by
  unfold wX11_four
  exact t_bind (wX11_four_h3_T wFuel (m := 4) rfl (by omega) h0 h4 (by decide +kernel)) (fun s5 h => t_some h)
/-- what was told stays -/
theorem RI_taped {B : Nat → Nat → Bool} {s s' : wS} (h : wA B s s') (g : RI s) (h163 : ∀ b, B 163 b = false) (h157 : ∀ b, B 157 b = false) (h156 : ∀ b, B 156 b = false) (h154 : ∀ b, B 154 b = false) (h2 : B 152 2 = false) (h170 : ∀ b, B 170 b = false) (h171 : ∀ b, B 171 b = false) (hT : 0 ≤ (s'.1 152 1).toInt ∧ (s'.1 152 1).toInt ≤ 400) : RI s' ∧ XR s s' := by
  obtain ⟨g1, g2, g3⟩ := g
  have e170 : s'.1 170 = s.1 170 := funext fun b => h 170 b (h170 b)
  have e171 : s'.1 171 = s.1 171 := funext fun b => h 171 b (h171 b)
  exact ⟨⟨RQ_same ⟨funext fun b => h 163 b (h163 b), funext fun b => h 157 b (h157 b), funext fun b => h 156 b (h156 b), funext fun b => h 154 b (h154 b), h 152 2 h2⟩ g1, hT, IM_eq e170 e171 g3⟩, h 163 6 (h163 6), e170, e171⟩
theorem bQ_RI {s s' : wS} (h : wA bQ s s') (g : RI s) : RI s' ∧ XR s s' :=
  RI_taped h g (fun _ => rfl) (fun _ => rfl) (fun _ => rfl) (fun _ => rfl) rfl (fun _ => rfl) (fun _ => rfl) (by rw [h 152 1 rfl]; exact g.2.1)
theorem wX11_feed_T {x1 x2 x3 x4 x5 : Int32} {s : wS} (g : RI s) : Tot (wX11_feed x1 x2 x3 x4 x5 s) (fun r => RI r.2 ∧ wA bX s r.2 ∧ XR s r.2) := by
  unfold wX11_feed
  refine t_ite (fun _ => t_some ⟨g, wA.refl, rfl, rfl, rfl⟩) (fun c => ?_)
  have gT := g.2.1
  have hc := t_ge c
  have e20 : ((s.1 152 1) + 20).toInt = (s.1 152 1).toInt + 20 := t_pl rfl (by omega) (by omega) gT.1 (by omega)
  rw [e20, show (400 : Int32).toInt = 400 from rfl] at hc
  refine t_bind (wX11_four_T gT.1 (by omega)) (fun s3 h3 => ?_)
  refine t_bind (wX11_four_T (by omega) (by omega)) (fun s6 h6 => ?_)
  refine t_bind (wX11_four_T (by omega) (by omega)) (fun s9 h9 => ?_)
  refine t_bind (wX11_four_T (by omega) (by omega)) (fun s12 h12 => ?_)
  refine t_bind (wX11_four_T (by omega) (by omega)) (fun s15 h15 => t_some ?_)
  have A := (((h3.1.trans h6.1).trans h9.1).trans h12.1).trans h15.1
  have q := RI_taped A g (fun _ => rfl) (fun _ => rfl) (fun _ => rfl) (fun _ => rfl) rfl (fun _ => rfl) (fun _ => rfl) (by omega)
  refine ⟨q.1, A.mono ?_, q.2⟩
  intro k b h
  simp only [bX, Bool.or_eq_true, Bool.and_eq_true, Nat.ble_eq, Nat.beq_eq] at *
  omega
theorem wX11_end_T {x1 : Int32} {s : wS} (g : RI s) : Tot (wX11_end x1 s) (fun r => RI r.2 ∧ wA bX s r.2 ∧ XR s r.2) := by
  unfold wX11_end
  refine t_ite (fun _ => t_some ⟨g, wA.refl, rfl, rfl, rfl⟩) (fun c => t_ite (fun _ => t_some ⟨g, wA.refl, rfl, rfl, rfl⟩) (fun c2 => ?_))
  have gT := g.2.1
  have h1 := t_ge c
  rw [t_i0] at h1
  have h2 := t_ge c2
  refine t_bind (t_pfI (B := fun k b => Nat.beq k 152 && Nat.beq b 1) rfl) (fun s3 h3 => t_some ?_)
  have q := RI_taped h3.1 g (fun _ => rfl) (fun _ => rfl) (fun _ => rfl) (fun _ => rfl) rfl (fun _ => rfl) (fun _ => rfl) (by rw [h3.2, wup_same]; omega)
  refine ⟨q.1, h3.1.mono ?_, q.2⟩
  intro k b h
  simp only [bX, Bool.or_eq_true, Bool.and_eq_true, Nat.ble_eq, Nat.beq_eq] at *
  omega
/-- the places that matter -/
noncomputable def qI (j : Nat) : Prop := j < 4 ∨ j = 5 ∨ j = 6 ∨ (43 ≤ j ∧ j < 243 ∧ j % 5 ≠ 1 ∧ j % 5 ≠ 2) ∨ (243 ≤ j ∧ j < 262 ∧ j % 2 = 1)
theorem qC_congr {f f' : Nat → Int32} (h : ∀ j, qI j → f' j = f j) (g : qC f) : qC f' := by
  obtain ⟨g0, g1, g2, gp, g3, g5, ga, gv, g6⟩ := g
  unfold qC
  have e0 : f' 0 = f 0 := h 0 (Or.inl (by omega))
  have e1 : f' 1 = f 1 := h 1 (Or.inl (by omega))
  have e2 : f' 2 = f 2 := h 2 (Or.inl (by omega))
  have e3 : f' 3 = f 3 := h 3 (Or.inl (by omega))
  have e5 : f' 5 = f 5 := h 5 (Or.inr (Or.inl rfl))
  have e6 : f' 6 = f 6 := h 6 (Or.inr (Or.inr (Or.inl rfl)))
  rw [e0, e1, e2, e3, e5, e6]
  refine ⟨g0, g1, g2, gp, g3, g5, fun a hx => ?_, fun v hx => ?_, g6⟩
  · have q := ga a hx
    have d3 : f' (43 + 5 * a) = f (43 + 5 * a) := h _ (Or.inr (Or.inr (Or.inr (Or.inl ⟨by omega, by omega, by omega, by omega⟩))))
    have d4 : f' (44 + 5 * a) = f (44 + 5 * a) := h _ (Or.inr (Or.inr (Or.inr (Or.inl ⟨by omega, by omega, by omega, by omega⟩))))
    have d5 : f' (45 + 5 * a) = f (45 + 5 * a) := h _ (Or.inr (Or.inr (Or.inr (Or.inl ⟨by omega, by omega, by omega, by omega⟩))))
    unfold qA at *
    have dk : f' (f (43 + 5 * a)).toNatClampNeg = f (f (43 + 5 * a)).toNatClampNeg := h _ (Or.inl (by unfold Int32.toNatClampNeg; omega))
    rw [d3, d4, d5, dk]
    exact q
  · have d : f' (243 + 2 * v) = f (243 + 2 * v) := h _ (Or.inr (Or.inr (Or.inr (Or.inr ⟨by omega, by omega, by omega⟩))))
    rw [d]
    exact gv v hx
/-- the court was told something -/
theorem RI_163 {s : wS} (g : RI s) {f : Nat → Int32} (h : qC f) {s' : wS} (e : s'.1 = fun k => if k = 163 then f else s.1 k) : RI s' ∧ wA bX s s' ∧ s'.1 170 = s.1 170 ∧ s'.1 171 = s.1 171 ∧ s'.1 163 = f := by
  have o : ∀ k, k ≠ 163 → s'.1 k = s.1 k := fun k hk => by rw [e]; simp only [if_neg hk]
  have o3 : s'.1 163 = f := by rw [e]; simp only [if_true]
  obtain ⟨⟨gC, gL, gW⟩, gT, gI⟩ := g
  refine ⟨⟨⟨by rw [o3]; exact h, ?_⟩, by rw [o 152 (by omega)]; exact gT, IM_eq (o 170 (by omega)) (o 171 (by omega)) gI⟩, ?_, o 170 (by omega), o 171 (by omega), o3⟩
  · unfold qL qLW at *
    rw [o 152 (by omega), o 154 (by omega), o 156 (by omega), o 157 (by omega)]
    exact ⟨gL, gW⟩
  · intro k b hk
    by_cases hk3 : k = 163
    · subst hk3; cases hk
    · rw [o k hk3]
theorem wup_fun {s : wS} {k b : Nat} {v : Int32} : (wupI s k b v).1 = fun j => if j = k then upd (s.1 k) b v else s.1 j := rfl
theorem wX11_seed_T {x1 : Int32} {s : wS} (g : RI s) : Tot (wX11_seed x1 s) (fun r => RI r.2 ∧ wA bX s r.2 ∧ r.2.1 170 = s.1 170 ∧ r.2.1 171 = s.1 171 ∧ ((x1 < 0 ∧ r = (-1, s)) ∨ (¬ x1 < 0 ∧ r.1 = s.1 163 6 ∧ r.2.1 163 6 = x1))) := by
  unfold wX11_seed
  refine t_ite (fun c => t_some ⟨g, wA.refl, rfl, rfl, Or.inl ⟨c, rfl⟩⟩) (fun c => ?_)
  refine t_bind (t_st1 (B := bX) (n := 262) (by decide) (by decide) rfl) (fun s3 h3 => t_some ?_)
  rw [show (6 : Int32).toNatClampNeg = 6 from rfl] at h3
  have hc := t_ge c
  rw [t_i0] at hc
  have q := RI_163 g (f := upd (s.1 163) 6 x1) (s' := s3) (by
    obtain ⟨g0, g1, g2, gp, g3, g5, ga, gv, g6⟩ := g.1.1
    have u : ∀ j, j ≠ 6 → upd (s.1 163) 6 x1 j = s.1 163 j := fun j hj => by unfold upd; rw [if_neg hj]
    have u6 : upd (s.1 163) 6 x1 6 = x1 := by unfold upd; rw [if_pos rfl]
    unfold qC
    rw [u 0 (by omega), u 1 (by omega), u 2 (by omega), u 3 (by omega), u 5 (by omega), u6]
    refine ⟨g0, g1, g2, gp, g3, g5, fun a hx => ?_, fun v hx => ?_, hc⟩
    · have q := ga a hx
      unfold qA at *
      have dk : upd (s.1 163) 6 x1 (s.1 163 (43 + 5 * a)).toNatClampNeg = s.1 163 (s.1 163 (43 + 5 * a)).toNatClampNeg := u _ (by unfold Int32.toNatClampNeg; omega)
      rw [u (43 + 5 * a) (by omega), u (44 + 5 * a) (by omega), u (45 + 5 * a) (by omega), dk]
      exact q
    · rw [u (243 + 2 * v) (by omega)]
      exact gv v hx) (by rw [h3.2]; rfl)
  exact ⟨q.1, q.2.1, q.2.2.1, q.2.2.2.1, Or.inr ⟨c, rfl, by show s3.1 163 6 = x1; rw [q.2.2.2.2]; unfold upd; rw [if_pos rfl]⟩⟩
/-- a place that nothing depends on -/
theorem RI_up {s : wS} (g : RI s) {i : Nat} (hi : ¬ qI i) (h6 : i ≠ 6) (v : Int32) : RI (wupI s 163 i v) ∧ wA bX s (wupI s 163 i v) ∧ XR s (wupI s 163 i v) := by
  have q := RI_163 g (f := upd (s.1 163) i v) (s' := wupI s 163 i v) (qC_congr (fun j hj => by
    unfold upd
    rw [if_neg (fun (e : j = i) => hi (e ▸ hj))]) g.1.1) rfl
  exact ⟨q.1, q.2.1, by rw [wup_nb (by omega)], q.2.2.1, q.2.2.2.1⟩
theorem wX11_only_T {x1 : Int32} {s : wS} (g : RI s) : Tot (wX11_only x1 s) (fun r => RI r.2 ∧ wA bX s r.2 ∧ XR s r.2) := by
  unfold wX11_only
  refine t_bind wX11_in_T (fun t1 _ => t_ite (fun _ => t_some ⟨g, wA.refl, rfl, rfl, rfl⟩) (fun _ => ?_))
  refine t_bind (t_st1 (B := bX) (n := 262) (by decide) (by decide) rfl) (fun s5 h5 => t_some ?_)
  show RI s5 ∧ wA bX s s5 ∧ XR s s5
  rw [h5.2, show (4 : Int32).toNatClampNeg = 4 from rfl]
  exact RI_up g (by unfold qI; omega) (by omega) _
theorem wX11_strike_T {x1 x2 : Int32} {s : wS} (g : RI s) : Tot (wX11_strike x1 x2 s) (fun r => RI r.2 ∧ wA bX s r.2 ∧ XR s r.2) := by
  unfold wX11_strike
  refine t_bind wX11_isAnswer_T (fun t1 h1 => t_ite (fun _ => t_some ⟨g, wA.refl, rfl, rfl, rfl⟩) (fun c => ?_))
  have h2 : 0 ≤ x1.toInt ∧ x1.toInt < (s.1 163 3).toInt := by
    rcases h1 with h | h
    · exact h.2
    · exact absurd h c
  have b3 := (RQ_b g.1).2.2.2.1
  refine t_bind (wX11_answerOf_T h2.1 (by omega) (by decide) (by decide)) (fun t4 _ => ?_)
  have e := t_ans (a := x1) (w := 4) h2.1 (by omega) (by decide) (by decide)
  rw [show (4 : Int32).toInt = 4 from rfl] at e
  have j50 : ∀ y, Tot (wX11_strike_j50 ((42 + (5 * x1)) + 4) y s) (fun r => RI r.2 ∧ wA bX s r.2 ∧ XR s r.2) := by
    intro y
    unfold wX11_strike_j50
    refine t_bind (t_st1 (B := bX) (n := 262) (by omega) (by omega) rfl) (fun s9 h9 => t_some ?_)
    show RI s9 ∧ wA bX s s9 ∧ XR s s9
    have en : (((42 + (5 * x1)) + 4) : Int32).toNatClampNeg = 46 + 5 * x1.toNatClampNeg := by
      unfold Int32.toNatClampNeg
      omega
    have x40 : x1.toNatClampNeg < 40 := by unfold Int32.toNatClampNeg; omega
    rw [h9.2, en]
    exact RI_up g (by unfold qI; omega) (by omega) _
  have j23 : ∀ y, Tot (wX11_strike_j23 x1 x2 y s) (fun r => RI r.2 ∧ wA bX s r.2 ∧ XR s r.2) := by
    intro y
    unfold wX11_strike_j23
    exact t_ite (fun _ => t_some ⟨g, wA.refl, rfl, rfl, rfl⟩) (fun _ => t_ite (fun _ => j50 _) (fun _ => j50 _))
  exact t_ite (fun _ => j23 _) (fun _ => j23 _)
theorem t_in {x a b : Int32} {A B : Int} (hA : a.toInt = A) (hB : b.toInt = B) {t : Int32} (h : (t = 1 ∧ ((a : Int32).toInt64).toInt ≤ ((x : Int32).toInt64).toInt ∧ ((x : Int32).toInt64).toInt ≤ ((b : Int32).toInt64).toInt) ∨ t = 0) (c : ¬ t = 0) : A ≤ x.toInt ∧ x.toInt ≤ B := by
  have q := (h.resolve_right c).2
  rw [Int32.toInt_toInt64, Int32.toInt_toInt64, Int32.toInt_toInt64, hA, hB] at q
  exact q
theorem upd_s {f : Nat → Int32} {i : Nat} {v : Int32} : upd f i v i = v := by unfold upd; rw [if_pos rfl]
theorem upd_n {f : Nat → Int32} {i j : Nat} {v : Int32} (h : j ≠ i) : upd f i v j = f j := by unfold upd; rw [if_neg h]
/-- an answer more -/
theorem qC_answer {f f' : Nat → Int32} {n : Nat} (g : qC f) (hn : (n : Int) = (f 3).toInt) (hn2 : n < 40) (h : ∀ j, ¬ (42 + 5 * n ≤ j ∧ j ≤ 46 + 5 * n) → j ≠ 3 → f' j = f j) (h3 : (f' 3).toInt = n + 1) (hA : (0 ≤ (f' (43 + 5 * n)).toInt ∧ (f' (43 + 5 * n)).toInt ≤ 2) ∧ (0 ≤ (f' (44 + 5 * n)).toInt ∧ (f' (44 + 5 * n)).toInt < (f (f' (43 + 5 * n)).toNatClampNeg).toInt) ∧ (0 ≤ (f' (45 + 5 * n)).toInt ∧ (f' (45 + 5 * n)).toInt < (f (f' (43 + 5 * n)).toNatClampNeg).toInt)) : qC f' := by
  obtain ⟨g0, g1, g2, gp, g3, g5, ga, gv, g6⟩ := g
  unfold qC
  rw [h 0 (by omega) (by omega), h 1 (by omega) (by omega), h 2 (by omega) (by omega), h 5 (by omega) (by omega), h 6 (by omega) (by omega), h3]
  have dk : ∀ k : Int32, 0 ≤ k.toInt → k.toInt ≤ 2 → f' k.toNatClampNeg = f k.toNatClampNeg := fun k h0 h2 => h _ (by unfold Int32.toNatClampNeg; omega) (by unfold Int32.toNatClampNeg; omega)
  refine ⟨g0, g1, g2, gp, ⟨by omega, by omega⟩, g5, fun a hx => ?_, fun v hx => ?_, g6⟩
  · by_cases ha : a = n
    · subst ha
      unfold qA
      rw [dk _ hA.1.1 hA.1.2]
      exact hA
    · have q := ga a (by omega)
      unfold qA at *
      rw [h (43 + 5 * a) (by omega) (by omega), h (44 + 5 * a) (by omega) (by omega), h (45 + 5 * a) (by omega) (by omega), dk _ q.1.1 q.1.2]
      exact q
  · have q := gv v hx
    rw [h (243 + 2 * v) (by omega) (by omega)]
    omega
theorem wX11_answer_T {x1 x2 x3 x4 : Int32} {s : wS} (g : RI s) : Tot (wX11_answer x1 x2 x3 x4 s) (fun r => RI r.2 ∧ wA bX s r.2 ∧ XR s r.2) := by
  have stay : ∀ v : Int32, Tot (some (v, s)) (fun r => RI r.2 ∧ wA bX s r.2 ∧ XR s r.2) := fun v => t_some ⟨g, wA.refl, rfl, rfl, rfl⟩
  unfold wX11_answer
  refine t_ite (fun _ => stay _) (fun c40 => ?_)
  have hc := t_nq c40
  rw [show (40 : Int32).toInt = 40 from rfl] at hc
  have b3 := (RQ_b g.1).2.2.2.1
  refine t_bind wX11_isWitness_T (fun t3 _ => t_ite (fun _ => stay _) (fun _ => ?_))
  refine t_bind (wX11_isThing_T g.1) (fun t6 h6 => t_ite (fun _ => stay _) (fun c6 => ?_))
  refine t_bind (wX11_isThing_T g.1) (fun t9 h9 => t_ite (fun _ => stay _) (fun c9 => t_ite (fun _ => stay _) (fun _ => ?_)))
  refine t_bind (wX11_answersBy_T g.1) (fun t13 _ => t_ite (fun _ => stay _) (fun _ => ?_))
  have k6 := (h6.resolve_right c6).2
  have k9 := (h9.resolve_right c9).2
  obtain ⟨n, hn⟩ : ∃ n : Nat, (n : Int) = (s.1 163 3).toInt := ⟨(s.1 163 3).toInt.toNat, by omega⟩
  have e5 : (5 * s.1 163 3).toInt = 5 * n := by rw [t_mul (by rw [show (5 : Int32).toInt = 5 from rfl]; omega) (by rw [show (5 : Int32).toInt = 5 from rfl]; omega), show (5 : Int32).toInt = 5 from rfl]; omega
  have e0 : (42 + (5 * s.1 163 3)).toInt = 42 + 5 * n := by rw [t_add (by rw [e5, show (42 : Int32).toInt = 42 from rfl]; omega) (by rw [e5, show (42 : Int32).toInt = 42 from rfl]; omega), e5, show (42 : Int32).toInt = 42 from rfl]
  generalize hat : 42 + (5 * s.1 163 3) = at0 at *
  have en : ∀ {d : Int32} {m : Nat}, d.toInt = m → m ≤ 4 → (at0 + d).toInt = 42 + 5 * n + m ∧ (at0 + d).toNatClampNeg = 42 + 5 * n + m := by
    intro d m hd h4
    have e : (at0 + d).toInt = 42 + 5 * n + m := by rw [t_pl hd (by omega) (by omega) (by omega) (by omega), e0]
    refine ⟨e, ?_⟩
    unfold Int32.toNatClampNeg
    omega
  have n0 : at0.toNatClampNeg = 42 + 5 * n := by unfold Int32.toNatClampNeg; omega
  obtain ⟨e1, n1⟩ := en (d := 1) (m := 1) rfl (by omega)
  obtain ⟨e2, n2⟩ := en (d := 2) (m := 2) rfl (by omega)
  obtain ⟨e3, n3⟩ := en (d := 3) (m := 3) rfl (by omega)
  obtain ⟨e4, n4⟩ := en (d := 4) (m := 4) rfl (by omega)
  refine t_bind (t_st1 (B := bX) (n := 262) (by omega) (by omega) rfl) (fun s17 h17 => ?_)
  refine t_bind (t_st1 (B := bX) (n := 262) (by omega) (by omega) rfl) (fun s18 h18 => ?_)
  refine t_bind (t_st1 (B := bX) (n := 262) (by omega) (by omega) rfl) (fun s19 h19 => ?_)
  refine t_bind (t_st1 (B := bX) (n := 262) (by omega) (by omega) rfl) (fun s20 h20 => ?_)
  refine t_bind (t_st1 (B := bX) (n := 262) (by omega) (by omega) rfl) (fun s21 h21 => ?_)
  refine t_bind (t_st1 (B := bX) (n := 262) (by decide) (by decide) rfl) (fun s23 h23 => t_some ?_)
  rw [n0] at h17
  rw [n1] at h18
  rw [n2] at h19
  rw [n3] at h20
  rw [n4] at h21
  rw [show (3 : Int32).toNatClampNeg = 3 from rfl] at h23
  have r17 := h17.2
  have r18 := h18.2
  have r19 := h19.2
  have r20 := h20.2
  have r21 := h21.2
  have r23 := h23.2
  have o : ∀ k, k ≠ 163 → s23.1 k = s.1 k := fun k hk => by rw [r23, wupI_n hk, r21, wupI_n hk, r20, wupI_n hk, r19, wupI_n hk, r18, wupI_n hk, r17, wupI_n hk]
  have m3 : s21.1 163 3 = s.1 163 3 := by rw [r21, wup_nb (by omega), r20, wup_nb (by omega), r19, wup_nb (by omega), r18, wup_nb (by omega), r17, wup_nb (by omega)]
  have f3 : (s23.1 163 3).toInt = n + 1 := by
    rw [r23, wup_same, m3, hn]
    exact t_p1 b3.1 (by omega)
  have fo : ∀ j, ¬ (42 + 5 * n ≤ j ∧ j ≤ 46 + 5 * n) → j ≠ 3 → s23.1 163 j = s.1 163 j := fun j hj hj3 => by
    rw [r23, wup_nb hj3, r21, wup_nb (by omega), r20, wup_nb (by omega), r19, wup_nb (by omega), r18, wup_nb (by omega), r17, wup_nb (by omega)]
  have fk : s23.1 163 (43 + 5 * n) = x2 := by
    rw [r23, wup_nb (by omega), r21, wup_nb (by omega), r20, wup_nb (by omega), r19, wup_nb (by omega), r18, show 42 + 5 * n + 1 = 43 + 5 * n by omega, wup_same]
  have fa : s23.1 163 (44 + 5 * n) = x3 := by
    rw [r23, wup_nb (by omega), r21, wup_nb (by omega), r20, wup_nb (by omega), r19, show 42 + 5 * n + 2 = 44 + 5 * n by omega, wup_same]
  have fb : s23.1 163 (45 + 5 * n) = x4 := by
    rw [r23, wup_nb (by omega), r21, wup_nb (by omega), r20, show 42 + 5 * n + 3 = 45 + 5 * n by omega, wup_same]
  have q := RI_163 g (f := s23.1 163) (s' := s23) (qC_answer g.1.1 hn (by omega) fo f3 (by
    rw [fk, fa, fb]
    exact ⟨k6.1, ⟨k6.2.1, k6.2.2.2⟩, ⟨k9.2.1, k9.2.2.2⟩⟩)) (by
    funext k
    by_cases hk : k = 163
    · subst hk; simp only [if_true]
    · simp only [if_neg hk]; exact o k hk)
  exact ⟨q.1, q.2.1, fo 6 (by omega) (by omega), q.2.2.1, q.2.2.2.1⟩
theorem qC_verdict {f f' : Nat → Int32} {n : Nat} (g : qC f) (hn : (n : Int) = (f 5).toInt) (hn2 : n < 10) (h : ∀ j, j ≠ 242 + 2 * n → j ≠ 243 + 2 * n → j ≠ 5 → f' j = f j) (h5 : (f' 5).toInt = n + 1) (hv : f' (243 + 2 * n) = f 3) : qC f' := by
  obtain ⟨g0, g1, g2, gp, g3, g5, ga, gv, g6⟩ := g
  unfold qC
  rw [h 0 (by omega) (by omega) (by omega), h 1 (by omega) (by omega) (by omega), h 2 (by omega) (by omega) (by omega), h 3 (by omega) (by omega) (by omega), h 6 (by omega) (by omega) (by omega), h5]
  refine ⟨g0, g1, g2, gp, g3, ⟨by omega, by omega⟩, fun a hx => ?_, fun v hx => ?_, g6⟩
  · have q := ga a hx
    unfold qA at *
    rw [h (43 + 5 * a) (by omega) (by omega) (by omega), h (44 + 5 * a) (by omega) (by omega) (by omega), h (45 + 5 * a) (by omega) (by omega) (by omega), h (f (43 + 5 * a)).toNatClampNeg (by unfold Int32.toNatClampNeg; omega) (by unfold Int32.toNatClampNeg; omega) (by unfold Int32.toNatClampNeg; omega)]
    exact q
  · by_cases hvn : v = n
    · subst hvn
      rw [hv]
      exact ⟨g3.1, Int.le_refl _⟩
    · rw [h (243 + 2 * v) (by omega) (by omega) (by omega)]
      exact gv v (by omega)
theorem wX11_verdict_T {x1 : Int32} {s : wS} (g : RI s) : Tot (wX11_verdict x1 s) (fun r => RI r.2 ∧ wA bX s r.2 ∧ XR s r.2) := by
  have stay : ∀ v : Int32, Tot (some (v, s)) (fun r => RI r.2 ∧ wA bX s r.2 ∧ XR s r.2) := fun v => t_some ⟨g, wA.refl, rfl, rfl, rfl⟩
  unfold wX11_verdict
  refine t_ite (fun _ => ?_) (fun _ => ?_)
  · refine t_bind (t_st1 (B := bX) (n := 262) (by decide) (by decide) rfl) (fun s2 h2 => t_some ?_)
    show RI s2 ∧ wA bX s s2 ∧ XR s s2
    rw [h2.2, show (5 : Int32).toNatClampNeg = 5 from rfl]
    have q := RI_163 g (f := upd (s.1 163) 5 0) (s' := wupI s 163 5 0) (by
      obtain ⟨g0, g1, g2, gp, g3, g5, ga, gv, g6⟩ := g.1.1
      unfold qC
      rw [upd_n (by omega), upd_n (by omega), upd_n (by omega), upd_n (by omega), upd_s, upd_n (by omega)]
      refine ⟨g0, g1, g2, gp, g3, by decide, fun a hx => ?_, fun v hx => ?_, g6⟩
      · have q := ga a hx
        unfold qA at *
        rw [upd_n (j := 43 + 5 * a) (by omega), upd_n (j := 44 + 5 * a) (by omega), upd_n (j := 45 + 5 * a) (by omega), upd_n (j := (s.1 163 (43 + 5 * a)).toNatClampNeg) (by unfold Int32.toNatClampNeg; omega)]
        exact q
      · rw [t_i0] at hx; omega) rfl
    exact ⟨q.1, q.2.1, by rw [wup_nb (by omega)], q.2.2.1, q.2.2.2.1⟩
  · refine t_bind wX11_isWorld_T (fun t3 _ => t_ite (fun _ => stay _) (fun _ => t_ite (fun _ => stay _) (fun c10 => ?_)))
    have hc := t_nq c10
    rw [show (10 : Int32).toInt = 10 from rfl] at hc
    have b5 := (RQ_b g.1).2.2.2.2.1
    obtain ⟨n, hn⟩ : ∃ n : Nat, (n : Int) = (s.1 163 5).toInt := ⟨(s.1 163 5).toInt.toNat, by omega⟩
    have e0 := t_c2 (c := 242) (n := 242) (x := s.1 163 5) rfl (by omega) (by omega) b5.1 (by omega)
    have e1 := t_c2a (c := 242) (d := 1) (n := 242) (m := 1) (x := s.1 163 5) rfl rfl (by omega) (by omega) (by omega) (by omega) b5.1 (by omega)
    have n0 : (242 + 2 * s.1 163 5).toNatClampNeg = 242 + 2 * n := by unfold Int32.toNatClampNeg; omega
    have n1 : ((242 + 2 * s.1 163 5) + 1).toNatClampNeg = 243 + 2 * n := by unfold Int32.toNatClampNeg; omega
    refine t_bind (t_st1 (B := bX) (n := 262) (by omega) (by omega) rfl) (fun s9 h9 => ?_)
    rw [n0] at h9
    have r9 := h9.2
    have m5 : s9.1 163 5 = s.1 163 5 := by rw [r9, wup_nb (by omega)]
    have m3 : s9.1 163 3 = s.1 163 3 := by rw [r9, wup_nb (by omega)]
    refine t_bind (t_st1 (B := bX) (n := 262) (by rw [m5]; omega) (by rw [m5]; omega) rfl) (fun s12 h12 => ?_)
    rw [m5, n1, m3] at h12
    have r12 := h12.2
    have k5 : s12.1 163 5 = s.1 163 5 := by rw [r12, wup_nb (by omega), m5]
    refine t_bind (t_st1 (B := bX) (n := 262) (by decide) (by decide) rfl) (fun s14 h14 => t_some ?_)
    rw [k5, show (5 : Int32).toNatClampNeg = 5 from rfl] at h14
    have r14 := h14.2
    have o : ∀ k, k ≠ 163 → s14.1 k = s.1 k := fun k hk => by rw [r14, wupI_n hk, r12, wupI_n hk, r9, wupI_n hk]
    have f5 : (s14.1 163 5).toInt = n + 1 := by
      rw [r14, wup_same, hn]
      exact t_p1 b5.1 (by omega)
    have fo : ∀ j, j ≠ 242 + 2 * n → j ≠ 243 + 2 * n → j ≠ 5 → s14.1 163 j = s.1 163 j := fun j h1 h2 h3 => by
      rw [r14, wup_nb h3, r12, wup_nb h2, r9, wup_nb h1]
    have q := RI_163 g (f := s14.1 163) (s' := s14) (qC_verdict g.1.1 hn (by omega) fo f5 (by rw [r14, wup_nb (by omega), r12, wup_same])) (by
      funext k
      by_cases hk : k = 163
      · subst hk; simp only [if_true]
      · simp only [if_neg hk]; exact o k hk)
    exact ⟨q.1, q.2.1, fo 6 (by omega) (by omega) (by omega), q.2.2.1, q.2.2.2.1⟩
