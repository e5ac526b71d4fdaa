/-! filled; quarrel. -/
theorem bit_z {v : Int32} : v = 0 ↔ ∀ b, b < 32 → bit v b = false := by
  refine ⟨fun h b _ => by rw [h]; exact bt_0, fun h => bit_ext (fun b hb => by rw [h b hb, bt_0])⟩
section PA
variable {s : wS} {x : lC} {l : Nat} {f : Nat → Int32} {r : wS}
/-- the things from which p is not FARTHER than q, as bits -/
theorem near_b {x : lC} {f : Nat → Int32} {kd p q n : Nat} (hn : n ≤ 8) {b : Nat} (hb : b < 32) : bit (nb2 (FVx x f (Int32.ofNat kd)) p q n) b = (decide (b < n) && !decide (FVx x f (Int32.ofNat kd) q b < FVx x f (Int32.ofNat kd) p b)) := nb2_bt hn b hb
/-- p is not FARTHER than q from what some KEPT WORLD has -/
noncomputable def fil (x : lC) (f : Nat → Int32) (K : Nat → Bool) (kd p q n : Nat) : Nat := cnt (fun w => K w && !decide (FVx x f (Int32.ofNat kd) q (thn f kd w) < FVx x f (Int32.ofNat kd) p (thn f kd w))) n
theorem fil_b {x : lC} {f : Nat → Int32} (cf : CFt f) {K : Nat → Bool} {kd p q : Nat} (hk : kd < 3) {v : Int32} (bt : ∀ b, b < 32 → bit v b = (decide (b < 8) && decide (0 < cnt (fun w => K w && decide (thn f kd w = b)) (nW f)))) : (nb2 (FVx x f (Int32.ofNat kd)) p q (nk f kd) &&& v) = 0 ↔ fil x f K kd p q (nW f) = 0 := by
  have n8 := (cf kd hk).2.2
  rw [bit_z]
  refine ⟨fun h => cnt_0 (fun w hw => ?_), fun h b hb => ?_⟩
  · have tl := thn_lt cf hk hw
    have a := h (thn f kd w) (by omega)
    rw [bt_and, near_b n8 (by omega), bt _ (by omega), decide_eq_true tl, decide_eq_true (show thn f kd w < 8 by omega), Bool.true_and, Bool.true_and] at a
    cases kk : K w
    · rfl
    · rw [decide_eq_true (cnt_some (i := w) hw (by rw [kk, decide_eq_true (rfl : thn f kd w = thn f kd w)]; rfl)), Bool.and_true] at a
      rw [a]
      rfl
  · rw [bt_and, near_b n8 hb, bt b hb]
    by_cases z : 0 < cnt (fun w => K w && decide (thn f kd w = b)) (nW f)
    · obtain ⟨w, hw, e⟩ := cnt_pos z
      rw [Bool.and_eq_true] at e
      have eb := of_decide_eq_true e.2
      have a : (K w && !decide (FVx x f (Int32.ofNat kd) q (thn f kd w) < FVx x f (Int32.ofNat kd) p (thn f kd w))) = false := by
        refine Bool.eq_false_iff.2 (fun h' => ?_)
        have := cnt_some (p := fun w => K w && !decide (FVx x f (Int32.ofNat kd) q (thn f kd w) < FVx x f (Int32.ofNat kd) p (thn f kd w))) hw h'
        unfold fil at h
        omega
      rw [e.1, Bool.true_and, eb] at a
      rw [a, Bool.and_false, Bool.false_and]
    · rw [decide_eq_false z, Bool.and_false, Bool.and_false]
theorem op_filled {x1 x2 x3 : Int32} (g : JB s) : ∃ v s1 v2 s2, wX10_filled x1 x2 x3 s = some (v, s1) ∧ wX11_filled x1 x2 x3 s1 = some (v2, s2) ∧ v = v2 := by
  unfold wX10_filled wX11_filled
  rcases ask_E g x1 with ⟨e, c⟩ | ⟨l, s2, x, q, hx1, e, hf, c⟩
  · rw [e, t_sbe]
    refine ⟨-1, s, -1, s, rfl, ?_, rfl⟩
    rw [c, t_sbe, qi0]
  · rw [e, t_sbe]
    dsimp only [Option.elim]
    have e41 : (41 : Int32).toInt = 41 := rfl
    have cf := q.2.2.2.2.2
    have w5 := cf.w
    rw [isOutside_E]
    by_cases d2 : 0 ≤ x2.toInt ∧ x2.toInt ≤ 40
    · rw [if_pos (show 0 ≤ x2.toInt ∧ x2.toInt < (41 : Int32).toInt by omega), t_sbe, qi0]
      rcases hasAns_E q.1 x3 with ⟨a, xa, ha, b1, b2⟩ | ⟨-, b1, b2⟩
      · have ek := t_cln d2.1
        have hx2 : x2 = Int32.ofNat x2.toNatClampNeg := (t_oc d2.1).symm
        generalize x2.toNatClampNeg = k at ek hx2
        have c40 := q.f3
        have hx3 : x3 = Int32.ofNat a := Int32.toInt_inj.1 (by rw [xa, t_on (by omega)])
        have w40 := fun w => wrg_le (x := x) (f := s2.1 163) (but := x3) (w := w) q.f3.2
        obtain ⟨v, ev, hv⟩ := first_v q.1
        obtain ⟨s3, e3, f3, z3⟩ := countFalse_E q (v := v) (wit := -1) (but := x3)
        have q3 := f3.qs (by omega) (by omega) q
        have hf3 : s3.1 163 = s2.1 163 := f3.f (by omega)
        obtain ⟨s4, e4, f4, t4⟩ := fillKept_E q3 (k1 := 35) (Or.inl rfl) (g := wrg x (s2.1 163) x3) (fun w hw => by
          rw [hf3] at hw
          exact ⟨(z3 w hw).trans (congrArg Int32.ofNat (fan_wrg q.f3.1 q.f3.2 hv)), by have := w40 w; omega⟩) (k := k) (by omega) (man := -1)
        have q4 := f4.qs (by omega) (by omega) q3
        have hf4 : s4.1 163 = s2.1 163 := (f4.f (by omega)).trans hf3
        rw [hf3] at t4
        have t : TLY 35 (s2.1 163) (kpt x (s2.1 163) x3 k) (nW (s2.1 163)) s4 := t4.cg (fun w _ => by
          unfold mnb kpt
          rw [decide_eq_true (rfl : (-1 : Int32) = -1), Bool.true_or, Bool.and_true])
        obtain ⟨⟨n, r⟩, er, en, rc, kr⟩ := keeps_E q4 (k := k) (by omega) (but := x3)
        dsimp only at en rc kr
        rw [hf4] at rc kr
        obtain ⟨k3, o1, o2, ekd, -⟩ := q.1.af a ha
        have n8 := (cf _ k3).2.2
        have ha4 : (a : Int) < (s4.1 163 3).toInt := by rw [hf4]; exact ha
        have kdE := (ans_E q4.1 ha4 (t_on (n := a) (by omega))).2.1
        rw [hf4, ekd] at kdE
        have kd11 : wX11_answerOf x3 1 r = some (Int32.ofNat (akd (s2.1 163) a)) := by
          rw [answerOf_E (a := a) (w := 1) (by omega) xa (by decide) rfl, rc.1, ekd]
        have many4 := many_r q (r := s4) (by rw [f4.1 16 (by omega), f3.1 16 (by omega)]) k3
        have nof := fun p' q' (hp : p' < nk (s2.1 163) (akd (s2.1 163) a)) (hq : q' < nk (s2.1 163) (akd (s2.1 163) a)) => nearOf_E q.2.1 q4.2.2.2.2.1 q4.2.2.2.2.2 (p := p') (q := q') k3 (by rw [hf4]; exact hp) (by rw [hf4]; exact hq)
        rw [hf4] at nof
        generalize akd (s2.1 163) a = kd at *
        obtain ⟨tv, et, bt⟩ := thingsOf_E (Or.inl rfl) t w5.1 k3
        have zz := fun p' q' => fil_b (x := x) cf (p := p') (q := q') k3 bt
        -- one row of pairs, both sides
        have in10 : ∀ (i u : Nat), i < nk (s2.1 163) kd → wX10_filled_h113 (44 + 10 * l) (Int32.ofNat kd) tv (Int32.ofNat (nk (s2.1 163) kd)) (Int32.ofNat i) s4 wFuel (Int32.ofNat u) 0 = some (Int32.ofNat (u + cnt (fun j => !decide (i = j) && !decide (fil x (s2.1 163) (kpt x (s2.1 163) x3 k) kd i j (nW (s2.1 163)) = 0)) (nk (s2.1 163) kd))) := fun i u hi => by
          refine loop_P (L := fun n (p : Int32 × Int32) => wX10_filled_h113 (44 + 10 * l) (Int32.ofNat kd) tv (Int32.ofNat (nk (s2.1 163) kd)) (Int32.ofNat i) s4 n p.1 p.2) (N := nk (s2.1 163) kd) (I := fun j p => p.1 = Int32.ofNat (u + cnt (fun j => !decide (i = j) && !decide (fil x (s2.1 163) (kpt x (s2.1 163) x3 k) kd i j (nW (s2.1 163)) = 0)) j) ∧ p.2 = Int32.ofNat j) (x := (Int32.ofNat u, 0)) (by omega) ⟨rfl, rfl⟩ (fun n j p hj hI => ?_) (fun n p hI => ?_)
          · obtain ⟨y, b⟩ := p
            obtain ⟨ea, eb⟩ := hI
            dsimp only at ea eb ⊢
            subst ea eb
            rw [wX10_filled_h113, if_pos ((o_lt (by omega) (by omega)).2 hj)]
            unfold wX10_filled_j147
            rw [o_1]
            by_cases y : i = j
            · rw [if_pos (by rw [y])]
              exact ⟨(_, _), rfl, congrArg (fun z => Int32.ofNat (u + z)) (cnt_f (n := j) (by rw [decide_eq_true y]; rfl)).symm, rfl⟩
            · rw [if_neg (fun h => y ((o_eq (by omega) (by omega)).1 h)), nof i j hi hj, t_sbe]
              by_cases z : fil x (s2.1 163) (kpt x (s2.1 163) x3 k) kd i j (nW (s2.1 163)) = 0
              · rw [if_pos ((zz i j).2 z)]
                exact ⟨(_, _), rfl, congrArg (fun z => Int32.ofNat (u + z)) (cnt_f (n := j) (by rw [decide_eq_true z, Bool.not_true, Bool.and_false])).symm, rfl⟩
              · rw [if_neg (fun h => z ((zz i j).1 h)), o_1]
                exact ⟨(_, _), rfl, congrArg (fun z => Int32.ofNat (u + z)) (cnt_t (n := j) (by rw [decide_eq_false y, decide_eq_false z]; rfl)).symm, rfl⟩
          · obtain ⟨y, b⟩ := p
            obtain ⟨ea, eb⟩ := hI
            dsimp only at ea eb ⊢
            subst ea eb
            rw [wX10_filled_h113, if_neg (fun c => by have := (o_lt (by omega) (by omega)).1 c; omega)]
        have l10 : wX10_filled_h103 (44 + 10 * l) (Int32.ofNat kd) tv (Int32.ofNat (nk (s2.1 163) kd)) s4 wFuel 0 0 = some (Int32.ofNat (sm (fun i => cnt (fun j => !decide (i = j) && !decide (fil x (s2.1 163) (kpt x (s2.1 163) x3 k) kd i j (nW (s2.1 163)) = 0)) (nk (s2.1 163) kd)) (nk (s2.1 163) kd))) := by
          refine loop_P (L := fun n (p : Int32 × Int32) => wX10_filled_h103 (44 + 10 * l) (Int32.ofNat kd) tv (Int32.ofNat (nk (s2.1 163) kd)) s4 n p.1 p.2) (N := nk (s2.1 163) kd) (I := fun i p => p.1 = Int32.ofNat (sm (fun i => cnt (fun j => !decide (i = j) && !decide (fil x (s2.1 163) (kpt x (s2.1 163) x3 k) kd i j (nW (s2.1 163)) = 0)) (nk (s2.1 163) kd)) i) ∧ p.2 = Int32.ofNat i) (x := (0, 0)) (by omega) ⟨rfl, rfl⟩ (fun n i p hi hI => ?_) (fun n p hI => ?_)
          · obtain ⟨y, b⟩ := p
            obtain ⟨ea, eb⟩ := hI
            dsimp only at ea eb ⊢
            subst ea eb
            rw [wX10_filled_h103, if_pos ((o_lt (by omega) (by omega)).2 hi), in10 i _ hi, t_sbe, o_1]
            exact ⟨(_, _), rfl, rfl, rfl⟩
          · obtain ⟨y, b⟩ := p
            obtain ⟨ea, eb⟩ := hI
            dsimp only at ea eb ⊢
            subst ea eb
            rw [wX10_filled_h103, if_neg (fun c => by have := (o_lt (by omega) (by omega)).1 c; omega)]
        -- the reference: is there such a WORLD?
        have some11 : ∀ (y5 : Int32) (i j : Nat), i < nk (s2.1 163) kd → j < nk (s2.1 163) kd → wX11_filled_h80 (Int32.ofNat kd) y5 (Int32.ofNat i) (Int32.ofNat j) r wFuel 0 0 = some (if (!decide (i = j) && !decide (fil x (s2.1 163) (kpt x (s2.1 163) x3 k) kd i j (nW (s2.1 163)) = 0)) = true then 1 else 0) := fun y5 i j hi hj => by
          refine tot_eq (loop_T (L := fun n (p : Int32 × Int32) => wX11_filled_h80 (Int32.ofNat kd) y5 (Int32.ofNat i) (Int32.ofNat j) r n p.1 p.2) (N := nW (s2.1 163)) (I := fun w p => p.1 = (if (!decide (i = j) && !decide (fil x (s2.1 163) (kpt x (s2.1 163) x3 k) kd i j w = 0)) = true then 1 else 0) ∧ p.2 = Int32.ofNat w) (Q := fun v => v = (if (!decide (i = j) && !decide (fil x (s2.1 163) (kpt x (s2.1 163) x3 k) kd i j (nW (s2.1 163)) = 0)) = true then 1 else 0)) (fun n w p hw hI => ?_) (fun n p hI => ?_) wFuel 0 (0, 0) (Nat.zero_le _) ⟨?_, rfl⟩ (wF_b (by omega)))
          · obtain ⟨y, b⟩ := p
            obtain ⟨ea, eb⟩ := hI
            dsimp only at ea eb ⊢
            subst eb
            rw [wX11_filled_h80, rc.nw, t_sbe, if_pos ((o_lt (by omega) (by omega)).2 hw)]
            by_cases y2 : i = j
            · right
              rw [if_pos (by rw [y2])]
              refine t_some ?_
              rw [ea, decide_eq_true y2]
              rfl
            · rw [if_neg (fun h => y2 ((o_eq (by omega) (by omega)).1 h))]
              rw [decide_eq_false y2, Bool.not_false, Bool.true_and] at ea ⊢
              by_cases z : fil x (s2.1 163) (kpt x (s2.1 163) x3 k) kd i j w = 0
              · rw [decide_eq_true z] at ea
                subst ea
                left
                have kz : (kpt x (s2.1 163) x3 k w && !decide (FVx x (s2.1 163) (Int32.ofNat kd) j (thn (s2.1 163) kd w) < FVx x (s2.1 163) (Int32.ofNat kd) i (thn (s2.1 163) kd w))) = false → fil x (s2.1 163) (kpt x (s2.1 163) x3 k) kd i j (w + 1) = 0 := fun h => (cnt_f (n := w) h).trans z
                unfold wX11_filled_j130 wX11_filled_j131
                rw [show (!true) = false from rfl, b_f, qi0, ldI_o (by omega) (by omega), t_sbe, kr w hw, o_1]
                cases kk : kpt x (s2.1 163) x3 k w
                · rw [b_f, qi0]
                  exact ⟨(0, Int32.ofNat (w + 1)), rfl, by rw [kz (by rw [kk, Bool.false_and])]; rfl, rfl⟩
                · rw [if_pos rfl, qi1, isNearer_E rc.1 cf rc.2.2.2.2 k3 hi hj hw, t_sbe]
                  by_cases y3 : FVx x (s2.1 163) (Int32.ofNat kd) j (thn (s2.1 163) kd w) < FVx x (s2.1 163) (Int32.ofNat kd) i (thn (s2.1 163) kd w)
                  · rw [if_pos y3, qi0]
                    exact ⟨(0, Int32.ofNat (w + 1)), rfl, by rw [kz (by rw [decide_eq_true y3, Bool.not_true, Bool.and_false])]; rfl, rfl⟩
                  · rw [if_neg y3, qi1]
                    have : fil x (s2.1 163) (kpt x (s2.1 163) x3 k) kd i j (w + 1) = fil x (s2.1 163) (kpt x (s2.1 163) x3 k) kd i j w + 1 := cnt_t (n := w) (by rw [kk, decide_eq_false y3]; rfl)
                    exact ⟨(1, Int32.ofNat (w + 1)), rfl, by rw [decide_eq_false (show ¬ fil x (s2.1 163) (kpt x (s2.1 163) x3 k) kd i j (w + 1) = 0 by omega)]; rfl, rfl⟩
              · right
                rw [decide_eq_false z] at ea
                have ea : y = 1 := ea
                subst ea
                have := cnt_n (p := fun w => kpt x (s2.1 163) x3 k w && !decide (FVx x (s2.1 163) (Int32.ofNat kd) j (thn (s2.1 163) kd w) < FVx x (s2.1 163) (Int32.ofNat kd) i (thn (s2.1 163) kd w))) (n := w) (m := nW (s2.1 163)) (by omega)
                have nz : ¬ fil x (s2.1 163) (kpt x (s2.1 163) x3 k) kd i j (nW (s2.1 163)) = 0 := by
                  unfold fil at z ⊢
                  omega
                rw [qi1]
                refine t_some ?_
                rw [decide_eq_false nz]
                rfl
          · obtain ⟨y, b⟩ := p
            obtain ⟨ea, eb⟩ := hI
            dsimp only at ea eb ⊢
            subst ea eb
            rw [wX11_filled_h80, rc.nw, t_sbe, if_neg (fun c => by have := (o_lt (by omega) (by omega)).1 c; omega)]
            exact t_some rfl
          · rw [show fil x (s2.1 163) (kpt x (s2.1 163) x3 k) kd i j 0 = 0 from rfl, decide_eq_true (rfl : 0 = 0), Bool.not_true, Bool.and_false]
            rfl
        have in11 : ∀ (i u : Nat), i < nk (s2.1 163) kd → wX11_filled_h62 (Int32.ofNat kd) (Int32.ofNat i) r wFuel (Int32.ofNat u) 0 = some (Int32.ofNat (u + cnt (fun j => !decide (i = j) && !decide (fil x (s2.1 163) (kpt x (s2.1 163) x3 k) kd i j (nW (s2.1 163)) = 0)) (nk (s2.1 163) kd))) := fun i u hi => by
          refine loop_P (L := fun n (p : Int32 × Int32) => wX11_filled_h62 (Int32.ofNat kd) (Int32.ofNat i) r n p.1 p.2) (N := nk (s2.1 163) kd) (I := fun j p => p.1 = Int32.ofNat (u + cnt (fun j => !decide (i = j) && !decide (fil x (s2.1 163) (kpt x (s2.1 163) x3 k) kd i j (nW (s2.1 163)) = 0)) j) ∧ p.2 = Int32.ofNat j) (x := (Int32.ofNat u, 0)) (by omega) ⟨rfl, rfl⟩ (fun n j p hj hI => ?_) (fun n p hI => ?_)
          · obtain ⟨y, b⟩ := p
            obtain ⟨ea, eb⟩ := hI
            dsimp only at ea eb ⊢
            subst ea eb
            rw [wX11_filled_h62, ldI_o (by omega) (by omega), t_sbe, rc.1, (cf kd k3).1, if_pos ((o_lt (by omega) (by omega)).2 hj), some11 _ i j hi hj, t_sbe]
            unfold wX11_filled_j139 wX11_filled_j151
            rw [o_1]
            cases z : (!decide (i = j) && !decide (fil x (s2.1 163) (kpt x (s2.1 163) x3 k) kd i j (nW (s2.1 163)) = 0))
            · rw [b_f, qi0, o_z]
              exact ⟨(_, _), rfl, congrArg (fun z => Int32.ofNat (u + z)) (cnt_f (n := j) z).symm, rfl⟩
            · rw [if_pos rfl, qi1, o_1]
              exact ⟨(_, _), rfl, congrArg (fun z => Int32.ofNat (u + z)) (cnt_t (n := j) z).symm, rfl⟩
          · obtain ⟨y, b⟩ := p
            obtain ⟨ea, eb⟩ := hI
            dsimp only at ea eb ⊢
            subst ea eb
            rw [wX11_filled_h62, ldI_o (by omega) (by omega), t_sbe, rc.1, (cf kd k3).1, if_neg (fun c => by have := (o_lt (by omega) (by omega)).1 c; omega)]
        have l11 : wX11_filled_h47 (Int32.ofNat kd) r wFuel 0 0 = some (Int32.ofNat (sm (fun i => cnt (fun j => !decide (i = j) && !decide (fil x (s2.1 163) (kpt x (s2.1 163) x3 k) kd i j (nW (s2.1 163)) = 0)) (nk (s2.1 163) kd)) (nk (s2.1 163) kd))) := by
          refine loop_P (L := fun n (p : Int32 × Int32) => wX11_filled_h47 (Int32.ofNat kd) r n p.1 p.2) (N := nk (s2.1 163) kd) (I := fun i p => p.1 = Int32.ofNat (sm (fun i => cnt (fun j => !decide (i = j) && !decide (fil x (s2.1 163) (kpt x (s2.1 163) x3 k) kd i j (nW (s2.1 163)) = 0)) (nk (s2.1 163) kd)) i) ∧ p.2 = Int32.ofNat i) (x := (0, 0)) (by omega) ⟨rfl, rfl⟩ (fun n i p hi hI => ?_) (fun n p hI => ?_)
          · obtain ⟨y, b⟩ := p
            obtain ⟨ea, eb⟩ := hI
            dsimp only at ea eb ⊢
            subst ea eb
            rw [wX11_filled_h47, ldI_o (by omega) (by omega), t_sbe, rc.1, (cf kd k3).1, if_pos ((o_lt (by omega) (by omega)).2 hi), in11 i _ hi, t_sbe, o_1]
            exact ⟨(_, _), rfl, rfl, rfl⟩
          · obtain ⟨y, b⟩ := p
            obtain ⟨ea, eb⟩ := hI
            dsimp only at ea eb ⊢
            subst ea eb
            rw [wX11_filled_h47, ldI_o (by omega) (by omega), t_sbe, rc.1, (cf kd k3).1, if_neg (fun c => by have := (o_lt (by omega) (by omega)).1 c; omega)]
        have b4 : wX11_isAnswer x3 s4 = some 1 := by
          rcases hasAns_E q4.1 x3 with ⟨_, _, _, _, h⟩ | ⟨h, -⟩
          · exact h
          · exact absurd ⟨by omega, by rw [hf4]; omega⟩ h
        rw [b1, t_sbe, qi1, ev, t_sbe, e3, t_sbe, hx2, e4, t_sbe]
        rw [hx3] at kd11 er b4 ⊢
        rw [kdE, t_sbe, et, t_sbe, many4, t_sbe, l10, t_sbe]
        refine ⟨_, s4, _, r, rfl, ?_, rfl⟩
        rw [c s4 q4, t_sbe, qi1, isMany_E, if_pos (by rw [t_on (by omega)]; omega), t_sbe, qi1, b4, t_sbe, qi1, hx1, er, t_sbe]
        dsimp only
        rw [kd11, t_sbe, l11, t_sbe]
      · rw [b1, t_sbe, qi0]
        refine ⟨_, _, -1, s2, rfl, ?_, rfl⟩
        rw [c s2 q, t_sbe, qi1, isMany_E, if_pos d2, t_sbe, qi1, b2, t_sbe, qi0]
    · rw [if_neg (by omega), t_sbe, qi1]
      refine ⟨_, _, -1, s2, rfl, ?_, rfl⟩
      rw [c s2 q, t_sbe, qi1, isMany_E, if_neg d2, t_sbe, qi0]
end PA
