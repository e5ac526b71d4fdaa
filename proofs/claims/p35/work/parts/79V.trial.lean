/-! trials: things as bits; what the class's tally holds. -/
theorem cnt_ab {p : Nat → Bool} {a : Nat} : ∀ {b : Nat}, cnt p (a + b) = cnt p a + cnt (fun i => p (a + i)) b := by
  intro b
  induction b with
  | zero => rfl
  | succ b ih =>
    show cnt p (a + b) + (p (a + b)).toNat = cnt p a + (cnt (fun i => p (a + i)) b + (p (a + b)).toNat)
    omega
theorem cnt_pr {P Q : Nat → Bool} {n : Nat} (hn : 0 < n) : ∀ {m : Nat}, cnt (fun w => P (w / n) && Q (w % n)) (m * n) = cnt P m * cnt Q n := by
  intro m
  induction m with
  | zero =>
    rw [Nat.zero_mul]
    exact (Nat.zero_mul _).symm
  | succ m ih =>
    have e : cnt (fun i => P ((m * n + i) / n) && Q ((m * n + i) % n)) n = (P m).toNat * cnt Q n := by
      have e1 : cnt (fun i => P ((m * n + i) / n) && Q ((m * n + i) % n)) n = cnt (fun i => P m && Q i) n := cnt_cg (fun i hi => by
        rw [Nat.add_comm, Nat.add_mul_div_right _ _ hn, Nat.div_eq_of_lt hi, Nat.zero_add, Nat.add_mul_mod_self_right, Nat.mod_eq_of_lt hi])
      rw [e1]
      cases P m
      · rw [cnt_0 (fun i _ => Bool.false_and _)]
        exact (Nat.zero_mul _).symm
      · rw [cnt_cg (q := Q) (fun i _ => Bool.true_and _)]
        exact (Nat.one_mul _).symm
    rw [Nat.succ_mul, cnt_ab, ih, e]
    show _ = (cnt P m + (P m).toNat) * cnt Q n
    rw [Nat.add_mul]
theorem cnt_at {p : Nat → Bool} {t n : Nat} (h : p t = true → t < n) : cnt (fun j => p j && decide (j = t)) n = if p t = true then 1 else 0 := by
  by_cases c : p t = true
  · have l := h c
    rw [if_pos c, cnt_ext (n := t + 1) (by omega) (fun i h1 _ => by rw [decide_eq_false (show ¬ i = t by omega), Bool.and_false]), cnt_t (by rw [c, decide_eq_true rfl]; rfl), cnt_0 (fun i hi => by rw [decide_eq_false (show ¬ i = t by omega), Bool.and_false])]
  · rw [if_neg c, cnt_0 (fun i _ => ?_)]
    by_cases d : i = t
    · rw [d, Bool.eq_false_iff.2 c, Bool.false_and]
    · rw [decide_eq_false d, Bool.and_false]
theorem cnt3 {f : Nat → Int32} (cf : CFt f) {p0 p1 p2 : Nat → Bool} : cnt (fun w => p0 (thn f 0 w) && (p1 (thn f 1 w) && p2 (thn f 2 w))) (nW f) = cnt p0 (nk f 0) * cnt p1 (nk f 1) * cnt p2 (nk f 2) := by
  have a := cnt_pr (P := fun u => p0 (u / nk f 1) && p1 (u % nk f 1)) (Q := p2) (n := nk f 2) (by have := (cf 2 (by decide)).2.1; omega) (m := nk f 0 * nk f 1)
  rw [cnt_pr (n := nk f 1) (by have := (cf 1 (by decide)).2.1; omega)] at a
  rw [← a]
  refine cnt_cg (fun w _ => ?_)
  have t0 : thn f 0 w = w / nk f 2 / nk f 1 := rfl
  have t1 : thn f 1 w = w / nk f 2 % nk f 1 := rfl
  have t2 : thn f 2 w = w % nk f 2 := rfl
  rw [t0, t1, t2, Bool.and_assoc]
theorem and40 : ∀ a b c d : Bool, ((a && (b && c)) && d) = ((a && d) && (b && c)) := by decide
theorem and41 : ∀ a b c d : Bool, ((a && (b && c)) && d) = (a && ((b && d) && c)) := by decide
theorem and42 : ∀ a b c d : Bool, ((a && (b && c)) && d) = (a && (b && (c && d))) := by decide
theorem bc_c8 : ∀ n, n < 256 → bc (Int32.ofNat n) = Int32.ofNat (cnt (bit (Int32.ofNat n)) 8) := by decide +kernel
theorem on_256' : ∀ n, n < 256 → (Int32.ofNat n).toBitVec.toNat = n := by decide +kernel
theorem and_255 {t : Int32} : ∃ u, u < 256 ∧ t &&& 255 = Int32.ofNat u := by
  have l : t.toBitVec.toNat &&& 255 ≤ 255 := Nat.and_le_right
  refine ⟨t.toBitVec.toNat &&& 255, by omega, Int32.toBitVec_inj.1 (BitVec.eq_of_toNat_eq ?_)⟩
  rw [Int32.toBitVec_and, BitVec.toNat_and, on_256' _ (by omega)]
  exact congrArg (fun z => t.toBitVec.toNat &&& z) (on_256' 255 (by decide))
section TR
variable {s : wS} {x : lC} {l : Nat} {f : Nat → Int32} {r : wS}
/-- the WORLDS of such things -/
noncomputable def pst (f : Nat → Int32) (v : Int32) (w : Nat) : Bool := bit v (8 * 0 + thn f 0 w) && (bit v (8 * 1 + thn f 1 w) && bit v (8 * 2 + thn f 2 w))
noncomputable def PSO (f : Nat → Int32) (v : Int32) : Prop := ∀ kd, kd < 3 → ∀ t, t < 8 → bit v (8 * kd + t) = true → t < nk f kd
noncomputable def pc (f : Nat → Int32) (v : Int32) (kd : Nat) : Nat := cnt (fun t => bit v (8 * kd + t)) (nk f kd)
theorem pc_8 (cf : CFt f) {v : Int32} {kd : Nat} (hk : kd < 3) : pc f v kd ≤ 8 := by
  have a := cnt_le (p := fun t => bit v (8 * kd + t)) (nk f kd)
  have b := (cf kd hk).2.2
  unfold pc
  omega
theorem pst_3 {v : Int32} {w : Nat} : pst f v w = true ↔ ∀ kd, kd < 3 → bit v (8 * kd + thn f kd w) = true := by
  unfold pst
  rw [Bool.and_eq_true, Bool.and_eq_true]
  refine ⟨fun ⟨a, b, c⟩ kd hk => ?_, fun h => ⟨h 0 (by decide), h 1 (by decide), h 2 (by decide)⟩⟩
  obtain rfl | rfl | rfl : kd = 0 ∨ kd = 1 ∨ kd = 2 := by omega
  · exact a
  · exact b
  · exact c
theorem cnt_pst (cf : CFt f) {v : Int32} : cnt (pst f v) (nW f) = pc f v 0 * pc f v 1 * pc f v 2 := cnt3 cf (p0 := fun t => bit v (8 * 0 + t)) (p1 := fun t => bit v (8 * 1 + t)) (p2 := fun t => bit v (8 * 2 + t))
/-- how many of them have a thing -/
noncomputable def pcw (f : Nat → Int32) (v : Int32) (i : Nat) : Nat := if bit v i = true then (if i < 8 then pc f v 1 * pc f v 2 else if i < 16 then pc f v 0 * pc f v 2 else pc f v 0 * pc f v 1) else 0
theorem cnt_pcw (cf : CFt f) {v : Int32} (o : PSO f v) {kd t : Nat} (hk : kd < 3) (ht : t < 8) : cnt (fun w => pst f v w && decide (thn f kd w = t)) (nW f) = pcw f v (8 * kd + t) := by
  have ca := cnt_at (p := fun j => bit v (8 * kd + j)) (t := t) (n := nk f kd) (o kd hk t ht)
  unfold pcw
  obtain rfl | rfl | rfl : kd = 0 ∨ kd = 1 ∨ kd = 2 := by omega
  · have e : ∀ w, (pst f v w && decide (thn f 0 w = t)) = ((bit v (8 * 0 + thn f 0 w) && decide (thn f 0 w = t)) && (bit v (8 * 1 + thn f 1 w) && bit v (8 * 2 + thn f 2 w))) := fun w => and40 _ _ _ _
    rw [cnt_cg (fun w _ => e w), cnt3 cf (p0 := fun j => bit v (8 * 0 + j) && decide (j = t)) (p1 := fun j => bit v (8 * 1 + j)) (p2 := fun j => bit v (8 * 2 + j)), ca, if_pos (show 8 * 0 + t < 8 by omega)]
    show (if bit v (8 * 0 + t) = true then 1 else 0) * pc f v 1 * pc f v 2 = _
    split
    · rw [Nat.one_mul]
    · rw [Nat.zero_mul, Nat.zero_mul]
  · have e : ∀ w, (pst f v w && decide (thn f 1 w = t)) = (bit v (8 * 0 + thn f 0 w) && ((bit v (8 * 1 + thn f 1 w) && decide (thn f 1 w = t)) && bit v (8 * 2 + thn f 2 w))) := fun w => and41 _ _ _ _
    rw [cnt_cg (fun w _ => e w), cnt3 cf (p0 := fun j => bit v (8 * 0 + j)) (p1 := fun j => bit v (8 * 1 + j) && decide (j = t)) (p2 := fun j => bit v (8 * 2 + j)), ca, if_neg (show ¬ 8 * 1 + t < 8 by omega), if_pos (show 8 * 1 + t < 16 by omega)]
    show pc f v 0 * (if bit v (8 * 1 + t) = true then 1 else 0) * pc f v 2 = _
    split
    · rw [Nat.mul_one]
    · rw [Nat.mul_zero, Nat.zero_mul]
  · have e : ∀ w, (pst f v w && decide (thn f 2 w = t)) = (bit v (8 * 0 + thn f 0 w) && (bit v (8 * 1 + thn f 1 w) && (bit v (8 * 2 + thn f 2 w) && decide (thn f 2 w = t)))) := fun w => and42 _ _ _ _
    rw [cnt_cg (fun w _ => e w), cnt3 cf (p0 := fun j => bit v (8 * 0 + j)) (p1 := fun j => bit v (8 * 1 + j)) (p2 := fun j => bit v (8 * 2 + j) && decide (j = t)), ca, if_neg (show ¬ 8 * 2 + t < 8 by omega), if_neg (show ¬ 8 * 2 + t < 16 by omega)]
    show pc f v 0 * pc f v 1 * (if bit v (8 * 2 + t) = true then 1 else 0) = _
    split
    · rw [Nat.mul_one]
    · rw [Nat.mul_zero]
theorem popc_E (cf : CFt f) {v : Int32} (o : PSO f v) {kd : Nat} (hk : kd < 3) {y : Int32} (hy : ∀ j, j < 8 → bit y j = bit v (8 * kd + j)) : bc (y &&& 255) = Int32.ofNat (pc f v kd) := by
  obtain ⟨u, hu, eu⟩ := and_255 (t := y)
  have n8 := (cf kd hk).2.2
  have b : ∀ j, j < 8 → bit (Int32.ofNat u) j = bit v (8 * kd + j) := fun j hj => by
    rw [← eu, bt_and, bt_255 (by omega), decide_eq_true hj, Bool.and_true, hy j hj]
  rw [eu, bc_c8 u hu, cnt_cg b, cnt_ext (n := nk f kd) n8 (fun i h1 h2 => Bool.eq_false_iff.2 (fun h => by have := o kd hk i h2 h; omega))]
  rfl
/-- the class's tally of all WORLDS of such things -/
theorem fillW_E (cf : CFt f) {v : Int32} (o : PSO f v) : Tot (wX7_fillWith 37 v s) (fun r => FK 37 38 s r ∧ TLY 37 f (pst f v) (nW f) r) := by
  have p0 : bc (v &&& 255) = Int32.ofNat (pc f v 0) := popc_E cf o (kd := 0) (by decide) (fun j _ => by rw [Nat.mul_zero, Nat.zero_add])
  have p1 : bc ((v >>> (Int32.ofNat 8 &&& 31)) &&& 255) = Int32.ofNat (pc f v 1) := popc_E cf o (kd := 1) (by decide) (fun j hj => by rw [bt_shr2 (by decide) (by omega)])
  have p2 : bc ((v >>> (Int32.ofNat 16 &&& 31)) &&& 255) = Int32.ofNat (pc f v 2) := popc_E cf o (kd := 2) (by decide) (fun j hj => by rw [bt_shr2 (by decide) (by omega)])
  have sl1 : ∀ u, wX10_slot 1 0 u = some (Int32.ofNat 8) := fun _ => rfl
  have sl2 : ∀ u, wX10_slot 2 0 u = some (Int32.ofNat 16) := fun _ => rfl
  unfold wX7_fillWith wpfI
  rw [bc_E, t_sbe, p0, sl1, t_sbe, bc_E, t_sbe, p1, sl2, t_sbe, bc_E, t_sbe, p2, o_mul, o_mul, t_sbe]
  refine t_bind (P := fun r => FK 37 38 s r ∧ r.1 37 1 = Int32.ofNat (pc f v 0 * pc f v 1 * pc f v 2) ∧ ∀ i, i < 24 → r.1 38 i = Int32.ofNat (pcw f v i)) ?_ (fun r h => t_some ⟨h.1, by rw [h.2.1, cnt_pst cf], fun kd t hk ht => ?_⟩)
  · refine loop_N (L := fun n (p : Int32 × wS) => wX7_fillWith_h53 37 v (Int32.ofNat (pc f v 0)) (Int32.ofNat (pc f v 1)) (Int32.ofNat (pc f v 2)) n p.1 p.2) (N := 24) (I := fun i p => p.1 = Int32.ofNat i ∧ FK 37 38 s p.2 ∧ p.2.1 37 1 = Int32.ofNat (pc f v 0 * pc f v 1 * pc f v 2) ∧ ∀ j, j < i → p.2.1 38 j = Int32.ofNat (pcw f v j)) (x := (0, wupI s 37 1 (Int32.ofNat (pc f v 0 * pc f v 1 * pc f v 2)))) (by omega) ⟨rfl, FK_I (by omega) (by omega), ?_, fun j h => absurd h (by omega)⟩ (fun n i p' hi hI => ?_) (fun n p' hI => ?_)
    · show (wupI s 37 1 _).1 37 1 = _
      rw [upI_at, if_pos rfl]
    · obtain ⟨y, u⟩ := p'
      obtain ⟨ey, fk, e1, z⟩ := hI
      dsimp only at ey fk e1 z ⊢
      subst ey
      have st : ∀ w : Int32, wstI u (37 + 1) (wln (37 + 1)) (Int32.ofNat i) w = some (wupI u 38 i w) := fun w => stI_o (show i < 24 from hi) (by decide)
      have new : ∀ w : Int32, w = Int32.ofNat (pcw f v i) → ∃ x' : Int32 × wS, wX7_fillWith_h53 37 v (Int32.ofNat (pc f v 0)) (Int32.ofNat (pc f v 1)) (Int32.ofNat (pc f v 2)) n (Int32.ofNat (i + 1)) (wupI u 38 i w) = wX7_fillWith_h53 37 v (Int32.ofNat (pc f v 0)) (Int32.ofNat (pc f v 1)) (Int32.ofNat (pc f v 2)) n x'.1 x'.2 ∧ x'.1 = Int32.ofNat (i + 1) ∧ FK 37 38 s x'.2 ∧ x'.2.1 37 1 = Int32.ofNat (pc f v 0 * pc f v 1 * pc f v 2) ∧ ∀ j, j < i + 1 → x'.2.1 38 j = Int32.ofNat (pcw f v j) := fun w hw => by
        refine ⟨(Int32.ofNat (i + 1), wupI u 38 i w), rfl, rfl, fk.trans (FK_I (by omega) (by omega)), ?_, fun j hj => ?_⟩
        · show (wupI u 38 i w).1 37 1 = _
          rw [wupI_n (by decide)]
          exact e1
        · show (wupI u 38 i w).1 38 j = _
          rw [upI_at]
          by_cases d : j = i
          · rw [if_pos d, d, hw]
          · rw [if_neg d]
            exact z j (by omega)
      have i8 : Int32.ofNat i < Int32.ofNat 8 ↔ i < 8 := o_lt (by omega) (by omega)
      have i16 : Int32.ofNat i < Int32.ofNat 16 ↔ i < 16 := o_lt (by omega) (by omega)
      rw [wX7_fillWith_h53, if_pos (show Int32.ofNat i < 24 from (o_lt (b := 24) (by omega) (by omega)).2 hi)]
      by_cases b : bit v i = true
      · rw [if_pos ((bt_t (by omega)).2 b)]
        unfold wX7_fillWith_j75 wX7_fillWith_j98 wX7_fillWith_j115 wX7_fillWith_j132
        rw [sl1, t_sbe]
        by_cases c : i < 8
        · rw [if_pos (i8.2 c), sl2, t_sbe, if_pos (i16.2 (by omega)), qi1, st, t_sbe, o_mul, o_1]
          exact new _ (by unfold pcw; rw [if_pos b, if_pos c])
        · rw [if_neg (fun h => c (i8.1 h)), sl2, t_sbe]
          by_cases d : i < 16
          · rw [if_pos (i16.2 d), qi1, st, t_sbe, o_mul, o_1]
            exact new _ (by unfold pcw; rw [if_pos b, if_neg c, if_pos d])
          · rw [if_neg (fun h => d (i16.1 h)), qi1, st, t_sbe, o_mul, o_1]
            exact new _ (by unfold pcw; rw [if_pos b, if_neg c, if_neg d])
      · have n0 := new 0 (by unfold pcw; rw [if_neg b]; rfl)
        rw [if_neg (fun h => b ((bt_t (by omega)).1 h))]
        unfold wX7_fillWith_j75 wX7_fillWith_j98 wX7_fillWith_j115 wX7_fillWith_j132
        rw [sl1, t_sbe]
        by_cases c : i < 8
        · rw [if_pos (i8.2 c), sl2, t_sbe, if_pos (i16.2 (by omega)), qi0, st, t_sbe, o_1]
          exact n0
        · rw [if_neg (fun h => c (i8.1 h)), sl2, t_sbe]
          by_cases d : i < 16
          · rw [if_pos (i16.2 d), qi0, st, t_sbe, o_1]
            exact n0
          · rw [if_neg (fun h => d (i16.1 h)), qi0, st, t_sbe, o_1]
            exact n0
    · obtain ⟨y, u⟩ := p'
      obtain ⟨ey, fk, e1, z⟩ := hI
      dsimp only at ey fk e1 z ⊢
      subst ey
      rw [wX7_fillWith_h53, if_neg (by decide)]
      exact t_some ⟨fk, e1, z⟩
  · show r.1 38 (8 * kd + t) = _
    rw [h.2.2 _ (by omega), cnt_pcw cf o hk ht]
/-- those alone that are so of a KIND -/
theorem keepO_E (cf : CFt f) {P : Nat → Bool} (t : TLY 37 f P (nW f) s) {v0 : Int32} (hv0 : ∀ w, w < nW f → pst f v0 w = P w) {kd0 : Nat} (hk0 : kd0 < 3) {near : Int32} : Tot (wX7_keepOnly 37 (Int32.ofNat kd0) near s) (fun r => FK 37 38 s r ∧ TLY 37 f (fun w => P w && bit near (thn f kd0 w)) (nW f) r ∧ ∃ v, ∀ w, w < nW f → pst f v w = (P w && bit near (thn f kd0 w))) := by
  have w5 := cf.w.1
  unfold wX7_keepOnly
  refine t_bind (P := fun v => ∀ b, b < 32 → bit v b = (decide (b < 8 * 3) && (decide (0 < cnt (fun w => P w && decide (thn f (b / 8) w = b % 8)) (nW f)) && (!decide (b / 8 = kd0) || bit near (b % 8))))) ?_ (fun v hv => ?_)
  · refine loop_N (L := fun n (p : Int32 × Int32) => wX7_keepOnly_h5 37 (Int32.ofNat kd0) near s n p.1 p.2) (N := 3) (I := fun kd p => p.2 = Int32.ofNat kd ∧ ∀ b, b < 32 → bit p.1 b = (decide (b < 8 * kd) && (decide (0 < cnt (fun w => P w && decide (thn f (b / 8) w = b % 8)) (nW f)) && (!decide (b / 8 = kd0) || bit near (b % 8))))) (x := (0, 0)) (by omega) ⟨rfl, fun b _ => by rw [decide_eq_false (show ¬ b < 8 * 0 by omega), Bool.false_and]; exact bt_0⟩ (fun n kd p' hk hI => ?_) (fun n p' hI => ?_)
    · obtain ⟨y, c⟩ := p'
      obtain ⟨ec, z⟩ := hI
      dsimp only at ec z ⊢
      subst ec
      obtain ⟨th, et, bt⟩ := thingsOf_E (Or.inr rfl) t w5 hk
      have sl : wX10_slot (Int32.ofNat kd) 0 s = some (Int32.ofNat (8 * kd)) := slot_o (t := 0) hk (by decide)
      have new : ∀ y0 : Int32, (∀ b, b < 32 → bit y0 b = (decide (b < 8) && (decide (0 < cnt (fun w => P w && decide (thn f kd w = b)) (nW f)) && (!decide (kd = kd0) || bit near b)))) → ∃ x' : Int32 × Int32, wX7_keepOnly_h5 37 (Int32.ofNat kd0) near s n (y ||| (y0 <<< (Int32.ofNat (8 * kd) &&& 31))) (Int32.ofNat (kd + 1)) = wX7_keepOnly_h5 37 (Int32.ofNat kd0) near s n x'.1 x'.2 ∧ x'.2 = Int32.ofNat (kd + 1) ∧ ∀ b, b < 32 → bit x'.1 b = (decide (b < 8 * (kd + 1)) && (decide (0 < cnt (fun w => P w && decide (thn f (b / 8) w = b % 8)) (nW f)) && (!decide (b / 8 = kd0) || bit near (b % 8)))) := fun y0 h0 => by
        refine ⟨(y ||| (y0 <<< (Int32.ofNat (8 * kd) &&& 31)), Int32.ofNat (kd + 1)), rfl, rfl, fun b hb => ?_⟩
        show bit (y ||| _) b = _
        rw [bt_or, bt_shl (by omega) hb, z b hb]
        by_cases c1 : b < 8 * kd
        · rw [decide_eq_true c1, decide_eq_false (show ¬ 8 * kd ≤ b by omega), Bool.false_and, Bool.or_false, decide_eq_true (show b < 8 * (kd + 1) by omega)]
        · rw [decide_eq_false c1, Bool.false_and, Bool.false_or, decide_eq_true (show 8 * kd ≤ b by omega), Bool.true_and, h0 _ (by omega)]
          by_cases c2 : b < 8 * (kd + 1)
          · rw [decide_eq_true c2, decide_eq_true (show b - 8 * kd < 8 by omega), show b / 8 = kd by omega, show b % 8 = b - 8 * kd by omega]
          · rw [decide_eq_false c2, decide_eq_false (show ¬ b - 8 * kd < 8 by omega), Bool.false_and, Bool.false_and]
      rw [wX7_keepOnly_h5, if_pos (show Int32.ofNat kd < 3 from (o_lt (b := 3) (by omega) (by omega)).2 hk), et, t_sbe]
      unfold wX7_keepOnly_j34
      rw [sl, t_sbe, o_1]
      by_cases d : kd = kd0
      · rw [if_pos (show Int32.ofNat kd = Int32.ofNat kd0 by rw [d])]
        refine new _ (fun b hb => ?_)
        rw [bt_and, bt b hb, decide_eq_true d, Bool.not_true, Bool.false_or, Bool.and_assoc]
      · rw [if_neg (fun h => d ((o_eq (by omega) (by omega)).1 h)), t_sbe]
        refine new _ (fun b hb => ?_)
        rw [bt b hb, decide_eq_false d, Bool.not_false, Bool.true_or, Bool.and_true]
    · obtain ⟨y, c⟩ := p'
      obtain ⟨ec, z⟩ := hI
      dsimp only at ec z ⊢
      subst ec
      rw [wX7_keepOnly_h5, if_neg (by decide)]
      exact t_some z
  · -- its bits
    have bv : ∀ kd u, kd < 3 → u < 8 → bit v (8 * kd + u) = (decide (0 < cnt (fun w => P w && decide (thn f kd w = u)) (nW f)) && (!decide (kd = kd0) || bit near u)) := fun kd u hk hu => by
      rw [hv _ (by omega), decide_eq_true (show 8 * kd + u < 8 * 3 by omega), show (8 * kd + u) / 8 = kd by omega, show (8 * kd + u) % 8 = u by omega, Bool.true_and]
    have o : PSO f v := fun kd hk u hu h => by
      rw [bv kd u hk hu, Bool.and_eq_true] at h
      obtain ⟨w, hw, e⟩ := cnt_pos (of_decide_eq_true h.1)
      rw [Bool.and_eq_true] at e
      have := thn_lt cf hk hw
      rw [of_decide_eq_true e.2] at this
      exact this
    have same : ∀ w, w < nW f → pst f v w = (P w && bit near (thn f kd0 w)) := fun w hw => by
      have b8 : ∀ kd, kd < 3 → thn f kd w < 8 := fun kd hk => by
        have := thn_lt cf hk hw
        have := (cf kd hk).2.2
        omega
      refine Bool.eq_iff_iff.2 ?_
      rw [pst_3, Bool.and_eq_true]
      refine ⟨fun h => ⟨?_, ?_⟩, fun ⟨h1, h2⟩ kd hk => ?_⟩
      · rw [← hv0 w hw, pst_3]
        intro kd hk
        have a := h kd hk
        rw [bv kd _ hk (b8 kd hk), Bool.and_eq_true] at a
        obtain ⟨w', hw', e⟩ := cnt_pos (of_decide_eq_true a.1)
        rw [Bool.and_eq_true, ← hv0 w' hw', pst_3] at e
        have b := e.1 kd hk
        rw [of_decide_eq_true e.2] at b
        exact b
      · have a := h kd0 hk0
        rw [bv kd0 _ hk0 (b8 kd0 hk0), Bool.and_eq_true, decide_eq_true (rfl : kd0 = kd0), Bool.not_true, Bool.false_or] at a
        exact a.2
      · rw [bv kd _ hk (b8 kd hk), Bool.and_eq_true]
        refine ⟨decide_eq_true (cnt_some hw (by rw [h1, decide_eq_true rfl]; rfl)), ?_⟩
        by_cases d : kd = kd0
        · rw [d, h2, Bool.or_true]
        · rw [decide_eq_false d]
          rfl
    obtain ⟨r, er, fk, t2⟩ := fillW_E (s := s) cf o
    rw [er, t_sbe]
    exact t_some ⟨fk, t2.cg same, v, same⟩
end TR
