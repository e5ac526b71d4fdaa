section
/-! Rules to follow a run. -/
noncomputable def ri_ev (N : Nat) (X : ri_X) (d : Nat) (code : Nat → Option ri_J) (rt : Option FieldType) (pc : Nat) (L : ri_L) (st : List Value) (M : ri_M) (cc sc : Nat) (r : ri_R) : Prop := ∀ n, N ≤ n → ri_run X (ri_c d) ri_rc code rt n pc L st M cc sc = some r
section EV
variable {N k : Nat} {X : ri_X} {d : Nat} {code : Nat → Option ri_J} {rt : Option FieldType} {pc pc1 : Nat} {L L1 : ri_L} {st st1 : List Value} {M M1 : ri_M} {cc sc c1 s1 : Nat} {r : ri_R} {ins : Instr} {len a b c : Nat} {x y : Int32} {off : Int}
theorem ri_ev_go (k : Nat) (h : ∀ n, ri_run X (ri_c d) ri_rc code rt (n + k) pc L st M cc sc = ri_run X (ri_c d) ri_rc code rt n pc1 L1 st1 M1 c1 s1) (g : ri_ev N X d code rt pc1 L1 st1 M1 c1 s1 r) : ri_ev (N + k) X d code rt pc L st M cc sc r := by
  intro n hn
  have h2 := h (n - k)
  rw [Nat.sub_add_cancel (by omega)] at h2
  rw [h2]
  exact g _ (by omega)
theorem ri_ev_ret (h : ∀ n, ri_run X (ri_c d) ri_rc code rt (n + 1) pc L st M cc sc = some r) : ri_ev 1 X d code rt pc L st M cc sc r := by
  intro n hn
  have h2 := h (n - 1)
  rw [Nat.sub_add_cancel hn] at h2
  exact h2
theorem ri_ev_st {fr : ri_F} (hc : code pc = some (ins, len, a, b, c)) (h : ri_step X (ri_c d) ri_rc rt (ins, len, a, b, c) pc L st M cc sc = some (.inl fr)) (g : ri_ev N X d code rt fr.1 fr.2.1 fr.2.2.1 fr.2.2.2.1 fr.2.2.2.2.1 fr.2.2.2.2.2 r) : ri_ev (N + 1) X d code rt pc L st M cc sc r := by
  refine ri_ev_go 1 (fun n => ?_) g
  show (match code pc with
    | none => none
    | some j => match ri_step X (ri_c d) ri_rc rt j pc L st M cc sc with
      | some (.inl (pc1, L1, st1, M1, c1, s1)) => ri_run X (ri_c d) ri_rc code rt n pc1 L1 st1 M1 c1 s1
      | some (.inr r) => some r
      | none => none) = _
  rw [hc]
  dsimp only
  rw [h]
theorem ri_jmp_ok {t : Nat} (ht : (pc : Int) + off = Int.ofNat t) : ri_jmp off pc L st M cc sc = some (.inl (t, L, st, M, cc, sc)) := by
  unfold ri_jmp
  rw [ht]
theorem ri_ic_eq_t {t : Nat} (hc : code pc = some (.if_icmp .eq off, len, a, b, c)) (h : x = y) (ht : (pc : Int) + off = Int.ofNat t) (g : ri_ev N X d code rt t L st M cc sc r) : ri_ev (N + 1) X d code rt pc L (.int y :: .int x :: st) M cc sc r := ri_ev_st (fr := (t, L, st, M, cc, sc)) hc ((if_pos h : _ = _).trans (ri_jmp_ok ht)) g
theorem ri_ic_eq_f (hc : code pc = some (.if_icmp .eq off, len, a, b, c)) (h : ¬ x = y) (g : ri_ev N X d code rt (pc + 3) L st M cc sc r) : ri_ev (N + 1) X d code rt pc L (.int y :: .int x :: st) M cc sc r := ri_ev_st (fr := (pc + 3, L, st, M, cc, sc)) hc (if_neg h) g
theorem ri_ic_ne_t {t : Nat} (hc : code pc = some (.if_icmp .ne off, len, a, b, c)) (h : ¬ x = y) (ht : (pc : Int) + off = Int.ofNat t) (g : ri_ev N X d code rt t L st M cc sc r) : ri_ev (N + 1) X d code rt pc L (.int y :: .int x :: st) M cc sc r := ri_ev_st (fr := (t, L, st, M, cc, sc)) hc ((if_neg h : _ = _).trans (ri_jmp_ok ht)) g
theorem ri_ic_ne_f (hc : code pc = some (.if_icmp .ne off, len, a, b, c)) (h : x = y) (g : ri_ev N X d code rt (pc + 3) L st M cc sc r) : ri_ev (N + 1) X d code rt pc L (.int y :: .int x :: st) M cc sc r := ri_ev_st (fr := (pc + 3, L, st, M, cc, sc)) hc (if_pos h) g
theorem ri_ic_lt_t {t : Nat} (hc : code pc = some (.if_icmp .lt off, len, a, b, c)) (h : x < y) (ht : (pc : Int) + off = Int.ofNat t) (g : ri_ev N X d code rt t L st M cc sc r) : ri_ev (N + 1) X d code rt pc L (.int y :: .int x :: st) M cc sc r := ri_ev_st (fr := (t, L, st, M, cc, sc)) hc ((if_pos h : _ = _).trans (ri_jmp_ok ht)) g
theorem ri_ic_lt_f (hc : code pc = some (.if_icmp .lt off, len, a, b, c)) (h : ¬ x < y) (g : ri_ev N X d code rt (pc + 3) L st M cc sc r) : ri_ev (N + 1) X d code rt pc L (.int y :: .int x :: st) M cc sc r := ri_ev_st (fr := (pc + 3, L, st, M, cc, sc)) hc (if_neg h) g
theorem ri_ic_ge_t {t : Nat} (hc : code pc = some (.if_icmp .ge off, len, a, b, c)) (h : y ≤ x) (ht : (pc : Int) + off = Int.ofNat t) (g : ri_ev N X d code rt t L st M cc sc r) : ri_ev (N + 1) X d code rt pc L (.int y :: .int x :: st) M cc sc r := ri_ev_st (fr := (t, L, st, M, cc, sc)) hc ((if_pos h : _ = _).trans (ri_jmp_ok ht)) g
theorem ri_ic_ge_f (hc : code pc = some (.if_icmp .ge off, len, a, b, c)) (h : ¬ y ≤ x) (g : ri_ev N X d code rt (pc + 3) L st M cc sc r) : ri_ev (N + 1) X d code rt pc L (.int y :: .int x :: st) M cc sc r := ri_ev_st (fr := (pc + 3, L, st, M, cc, sc)) hc (if_neg h) g
theorem ri_ic_gt_t {t : Nat} (hc : code pc = some (.if_icmp .gt off, len, a, b, c)) (h : y < x) (ht : (pc : Int) + off = Int.ofNat t) (g : ri_ev N X d code rt t L st M cc sc r) : ri_ev (N + 1) X d code rt pc L (.int y :: .int x :: st) M cc sc r := ri_ev_st (fr := (t, L, st, M, cc, sc)) hc ((if_pos h : _ = _).trans (ri_jmp_ok ht)) g
theorem ri_ic_gt_f (hc : code pc = some (.if_icmp .gt off, len, a, b, c)) (h : ¬ y < x) (g : ri_ev N X d code rt (pc + 3) L st M cc sc r) : ri_ev (N + 1) X d code rt pc L (.int y :: .int x :: st) M cc sc r := ri_ev_st (fr := (pc + 3, L, st, M, cc, sc)) hc (if_neg h) g
theorem ri_ic_le_t {t : Nat} (hc : code pc = some (.if_icmp .le off, len, a, b, c)) (h : x ≤ y) (ht : (pc : Int) + off = Int.ofNat t) (g : ri_ev N X d code rt t L st M cc sc r) : ri_ev (N + 1) X d code rt pc L (.int y :: .int x :: st) M cc sc r := ri_ev_st (fr := (t, L, st, M, cc, sc)) hc ((if_pos h : _ = _).trans (ri_jmp_ok ht)) g
theorem ri_ic_le_f (hc : code pc = some (.if_icmp .le off, len, a, b, c)) (h : ¬ x ≤ y) (g : ri_ev N X d code rt (pc + 3) L st M cc sc r) : ri_ev (N + 1) X d code rt pc L (.int y :: .int x :: st) M cc sc r := ri_ev_st (fr := (pc + 3, L, st, M, cc, sc)) hc (if_neg h) g
theorem ri_iz_eq_t {t : Nat} (hc : code pc = some (.ifCond .eq off, len, a, b, c)) (h : x = 0) (ht : (pc : Int) + off = Int.ofNat t) (g : ri_ev N X d code rt t L st M cc sc r) : ri_ev (N + 1) X d code rt pc L (.int x :: st) M cc sc r := ri_ev_st (fr := (t, L, st, M, cc, sc)) hc ((if_pos h : _ = _).trans (ri_jmp_ok ht)) g
theorem ri_iz_eq_f (hc : code pc = some (.ifCond .eq off, len, a, b, c)) (h : ¬ x = 0) (g : ri_ev N X d code rt (pc + 3) L st M cc sc r) : ri_ev (N + 1) X d code rt pc L (.int x :: st) M cc sc r := ri_ev_st (fr := (pc + 3, L, st, M, cc, sc)) hc (if_neg h) g
theorem ri_iz_ne_t {t : Nat} (hc : code pc = some (.ifCond .ne off, len, a, b, c)) (h : ¬ x = 0) (ht : (pc : Int) + off = Int.ofNat t) (g : ri_ev N X d code rt t L st M cc sc r) : ri_ev (N + 1) X d code rt pc L (.int x :: st) M cc sc r := ri_ev_st (fr := (t, L, st, M, cc, sc)) hc ((if_neg h : _ = _).trans (ri_jmp_ok ht)) g
theorem ri_iz_ne_f (hc : code pc = some (.ifCond .ne off, len, a, b, c)) (h : x = 0) (g : ri_ev N X d code rt (pc + 3) L st M cc sc r) : ri_ev (N + 1) X d code rt pc L (.int x :: st) M cc sc r := ri_ev_st (fr := (pc + 3, L, st, M, cc, sc)) hc (if_pos h) g
theorem ri_iz_lt_t {t : Nat} (hc : code pc = some (.ifCond .lt off, len, a, b, c)) (h : x < 0) (ht : (pc : Int) + off = Int.ofNat t) (g : ri_ev N X d code rt t L st M cc sc r) : ri_ev (N + 1) X d code rt pc L (.int x :: st) M cc sc r := ri_ev_st (fr := (t, L, st, M, cc, sc)) hc ((if_pos h : _ = _).trans (ri_jmp_ok ht)) g
theorem ri_iz_lt_f (hc : code pc = some (.ifCond .lt off, len, a, b, c)) (h : ¬ x < 0) (g : ri_ev N X d code rt (pc + 3) L st M cc sc r) : ri_ev (N + 1) X d code rt pc L (.int x :: st) M cc sc r := ri_ev_st (fr := (pc + 3, L, st, M, cc, sc)) hc (if_neg h) g
theorem ri_iz_ge_t {t : Nat} (hc : code pc = some (.ifCond .ge off, len, a, b, c)) (h : 0 ≤ x) (ht : (pc : Int) + off = Int.ofNat t) (g : ri_ev N X d code rt t L st M cc sc r) : ri_ev (N + 1) X d code rt pc L (.int x :: st) M cc sc r := ri_ev_st (fr := (t, L, st, M, cc, sc)) hc ((if_pos h : _ = _).trans (ri_jmp_ok ht)) g
theorem ri_iz_ge_f (hc : code pc = some (.ifCond .ge off, len, a, b, c)) (h : ¬ 0 ≤ x) (g : ri_ev N X d code rt (pc + 3) L st M cc sc r) : ri_ev (N + 1) X d code rt pc L (.int x :: st) M cc sc r := ri_ev_st (fr := (pc + 3, L, st, M, cc, sc)) hc (if_neg h) g
theorem ri_iz_gt_t {t : Nat} (hc : code pc = some (.ifCond .gt off, len, a, b, c)) (h : 0 < x) (ht : (pc : Int) + off = Int.ofNat t) (g : ri_ev N X d code rt t L st M cc sc r) : ri_ev (N + 1) X d code rt pc L (.int x :: st) M cc sc r := ri_ev_st (fr := (t, L, st, M, cc, sc)) hc ((if_pos h : _ = _).trans (ri_jmp_ok ht)) g
theorem ri_iz_gt_f (hc : code pc = some (.ifCond .gt off, len, a, b, c)) (h : ¬ 0 < x) (g : ri_ev N X d code rt (pc + 3) L st M cc sc r) : ri_ev (N + 1) X d code rt pc L (.int x :: st) M cc sc r := ri_ev_st (fr := (pc + 3, L, st, M, cc, sc)) hc (if_neg h) g
theorem ri_iz_le_t {t : Nat} (hc : code pc = some (.ifCond .le off, len, a, b, c)) (h : x ≤ 0) (ht : (pc : Int) + off = Int.ofNat t) (g : ri_ev N X d code rt t L st M cc sc r) : ri_ev (N + 1) X d code rt pc L (.int x :: st) M cc sc r := ri_ev_st (fr := (t, L, st, M, cc, sc)) hc ((if_pos h : _ = _).trans (ri_jmp_ok ht)) g
theorem ri_iz_le_f (hc : code pc = some (.ifCond .le off, len, a, b, c)) (h : ¬ x ≤ 0) (g : ri_ev N X d code rt (pc + 3) L st M cc sc r) : ri_ev (N + 1) X d code rt pc L (.int x :: st) M cc sc r := ri_ev_st (fr := (pc + 3, L, st, M, cc, sc)) hc (if_neg h) g
theorem ri_ev_tsw {t : Nat} {dd lo hi : Int} {offs : Array Int} (hc : code pc = some (.tableswitch dd lo hi offs, len, a, b, c)) (h : x.toInt < lo ∨ hi < x.toInt) (ht : (pc : Int) + dd = Int.ofNat t) (g : ri_ev N X d code rt t L st M cc sc r) : ri_ev (N + 1) X d code rt pc L (.int x :: st) M cc sc r := ri_ev_st (fr := (t, L, st, M, cc, sc)) hc ((if_pos h : _ = _).trans (ri_jmp_ok ht)) g
theorem ri_ev_ial {n : Nat} {f : Nat → Int32} (hc : code pc = some (.iaload, len, a, b, c)) (hM : M[k]? = some (.inl (.int, (n, .inl f)))) (h : ¬ (x < 0 ∨ n ≤ x.toNatClampNeg)) (g : ri_ev N X d code rt (pc + 1) L (.int (f x.toNatClampNeg) :: st) M cc sc r) : ri_ev (N + 1) X d code rt pc L (.int x :: .ref (k + 1) :: st) M cc sc r := by
  refine ri_ev_st (fr := (pc + 1, L, .int (f x.toNatClampNeg) :: st, M, cc, sc)) hc ?_ g
  show ri_ial X pc L (.int x :: .ref (k + 1) :: st) M cc sc = _
  unfold ri_ial
  dsimp only
  rw [hM]
  exact if_neg h
theorem ri_gs {k : Nat} {x z : ri_C} (h : M[k]? = some z) : (M.set k x)[k]? = some x := by
  rw [List.getElem?_set_self (List.getElem?_eq_some_iff.mp h).1]
theorem ri_gn {j k : Nat} {x z : ri_C} (h : j ≠ k) (e : M[k]? = some z) : (M.set j x)[k]? = some z := by
  rw [List.getElem?_set_ne h, e]
theorem ri_ev_gf {i : Nat} {fs : List Value} {v : Value} (hc : code pc = some (.getfield i, len, a, b, c)) (hM : M[k]? = some (.inr (a, fs))) (hv : fs[b]? = some v) (g : ri_ev N X d code rt (pc + 3) L (v :: st) M cc sc r) : ri_ev (N + 1) X d code rt pc L (.ref (k + 1) :: st) M cc sc r := by
  refine ri_ev_st (fr := (pc + 3, L, v :: st, M, cc, sc)) hc ?_ g
  show ri_gf a b pc L (.ref (k + 1) :: st) M cc sc = _
  unfold ri_gf
  dsimp only
  rw [hM]
  dsimp only
  rw [if_pos rfl, hv]
theorem ri_ev_pf {i : Nat} {fs gs : List Value} {v : Value} {M2 : ri_M} (hc : code pc = some (.putfield i, len, a, b, c)) (hM : M[k]? = some (.inr (a, fs))) (hb : b < fs.length) (hf : ri_fit (ri_ft a b) v = true) (hg : fs.set b v = gs) (e : M.set k (.inr (a, gs)) = M2) (g : ri_ev N X d code rt (pc + 3) L st M2 cc sc r) : ri_ev (N + 1) X d code rt pc L (v :: .ref (k + 1) :: st) M cc sc r := by
  refine ri_ev_st (fr := (pc + 3, L, st, M2, cc, sc)) hc ?_ g
  show ri_pf a b pc L (v :: .ref (k + 1) :: st) M cc sc = _
  unfold ri_pf
  dsimp only
  rw [hM]
  dsimp only
  rw [if_pos ⟨rfl, hb, hf⟩, hg, e]
theorem ri_ev_iald {n : Nat} {f : Nat → Int32} {z : Int32} (hc : code pc = some (.iaload, len, a, b, c)) (hM : M[k]? = some (.inl (.int, (n, .inl f)))) (h : ¬ (x < 0 ∨ n ≤ x.toNatClampNeg)) (hz : f x.toNatClampNeg = z) (g : ri_ev N X d code rt (pc + 1) L (.int z :: st) M cc sc r) : ri_ev (N + 1) X d code rt pc L (.int x :: .ref (k + 1) :: st) M cc sc r := by
  subst hz
  exact ri_ev_ial hc hM h g
theorem ri_ev_bald {n : Nat} {f : Nat → Int32} {z : Int32} (hc : code pc = some (.baload, len, a, b, c)) (hM : M[k]? = some (.inl (.byte, (n, .inl f)))) (h : ¬ (x < 0 ∨ n ≤ x.toNatClampNeg)) (hz : f x.toNatClampNeg = z) (g : ri_ev N X d code rt (pc + 1) L (.int z :: st) M cc sc r) : ri_ev (N + 1) X d code rt pc L (.int x :: .ref (k + 1) :: st) M cc sc r := by
  subst hz
  refine ri_ev_st (fr := (pc + 1, L, .int (f x.toNatClampNeg) :: st, M, cc, sc)) hc ?_ g
  show ri_bal pc L (.int x :: .ref (k + 1) :: st) M cc sc = _
  unfold ri_bal
  dsimp only
  rw [hM]
  exact if_neg h
theorem ri_ev_zald {n : Nat} {f : Nat → Int32} {z : Int32} (hc : code pc = some (.baload, len, a, b, c)) (hM : M[k]? = some (.inl (.boolean, (n, .inl f)))) (h : ¬ (x < 0 ∨ n ≤ x.toNatClampNeg)) (hz : f x.toNatClampNeg = z) (g : ri_ev N X d code rt (pc + 1) L (.int z :: st) M cc sc r) : ri_ev (N + 1) X d code rt pc L (.int x :: .ref (k + 1) :: st) M cc sc r := by
  subst hz
  refine ri_ev_st (fr := (pc + 1, L, .int (f x.toNatClampNeg) :: st, M, cc, sc)) hc ?_ g
  show ri_bal pc L (.int x :: .ref (k + 1) :: st) M cc sc = _
  unfold ri_bal
  dsimp only
  rw [hM]
  exact if_neg h
theorem ri_ev_aald {C : String} {n : Nat} {f : Nat → Option Nat} {v : Value} (hc : code pc = some (.aaload, len, a, b, c)) (hM : M[k]? = some (.inl (.object C, (n, .inr (.inr (.inr (.inr f))))))) (h : ¬ (x < 0 ∨ n ≤ x.toNatClampNeg)) (hz : va_rf (f x.toNatClampNeg) = v) (g : ri_ev N X d code rt (pc + 1) L (v :: st) M cc sc r) : ri_ev (N + 1) X d code rt pc L (.int x :: .ref (k + 1) :: st) M cc sc r := by
  subst hz
  refine ri_ev_st (fr := (pc + 1, L, va_rf (f x.toNatClampNeg) :: st, M, cc, sc)) hc ?_ g
  show ri_aal pc L (.int x :: .ref (k + 1) :: st) M cc sc = _
  unfold ri_aal
  dsimp only
  rw [hM]
  exact if_neg h
theorem ri_ev_iasd {n q : Nat} {f : Nat → Int32} {M2 : ri_M} (hc : code pc = some (.iastore, len, a, b, c)) (hM : M[k]? = some (.inl (.int, (n, .inl f)))) (h : ¬ (x < 0 ∨ n ≤ x.toNatClampNeg)) (hq : x.toNatClampNeg = q) (e : M.set k (.inl (.int, (n, .inl (upd f q y)))) = M2) (g : ri_ev N X d code rt (pc + 1) L st M2 cc sc r) : ri_ev (N + 1) X d code rt pc L (.int y :: .int x :: .ref (k + 1) :: st) M cc sc r := by
  subst hq
  refine ri_ev_st (fr := (pc + 1, L, st, M2, cc, sc)) hc ?_ g
  show ri_ias pc L (.int y :: .int x :: .ref (k + 1) :: st) M cc sc = _
  unfold ri_ias
  dsimp only
  rw [hM]
  dsimp only
  rw [if_neg h, e]
theorem ri_ev_basd {n q : Nat} {f : Nat → Int32} {M2 : ri_M} (hc : code pc = some (.bastore, len, a, b, c)) (hM : M[k]? = some (.inl (.byte, (n, .inl f)))) (h : ¬ (x < 0 ∨ n ≤ x.toNatClampNeg)) (hq : x.toNatClampNeg = q) (e : M.set k (.inl (.byte, (n, .inl (upd f q (vp_nar .byte y))))) = M2) (g : ri_ev N X d code rt (pc + 1) L st M2 cc sc r) : ri_ev (N + 1) X d code rt pc L (.int y :: .int x :: .ref (k + 1) :: st) M cc sc r := by
  subst hq
  refine ri_ev_st (fr := (pc + 1, L, st, M2, cc, sc)) hc ?_ g
  show ri_bas pc L (.int y :: .int x :: .ref (k + 1) :: st) M cc sc = _
  unfold ri_bas
  dsimp only
  rw [hM]
  dsimp only
  rw [if_neg h, e]
theorem ri_ev_zasd {n q : Nat} {f : Nat → Int32} {M2 : ri_M} (hc : code pc = some (.bastore, len, a, b, c)) (hM : M[k]? = some (.inl (.boolean, (n, .inl f)))) (h : ¬ (x < 0 ∨ n ≤ x.toNatClampNeg)) (hq : x.toNatClampNeg = q) (e : M.set k (.inl (.boolean, (n, .inl (upd f q (vp_nar .boolean y))))) = M2) (g : ri_ev N X d code rt (pc + 1) L st M2 cc sc r) : ri_ev (N + 1) X d code rt pc L (.int y :: .int x :: .ref (k + 1) :: st) M cc sc r := by
  subst hq
  refine ri_ev_st (fr := (pc + 1, L, st, M2, cc, sc)) hc ?_ g
  show ri_bas pc L (.int y :: .int x :: .ref (k + 1) :: st) M cc sc = _
  unfold ri_bas
  dsimp only
  rw [hM]
  dsimp only
  rw [if_neg h, e]
theorem ri_ev_alnd {ty : FieldType} {z : vp_A} {w : Int32} (hc : code pc = some (.arraylength, len, a, b, c)) (hM : M[k]? = some (.inl (ty, z))) (hw : Int32.ofNat z.1 = w) (g : ri_ev N X d code rt (pc + 1) L (.int w :: st) M cc sc r) : ri_ev (N + 1) X d code rt pc L (.ref (k + 1) :: st) M cc sc r := by
  subst hw
  refine ri_ev_st (fr := (pc + 1, L, .int (Int32.ofNat z.1) :: st, M, cc, sc)) hc ?_ g
  show ri_aln X pc L (.ref (k + 1) :: st) M cc sc = _
  unfold ri_aln
  dsimp only
  rw [hM]
theorem ri_ev_clv {as rr : List Value} {ci : Nat} {fs : List Value} {v : Option Value} (ins' : Nat) (hc : code pc = some (.invokevirtual ins', len, a, b, c)) (hs : ri_spl b [] st = some (as, .ref (k + 1) :: rr)) (hM : M[k]? = some (.inr (ci, fs))) (hci : ci = ri_rc a) (hcat : ri_cat rr ≤ 8) (hcall : ri_c d a (.ref (k + 1) :: as) M = some (v, M1, 0, 0)) (g : ri_ev N X d code rt (pc + 3) L (v.toList ++ rr) M1 cc sc r) : ri_ev (N + 1) X d code rt pc L st M cc sc r := by
  refine ri_ev_st (fr := (pc + 3, L, v.toList ++ rr, M1, cc, sc)) hc ?_ g
  show ri_clv (ri_c d) ri_rc a b pc L st M cc sc = _
  unfold ri_clv
  rw [hs]
  dsimp only
  rw [hM]
  dsimp only
  rw [if_pos ⟨hci, hcat⟩, hcall]
  exact if_pos (Or.inl rfl)
theorem ri_ev_cls {as rr : List Value} {v : Option Value} (ins' : Nat) (hc : code pc = some (.invokestatic ins', len, a, b, c)) (hk : c % 16 = 0 ∨ c % 16 = 1) (hs : ri_spl b [] st = some (as, rr)) (hcat : ri_cat rr ≤ 8) (hcall : ri_c d a as M = some (v, M1, 0, 0)) (g : ri_ev N X d code rt (pc + 3) L (v.toList ++ rr) M1 cc sc r) : ri_ev (N + 1) X d code rt pc L st M cc sc r := by
  refine ri_ev_st (fr := (pc + 3, L, v.toList ++ rr, M1, cc, sc)) hc ?_ g
  have e : ri_cls (ri_c d) a b pc L st M cc sc = some (.inl (pc + 3, L, v.toList ++ rr, M1, cc, sc)) := by
    unfold ri_cls
    rw [hs]
    dsimp only
    rw [if_pos hcat, hcall]
    exact if_pos (Or.inl rfl)
  simp only [ri_step]
  rcases hk with hk | hk
  · rw [hk]
    exact e
  · rw [hk]
    exact e
theorem ri_ev_eq {M2 : ri_M} (e : M = M2) (g : ri_ev N X d code rt pc L st M2 cc sc r) : ri_ev N X d code rt pc L st M cc sc r := e ▸ g
theorem ri_ss {M M2 : ri_M} {j k : Nat} {x z : ri_C} (h : j ≠ k) (e : M.set k x = M2) : (M.set j z).set k x = M2.set j z := by
  rw [List.set_comm _ _ h, e]
theorem ri_rng {n : Nat} {w : Int32} (h1 : ¬ x < 0) (h2 : x < w) (hw : w = Int32.ofNat n) (hn : n ≤ 2147483647) : ¬ (x < 0 ∨ n ≤ x.toNatClampNeg) := by
  rintro (h | h)
  · exact h1 h
  · rw [hw, Int32.lt_iff_toInt_lt] at h2
    have h3 : (Int32.ofNat n).toInt = n := Int32.toInt_ofNat_of_lt (by omega)
    rw [h3] at h2
    have h4 : ¬ x.toInt < 0 := fun q => h1 (Int32.lt_iff_toInt_lt.mpr (by simpa using q))
    have h5 : (x.toNatClampNeg : Int) = x.toInt := by
      show ((x.toInt.toNat : Nat) : Int) = x.toInt
      omega
    omega
theorem ri_ltl {c : Int32} {cl : Int64} (h : cl = c.toInt64) : x.toInt64 < cl ↔ x < c := by
  rw [h, Int64.lt_iff_toInt_lt, Int32.lt_iff_toInt_lt, Int32.toInt_toInt64, Int32.toInt_toInt64]
theorem ri_ltr {c : Int32} {cl : Int64} (h : cl = c.toInt64) : cl < x.toInt64 ↔ c < x := by
  rw [h, Int64.lt_iff_toInt_lt, Int32.lt_iff_toInt_lt, Int32.toInt_toInt64, Int32.toInt_toInt64]
theorem ri_lg_lt {u v : Int64} : lg_cmp u v < 0 ↔ u < v := by
  unfold lg_cmp
  by_cases h1 : u > v
  · rw [if_pos h1]
    exact ⟨fun q => absurd q (by decide), fun q => absurd (Int64.lt_trans q h1) (Int64.lt_irrefl)⟩
  · rw [if_neg h1]
    by_cases h2 : u = v
    · rw [if_pos h2, h2]
      exact ⟨fun q => absurd q (by decide), fun q => absurd q (Int64.lt_irrefl)⟩
    · rw [if_neg h2]
      refine ⟨fun _ => ?_, fun _ => by decide⟩
      rcases Int64.lt_or_eq_of_le (Int64.not_lt.mp h1) with h3 | h3
      · exact h3
      · exact absurd h3 h2
theorem ri_lg_gt {u v : Int64} : 0 < lg_cmp u v ↔ v < u := by
  unfold lg_cmp
  by_cases h1 : u > v
  · rw [if_pos h1]
    exact ⟨fun _ => h1, fun _ => by decide⟩
  · rw [if_neg h1]
    by_cases h2 : u = v
    · rw [if_pos h2]
      exact ⟨fun q => absurd q (by decide), fun q => absurd q h1⟩
    · rw [if_neg h2]
      exact ⟨fun q => absurd q (by decide), fun q => absurd q h1⟩
theorem ri_lc_lt {c : Int32} {cl : Int64} (h : cl = c.toInt64) : lg_cmp x.toInt64 cl < 0 ↔ x < c := ri_lg_lt.trans (ri_ltl h)
theorem ri_lc_gt {c : Int32} {cl : Int64} (h : cl = c.toInt64) : 0 < lg_cmp x.toInt64 cl ↔ c < x := ri_lg_gt.trans (ri_ltr h)
theorem ri_lc_le {c : Int32} {cl : Int64} (h : cl = c.toInt64) : lg_cmp x.toInt64 cl ≤ 0 ↔ ¬ c < x := by rw [← ri_lc_gt h]; exact Int32.not_lt.symm
theorem ri_lc_ge {c : Int32} {cl : Int64} (h : cl = c.toInt64) : 0 ≤ lg_cmp x.toInt64 cl ↔ ¬ x < c := by rw [← ri_lc_lt h]; exact Int32.not_lt.symm
theorem ri_ev_tswk {t : Nat} {kk : Int32} {dd lo hi : Int} {offs : Array Int} (hc : code pc = some (.tableswitch dd lo hi offs, len, a, b, c)) (h : x = kk) (hr : ¬ (kk.toInt < lo ∨ hi < kk.toInt)) (ho : offs[(kk.toInt - lo).toNat]? = some off) (ht : (pc : Int) + off = Int.ofNat t) (g : ri_ev N X d code rt t L st M cc sc r) : ri_ev (N + 1) X d code rt pc L (.int x :: st) M cc sc r := by
  subst h
  refine ri_ev_st (fr := (t, L, st, M, cc, sc)) hc ?_ g
  show ri_tsw dd lo hi offs pc L (.int x :: st) M cc sc = _
  unfold ri_tsw
  dsimp only
  rw [if_neg hr, ho]
  exact ri_jmp_ok ht
theorem ri_ev_call {as : List Value} {v : Option Value} (he : ri_ent as (ri_ml a) = some L) (hN : N ≤ 100000) (h : ri_ev N none d (ri_tc a) (ri_rt a) 0 L [] M 0 0 (v, M1, 0, 0)) : ri_c (d + 1) a as M = some (v, M1, 0, 0) := by
  show (match ri_ent as (ri_ml a) with
    | some L => ri_run none (ri_c d) ri_rc (ri_tc a) (ri_rt a) 100000 0 L [] M 0 0
    | none => none) = _
  rw [he]
  exact h 100000 hN
end EV
end
section
/-! From the machine's entry of the law to its end. -/
section RI
variable {p : Program} {l : Launch} {e : Env} {R : Room} {s : State} {m : MethodId} {args : Array Value} {below : List Frame} {meth : Method} {c : Code} {H : Heap} {locs : List Loc} {Q : State → Prop} {bs : ByteArray} {nL : Nat} {own nm : String} {A : Nat → Prop} {D : va_G} {X : ri_X} {dA : Nat → Nat} {dT : Nat → ClassId} {pc : Nat} {L : ri_L} {st : List Value} {M : ri_M} {cc sc : Nat} {ls : Array Slot} {fr : ri_F}
/-- some steps of a frame -/
noncomputable def ri_go (X : ri_X) (call : ri_Ca) (code : Nat → Option ri_J) (rt : Option FieldType) : Nat → Nat → ri_L → List Value → ri_M → Nat → Nat → Option ri_F
  | 0, pc, L, st, M, cc, sc => some (pc, L, st, M, cc, sc)
  | n + 1, pc, L, st, M, cc, sc => match code pc with
    | none => none
    | some j => match ri_step X call ri_rc rt j pc L st M cc sc with
      | some (.inl (pc1, L1, st1, M1, c1, s1)) => ri_go X call code rt n pc1 L1 st1 M1 c1 s1
      | _ => none
theorem ri_go_mono {call : ri_Ca} {code : Nat → Option ri_J} {rt : Option FieldType} : ∀ (n pc : Nat) (L : ri_L) (st : List Value) (M : ri_M) (cc sc : Nat) (f : ri_F), ri_go X call code rt n pc L st M cc sc = some f → cc ≤ f.2.2.2.2.1 ∧ sc ≤ f.2.2.2.2.2 := by
  intro n
  induction n with
  | zero => intro pc L st M cc sc f h; cases h; exact ⟨Nat.le_refl _, Nat.le_refl _⟩
  | succ n ih =>
    intro pc L st M cc sc f h
    unfold ri_go at h
    split at h
    · cases h
    · next j hj =>
      split at h
      · next pc1 L1 st1 M1 c1 s1 hs =>
        obtain ⟨a1, a2⟩ := ri_mono1 hs
        obtain ⟨b1, b2⟩ := ih _ _ _ _ _ _ _ h
        exact ⟨Nat.le_trans a1 b1, Nat.le_trans a2 b2⟩
      · cases h
theorem ri_go_sound {call : ri_Ca} {code : Nat → Option ri_J} {rt : Option FieldType} {F : Nat} (TB : ri_Tab) (Fx : ri_Fx p s m args meth c bs nL own nm A) (hcode : ∀ pc j, code pc = some j → ri_ck own nm bs pc j = true) (hR : F + 2 ≤ R.frames ∧ 400 * (F + 2) ≤ R.locals) (hC : ri_Cal l call F) (f : ri_F) (hr1 : f.2.2.2.2.1 ≤ R.cells) (hr2 : f.2.2.2.2.2 ≤ R.slots) (n0 : Nat) (dA0 : Nat → Nat) (dT0 : Nat → ClassId) (cc0 : Nat)
    (hK : ri_Go p l e R s m args below meth c Q X D A nL dA0 dT0 n0 cc0 f) :
    ∀ (n pc : Nat) (L : ri_L) (st : List Value) (M : ri_M) (cc sc : Nat), ri_go X call code rt n pc L st M cc sc = some f → ∀ (dA : Nat → Nat) (dT : Nat → ClassId) (H : Heap) (locs : List Loc) (ls : Array Slot), ri_Ag n0 dA0 dT0 cc0 M.length dA dT cc → ri_At X D A s nL dA dT M L H locs ls → W p l e R s m args below meth c H locs cc sc Q (F0 m pc ls (st.map (ri_cv dA))) := by
  intro n
  induction n with
  | zero =>
    intro pc L st M cc sc h dA dT H locs ls hag hAt
    cases h
    exact hK dA dT H locs ls hag hAt
  | succ n ih =>
    intro pc L st M cc sc h dA dT H locs ls hag hAt
    unfold ri_go at h
    split at h
    · cases h
    · next j hj =>
      split at h
      · next pc1 L1 st1 M1 c1 s1 hs =>
        obtain ⟨b1, b2⟩ := ri_go_mono _ _ _ _ _ _ _ _ h
        exact ri_sound TB Fx (hcode _ _ hj) hR hC hs hAt (fun dA1 dT1 H1 locs1 ls1 g1 g2 => ih _ _ _ _ _ _ h dA1 dT1 H1 locs1 ls1 (hag.trans g1) g2) (Nat.le_trans b1 hr1) (Nat.le_trans b2 hr2)
      · cases h
theorem ri_eqM_get : ∀ {M N : ri_M}, ri_eqM M N = true → M.length = N.length ∧ ∀ (k : Nat) (x y : ri_C), M[k]? = some x → N[k]? = some y → ri_eqC x y = true
  | [], [], _ => ⟨rfl, fun k x y h => by simp at h⟩
  | [], _ :: _, h => by cases h
  | _ :: _, [], h => by cases h
  | a :: M, b :: N, h => by
    unfold ri_eqM at h
    rw [Bool.and_eq_true] at h
    obtain ⟨e1, e2⟩ := ri_eqM_get h.2
    refine ⟨by rw [List.length_cons, List.length_cons, e1], fun k x y hx hy => ?_⟩
    cases k with
    | zero =>
      cases hx
      cases hy
      exact h.1
    | succ k => exact e2 k x y (by simpa using hx) (by simpa using hy)
theorem ri_eqC_at {a : Nat} {cA : ClassId} {H1 : Heap} {x y : ri_C} (h : ri_eqC x y = true) (hp : va_at D vwCl (a, ri_ce dA cA x) H1) : va_at D vwCl (a, ri_ce dA cA y) H1 := by
  unfold ri_eqC at h
  split at h
  · next c1 fs c2 gs =>
    rw [Bool.and_eq_true, decide_eq_true_eq, decide_eq_true_eq] at h
    obtain ⟨rfl, rfl⟩ := h
    exact hp
  · next t n f u k g =>
    simp only [Bool.and_eq_true, decide_eq_true_eq, List.all_eq_true, List.mem_range] at h
    obtain ⟨rfl, rfl, h⟩ := h
    have e : vp_cell cA (n, .inl f) = vp_cell cA (n, .inl g) := ri_arrV fun j hj => congrArg Value.int (h j hj)
    show H1[a]? = some (vp_cell cA (n, .inl g))
    rw [← e]
    exact hp
  · next t n f u k g =>
    simp only [Bool.and_eq_true, decide_eq_true_eq, List.all_eq_true, List.mem_range] at h
    obtain ⟨rfl, rfl, h⟩ := h
    have e : vp_cell cA (n, .inr (.inl f)) = vp_cell cA (n, .inr (.inl g)) := ri_arrV fun j hj => congrArg Value.long (h j hj)
    show H1[a]? = some (vp_cell cA (n, .inr (.inl g)))
    rw [← e]
    exact hp
  · next t n f u k g =>
    simp only [Bool.and_eq_true, decide_eq_true_eq, List.all_eq_true, List.mem_range] at h
    obtain ⟨rfl, rfl, h⟩ := h
    have e : vp_cell cA (n, .inr (.inr (.inr (.inr fun j => (f j).map dA)))) = vp_cell cA (n, .inr (.inr (.inr (.inr fun j => (g j).map dA)))) := ri_arrV (f := fun j => va_rf ((f j).map dA)) (g := fun j => va_rf ((g j).map dA)) fun j hj => congrArg (fun o => va_rf (Option.map dA o)) (h j hj)
    show H1[a]? = some (vp_cell cA (n, .inr (.inr (.inr (.inr fun j => (g j).map dA)))))
    rw [← e]
    exact hp
  · cases h
theorem ri_eqC_ty {x y : ri_C} (h : ri_eqC x y = true) {ty : FieldType} {b : vp_A} (hy : y = .inl (ty, b)) : ∃ b', x = .inl (ty, b') := by
  subst hy
  unfold ri_eqC at h
  split at h
  · next h9 => cases h9
  · next t n f u k g h8 h9 =>
    cases h9
    simp only [Bool.and_eq_true, decide_eq_true_eq] at h
    obtain ⟨rfl, -⟩ := h
    exact ⟨_, rfl⟩
  · next t n f u k g h8 h9 =>
    cases h9
    simp only [Bool.and_eq_true, decide_eq_true_eq] at h
    obtain ⟨rfl, -⟩ := h
    exact ⟨_, rfl⟩
  · next t n f u k g h8 h9 =>
    cases h9
    simp only [Bool.and_eq_true, decide_eq_true_eq] at h
    obtain ⟨rfl, -⟩ := h
    exact ⟨_, rfl⟩
  · cases h
theorem ri_eqM_at {N : ri_M} (h : ri_eqM M N = true) (hAt : ri_At X D A s nL dA dT M L H locs ls) : ri_At X D A s nL dA dT N L H locs ls := by
  obtain ⟨a1, a2, a3, a4, a5, a6, a7, a8⟩ := hAt
  obtain ⟨e1, e2⟩ := ri_eqM_get h
  have inv : ∀ (k : Nat) (y : ri_C), N[k]? = some y → ∃ x, M[k]? = some x ∧ ri_eqC x y = true := by
    intro k y hy
    have hk : k < M.length := by rw [e1]; exact (List.getElem?_eq_some_iff.mp hy).1
    exact ⟨_, List.getElem?_eq_getElem hk, e2 k _ y (List.getElem?_eq_getElem hk) hy⟩
  refine ⟨a1, fun k ty a hk => ?_, fun k q hq => ?_, ⟨fun i j y z hy hz hyz => ?_, fun k q hq => ?_⟩, a5, a6, a7, a8⟩
  · obtain ⟨x, hx, hxy⟩ := inv k _ hk
    obtain ⟨b', rfl⟩ := ri_eqC_ty hxy rfl
    exact a2 k ty b' hx
  · obtain ⟨y, hy, rfl⟩ := ri_ws_inv hq
    obtain ⟨x, hx, hxy⟩ := inv k y hy
    exact ri_eqC_at hxy (a3 k _ (ri_ws_at hx))
  · obtain ⟨y2, hy2, rfl⟩ := ri_ws_inv hy
    obtain ⟨z2, hz2, rfl⟩ := ri_ws_inv hz
    obtain ⟨x, hx, -⟩ := inv i y2 hy2
    obtain ⟨x2, hx2, -⟩ := inv j z2 hz2
    exact a4.1 i j _ _ (ri_ws_at hx) (ri_ws_at hx2) hyz
  · obtain ⟨y, hy, rfl⟩ := ri_ws_inv hq
    obtain ⟨x, hx, -⟩ := inv k y hy
    have z9 := a4.2 k _ (ri_ws_at hx)
    exact z9
theorem ri_end_law {call : ri_Ca} {j : ri_J} {r : ri_R} (hb : c.code = bs) (hck : ri_ck own nm bs pc j = true) (h : ri_step X call ri_rc (some .boolean) j pc L st M cc sc = some (.inr r)) (hr : r.1 = some (.int 1)) : decode bs pc = .ok (.ireturn, 1) ∧ st = [.int 1] := by
  have hd := ri_ck_d hck
  obtain ⟨ins, len, a, b, c0⟩ := j
  dsimp only at hd
  cases ins
  case ireturn =>
    have h2 : ri_ret (some .boolean) st M cc sc = some (.inr r) := h
    unfold ri_ret at h2
    split at h2
    · next x t ht =>
      split at h2
      · cases h2
        have hx : x = 1 := by
          have := Option.some.inj hr
          injection this
        subst hx
        exact ⟨hd, rfl⟩
      · cases h2
    · cases h2
  case lreturn =>
    have h2 : ri_lret (some .boolean) st M cc sc = some (.inr r) := h
    unfold ri_lret at h2
    split at h2
    · next h9 => cases h9
    · cases h2
  case areturn =>
    have h2 : ri_aret (some .boolean) st M cc sc = some (.inr r) := h
    unfold ri_aret at h2
    split at h2
    · next h9 => cases h9
    · next h9 => cases h9
    · cases h2
  case return_ =>
    have h2 : ri_vret (some .boolean) st M cc sc = some (.inr r) := h
    unfold ri_vret at h2
    split at h2
    · next h9 => cases h9
    · cases h2
  all_goals
    exfalso
    simp only [ri_step, ri_psh, ri_ild, ri_lld, ri_ald, ri_ist, ri_lst, ri_ast, ri_inc, ri_i2, ri_d2, ri_l2, ri_e2, ri_lsh, ri_lcm, ri_i1, ri_il, ri_li, ri_pop, ri_dup, ri_dup2, ri_dupx1, ri_jmp, ri_nul, ri_tsw, ri_lsw, ri_gf, ri_pf, ri_ial, ri_bal, ri_lal, ri_aal, ri_ias, ri_bas, ri_las, ri_aas, ri_aln, ri_nwa, ri_nwq, ri_nwo, ri_cls, ri_clv, ri_cin, ri_oin, ri_mm, ri_ma, ri_acp, ri_ret, ri_lret, ri_aret, ri_vret, ri_ic, ri_iz] at h
    (repeat' split at h) <;> cases h
end RI
theorem ri_pre_k : (match ri_go none (ri_c 19) ri_law (some .boolean) 10 0 [some (.ref 0), none, none, none] [] [] 0 0 with
  | some (pc, L, st, M, c, s) => decide (pc = 18) && (decide (L = [some (.ref 0), some (.ref 1), some (.ref 153), some (.int 0)]) && (decide (st = []) && (ri_eqM M ri_M3 && (Nat.ble c 1000 && Nat.ble s 20000))))
  | none => false) = true := by decide +kernel
end
