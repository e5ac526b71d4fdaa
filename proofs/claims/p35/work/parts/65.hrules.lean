/-! The rules of runs that know the texts. -/
section HRR
variable {d pc len a b c d1 : Nat} {μ : hM} {L : ri_L} {st rr as : List Value} {M M1 : ri_M} {s s' : wS} {r : Option Value × ri_M} {off : Int}
theorem hR_ic_eq_j {x y : Int32} {t : Nat} (hc : μ.cd pc = some (.if_icmp .eq off, len, a, b, c)) (h : x = y) (ht : (pc : Int) + off = Int.ofNat t) (g : hRun d μ t L st M r) : hRun d μ pc L (.int y :: .int x :: st) M r := hR_st hc (fun call => by
  show (if x = y then ri_jmp off pc L st M 0 0 else some (.inl (pc + 3, L, st, M, 0, 0))) = _
  rw [if_pos h]
  exact ri_jmp_ok ht) g
theorem hR_ic_eq_f {x y : Int32} (hc : μ.cd pc = some (.if_icmp .eq off, len, a, b, c)) (h : ¬ x = y) (g : hRun d μ (pc + 3) L st M r) : hRun d μ pc L (.int y :: .int x :: st) M r := hR_st hc (fun call => by
  show (if x = y then ri_jmp off pc L st M 0 0 else some (.inl (pc + 3, L, st, M, 0, 0))) = _
  rw [if_neg h]) g
theorem hR_ic_ne_j {x y : Int32} {t : Nat} (hc : μ.cd pc = some (.if_icmp .ne off, len, a, b, c)) (h : ¬ x = y) (ht : (pc : Int) + off = Int.ofNat t) (g : hRun d μ t L st M r) : hRun d μ pc L (.int y :: .int x :: st) M r := hR_st hc (fun call => by
  show (if x = y then some (.inl (pc + 3, L, st, M, 0, 0)) else ri_jmp off pc L st M 0 0) = _
  rw [if_neg h]
  exact ri_jmp_ok ht) g
theorem hR_ic_ne_f {x y : Int32} (hc : μ.cd pc = some (.if_icmp .ne off, len, a, b, c)) (h : x = y) (g : hRun d μ (pc + 3) L st M r) : hRun d μ pc L (.int y :: .int x :: st) M r := hR_st hc (fun call => by
  show (if x = y then some (.inl (pc + 3, L, st, M, 0, 0)) else ri_jmp off pc L st M 0 0) = _
  rw [if_pos h]) g
theorem hR_ic_lt_j {x y : Int32} {t : Nat} (hc : μ.cd pc = some (.if_icmp .lt off, len, a, b, c)) (h : x < y) (ht : (pc : Int) + off = Int.ofNat t) (g : hRun d μ t L st M r) : hRun d μ pc L (.int y :: .int x :: st) M r := hR_st hc (fun call => by
  show (if x < y then ri_jmp off pc L st M 0 0 else some (.inl (pc + 3, L, st, M, 0, 0))) = _
  rw [if_pos h]
  exact ri_jmp_ok ht) g
theorem hR_ic_lt_f {x y : Int32} (hc : μ.cd pc = some (.if_icmp .lt off, len, a, b, c)) (h : ¬ x < y) (g : hRun d μ (pc + 3) L st M r) : hRun d μ pc L (.int y :: .int x :: st) M r := hR_st hc (fun call => by
  show (if x < y then ri_jmp off pc L st M 0 0 else some (.inl (pc + 3, L, st, M, 0, 0))) = _
  rw [if_neg h]) g
theorem hR_ic_gt_j {x y : Int32} {t : Nat} (hc : μ.cd pc = some (.if_icmp .gt off, len, a, b, c)) (h : y < x) (ht : (pc : Int) + off = Int.ofNat t) (g : hRun d μ t L st M r) : hRun d μ pc L (.int y :: .int x :: st) M r := hR_st hc (fun call => by
  show (if y < x then ri_jmp off pc L st M 0 0 else some (.inl (pc + 3, L, st, M, 0, 0))) = _
  rw [if_pos h]
  exact ri_jmp_ok ht) g
theorem hR_ic_gt_f {x y : Int32} (hc : μ.cd pc = some (.if_icmp .gt off, len, a, b, c)) (h : ¬ y < x) (g : hRun d μ (pc + 3) L st M r) : hRun d μ pc L (.int y :: .int x :: st) M r := hR_st hc (fun call => by
  show (if y < x then ri_jmp off pc L st M 0 0 else some (.inl (pc + 3, L, st, M, 0, 0))) = _
  rw [if_neg h]) g
theorem hR_ic_ge_j {x y : Int32} {t : Nat} (hc : μ.cd pc = some (.if_icmp .ge off, len, a, b, c)) (h : ¬ x < y) (ht : (pc : Int) + off = Int.ofNat t) (g : hRun d μ t L st M r) : hRun d μ pc L (.int y :: .int x :: st) M r := hR_st hc (fun call => by
  show (if y ≤ x then ri_jmp off pc L st M 0 0 else some (.inl (pc + 3, L, st, M, 0, 0))) = _
  rw [if_pos (Int32.not_lt.1 h)]
  exact ri_jmp_ok ht) g
theorem hR_ic_ge_f {x y : Int32} (hc : μ.cd pc = some (.if_icmp .ge off, len, a, b, c)) (h : x < y) (g : hRun d μ (pc + 3) L st M r) : hRun d μ pc L (.int y :: .int x :: st) M r := hR_st hc (fun call => by
  show (if y ≤ x then ri_jmp off pc L st M 0 0 else some (.inl (pc + 3, L, st, M, 0, 0))) = _
  rw [if_neg (Int32.not_le.2 h)]) g
theorem hR_ic_le_j {x y : Int32} {t : Nat} (hc : μ.cd pc = some (.if_icmp .le off, len, a, b, c)) (h : ¬ y < x) (ht : (pc : Int) + off = Int.ofNat t) (g : hRun d μ t L st M r) : hRun d μ pc L (.int y :: .int x :: st) M r := hR_st hc (fun call => by
  show (if x ≤ y then ri_jmp off pc L st M 0 0 else some (.inl (pc + 3, L, st, M, 0, 0))) = _
  rw [if_pos (Int32.not_lt.1 h)]
  exact ri_jmp_ok ht) g
theorem hR_ic_le_f {x y : Int32} (hc : μ.cd pc = some (.if_icmp .le off, len, a, b, c)) (h : y < x) (g : hRun d μ (pc + 3) L st M r) : hRun d μ pc L (.int y :: .int x :: st) M r := hR_st hc (fun call => by
  show (if x ≤ y then ri_jmp off pc L st M 0 0 else some (.inl (pc + 3, L, st, M, 0, 0))) = _
  rw [if_neg (Int32.not_le.2 h)]) g
theorem hR_iz_eq_j {x : Int32} {t : Nat} (hc : μ.cd pc = some (.ifCond .eq off, len, a, b, c)) (h : x = (0 : Int32)) (ht : (pc : Int) + off = Int.ofNat t) (g : hRun d μ t L st M r) : hRun d μ pc L (.int x :: st) M r := hR_st hc (fun call => by
  show (if x = (0 : Int32) then ri_jmp off pc L st M 0 0 else some (.inl (pc + 3, L, st, M, 0, 0))) = _
  rw [if_pos h]
  exact ri_jmp_ok ht) g
theorem hR_iz_eq_f {x : Int32} (hc : μ.cd pc = some (.ifCond .eq off, len, a, b, c)) (h : ¬ x = (0 : Int32)) (g : hRun d μ (pc + 3) L st M r) : hRun d μ pc L (.int x :: st) M r := hR_st hc (fun call => by
  show (if x = (0 : Int32) then ri_jmp off pc L st M 0 0 else some (.inl (pc + 3, L, st, M, 0, 0))) = _
  rw [if_neg h]) g
theorem hR_iz_ne_j {x : Int32} {t : Nat} (hc : μ.cd pc = some (.ifCond .ne off, len, a, b, c)) (h : ¬ x = (0 : Int32)) (ht : (pc : Int) + off = Int.ofNat t) (g : hRun d μ t L st M r) : hRun d μ pc L (.int x :: st) M r := hR_st hc (fun call => by
  show (if x = (0 : Int32) then some (.inl (pc + 3, L, st, M, 0, 0)) else ri_jmp off pc L st M 0 0) = _
  rw [if_neg h]
  exact ri_jmp_ok ht) g
theorem hR_iz_ne_f {x : Int32} (hc : μ.cd pc = some (.ifCond .ne off, len, a, b, c)) (h : x = (0 : Int32)) (g : hRun d μ (pc + 3) L st M r) : hRun d μ pc L (.int x :: st) M r := hR_st hc (fun call => by
  show (if x = (0 : Int32) then some (.inl (pc + 3, L, st, M, 0, 0)) else ri_jmp off pc L st M 0 0) = _
  rw [if_pos h]) g
theorem hR_iz_lt_j {x : Int32} {t : Nat} (hc : μ.cd pc = some (.ifCond .lt off, len, a, b, c)) (h : x < (0 : Int32)) (ht : (pc : Int) + off = Int.ofNat t) (g : hRun d μ t L st M r) : hRun d μ pc L (.int x :: st) M r := hR_st hc (fun call => by
  show (if x < (0 : Int32) then ri_jmp off pc L st M 0 0 else some (.inl (pc + 3, L, st, M, 0, 0))) = _
  rw [if_pos h]
  exact ri_jmp_ok ht) g
theorem hR_iz_lt_f {x : Int32} (hc : μ.cd pc = some (.ifCond .lt off, len, a, b, c)) (h : ¬ x < (0 : Int32)) (g : hRun d μ (pc + 3) L st M r) : hRun d μ pc L (.int x :: st) M r := hR_st hc (fun call => by
  show (if x < (0 : Int32) then ri_jmp off pc L st M 0 0 else some (.inl (pc + 3, L, st, M, 0, 0))) = _
  rw [if_neg h]) g
theorem hR_iz_gt_j {x : Int32} {t : Nat} (hc : μ.cd pc = some (.ifCond .gt off, len, a, b, c)) (h : (0 : Int32) < x) (ht : (pc : Int) + off = Int.ofNat t) (g : hRun d μ t L st M r) : hRun d μ pc L (.int x :: st) M r := hR_st hc (fun call => by
  show (if (0 : Int32) < x then ri_jmp off pc L st M 0 0 else some (.inl (pc + 3, L, st, M, 0, 0))) = _
  rw [if_pos h]
  exact ri_jmp_ok ht) g
theorem hR_iz_gt_f {x : Int32} (hc : μ.cd pc = some (.ifCond .gt off, len, a, b, c)) (h : ¬ (0 : Int32) < x) (g : hRun d μ (pc + 3) L st M r) : hRun d μ pc L (.int x :: st) M r := hR_st hc (fun call => by
  show (if (0 : Int32) < x then ri_jmp off pc L st M 0 0 else some (.inl (pc + 3, L, st, M, 0, 0))) = _
  rw [if_neg h]) g
theorem hR_iz_ge_j {x : Int32} {t : Nat} (hc : μ.cd pc = some (.ifCond .ge off, len, a, b, c)) (h : ¬ x < (0 : Int32)) (ht : (pc : Int) + off = Int.ofNat t) (g : hRun d μ t L st M r) : hRun d μ pc L (.int x :: st) M r := hR_st hc (fun call => by
  show (if (0 : Int32) ≤ x then ri_jmp off pc L st M 0 0 else some (.inl (pc + 3, L, st, M, 0, 0))) = _
  rw [if_pos (Int32.not_lt.1 h)]
  exact ri_jmp_ok ht) g
theorem hR_iz_ge_f {x : Int32} (hc : μ.cd pc = some (.ifCond .ge off, len, a, b, c)) (h : x < (0 : Int32)) (g : hRun d μ (pc + 3) L st M r) : hRun d μ pc L (.int x :: st) M r := hR_st hc (fun call => by
  show (if (0 : Int32) ≤ x then ri_jmp off pc L st M 0 0 else some (.inl (pc + 3, L, st, M, 0, 0))) = _
  rw [if_neg (Int32.not_le.2 h)]) g
theorem hR_iz_le_j {x : Int32} {t : Nat} (hc : μ.cd pc = some (.ifCond .le off, len, a, b, c)) (h : ¬ (0 : Int32) < x) (ht : (pc : Int) + off = Int.ofNat t) (g : hRun d μ t L st M r) : hRun d μ pc L (.int x :: st) M r := hR_st hc (fun call => by
  show (if x ≤ (0 : Int32) then ri_jmp off pc L st M 0 0 else some (.inl (pc + 3, L, st, M, 0, 0))) = _
  rw [if_pos (Int32.not_lt.1 h)]
  exact ri_jmp_ok ht) g
theorem hR_iz_le_f {x : Int32} (hc : μ.cd pc = some (.ifCond .le off, len, a, b, c)) (h : (0 : Int32) < x) (g : hRun d μ (pc + 3) L st M r) : hRun d μ pc L (.int x :: st) M r := hR_st hc (fun call => by
  show (if x ≤ (0 : Int32) then ri_jmp off pc L st M 0 0 else some (.inl (pc + 3, L, st, M, 0, 0))) = _
  rw [if_neg (Int32.not_le.2 h)]) g
theorem hR_lc_eq_j {x y : Int64} {t : Nat} (hc : μ.cd pc = some (.ifCond .eq off, len, a, b, c)) (h : x = y) (ht : (pc : Int) + off = Int.ofNat t) (g : hRun d μ t L st M r) : hRun d μ pc L (.int (lg_cmp x y) :: st) M r := hR_iz_eq_j hc (glc_eq.2 h) ht g
theorem hR_lc_eq_f {x y : Int64} (hc : μ.cd pc = some (.ifCond .eq off, len, a, b, c)) (h : ¬ x = y) (g : hRun d μ (pc + 3) L st M r) : hRun d μ pc L (.int (lg_cmp x y) :: st) M r := hR_iz_eq_f hc (fun e => h (glc_eq.1 e)) g
theorem hR_lc_ne_j {x y : Int64} {t : Nat} (hc : μ.cd pc = some (.ifCond .ne off, len, a, b, c)) (h : ¬ x = y) (ht : (pc : Int) + off = Int.ofNat t) (g : hRun d μ t L st M r) : hRun d μ pc L (.int (lg_cmp x y) :: st) M r := hR_iz_ne_j hc (fun e => h (glc_eq.1 e)) ht g
theorem hR_lc_ne_f {x y : Int64} (hc : μ.cd pc = some (.ifCond .ne off, len, a, b, c)) (h : x = y) (g : hRun d μ (pc + 3) L st M r) : hRun d μ pc L (.int (lg_cmp x y) :: st) M r := hR_iz_ne_f hc (glc_eq.2 h) g
theorem hR_lc_lt_j {x y : Int64} {t : Nat} (hc : μ.cd pc = some (.ifCond .lt off, len, a, b, c)) (h : x < y) (ht : (pc : Int) + off = Int.ofNat t) (g : hRun d μ t L st M r) : hRun d μ pc L (.int (lg_cmp x y) :: st) M r := hR_iz_lt_j hc (ri_lg_lt.2 h) ht g
theorem hR_lc_lt_f {x y : Int64} (hc : μ.cd pc = some (.ifCond .lt off, len, a, b, c)) (h : ¬ x < y) (g : hRun d μ (pc + 3) L st M r) : hRun d μ pc L (.int (lg_cmp x y) :: st) M r := hR_iz_lt_f hc (fun e => h (ri_lg_lt.1 e)) g
theorem hR_lc_ge_j {x y : Int64} {t : Nat} (hc : μ.cd pc = some (.ifCond .ge off, len, a, b, c)) (h : ¬ x < y) (ht : (pc : Int) + off = Int.ofNat t) (g : hRun d μ t L st M r) : hRun d μ pc L (.int (lg_cmp x y) :: st) M r := hR_iz_ge_j hc (fun e => h (ri_lg_lt.1 e)) ht g
theorem hR_lc_ge_f {x y : Int64} (hc : μ.cd pc = some (.ifCond .ge off, len, a, b, c)) (h : x < y) (g : hRun d μ (pc + 3) L st M r) : hRun d μ pc L (.int (lg_cmp x y) :: st) M r := hR_iz_ge_f hc (ri_lg_lt.2 h) g
theorem hR_lc_gt_j {x y : Int64} {t : Nat} (hc : μ.cd pc = some (.ifCond .gt off, len, a, b, c)) (h : y < x) (ht : (pc : Int) + off = Int.ofNat t) (g : hRun d μ t L st M r) : hRun d μ pc L (.int (lg_cmp x y) :: st) M r := hR_iz_gt_j hc (ri_lg_gt.2 h) ht g
theorem hR_lc_gt_f {x y : Int64} (hc : μ.cd pc = some (.ifCond .gt off, len, a, b, c)) (h : ¬ y < x) (g : hRun d μ (pc + 3) L st M r) : hRun d μ pc L (.int (lg_cmp x y) :: st) M r := hR_iz_gt_f hc (fun e => h (ri_lg_gt.1 e)) g
theorem hR_lc_le_j {x y : Int64} {t : Nat} (hc : μ.cd pc = some (.ifCond .le off, len, a, b, c)) (h : ¬ y < x) (ht : (pc : Int) + off = Int.ofNat t) (g : hRun d μ t L st M r) : hRun d μ pc L (.int (lg_cmp x y) :: st) M r := hR_iz_le_j hc (fun e => h (ri_lg_gt.1 e)) ht g
theorem hR_lc_le_f {x y : Int64} (hc : μ.cd pc = some (.ifCond .le off, len, a, b, c)) (h : y < x) (g : hRun d μ (pc + 3) L st M r) : hRun d μ pc L (.int (lg_cmp x y) :: st) M r := hR_iz_le_f hc (ri_lg_gt.2 h) g
theorem hR_ifnull_n_j {t : Nat} (hc : μ.cd pc = some (.ifnull off, len, a, b, c)) (ht : (pc : Int) + off = Int.ofNat t) (g : hRun d μ t L st M r) : hRun d μ pc L (.null :: st) M r := hR_st hc (fun call => ri_jmp_ok ht) g
theorem hR_ifnonnull_r_j {t k : Nat} (hc : μ.cd pc = some (.ifnonnull off, len, a, b, c)) (ht : (pc : Int) + off = Int.ofNat t) (g : hRun d μ t L st M r) : hRun d μ pc L (.ref k :: st) M r := hR_st hc (fun call => ri_jmp_ok ht) g
theorem hR_ifnull_r_f {k : Nat} (hc : μ.cd pc = some (.ifnull off, len, a, b, c)) (g : hRun d μ (pc + 3) L st M r) : hRun d μ pc L (.ref k :: st) M r := hR_st hc (fun call => rfl) g
theorem hR_ifnonnull_n_f (hc : μ.cd pc = some (.ifnonnull off, len, a, b, c)) (g : hRun d μ (pc + 3) L st M r) : hRun d μ pc L (.null :: st) M r := hR_st hc (fun call => rfl) g
theorem hR_gfI {i k : Nat} (hc : μ.cd pc = some (.getfield i, len, a, b, c)) (hk : wkd k = a) (hf : Nat.blt (wfk a b) 2 = true) (g : hRun d μ (pc + 3) L (.int (s.1 k b) :: st) (wmk s) r) : hRun d μ pc L (.ref (k + 1) :: st) (wmk s) r := by
  have hf' : wfk a b < 2 := by simpa [Nat.blt_eq] using hf
  have hb := wfk_b (a := a) (b := b) (by omega)
  refine hR_st hc (fun call => ?_) g
  show ri_gf a b pc L (.ref (k + 1) :: st) (wmk s) 0 0 = _
  have e : wfld s k b = .int (s.1 k b) := by
    unfold wfld
    rw [hk, if_neg (by omega), if_neg (by omega)]
  simp only [ri_gf, wget_o hk hb.1, wfs hb.2, e, if_true]
theorem hR_gfL {i k : Nat} (hc : μ.cd pc = some (.getfield i, len, a, b, c)) (hk : wkd k = a) (hf : Nat.beq (wfk a b) 2 = true) (g : hRun d μ (pc + 3) L (.long (s.2 k b) :: st) (wmk s) r) : hRun d μ pc L (.ref (k + 1) :: st) (wmk s) r := by
  have hf' : wfk a b = 2 := Nat.eq_of_beq_eq_true hf
  have hb := wfk_b (a := a) (b := b) (by omega)
  refine hR_st hc (fun call => ?_) g
  show ri_gf a b pc L (.ref (k + 1) :: st) (wmk s) 0 0 = _
  have e : wfld s k b = .long (s.2 k b) := by
    unfold wfld
    rw [hk, if_neg (by omega), if_pos hf']
  simp only [ri_gf, wget_o hk hb.1, wfs hb.2, e, if_true]
theorem hR_gfR {i k k' : Nat} (hc : μ.cd pc = some (.getfield i, len, a, b, c)) (hk : wkd k = a) (hf : Nat.beq (wfk a b) 3 = true) (hR : wfR k b = k') (g : hRun d μ (pc + 3) L (.ref (k' + 1) :: st) (wmk s) r) : hRun d μ pc L (.ref (k + 1) :: st) (wmk s) r := by
  have hf' : wfk a b = 3 := Nat.eq_of_beq_eq_true hf
  have hb := wfk_b (a := a) (b := b) (by omega)
  refine hR_st hc (fun call => ?_) g
  show ri_gf a b pc L (.ref (k + 1) :: st) (wmk s) 0 0 = _
  have e : wfld s k b = .ref (k' + 1) := by
    unfold wfld
    rw [hk, if_pos hf', hR]
  simp only [ri_gf, wget_o hk hb.1, wfs hb.2, e, if_true]
theorem hR_pfI {i k : Nat} {v : Int32} (hc : μ.cd pc = some (.putfield i, len, a, b, c)) (hk : wkd k = a) (hf : Nat.beq (wfk a b) 0 = true) (ht : ri_ft a b = .int) (e : wpfI s k b v = some s') (g : hRun d μ (pc + 3) L st (wmk s') r) : hRun d μ pc L (.int v :: .ref (k + 1) :: st) (wmk s) r := by
  have hf' : wfk a b = 0 := Nat.eq_of_beq_eq_true hf
  have hb := wfk_b (a := a) (b := b) (by omega)
  refine hR_st hc (fun call => ?_) g
  show ri_pf a b pc L (.int v :: .ref (k + 1) :: st) (wmk s) 0 0 = _
  obtain rfl := gi1 e
  have hfit : ri_fit (ri_ft a b) (.int v) = true := by
    rw [ht]
    rfl
  simp only [ri_pf, wget_o hk hb.1]
  rw [if_pos ⟨trivial, by simpa using hb.2, hfit⟩, wsetI hk (by omega)]
theorem hR_pfZ {i k : Nat} {v : Int32} (hc : μ.cd pc = some (.putfield i, len, a, b, c)) (hk : wkd k = a) (hf : Nat.beq (wfk a b) 1 = true) (ht : ri_ft a b = .boolean) (e : wpfZ s k b v = some s') (g : hRun d μ (pc + 3) L st (wmk s') r) : hRun d μ pc L (.int v :: .ref (k + 1) :: st) (wmk s) r := by
  have hf' : wfk a b = 1 := Nat.eq_of_beq_eq_true hf
  have hb := wfk_b (a := a) (b := b) (by omega)
  refine hR_st hc (fun call => ?_) g
  show ri_pf a b pc L (.int v :: .ref (k + 1) :: st) (wmk s) 0 0 = _
  unfold wpfZ at e
  rcases gif e with ⟨h1, e⟩ | ⟨h1, e⟩
  · obtain rfl := gi1 e
    have hfit : ri_fit (ri_ft a b) (.int v) = true := by
      rw [ht]
      simpa [ri_fit] using h1
    simp only [ri_pf, wget_o hk hb.1]
    rw [if_pos ⟨trivial, by simpa using hb.2, hfit⟩, wsetI hk (by omega)]
  · cases e
theorem hR_pfL {i k : Nat} {v : Int64} (hc : μ.cd pc = some (.putfield i, len, a, b, c)) (hk : wkd k = a) (hf : Nat.beq (wfk a b) 2 = true) (ht : ri_ft a b = .long) (e : wpfL s k b v = some s') (g : hRun d μ (pc + 3) L st (wmk s') r) : hRun d μ pc L (.long v :: .ref (k + 1) :: st) (wmk s) r := by
  have hf' : wfk a b = 2 := Nat.eq_of_beq_eq_true hf
  have hb := wfk_b (a := a) (b := b) (by omega)
  refine hR_st hc (fun call => ?_) g
  show ri_pf a b pc L (.long v :: .ref (k + 1) :: st) (wmk s) 0 0 = _
  obtain rfl := gi1 e
  have hfit : ri_fit (ri_ft a b) (.long v) = true := by
    rw [ht]
    rfl
  simp only [ri_pf, wget_o hk hb.1]
  rw [if_pos ⟨trivial, by simpa using hb.2, hfit⟩, wsetL hk (by omega)]
theorem hR_ial {k n : Nat} {x : Int32} {v : Int32} (hc : μ.cd pc = some (.iaload, len, a, b, c)) (hk : wkd k = 20) (hn : wln k = n) (e : wldI s k n x = some v) (g : hRun d μ (pc + 1) L (.int v :: st) (wmk s) r) : hRun d μ pc L (.int x :: .ref (k + 1) :: st) (wmk s) r := by
  obtain ⟨h1, rfl⟩ := wldI_e e
  refine hR_st hc (fun call => ?_) g
  show ri_ial μ.X pc L (.int x :: .ref (k + 1) :: st) (wmk s) 0 0 = _
  simp only [ri_ial, wget_I hk, hn]
  rw [if_neg h1]
theorem hR_ialc {k n j : Nat} {x : Int32} (hc : μ.cd pc = some (.iaload, len, a, b, c)) (hk : wkd k = 20) (hn : wln k = n) (h1 : ¬ (x < 0 ∨ n ≤ x.toNatClampNeg)) (hj : x.toNatClampNeg = j) (g : hRun d μ (pc + 1) L (.int (s.1 k j) :: st) (wmk s) r) : hRun d μ pc L (.int x :: .ref (k + 1) :: st) (wmk s) r := by
  subst hj
  exact hR_ial hc hk hn (by unfold wldI; rw [if_neg h1]) g
theorem hR_bal {k n : Nat} {x : Int32} {v : Int32} (hc : μ.cd pc = some (.baload, len, a, b, c)) (hk : wkd k = 21) (hn : wln k = n) (e : wldI s k n x = some v) (g : hRun d μ (pc + 1) L (.int v :: st) (wmk s) r) : hRun d μ pc L (.int x :: .ref (k + 1) :: st) (wmk s) r := by
  obtain ⟨h1, rfl⟩ := wldI_e e
  refine hR_st hc (fun call => ?_) g
  show ri_bal pc L (.int x :: .ref (k + 1) :: st) (wmk s) 0 0 = _
  simp only [ri_bal, wget_B hk, hn]
  rw [if_neg h1]
theorem hR_balc {k n j : Nat} {x : Int32} (hc : μ.cd pc = some (.baload, len, a, b, c)) (hk : wkd k = 21) (hn : wln k = n) (h1 : ¬ (x < 0 ∨ n ≤ x.toNatClampNeg)) (hj : x.toNatClampNeg = j) (g : hRun d μ (pc + 1) L (.int (s.1 k j) :: st) (wmk s) r) : hRun d μ pc L (.int x :: .ref (k + 1) :: st) (wmk s) r := by
  subst hj
  exact hR_bal hc hk hn (by unfold wldI; rw [if_neg h1]) g
theorem hR_zal {k n : Nat} {x : Int32} {v : Int32} (hc : μ.cd pc = some (.baload, len, a, b, c)) (hk : wkd k = 22) (hn : wln k = n) (e : wldI s k n x = some v) (g : hRun d μ (pc + 1) L (.int v :: st) (wmk s) r) : hRun d μ pc L (.int x :: .ref (k + 1) :: st) (wmk s) r := by
  obtain ⟨h1, rfl⟩ := wldI_e e
  refine hR_st hc (fun call => ?_) g
  show ri_bal pc L (.int x :: .ref (k + 1) :: st) (wmk s) 0 0 = _
  simp only [ri_bal, wget_Z hk, hn]
  rw [if_neg h1]
theorem hR_zalc {k n j : Nat} {x : Int32} (hc : μ.cd pc = some (.baload, len, a, b, c)) (hk : wkd k = 22) (hn : wln k = n) (h1 : ¬ (x < 0 ∨ n ≤ x.toNatClampNeg)) (hj : x.toNatClampNeg = j) (g : hRun d μ (pc + 1) L (.int (s.1 k j) :: st) (wmk s) r) : hRun d μ pc L (.int x :: .ref (k + 1) :: st) (wmk s) r := by
  subst hj
  exact hR_zal hc hk hn (by unfold wldI; rw [if_neg h1]) g
theorem hR_lal {k n : Nat} {x : Int32} {v : Int64} (hc : μ.cd pc = some (.laload, len, a, b, c)) (hk : wkd k = 23) (hn : wln k = n) (e : wldL s k n x = some v) (g : hRun d μ (pc + 1) L (.long v :: st) (wmk s) r) : hRun d μ pc L (.int x :: .ref (k + 1) :: st) (wmk s) r := by
  obtain ⟨h1, rfl⟩ := wldL_e e
  refine hR_st hc (fun call => ?_) g
  show ri_lal pc L (.int x :: .ref (k + 1) :: st) (wmk s) 0 0 = _
  simp only [ri_lal, wget_J hk, hn]
  rw [if_neg h1]
theorem hR_lalc {k n j : Nat} {x : Int32} (hc : μ.cd pc = some (.laload, len, a, b, c)) (hk : wkd k = 23) (hn : wln k = n) (h1 : ¬ (x < 0 ∨ n ≤ x.toNatClampNeg)) (hj : x.toNatClampNeg = j) (g : hRun d μ (pc + 1) L (.long (s.2 k j) :: st) (wmk s) r) : hRun d μ pc L (.int x :: .ref (k + 1) :: st) (wmk s) r := by
  subst hj
  exact hR_lal hc hk hn (by unfold wldL; rw [if_neg h1]) g
theorem hR_ias {k n : Nat} {x : Int32} {v : Int32} (hc : μ.cd pc = some (.iastore, len, a, b, c)) (hk : wkd k = 20) (hn : wln k = n) (e : wstI s k n x v = some s') (g : hRun d μ (pc + 1) L st (wmk s') r) : hRun d μ pc L (.int v :: .int x :: .ref (k + 1) :: st) (wmk s) r := by
  unfold wstI at e
  rcases gif e with ⟨h1, e⟩ | ⟨h1, e⟩
  · cases e
  · obtain rfl := gi1 e
    refine hR_st hc (fun call => ?_) g
    show ri_ias pc L (.int v :: .int x :: .ref (k + 1) :: st) (wmk s) 0 0 = _
    simp only [ri_ias, wget_I hk, hn]
    rw [if_neg h1, ← hn, wsetAI hk]
theorem hR_bas {k n : Nat} {x : Int32} {v : Int32} (hc : μ.cd pc = some (.bastore, len, a, b, c)) (hk : wkd k = 21) (hn : wln k = n) (e : wstB s k n x v = some s') (g : hRun d μ (pc + 1) L st (wmk s') r) : hRun d μ pc L (.int v :: .int x :: .ref (k + 1) :: st) (wmk s) r := by
  unfold wstB at e
  rcases gif e with ⟨h1, e⟩ | ⟨h1, e⟩
  · cases e
  · obtain rfl := gi1 e
    refine hR_st hc (fun call => ?_) g
    show ri_bas pc L (.int v :: .int x :: .ref (k + 1) :: st) (wmk s) 0 0 = _
    simp only [ri_bas, wget_B hk, hn]
    rw [if_neg h1, ← hn, wsetAB hk]
theorem hR_zas {k n : Nat} {x : Int32} {v : Int32} (hc : μ.cd pc = some (.bastore, len, a, b, c)) (hk : wkd k = 22) (hn : wln k = n) (e : wstZ s k n x v = some s') (g : hRun d μ (pc + 1) L st (wmk s') r) : hRun d μ pc L (.int v :: .int x :: .ref (k + 1) :: st) (wmk s) r := by
  unfold wstZ at e
  rcases gif e with ⟨h1, e⟩ | ⟨h1, e⟩
  · cases e
  · obtain rfl := gi1 e
    refine hR_st hc (fun call => ?_) g
    show ri_bas pc L (.int v :: .int x :: .ref (k + 1) :: st) (wmk s) 0 0 = _
    simp only [ri_bas, wget_Z hk, hn]
    rw [if_neg h1, ← hn, wsetAZ hk]
theorem hR_las {k n : Nat} {x : Int32} {v : Int64} (hc : μ.cd pc = some (.lastore, len, a, b, c)) (hk : wkd k = 23) (hn : wln k = n) (e : wstL s k n x v = some s') (g : hRun d μ (pc + 1) L st (wmk s') r) : hRun d μ pc L (.long v :: .int x :: .ref (k + 1) :: st) (wmk s) r := by
  unfold wstL at e
  rcases gif e with ⟨h1, e⟩ | ⟨h1, e⟩
  · cases e
  · obtain rfl := gi1 e
    refine hR_st hc (fun call => ?_) g
    show ri_las pc L (.long v :: .int x :: .ref (k + 1) :: st) (wmk s) 0 0 = _
    simp only [ri_las, wget_J hk, hn]
    rw [if_neg h1, ← hn, wsetAJ hk]
theorem hR_aal {k n k' : Nat} {x : Int32} (hc : μ.cd pc = some (.aaload, len, a, b, c)) (hk : (Nat.beq (wkd k) 24 || Nat.beq (wkd k) 25) = true) (hn : wln k = n) (e : wldR k n x = some k') (g : hRun d μ (pc + 1) L (.ref (k' + 1) :: st) (wmk s) r) : hRun d μ pc L (.int x :: .ref (k + 1) :: st) (wmk s) r := by
  obtain ⟨h1, h2⟩ := wldR_e e
  have hk' : wkd k = 24 ∨ wkd k = 25 := by
    rcases gor hk with h | h
    · exact .inl (Nat.eq_of_beq_eq_true h)
    · exact .inr (Nat.eq_of_beq_eq_true h)
  refine hR_st hc (fun call => ?_) g
  show ri_aal pc L (.int x :: .ref (k + 1) :: st) (wmk s) 0 0 = _
  have hC : ∃ C, wCl k = .object C := by
    unfold wCl
    cases Nat.beq k 13
    · exact ⟨_, rfl⟩
    · exact ⟨_, rfl⟩
  obtain ⟨C, hC⟩ := hC
  simp only [ri_aal, wget_A hk', hC, hn]
  rw [if_neg h1]
  cases e3 : wrA k x.toNatClampNeg with
  | none => rw [e3] at h2; cases h2
  | some q =>
    rw [e3] at h2
    obtain ⟨z, rfl⟩ := wrA_p e3
    have : z = k' := gi1 h2
    subst this
    rfl
theorem hR_aln {k n : Nat} {w : Int32} (hc : μ.cd pc = some (.arraylength, len, a, b, c)) (hk : (Nat.ble 20 (wkd k) && Nat.ble (wkd k) 25) = true) (hn : wln k = n) (hw : Int32.ofNat n = w) (g : hRun d μ (pc + 1) L (.int w :: st) (wmk s) r) : hRun d μ pc L (.ref (k + 1) :: st) (wmk s) r := by
  subst hw
  have h2 : 20 ≤ wkd k ∧ wkd k ≤ 25 := by
    have := gand hk
    exact ⟨Nat.le_of_ble_eq_true this.1, Nat.le_of_ble_eq_true this.2⟩
  have hx : ∃ ty z, (wmk s)[k]? = some (.inl (ty, (n, z))) := by
    have h3 : wkd k = 20 ∨ wkd k = 21 ∨ wkd k = 22 ∨ wkd k = 23 ∨ (wkd k = 24 ∨ wkd k = 25) := by omega
    rcases h3 with h | h | h | h | h
    · exact ⟨_, _, by rw [wget_I h, hn]⟩
    · exact ⟨_, _, by rw [wget_B h, hn]⟩
    · exact ⟨_, _, by rw [wget_Z h, hn]⟩
    · exact ⟨_, _, by rw [wget_J h, hn]⟩
    · exact ⟨_, _, by rw [wget_A h, hn]⟩
  obtain ⟨ty, z, hx⟩ := hx
  refine hR_st hc (fun call => ?_) g
  show ri_aln μ.X pc L (.ref (k + 1) :: st) (wmk s) 0 0 = _
  simp only [ri_aln, hx]
theorem hR_acp {i k k1 n n1 : Nat} {sp dp q : Int32} (hc : μ.cd pc = some (.invokestatic i, len, a, b, c)) (h10 : Nat.beq (c % 16) 10 = true) (hk : wkd k = 20) (hn : wln k = n) (hk1 : wkd k1 = 20) (hn1 : wln k1 = n1) (e : wcpI s k n k1 n1 sp dp q = some s') (hcat : Nat.ble (ri_cat st) 8 = true) (g : hRun d μ (pc + 3) L st (wmk s') r) : hRun d μ pc L (.int q :: .int dp :: .ref (k1 + 1) :: .int sp :: .ref (k + 1) :: st) (wmk s) r := by
  unfold wcpI at e
  rcases gif e with ⟨h1, e⟩ | ⟨h1, e⟩
  · obtain rfl := gi1 e
    refine hR_st hc (fun call => ?_) g
    have h10' : c % 16 = 10 := Nat.eq_of_beq_eq_true h10
    show (match c % 16 with
      | 0 => ri_cls call a b pc L _ (wmk s) 0 0
      | 1 => ri_cls call a b pc L _ (wmk s) 0 0
      | 7 => _
      | 8 => _
      | 9 => _
      | 10 => ri_acp pc L (.int q :: .int dp :: .ref (k1 + 1) :: .int sp :: .ref (k + 1) :: st) (wmk s) 0 0
      | _ => _) = _
    rw [h10']
    show ri_acp pc L (.int q :: .int dp :: .ref (k1 + 1) :: .int sp :: .ref (k + 1) :: st) (wmk s) 0 0 = _
    simp only [ri_acp, wget_I hk, wget_I hk1, hn, hn1]
    rw [if_pos ⟨h1, Nat.le_of_ble_eq_true hcat⟩]
    rw [← hn1]
    have e2 : (wmk s).set k1 (.inl (.int, (wln k1, .inl (va_cpy (s.1 k) (s.1 k1) sp.toNatClampNeg dp.toNatClampNeg q.toNatClampNeg)))) = wmk (fun j => if j = k1 then va_cpy (s.1 k) (s.1 k1) sp.toNatClampNeg dp.toNatClampNeg q.toNatClampNeg else s.1 j, s.2) := wset (by simp [wcell, hk1]) (fun j hj => by simp [hj]) (fun _ _ => rfl)
    rw [e2]
  · cases e
theorem hR_dvI {x y v : Int32} (hc : μ.cd pc = some (.idiv, len, a, b, c)) (e : wdvI x y = some v) (g : hRun d μ (pc + 1) L (.int v :: st) M r) : hRun d μ pc L (.int y :: .int x :: st) M r := by
  unfold wdvI at e
  rcases gif e with ⟨h1, e⟩ | ⟨h1, e⟩
  · cases e
  · obtain rfl := gi1 e
    refine hR_st hc (fun call => ?_) g
    show (if y = 0 then none else _) = _
    rw [if_neg h1]
theorem hR_dvIc {x y : Int32} (hc : μ.cd pc = some (.idiv, len, a, b, c)) (h1 : ¬ y = 0) (g : hRun d μ (pc + 1) L (.int (x / y) :: st) M r) : hRun d μ pc L (.int y :: .int x :: st) M r := hR_dvI hc (by unfold wdvI; rw [if_neg h1]) g
theorem hR_rmI {x y v : Int32} (hc : μ.cd pc = some (.irem, len, a, b, c)) (e : wrmI x y = some v) (g : hRun d μ (pc + 1) L (.int v :: st) M r) : hRun d μ pc L (.int y :: .int x :: st) M r := by
  unfold wrmI at e
  rcases gif e with ⟨h1, e⟩ | ⟨h1, e⟩
  · cases e
  · obtain rfl := gi1 e
    refine hR_st hc (fun call => ?_) g
    show (if y = 0 then none else _) = _
    rw [if_neg h1]
theorem hR_rmIc {x y : Int32} (hc : μ.cd pc = some (.irem, len, a, b, c)) (h1 : ¬ y = 0) (g : hRun d μ (pc + 1) L (.int (x - x / y * y) :: st) M r) : hRun d μ pc L (.int y :: .int x :: st) M r := hR_rmI hc (by unfold wrmI; rw [if_neg h1]) g
theorem hR_dvL {x y v : Int64} (hc : μ.cd pc = some (.ldiv, len, a, b, c)) (e : wdvL x y = some v) (g : hRun d μ (pc + 1) L (.long v :: st) M r) : hRun d μ pc L (.long y :: .long x :: st) M r := by
  unfold wdvL at e
  rcases gif e with ⟨h1, e⟩ | ⟨h1, e⟩
  · cases e
  · obtain rfl := gi1 e
    refine hR_st hc (fun call => ?_) g
    show (if y = 0 then none else _) = _
    rw [if_neg h1]
theorem hR_dvLc {x y : Int64} (hc : μ.cd pc = some (.ldiv, len, a, b, c)) (h1 : ¬ y = 0) (g : hRun d μ (pc + 1) L (.long (x / y) :: st) M r) : hRun d μ pc L (.long y :: .long x :: st) M r := hR_dvL hc (by unfold wdvL; rw [if_neg h1]) g
theorem hR_rmL {x y v : Int64} (hc : μ.cd pc = some (.lrem, len, a, b, c)) (e : wrmL x y = some v) (g : hRun d μ (pc + 1) L (.long v :: st) M r) : hRun d μ pc L (.long y :: .long x :: st) M r := by
  unfold wrmL at e
  rcases gif e with ⟨h1, e⟩ | ⟨h1, e⟩
  · cases e
  · obtain rfl := gi1 e
    refine hR_st hc (fun call => ?_) g
    show (if y = 0 then none else _) = _
    rw [if_neg h1]
theorem hR_rmLc {x y : Int64} (hc : μ.cd pc = some (.lrem, len, a, b, c)) (h1 : ¬ y = 0) (g : hRun d μ (pc + 1) L (.long (x - x / y * y) :: st) M r) : hRun d μ pc L (.long y :: .long x :: st) M r := hR_rmL hc (by unfold wrmL; rw [if_neg h1]) g
theorem hR_min {i : Nat} {x y : Int32} (hc : μ.cd pc = some (.invokestatic i, len, a, b, c)) (h10 : Nat.beq (c % 16) 7 = true) (hcat : Nat.ble (ri_cat st) 8 = true) (g : hRun d μ (pc + 3) L (.int (wmin x y) :: st) M r) : hRun d μ pc L (.int y :: .int x :: st) M r := by
  refine hR_st hc (fun call => ?_) g
  have h10' : c % 16 = 7 := Nat.eq_of_beq_eq_true h10
  simp only [ri_step, h10', ri_mm, if_pos (Nat.le_of_ble_eq_true hcat)]
  rfl
theorem hR_max {i : Nat} {x y : Int32} (hc : μ.cd pc = some (.invokestatic i, len, a, b, c)) (h10 : Nat.beq (c % 16) 8 = true) (hcat : Nat.ble (ri_cat st) 8 = true) (g : hRun d μ (pc + 3) L (.int (wmax x y) :: st) M r) : hRun d μ pc L (.int y :: .int x :: st) M r := by
  refine hR_st hc (fun call => ?_) g
  have h10' : c % 16 = 8 := Nat.eq_of_beq_eq_true h10
  simp only [ri_step, h10', ri_mm, if_pos (Nat.le_of_ble_eq_true hcat)]
  rfl
theorem hR_abs {i : Nat} {x : Int32} (hc : μ.cd pc = some (.invokestatic i, len, a, b, c)) (h10 : Nat.beq (c % 16) 9 = true) (hcat : Nat.ble (ri_cat st) 8 = true) (g : hRun d μ (pc + 3) L (.int (wabs x) :: st) M r) : hRun d μ pc L (.int x :: st) M r := by
  refine hR_st hc (fun call => ?_) g
  have h10' : c % 16 = 9 := Nat.eq_of_beq_eq_true h10
  simp only [ri_step, h10', ri_ma, if_pos (Nat.le_of_ble_eq_true hcat)]
  rfl
theorem hR_sw_k {lo hi dd : Int} {offs : Array Int} {x kk : Int32} {t : Nat} (hc : μ.cd pc = some (.tableswitch dd lo hi offs, len, a, b, c)) (h : x = kk) (ho : (if kk.toInt < lo ∨ hi < kk.toInt then none else offs[(kk.toInt - lo).toNat]?) = some off) (ht : (pc : Int) + off = Int.ofNat t) (g : hRun d μ t L st M r) : hRun d μ pc L (.int x :: st) M r := by
  subst h
  refine hR_st hc (fun call => ?_) g
  show ri_tsw dd lo hi offs pc L (.int x :: st) M 0 0 = _
  rcases gif ho with ⟨h1, ho⟩ | ⟨h1, ho⟩
  · cases ho
  · simp only [ri_tsw]
    rw [if_neg h1, ho]
    exact ri_jmp_ok ht
theorem hR_sw_d (cs : List Int32) {lo hi dd : Int} {offs : Array Int} {x : Int32} {t : Nat} (hc : μ.cd pc = some (.tableswitch dd lo hi offs, len, a, b, c)) (hx : ∀ n ∈ cs, ¬ x = n) (hall : (List.range offs.size).all (fun i => decide (offs[i]? = some dd) || cs.any (fun n => decide (n.toInt = lo + (i : Int)))) = true) (hsz : (offs.size : Int) = hi - lo + 1) (ht : (pc : Int) + dd = Int.ofNat t) (g : hRun d μ t L st M r) : hRun d μ pc L (.int x :: st) M r := by
  refine hR_st hc (fun call => ?_) g
  show ri_tsw dd lo hi offs pc L (.int x :: st) M 0 0 = _
  simp only [ri_tsw]
  by_cases h1 : x.toInt < lo ∨ hi < x.toInt
  · rw [if_pos h1]
    exact ri_jmp_ok ht
  · rw [if_neg h1]
    have h2 : (x.toInt - lo).toNat < offs.size := by omega
    have h3 := List.all_eq_true.1 hall (x.toInt - lo).toNat (List.mem_range.2 h2)
    rcases gor h3 with h4 | h4
    · rw [of_decide_eq_true h4]
      exact ri_jmp_ok ht
    · exfalso
      obtain ⟨n, hn, he⟩ := List.any_eq_true.1 h4
      have he := of_decide_eq_true he
      exact hx n hn (Int32.toInt_inj.1 (by omega))
theorem hR_ls_k {dd : Int} {ps : Array (Int × Int)} {x kk : Int32} {t : Nat} (hc : μ.cd pc = some (.lookupswitch dd ps, len, a, b, c)) (h : x = kk) (ho : (if (ps.toList.zip (ps.toList.drop 1)).all (fun (a, next) => a.1 < next.1) = true then some (Op.lookupswitch.offset ps.toList dd kk.toInt) else none) = some off) (ht : (pc : Int) + off = Int.ofNat t) (g : hRun d μ t L st M r) : hRun d μ pc L (.int x :: st) M r := by
  subst h
  refine hR_st hc (fun call => ?_) g
  show ri_lsw dd ps pc L (.int x :: st) M 0 0 = _
  rcases gif ho with ⟨h1, ho⟩ | ⟨h1, ho⟩
  · simp only [ri_lsw]
    rw [if_pos h1, gi1 ho]
    exact ri_jmp_ok ht
  · cases ho
theorem hR_ls_d (cs : List Int32) {dd : Int} {ps : Array (Int × Int)} {x : Int32} {t : Nat} (hc : μ.cd pc = some (.lookupswitch dd ps, len, a, b, c)) (hx : ∀ n ∈ cs, ¬ x = n) (hall : ps.toList.all (fun p => cs.any (fun n => decide (n.toInt = p.1))) = true) (hs : (ps.toList.zip (ps.toList.drop 1)).all (fun (a, next) => a.1 < next.1) = true) (ht : (pc : Int) + dd = Int.ofNat t) (g : hRun d μ t L st M r) : hRun d μ pc L (.int x :: st) M r := by
  refine hR_st hc (fun call => ?_) g
  show ri_lsw dd ps pc L (.int x :: st) M 0 0 = _
  simp only [ri_lsw]
  rw [if_pos hs, gls hx _ hall]
  exact ri_jmp_ok ht
theorem hR_ri {x : Int32} (hc : μ.cd pc = some (.ireturn, len, a, b, c)) (hr : μ.rt = some .int) : hRun d μ pc L [.int x] M (some (.int x), M) := hR_rs hc (fun call => by
  show ri_ret (μ.rt) [.int x] M 0 0 = _
  rw [hr]
  rfl) rfl
theorem hR_rz {x v : Int32} (hc : μ.cd pc = some (.ireturn, len, a, b, c)) (hr : μ.rt = some .boolean) (e : wrtZ x = some v) : hRun d μ pc L [.int x] M (some (.int v), M) := hR_rs hc (fun call => by
  show ri_ret (μ.rt) [.int x] M 0 0 = _
  rw [hr]
  unfold wrtZ at e
  rcases gif e with ⟨h1, e⟩ | ⟨h1, e⟩
  · obtain rfl := gi1 e
    have : ri_fit .boolean (.int x) = true := by simpa [ri_fit] using h1
    simp only [ri_ret]
    rw [if_pos this]
  · cases e) rfl
theorem hR_rzc {x : Int32} (hc : μ.cd pc = some (.ireturn, len, a, b, c)) (hr : μ.rt = some .boolean) (e : ri_fit .boolean (.int x) = true) : hRun d μ pc L [.int x] M (some (.int x), M) := hR_rs hc (fun call => by
  show ri_ret (μ.rt) [.int x] M 0 0 = _
  rw [hr]
  simp only [ri_ret]
  rw [if_pos e]) rfl
theorem hR_rl {x : Int64} (hc : μ.cd pc = some (.lreturn, len, a, b, c)) (hr : μ.rt = some .long) : hRun d μ pc L [.long x] M (some (.long x), M) := hR_rs hc (fun call => by
  show ri_lret (μ.rt) [.long x] M 0 0 = _
  rw [hr]
  rfl) rfl
theorem hR_ra {o : Option Nat} {C : String} (hc : μ.cd pc = some (.areturn, len, a, b, c)) (hr : μ.rt = some (.object C)) : hRun d μ pc L [wrv o] M (some (wrv o), M) := hR_rs hc (fun call => by
  show ri_aret (μ.rt) [wrv o] M 0 0 = _
  rw [hr]
  cases o <;> rfl) rfl
theorem hR_rv (hc : μ.cd pc = some (.return_, len, a, b, c)) (hr : μ.rt = none) : hRun d μ pc L [] M (none, M) := hR_rs hc (fun call => by
  show ri_vret (μ.rt) [] M 0 0 = _
  rw [hr]
  rfl) rfl
theorem hR_cvI {i k : Nat} {v : Int32} (he : gEv d1 a (.ref (k + 1) :: as) (wmk s) (some (.int v), M1, 0, 0)) (hd : d1 ≤ d) (hc : μ.cd pc = some (.invokevirtual i, len, a, b, c)) (hs : ri_spl b [] st = some (as, .ref (k + 1) :: rr)) (hk : wkd k = ri_rc a) (hr : Nat.blt (ri_rc a) 12 = true) (hcat : Nat.ble (ri_cat rr) 8 = true) (g : hRun d μ (pc + 3) L (.int v :: rr) M1 r) : hRun d μ pc L st (wmk s) r := by
  refine hR_ca he hd hc (fun call hcall => ?_) g
  show ri_clv call ri_rc a b pc L st (wmk s) 0 0 = _
  have hr' : ri_rc a < 12 := by simpa [Nat.blt_eq] using hr
  simp only [ri_clv, hs, wget_o hk hr']
  rw [if_pos ⟨trivial, Nat.le_of_ble_eq_true hcat⟩, hcall]
  rfl
theorem hR_cnI {i k : Nat} {v : Int32} (he : gEv d1 a (.ref k :: as) M (some (.int v), M1, 0, 0)) (hd : d1 ≤ d) (hc : μ.cd pc = some (.invokespecial i, len, a, b, c)) (hs : ri_spl b [] st = some (as, .ref k :: rr)) (h6 : Nat.beq (c % 16) 6 = false) (hcat : Nat.ble (ri_cat rr) 8 = true) (g : hRun d μ (pc + 3) L (.int v :: rr) M1 r) : hRun d μ pc L st M r := by
  refine hR_ca he hd hc (fun call hcall => ?_) g
  show (if c % 16 = 6 then ri_oin pc L st M 0 0 else ri_cin call a b pc L st M 0 0) = _
  rw [if_neg (fun e => by rw [e] at h6; cases h6)]
  simp only [ri_cin, hs]
  rw [if_pos (Nat.le_of_ble_eq_true hcat), hcall]
  rfl
theorem hR_csI {i : Nat} {v : Int32} (he : gEv d1 a as M (some (.int v), M1, 0, 0)) (hd : d1 ≤ d) (hc : μ.cd pc = some (.invokestatic i, len, a, b, c)) (hs : ri_spl b [] st = some (as, rr)) (h01 : Nat.blt (c % 16) 2 = true) (hcat : Nat.ble (ri_cat rr) 8 = true) (g : hRun d μ (pc + 3) L (.int v :: rr) M1 r) : hRun d μ pc L st M r := by
  refine hR_ca he hd hc (fun call hcall => ?_) g
  have h01' : c % 16 = 0 ∨ c % 16 = 1 := by
    have : c % 16 < 2 := by simpa [Nat.blt_eq] using h01
    omega
  have : ri_cls call a b pc L st M 0 0 = some (.inl (pc + 3, L, .int v :: rr, M1, 0, 0)) := by
    simp only [ri_cls, hs]
    rw [if_pos (Nat.le_of_ble_eq_true hcat), hcall]
    rfl
  rcases h01' with e | e <;> simp only [ri_step, e, this]
theorem hR_cvL {i k : Nat} {v : Int64} (he : gEv d1 a (.ref (k + 1) :: as) (wmk s) (some (.long v), M1, 0, 0)) (hd : d1 ≤ d) (hc : μ.cd pc = some (.invokevirtual i, len, a, b, c)) (hs : ri_spl b [] st = some (as, .ref (k + 1) :: rr)) (hk : wkd k = ri_rc a) (hr : Nat.blt (ri_rc a) 12 = true) (hcat : Nat.ble (ri_cat rr) 8 = true) (g : hRun d μ (pc + 3) L (.long v :: rr) M1 r) : hRun d μ pc L st (wmk s) r := by
  refine hR_ca he hd hc (fun call hcall => ?_) g
  show ri_clv call ri_rc a b pc L st (wmk s) 0 0 = _
  have hr' : ri_rc a < 12 := by simpa [Nat.blt_eq] using hr
  simp only [ri_clv, hs, wget_o hk hr']
  rw [if_pos ⟨trivial, Nat.le_of_ble_eq_true hcat⟩, hcall]
  rfl
theorem hR_cnL {i k : Nat} {v : Int64} (he : gEv d1 a (.ref k :: as) M (some (.long v), M1, 0, 0)) (hd : d1 ≤ d) (hc : μ.cd pc = some (.invokespecial i, len, a, b, c)) (hs : ri_spl b [] st = some (as, .ref k :: rr)) (h6 : Nat.beq (c % 16) 6 = false) (hcat : Nat.ble (ri_cat rr) 8 = true) (g : hRun d μ (pc + 3) L (.long v :: rr) M1 r) : hRun d μ pc L st M r := by
  refine hR_ca he hd hc (fun call hcall => ?_) g
  show (if c % 16 = 6 then ri_oin pc L st M 0 0 else ri_cin call a b pc L st M 0 0) = _
  rw [if_neg (fun e => by rw [e] at h6; cases h6)]
  simp only [ri_cin, hs]
  rw [if_pos (Nat.le_of_ble_eq_true hcat), hcall]
  rfl
theorem hR_csL {i : Nat} {v : Int64} (he : gEv d1 a as M (some (.long v), M1, 0, 0)) (hd : d1 ≤ d) (hc : μ.cd pc = some (.invokestatic i, len, a, b, c)) (hs : ri_spl b [] st = some (as, rr)) (h01 : Nat.blt (c % 16) 2 = true) (hcat : Nat.ble (ri_cat rr) 8 = true) (g : hRun d μ (pc + 3) L (.long v :: rr) M1 r) : hRun d μ pc L st M r := by
  refine hR_ca he hd hc (fun call hcall => ?_) g
  have h01' : c % 16 = 0 ∨ c % 16 = 1 := by
    have : c % 16 < 2 := by simpa [Nat.blt_eq] using h01
    omega
  have : ri_cls call a b pc L st M 0 0 = some (.inl (pc + 3, L, .long v :: rr, M1, 0, 0)) := by
    simp only [ri_cls, hs]
    rw [if_pos (Nat.le_of_ble_eq_true hcat), hcall]
    rfl
  rcases h01' with e | e <;> simp only [ri_step, e, this]
theorem hR_cvR {i k : Nat} {v : Option Nat} (he : gEv d1 a (.ref (k + 1) :: as) (wmk s) (some (wrv v), M1, 0, 0)) (hd : d1 ≤ d) (hc : μ.cd pc = some (.invokevirtual i, len, a, b, c)) (hs : ri_spl b [] st = some (as, .ref (k + 1) :: rr)) (hk : wkd k = ri_rc a) (hr : Nat.blt (ri_rc a) 12 = true) (hcat : Nat.ble (ri_cat rr) 8 = true) (g : hRun d μ (pc + 3) L (wrv v :: rr) M1 r) : hRun d μ pc L st (wmk s) r := by
  refine hR_ca he hd hc (fun call hcall => ?_) g
  show ri_clv call ri_rc a b pc L st (wmk s) 0 0 = _
  have hr' : ri_rc a < 12 := by simpa [Nat.blt_eq] using hr
  simp only [ri_clv, hs, wget_o hk hr']
  rw [if_pos ⟨trivial, Nat.le_of_ble_eq_true hcat⟩, hcall]
  rfl
theorem hR_cnR {i k : Nat} {v : Option Nat} (he : gEv d1 a (.ref k :: as) M (some (wrv v), M1, 0, 0)) (hd : d1 ≤ d) (hc : μ.cd pc = some (.invokespecial i, len, a, b, c)) (hs : ri_spl b [] st = some (as, .ref k :: rr)) (h6 : Nat.beq (c % 16) 6 = false) (hcat : Nat.ble (ri_cat rr) 8 = true) (g : hRun d μ (pc + 3) L (wrv v :: rr) M1 r) : hRun d μ pc L st M r := by
  refine hR_ca he hd hc (fun call hcall => ?_) g
  show (if c % 16 = 6 then ri_oin pc L st M 0 0 else ri_cin call a b pc L st M 0 0) = _
  rw [if_neg (fun e => by rw [e] at h6; cases h6)]
  simp only [ri_cin, hs]
  rw [if_pos (Nat.le_of_ble_eq_true hcat), hcall]
  rfl
theorem hR_csR {i : Nat} {v : Option Nat} (he : gEv d1 a as M (some (wrv v), M1, 0, 0)) (hd : d1 ≤ d) (hc : μ.cd pc = some (.invokestatic i, len, a, b, c)) (hs : ri_spl b [] st = some (as, rr)) (h01 : Nat.blt (c % 16) 2 = true) (hcat : Nat.ble (ri_cat rr) 8 = true) (g : hRun d μ (pc + 3) L (wrv v :: rr) M1 r) : hRun d μ pc L st M r := by
  refine hR_ca he hd hc (fun call hcall => ?_) g
  have h01' : c % 16 = 0 ∨ c % 16 = 1 := by
    have : c % 16 < 2 := by simpa [Nat.blt_eq] using h01
    omega
  have : ri_cls call a b pc L st M 0 0 = some (.inl (pc + 3, L, wrv v :: rr, M1, 0, 0)) := by
    simp only [ri_cls, hs]
    rw [if_pos (Nat.le_of_ble_eq_true hcat), hcall]
    rfl
  rcases h01' with e | e <;> simp only [ri_step, e, this]
theorem hR_cvV {i k : Nat}  (he : gEv d1 a (.ref (k + 1) :: as) (wmk s) (none, M1, 0, 0)) (hd : d1 ≤ d) (hc : μ.cd pc = some (.invokevirtual i, len, a, b, c)) (hs : ri_spl b [] st = some (as, .ref (k + 1) :: rr)) (hk : wkd k = ri_rc a) (hr : Nat.blt (ri_rc a) 12 = true) (hcat : Nat.ble (ri_cat rr) 8 = true) (g : hRun d μ (pc + 3) L (rr) M1 r) : hRun d μ pc L st (wmk s) r := by
  refine hR_ca he hd hc (fun call hcall => ?_) g
  show ri_clv call ri_rc a b pc L st (wmk s) 0 0 = _
  have hr' : ri_rc a < 12 := by simpa [Nat.blt_eq] using hr
  simp only [ri_clv, hs, wget_o hk hr']
  rw [if_pos ⟨trivial, Nat.le_of_ble_eq_true hcat⟩, hcall]
  rfl
theorem hR_cnV {i k : Nat}  (he : gEv d1 a (.ref k :: as) M (none, M1, 0, 0)) (hd : d1 ≤ d) (hc : μ.cd pc = some (.invokespecial i, len, a, b, c)) (hs : ri_spl b [] st = some (as, .ref k :: rr)) (h6 : Nat.beq (c % 16) 6 = false) (hcat : Nat.ble (ri_cat rr) 8 = true) (g : hRun d μ (pc + 3) L (rr) M1 r) : hRun d μ pc L st M r := by
  refine hR_ca he hd hc (fun call hcall => ?_) g
  show (if c % 16 = 6 then ri_oin pc L st M 0 0 else ri_cin call a b pc L st M 0 0) = _
  rw [if_neg (fun e => by rw [e] at h6; cases h6)]
  simp only [ri_cin, hs]
  rw [if_pos (Nat.le_of_ble_eq_true hcat), hcall]
  rfl
theorem hR_csV {i : Nat}  (he : gEv d1 a as M (none, M1, 0, 0)) (hd : d1 ≤ d) (hc : μ.cd pc = some (.invokestatic i, len, a, b, c)) (hs : ri_spl b [] st = some (as, rr)) (h01 : Nat.blt (c % 16) 2 = true) (hcat : Nat.ble (ri_cat rr) 8 = true) (g : hRun d μ (pc + 3) L (rr) M1 r) : hRun d μ pc L st M r := by
  refine hR_ca he hd hc (fun call hcall => ?_) g
  have h01' : c % 16 = 0 ∨ c % 16 = 1 := by
    have : c % 16 < 2 := by simpa [Nat.blt_eq] using h01
    omega
  have : ri_cls call a b pc L st M 0 0 = some (.inl (pc + 3, L, rr, M1, 0, 0)) := by
    simp only [ri_cls, hs]
    rw [if_pos (Nat.le_of_ble_eq_true hcat), hcall]
    rfl
  rcases h01' with e | e <;> simp only [ri_step, e, this]
theorem hR_sub {x y : Int32} (hc : μ.cd pc = some (.isub, len, a, b, c)) (g : hRun d μ (pc + 1) L (.int (x - y) :: st) M r) : hRun d μ pc L (.int y :: .int x :: st) M r := hR_st hc (fun call => rfl) g
end HRR
