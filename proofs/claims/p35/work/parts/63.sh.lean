/-! A step, whatever was made before. -/
noncomputable def ri_shf (cc sc : Nat) : ri_F ⊕ ri_R → ri_F ⊕ ri_R
  | .inl (pc, L, st, M, c, s) => .inl (pc, L, st, M, cc + c, sc + s)
  | .inr (v, M, c, s) => .inr (v, M, cc + c, sc + s)
theorem ri_jmp_sh {off : Int} {pc : Nat} {L : ri_L} {st : List Value} {M : ri_M} (cc sc : Nat) : ri_jmp off pc L st M cc sc = (ri_jmp off pc L st M 0 0).map (ri_shf cc sc) := by
  unfold ri_jmp
  split <;> rfl
theorem ri_ic_sh {k : ClassFile.Cond} {off : Int} {pc : Nat} {L : ri_L} {st : List Value} {M : ri_M} (cc sc : Nat) : ri_ic k off pc L st M cc sc = (ri_ic k off pc L st M 0 0).map (ri_shf cc sc) := by
  unfold ri_ic
  split
  · cases k <;> dsimp only <;> split <;> first | rfl | exact ri_jmp_sh cc sc
  · rfl
theorem ri_iz_sh {k : ClassFile.Cond} {off : Int} {pc : Nat} {L : ri_L} {st : List Value} {M : ri_M} (cc sc : Nat) : ri_iz k off pc L st M cc sc = (ri_iz k off pc L st M 0 0).map (ri_shf cc sc) := by
  unfold ri_iz
  split
  · cases k <;> dsimp only <;> split <;> first | rfl | exact ri_jmp_sh cc sc
  · rfl
theorem ri_mm_sh {f : Int32 → Int32 → Int32} {pc : Nat} {L : ri_L} {st : List Value} {M : ri_M} (cc sc : Nat) : ri_mm f pc L st M cc sc = (ri_mm f pc L st M 0 0).map (ri_shf cc sc) := by
  unfold ri_mm
  split
  · split <;> rfl
  · rfl
theorem ri_ma_sh {pc : Nat} {L : ri_L} {st : List Value} {M : ri_M} (cc sc : Nat) : ri_ma pc L st M cc sc = (ri_ma pc L st M 0 0).map (ri_shf cc sc) := by
  unfold ri_ma
  split
  · split <;> rfl
  · rfl
theorem ri_acp_sh {pc : Nat} {L : ri_L} {st : List Value} {M : ri_M} (cc sc : Nat) : ri_acp pc L st M cc sc = (ri_acp pc L st M 0 0).map (ri_shf cc sc) := by
  unfold ri_acp
  split
  · split
    · split <;> rfl
    · rfl
  · rfl
theorem ri_cls_sh {call : ri_Ca} {a n : Nat} {pc : Nat} {L : ri_L} {st : List Value} {M : ri_M} (cc sc : Nat) : ri_cls call a n pc L st M cc sc = (ri_cls call a n pc L st M 0 0).map (ri_shf cc sc) := by
  unfold ri_cls
  split
  · split
    · split
      · split
        · simp [ri_shf]
        · rfl
      · rfl
    · rfl
  · rfl
theorem ri_tsw_sh {d lo hi : Int} {offs : Array Int} {pc : Nat} {L : ri_L} {st : List Value} {M : ri_M} (cc sc : Nat) : ri_tsw d lo hi offs pc L st M cc sc = (ri_tsw d lo hi offs pc L st M 0 0).map (ri_shf cc sc) := by
  unfold ri_tsw
  split
  · split
    · exact ri_jmp_sh cc sc
    · split
      · exact ri_jmp_sh cc sc
      · rfl
  · rfl
theorem ri_lsw_sh {d : Int} {ps : Array (Int × Int)} {pc : Nat} {L : ri_L} {st : List Value} {M : ri_M} (cc sc : Nat) : ri_lsw d ps pc L st M cc sc = (ri_lsw d ps pc L st M 0 0).map (ri_shf cc sc) := by
  unfold ri_lsw
  split
  · split
    · exact ri_jmp_sh cc sc
    · rfl
  · rfl
theorem ri_map_eq2 {x y : ri_O} {fr : ri_F} {cc sc : Nat} (e : x = y.map (ri_shf cc sc)) (h : y = some (.inl fr)) : x = some (ri_shf cc sc (.inl fr)) := by
  rw [e, h]
  rfl
set_option maxHeartbeats 4000000 in
theorem ri_sh {X : ri_X} {call : ri_Ca} {rc : Nat → Nat} {rt : Option FieldType} {j : ri_J} {pc : Nat} {L : ri_L} {st : List Value} {M : ri_M} {fr : ri_F} (cc sc : Nat) (h : ri_step X call rc rt j pc L st M 0 0 = some (.inl fr)) : ri_step X call rc rt j pc L st M cc sc = some (ri_shf cc sc (.inl fr)) := by
  obtain ⟨ins, len, a, b, c0⟩ := j
  cases ins
  case if_icmp k off => exact ri_map_eq2 (ri_ic_sh cc sc) h
  case tableswitch d lo hi offs => exact ri_map_eq2 (ri_tsw_sh cc sc) h
  case lookupswitch d ps => exact ri_map_eq2 (ri_lsw_sh cc sc) h
  case ifCond k off => exact ri_map_eq2 (ri_iz_sh cc sc) h
  case invokestatic i =>
    have h2 : (match c0 % 16 with
      | 0 => ri_cls call a b pc L st M 0 0
      | 1 => ri_cls call a b pc L st M 0 0
      | 7 => ri_mm (fun x y => if y < x then y else x) pc L st M 0 0
      | 8 => ri_mm (fun x y => if x < y then y else x) pc L st M 0 0
      | 9 => ri_ma pc L st M 0 0
      | 10 => ri_acp pc L st M 0 0
      | _ => none) = some (.inl fr) := h
    show (match c0 % 16 with
      | 0 => ri_cls call a b pc L st M cc sc
      | 1 => ri_cls call a b pc L st M cc sc
      | 7 => ri_mm (fun x y => if y < x then y else x) pc L st M cc sc
      | 8 => ri_mm (fun x y => if x < y then y else x) pc L st M cc sc
      | 9 => ri_ma pc L st M cc sc
      | 10 => ri_acp pc L st M cc sc
      | _ => none) = _
    split at h2
    · exact ri_map_eq2 (ri_cls_sh cc sc) h2
    · exact ri_map_eq2 (ri_cls_sh cc sc) h2
    · exact ri_map_eq2 (ri_mm_sh cc sc) h2
    · exact ri_map_eq2 (ri_mm_sh cc sc) h2
    · exact ri_map_eq2 (ri_ma_sh cc sc) h2
    · exact ri_map_eq2 (ri_acp_sh cc sc) h2
    · cases h2
  all_goals simp only [ri_step, ri_psh, ri_ild, ri_lld, ri_ald, ri_ist, ri_lst, ri_ast, ri_inc, ri_i2, ri_d2, ri_l2, ri_e2, ri_lsh, ri_lcm, ri_i1, ri_il, ri_li, ri_pop, ri_dup, ri_dup2, ri_dupx1, ri_nul, ri_tsw, ri_lsw, ri_gf, ri_pf, ri_ial, ri_bal, ri_lal, ri_aal, ri_ias, ri_bas, ri_las, ri_aas, ri_aln, ri_nwa, ri_nwq, ri_nwo, ri_cls, ri_clv, ri_cin, ri_oin, ri_mm, ri_ma, ri_acp, ri_ret, ri_lret, ri_aret, ri_vret, ri_ic, ri_iz] at h ⊢ <;> (repeat' split at h) <;> first | (cases h; done) | (cases h; simp_all [ri_shf]; done) | (rw [ri_jmp_sh]; simp_all [ri_shf]; done) | (simp_all [ri_shf, ri_jmp_sh cc sc]; done)
