/-! The main row: what ri_step says, the machine does. -/
section RI
variable {p : Program} {l : Launch} {e : Env} {R : Room} {s : State} {m : MethodId} {args : Array Value} {below : List Frame} {meth : Method} {c : Code} {H : Heap} {locs : List Loc} {Q : State → Prop} {bs : ByteArray} {nL : Nat} {own nm : String} {A : Nat → Prop} {D : va_G} {X : ri_X} {dA : Nat → Nat} {dT : Nat → ClassId} {pc : Nat} {L : ri_L} {st : List Value} {M : ri_M} {cc sc : Nat} {ls : Array Slot} {fr : ri_F}
theorem ri_w_mem {i : Nat} {w : Cond} (h : ri_w i w = true) (hu : ri_us w = true := by rfl) : w ∈ ri_tb := by
  unfold ri_w at h
  split at h
  · next v hv =>
    rw [decide_eq_true_eq] at h
    subst h
    exact List.mem_filter.mpr ⟨List.mem_of_getElem? hv, hu⟩
  · cases h
/-- what the tables say, all in one -/
noncomputable def ri_Tab : Prop := (∀ a, a < ri_n → ri_mk a = true) ∧ True ∧ True ∧
  (∀ (ci : Nat) (q : vw_C), vwCl[ci]? = some q → (∀ w ∈ u_ws q.1 q.2.1 q.2.2, w ∈ ri_tb) ∧ Cond.instantiable q.1 q.2.2 ∈ ri_tb ∧ Cond.initialized q.1 ∈ ri_tb ∧ (∀ k, k < q.2.2 → parseFieldDescriptor (q.2.1 k).2.2.1 = some (ri_ft ci k)) ∧ (∀ a, a < q.2.2 → ∀ b, b < q.2.2 → a ≠ b → (q.2.1 a).2.1 ≠ (q.2.1 b).2.1) ∧ ri_fn ci = q.2.2 ∧ ∀ d : Nat → Nat, (ri_new ci).map (ri_cv d) = ri_new ci) ∧
  (Cond.instanceMethod Lib.objectInit ∈ ri_tb ∧ Cond.code Lib.objectInit ⟨#[0xb1]⟩ 1 none ∈ ri_tb) ∧ Cond.initialized "java/lang/Math" ∈ ri_tb ∧
  (Cond.static Lib.Math.min.name ∈ ri_tb ∧ Cond.code Lib.Math.min.name Lib.Math.min.code 2 (some .int) ∈ ri_tb) ∧ (Cond.static Lib.Math.max.name ∈ ri_tb ∧ Cond.code Lib.Math.max.name Lib.Math.max.code 2 (some .int) ∈ ri_tb) ∧ (Cond.static Lib.Math.abs.name ∈ ri_tb ∧ Cond.code Lib.Math.abs.name Lib.Math.abs.code 1 (some .int) ∈ ri_tb) ∧
  (Cond.native arraycopyName ∈ ri_tb ∧ Cond.static arraycopyName ∈ ri_tb ∧ Cond.initialized "java/lang/System" ∈ ri_tb) ∧ ∀ w ∈ ri_ac, w ∈ ri_tb
theorem ri_ck_d {j : ri_J} (h : ri_ck own nm bs pc j = true) : decode bs pc = .ok (j.1, ri_ln j.1 j.2.1) := by
  unfold ri_ck at h
  rw [Bool.and_eq_true, decide_eq_true_eq] at h
  exact h.1
theorem ri_jmp_W {off : Int} {st1 : List Value} (h : ri_jmp off pc L st1 M cc sc = some (.inl fr)) (hAt : ri_At X D A s nL dA dT M L H locs ls) (K : ri_Go p l e R s m args below meth c Q X D A nL dA dT M.length cc fr) : W p l e R s m args below meth c H locs cc sc Q (F0 m ((pc : Int) + off).toNat ls (st1.map (ri_cv dA))) := by
  unfold ri_jmp at h
  split at h
  · next t ht =>
    cases h
    rw [ht]
    exact ri_same K hAt
  · cases h
theorem ri_p_ic {k : ClassFile.Cond} {off : Int} (hx : p.tables.exec = Jvm.exec) (hb : c.code = bs) (h : ri_ic k off pc L st M cc sc = some (.inl fr)) (hAt : ri_At X D A s nL dA dT M L H locs ls) (K : ri_Go p l e R s m args below meth c Q X D A nL dA dT M.length cc fr) (ht : 0 ≤ (pc : Int) + off) (hd : decode bs pc = .ok (.if_icmp k off, 3)) : W p l e R s m args below meth c H locs cc sc Q (F0 m pc ls (st.map (ri_cv dA))) := by
  have ht' : (pc : Int) + off = ((((pc : Int) + off).toNat : Nat) : Int) := (Int.toNat_of_nonneg ht).symm
  unfold ri_ic at h
  split at h
  · next y x r =>
    cases k with
    | eq =>
      dsimp only at h
      by_cases hc : x = y
      · rw [if_pos hc] at h
        exact lv_icmp_eq hx hb hd ht' (fun _ => ri_jmp_W h hAt K) (fun q => absurd hc q)
      · rw [if_neg hc] at h
        cases h
        exact lv_icmp_eq hx hb hd ht' (fun q => absurd q hc) (fun _ => ri_same K hAt)
    | ne =>
      dsimp only at h
      by_cases hc : x = y
      · rw [if_pos hc] at h
        cases h
        exact lv_icmp_ne hx hb hd ht' (fun q => absurd hc q) (fun _ => ri_same K hAt)
      · rw [if_neg hc] at h
        exact lv_icmp_ne hx hb hd ht' (fun _ => ri_jmp_W h hAt K) (fun q => absurd q hc)
    | lt =>
      dsimp only at h
      by_cases hc : x < y
      · rw [if_pos hc] at h
        exact lv_icmp_lt hx hb hd ht' (fun _ => ri_jmp_W h hAt K) (fun q => absurd hc q)
      · rw [if_neg hc] at h
        cases h
        exact lv_icmp_lt hx hb hd ht' (fun q => absurd q hc) (fun _ => ri_same K hAt)
    | ge =>
      dsimp only at h
      by_cases hc : y ≤ x
      · rw [if_pos hc] at h
        exact lv_icmp_ge hx hb hd ht' (fun _ => ri_jmp_W h hAt K) (fun q => absurd hc q)
      · rw [if_neg hc] at h
        cases h
        exact lv_icmp_ge hx hb hd ht' (fun q => absurd q hc) (fun _ => ri_same K hAt)
    | gt =>
      dsimp only at h
      by_cases hc : y < x
      · rw [if_pos hc] at h
        exact lv_icmp_gt hx hb hd ht' (fun _ => ri_jmp_W h hAt K) (fun q => absurd hc q)
      · rw [if_neg hc] at h
        cases h
        exact lv_icmp_gt hx hb hd ht' (fun q => absurd q hc) (fun _ => ri_same K hAt)
    | le =>
      dsimp only at h
      by_cases hc : x ≤ y
      · rw [if_pos hc] at h
        exact lv_icmp_le hx hb hd ht' (fun _ => ri_jmp_W h hAt K) (fun q => absurd hc q)
      · rw [if_neg hc] at h
        cases h
        exact lv_icmp_le hx hb hd ht' (fun q => absurd q hc) (fun _ => ri_same K hAt)
  · cases h
theorem ri_p_iz {k : ClassFile.Cond} {off : Int} (hx : p.tables.exec = Jvm.exec) (hb : c.code = bs) (h : ri_iz k off pc L st M cc sc = some (.inl fr)) (hAt : ri_At X D A s nL dA dT M L H locs ls) (K : ri_Go p l e R s m args below meth c Q X D A nL dA dT M.length cc fr) (ht : 0 ≤ (pc : Int) + off) (hd : decode bs pc = .ok (.ifCond k off, 3)) : W p l e R s m args below meth c H locs cc sc Q (F0 m pc ls (st.map (ri_cv dA))) := by
  have ht' : (pc : Int) + off = ((((pc : Int) + off).toNat : Nat) : Int) := (Int.toNat_of_nonneg ht).symm
  unfold ri_iz at h
  split at h
  · next x r =>
    cases k with
    | eq =>
      dsimp only at h
      by_cases hc : x = 0
      · rw [if_pos hc] at h
        exact lv_if_eq hx hb hd ht' (fun _ => ri_jmp_W h hAt K) (fun q => absurd hc q)
      · rw [if_neg hc] at h
        cases h
        exact lv_if_eq hx hb hd ht' (fun q => absurd q hc) (fun _ => ri_same K hAt)
    | ne =>
      dsimp only at h
      by_cases hc : x = 0
      · rw [if_pos hc] at h
        cases h
        exact lv_if_ne hx hb hd ht' (fun q => absurd hc q) (fun _ => ri_same K hAt)
      · rw [if_neg hc] at h
        exact lv_if_ne hx hb hd ht' (fun _ => ri_jmp_W h hAt K) (fun q => absurd q hc)
    | lt =>
      dsimp only at h
      by_cases hc : x < 0
      · rw [if_pos hc] at h
        exact lv_if_lt hx hb hd ht' (fun _ => ri_jmp_W h hAt K) (fun q => absurd hc q)
      · rw [if_neg hc] at h
        cases h
        exact lv_if_lt hx hb hd ht' (fun q => absurd q hc) (fun _ => ri_same K hAt)
    | ge =>
      dsimp only at h
      by_cases hc : 0 ≤ x
      · rw [if_pos hc] at h
        exact lv_if_ge hx hb hd ht' (fun _ => ri_jmp_W h hAt K) (fun q => absurd hc q)
      · rw [if_neg hc] at h
        cases h
        exact lv_if_ge hx hb hd ht' (fun q => absurd q hc) (fun _ => ri_same K hAt)
    | gt =>
      dsimp only at h
      by_cases hc : 0 < x
      · rw [if_pos hc] at h
        exact lv_if_gt hx hb hd ht' (fun _ => ri_jmp_W h hAt K) (fun q => absurd hc q)
      · rw [if_neg hc] at h
        cases h
        exact lv_if_gt hx hb hd ht' (fun q => absurd q hc) (fun _ => ri_same K hAt)
    | le =>
      dsimp only at h
      by_cases hc : x ≤ 0
      · rw [if_pos hc] at h
        exact lv_if_le hx hb hd ht' (fun _ => ri_jmp_W h hAt K) (fun q => absurd hc q)
      · rw [if_neg hc] at h
        cases h
        exact lv_if_le hx hb hd ht' (fun q => absurd q hc) (fun _ => ri_same K hAt)
  · cases h
theorem ri_goodIn {a : Nat} (TB : ri_Tab) (ha : a < ri_n) (hh : Cond.code (ri_y a) (ri_b a) (ri_ml a) (ri_rt a) ∈ ri_tb) (hac : ∀ w ∈ ri_ac, w ∈ ri_tb) : GoodIn ri_tb (ri_wsy a) := by
  intro w hw
  rcases List.mem_cons.mp hw with rfl | hw
  · exact ⟨hh, Or.inl rfl⟩
  · refine ⟨hac w hw, ?_⟩
    simp only [ri_ac, List.mem_cons, List.not_mem_nil, or_false] at hw
    rcases hw with rfl | rfl | rfl | rfl <;> exact Or.inr ⟨_, rfl⟩
theorem ri_hac (TB : ri_Tab) : ∀ w ∈ ri_ac, w ∈ ri_tb := TB.2.2.2.2.2.2.2.2.2.2
theorem ri_mk_ok {a : Nat} (h : ri_mk a = true) : plainName (ri_y a).cls = true ∧ Cond.code (ri_y a) (ri_b a) (ri_ml a) (ri_rt a) ∈ ri_tb ∧ Cond.initialized (ri_y a).cls ∈ ri_tb ∧ ri_ml a ≤ 381 := by
  unfold ri_mk at h
  simp only [Bool.and_eq_true] at h
  exact ⟨h.1, ri_w_mem h.2.1, ri_w_mem h.2.2.1, Nat.le_of_ble_eq_true h.2.2.2.1⟩
theorem ri_mk_0 {a : Nat} (h : ri_mk a = true) (hk : ri_kd a = 0) : Cond.static (ri_y a) ∈ ri_tb := by
  unfold ri_mk at h
  rw [hk] at h
  simp only [Bool.and_eq_true] at h
  exact ri_w_mem h.2.2.2.2
theorem ri_mk_1 {a : Nat} (h : ri_mk a = true) (hk : ri_kd a = 1) : Cond.instanceMethod (ri_y a) ∈ ri_tb ∧ (ri_y a).name = "<init>" ∧ ri_rt a = none := by
  unfold ri_mk at h
  rw [hk] at h
  simp only [Bool.and_eq_true, decide_eq_true_eq] at h
  exact ⟨ri_w_mem h.2.2.2.2.1, h.2.2.2.2.2.1, h.2.2.2.2.2.2⟩
theorem ri_mk_2 {a : Nat} (h : ri_mk a = true) (hk : ri_kd a = 2) : Cond.instanceMethod (ri_y a) ∈ ri_tb ∧ Cond.selects (ri_y a).cls (ri_y a) (ri_y a) ∈ ri_tb ∧ ∃ q, vwCl[ri_rc a]? = some q ∧ q.1 = (ri_y a).cls := by
  unfold ri_mk at h
  rw [hk] at h
  simp only [Bool.and_eq_true] at h
  refine ⟨ri_w_mem h.2.2.2.2.1, ri_w_mem h.2.2.2.2.2.1, ?_⟩
  have h2 := h.2.2.2.2.2.2
  split at h2
  · next q hq => exact ⟨q, hq, of_decide_eq_true h2⟩
  · cases h2
theorem ri_lk_ok {i a b c0 : Nat} (h : ri_lk own i a b c0 = true) : a < ri_n ∧ ((ri_y a).cls ≠ "java/lang/invoke/MethodHandle" ∧ (ri_y a).cls ≠ "java/lang/invoke/VarHandle" ∧ (parseMethodDescriptor (ri_y a).desc).map (fun d => d.parameters.length) = some b) ∧ (Cond.methodLink own i (ri_y a) ∈ ri_tb ∨ Cond.methodLinkNest own i (ri_y a) "WarmerColder" ∈ ri_tb) := by
  unfold ri_lk ri_nd at h
  simp only [Bool.and_eq_true, decide_eq_true_eq] at h
  refine ⟨Nat.le_of_ble_eq_true h.1, h.2.1, ?_⟩
  have h2 := h.2.2
  split at h2
  · exact Or.inl (ri_w_mem h2)
  · exact Or.inr (ri_w_mem h2)
set_option maxRecDepth 100000 in
theorem ri_roomy {a F c1 s1 : Nat} (hm : ri_ml a ≤ 381) (hR : F + 2 ≤ R.frames ∧ 400 * (F + 2) ≤ R.locals) : (ri_rm F c1 s1).frames + 1 ≤ R.frames ∧ 8 + (ri_ml a + 11) + (ri_rm F c1 s1).locals ≤ R.locals := by
  show F + 1 + 1 ≤ R.frames ∧ 8 + (ri_ml a + 11) + 400 * (F + 1) ≤ R.locals
  generalize ri_ml a = z at hm ⊢
  omega
theorem ri_p_clv {call : ri_Ca} {a b i c0 F : Nat} (TB : ri_Tab) (Fx : ri_Fx p s m args meth c bs nL own nm A) (hlk : ri_lk own i a b c0 = true) (hkd : ri_kd a = 2) (hd : decode bs pc = .ok (.invokevirtual i, 3)) (hR : F + 2 ≤ R.frames ∧ 400 * (F + 2) ≤ R.locals) (hC : ri_Cal l call F) (h : ri_clv call ri_rc a b pc L st M cc sc = some (.inl fr)) (hAt : ri_At X D A s nL dA dT M L H locs ls) (K : ri_Go p l e R s m args below meth c Q X D A nL dA dT M.length cc fr) (hr1 : fr.2.2.2.2.1 ≤ R.cells) (hr2 : fr.2.2.2.2.2 ≤ R.slots) : W p l e R s m args below meth c H locs cc sc Q (F0 m pc ls (st.map (ri_cv dA))) := by
  obtain ⟨hx, hb, hml, hown, hts, hnm, hA⟩ := Fx
  obtain ⟨hn, hnd, hl⟩ := ri_lk_ok hlk
  have hmk := TB.1 a hn
  obtain ⟨k1, k2, k3, k4⟩ := ri_mk_ok hmk
  obtain ⟨k5, k6, q, hq, hqc⟩ := ri_mk_2 hmk hkd
  unfold ri_clv at h
  split at h
  · next as k r hs =>
    split at h
    · next ci fs hM =>
      split at h
      · next hc =>
        obtain ⟨hci, hcat⟩ := hc
        split at h
        · next v M1 c1 s1 hcall =>
          split at h
          · next hw =>
            cases h
            subst hci
            obtain ⟨hl1, hl2⟩ := ri_spl_ok _ _ _ _ _ hs
            have hst : st = as.reverse ++ .ref (k + 1) :: r := hl2.symm
            have hstk : st.map (ri_cv dA) = (as.map (ri_cv dA)).reverse ++ .ref (dA (k + 1)) :: r.map (ri_cv dA) := by
              rw [hst, List.map_append, List.map_reverse]
              rfl
            have hrecv := va_recv hAt.1 hAt.2.2.1 hq (ri_ws_at hM)
            rw [hqc] at hrecv
            have hpre : PreV s H (ri_y a).cls (dA (k + 1)) (ri_P D dA dT (.ref (k + 1) :: as) M H.size) (as.map (ri_cv dA)) := ⟨ri_blind, hrecv, ri_pre hts hAt rfl⟩
            have hlen : (as.map (ri_cv dA)).length = b := by simpa using hl1
            have hcat2 : 2 * (F0 m pc ls (st.map (ri_cv dA))).monitorRoom + ((r.map (ri_cv dA)).map fun v => v.category).sum ≤ 8 := lv_room (by have := hcat; rw [← ri_cat_map (dA := dA)] at this; exact this)
            have hG := ri_goodIn TB hn k2 (ri_hac TB)
            rcases hl with hl | hl
            · exact ri_called (va_runV ⟨hx, hb, hml, hown, hts⟩ (hC a _ M v M1 c1 s1 hcall D dA dT H.size) ⟨callB_of b hts hG rfl rfl rfl (hts _ k3) (hts _ hl) hnd (ri_roomy k4 hR), hts _ k5, hts _ k6⟩ hpre rfl hlen hAt.2.2.2.2.2.2.1.1 hstk hcat2 hd ⟨hr1, hr2⟩) hAt hA hw rfl K
            · exact ri_called (va_runVN ⟨hx, hb, hml, hown, hts⟩ (hC a _ M v M1 c1 s1 hcall D dA dT H.size) ⟨va_cnB b hts hG rfl rfl rfl (va_Nw.of rfl (hts _ hl)) (hts _ k3) hnd (ri_roomy k4 hR), hts _ k5, hts _ k6⟩ hpre rfl hlen hAt.2.2.2.2.2.2.1.1 hstk hcat2 hd ⟨hr1, hr2⟩) hAt hA hw rfl K
          · cases h
        · cases h
      · cases h
    · cases h
  · cases h
theorem ri_p_cin {call : ri_Ca} {a b i c0 F : Nat} (TB : ri_Tab) (Fx : ri_Fx p s m args meth c bs nL own nm A) (hlk : ri_lk own i a b c0 = true) (hkd : ri_kd a = 1) (hd : decode bs pc = .ok (.invokespecial i, 3)) (hR : F + 2 ≤ R.frames ∧ 400 * (F + 2) ≤ R.locals) (hC : ri_Cal l call F) (h : ri_cin call a b pc L st M cc sc = some (.inl fr)) (hAt : ri_At X D A s nL dA dT M L H locs ls) (K : ri_Go p l e R s m args below meth c Q X D A nL dA dT M.length cc fr) (hr1 : fr.2.2.2.2.1 ≤ R.cells) (hr2 : fr.2.2.2.2.2 ≤ R.slots) : W p l e R s m args below meth c H locs cc sc Q (F0 m pc ls (st.map (ri_cv dA))) := by
  obtain ⟨hx, hb, hml, hown, hts, hnm, hA⟩ := Fx
  obtain ⟨hn, hnd, hl⟩ := ri_lk_ok hlk
  have hmk := TB.1 a hn
  obtain ⟨k1, k2, k3, k4⟩ := ri_mk_ok hmk
  obtain ⟨k5, k6, k7⟩ := ri_mk_1 hmk hkd
  unfold ri_cin at h
  split at h
  · next as k r hs =>
    split at h
    · next hcat =>
      split at h
      · next v M1 c1 s1 hcall =>
        split at h
        · next hw =>
          cases h
          obtain ⟨hl1, hl2⟩ := ri_spl_ok _ _ _ _ _ hs
          have hst : st = as.reverse ++ .ref k :: r := hl2.symm
          have hstk : st.map (ri_cv dA) = (as.map (ri_cv dA)).reverse ++ .ref (dA k) :: r.map (ri_cv dA) := by
            rw [hst, List.map_append, List.map_reverse]
            rfl
          have hpre : PreS s H (ri_P D dA dT (.ref k :: as) M H.size) (.ref (dA k) :: as.map (ri_cv dA)) := ⟨ri_blind, ri_pre hts hAt rfl⟩
          have hlen : (as.map (ri_cv dA)).length = b := by simpa using hl1
          have hcat2 : 2 * (F0 m pc ls (st.map (ri_cv dA))).monitorRoom + ((r.map (ri_cv dA)).map fun v => v.category).sum ≤ 8 := lv_room (by have := hcat; rw [← ri_cat_map (dA := dA)] at this; exact this)
          have hG := ri_goodIn TB hn k2 (ri_hac TB)
          have hM := hC a _ M v M1 c1 s1 hcall D dA dT H.size
          have hw2 : ri_wsy a = .code (ri_y a) (ri_b a) (ri_ml a) none :: ri_ac := by unfold ri_wsy; rw [k7]
          rcases hl with hl | hl
          · exact ri_called (va_runI ⟨hx, hb, hml, hown, hts⟩ hM ⟨callB_of b hts hG hw2 rfl rfl (hts _ k3) (hts _ hl) hnd (ri_roomy k4 hR), k6, hts _ k5⟩ hpre rfl hlen hAt.2.2.2.2.2.2.1.1 hstk hcat2 hd ⟨hr1, hr2⟩) hAt hA hw rfl K
          · exact ri_called (va_runIN ⟨hx, hb, hml, hown, hts⟩ hM ⟨va_cnB b hts hG hw2 rfl rfl (va_Nw.of rfl (hts _ hl)) (hts _ k3) hnd (ri_roomy k4 hR), k6, hts _ k5⟩ hpre rfl hlen hAt.2.2.2.2.2.2.1.1 hstk hcat2 hd ⟨hr1, hr2⟩) hAt hA hw rfl K
        · cases h
      · cases h
    · cases h
  · cases h
theorem ri_p_cls {call : ri_Ca} {a b i c0 F : Nat} (TB : ri_Tab) (Fx : ri_Fx p s m args meth c bs nL own nm A) (hlk : ri_lk own i a b c0 = true) (hkd : ri_kd a = 0) (hd : decode bs pc = .ok (.invokestatic i, 3)) (hR : F + 2 ≤ R.frames ∧ 400 * (F + 2) ≤ R.locals) (hC : ri_Cal l call F) (h : ri_cls call a b pc L st M cc sc = some (.inl fr)) (hAt : ri_At X D A s nL dA dT M L H locs ls) (K : ri_Go p l e R s m args below meth c Q X D A nL dA dT M.length cc fr) (hr1 : fr.2.2.2.2.1 ≤ R.cells) (hr2 : fr.2.2.2.2.2 ≤ R.slots) : W p l e R s m args below meth c H locs cc sc Q (F0 m pc ls (st.map (ri_cv dA))) := by
  obtain ⟨hx, hb, hml, hown, hts, hnm, hA⟩ := Fx
  obtain ⟨hn, hnd, hl⟩ := ri_lk_ok hlk
  have hmk := TB.1 a hn
  obtain ⟨k1, k2, k3, k4⟩ := ri_mk_ok hmk
  have k5 := ri_mk_0 hmk hkd
  unfold ri_cls at h
  split at h
  · next as r hs =>
    split at h
    · next hcat =>
      split at h
      · next v M1 c1 s1 hcall =>
        split at h
        · next hw =>
          cases h
          obtain ⟨hl1, hl2⟩ := ri_spl_ok _ _ _ _ _ hs
          have hst : st = as.reverse ++ r := hl2.symm
          have hstk : st.map (ri_cv dA) = (as.map (ri_cv dA)).reverse ++ r.map (ri_cv dA) := by
            rw [hst, List.map_append, List.map_reverse]
          have hpre : PreS s H (ri_P D dA dT as M H.size) (as.map (ri_cv dA)) := ⟨ri_blind, ri_pre hts hAt rfl⟩
          have hlen : (as.map (ri_cv dA)).length = b := by simpa using hl1
          have hcat2 : 2 * (F0 m pc ls (st.map (ri_cv dA))).monitorRoom + ((r.map (ri_cv dA)).map fun v => v.category).sum ≤ 8 := lv_room (by have := hcat; rw [← ri_cat_map (dA := dA)] at this; exact this)
          have hG := ri_goodIn TB hn k2 (ri_hac TB)
          have hM := hC a _ M v M1 c1 s1 hcall D dA dT H.size
          rcases hl with hl | hl
          · exact ri_called (va_runS ⟨hx, hb, hml, hown, hts⟩ hM ⟨callB_of b hts hG rfl rfl rfl (hts _ k3) (hts _ hl) hnd (ri_roomy k4 hR), hts _ k5⟩ hpre rfl hlen hAt.2.2.2.2.2.2.1.1 hstk hcat2 hd ⟨hr1, hr2⟩) hAt hA hw rfl K
          · exact ri_called (va_runSN ⟨hx, hb, hml, hown, hts⟩ hM ⟨va_cnB b hts hG rfl rfl rfl (va_Nw.of rfl (hts _ hl)) (hts _ k3) hnd (ri_roomy k4 hR), hts _ k5, trivial⟩ hpre rfl hlen hAt.2.2.2.2.2.2.1.1 hstk hcat2 hd ⟨hr1, hr2⟩) hAt hA hw rfl K
        · cases h
      · cases h
    · cases h
  · cases h
end RI
