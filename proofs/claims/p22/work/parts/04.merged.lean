section
/-! The interpreter's steps are the machine's: an abstract world and its picture in the heap; one lemma a kind of instruction. -/
noncomputable def ri_cv (dA : Nat → Nat) : Value → Value
  | .ref k => .ref (dA k)
  | v => v
noncomputable def ri_cx (dA : Nat → Nat) : vp_A → vp_A
  | (n, .inr (.inr (.inr (.inr f)))) => (n, .inr (.inr (.inr (.inr fun j => (f j).map dA))))
  | x => x
noncomputable def ri_ce (dA : Nat → Nat) (cA : ClassId) : ri_C → va_E
  | .inl (_, x) => .inl (cA, ri_cx dA x)
  | .inr (ci, fs) => .inr (ci, fs.map (ri_cv dA))
noncomputable def ri_ws (dA : Nat → Nat) (dT : Nat → ClassId) (M : ri_M) : va_W := M.mapIdx fun k e => (dA (k + 1), ri_ce dA (dT k) e)
noncomputable def ri_lv (dA : Nat → Nat) (L : ri_L) : List (Nat × Value) := (List.range L.length).filterMap fun i => (ri_get L i).map fun v => (i, ri_cv dA v)
theorem ri_get_lt {L : ri_L} {i : Nat} {v : Value} (h : ri_get L i = some v) : i < L.length := by
  unfold ri_get at h
  split at h
  · next o ho => exact (List.getElem?_eq_some_iff.mp ho).1
  · cases h
theorem ri_lv_mem {dA : Nat → Nat} {L : ri_L} {q : Nat × Value} : q ∈ ri_lv dA L ↔ ∃ v, ri_get L q.1 = some v ∧ q.2 = ri_cv dA v := by
  unfold ri_lv
  rw [List.mem_filterMap]
  constructor
  · rintro ⟨i, -, h⟩
    cases hg : ri_get L i with
    | none => rw [hg] at h; cases h
    | some v =>
      rw [hg] at h
      have h := Option.some.inj h
      subst h
      exact ⟨v, hg, rfl⟩
  · rintro ⟨v, hg, e⟩
    refine ⟨q.1, List.mem_range.mpr (ri_get_lt hg), ?_⟩
    rw [hg]
    obtain ⟨a, b⟩ := q
    dsimp only at e
    subst e
    rfl
theorem ri_lat {dA : Nat → Nat} {L : ri_L} {ls : Array Slot} {nL i : Nat} {v : Value} (hl : lv_has ls nL (ri_lv dA L)) (hg : ri_get L i = some v) : ls[i]? = some (.val (ri_cv dA v)) := hl.2.2 (i, ri_cv dA v) (ri_lv_mem.mpr ⟨v, hg, rfl⟩)
theorem ri_cat_cv (dA : Nat → Nat) (v : Value) : (ri_cv dA v).category = v.category := by cases v <;> rfl
theorem ri_set_len (L : ri_L) (i : Nat) (v : Value) : (ri_set L i v).length = L.length := by
  unfold ri_set
  split
  · simp
  · split <;> simp
theorem ri_get_setne {L : ri_L} {i j : Nat} {x : Option Value} (h : j ≠ i) : ri_get (L.set i x) j = ri_get L j := by
  unfold ri_get
  rw [List.getElem?_set_ne (fun q => h q.symm)]
theorem ri_get_seteq {L : ri_L} {i : Nat} {x : Option Value} {v : Value} (h : ri_get (L.set i x) i = some v) : x = some v := by
  unfold ri_get at h
  split at h
  · next o ho =>
    have hi : i < L.length := by simpa using (List.getElem?_eq_some_iff.mp ho).1
    rw [List.getElem?_set_self hi] at ho
    cases ho
    exact h
  · cases h
theorem ri_set_ne {L : ri_L} {i j : Nat} {v w : Value} (hj : j ≠ i) (h : ri_get (ri_set L i v) j = some w) : ri_get L j = some w ∧ ¬ (j + 1 = i ∧ w.category = 2) := by
  unfold ri_set at h
  split at h
  · rw [ri_get_setne hj] at h
    exact ⟨h, fun q => by omega⟩
  · next i =>
    split at h
    · next x hx =>
      by_cases hi : j = i
      · subst hi
        cases ri_get_seteq h
      · rw [ri_get_setne hi, ri_get_setne hj] at h
        exact ⟨h, fun q => hi (by omega)⟩
    · next x hx =>
      by_cases hi : j = i
      · subst hi
        cases ri_get_seteq h
      · rw [ri_get_setne hi, ri_get_setne hj] at h
        exact ⟨h, fun q => hi (by omega)⟩
    · next n1 n2 =>
      rw [ri_get_setne hj] at h
      refine ⟨h, fun q => ?_⟩
      have hi : j = i := by omega
      subst hi
      cases w with
      | long y => exact n1 y h
      | double y => exact n2 y h
      | _ => cases q.2
theorem ri_set_eq {L : ri_L} {i : Nat} {v w : Value} (h : ri_get (ri_set L i v) i = some w) : w = v := by
  unfold ri_set at h
  split at h
  · cases ri_get_seteq h; rfl
  · split at h
    · rw [ri_get_setne (by omega)] at h
      cases ri_get_seteq h; rfl
    · rw [ri_get_setne (by omega)] at h
      cases ri_get_seteq h; rfl
    · cases ri_get_seteq h; rfl
theorem ri_stl {dA : Nat → Nat} {L : ri_L} {ls' : Array Slot} {nL i : Nat} {v : Value} (hl : lv_has ls' nL ((i, ri_cv dA v) :: (ri_lv dA L).filter (fun q => !(q.1 == i) && !(q.1 + 1 == i && q.2.category == 2)))) : lv_has ls' nL (ri_lv dA (ri_set L i v)) := by
  refine ⟨hl.1, hl.2.1, fun q hq => hl.2.2 q ?_⟩
  obtain ⟨w, hw, e⟩ := ri_lv_mem.mp hq
  by_cases hi : q.1 = i
  · rw [hi] at hw
    have hv := ri_set_eq hw
    subst hv
    exact List.mem_cons.mpr (Or.inl (Prod.ext hi e))
  · obtain ⟨h1, h2⟩ := ri_set_ne hi hw
    refine List.mem_cons_of_mem _ (List.mem_filter.mpr ⟨ri_lv_mem.mpr ⟨w, h1, e⟩, ?_⟩)
    rw [e, ri_cat_cv]
    simp only [Bool.and_eq_true, Bool.not_eq_true', beq_eq_false_iff_ne, ne_eq, Bool.and_eq_false_iff]
    refine ⟨hi, ?_⟩
    by_cases h3 : q.1 + 1 = i
    · exact Or.inr fun h4 => h2 ⟨h3, h4⟩
    · exact Or.inl h3
theorem ri_stl2 {dA : Nat → Nat} {L : ri_L} {ls' : Array Slot} {nL i : Nat} {v : Value} (hl : lv_has ls' nL ((i, ri_cv dA v) :: (ri_lv dA L).filter (fun q => !(q.1 == i) && (!(q.1 == i + 1) && !(q.1 + 1 == i && q.2.category == 2))))) : lv_has ls' nL (ri_lv dA (ri_set2 L i v)) := by
  refine ⟨hl.1, hl.2.1, fun q hq => hl.2.2 q ?_⟩
  obtain ⟨w, hw, e⟩ := ri_lv_mem.mp hq
  unfold ri_set2 at hw
  by_cases h5 : q.1 = i + 1
  · rw [h5] at hw
    cases ri_get_seteq hw
  · rw [ri_get_setne h5] at hw
    by_cases hi : q.1 = i
    · rw [hi] at hw
      have hv := ri_set_eq hw
      subst hv
      exact List.mem_cons.mpr (Or.inl (Prod.ext hi e))
    · obtain ⟨h1, h2⟩ := ri_set_ne hi hw
      refine List.mem_cons_of_mem _ (List.mem_filter.mpr ⟨ri_lv_mem.mpr ⟨w, h1, e⟩, ?_⟩)
      rw [e, ri_cat_cv]
      simp only [Bool.and_eq_true, Bool.not_eq_true', beq_eq_false_iff_ne, ne_eq, Bool.and_eq_false_iff]
      refine ⟨hi, h5, ?_⟩
      by_cases h3 : q.1 + 1 = i
      · exact Or.inr fun h4 => h2 ⟨h3, h4⟩
      · exact Or.inl h3
theorem ri_ws_at {dA : Nat → Nat} {dT : Nat → ClassId} {M : ri_M} {k : Nat} {x : ri_C} (h : M[k]? = some x) : (ri_ws dA dT M)[k]? = some (dA (k + 1), ri_ce dA (dT k) x) := by
  simp only [ri_ws, List.getElem?_mapIdx, h, Option.map_some]
theorem ri_ws_len {dA : Nat → Nat} {dT : Nat → ClassId} {M : ri_M} : (ri_ws dA dT M).length = M.length := by simp [ri_ws]
theorem ri_ws_inv {dA : Nat → Nat} {dT : Nat → ClassId} {M : ri_M} {k : Nat} {q : Nat × va_E} (h : (ri_ws dA dT M)[k]? = some q) : ∃ x, M[k]? = some x ∧ q = (dA (k + 1), ri_ce dA (dT k) x) := by
  simp only [ri_ws, List.getElem?_mapIdx] at h
  cases hm : M[k]? with
  | none => rw [hm] at h; cases h
  | some x =>
    rw [hm] at h
    exact ⟨x, rfl, (Option.some.inj h).symm⟩
theorem ri_ws_set {dA : Nat → Nat} {dT : Nat → ClassId} {M : ri_M} {k : Nat} {x : ri_C} : (ri_ws dA dT M).set k (dA (k + 1), ri_ce dA (dT k) x) = ri_ws dA dT (M.set k x) := by
  apply List.ext_getElem?
  intro i
  simp only [ri_ws, List.getElem?_mapIdx, List.getElem?_set, List.length_mapIdx]
  by_cases h : k = i
  · subst h
    by_cases h2 : k < M.length
    · simp [h2]
    · simp [h2]
  · simp [h]
noncomputable def ri_Xo (X : ri_X) (A : Nat → Prop) (s : State) (b : Nat) : Prop := match X with
  | none => True
  | some (n, f) => va_X b n f s s.heap ∧ b < s.heap.size ∧ ¬ A b
/-- a frame's place: its world, its locals, the script -/
noncomputable def ri_At (X : ri_X) (D : va_G) (A : Nat → Prop) (s : State) (nL : Nat) (dA : Nat → Nat) (dT : Nat → ClassId) (M : ri_M) (L : ri_L) (H : Heap) (locs : List Loc) (ls : Array Slot) : Prop :=
  va_K D vwCl [] s ∧ (∀ (k : Nat) (ty : FieldType) (a : vp_A), M[k]? = some (.inl (ty, a)) → ArrOfT s (dT k) ty ∧ va_RA s (dT k) ty) ∧ va_P D vwCl (ri_ws dA dT M) H ∧ va_D A (ri_ws dA dT M) ∧ va_S A s.heap H locs ∧ L.length = nL ∧ lv_has ls nL (ri_lv dA L) ∧ ri_Xo X A s (dA 0)
/-- cells that stood keep their numbers -/
noncomputable def ri_Ag (n : Nat) (dA : Nat → Nat) (dT : Nat → ClassId) (cc n1 : Nat) (dA1 : Nat → Nat) (dT1 : Nat → ClassId) (c1 : Nat) : Prop :=
  n ≤ n1 ∧ cc ≤ c1 ∧ (∀ k, k ≤ n → dA1 k = dA k) ∧ (∀ k, k < n → dT1 k = dT k) ∧ (c1 = cc → dA1 = dA ∧ dT1 = dT)
theorem ri_Ag.rf {n : Nat} {dA : Nat → Nat} {dT : Nat → ClassId} {cc : Nat} : ri_Ag n dA dT cc n dA dT cc := ⟨Nat.le_refl _, Nat.le_refl _, fun _ _ => rfl, fun _ _ => rfl, fun _ => ⟨rfl, rfl⟩⟩
theorem ri_Ag.trans {n n1 n2 cc c1 c2 : Nat} {dA dA1 dA2 : Nat → Nat} {dT dT1 dT2 : Nat → ClassId} (h : ri_Ag n dA dT cc n1 dA1 dT1 c1) (g : ri_Ag n1 dA1 dT1 c1 n2 dA2 dT2 c2) : ri_Ag n dA dT cc n2 dA2 dT2 c2 := by
  obtain ⟨h1, h2, h3, h4, h5⟩ := h
  obtain ⟨g1, g2, g3, g4, g5⟩ := g
  refine ⟨Nat.le_trans h1 g1, Nat.le_trans h2 g2, fun k hk => (g3 k (Nat.le_trans hk h1)).trans (h3 k hk), fun k hk => (g4 k (Nat.lt_of_lt_of_le hk h1)).trans (h4 k hk), fun hc => ?_⟩
  obtain ⟨a1, a2⟩ := g5 (by omega)
  obtain ⟨b1, b2⟩ := h5 (by omega)
  exact ⟨a1.trans b1, a2.trans b2⟩
theorem ri_Ag.len {n n1 n2 cc c1 : Nat} {dA dA1 : Nat → Nat} {dT dT1 : Nat → ClassId} (h : ri_Ag n dA dT cc n1 dA1 dT1 c1) (e : n2 = n1) : ri_Ag n dA dT cc n2 dA1 dT1 c1 := e ▸ h
noncomputable def ri_Go (p : Program) (l : Launch) (e : Env) (R : Room) (s : State) (m : MethodId) (args : Array Value) (below : List Frame) (meth : Method) (c : Code) (Q : State → Prop) (X : ri_X) (D : va_G) (A : Nat → Prop) (nL : Nat) (dA : Nat → Nat) (dT : Nat → ClassId) (n cc : Nat) (fr : ri_F) : Prop :=
  ∀ (dA1 : Nat → Nat) (dT1 : Nat → ClassId) (H1 : Heap) (locs1 : List Loc) (ls1 : Array Slot), ri_Ag n dA dT cc fr.2.2.2.1.length dA1 dT1 fr.2.2.2.2.1 → ri_At X D A s nL dA1 dT1 fr.2.2.2.1 fr.2.1 H1 locs1 ls1 → W p l e R s m args below meth c H1 locs1 fr.2.2.2.2.1 fr.2.2.2.2.2 Q (F0 m fr.1 ls1 (fr.2.2.1.map (ri_cv dA1)))
/-- the words that serve: they stay true from call to call -/
noncomputable def ri_us : Cond → Bool
  | .fieldLinkNest _ _ _ _ _ _ => true
  | .methodLinkNest _ _ _ _ => true
  | .arrayOver (.object _) => true
  | .arrayClass .byte => true
  | .arrayClass .boolean => true
  | .arrayClass .int => true
  | .arrayClass .long => true
  | w => w.onTables && w.keeps
noncomputable def ri_nac : Cond → Bool
  | .arrayClass _ => false
  | _ => true
noncomputable def ri_ac : List Cond := [.arrayClass .byte, .arrayClass .boolean, .arrayClass .int, .arrayClass .long]
noncomputable def ri_tb : List Cond := lw_tbl.filter ri_us
theorem ri_warm {args : Array Value} {s U : State} (hts : ∀ w ∈ ri_tb, w.before args s = true) (hW : s.WarmedH U.vm) : ∀ w ∈ ri_tb, ri_nac w = true → w.before #[] U = true := by
  intro w hw h1
  have h2 := (List.mem_filter.mp hw).2
  have h3 := hts w hw
  unfold ri_us at h2
  split at h2
  · exact va_Nw.warmF hW (va_Nw.of rfl h3)
  · exact va_Nw.warmM hW (va_Nw.of rfl h3)
  · exact va_AO.use (A := #[]) (va_AO.moved hW.alike (va_AO.of h3))
  · cases h1
  · cases h1
  · cases h1
  · cases h1
  · exact word_at hW (Or.inl h2) h3
theorem ri_still {s U : State} (e : s.vm = U.vm) (hts : ∀ w ∈ ri_tb, ri_nac w = true → w.before #[] s = true) : ∀ w ∈ ri_tb, ri_nac w = true → w.before #[] U = true := by
  intro w hw h1
  have h2 := (List.mem_filter.mp hw).2
  have h3 := hts w hw h1
  unfold ri_us at h2
  split at h2
  · exact va_Nw.same rfl e h3
  · exact va_Nw.same rfl e h3
  · exact va_AO.use (A := #[]) (va_AO.moved (by rw [e]; exact Vm.Alike.refl U.vm) (va_AO.of h3))
  · cases h1
  · cases h1
  · cases h1
  · cases h1
  · rw [Bool.and_eq_true] at h2
    exact va_Nw.same h2.1 e h3
theorem ri_every {s : State} {args : Array Value} (h0 : ∀ w ∈ ri_ac, w.before args s = true) (hts : ∀ w ∈ ri_tb, ri_nac w = true → w.before #[] s = true) : ∀ w ∈ ri_tb, w.before args s = true := by
  intro w hw
  have h2 := (List.mem_filter.mp hw).2
  have h3 := hts w hw
  unfold ri_us at h2
  split at h2
  · exact va_Nw.use rfl (h3 rfl)
  · exact va_Nw.use rfl (h3 rfl)
  · exact va_AO.use (va_AO.of (h3 rfl))
  · exact h0 _ (by simp [ri_ac])
  · exact h0 _ (by simp [ri_ac])
  · exact h0 _ (by simp [ri_ac])
  · exact h0 _ (by simp [ri_ac])
  · next n1 n2 n3 n4 n5 n6 n7 =>
    rw [Bool.and_eq_true] at h2
    refine va_Nw.use h2.1 (h3 ?_)
    unfold ri_nac
    split
    · cases h2.1
    · rfl
noncomputable def ri_Fx (p : Program) (s : State) (m : MethodId) (args : Array Value) (meth : Method) (c : Code) (bs : ByteArray) (nL : Nat) (own nm : String) (A : Nat → Prop) : Prop :=
  p.tables.exec = Jvm.exec ∧ c.code = bs ∧ c.maxLocals = nL ∧ s.vm.findClass own = some m.cls ∧ (∀ w ∈ ri_tb, w.before args s = true) ∧ meth.name = nm ∧ ∀ q, s.heap.size ≤ q → A q
section RI
variable {p : Program} {l : Launch} {e : Env} {R : Room} {s : State} {m : MethodId} {args : Array Value} {below : List Frame} {meth : Method} {c : Code} {H : Heap} {locs : List Loc} {Q : State → Prop} {bs : ByteArray} {nL : Nat} {own nm : String} {A : Nat → Prop} {D : va_G} {X : ri_X} {dA : Nat → Nat} {dT : Nat → ClassId} {pc : Nat} {L : ri_L} {st : List Value} {M : ri_M} {cc sc : Nat} {ls : Array Slot} {fr : ri_F}
theorem ri_same {pc1 : Nat} {st1 : List Value} (K : ri_Go p l e R s m args below meth c Q X D A nL dA dT M.length cc (pc1, L, st1, M, cc, sc)) (hAt : ri_At X D A s nL dA dT M L H locs ls) : W p l e R s m args below meth c H locs cc sc Q (F0 m pc1 ls (st1.map (ri_cv dA))) := K dA dT H locs ls ri_Ag.rf hAt
theorem ri_locs {pc1 : Nat} {st1 : List Value} {L1 : ri_L} {ls1 : Array Slot} (K : ri_Go p l e R s m args below meth c Q X D A nL dA dT M.length cc (pc1, L1, st1, M, cc, sc)) (hAt : ri_At X D A s nL dA dT M L H locs ls) (h1 : L1.length = L.length) (h2 : lv_has ls1 nL (ri_lv dA L1)) : W p l e R s m args below meth c H locs cc sc Q (F0 m pc1 ls1 (st1.map (ri_cv dA))) := by
  obtain ⟨a1, a2, a3, a4, a5, a6, a7, a8⟩ := hAt
  exact K dA dT H locs ls1 ri_Ag.rf ⟨a1, a2, a3, a4, a5, h1.trans a6, h2, a8⟩
theorem ri_p_psh {len : Nat} {v : Value} (h : ri_psh len v pc L st M cc sc = some (.inl fr)) (hAt : ri_At X D A s nL dA dT M L H locs ls) (K : ri_Go p l e R s m args below meth c Q X D A nL dA dT M.length cc fr) (row : ∀ rest, W p l e R s m args below meth c H locs cc sc Q (F0 m (pc + len) ls (ri_cv dA v :: rest)) → W p l e R s m args below meth c H locs cc sc Q (F0 m pc ls rest)) : W p l e R s m args below meth c H locs cc sc Q (F0 m pc ls (st.map (ri_cv dA))) := by
  cases h
  exact row _ (ri_same K hAt)
theorem ri_p_ild {len i : Nat} (h : ri_ild len i pc L st M cc sc = some (.inl fr)) (hAt : ri_At X D A s nL dA dT M L H locs ls) (K : ri_Go p l e R s m args below meth c Q X D A nL dA dT M.length cc fr) (row : ∀ x rest, ls[i]? = some (.val (.int x)) → W p l e R s m args below meth c H locs cc sc Q (F0 m (pc + len) ls (.int x :: rest)) → W p l e R s m args below meth c H locs cc sc Q (F0 m pc ls rest)) : W p l e R s m args below meth c H locs cc sc Q (F0 m pc ls (st.map (ri_cv dA))) := by
  unfold ri_ild at h
  split at h
  · next x hx =>
    cases h
    exact row x _ (ri_lat hAt.2.2.2.2.2.2.1 hx) (ri_same K hAt)
  · cases h
theorem ri_p_lld {len i : Nat} (h : ri_lld len i pc L st M cc sc = some (.inl fr)) (hAt : ri_At X D A s nL dA dT M L H locs ls) (K : ri_Go p l e R s m args below meth c Q X D A nL dA dT M.length cc fr) (row : ∀ x rest, ls[i]? = some (.val (.long x)) → W p l e R s m args below meth c H locs cc sc Q (F0 m (pc + len) ls (.long x :: rest)) → W p l e R s m args below meth c H locs cc sc Q (F0 m pc ls rest)) : W p l e R s m args below meth c H locs cc sc Q (F0 m pc ls (st.map (ri_cv dA))) := by
  unfold ri_lld at h
  split at h
  · next x hx =>
    cases h
    exact row x _ (ri_lat hAt.2.2.2.2.2.2.1 hx) (ri_same K hAt)
  · cases h
theorem ri_p_ald {len i : Nat} (h : ri_ald len i pc L st M cc sc = some (.inl fr)) (hAt : ri_At X D A s nL dA dT M L H locs ls) (K : ri_Go p l e R s m args below meth c Q X D A nL dA dT M.length cc fr) (row : ∀ x rest, ls[i]? = some (.val (.ref x)) → W p l e R s m args below meth c H locs cc sc Q (F0 m (pc + len) ls (.ref x :: rest)) → W p l e R s m args below meth c H locs cc sc Q (F0 m pc ls rest)) (rown : ∀ rest, ls[i]? = some (.val .null) → W p l e R s m args below meth c H locs cc sc Q (F0 m (pc + len) ls (.null :: rest)) → W p l e R s m args below meth c H locs cc sc Q (F0 m pc ls rest)) : W p l e R s m args below meth c H locs cc sc Q (F0 m pc ls (st.map (ri_cv dA))) := by
  unfold ri_ald at h
  split at h
  · next x hx =>
    cases h
    exact row (dA x) _ (ri_lat hAt.2.2.2.2.2.2.1 hx) (ri_same K hAt)
  · next hx =>
    cases h
    exact rown _ (ri_lat hAt.2.2.2.2.2.2.1 hx) (ri_same K hAt)
  · cases h
theorem ri_p_ist {len i : Nat} (h : ri_ist len i pc L st M cc sc = some (.inl fr)) (hAt : ri_At X D A s nL dA dT M L H locs ls) (K : ri_Go p l e R s m args below meth c Q X D A nL dA dT M.length cc fr) (row : ∀ x rest, i < nL → (∀ ls' : Array Slot, lv_has ls' nL ((i, Value.int x) :: (ri_lv dA L).filter (fun q => !(q.1 == i) && !(q.1 + 1 == i && q.2.category == 2))) → W p l e R s m args below meth c H locs cc sc Q (F0 m (pc + len) ls' rest)) → W p l e R s m args below meth c H locs cc sc Q (F0 m pc ls (.int x :: rest))) : W p l e R s m args below meth c H locs cc sc Q (F0 m pc ls (st.map (ri_cv dA))) := by
  unfold ri_ist at h
  split at h
  · next x r =>
    split at h
    · next hi =>
      cases h
      exact row x _ (by rw [← hAt.2.2.2.2.2.1]; exact hi) (fun ls' hl => ri_locs K hAt (ri_set_len _ _ _) (ri_stl (v := .int x) hl))
    · cases h
  · cases h
theorem ri_p_lst {len i : Nat} (h : ri_lst len i pc L st M cc sc = some (.inl fr)) (hAt : ri_At X D A s nL dA dT M L H locs ls) (K : ri_Go p l e R s m args below meth c Q X D A nL dA dT M.length cc fr) (row : ∀ x rest, i + 1 < nL → (∀ ls' : Array Slot, lv_has ls' nL ((i, Value.long x) :: (ri_lv dA L).filter (fun q => !(q.1 == i) && (!(q.1 == i + 1) && !(q.1 + 1 == i && q.2.category == 2)))) → W p l e R s m args below meth c H locs cc sc Q (F0 m (pc + len) ls' rest)) → W p l e R s m args below meth c H locs cc sc Q (F0 m pc ls (.long x :: rest))) : W p l e R s m args below meth c H locs cc sc Q (F0 m pc ls (st.map (ri_cv dA))) := by
  unfold ri_lst at h
  split at h
  · next x r =>
    split at h
    · next hi =>
      cases h
      exact row x _ (by rw [← hAt.2.2.2.2.2.1]; exact hi) (fun ls' hl => ri_locs K hAt (by simp [ri_set2, ri_set_len]) (ri_stl2 (v := .long x) hl))
    · cases h
  · cases h
theorem ri_p_ast {len i : Nat} (h : ri_ast len i pc L st M cc sc = some (.inl fr)) (hAt : ri_At X D A s nL dA dT M L H locs ls) (K : ri_Go p l e R s m args below meth c Q X D A nL dA dT M.length cc fr) (row : ∀ x rest, i < nL → (∀ ls' : Array Slot, lv_has ls' nL ((i, Value.ref x) :: (ri_lv dA L).filter (fun q => !(q.1 == i) && !(q.1 + 1 == i && q.2.category == 2))) → W p l e R s m args below meth c H locs cc sc Q (F0 m (pc + len) ls' rest)) → W p l e R s m args below meth c H locs cc sc Q (F0 m pc ls (.ref x :: rest)))
    (rown : ∀ rest, i < nL → (∀ ls' : Array Slot, lv_has ls' nL ((i, Value.null) :: (ri_lv dA L).filter (fun q => !(q.1 == i) && !(q.1 + 1 == i && q.2.category == 2))) → W p l e R s m args below meth c H locs cc sc Q (F0 m (pc + len) ls' rest)) → W p l e R s m args below meth c H locs cc sc Q (F0 m pc ls (.null :: rest))) : W p l e R s m args below meth c H locs cc sc Q (F0 m pc ls (st.map (ri_cv dA))) := by
  unfold ri_ast at h
  split at h
  · next x r =>
    split at h
    · next hi =>
      cases h
      exact row (dA x) _ (by rw [← hAt.2.2.2.2.2.1]; exact hi) (fun ls' hl => ri_locs K hAt (ri_set_len _ _ _) (ri_stl (v := .ref x) hl))
    · cases h
  · next r =>
    split at h
    · next hi =>
      cases h
      exact rown _ (by rw [← hAt.2.2.2.2.2.1]; exact hi) (fun ls' hl => ri_locs K hAt (ri_set_len _ _ _) (ri_stl (v := .null) hl))
    · cases h
  · cases h
theorem ri_p_inc {i : Nat} {n : Int} (h : ri_inc i n pc L st M cc sc = some (.inl fr)) (hAt : ri_At X D A s nL dA dT M L H locs ls) (K : ri_Go p l e R s m args below meth c Q X D A nL dA dT M.length cc fr) (row : ∀ (x : Int32) (k : Nat) (rest : List Value), (ri_lv dA L)[k]? = some (i, Value.int x) → i < nL → (∀ ls' : Array Slot, lv_has ls' nL ((i, Value.int (x + Int32.ofInt n)) :: (ri_lv dA L).filter (fun q => !(q.1 == i) && !(q.1 + 1 == i && q.2.category == 2))) → W p l e R s m args below meth c H locs cc sc Q (F0 m (pc + 3) ls' rest)) → W p l e R s m args below meth c H locs cc sc Q (F0 m pc ls rest)) : W p l e R s m args below meth c H locs cc sc Q (F0 m pc ls (st.map (ri_cv dA))) := by
  unfold ri_inc at h
  split at h
  · next x hx =>
    split at h
    · next hi =>
      cases h
      obtain ⟨k, hk⟩ := List.getElem?_of_mem (ri_lv_mem.mpr ⟨_, hx, rfl⟩ : ((i, Value.int x) : Nat × Value) ∈ ri_lv dA L)
      exact row x k _ hk (by rw [← hAt.2.2.2.2.2.1]; exact hi) (fun ls' hl => ri_locs K hAt (ri_set_len _ _ _) (ri_stl (v := .int (x + Int32.ofInt n)) hl))
    · cases h
  · cases h
theorem ri_p_i2 {f : Int32 → Int32 → Int32} (h : ri_i2 f pc L st M cc sc = some (.inl fr)) (hAt : ri_At X D A s nL dA dT M L H locs ls) (K : ri_Go p l e R s m args below meth c Q X D A nL dA dT M.length cc fr) (row : ∀ x y rest, W p l e R s m args below meth c H locs cc sc Q (F0 m (pc + 1) ls (.int (f x y) :: rest)) → W p l e R s m args below meth c H locs cc sc Q (F0 m pc ls (.int y :: .int x :: rest))) : W p l e R s m args below meth c H locs cc sc Q (F0 m pc ls (st.map (ri_cv dA))) := by
  unfold ri_i2 at h
  split at h
  · cases h
    exact row _ _ _ (ri_same K hAt)
  · cases h
theorem ri_p_d2 {f : Int32 → Int32 → Int32} (h : ri_d2 f pc L st M cc sc = some (.inl fr)) (hAt : ri_At X D A s nL dA dT M L H locs ls) (K : ri_Go p l e R s m args below meth c Q X D A nL dA dT M.length cc fr) (row : ∀ x y rest, ¬ y = 0 → W p l e R s m args below meth c H locs cc sc Q (F0 m (pc + 1) ls (.int (f x y) :: rest)) → W p l e R s m args below meth c H locs cc sc Q (F0 m pc ls (.int y :: .int x :: rest))) : W p l e R s m args below meth c H locs cc sc Q (F0 m pc ls (st.map (ri_cv dA))) := by
  unfold ri_d2 at h
  split at h
  · split at h
    · cases h
    · next hy =>
      cases h
      exact row _ _ _ hy (ri_same K hAt)
  · cases h
theorem ri_p_l2 {f : Int64 → Int64 → Int64} (h : ri_l2 f pc L st M cc sc = some (.inl fr)) (hAt : ri_At X D A s nL dA dT M L H locs ls) (K : ri_Go p l e R s m args below meth c Q X D A nL dA dT M.length cc fr) (row : ∀ x y rest, W p l e R s m args below meth c H locs cc sc Q (F0 m (pc + 1) ls (.long (f x y) :: rest)) → W p l e R s m args below meth c H locs cc sc Q (F0 m pc ls (.long y :: .long x :: rest))) : W p l e R s m args below meth c H locs cc sc Q (F0 m pc ls (st.map (ri_cv dA))) := by
  unfold ri_l2 at h
  split at h
  · cases h
    exact row _ _ _ (ri_same K hAt)
  · cases h
theorem ri_p_e2 {f : Int64 → Int64 → Int64} (h : ri_e2 f pc L st M cc sc = some (.inl fr)) (hAt : ri_At X D A s nL dA dT M L H locs ls) (K : ri_Go p l e R s m args below meth c Q X D A nL dA dT M.length cc fr) (row : ∀ x y rest, ¬ y = 0 → W p l e R s m args below meth c H locs cc sc Q (F0 m (pc + 1) ls (.long (f x y) :: rest)) → W p l e R s m args below meth c H locs cc sc Q (F0 m pc ls (.long y :: .long x :: rest))) : W p l e R s m args below meth c H locs cc sc Q (F0 m pc ls (st.map (ri_cv dA))) := by
  unfold ri_e2 at h
  split at h
  · split at h
    · cases h
    · next hy =>
      cases h
      exact row _ _ _ hy (ri_same K hAt)
  · cases h
theorem ri_p_lsh {f : Int64 → Int32 → Int64} (h : ri_lsh f pc L st M cc sc = some (.inl fr)) (hAt : ri_At X D A s nL dA dT M L H locs ls) (K : ri_Go p l e R s m args below meth c Q X D A nL dA dT M.length cc fr) (row : ∀ x y rest, W p l e R s m args below meth c H locs cc sc Q (F0 m (pc + 1) ls (.long (f x y) :: rest)) → W p l e R s m args below meth c H locs cc sc Q (F0 m pc ls (.int y :: .long x :: rest))) : W p l e R s m args below meth c H locs cc sc Q (F0 m pc ls (st.map (ri_cv dA))) := by
  unfold ri_lsh at h
  split at h
  · cases h
    exact row _ _ _ (ri_same K hAt)
  · cases h
theorem ri_p_lcm (h : ri_lcm pc L st M cc sc = some (.inl fr)) (hAt : ri_At X D A s nL dA dT M L H locs ls) (K : ri_Go p l e R s m args below meth c Q X D A nL dA dT M.length cc fr) (row : ∀ x y rest, W p l e R s m args below meth c H locs cc sc Q (F0 m (pc + 1) ls (.int (lg_cmp x y) :: rest)) → W p l e R s m args below meth c H locs cc sc Q (F0 m pc ls (.long y :: .long x :: rest))) : W p l e R s m args below meth c H locs cc sc Q (F0 m pc ls (st.map (ri_cv dA))) := by
  unfold ri_lcm at h
  split at h
  · cases h
    exact row _ _ _ (ri_same K hAt)
  · cases h
theorem ri_p_i1 {f : Int32 → Int32} (h : ri_i1 f pc L st M cc sc = some (.inl fr)) (hAt : ri_At X D A s nL dA dT M L H locs ls) (K : ri_Go p l e R s m args below meth c Q X D A nL dA dT M.length cc fr) (row : ∀ x rest, W p l e R s m args below meth c H locs cc sc Q (F0 m (pc + 1) ls (.int (f x) :: rest)) → W p l e R s m args below meth c H locs cc sc Q (F0 m pc ls (.int x :: rest))) : W p l e R s m args below meth c H locs cc sc Q (F0 m pc ls (st.map (ri_cv dA))) := by
  unfold ri_i1 at h
  split at h
  · cases h
    exact row _ _ (ri_same K hAt)
  · cases h
theorem ri_p_il (h : ri_il pc L st M cc sc = some (.inl fr)) (hAt : ri_At X D A s nL dA dT M L H locs ls) (K : ri_Go p l e R s m args below meth c Q X D A nL dA dT M.length cc fr) (row : ∀ x rest, W p l e R s m args below meth c H locs cc sc Q (F0 m (pc + 1) ls (.long x.toInt64 :: rest)) → W p l e R s m args below meth c H locs cc sc Q (F0 m pc ls (.int x :: rest))) : W p l e R s m args below meth c H locs cc sc Q (F0 m pc ls (st.map (ri_cv dA))) := by
  unfold ri_il at h
  split at h
  · cases h
    exact row _ _ (ri_same K hAt)
  · cases h
theorem ri_p_li (h : ri_li pc L st M cc sc = some (.inl fr)) (hAt : ri_At X D A s nL dA dT M L H locs ls) (K : ri_Go p l e R s m args below meth c Q X D A nL dA dT M.length cc fr) (row : ∀ x rest, W p l e R s m args below meth c H locs cc sc Q (F0 m (pc + 1) ls (.int x.toInt32 :: rest)) → W p l e R s m args below meth c H locs cc sc Q (F0 m pc ls (.long x :: rest))) : W p l e R s m args below meth c H locs cc sc Q (F0 m pc ls (st.map (ri_cv dA))) := by
  unfold ri_li at h
  split at h
  · cases h
    exact row _ _ (ri_same K hAt)
  · cases h
theorem ri_c1_ok {v : Value} (h : ri_c1 v = true) : v.category = 1 := by cases v <;> first | rfl | cases h
theorem ri_p_pop (h : ri_pop pc L st M cc sc = some (.inl fr)) (hAt : ri_At X D A s nL dA dT M L H locs ls) (K : ri_Go p l e R s m args below meth c Q X D A nL dA dT M.length cc fr) (row : ∀ v rest, v.category = 1 → W p l e R s m args below meth c H locs cc sc Q (F0 m (pc + 1) ls rest) → W p l e R s m args below meth c H locs cc sc Q (F0 m pc ls (v :: rest))) : W p l e R s m args below meth c H locs cc sc Q (F0 m pc ls (st.map (ri_cv dA))) := by
  unfold ri_pop at h
  split at h
  · split at h
    · next hv =>
      cases h
      exact row _ _ ((ri_cat_cv _ _).trans (ri_c1_ok hv)) (ri_same K hAt)
    · cases h
  · cases h
theorem ri_p_dup (h : ri_dup pc L st M cc sc = some (.inl fr)) (hAt : ri_At X D A s nL dA dT M L H locs ls) (K : ri_Go p l e R s m args below meth c Q X D A nL dA dT M.length cc fr) (row : ∀ v rest, v.category = 1 → W p l e R s m args below meth c H locs cc sc Q (F0 m (pc + 1) ls (v :: v :: rest)) → W p l e R s m args below meth c H locs cc sc Q (F0 m pc ls (v :: rest))) : W p l e R s m args below meth c H locs cc sc Q (F0 m pc ls (st.map (ri_cv dA))) := by
  unfold ri_dup at h
  split at h
  · split at h
    · next hv =>
      cases h
      exact row _ _ ((ri_cat_cv _ _).trans (ri_c1_ok hv)) (ri_same K hAt)
    · cases h
  · cases h
theorem ri_p_dup2 (h : ri_dup2 pc L st M cc sc = some (.inl fr)) (hAt : ri_At X D A s nL dA dT M L H locs ls) (K : ri_Go p l e R s m args below meth c Q X D A nL dA dT M.length cc fr) (row : ∀ v rest, v.category = 2 → W p l e R s m args below meth c H locs cc sc Q (F0 m (pc + 1) ls (v :: v :: rest)) → W p l e R s m args below meth c H locs cc sc Q (F0 m pc ls (v :: rest))) (row2 : ∀ v w rest, v.category = 1 → w.category = 1 → W p l e R s m args below meth c H locs cc sc Q (F0 m (pc + 1) ls (v :: w :: v :: w :: rest)) → W p l e R s m args below meth c H locs cc sc Q (F0 m pc ls (v :: w :: rest))) : W p l e R s m args below meth c H locs cc sc Q (F0 m pc ls (st.map (ri_cv dA))) := by
  unfold ri_dup2 at h
  split at h
  · next x r =>
    cases h
    exact row (.long x) _ rfl (ri_same K hAt)
  · split at h
    · next hv =>
      cases h
      rw [Bool.and_eq_true] at hv
      exact row2 _ _ _ ((ri_cat_cv _ _).trans (ri_c1_ok hv.1)) ((ri_cat_cv _ _).trans (ri_c1_ok hv.2)) (ri_same K hAt)
    · cases h
  · cases h
theorem ri_p_dupx1 (h : ri_dupx1 pc L st M cc sc = some (.inl fr)) (hAt : ri_At X D A s nL dA dT M L H locs ls) (K : ri_Go p l e R s m args below meth c Q X D A nL dA dT M.length cc fr) (row2 : ∀ v w rest, v.category = 1 → w.category = 1 → W p l e R s m args below meth c H locs cc sc Q (F0 m (pc + 1) ls (v :: w :: v :: rest)) → W p l e R s m args below meth c H locs cc sc Q (F0 m pc ls (v :: w :: rest))) : W p l e R s m args below meth c H locs cc sc Q (F0 m pc ls (st.map (ri_cv dA))) := by
  unfold ri_dupx1 at h
  split at h
  · split at h
    · next hv =>
      cases h
      rw [Bool.and_eq_true] at hv
      exact row2 _ _ _ ((ri_cat_cv _ _).trans (ri_c1_ok hv.1)) ((ri_cat_cv _ _).trans (ri_c1_ok hv.2)) (ri_same K hAt)
    · cases h
  · cases h
theorem ri_p_jmp {off : Int} {st0 : List Value} (h : ri_jmp off pc L st M cc sc = some (.inl fr)) (hAt : ri_At X D A s nL dA dT M L H locs ls) (K : ri_Go p l e R s m args below meth c Q X D A nL dA dT M.length cc fr) (row : ∀ tgt : Nat, (pc : Int) + off = (tgt : Int) → W p l e R s m args below meth c H locs cc sc Q (F0 m tgt ls (st.map (ri_cv dA))) → W p l e R s m args below meth c H locs cc sc Q (F0 m pc ls st0)) : W p l e R s m args below meth c H locs cc sc Q (F0 m pc ls st0) := by
  unfold ri_jmp at h
  split at h
  · next t ht =>
    cases h
    exact row t ht (ri_same K hAt)
  · cases h
theorem ri_p_nul {off : Int} {yes : Bool} (h : ri_nul off yes pc L st M cc sc = some (.inl fr)) (hAt : ri_At X D A s nL dA dT M L H locs ls) (K : ri_Go p l e R s m args below meth c Q X D A nL dA dT M.length cc fr) (rN : ∀ (tgt : Nat) rest, yes = true → (pc : Int) + off = (tgt : Int) → W p l e R s m args below meth c H locs cc sc Q (F0 m tgt ls rest) → W p l e R s m args below meth c H locs cc sc Q (F0 m pc ls (.null :: rest))) (rM : ∀ rest, yes = false → W p l e R s m args below meth c H locs cc sc Q (F0 m (pc + 3) ls rest) → W p l e R s m args below meth c H locs cc sc Q (F0 m pc ls (.null :: rest)))
    (rO : ∀ (tgt x : Nat) rest, yes = false → (pc : Int) + off = (tgt : Int) → W p l e R s m args below meth c H locs cc sc Q (F0 m tgt ls rest) → W p l e R s m args below meth c H locs cc sc Q (F0 m pc ls (.ref x :: rest))) (rP : ∀ (x : Nat) rest, yes = true → W p l e R s m args below meth c H locs cc sc Q (F0 m (pc + 3) ls rest) → W p l e R s m args below meth c H locs cc sc Q (F0 m pc ls (.ref x :: rest))) : W p l e R s m args below meth c H locs cc sc Q (F0 m pc ls (st.map (ri_cv dA))) := by
  unfold ri_nul at h
  split at h
  · next r => exact ri_p_jmp h hAt K (fun t ht k => rN t _ rfl ht k)
  · next r => cases h; exact rM _ rfl (ri_same K hAt)
  · next x r => exact ri_p_jmp h hAt K (fun t ht k => rO t (dA x) _ rfl ht k)
  · next x r => cases h; exact rP (dA x) _ rfl (ri_same K hAt)
  · cases h
theorem ri_p_tsw {d lo hi : Int} {offs : Array Int} (h : ri_tsw d lo hi offs pc L st M cc sc = some (.inl fr)) (hAt : ri_At X D A s nL dA dT M L H locs ls) (K : ri_Go p l e R s m args below meth c Q X D A nL dA dT M.length cc fr) (rO : ∀ (x : Int32) (tgt : Nat) rest, (x.toInt < lo ∨ hi < x.toInt) → (pc : Int) + d = (tgt : Int) → W p l e R s m args below meth c H locs cc sc Q (F0 m tgt ls rest) → W p l e R s m args below meth c H locs cc sc Q (F0 m pc ls (.int x :: rest)))
    (rI : ∀ (x : Int32) (off : Int) (tgt : Nat) rest, ¬ x.toInt < lo → ¬ hi < x.toInt → offs[(x.toInt - lo).toNat]? = some off → (pc : Int) + off = (tgt : Int) → W p l e R s m args below meth c H locs cc sc Q (F0 m tgt ls rest) → W p l e R s m args below meth c H locs cc sc Q (F0 m pc ls (.int x :: rest))) : W p l e R s m args below meth c H locs cc sc Q (F0 m pc ls (st.map (ri_cv dA))) := by
  unfold ri_tsw at h
  split at h
  · next x r =>
    split at h
    · next ho => exact ri_p_jmp h hAt K (fun t ht k => rO x t _ ho ht k)
    · next ho =>
      split at h
      · next off hoff => exact ri_p_jmp h hAt K (fun t ht k => rI x off t _ (fun q => ho (Or.inl q)) (fun q => ho (Or.inr q)) hoff ht k)
      · cases h
  · cases h
theorem ri_p_lsw {d : Int} {ps : Array (Int × Int)} (h : ri_lsw d ps pc L st M cc sc = some (.inl fr)) (hAt : ri_At X D A s nL dA dT M L H locs ls) (K : ri_Go p l e R s m args below meth c Q X D A nL dA dT M.length cc fr) (rO : ∀ (x : Int32) (tgt : Nat) rest, (ps.toList.zip (ps.toList.drop 1)).all (fun (a, next) => a.1 < next.1) = true → (pc : Int) + Op.lookupswitch.offset ps.toList d x.toInt = (tgt : Int) → W p l e R s m args below meth c H locs cc sc Q (F0 m tgt ls rest) → W p l e R s m args below meth c H locs cc sc Q (F0 m pc ls (.int x :: rest))) : W p l e R s m args below meth c H locs cc sc Q (F0 m pc ls (st.map (ri_cv dA))) := by
  unfold ri_lsw at h
  split at h
  · next x r =>
    split at h
    · next ho => exact ri_p_jmp h hAt K (fun t ht k => rO x t _ ho ht k)
    · cases h
  · cases h
theorem ri_cat_map {dA : Nat → Nat} {st : List Value} : ri_cat (st.map (ri_cv dA)) = ri_cat st := by
  unfold ri_cat
  rw [List.map_map]
  congr 1
  exact List.map_congr_left fun v _ => ri_cat_cv dA v
theorem ri_K1 {ty : FieldType} {x : vp_A} {k : Nat} (hAt : ri_At X D A s nL dA dT M L H locs ls) (h : M[k]? = some (.inl (ty, x))) : va_K D vwCl [(dT k, ty)] s := by
  refine ⟨hAt.1.1, fun j q hq => ?_⟩
  cases j with
  | zero => cases hq; exact hAt.2.1 k ty x h
  | succ j => cases hq
/-- a cell is written anew -/
theorem ri_put {pc1 k : Nat} {st1 : List Value} {x y : ri_C} {H1 : Heap} {locs1 : List Loc} (K : ri_Go p l e R s m args below meth c Q X D A nL dA dT M.length cc (pc1, L, st1, M.set k y, cc, sc)) (hAt : ri_At X D A s nL dA dT M L H locs ls) (hx : M[k]? = some x) (hy : ∀ (ty : FieldType) (a : vp_A), y = .inl (ty, a) → ∃ b, x = .inl (ty, b)) (hP : va_P D vwCl ((ri_ws dA dT M).set k (dA (k + 1), ri_ce dA (dT k) y)) H1) (hD : va_D A ((ri_ws dA dT M).set k (dA (k + 1), ri_ce dA (dT k) y))) (hS : va_S A s.heap H1 locs1) : W p l e R s m args below meth c H1 locs1 cc sc Q (F0 m pc1 ls (st1.map (ri_cv dA))) := by
  obtain ⟨a1, a2, a3, a4, a5, a6, a7, a8⟩ := hAt
  rw [ri_ws_set] at hP hD
  refine K dA dT H1 locs1 ls (ri_Ag.rf.len (by simp)) ⟨a1, fun j ty a hj => ?_, hP, hD, hS, a6, a7, a8⟩
  have hk : k < M.length := (List.getElem?_eq_some_iff.mp hx).1
  dsimp only at hj
  rw [List.getElem?_set] at hj
  by_cases hkj : k = j
  · subst hkj
    rw [if_pos rfl, if_pos hk] at hj
    obtain ⟨b, hb⟩ := hy ty a (Option.some.inj hj)
    subst hb
    exact a2 k ty b hx
  · rw [if_neg hkj] at hj
    exact a2 j ty a hj
theorem ri_fit_ok {dA : Nat → Nat} {ty : FieldType} {v : Value} (h : ri_fit ty v = true) : narrow ty (ri_cv dA v) = ri_cv dA v ∧ fits ty (ri_cv dA v) = true := by
  unfold ri_fit at h
  split at h
  · exact ⟨rfl, rfl⟩
  · exact ⟨rfl, rfl⟩
  · next x =>
    rw [Bool.or_eq_true, decide_eq_true_eq, decide_eq_true_eq] at h
    rcases h with rfl | rfl
    · exact ⟨rfl, rfl⟩
    · exact ⟨(by decide : narrow FieldType.boolean (Value.int 1) = Value.int 1), (by decide : fits FieldType.boolean (Value.int 1) = true)⟩
  · exact ⟨rfl, rfl⟩
  · exact ⟨rfl, rfl⟩
  · exact ⟨rfl, rfl⟩
  · exact ⟨rfl, rfl⟩
  · cases h
theorem ri_p_gf {a b : Nat} (h : ri_gf a b pc L st M cc sc = some (.inl fr)) (hAt : ri_At X D A s nL dA dT M L H locs ls) (K : ri_Go p l e R s m args below meth c Q X D A nL dA dT M.length cc fr) (row : ∀ (k : Nat) (fs : List Value) (v : Value) rest, (ri_ws dA dT M)[k]? = some (dA (k + 1), .inr (a, fs)) → fs[b]? = some v → W p l e R s m args below meth c H locs cc sc Q (F0 m (pc + 3) ls (v :: rest)) → W p l e R s m args below meth c H locs cc sc Q (F0 m pc ls (.ref (dA (k + 1)) :: rest))) : W p l e R s m args below meth c H locs cc sc Q (F0 m pc ls (st.map (ri_cv dA))) := by
  unfold ri_gf at h
  split at h
  · next k r =>
    split at h
    · next ci fs hM =>
      split at h
      · next hci =>
        split at h
        · next v hv =>
          cases h
          subst hci
          exact row k (fs.map (ri_cv dA)) (ri_cv dA v) _ (ri_ws_at hM) (by rw [List.getElem?_map, hv]; rfl) (ri_same K hAt)
        · cases h
      · cases h
    · cases h
  · cases h
theorem ri_p_pf {a b : Nat} (h : ri_pf a b pc L st M cc sc = some (.inl fr)) (hAt : ri_At X D A s nL dA dT M L H locs ls) (K : ri_Go p l e R s m args below meth c Q X D A nL dA dT M.length cc fr) (row : ∀ (k : Nat) (fs : List Value) (v : Value) rest, (ri_ws dA dT M)[k]? = some (dA (k + 1), .inr (a, fs)) → b < fs.length → narrow (ri_ft a b) v = v → fits (ri_ft a b) v = true → (∀ (H1 : Heap) (locs1 : List Loc), va_P D vwCl ((ri_ws dA dT M).set k (dA (k + 1), .inr (a, fs.set b v))) H1 → va_D A ((ri_ws dA dT M).set k (dA (k + 1), .inr (a, fs.set b v))) → va_S A s.heap H1 locs1 → W p l e R s m args below meth c H1 locs1 cc sc Q (F0 m (pc + 3) ls rest)) → W p l e R s m args below meth c H locs cc sc Q (F0 m pc ls (v :: .ref (dA (k + 1)) :: rest))) : W p l e R s m args below meth c H locs cc sc Q (F0 m pc ls (st.map (ri_cv dA))) := by
  unfold ri_pf at h
  split at h
  · next v k r =>
    split at h
    · next ci fs hM =>
      split at h
      · next hc =>
        obtain ⟨hci, hb, hf⟩ := hc
        cases h
        subst hci
        obtain ⟨f1, f2⟩ := ri_fit_ok (dA := dA) hf
        refine row k (fs.map (ri_cv dA)) (ri_cv dA v) _ (ri_ws_at hM) (by simpa using hb) f1 f2 (fun H1 locs1 hP hD hS => ?_)
        have e1 : (Sum.inr (ci, (fs.map (ri_cv dA)).set b (ri_cv dA v)) : va_E) = ri_ce dA (dT k) (.inr (ci, fs.set b v)) := by
          simp only [ri_ce, List.map_set]
        rw [e1] at hP hD
        exact ri_put K hAt hM (fun ty a h9 => by cases h9) hP hD hS
      · cases h
    · cases h
  · cases h
theorem ri_p_ial (h : ri_ial X pc L st M cc sc = some (.inl fr)) (hAt : ri_At X D A s nL dA dT M L H locs ls) (K : ri_Go p l e R s m args below meth c Q X D A nL dA dT M.length cc fr) (rowS : ∀ (n : Nat) (f : Nat → Int32) (i : Int32) rest, va_X (dA 0) n f s s.heap → dA 0 < s.heap.size → ¬ A (dA 0) → vp_in i n → W p l e R s m args below meth c H locs cc sc Q (F0 m (pc + 1) ls (.int (f i.toNatClampNeg) :: rest)) → W p l e R s m args below meth c H locs cc sc Q (F0 m pc ls (.int i :: .ref (dA 0) :: rest)))
    (row : ∀ (k : Nat) (n : Nat) (f : Nat → Int32) (i : Int32) rest, va_K D vwCl [(dT k, .int)] s → (ri_ws dA dT M)[k]? = some (dA (k + 1), .inl (dT k, n, .inl f)) → vp_in i n → W p l e R s m args below meth c H locs cc sc Q (F0 m (pc + 1) ls (.int (f i.toNatClampNeg) :: rest)) → W p l e R s m args below meth c H locs cc sc Q (F0 m pc ls (.int i :: .ref (dA (k + 1)) :: rest))) : W p l e R s m args below meth c H locs cc sc Q (F0 m pc ls (st.map (ri_cv dA))) := by
  unfold ri_ial at h
  split at h
  · next i r =>
    split at h
    · next n f =>
      split at h
      · cases h
      · next hi =>
        cases h
        obtain ⟨x1, x2, x3⟩ := hAt.2.2.2.2.2.2.2
        exact rowS n f i _ x1 x2 x3 hi (ri_same K hAt)
    · cases h
  · next i k r =>
    split at h
    · next n f hM =>
      split at h
      · cases h
      · next hi =>
        cases h
        exact row k n f i _ (ri_K1 hAt hM) (ri_ws_at hM) hi (ri_same K hAt)
    · cases h
  · cases h
theorem ri_p_bal (h : ri_bal pc L st M cc sc = some (.inl fr)) (hAt : ri_At X D A s nL dA dT M L H locs ls) (K : ri_Go p l e R s m args below meth c Q X D A nL dA dT M.length cc fr) (row : ∀ (k : Nat) (n : Nat) (f : Nat → Int32) (i : Int32) rest, va_K D vwCl [(dT k, .byte)] s → (ri_ws dA dT M)[k]? = some (dA (k + 1), .inl (dT k, n, .inl f)) → vp_in i n → W p l e R s m args below meth c H locs cc sc Q (F0 m (pc + 1) ls (.int (f i.toNatClampNeg) :: rest)) → W p l e R s m args below meth c H locs cc sc Q (F0 m pc ls (.int i :: .ref (dA (k + 1)) :: rest)))
    (rowz : ∀ (k : Nat) (n : Nat) (f : Nat → Int32) (i : Int32) rest, va_K D vwCl [(dT k, .boolean)] s → (ri_ws dA dT M)[k]? = some (dA (k + 1), .inl (dT k, n, .inl f)) → vp_in i n → W p l e R s m args below meth c H locs cc sc Q (F0 m (pc + 1) ls (.int (f i.toNatClampNeg) :: rest)) → W p l e R s m args below meth c H locs cc sc Q (F0 m pc ls (.int i :: .ref (dA (k + 1)) :: rest))) : W p l e R s m args below meth c H locs cc sc Q (F0 m pc ls (st.map (ri_cv dA))) := by
  unfold ri_bal at h
  split at h
  · next i k r =>
    split at h
    · next n f hM =>
      split at h
      · cases h
      · next hi =>
        cases h
        exact row k n f i _ (ri_K1 hAt hM) (ri_ws_at hM) hi (ri_same K hAt)
    · next n f hM =>
      split at h
      · cases h
      · next hi =>
        cases h
        exact rowz k n f i _ (ri_K1 hAt hM) (ri_ws_at hM) hi (ri_same K hAt)
    · cases h
  · cases h
theorem ri_p_lal (h : ri_lal pc L st M cc sc = some (.inl fr)) (hAt : ri_At X D A s nL dA dT M L H locs ls) (K : ri_Go p l e R s m args below meth c Q X D A nL dA dT M.length cc fr) (row : ∀ (k : Nat) (n : Nat) (f : Nat → Int64) (i : Int32) rest, va_K D vwCl [(dT k, .long)] s → (ri_ws dA dT M)[k]? = some (dA (k + 1), .inl (dT k, n, .inr (.inl f))) → vp_in i n → W p l e R s m args below meth c H locs cc sc Q (F0 m (pc + 1) ls (.long (f i.toNatClampNeg) :: rest)) → W p l e R s m args below meth c H locs cc sc Q (F0 m pc ls (.int i :: .ref (dA (k + 1)) :: rest))) : W p l e R s m args below meth c H locs cc sc Q (F0 m pc ls (st.map (ri_cv dA))) := by
  unfold ri_lal at h
  split at h
  · next i k r =>
    split at h
    · next n f hM =>
      split at h
      · cases h
      · next hi =>
        cases h
        exact row k n f i _ (ri_K1 hAt hM) (ri_ws_at hM) hi (ri_same K hAt)
    · cases h
  · cases h
theorem ri_rf_cv (dA : Nat → Nat) (o : Option Nat) : va_rf (o.map dA) = ri_cv dA (va_rf o) := by cases o <;> rfl
theorem ri_p_aal (h : ri_aal pc L st M cc sc = some (.inl fr)) (hAt : ri_At X D A s nL dA dT M L H locs ls) (K : ri_Go p l e R s m args below meth c Q X D A nL dA dT M.length cc fr) (row : ∀ (k : Nat) (C : String) (n : Nat) (f : Nat → Option Nat) (i : Int32) rest, va_K D vwCl [(dT k, .object C)] s → (ri_ws dA dT M)[k]? = some (dA (k + 1), .inl (dT k, n, .inr (.inr (.inr (.inr f))))) → vp_in i n → W p l e R s m args below meth c H locs cc sc Q (F0 m (pc + 1) ls (va_rf (f i.toNatClampNeg) :: rest)) → W p l e R s m args below meth c H locs cc sc Q (F0 m pc ls (.int i :: .ref (dA (k + 1)) :: rest))) : W p l e R s m args below meth c H locs cc sc Q (F0 m pc ls (st.map (ri_cv dA))) := by
  unfold ri_aal at h
  split at h
  · next i k r =>
    split at h
    · next C n f hM =>
      split at h
      · cases h
      · next hi =>
        cases h
        refine row k C n (fun j => (f j).map dA) i _ (ri_K1 hAt hM) (ri_ws_at hM) hi ?_
        rw [ri_rf_cv]
        exact ri_same K hAt
    · cases h
  · cases h
theorem ri_p_ias (h : ri_ias pc L st M cc sc = some (.inl fr)) (hAt : ri_At X D A s nL dA dT M L H locs ls) (K : ri_Go p l e R s m args below meth c Q X D A nL dA dT M.length cc fr) (row : ∀ (k : Nat) (n : Nat) (f : Nat → Int32) (i x : Int32) rest, va_K D vwCl [(dT k, .int)] s → (ri_ws dA dT M)[k]? = some (dA (k + 1), .inl (dT k, n, .inl f)) → vp_in i n → (∀ (H1 : Heap) (locs1 : List Loc), va_P D vwCl ((ri_ws dA dT M).set k (dA (k + 1), .inl (dT k, n, .inl (upd f i.toNatClampNeg x)))) H1 → va_D A ((ri_ws dA dT M).set k (dA (k + 1), .inl (dT k, n, .inl (upd f i.toNatClampNeg x)))) → va_S A s.heap H1 locs1 → W p l e R s m args below meth c H1 locs1 cc sc Q (F0 m (pc + 1) ls rest)) → W p l e R s m args below meth c H locs cc sc Q (F0 m pc ls (.int x :: .int i :: .ref (dA (k + 1)) :: rest))) : W p l e R s m args below meth c H locs cc sc Q (F0 m pc ls (st.map (ri_cv dA))) := by
  unfold ri_ias at h
  split at h
  · next x i k r =>
    split at h
    · next n f hM =>
      split at h
      · cases h
      · next hi =>
        cases h
        exact row k n f i x _ (ri_K1 hAt hM) (ri_ws_at hM) hi (fun H1 locs1 hP hD hS => ri_put K hAt hM (fun ty a h9 => by cases h9; exact ⟨_, rfl⟩) hP hD hS)
    · cases h
  · cases h
theorem ri_p_bas (h : ri_bas pc L st M cc sc = some (.inl fr)) (hAt : ri_At X D A s nL dA dT M L H locs ls) (K : ri_Go p l e R s m args below meth c Q X D A nL dA dT M.length cc fr) (row : ∀ (k : Nat) (n : Nat) (f : Nat → Int32) (i x : Int32) rest, va_K D vwCl [(dT k, .byte)] s → (ri_ws dA dT M)[k]? = some (dA (k + 1), .inl (dT k, n, .inl f)) → vp_in i n → (∀ (H1 : Heap) (locs1 : List Loc), va_P D vwCl ((ri_ws dA dT M).set k (dA (k + 1), .inl (dT k, n, .inl (upd f i.toNatClampNeg (vp_nar .byte x))))) H1 → va_D A ((ri_ws dA dT M).set k (dA (k + 1), .inl (dT k, n, .inl (upd f i.toNatClampNeg (vp_nar .byte x))))) → va_S A s.heap H1 locs1 → W p l e R s m args below meth c H1 locs1 cc sc Q (F0 m (pc + 1) ls rest)) → W p l e R s m args below meth c H locs cc sc Q (F0 m pc ls (.int x :: .int i :: .ref (dA (k + 1)) :: rest)))
    (rowz : ∀ (k : Nat) (n : Nat) (f : Nat → Int32) (i x : Int32) rest, va_K D vwCl [(dT k, .boolean)] s → (ri_ws dA dT M)[k]? = some (dA (k + 1), .inl (dT k, n, .inl f)) → vp_in i n → (∀ (H1 : Heap) (locs1 : List Loc), va_P D vwCl ((ri_ws dA dT M).set k (dA (k + 1), .inl (dT k, n, .inl (upd f i.toNatClampNeg (vp_nar .boolean x))))) H1 → va_D A ((ri_ws dA dT M).set k (dA (k + 1), .inl (dT k, n, .inl (upd f i.toNatClampNeg (vp_nar .boolean x))))) → va_S A s.heap H1 locs1 → W p l e R s m args below meth c H1 locs1 cc sc Q (F0 m (pc + 1) ls rest)) → W p l e R s m args below meth c H locs cc sc Q (F0 m pc ls (.int x :: .int i :: .ref (dA (k + 1)) :: rest))) : W p l e R s m args below meth c H locs cc sc Q (F0 m pc ls (st.map (ri_cv dA))) := by
  unfold ri_bas at h
  split at h
  · next x i k r =>
    split at h
    · next n f hM =>
      split at h
      · cases h
      · next hi =>
        cases h
        exact row k n f i x _ (ri_K1 hAt hM) (ri_ws_at hM) hi (fun H1 locs1 hP hD hS => ri_put K hAt hM (fun ty a h9 => by cases h9; exact ⟨_, rfl⟩) hP hD hS)
    · next n f hM =>
      split at h
      · cases h
      · next hi =>
        cases h
        exact rowz k n f i x _ (ri_K1 hAt hM) (ri_ws_at hM) hi (fun H1 locs1 hP hD hS => ri_put K hAt hM (fun ty a h9 => by cases h9; exact ⟨_, rfl⟩) hP hD hS)
    · cases h
  · cases h
theorem ri_p_las (h : ri_las pc L st M cc sc = some (.inl fr)) (hAt : ri_At X D A s nL dA dT M L H locs ls) (K : ri_Go p l e R s m args below meth c Q X D A nL dA dT M.length cc fr) (row : ∀ (k : Nat) (n : Nat) (f : Nat → Int64) (i : Int32) (x : Int64) rest, va_K D vwCl [(dT k, .long)] s → (ri_ws dA dT M)[k]? = some (dA (k + 1), .inl (dT k, n, .inr (.inl f))) → vp_in i n → (∀ (H1 : Heap) (locs1 : List Loc), va_P D vwCl ((ri_ws dA dT M).set k (dA (k + 1), .inl (dT k, n, .inr (.inl (vp_updL f i.toNatClampNeg x))))) H1 → va_D A ((ri_ws dA dT M).set k (dA (k + 1), .inl (dT k, n, .inr (.inl (vp_updL f i.toNatClampNeg x))))) → va_S A s.heap H1 locs1 → W p l e R s m args below meth c H1 locs1 cc sc Q (F0 m (pc + 1) ls rest)) → W p l e R s m args below meth c H locs cc sc Q (F0 m pc ls (.long x :: .int i :: .ref (dA (k + 1)) :: rest))) : W p l e R s m args below meth c H locs cc sc Q (F0 m pc ls (st.map (ri_cv dA))) := by
  unfold ri_las at h
  split at h
  · next x i k r =>
    split at h
    · next n f hM =>
      split at h
      · cases h
      · next hi =>
        cases h
        exact row k n f i x _ (ri_K1 hAt hM) (ri_ws_at hM) hi (fun H1 locs1 hP hD hS => ri_put K hAt hM (fun ty a h9 => by cases h9; exact ⟨_, rfl⟩) hP hD hS)
    · cases h
  · cases h
theorem ri_p_aas (h : ri_aas pc L st M cc sc = some (.inl fr)) (hAt : ri_At X D A s nL dA dT M L H locs ls) (K : ri_Go p l e R s m args below meth c Q X D A nL dA dT M.length cc fr) (row : ∀ (k v ci : Nat) (q : vw_C) (n : Nat) (vs : List Value) (f : Nat → Option Nat) (i : Int32) rest, va_K D vwCl [(dT k, .object q.1)] s → (ri_ws dA dT M)[k]? = some (dA (k + 1), .inl (dT k, n, .inr (.inr (.inr (.inr f))))) → (ri_ws dA dT M)[v]? = some (dA (v + 1), .inr (ci, vs)) → vwCl[ci]? = some q → vp_in i n → (∀ (H1 : Heap) (locs1 : List Loc), va_P D vwCl ((ri_ws dA dT M).set k (dA (k + 1), .inl (dT k, n, .inr (.inr (.inr (.inr (va_up f i.toNatClampNeg (some (dA (v + 1)))))))))) H1 → va_D A ((ri_ws dA dT M).set k (dA (k + 1), .inl (dT k, n, .inr (.inr (.inr (.inr (va_up f i.toNatClampNeg (some (dA (v + 1)))))))))) → va_S A s.heap H1 locs1 → W p l e R s m args below meth c H1 locs1 cc sc Q (F0 m (pc + 1) ls rest)) → W p l e R s m args below meth c H locs cc sc Q (F0 m pc ls (.ref (dA (v + 1)) :: .int i :: .ref (dA (k + 1)) :: rest))) : W p l e R s m args below meth c H locs cc sc Q (F0 m pc ls (st.map (ri_cv dA))) := by
  unfold ri_aas at h
  split at h
  · next v i k r =>
    split at h
    · next C n f ci vs hM hV =>
      split at h
      · next q hq =>
        split at h
        · cases h
        · next hi =>
          cases h
          have hC : C = q.1 := Classical.byContradiction fun h9 => hi (Or.inr h9)
          subst hC
          refine row k v ci q n _ (fun j => (f j).map dA) i _ (ri_K1 hAt hM) (ri_ws_at hM) (ri_ws_at hV) hq (fun h9 => hi (Or.inl h9)) (fun H1 locs1 hP hD hS => ?_)
          have e1 : va_up (fun j => (f j).map dA) i.toNatClampNeg (some (dA (v + 1))) = fun j => (va_up f i.toNatClampNeg (some (v + 1)) j).map dA := by
            funext j
            unfold va_up
            split <;> rfl
          rw [e1] at hP hD
          exact ri_put (y := .inl (.object q.1, (n, .inr (.inr (.inr (.inr (va_up f i.toNatClampNeg (some (v + 1))))))))) K hAt hM (fun ty a h9 => by cases h9; exact ⟨_, rfl⟩) hP hD hS
      · cases h
    · cases h
  · cases h
theorem ri_p_aln (h : ri_aln X pc L st M cc sc = some (.inl fr)) (hAt : ri_At X D A s nL dA dT M L H locs ls) (K : ri_Go p l e R s m args below meth c Q X D A nL dA dT M.length cc fr) (rowS : ∀ (n : Nat) (f : Nat → Int32) rest, va_X (dA 0) n f s s.heap → dA 0 < s.heap.size → ¬ A (dA 0) → W p l e R s m args below meth c H locs cc sc Q (F0 m (pc + 1) ls (.int (Int32.ofNat n) :: rest)) → W p l e R s m args below meth c H locs cc sc Q (F0 m pc ls (.ref (dA 0) :: rest)))
    (row : ∀ (k : Nat) (ty : FieldType) (x : vp_A) rest, va_K D vwCl [(dT k, ty)] s → (ri_ws dA dT M)[k]? = some (dA (k + 1), .inl (dT k, x)) → W p l e R s m args below meth c H locs cc sc Q (F0 m (pc + 1) ls (.int (Int32.ofNat x.1) :: rest)) → W p l e R s m args below meth c H locs cc sc Q (F0 m pc ls (.ref (dA (k + 1)) :: rest))) : W p l e R s m args below meth c H locs cc sc Q (F0 m pc ls (st.map (ri_cv dA))) := by
  unfold ri_aln at h
  split at h
  · split at h
    · next n f =>
      cases h
      obtain ⟨x1, x2, x3⟩ := hAt.2.2.2.2.2.2.2
      exact rowS n f _ x1 x2 x3 (ri_same K hAt)
    · cases h
  · next k r =>
    split at h
    · next ty x hM =>
      cases h
      refine row k ty (ri_cx dA x) _ (ri_K1 hAt hM) (ri_ws_at hM) ?_
      have e1 : (ri_cx dA x).1 = x.1 := by
        unfold ri_cx
        split <;> rfl
      rw [e1]
      exact ri_same K hAt
    · cases h
  · cases h
theorem ri_p_oin (h : ri_oin pc L st M cc sc = some (.inl fr)) (hAt : ri_At X D A s nL dA dT M L H locs ls) (K : ri_Go p l e R s m args below meth c Q X D A nL dA dT M.length cc fr) (row : ∀ (x : Nat) rest, ri_cat rest ≤ 8 → W p l e R s m args below meth c H locs cc sc Q (F0 m (pc + 3) ls rest) → W p l e R s m args below meth c H locs cc sc Q (F0 m pc ls (.ref x :: rest))) : W p l e R s m args below meth c H locs cc sc Q (F0 m pc ls (st.map (ri_cv dA))) := by
  unfold ri_oin at h
  split at h
  · next x r =>
    split at h
    · next hr =>
      cases h
      exact row (dA x) _ (by rw [ri_cat_map]; exact hr) (ri_same K hAt)
    · cases h
  · cases h
theorem ri_p_mm {f : Int32 → Int32 → Int32} (h : ri_mm f pc L st M cc sc = some (.inl fr)) (hAt : ri_At X D A s nL dA dT M L H locs ls) (K : ri_Go p l e R s m args below meth c Q X D A nL dA dT M.length cc fr) (row : ∀ x y rest, ri_cat rest ≤ 8 → W p l e R s m args below meth c H locs cc sc Q (F0 m (pc + 3) ls (.int (f x y) :: rest)) → W p l e R s m args below meth c H locs cc sc Q (F0 m pc ls (.int y :: .int x :: rest))) : W p l e R s m args below meth c H locs cc sc Q (F0 m pc ls (st.map (ri_cv dA))) := by
  unfold ri_mm at h
  split at h
  · split at h
    · next hr =>
      cases h
      exact row _ _ _ (by rw [ri_cat_map]; exact hr) (ri_same K hAt)
    · cases h
  · cases h
theorem ri_p_ma (h : ri_ma pc L st M cc sc = some (.inl fr)) (hAt : ri_At X D A s nL dA dT M L H locs ls) (K : ri_Go p l e R s m args below meth c Q X D A nL dA dT M.length cc fr) (row : ∀ x rest, ri_cat rest ≤ 8 → W p l e R s m args below meth c H locs cc sc Q (F0 m (pc + 3) ls (.int (if 0 ≤ x then x else 0 - x) :: rest)) → W p l e R s m args below meth c H locs cc sc Q (F0 m pc ls (.int x :: rest))) : W p l e R s m args below meth c H locs cc sc Q (F0 m pc ls (st.map (ri_cv dA))) := by
  unfold ri_ma at h
  split at h
  · split at h
    · next hr =>
      cases h
      exact row _ _ (by rw [ri_cat_map]; exact hr) (ri_same K hAt)
    · cases h
  · cases h
theorem ri_p_acp (h : ri_acp pc L st M cc sc = some (.inl fr)) (hAt : ri_At X D A s nL dA dT M L H locs ls) (K : ri_Go p l e R s m args below meth c Q X D A nL dA dT M.length cc fr) (row : ∀ (k0 k : Nat) (n0 n1 : Nat) (f g : Nat → Int32) (sp dp n : Int32) rest, va_K D vwCl [(dT k0, .int), (dT k, .int)] s → (ri_ws dA dT M)[k0]? = some (dA (k0 + 1), .inl (dT k0, n0, .inl f)) → (ri_ws dA dT M)[k]? = some (dA (k + 1), .inl (dT k, n1, .inl g)) → (¬ sp < 0 ∧ ¬ dp < 0 ∧ ¬ n < 0 ∧ sp.toNatClampNeg + n.toNatClampNeg ≤ n0 ∧ dp.toNatClampNeg + n.toNatClampNeg ≤ n1) → ri_cat rest ≤ 8 → (∀ (H1 : Heap) (locs1 : List Loc), va_P D vwCl ((ri_ws dA dT M).set k (dA (k + 1), .inl (dT k, n1, .inl (va_cpy f g sp.toNatClampNeg dp.toNatClampNeg n.toNatClampNeg)))) H1 → va_D A ((ri_ws dA dT M).set k (dA (k + 1), .inl (dT k, n1, .inl (va_cpy f g sp.toNatClampNeg dp.toNatClampNeg n.toNatClampNeg)))) → va_S A s.heap H1 locs1 → W p l e R s m args below meth c H1 locs1 cc sc Q (F0 m (pc + 3) ls rest)) → W p l e R s m args below meth c H locs cc sc Q (F0 m pc ls (.int n :: .int dp :: .ref (dA (k + 1)) :: .int sp :: .ref (dA (k0 + 1)) :: rest))) : W p l e R s m args below meth c H locs cc sc Q (F0 m pc ls (st.map (ri_cv dA))) := by
  unfold ri_acp at h
  split at h
  · next n dp k sp k0 r =>
    split at h
    · next n0 f n1 g hM0 hM =>
      split at h
      · next hc =>
        cases h
        have hK : va_K D vwCl [(dT k0, .int), (dT k, .int)] s := by
          refine ⟨hAt.1.1, fun j q hq => ?_⟩
          match j, hq with
          | 0, hq => cases hq; exact hAt.2.1 k0 _ _ hM0
          | 1, hq => cases hq; exact hAt.2.1 k _ _ hM
          | j + 2, hq => cases hq
        exact row k0 k n0 n1 f g sp dp n _ hK (ri_ws_at hM0) (ri_ws_at hM) hc.1 (by rw [ri_cat_map]; exact hc.2) (fun H1 locs1 hP hD hS => ri_put K hAt hM (fun ty a h9 => by cases h9; exact ⟨_, rfl⟩) hP hD hS)
      · cases h
    · cases h
  · cases h
theorem ri_arrV {cA : ClassId} {z : Nat} {f g : Nat → Value} (h : ∀ j, j < z → f j = g j) : arrV cA z f = arrV cA z g := by
  unfold arrV
  congr 1
  first | (apply Array.ext <;> simp (config := { contextual := true }) [h]; done) | (congr 1; exact List.map_congr_left fun j hj => h j (List.mem_range.mp hj)) | skip
theorem ri_cv_eq {dA dA1 : Nat → Nat} {n : Nat} (h : ∀ k, k ≤ n → dA1 k = dA k) {v : Value} (hv : ri_okv n v = true) : ri_cv dA1 v = ri_cv dA v := by
  cases v with
  | ref k => exact congrArg Value.ref (h k (Nat.le_of_ble_eq_true hv))
  | _ => rfl
theorem ri_map_eq {dA dA1 : Nat → Nat} {n : Nat} (h : ∀ k, k ≤ n → dA1 k = dA k) {st1 : List Value} (hs : st1.all (ri_okv n) = true) : st1.map (ri_cv dA1) = st1.map (ri_cv dA) := List.map_congr_left fun v hv => ri_cv_eq h (List.all_eq_true.mp hs v hv)
theorem ri_okL_get {n : Nat} {L : ri_L} (h : ri_okL n L = true) {i : Nat} {v : Value} (hg : ri_get L i = some v) : ri_okv n v = true := by
  unfold ri_get at hg
  split at hg
  · next o ho =>
    subst hg
    exact List.all_eq_true.mp h (some v) (List.mem_of_getElem? ho)
  · cases hg
theorem ri_lv_eq {dA dA1 : Nat → Nat} {n : Nat} (h : ∀ k, k ≤ n → dA1 k = dA k) {L : ri_L} (hL : ri_okL n L = true) {ls : Array Slot} {nL : Nat} (hl : lv_has ls nL (ri_lv dA L)) : lv_has ls nL (ri_lv dA1 L) := by
  refine ⟨hl.1, hl.2.1, fun q hq => hl.2.2 q ?_⟩
  obtain ⟨v, hv, e⟩ := ri_lv_mem.mp hq
  exact ri_lv_mem.mpr ⟨v, hv, by rw [e]; exact ri_cv_eq h (ri_okL_get hL hv)⟩
theorem ri_at_eq {dA dA1 : Nat → Nat} {n : Nat} (h : ∀ k, k ≤ n → dA1 k = dA k) {x : ri_C} (hx : ri_okc n x = true) {a : Nat} {cA : ClassId} {H1 : Heap} (hp : va_at D vwCl (a, ri_ce dA cA x) H1) : va_at D vwCl (a, ri_ce dA1 cA x) H1 := by
  rcases x with ⟨ty, y⟩ | ⟨ci, fs⟩
  · obtain ⟨z, y⟩ := y
    rcases y with f | f | f | f | f
    · exact hp
    · exact hp
    · exact hp
    · exact hp
    · have e1 : vp_cell cA (ri_cx dA1 (z, .inr (.inr (.inr (.inr f))))) = vp_cell cA (ri_cx dA (z, .inr (.inr (.inr (.inr f))))) := by
        show arrV cA z (fun j => va_rf ((f j).map dA1)) = arrV cA z (fun j => va_rf ((f j).map dA))
        refine ri_arrV fun j hj => ?_
        have h2 := List.all_eq_true.mp hx j (List.mem_range.mpr hj)
        cases hf : f j with
        | none => rfl
        | some q =>
          rw [hf] at h2
          show Value.ref (dA1 q) = Value.ref (dA q)
          rw [h q (Nat.le_of_ble_eq_true h2)]
      show H1[a]? = some (vp_cell cA (ri_cx dA1 (z, .inr (.inr (.inr (.inr f))))))
      rw [e1]
      exact hp
  · have e1 : fs.map (ri_cv dA1) = fs.map (ri_cv dA) := ri_map_eq h hx
    show va_at D vwCl (a, .inr (ci, fs.map (ri_cv dA1))) H1
    rw [e1]
    exact hp
/-- a cell comes -/
theorem ri_push {pc1 s1 : Nat} {st1 : List Value} {x : ri_C} {H1 : Heap} {cA : ClassId} {q : Nat} (hw : ri_wf M L st1 = true) (K : ri_Go p l e R s m args below meth c Q X D A nL dA dT M.length cc (pc1, L, .ref (M.length + 1) :: st1, M ++ [x], cc + 1, s1)) (hAt : ri_At X D A s nL dA dT M L H locs ls) (hx : ∀ dA1 dA2 : Nat → Nat, ri_ce dA1 cA x = ri_ce dA2 cA x) (hT : ∀ (ty : FieldType) (a : vp_A), x = .inl (ty, a) → ArrOfT s cA ty ∧ va_RA s cA ty) (hP : va_P D vwCl (ri_ws dA dT M ++ [(q, ri_ce dA cA x)]) H1) (hD : va_D A (ri_ws dA dT M ++ [(q, ri_ce dA cA x)])) (hS : va_S A s.heap H1 locs) : W p l e R s m args below meth c H1 locs (cc + 1) s1 Q (F0 m pc1 ls (.ref q :: st1.map (ri_cv dA))) := by
  obtain ⟨a1, a2, a3, a4, a5, a6, a7, a8⟩ := hAt
  unfold ri_wf at hw
  simp only [Bool.and_eq_true] at hw
  obtain ⟨⟨w1, w2⟩, w3⟩ := hw
  obtain ⟨dA1, hd1⟩ : ∃ f : Nat → Nat, f = fun k => if k = M.length + 1 then q else dA k := ⟨_, rfl⟩
  obtain ⟨dT1, ht1⟩ : ∃ f : Nat → ClassId, f = fun k => if k = M.length then cA else dT k := ⟨_, rfl⟩
  have g1 : ∀ k, k ≤ M.length → dA1 k = dA k := fun k hk => by rw [hd1]; exact if_neg (by omega)
  have g2 : ∀ k, k < M.length → dT1 k = dT k := fun k hk => by rw [ht1]; exact if_neg (by omega)
  have g3 : dA1 (M.length + 1) = q := by rw [hd1]; exact if_pos rfl
  have g4 : dT1 M.length = cA := by rw [ht1]; exact if_pos rfl
  have inv : ∀ (k : Nat) (y : Nat × va_E), (ri_ws dA1 dT1 (M ++ [x]))[k]? = some y → (k < M.length ∧ ∃ z, M[k]? = some z ∧ y = (dA (k + 1), ri_ce dA1 (dT k) z)) ∨ (k = M.length ∧ y = (q, ri_ce dA cA x)) := by
    intro k y hy
    obtain ⟨z, h1, h2⟩ := ri_ws_inv hy
    by_cases hk : k < M.length
    · rw [List.getElem?_append_left hk] at h1
      refine Or.inl ⟨hk, z, h1, ?_⟩
      rw [h2, g1 (k + 1) hk, g2 k hk]
    · have hk2 : k = M.length := by
        have := (List.getElem?_eq_some_iff.mp h1).1
        simp at this
        omega
      subst hk2
      rw [List.getElem?_append_right (Nat.le_refl _), Nat.sub_self] at h1
      cases h1
      exact Or.inr ⟨rfl, by rw [h2, g3, g4, hx dA1 dA]⟩
  have old : ∀ (k : Nat) (z : ri_C), M[k]? = some z → (ri_ws dA dT M ++ [(q, ri_ce dA cA x)])[k]? = some (dA (k + 1), ri_ce dA (dT k) z) := fun k z hz => by
    have hk : k < (ri_ws dA dT M).length := by rw [ri_ws_len]; exact (List.getElem?_eq_some_iff.mp hz).1
    rw [List.getElem?_append_left hk]
    exact ri_ws_at hz
  have new : (ri_ws dA dT M ++ [(q, ri_ce dA cA x)])[M.length]? = some (q, ri_ce dA cA x) := by
    rw [List.getElem?_append_right (by rw [ri_ws_len]; exact Nat.le_refl _), ri_ws_len, Nat.sub_self]
    rfl
  have hP1 : va_P D vwCl (ri_ws dA1 dT1 (M ++ [x])) H1 := by
    intro k y hy
    rcases inv k y hy with ⟨hk, z, hz, e1⟩ | ⟨hk, e1⟩
    · rw [e1]
      exact ri_at_eq g1 (List.all_eq_true.mp w1 z (List.mem_of_getElem? hz)) (hP k _ (old k z hz))
    · rw [e1]
      exact hP M.length _ new
  have hD1 : va_D A (ri_ws dA1 dT1 (M ++ [x])) := by
    have adr : ∀ (k : Nat) (y : Nat × va_E), (ri_ws dA1 dT1 (M ++ [x]))[k]? = some y → ∃ y2, (ri_ws dA dT M ++ [(q, ri_ce dA cA x)])[k]? = some y2 ∧ y.1 = y2.1 := by
      intro k y hy
      rcases inv k y hy with ⟨hk, z, hz, e1⟩ | ⟨hk, e1⟩
      · exact ⟨_, old k z hz, by rw [e1]⟩
      · exact ⟨_, by rw [hk]; exact new, by rw [e1]⟩
    refine ⟨fun i j y z hy hz hyz => ?_, fun k y hy => ?_⟩
    · obtain ⟨y2, b1, b2⟩ := adr i y hy
      obtain ⟨z2, b3, b4⟩ := adr j z hz
      exact hD.1 i j y2 z2 b1 b3 (by rw [← b2, ← b4]; exact hyz)
    · obtain ⟨y2, b1, b2⟩ := adr k y hy
      rw [b2]
      exact hD.2 k y2 b1
  have z1 := K dA1 dT1 H1 locs ls ⟨by simp, Nat.le_succ _, g1, g2, fun h9 => absurd h9 (Nat.succ_ne_self _)⟩ ⟨a1, fun k ty a hk => ?_, hP1, hD1, hS, a6, ri_lv_eq g1 w2 a7, by rw [g1 0 (Nat.zero_le _)]; exact a8⟩
  · dsimp only at z1
    rw [List.map_cons, ri_map_eq g1 w3] at z1
    have e9 : ri_cv dA1 (.ref (M.length + 1)) = .ref q := congrArg Value.ref g3
    rw [e9] at z1
    exact z1
  · dsimp only at hk
    by_cases hk2 : k < M.length
    · rw [List.getElem?_append_left hk2] at hk
      rw [g2 k hk2]
      exact a2 k ty a hk
    · have hk3 : k = M.length := by
        have := (List.getElem?_eq_some_iff.mp hk).1
        simp at this
        omega
      subst hk3
      rw [List.getElem?_append_right (Nat.le_refl _), Nat.sub_self] at hk
      cases hk
      rw [g4]
      exact hT ty a rfl
theorem ri_p_nwa {t : ArrayType} (h : ri_nwa t pc L st M cc sc = some (.inl fr)) (hAt : ri_At X D A s nL dA dT M L H locs ls) (K : ri_Go p l e R s m args below meth c Q X D A nL dA dT M.length cc fr) (row : ∀ (n : Int32) (g : Nat → vp_A) rest, ri_dft t = some g → ¬ n < 0 → n.toNatClampNeg * componentBytes (newarray.typeOf t) ≤ 536870912 → fr.2.2.2.2.1 = cc + 1 → fr.2.2.2.2.2 = sc + n.toNatClampNeg → (∀ (q : Nat) (cA : ClassId) (H1 : Heap), va_K D vwCl ([] ++ [(cA, newarray.typeOf t)]) s → va_P D vwCl (ri_ws dA dT M ++ [(q, .inl (cA, g n.toNatClampNeg))]) H1 → va_D A (ri_ws dA dT M ++ [(q, .inl (cA, g n.toNatClampNeg))]) → va_S A s.heap H1 locs → W p l e R s m args below meth c H1 locs (cc + 1) (sc + n.toNatClampNeg) Q (F0 m (pc + 2) ls (.ref q :: rest))) → W p l e R s m args below meth c H locs cc sc Q (F0 m pc ls (.int n :: rest))) : W p l e R s m args below meth c H locs cc sc Q (F0 m pc ls (st.map (ri_cv dA))) := by
  unfold ri_nwa at h
  split at h
  · next n r =>
    split at h
    · next g hg =>
      split at h
      · next hc =>
        obtain ⟨⟨c1, c2⟩, c3⟩ := hc
        cases h
        have e1 : ∀ (d : Nat → Nat), ri_cx d (g n.toNatClampNeg) = g n.toNatClampNeg := by
          intro d
          cases t <;> first | (cases hg; rfl) | cases hg
        refine row n g _ hg c1 c2 rfl rfl (fun q cA H1 hK hP hD hS => ri_push (x := .inl (newarray.typeOf t, g n.toNatClampNeg)) (cA := cA) c3 K hAt (fun d1 d2 => ?_) (fun ty a h9 => ?_) ?_ ?_ hS)
        · show (Sum.inl (cA, ri_cx d1 _) : va_E) = Sum.inl (cA, ri_cx d2 _)
          rw [e1 d1, e1 d2]
        · cases h9
          exact hK.2 0 _ rfl
        · show va_P D vwCl (ri_ws dA dT M ++ [(q, .inl (cA, ri_cx dA _))]) H1
          rw [e1 dA]
          exact hP
        · show va_D A (ri_ws dA dT M ++ [(q, .inl (cA, ri_cx dA _))])
          rw [e1 dA]
          exact hD
      · cases h
    · cases h
  · cases h
theorem ri_p_nwq {a : Nat} (h : ri_nwq a pc L st M cc sc = some (.inl fr)) (hAt : ri_At X D A s nL dA dT M L H locs ls) (K : ri_Go p l e R s m args below meth c Q X D A nL dA dT M.length cc fr) (row : ∀ (n : Int32) (q0 : vw_C) rest, vwCl[a]? = some q0 → ¬ n < 0 → n.toNatClampNeg * 4 ≤ 536870912 → fr.2.2.2.2.1 = cc + 1 → fr.2.2.2.2.2 = sc + n.toNatClampNeg → (∀ (q : Nat) (cA : ClassId) (H1 : Heap), va_K D vwCl ([] ++ [(cA, .object q0.1)]) s → va_P D vwCl (ri_ws dA dT M ++ [(q, .inl (cA, n.toNatClampNeg, .inr (.inr (.inr (.inr (fun _ => none))))))]) H1 → va_D A (ri_ws dA dT M ++ [(q, .inl (cA, n.toNatClampNeg, .inr (.inr (.inr (.inr (fun _ => none))))))]) → va_S A s.heap H1 locs → W p l e R s m args below meth c H1 locs (cc + 1) (sc + n.toNatClampNeg) Q (F0 m (pc + 3) ls (.ref q :: rest))) → W p l e R s m args below meth c H locs cc sc Q (F0 m pc ls (.int n :: rest))) : W p l e R s m args below meth c H locs cc sc Q (F0 m pc ls (st.map (ri_cv dA))) := by
  unfold ri_nwq at h
  split at h
  · next n r =>
    split at h
    · next q0 hg =>
      split at h
      · next hc =>
        obtain ⟨⟨c1, c2⟩, c3⟩ := hc
        cases h
        refine row n q0 _ hg c1 c2 rfl rfl (fun q cA H1 hK hP hD hS => ri_push (x := .inl (.object q0.1, (n.toNatClampNeg, .inr (.inr (.inr (.inr fun _ => none)))))) (cA := cA) c3 K hAt (fun d1 d2 => rfl) (fun ty a h9 => ?_) hP hD hS)
        cases h9
        exact hK.2 0 _ rfl
      · cases h
    · cases h
  · cases h
theorem ri_p_nwo {a : Nat} (h : ri_nwo a pc L st M cc sc = some (.inl fr)) (hAt : ri_At X D A s nL dA dT M L H locs ls) (K : ri_Go p l e R s m args below meth c Q X D A nL dA dT M.length cc fr) (hnr : ∀ d : Nat → Nat, (ri_new a).map (ri_cv d) = ri_new a) (row : ∀ rest, fr.2.2.2.2.1 = cc + 1 → fr.2.2.2.2.2 = sc + ri_fn a → (∀ (q : Nat) (H1 : Heap), va_P D vwCl (ri_ws dA dT M ++ [(q, .inr (a, ri_new a))]) H1 → va_D A (ri_ws dA dT M ++ [(q, .inr (a, ri_new a))]) → va_S A s.heap H1 locs → W p l e R s m args below meth c H1 locs (cc + 1) (sc + ri_fn a) Q (F0 m (pc + 3) ls (.ref q :: rest))) → W p l e R s m args below meth c H locs cc sc Q (F0 m pc ls rest)) : W p l e R s m args below meth c H locs cc sc Q (F0 m pc ls (st.map (ri_cv dA))) := by
  unfold ri_nwo at h
  split at h
  · next hw =>
    cases h
    refine row _ rfl rfl (fun q H1 hP hD hS => ri_push (x := .inr (a, ri_new a)) (cA := 0) hw K hAt (fun d1 d2 => ?_) (fun ty a h9 => by cases h9) ?_ ?_ hS)
    · show (Sum.inr (a, (ri_new a).map (ri_cv d1)) : va_E) = Sum.inr (a, (ri_new a).map (ri_cv d2))
      rw [hnr d1, hnr d2]
    · show va_P D vwCl (ri_ws dA dT M ++ [(q, .inr (a, (ri_new a).map (ri_cv dA)))]) H1
      rw [hnr dA]
      exact hP
    · show va_D A (ri_ws dA dT M ++ [(q, .inr (a, (ri_new a).map (ri_cv dA)))])
      rw [hnr dA]
      exact hD
  · cases h
noncomputable def ri_wsy (a : Nat) : List Cond := .code (ri_y a) (ri_b a) (ri_ml a) (ri_rt a) :: ri_ac
noncomputable def ri_rm (F c1 s1 : Nat) : Room := { frames := F + 1, cells := c1, slots := s1, locals := 400 * (F + 1) }
noncomputable def ri_P (D : va_G) (dA : Nat → Nat) (dT : Nat → ClassId) (as : List Value) (M : ri_M) (sz : Nat) : Array Value → State → Prop := va_Pc (as.map (ri_cv dA)) fun U => U.heap.size = sz ∧ va_P D vwCl (ri_ws dA dT M) U.heap ∧ va_K D vwCl [] U ∧ (∀ (k : Nat) (ty : FieldType) (a : vp_A), M[k]? = some (.inl (ty, a)) → ArrOfT U (dT k) ty ∧ va_RA U (dT k) ty) ∧ va_D (fun _ => True) (ri_ws dA dT M) ∧ ∀ w ∈ ri_tb, ri_nac w = true → w.before #[] U = true
noncomputable def ri_Q (D : va_G) (dA : Nat → Nat) (dT : Nat → ClassId) (M : ri_M) (r : Option Value) (M1 : ri_M) (c1 sz : Nat) : Array Value → State → Outcome → State → Prop := fun _ st oc t => ∃ (dA1 : Nat → Nat) (dT1 : Nat → ClassId), ri_Ag M.length dA dT 0 M1.length dA1 dT1 c1 ∧ oc = .returned (r.map (ri_cv dA1)) ∧ va_P D vwCl (ri_ws dA1 dT1 M1) t.heap ∧ (∀ (k : Nat) (ty : FieldType) (a : vp_A), M1[k]? = some (.inl (ty, a)) → ArrOfT t (dT1 k) ty ∧ va_RA t (dT1 k) ty) ∧ va_D (va_A (ri_ws dA dT M) sz) (ri_ws dA1 dT1 M1) ∧ va_F (va_A (ri_ws dA dT M) sz) st t
noncomputable def ri_Cal (l : Launch) (call : ri_Ca) (F : Nat) : Prop := ∀ (a : Nat) (as : List Value) (M : ri_M) (r : Option Value) (M1 : ri_M) (c1 s1 : Nat), call a as M = some (r, M1, c1, s1) → ∀ (D : va_G) (dA : Nat → Nat) (dT : Nat → ClassId) (sz : Nat), Met l (ri_y a) (ri_wsy a) (ri_rm F c1 s1) (ri_P D dA dT as M sz) (ri_Q D dA dT M r M1 c1 sz) c1 s1 (va_A (ri_ws dA dT M) sz)
theorem ri_blind {D : va_G} {dA : Nat → Nat} {dT : Nat → ClassId} {as : List Value} {M : ri_M} {sz : Nat} : FrameBlind (ri_P D dA dT as M sz) := fun a U g mk q => by
  obtain ⟨q0, q1, qP, qK, qT, qD, qW⟩ := q
  exact ⟨q0, q1, qP, va_K.moved (u := U) (U := U.calling g mk a) (Vm.Alike.refl U.vm) qK, fun k ty x h => ⟨arrOfT_moved (hvm := (Vm.Alike.refl U.vm : U.vm.Alike (U.calling g mk a).vm)) (qT k ty x h).1, va_RA.moved (hvm := (Vm.Alike.refl U.vm : U.vm.Alike (U.calling g mk a).vm)) (qT k ty x h).2⟩, qD, ri_still (s := U) (U := U.calling g mk a) rfl qW⟩
theorem ri_pre (hts : ∀ w ∈ ri_tb, w.before args s = true) (hAt : ri_At X D A s nL dA dT M L H locs ls) {as : List Value} {vs : Array Value} (hv : vs = (as.map (ri_cv dA)).toArray) : ∀ U : State, U.heap = H → s.WarmedH U.vm → ri_P D dA dT as M H.size vs U := by
  intro U hU hW
  obtain ⟨a1, a2, a3, a4, a5, a6, a7, a8⟩ := hAt
  exact ⟨hv, by rw [hU], by rw [hU]; exact a3, va_K.moved hW.alike a1, fun k ty x h => ⟨arrOfT_moved hW.alike (a2 k ty x h).1, va_RA.moved hW.alike (a2 k ty x h).2⟩, a4.weaken (fun _ _ _ _ => trivial), ri_warm hts hW⟩
theorem ri_called {st0 rest0 rr : List Value} {r : Option Value} {M1 : ri_M} {c1 s1 : Nat} {aa : Array Value} (hr : va_Run p l e R s m args below meth c H locs cc sc c1 s1 (F0 m pc ls st0) rest0 (ri_Q D dA dT M r M1 c1 H.size aa) (va_A (ri_ws dA dT M) H.size)) (hAt : ri_At X D A s nL dA dT M L H locs ls) (hA : ∀ q, s.heap.size ≤ q → A q) (hwf : c1 = 0 ∨ (ri_okL M.length L && rr.all (ri_okv M.length)) = true) (hrest : rest0 = rr.map (ri_cv dA)) (K : ri_Go p l e R s m args below meth c Q X D A nL dA dT M.length cc (pc + 3, L, r.toList ++ rr, M1, cc + c1, sc + s1)) : W p l e R s m args below meth c H locs cc sc Q (F0 m pc ls st0) := by
  intro T hT Xs
  obtain ⟨v, st₀, t, T', Lc, h0, X', hL, e1, e2, ⟨dA1, dT1, hag, hv, hP, hTt, hD, hz, hk⟩, sts⟩ := hr T hT Xs
  obtain ⟨a1, a2, a3, a4, a5, a6, a7, a8⟩ := hAt
  obtain ⟨g1, g2, g3, g4, g5⟩ := hag
  have hv : v = r.map (ri_cv dA1) := by cases hv; rfl
  have hal : s.vm.Alike t.vm := by rw [← e2]; exact X'.warmed.alike
  rw [h0] at hz hk
  have hF : ∀ q, va_A (ri_ws dA dT M) H.size q → A q := fun q h => by
    rcases h with ⟨k, y, h⟩ | h
    · exact a4.2 k _ h
    · exact hA q (Nat.le_trans a5.1 h)
  have hS1 : va_S A s.heap T'.heap (locs ++ Lc) := ⟨Nat.le_trans a5.1 (by rw [e1]; exact hz), fun q h1 h2 => by rw [e1, hk q (Nat.lt_of_lt_of_le h1 a5.1) (fun z => h2 (hF q z))]; exact a5.2.1 q h1 h2, fun q hq => by
    rcases List.mem_append.mp hq with h | h
    · exact a5.2.2 q h
    · exact hF _ (hL q h)⟩
  have hl1 : lv_has ls nL (ri_lv dA1 L) := by
    rcases hwf with h | h
    · rw [(g5 h).1]; exact a7
    · rw [Bool.and_eq_true] at h
      exact ri_lv_eq g3 h.1 a7
  have hst : rr.map (ri_cv dA1) = rest0 := by
    rw [hrest]
    rcases hwf with h | h
    · rw [(g5 h).1]
    · rw [Bool.and_eq_true] at h
      exact ri_map_eq g3 h.2
  have z1 := K dA1 dT1 T'.heap (locs ++ Lc) ls ⟨g1, Nat.le_add_right _ _, g3, g4, fun h9 => g5 (by dsimp only at h9; omega)⟩ ⟨a1, fun k ty x h => ⟨arrOfT_moved hal.symm (hTt k ty x h).1, va_RA.moved hal.symm (hTt k ty x h).2⟩, by rw [e1]; exact hP, hD.weaken (fun k q _ h => hF q.1 h), hS1, a6, hl1, by rw [g3 0 (Nat.zero_le _)]; exact a8⟩
  dsimp only at z1
  have e5 : (r.toList ++ rr).map (ri_cv dA1) = v.toList ++ rest0 := by
    rw [List.map_append, hst, hv]
    cases r <;> rfl
  rw [e5] at z1
  obtain ⟨t2, b1, b2⟩ := z1 T' rfl X'
  exact ⟨t2, sts t2 b1, b2⟩
theorem ri_spl_ok : ∀ (n : Nat) (acc st as r : List Value), ri_spl n acc st = some (as, r) → as.length = n + acc.length ∧ as.reverse ++ r = acc.reverse ++ st
  | 0, acc, st, as, r, h => by
    cases h
    exact ⟨by omega, rfl⟩
  | n + 1, acc, [], as, r, h => by cases h
  | n + 1, acc, v :: st, as, r, h => by
    obtain ⟨h1, h2⟩ := ri_spl_ok n (v :: acc) st as r h
    exact ⟨by rw [h1, List.length_cons]; omega, by rw [h2, List.reverse_cons, List.append_assoc]; rfl⟩
end RI
end
section
/-! The main row: what ri_step says, the machine does. -/
section RI
variable {p : Program} {l : Launch} {e : Env} {R : Room} {s : State} {m : MethodId} {args : Array Value} {below : List Frame} {meth : Method} {c : Code} {H : Heap} {locs : List Loc} {Q : State → Prop} {bs : ByteArray} {nL : Nat} {own nm : String} {A : Nat → Prop} {D : va_G} {X : ri_X} {dA : Nat → Nat} {dT : Nat → ClassId} {pc : Nat} {L : ri_L} {st : List Value} {M : ri_M} {cc sc : Nat} {ls : Array Slot} {fr : ri_F}
theorem ri_w_mem {i : Nat} {w : Cond} (h : ri_w i w = true) (hu : ri_us w = true := by rfl) : w ∈ ri_tb := by
  unfold ri_w at h
  split at h
  · next v hv =>
    rw [decide_eq_true_eq] at h
    subst h
    exact List.mem_filter.mpr ⟨List.mem_of_getElem? hv, hu⟩
  · cases h
/-- what the tables say, all in one -/
noncomputable def ri_Tab : Prop := (∀ a, a < ri_n → ri_mk a = true) ∧ True ∧ True ∧
  (∀ (ci : Nat) (q : vw_C), vwCl[ci]? = some q → (∀ w ∈ u_ws q.1 q.2.1 q.2.2, w ∈ ri_tb) ∧ Cond.instantiable q.1 q.2.2 ∈ ri_tb ∧ Cond.initialized q.1 ∈ ri_tb ∧ (∀ k, k < q.2.2 → parseFieldDescriptor (q.2.1 k).2.2.1 = some (ri_ft ci k)) ∧ (∀ a, a < q.2.2 → ∀ b, b < q.2.2 → a ≠ b → (q.2.1 a).2.1 ≠ (q.2.1 b).2.1) ∧ ri_fn ci = q.2.2 ∧ ∀ d : Nat → Nat, (ri_new ci).map (ri_cv d) = ri_new ci) ∧
  (Cond.instanceMethod Lib.objectInit ∈ ri_tb ∧ Cond.code Lib.objectInit ⟨#[0xb1]⟩ 1 none ∈ ri_tb) ∧ Cond.initialized "java/lang/Math" ∈ ri_tb ∧
  (Cond.static Lib.Math.min.name ∈ ri_tb ∧ Cond.code Lib.Math.min.name Lib.Math.min.code 2 (some .int) ∈ ri_tb) ∧ (Cond.static Lib.Math.max.name ∈ ri_tb ∧ Cond.code Lib.Math.max.name Lib.Math.max.code 2 (some .int) ∈ ri_tb) ∧ (Cond.static Lib.Math.abs.name ∈ ri_tb ∧ Cond.code Lib.Math.abs.name Lib.Math.abs.code 1 (some .int) ∈ ri_tb) ∧
  (Cond.native arraycopyName ∈ ri_tb ∧ Cond.static arraycopyName ∈ ri_tb ∧ Cond.initialized "java/lang/System" ∈ ri_tb) ∧ ∀ w ∈ ri_ac, w ∈ ri_tb
theorem ri_ck_d {j : ri_J} (h : ri_ck own nm bs pc j = true) : decode bs pc = .ok (j.1, ri_ln j.1 j.2.1) := by
  unfold ri_ck at h
  rw [Bool.and_eq_true, decide_eq_true_eq] at h
  exact h.1
theorem ri_jmp_W {off : Int} {st1 : List Value} (h : ri_jmp off pc L st1 M cc sc = some (.inl fr)) (hAt : ri_At X D A s nL dA dT M L H locs ls) (K : ri_Go p l e R s m args below meth c Q X D A nL dA dT M.length cc fr) : W p l e R s m args below meth c H locs cc sc Q (F0 m ((pc : Int) + off).toNat ls (st1.map (ri_cv dA))) := by
  unfold ri_jmp at h
  split at h
  · next t ht =>
    cases h
    rw [ht]
    exact ri_same K hAt
  · cases h
theorem ri_p_ic {k : ClassFile.Cond} {off : Int} (hx : p.tables.exec = Jvm.exec) (hb : c.code = bs) (h : ri_ic k off pc L st M cc sc = some (.inl fr)) (hAt : ri_At X D A s nL dA dT M L H locs ls) (K : ri_Go p l e R s m args below meth c Q X D A nL dA dT M.length cc fr) (ht : 0 ≤ (pc : Int) + off) (hd : decode bs pc = .ok (.if_icmp k off, 3)) : W p l e R s m args below meth c H locs cc sc Q (F0 m pc ls (st.map (ri_cv dA))) := by
  have ht' : (pc : Int) + off = ((((pc : Int) + off).toNat : Nat) : Int) := (Int.toNat_of_nonneg ht).symm
  unfold ri_ic at h
  split at h
  · next y x r =>
    cases k with
    | eq =>
      dsimp only at h
      by_cases hc : x = y
      · rw [if_pos hc] at h
        exact lv_icmp_eq hx hb hd ht' (fun _ => ri_jmp_W h hAt K) (fun q => absurd hc q)
      · rw [if_neg hc] at h
        cases h
        exact lv_icmp_eq hx hb hd ht' (fun q => absurd q hc) (fun _ => ri_same K hAt)
    | ne =>
      dsimp only at h
      by_cases hc : x = y
      · rw [if_pos hc] at h
        cases h
        exact lv_icmp_ne hx hb hd ht' (fun q => absurd hc q) (fun _ => ri_same K hAt)
      · rw [if_neg hc] at h
        exact lv_icmp_ne hx hb hd ht' (fun _ => ri_jmp_W h hAt K) (fun q => absurd q hc)
    | lt =>
      dsimp only at h
      by_cases hc : x < y
      · rw [if_pos hc] at h
        exact lv_icmp_lt hx hb hd ht' (fun _ => ri_jmp_W h hAt K) (fun q => absurd hc q)
      · rw [if_neg hc] at h
        cases h
        exact lv_icmp_lt hx hb hd ht' (fun q => absurd q hc) (fun _ => ri_same K hAt)
    | ge =>
      dsimp only at h
      by_cases hc : y ≤ x
      · rw [if_pos hc] at h
        exact lv_icmp_ge hx hb hd ht' (fun _ => ri_jmp_W h hAt K) (fun q => absurd hc q)
      · rw [if_neg hc] at h
        cases h
        exact lv_icmp_ge hx hb hd ht' (fun q => absurd q hc) (fun _ => ri_same K hAt)
    | gt =>
      dsimp only at h
      by_cases hc : y < x
      · rw [if_pos hc] at h
        exact lv_icmp_gt hx hb hd ht' (fun _ => ri_jmp_W h hAt K) (fun q => absurd hc q)
      · rw [if_neg hc] at h
        cases h
        exact lv_icmp_gt hx hb hd ht' (fun q => absurd q hc) (fun _ => ri_same K hAt)
    | le =>
      dsimp only at h
      by_cases hc : x ≤ y
      · rw [if_pos hc] at h
        exact lv_icmp_le hx hb hd ht' (fun _ => ri_jmp_W h hAt K) (fun q => absurd hc q)
      · rw [if_neg hc] at h
        cases h
        exact lv_icmp_le hx hb hd ht' (fun q => absurd q hc) (fun _ => ri_same K hAt)
  · cases h
theorem ri_p_iz {k : ClassFile.Cond} {off : Int} (hx : p.tables.exec = Jvm.exec) (hb : c.code = bs) (h : ri_iz k off pc L st M cc sc = some (.inl fr)) (hAt : ri_At X D A s nL dA dT M L H locs ls) (K : ri_Go p l e R s m args below meth c Q X D A nL dA dT M.length cc fr) (ht : 0 ≤ (pc : Int) + off) (hd : decode bs pc = .ok (.ifCond k off, 3)) : W p l e R s m args below meth c H locs cc sc Q (F0 m pc ls (st.map (ri_cv dA))) := by
  have ht' : (pc : Int) + off = ((((pc : Int) + off).toNat : Nat) : Int) := (Int.toNat_of_nonneg ht).symm
  unfold ri_iz at h
  split at h
  · next x r =>
    cases k with
    | eq =>
      dsimp only at h
      by_cases hc : x = 0
      · rw [if_pos hc] at h
        exact lv_if_eq hx hb hd ht' (fun _ => ri_jmp_W h hAt K) (fun q => absurd hc q)
      · rw [if_neg hc] at h
        cases h
        exact lv_if_eq hx hb hd ht' (fun q => absurd q hc) (fun _ => ri_same K hAt)
    | ne =>
      dsimp only at h
      by_cases hc : x = 0
      · rw [if_pos hc] at h
        cases h
        exact lv_if_ne hx hb hd ht' (fun q => absurd hc q) (fun _ => ri_same K hAt)
      · rw [if_neg hc] at h
        exact lv_if_ne hx hb hd ht' (fun _ => ri_jmp_W h hAt K) (fun q => absurd q hc)
    | lt =>
      dsimp only at h
      by_cases hc : x < 0
      · rw [if_pos hc] at h
        exact lv_if_lt hx hb hd ht' (fun _ => ri_jmp_W h hAt K) (fun q => absurd hc q)
      · rw [if_neg hc] at h
        cases h
        exact lv_if_lt hx hb hd ht' (fun q => absurd q hc) (fun _ => ri_same K hAt)
    | ge =>
      dsimp only at h
      by_cases hc : 0 ≤ x
      · rw [if_pos hc] at h
        exact lv_if_ge hx hb hd ht' (fun _ => ri_jmp_W h hAt K) (fun q => absurd hc q)
      · rw [if_neg hc] at h
        cases h
        exact lv_if_ge hx hb hd ht' (fun q => absurd q hc) (fun _ => ri_same K hAt)
    | gt =>
      dsimp only at h
      by_cases hc : 0 < x
      · rw [if_pos hc] at h
        exact lv_if_gt hx hb hd ht' (fun _ => ri_jmp_W h hAt K) (fun q => absurd hc q)
      · rw [if_neg hc] at h
        cases h
        exact lv_if_gt hx hb hd ht' (fun q => absurd q hc) (fun _ => ri_same K hAt)
    | le =>
      dsimp only at h
      by_cases hc : x ≤ 0
      · rw [if_pos hc] at h
        exact lv_if_le hx hb hd ht' (fun _ => ri_jmp_W h hAt K) (fun q => absurd hc q)
      · rw [if_neg hc] at h
        cases h
        exact lv_if_le hx hb hd ht' (fun q => absurd q hc) (fun _ => ri_same K hAt)
  · cases h
theorem ri_goodIn {a : Nat} (TB : ri_Tab) (ha : a < ri_n) (hh : Cond.code (ri_y a) (ri_b a) (ri_ml a) (ri_rt a) ∈ ri_tb) (hac : ∀ w ∈ ri_ac, w ∈ ri_tb) : GoodIn ri_tb (ri_wsy a) := by
  intro w hw
  rcases List.mem_cons.mp hw with rfl | hw
  · exact ⟨hh, Or.inl rfl⟩
  · refine ⟨hac w hw, ?_⟩
    simp only [ri_ac, List.mem_cons, List.not_mem_nil, or_false] at hw
    rcases hw with rfl | rfl | rfl | rfl <;> exact Or.inr ⟨_, rfl⟩
theorem ri_hac (TB : ri_Tab) : ∀ w ∈ ri_ac, w ∈ ri_tb := TB.2.2.2.2.2.2.2.2.2.2
theorem ri_mk_ok {a : Nat} (h : ri_mk a = true) : plainName (ri_y a).cls = true ∧ Cond.code (ri_y a) (ri_b a) (ri_ml a) (ri_rt a) ∈ ri_tb ∧ Cond.initialized (ri_y a).cls ∈ ri_tb ∧ ri_ml a ≤ 381 := by
  unfold ri_mk at h
  simp only [Bool.and_eq_true] at h
  exact ⟨h.1, ri_w_mem h.2.1, ri_w_mem h.2.2.1, Nat.le_of_ble_eq_true h.2.2.2.1⟩
theorem ri_mk_0 {a : Nat} (h : ri_mk a = true) (hk : ri_kd a = 0) : Cond.static (ri_y a) ∈ ri_tb := by
  unfold ri_mk at h
  rw [hk] at h
  simp only [Bool.and_eq_true] at h
  exact ri_w_mem h.2.2.2.2
theorem ri_mk_1 {a : Nat} (h : ri_mk a = true) (hk : ri_kd a = 1) : Cond.instanceMethod (ri_y a) ∈ ri_tb ∧ (ri_y a).name = "<init>" ∧ ri_rt a = none := by
  unfold ri_mk at h
  rw [hk] at h
  simp only [Bool.and_eq_true, decide_eq_true_eq] at h
  exact ⟨ri_w_mem h.2.2.2.2.1, h.2.2.2.2.2.1, h.2.2.2.2.2.2⟩
theorem ri_mk_2 {a : Nat} (h : ri_mk a = true) (hk : ri_kd a = 2) : Cond.instanceMethod (ri_y a) ∈ ri_tb ∧ Cond.selects (ri_y a).cls (ri_y a) (ri_y a) ∈ ri_tb ∧ ∃ q, vwCl[ri_rc a]? = some q ∧ q.1 = (ri_y a).cls := by
  unfold ri_mk at h
  rw [hk] at h
  simp only [Bool.and_eq_true] at h
  refine ⟨ri_w_mem h.2.2.2.2.1, ri_w_mem h.2.2.2.2.2.1, ?_⟩
  have h2 := h.2.2.2.2.2.2
  split at h2
  · next q hq => exact ⟨q, hq, of_decide_eq_true h2⟩
  · cases h2
theorem ri_lk_ok {i a b c0 : Nat} (h : ri_lk own i a b c0 = true) : a < ri_n ∧ ((ri_y a).cls ≠ "java/lang/invoke/MethodHandle" ∧ (ri_y a).cls ≠ "java/lang/invoke/VarHandle" ∧ (parseMethodDescriptor (ri_y a).desc).map (fun d => d.parameters.length) = some b) ∧ (Cond.methodLink own i (ri_y a) ∈ ri_tb ∨ Cond.methodLinkNest own i (ri_y a) "WarmerColder" ∈ ri_tb) := by
  unfold ri_lk ri_nd at h
  simp only [Bool.and_eq_true, decide_eq_true_eq] at h
  refine ⟨Nat.le_of_ble_eq_true h.1, h.2.1, ?_⟩
  have h2 := h.2.2
  split at h2
  · exact Or.inl (ri_w_mem h2)
  · exact Or.inr (ri_w_mem h2)
set_option maxRecDepth 100000 in
theorem ri_roomy {a F c1 s1 : Nat} (hm : ri_ml a ≤ 381) (hR : F + 2 ≤ R.frames ∧ 400 * (F + 2) ≤ R.locals) : (ri_rm F c1 s1).frames + 1 ≤ R.frames ∧ 8 + (ri_ml a + 11) + (ri_rm F c1 s1).locals ≤ R.locals := by
  show F + 1 + 1 ≤ R.frames ∧ 8 + (ri_ml a + 11) + 400 * (F + 1) ≤ R.locals
  generalize ri_ml a = z at hm ⊢
  omega
theorem ri_p_clv {call : ri_Ca} {a b i c0 F : Nat} (TB : ri_Tab) (Fx : ri_Fx p s m args meth c bs nL own nm A) (hlk : ri_lk own i a b c0 = true) (hkd : ri_kd a = 2) (hd : decode bs pc = .ok (.invokevirtual i, 3)) (hR : F + 2 ≤ R.frames ∧ 400 * (F + 2) ≤ R.locals) (hC : ri_Cal l call F) (h : ri_clv call ri_rc a b pc L st M cc sc = some (.inl fr)) (hAt : ri_At X D A s nL dA dT M L H locs ls) (K : ri_Go p l e R s m args below meth c Q X D A nL dA dT M.length cc fr) (hr1 : fr.2.2.2.2.1 ≤ R.cells) (hr2 : fr.2.2.2.2.2 ≤ R.slots) : W p l e R s m args below meth c H locs cc sc Q (F0 m pc ls (st.map (ri_cv dA))) := by
  obtain ⟨hx, hb, hml, hown, hts, hnm, hA⟩ := Fx
  obtain ⟨hn, hnd, hl⟩ := ri_lk_ok hlk
  have hmk := TB.1 a hn
  obtain ⟨k1, k2, k3, k4⟩ := ri_mk_ok hmk
  obtain ⟨k5, k6, q, hq, hqc⟩ := ri_mk_2 hmk hkd
  unfold ri_clv at h
  split at h
  · next as k r hs =>
    split at h
    · next ci fs hM =>
      split at h
      · next hc =>
        obtain ⟨hci, hcat⟩ := hc
        split at h
        · next v M1 c1 s1 hcall =>
          split at h
          · next hw =>
            cases h
            subst hci
            obtain ⟨hl1, hl2⟩ := ri_spl_ok _ _ _ _ _ hs
            have hst : st = as.reverse ++ .ref (k + 1) :: r := hl2.symm
            have hstk : st.map (ri_cv dA) = (as.map (ri_cv dA)).reverse ++ .ref (dA (k + 1)) :: r.map (ri_cv dA) := by
              rw [hst, List.map_append, List.map_reverse]
              rfl
            have hrecv := va_recv hAt.1 hAt.2.2.1 hq (ri_ws_at hM)
            rw [hqc] at hrecv
            have hpre : PreV s H (ri_y a).cls (dA (k + 1)) (ri_P D dA dT (.ref (k + 1) :: as) M H.size) (as.map (ri_cv dA)) := ⟨ri_blind, hrecv, ri_pre hts hAt rfl⟩
            have hlen : (as.map (ri_cv dA)).length = b := by simpa using hl1
            have hcat2 : 2 * (F0 m pc ls (st.map (ri_cv dA))).monitorRoom + ((r.map (ri_cv dA)).map fun v => v.category).sum ≤ 8 := lv_room (by have := hcat; rw [← ri_cat_map (dA := dA)] at this; exact this)
            have hG := ri_goodIn TB hn k2 (ri_hac TB)
            rcases hl with hl | hl
            · exact ri_called (va_runV ⟨hx, hb, hml, hown, hts⟩ (hC a _ M v M1 c1 s1 hcall D dA dT H.size) ⟨callB_of b hts hG rfl rfl rfl (hts _ k3) (hts _ hl) hnd (ri_roomy k4 hR), hts _ k5, hts _ k6⟩ hpre rfl hlen hAt.2.2.2.2.2.2.1.1 hstk hcat2 hd ⟨hr1, hr2⟩) hAt hA hw rfl K
            · exact ri_called (va_runVN ⟨hx, hb, hml, hown, hts⟩ (hC a _ M v M1 c1 s1 hcall D dA dT H.size) ⟨va_cnB b hts hG rfl rfl rfl (va_Nw.of rfl (hts _ hl)) (hts _ k3) hnd (ri_roomy k4 hR), hts _ k5, hts _ k6⟩ hpre rfl hlen hAt.2.2.2.2.2.2.1.1 hstk hcat2 hd ⟨hr1, hr2⟩) hAt hA hw rfl K
          · cases h
        · cases h
      · cases h
    · cases h
  · cases h
theorem ri_p_cin {call : ri_Ca} {a b i c0 F : Nat} (TB : ri_Tab) (Fx : ri_Fx p s m args meth c bs nL own nm A) (hlk : ri_lk own i a b c0 = true) (hkd : ri_kd a = 1) (hd : decode bs pc = .ok (.invokespecial i, 3)) (hR : F + 2 ≤ R.frames ∧ 400 * (F + 2) ≤ R.locals) (hC : ri_Cal l call F) (h : ri_cin call a b pc L st M cc sc = some (.inl fr)) (hAt : ri_At X D A s nL dA dT M L H locs ls) (K : ri_Go p l e R s m args below meth c Q X D A nL dA dT M.length cc fr) (hr1 : fr.2.2.2.2.1 ≤ R.cells) (hr2 : fr.2.2.2.2.2 ≤ R.slots) : W p l e R s m args below meth c H locs cc sc Q (F0 m pc ls (st.map (ri_cv dA))) := by
  obtain ⟨hx, hb, hml, hown, hts, hnm, hA⟩ := Fx
  obtain ⟨hn, hnd, hl⟩ := ri_lk_ok hlk
  have hmk := TB.1 a hn
  obtain ⟨k1, k2, k3, k4⟩ := ri_mk_ok hmk
  obtain ⟨k5, k6, k7⟩ := ri_mk_1 hmk hkd
  unfold ri_cin at h
  split at h
  · next as k r hs =>
    split at h
    · next hcat =>
      split at h
      · next v M1 c1 s1 hcall =>
        split at h
        · next hw =>
          cases h
          obtain ⟨hl1, hl2⟩ := ri_spl_ok _ _ _ _ _ hs
          have hst : st = as.reverse ++ .ref k :: r := hl2.symm
          have hstk : st.map (ri_cv dA) = (as.map (ri_cv dA)).reverse ++ .ref (dA k) :: r.map (ri_cv dA) := by
            rw [hst, List.map_append, List.map_reverse]
            rfl
          have hpre : PreS s H (ri_P D dA dT (.ref k :: as) M H.size) (.ref (dA k) :: as.map (ri_cv dA)) := ⟨ri_blind, ri_pre hts hAt rfl⟩
          have hlen : (as.map (ri_cv dA)).length = b := by simpa using hl1
          have hcat2 : 2 * (F0 m pc ls (st.map (ri_cv dA))).monitorRoom + ((r.map (ri_cv dA)).map fun v => v.category).sum ≤ 8 := lv_room (by have := hcat; rw [← ri_cat_map (dA := dA)] at this; exact this)
          have hG := ri_goodIn TB hn k2 (ri_hac TB)
          have hM := hC a _ M v M1 c1 s1 hcall D dA dT H.size
          have hw2 : ri_wsy a = .code (ri_y a) (ri_b a) (ri_ml a) none :: ri_ac := by unfold ri_wsy; rw [k7]
          rcases hl with hl | hl
          · exact ri_called (va_runI ⟨hx, hb, hml, hown, hts⟩ hM ⟨callB_of b hts hG hw2 rfl rfl (hts _ k3) (hts _ hl) hnd (ri_roomy k4 hR), k6, hts _ k5⟩ hpre rfl hlen hAt.2.2.2.2.2.2.1.1 hstk hcat2 hd ⟨hr1, hr2⟩) hAt hA hw rfl K
          · exact ri_called (va_runIN ⟨hx, hb, hml, hown, hts⟩ hM ⟨va_cnB b hts hG hw2 rfl rfl (va_Nw.of rfl (hts _ hl)) (hts _ k3) hnd (ri_roomy k4 hR), k6, hts _ k5⟩ hpre rfl hlen hAt.2.2.2.2.2.2.1.1 hstk hcat2 hd ⟨hr1, hr2⟩) hAt hA hw rfl K
        · cases h
      · cases h
    · cases h
  · cases h
theorem ri_p_cls {call : ri_Ca} {a b i c0 F : Nat} (TB : ri_Tab) (Fx : ri_Fx p s m args meth c bs nL own nm A) (hlk : ri_lk own i a b c0 = true) (hkd : ri_kd a = 0) (hd : decode bs pc = .ok (.invokestatic i, 3)) (hR : F + 2 ≤ R.frames ∧ 400 * (F + 2) ≤ R.locals) (hC : ri_Cal l call F) (h : ri_cls call a b pc L st M cc sc = some (.inl fr)) (hAt : ri_At X D A s nL dA dT M L H locs ls) (K : ri_Go p l e R s m args below meth c Q X D A nL dA dT M.length cc fr) (hr1 : fr.2.2.2.2.1 ≤ R.cells) (hr2 : fr.2.2.2.2.2 ≤ R.slots) : W p l e R s m args below meth c H locs cc sc Q (F0 m pc ls (st.map (ri_cv dA))) := by
  obtain ⟨hx, hb, hml, hown, hts, hnm, hA⟩ := Fx
  obtain ⟨hn, hnd, hl⟩ := ri_lk_ok hlk
  have hmk := TB.1 a hn
  obtain ⟨k1, k2, k3, k4⟩ := ri_mk_ok hmk
  have k5 := ri_mk_0 hmk hkd
  unfold ri_cls at h
  split at h
  · next as r hs =>
    split at h
    · next hcat =>
      split at h
      · next v M1 c1 s1 hcall =>
        split at h
        · next hw =>
          cases h
          obtain ⟨hl1, hl2⟩ := ri_spl_ok _ _ _ _ _ hs
          have hst : st = as.reverse ++ r := hl2.symm
          have hstk : st.map (ri_cv dA) = (as.map (ri_cv dA)).reverse ++ r.map (ri_cv dA) := by
            rw [hst, List.map_append, List.map_reverse]
          have hpre : PreS s H (ri_P D dA dT as M H.size) (as.map (ri_cv dA)) := ⟨ri_blind, ri_pre hts hAt rfl⟩
          have hlen : (as.map (ri_cv dA)).length = b := by simpa using hl1
          have hcat2 : 2 * (F0 m pc ls (st.map (ri_cv dA))).monitorRoom + ((r.map (ri_cv dA)).map fun v => v.category).sum ≤ 8 := lv_room (by have := hcat; rw [← ri_cat_map (dA := dA)] at this; exact this)
          have hG := ri_goodIn TB hn k2 (ri_hac TB)
          have hM := hC a _ M v M1 c1 s1 hcall D dA dT H.size
          rcases hl with hl | hl
          · exact ri_called (va_runS ⟨hx, hb, hml, hown, hts⟩ hM ⟨callB_of b hts hG rfl rfl rfl (hts _ k3) (hts _ hl) hnd (ri_roomy k4 hR), hts _ k5⟩ hpre rfl hlen hAt.2.2.2.2.2.2.1.1 hstk hcat2 hd ⟨hr1, hr2⟩) hAt hA hw rfl K
          · exact ri_called (va_runSN ⟨hx, hb, hml, hown, hts⟩ hM ⟨va_cnB b hts hG rfl rfl rfl (va_Nw.of rfl (hts _ hl)) (hts _ k3) hnd (ri_roomy k4 hR), hts _ k5, trivial⟩ hpre rfl hlen hAt.2.2.2.2.2.2.1.1 hstk hcat2 hd ⟨hr1, hr2⟩) hAt hA hw rfl K
        · cases h
      · cases h
    · cases h
  · cases h
end RI
end
section
/-! One step, whole; then runs, then methods. -/
section RI
variable {p : Program} {l : Launch} {e : Env} {R : Room} {s : State} {m : MethodId} {args : Array Value} {below : List Frame} {meth : Method} {c : Code} {H : Heap} {locs : List Loc} {Q : State → Prop} {bs : ByteArray} {nL : Nat} {own nm : String} {A : Nat → Prop} {D : va_G} {X : ri_X} {dA : Nat → Nat} {dT : Nat → ClassId} {pc : Nat} {L : ri_L} {st : List Value} {M : ri_M} {cc sc : Nat} {ls : Array Slot} {fr : ri_F}
set_option maxHeartbeats 4000000 in
theorem ri_mono1 {call : ri_Ca} {rt : Option FieldType} {j : ri_J} (h : ri_step X call ri_rc rt j pc L st M cc sc = some (.inl fr)) : cc ≤ fr.2.2.2.2.1 ∧ sc ≤ fr.2.2.2.2.2 := by
  obtain ⟨ins, len, a, b, c0⟩ := j
  cases ins <;> simp only [ri_step, ri_psh, ri_ild, ri_lld, ri_ald, ri_ist, ri_lst, ri_ast, ri_inc, ri_i2, ri_d2, ri_l2, ri_e2, ri_lsh, ri_lcm, ri_i1, ri_il, ri_li, ri_pop, ri_dup, ri_dup2, ri_dupx1, ri_jmp, ri_nul, ri_tsw, ri_lsw, ri_gf, ri_pf, ri_ial, ri_bal, ri_lal, ri_aal, ri_ias, ri_bas, ri_las, ri_aas, ri_aln, ri_nwa, ri_nwq, ri_nwo, ri_cls, ri_clv, ri_cin, ri_oin, ri_mm, ri_ma, ri_acp, ri_ret, ri_lret, ri_aret, ri_vret, ri_ic, ri_iz] at h <;> (repeat' split at h) <;> first | (cases h; done) | (cases h; exact ⟨Nat.le_refl _, Nat.le_refl _⟩) | (cases h; exact ⟨Nat.le_add_right _ _, Nat.le_add_right _ _⟩)
set_option maxHeartbeats 4000000 in
theorem ri_mono2 {call : ri_Ca} {rt : Option FieldType} {j : ri_J} {r : ri_R} (h : ri_step X call ri_rc rt j pc L st M cc sc = some (.inr r)) : r.2.1 = M ∧ r.2.2.1 = cc ∧ r.2.2.2 = sc := by
  obtain ⟨ins, len, a, b, c0⟩ := j
  cases ins <;> simp only [ri_step, ri_psh, ri_ild, ri_lld, ri_ald, ri_ist, ri_lst, ri_ast, ri_inc, ri_i2, ri_d2, ri_l2, ri_e2, ri_lsh, ri_lcm, ri_i1, ri_il, ri_li, ri_pop, ri_dup, ri_dup2, ri_dupx1, ri_jmp, ri_nul, ri_tsw, ri_lsw, ri_gf, ri_pf, ri_ial, ri_bal, ri_lal, ri_aal, ri_ias, ri_bas, ri_las, ri_aas, ri_aln, ri_nwa, ri_nwq, ri_nwo, ri_cls, ri_clv, ri_cin, ri_oin, ri_mm, ri_ma, ri_acp, ri_ret, ri_lret, ri_aret, ri_vret, ri_ic, ri_iz] at h <;> (repeat' split at h) <;> first | (cases h; done) | (cases h; exact ⟨rfl, rfl, rfl⟩)
set_option maxHeartbeats 4000000 in
set_option maxRecDepth 100000 in
theorem ri_sound {call : ri_Ca} {rt : Option FieldType} {j : ri_J} {F : Nat} (TB : ri_Tab) (Fx : ri_Fx p s m args meth c bs nL own nm A) (hck : ri_ck own nm bs pc j = true) (hR : F + 2 ≤ R.frames ∧ 400 * (F + 2) ≤ R.locals) (hC : ri_Cal l call F) (h : ri_step X call ri_rc rt j pc L st M cc sc = some (.inl fr)) (hAt : ri_At X D A s nL dA dT M L H locs ls) (K : ri_Go p l e R s m args below meth c Q X D A nL dA dT M.length cc fr) (hr1 : fr.2.2.2.2.1 ≤ R.cells) (hr2 : fr.2.2.2.2.2 ≤ R.slots) : W p l e R s m args below meth c H locs cc sc Q (F0 m pc ls (st.map (ri_cv dA))) := by
  have hd := ri_ck_d hck
  have hm : _ = true := (Bool.and_eq_true _ _ ▸ (show (_ && _) = true from hck)).2
  obtain ⟨hc1, hc2⟩ := ri_mono1 h
  obtain ⟨ins, len, a, b, c0⟩ := j
  obtain ⟨hx, hb, hml, hown, hts, hnm, hA⟩ := id Fx
  dsimp only at hd
  cases ins
  case iadd =>
    exact ri_p_i2 (f := fun x y => x + y) h hAt K (fun x y r k => lv_iadd hx hb hd k)
  case isub =>
    exact ri_p_i2 (f := fun x y => x - y) h hAt K (fun x y r k => lv_isub hx hb hd k)
  case imul =>
    exact ri_p_i2 (f := fun x y => x * y) h hAt K (fun x y r k => lv_imul hx hb hd k)
  case iand =>
    exact ri_p_i2 (f := fun x y => x &&& y) h hAt K (fun x y r k => lv_iand hx hb hd k)
  case ior =>
    exact ri_p_i2 (f := fun x y => x ||| y) h hAt K (fun x y r k => lv_ior hx hb hd k)
  case ixor =>
    exact ri_p_i2 (f := fun x y => x ^^^ y) h hAt K (fun x y r k => lv_ixor hx hb hd k)
  case ishl =>
    exact ri_p_i2 (f := fun x y => x <<< (y &&& 31)) h hAt K (fun x y r k => lv_ishl hx hb hd k)
  case ishr =>
    exact ri_p_i2 (f := fun x y => x >>> (y &&& 31)) h hAt K (fun x y r k => lv_ishr hx hb hd k)
  case iushr =>
    exact ri_p_i2 (f := ri_ushr) h hAt K (fun x y r k => lv_iushr hx hb hd rfl k)
  case idiv =>
    exact ri_p_d2 (f := fun x y => x / y) h hAt K (fun x y r hy k => lv_idiv hx hb hd hy k)
  case irem =>
    exact ri_p_d2 (f := fun x y => x - x / y * y) h hAt K (fun x y r hy k => lv_irem hx hb hd hy k)
  case ladd =>
    exact ri_p_l2 (f := fun x y => x + y) h hAt K (fun x y r k => lv_ladd hx hb hd k)
  case lsub =>
    exact ri_p_l2 (f := fun x y => x - y) h hAt K (fun x y r k => lv_lsub hx hb hd k)
  case lmul =>
    exact ri_p_l2 (f := fun x y => x * y) h hAt K (fun x y r k => lv_lmul hx hb hd k)
  case land =>
    exact ri_p_l2 (f := fun x y => x &&& y) h hAt K (fun x y r k => lv_land hx hb hd k)
  case lor =>
    exact ri_p_l2 (f := fun x y => x ||| y) h hAt K (fun x y r k => lv_lor hx hb hd k)
  case ldiv =>
    exact ri_p_e2 (f := fun x y => x / y) h hAt K (fun x y r hy k => lv_ldiv hx hb hd hy k)
  case lrem =>
    exact ri_p_e2 (f := fun x y => x - x / y * y) h hAt K (fun x y r hy k => lv_lrem hx hb hd hy k)
  case lshl =>
    exact ri_p_lsh (f := fun x y => x <<< (y.toInt64 &&& 63)) h hAt K (fun x y r k => lv_lshl hx hb hd rfl k)
  case lcmp =>
    exact ri_p_lcm h hAt K (fun x y r k => W.lcmp hx hb hd k)
  case ineg =>
    exact ri_p_i1 (f := fun x => -x) h hAt K (fun x r k => lv_ineg hx hb hd k)
  case i2b =>
    exact ri_p_i1 (f := fun x => x.toInt8.toInt32) h hAt K (fun x r k => lv_i2b hx hb hd rfl k)
  case i2l =>
    exact ri_p_il h hAt K (fun x r k => lv_i2l hx hb hd rfl k)
  case l2i =>
    exact ri_p_li h hAt K (fun x r k => lv_l2i hx hb hd rfl k)
  case aconst_null =>
    exact ri_p_psh (v := .null) h hAt K (fun r k => lv_null hx hb hd k)
  case iconst n =>
    exact ri_p_psh (v := .int (Int32.ofInt n)) h hAt K (fun r k => lv_iconst hx hb hd rfl k)
  case lconst n =>
    exact ri_p_psh (v := .long (Int64.ofNat n.val)) h hAt K (fun r k => lv_lconst hx hb hd rfl k)
  case bipush n =>
    exact ri_p_psh (v := .int (Int8.ofInt n).toInt32) h hAt K (fun r k => lv_bipush hx hb hd rfl k)
  case sipush n =>
    exact ri_p_psh (v := .int (Int16.ofInt n).toInt32) h hAt K (fun r k => lv_sipush hx hb hd rfl k)
  case ldc i =>
    exact ri_p_psh (v := .int (Int32.ofNat a)) h hAt K (fun r k => lv_ldc hx hb hown (hts _ (ri_w_mem hm)) hd k)
  case ldc_w i =>
    exact ri_p_psh (v := .int (Int32.ofNat a)) h hAt K (fun r k => lv_ldcw hx hb hown (hts _ (ri_w_mem hm)) hd k)
  case ldc2_w i =>
    exact ri_p_psh (v := .long (Int64.ofNat a)) h hAt K (fun r k => lv_ldc2 hx hb hown (hts _ (ri_w_mem hm)) hd k)
  case iload i =>
    exact ri_p_ild h hAt K (fun x r g k => lv_iload hx hb hd g k)
  case iload_n i =>
    exact ri_p_ild h hAt K (fun x r g k => lv_iload_n hx hb hd rfl g k)
  case lload i =>
    exact ri_p_lld h hAt K (fun x r g k => lv_lload hx hb hd g k)
  case lload_n i =>
    exact ri_p_lld h hAt K (fun x r g k => lv_lload_n hx hb hd rfl g k)
  case aload i =>
    exact ri_p_ald h hAt K (fun x r g k => lv_aload hx hb hd g k) (fun r g k => lv_aloadN hx hb hd g k)
  case aload_n i =>
    exact ri_p_ald h hAt K (fun x r g k => lv_aload_n hx hb hd rfl g k) (fun r g k => lv_aload_nN hx hb hd rfl g k)
  case istore i =>
    exact ri_p_ist h hAt K (fun x r g k => lv_istore hx hb hd hAt.2.2.2.2.2.2.1 g rfl k)
  case istore_n i =>
    exact ri_p_ist h hAt K (fun x r g k => lv_istore_n hx hb hd rfl hAt.2.2.2.2.2.2.1 g rfl k)
  case lstore i =>
    exact ri_p_lst h hAt K (fun x r g k => lv_lstore hx hb hd hAt.2.2.2.2.2.2.1 g rfl k)
  case lstore_n i =>
    exact ri_p_lst h hAt K (fun x r g k => lv_lstore_n hx hb hd rfl hAt.2.2.2.2.2.2.1 g rfl k)
  case astore i =>
    exact ri_p_ast h hAt K (fun x r g k => lv_astore hx hb hd hAt.2.2.2.2.2.2.1 g rfl k) (fun r g k => lv_astoreN hx hb hd hAt.2.2.2.2.2.2.1 g rfl k)
  case astore_n i =>
    exact ri_p_ast h hAt K (fun x r g k => lv_astore_n hx hb hd rfl hAt.2.2.2.2.2.2.1 g rfl k) (fun r g k => lv_astore_nN hx hb hd rfl hAt.2.2.2.2.2.2.1 g rfl k)
  case iinc i n =>
    by_cases hl3 : len = 3
    · subst hl3
      exact ri_p_inc (h := h) hAt K (fun x k r g1 g2 kk => lv_iinc hx hb hd hAt.2.2.2.2.2.2.1 g1 rfl g2 rfl kk)
    · have h2 : (if len = 3 then ri_inc i n pc L st M cc sc else none) = some (.inl fr) := h
      rw [if_neg hl3] at h2
      cases h2
  case pop =>
    exact ri_p_pop h hAt K (fun v r g k => lv_pop hx hb hd g k)
  case dup =>
    exact ri_p_dup h hAt K (fun v r g k => lv_dup hx hb hd g k)
  case dup2 =>
    exact ri_p_dup2 h hAt K (fun v r g k => lv_dup2_2 hx hb hd g k) (fun v w r g1 g2 k => lv_dup2_11 hx hb hd g1 g2 k)
  case dup_x1 =>
    exact ri_p_dupx1 h hAt K (fun v w r g1 g2 k => lv_dup_x1 hx hb hd g1 g2 k)
  case goto off =>
    exact ri_p_jmp h hAt K (fun t ht k => lv_goto hx hb hd ht k)
  case if_icmp k off =>
    exact ri_p_ic hx hb h hAt K (of_decide_eq_true hm) hd
  case ifCond k off =>
    exact ri_p_iz hx hb h hAt K (of_decide_eq_true hm) hd
  case ifnull off =>
    exact ri_p_nul h hAt K (fun t r _ ht k => lv_ifnullN hx hb hd ht k) (fun r q k => by cases q) (fun t x r q ht k => by cases q) (fun x r _ k => lv_ifnull hx hb hd k)
  case ifnonnull off =>
    exact ri_p_nul h hAt K (fun t r q ht k => by cases q) (fun r _ k => lv_ifnonnullN hx hb hd k) (fun t x r _ ht k => lv_ifnonnull hx hb hd ht k) (fun x r q k => by cases q)
  case tableswitch d lo hi offs =>
    exact ri_p_tsw h hAt K (fun x t r g ht k => lv_tableOut hx hb hd g ht k) (fun x off t r g1 g2 g3 ht k => lv_tableIn hx hb hd g1 g2 g3 ht k)
  case lookupswitch d ps =>
    exact ri_p_lsw h hAt K (fun x t r g ht k => lv_lookup hx hb hd g rfl ht k)
  case iaload =>
    exact ri_p_ial h hAt K (fun n f i r x1 x2 x3 g k => va_sld hx hb x1 x2 x3 hAt.2.2.2.2.1 g hd k) (fun k n f i r hK g1 g2 kk => va_iald hx hb hK hAt.2.2.1 k 0 g1 rfl g2 hd kk)
  case baload =>
    exact ri_p_bal h hAt K (fun k n f i r hK g1 g2 kk => va_bald hx hb hK hAt.2.2.1 k 0 g1 rfl g2 hd kk) (fun k n f i r hK g1 g2 kk => va_zald hx hb hK hAt.2.2.1 k 0 g1 rfl g2 hd kk)
  case laload =>
    exact ri_p_lal h hAt K (fun k n f i r hK g1 g2 kk => va_lald hx hb hK hAt.2.2.1 k 0 g1 rfl g2 hd kk)
  case aaload =>
    exact ri_p_aal h hAt K (fun k C n f i r hK g1 g2 kk => va_aldq hx hb hK hAt.2.2.1 k 0 g1 rfl g2 hd kk)
  case iastore =>
    exact ri_p_ias h hAt K (fun k n f i x r hK g1 g2 kk => va_iast hx hb hK hAt.2.2.1 hAt.2.2.2.1 hAt.2.2.2.2.1 k 0 g1 rfl g2 hd kk)
  case bastore =>
    exact ri_p_bas h hAt K (fun k n f i x r hK g1 g2 kk => va_bast hx hb hK hAt.2.2.1 hAt.2.2.2.1 hAt.2.2.2.2.1 k 0 g1 rfl g2 hd kk) (fun k n f i x r hK g1 g2 kk => va_zast hx hb hK hAt.2.2.1 hAt.2.2.2.1 hAt.2.2.2.2.1 k 0 g1 rfl g2 hd kk)
  case lastore =>
    exact ri_p_las h hAt K (fun k n f i x r hK g1 g2 kk => va_last hx hb hK hAt.2.2.1 hAt.2.2.2.1 hAt.2.2.2.2.1 k 0 g1 rfl g2 hd kk)
  case aastore =>
    exact ri_p_aas h hAt K (fun k v ci q n vs f i r hK g1 g2 g3 g4 kk => va_astq hx hb hK hAt.2.2.1 hAt.2.2.2.1 hAt.2.2.2.2.1 k 0 v ci g1 rfl g2 g3 g4 hd kk)
  case arraylength =>
    exact ri_p_aln h hAt K (fun n f r x1 x2 x3 k => va_slen hx hb x1 x2 x3 hAt.2.2.2.2.1 hd k) (fun k ty x r hK g1 kk => va_alen hx hb hK hAt.2.2.1 k 0 g1 rfl rfl hd kk)
  case newarray t =>
    exact ri_p_nwa h hAt K (fun n g r hg c1 c2 e1 e2 k => va_newa hx hb (hts _ (ri_w_mem hm (by cases t <;> first | rfl | cases hg))) rfl hAt.1 hAt.2.2.1 hAt.2.2.2.1 hAt.2.2.2.2.1 hA (a0 := g n.toNatClampNeg) (by cases t <;> first | (cases hg; intro; rfl) | cases hg) c1 rfl c2 (by rw [← e1]; exact hr1) (by rw [← e2]; exact hr2) hd k)
  case anewarray i =>
    have hm2 := hm
    dsimp only at hm2
    split at hm2
    · next q hq =>
      rw [Bool.and_eq_true] at hm2
      exact ri_p_nwq h hAt K (fun n q0 r hg c1 c2 e1 e2 k => by
        have e0 : q0 = q := Option.some.inj (hg.symm.trans hq)
        subst e0
        exact va_newq hx hb hown (hts _ (ri_w_mem hm2.1)) (va_AO.of (hts _ (ri_w_mem hm2.2))) hAt.1 hAt.2.2.1 hAt.2.2.2.1 hAt.2.2.2.2.1 hA c1 rfl c2 (by rw [← e1]; exact hr1) (by rw [← e2]; exact hr2) hd k)
    · cases hm2
  case new i =>
    have hm2 := hm
    dsimp only at hm2
    split at hm2
    · next q hq =>
      obtain ⟨t1, t2, t3, t4, t5, t6, t7⟩ := TB.2.2.2.1 a q hq
      exact ri_p_nwo h hAt K t7 (fun r e1 e2 k => va_new (ci := a) (fs := ri_new a) (C := q.1) (T := q.2.1) (N := q.2.2) hx hb hts t1 (ri_ft a) t4 hown (hts _ (ri_w_mem hm2)) (hts _ t2) (hts _ t3) hAt.1 hAt.2.2.1 hAt.2.2.2.1 hAt.2.2.2.2.1 hA hq (fun j hj => by
        have hj2 : j < ri_fn a := by rw [t6]; exact hj
        simp [ri_new, vp_V, List.getD_eq_getElem?_getD, hj2]) (by rw [← e1]; exact hr1) (by rw [← t6, ← e2]; exact hr2) hd (fun qq H1 hP hD hS => by
        have z := k qq H1 hP hD hS
        rw [t6] at z
        exact z))
    · cases hm2
  case getfield i =>
    have hm2 := hm
    dsimp only at hm2
    split at hm2
    · next q hq =>
      obtain ⟨t1, t2, t3, t4, t5, t6, t7⟩ := TB.2.2.2.1 a q hq
      rw [Bool.and_eq_true] at hm2
      have hb2 : b < q.2.2 := Nat.le_of_ble_eq_true hm2.1
      have hl := hm2.2
      unfold ri_fk at hl
      split at hl
      · exact ri_p_gf h hAt K (fun k fs v r g1 g2 kk => va_get (ci := a) (C := q.1) (T := q.2.1) (N := q.2.2) hx hb hts t1 hown hAt.1 hAt.2.2.1 k g1 hq b hb2 (hts _ (ri_w_mem hl)) (fun _ h9 => h9) g2 hd kk)
      · exact ri_p_gf h hAt K (fun k fs v r g1 g2 kk => va_getN (ci := a) (C := q.1) (T := q.2.1) (N := q.2.2) hx hb hts t1 hown hAt.1 hAt.2.2.1 k g1 hq b hb2 (hts _ (ri_w_mem hl)) (fun _ h9 => h9) g2 hd kk)
    · cases hm2
  case putfield i =>
    have hm2 := hm
    dsimp only at hm2
    split at hm2
    · next q hq =>
      obtain ⟨t1, t2, t3, t4, t5, t6, t7⟩ := TB.2.2.2.1 a q hq
      rw [Bool.and_eq_true, Bool.and_eq_true] at hm2
      have hb2 : b < q.2.2 := Nat.le_of_ble_eq_true hm2.1
      have hl := hm2.2.1
      have hf := hm2.2.2
      by_cases hfin : (q.2.1 b).2.2.2 = true
      · rw [if_pos hfin, Bool.and_eq_true, Bool.and_eq_true, decide_eq_true_eq, decide_eq_true_eq, decide_eq_true_eq] at hf
        unfold ri_fk at hl
        rw [if_pos hf.2.1] at hl
        exact ri_p_pf h hAt K (fun k fs v r g1 g2 g3 g4 kk => va_putF (ci := a) (C := q.1) (T := q.2.1) (N := q.2.2) hx hb hts t1 (ri_ft a) t4 t5 hown hAt.1 hAt.2.2.1 hAt.2.2.2.1 hAt.2.2.2.2.1 k g1 hq b hb2 (hts _ (ri_w_mem hl)) (fun _ h9 => h9) hfin (hnm.trans hf.1) hf.2.2 (t4 b hb2) g3 g4 g2 hd kk)
      · have hfin2 : (q.2.1 b).2.2.2 = false := by simpa using hfin
        unfold ri_fk at hl
        split at hl
        · exact ri_p_pf h hAt K (fun k fs v r g1 g2 g3 g4 kk => va_put (ci := a) (C := q.1) (T := q.2.1) (N := q.2.2) hx hb hts t1 (ri_ft a) t4 t5 hown hAt.1 hAt.2.2.1 hAt.2.2.2.1 hAt.2.2.2.2.1 k g1 hq b hb2 (hts _ (ri_w_mem hl)) (fun _ h9 => h9) hfin2 (t4 b hb2) g3 g4 g2 hd kk)
        · exact ri_p_pf h hAt K (fun k fs v r g1 g2 g3 g4 kk => va_putN (ci := a) (C := q.1) (T := q.2.1) (N := q.2.2) hx hb hts t1 (ri_ft a) t4 t5 hown hAt.1 hAt.2.2.1 hAt.2.2.2.1 hAt.2.2.2.2.1 k g1 hq b hb2 (hts _ (ri_w_mem hl)) (fun _ h9 => h9) hfin2 (t4 b hb2) g3 g4 g2 hd kk)
    · cases hm2
  case invokevirtual i =>
    rw [Bool.and_eq_true, decide_eq_true_eq] at hm
    exact ri_p_clv TB Fx hm.1 hm.2 hd hR hC h hAt K hr1 hr2
  case invokespecial i =>
    by_cases h6 : c0 % 16 = 6
    · have hm2 := hm
      dsimp only at hm2
      rw [if_pos h6] at hm2
      have h2 : (if c0 % 16 = 6 then ri_oin pc L st M cc sc else ri_cin call a b pc L st M cc sc) = some (.inl fr) := h
      rw [if_pos h6] at h2
      exact ri_p_oin h2 hAt K (fun x r g k => W.objInit (g := F0 m pc ls (.ref x :: r)) (rest := r) hx hb hown (hts _ (ri_w_mem hm2)) (hts _ TB.2.2.2.2.1.1) (hts _ TB.2.2.2.2.1.2) rfl (hAt.2.2.2.2.2.2.1.1.trans hml.symm) rfl hd (by omega) (by have g2 := g; unfold ri_cat at g2; have g3 := lv_room (pc := pc) (ls := ls) (rest := .ref x :: r) (m := m) g2; omega) (W.eq rfl k))
    · have hm2 := hm
      dsimp only at hm2
      rw [if_neg h6, Bool.and_eq_true, decide_eq_true_eq] at hm2
      have h2 : (if c0 % 16 = 6 then ri_oin pc L st M cc sc else ri_cin call a b pc L st M cc sc) = some (.inl fr) := h
      rw [if_neg h6] at h2
      exact ri_p_cin TB Fx hm2.1 hm2.2 hd hR hC h2 hAt K hr1 hr2
  case invokestatic i =>
    have h2 : (match c0 % 16 with
      | 0 => ri_cls call a b pc L st M cc sc
      | 1 => ri_cls call a b pc L st M cc sc
      | 7 => ri_mm (fun x y => if y < x then y else x) pc L st M cc sc
      | 8 => ri_mm (fun x y => if x < y then y else x) pc L st M cc sc
      | 9 => ri_ma pc L st M cc sc
      | 10 => ri_acp pc L st M cc sc
      | _ => none) = some (.inl fr) := h
    dsimp only at hm
    have hml2 : c.maxLocals = ls.size := hml.trans hAt.2.2.2.2.2.2.1.1.symm
    split at h2
    · next q =>
      rw [q] at hm
      replace hm : (ri_lk own i a b c0 && decide (ri_kd a = 0)) = true := hm
      rw [Bool.and_eq_true, decide_eq_true_eq] at hm
      exact ri_p_cls TB Fx hm.1 hm.2 hd hR hC h2 hAt K hr1 hr2
    · next q =>
      rw [q] at hm
      replace hm : (ri_lk own i a b c0 && decide (ri_kd a = 0)) = true := hm
      rw [Bool.and_eq_true, decide_eq_true_eq] at hm
      exact ri_p_cls TB Fx hm.1 hm.2 hd hR hC h2 hAt K hr1 hr2
    · next q =>
      rw [q] at hm
      exact ri_p_mm h2 hAt K (fun x y r g k => va_mmin hx hb hml2 hown (hts _ (ri_w_mem hm)) (hts _ TB.2.2.2.2.2.2.1.1) (hts _ TB.2.2.2.2.2.1) (hts _ TB.2.2.2.2.2.2.1.2) (by omega) (by unfold ri_cat at g; omega) (Nat.le_trans hc1 hr1) (Nat.le_trans hc2 hr2) hd k)
    · next q =>
      rw [q] at hm
      exact ri_p_mm h2 hAt K (fun x y r g k => va_mmax hx hb hml2 hown (hts _ (ri_w_mem hm)) (hts _ TB.2.2.2.2.2.2.2.1.1) (hts _ TB.2.2.2.2.2.1) (hts _ TB.2.2.2.2.2.2.2.1.2) (by omega) (by unfold ri_cat at g; omega) (Nat.le_trans hc1 hr1) (Nat.le_trans hc2 hr2) hd k)
    · next q =>
      rw [q] at hm
      exact ri_p_ma h2 hAt K (fun x r g k => va_mabs hx hb hml2 hown (hts _ (ri_w_mem hm)) (hts _ TB.2.2.2.2.2.2.2.2.1.1) (hts _ TB.2.2.2.2.2.1) (hts _ TB.2.2.2.2.2.2.2.2.1.2) (by omega) (by unfold ri_cat at g; omega) (Nat.le_trans hc1 hr1) (Nat.le_trans hc2 hr2) hd k)
    · next q =>
      rw [q] at hm
      exact ri_p_acp h2 hAt K (fun k0 k n0 n1 f g sp dp n r hK g1 g2 g3 g4 kk => va_copyi hx hb hml2 hown (hts _ (ri_w_mem hm)) (hts _ TB.2.2.2.2.2.2.2.2.2.1.1) (hts _ TB.2.2.2.2.2.2.2.2.2.1.2.1) (hts _ TB.2.2.2.2.2.2.2.2.2.1.2.2) hK hAt.2.2.1 hAt.2.2.2.1 hAt.2.2.2.2.1 k0 k 0 1 g1 g2 rfl rfl rfl g3.1 g3.2.1 g3.2.2.1 g3.2.2.2.1 g3.2.2.2.2 (fun _ _ => rfl) (by omega) (by unfold ri_cat at g4; rw [show nativeFrameWords "java/lang/System" "arraycopy" 5 = 7 from by decide +kernel]; omega) hd kk)
    · cases h2
  case ireturn =>
    have h2 : ri_ret rt st M cc sc = some (.inl fr) := h
    unfold ri_ret at h2
    split at h2
    · split at h2 <;> cases h2
    · cases h2
  case lreturn =>
    have h2 : ri_lret rt st M cc sc = some (.inl fr) := h
    unfold ri_lret at h2
    split at h2 <;> cases h2
  case areturn =>
    have h2 : ri_aret rt st M cc sc = some (.inl fr) := h
    unfold ri_aret at h2
    split at h2 <;> cases h2
  case return_ =>
    have h2 : ri_vret rt st M cc sc = some (.inl fr) := h
    unfold ri_vret at h2
    split at h2 <;> cases h2
  all_goals (cases h)
end RI
end
section
/-! Runs, and the methods' contracts. -/
section RI
variable {p : Program} {l : Launch} {e : Env} {R : Room} {s : State} {m : MethodId} {args : Array Value} {below : List Frame} {meth : Method} {c : Code} {H : Heap} {locs : List Loc} {Q : State → Prop} {bs : ByteArray} {nL : Nat} {own nm : String} {A : Nat → Prop} {D : va_G} {X : ri_X} {dA : Nat → Nat} {dT : Nat → ClassId} {pc : Nat} {L : ri_L} {st : List Value} {M : ri_M} {cc sc : Nat} {ls : Array Slot} {fr : ri_F}
theorem ri_mono {call : ri_Ca} {code : Nat → Option ri_J} {rt : Option FieldType} : ∀ (n pc : Nat) (L : ri_L) (st : List Value) (M : ri_M) (cc sc : Nat) (r : ri_R), ri_run X call ri_rc code rt n pc L st M cc sc = some r → cc ≤ r.2.2.1 ∧ sc ≤ r.2.2.2 := by
  intro n
  induction n with
  | zero => intro pc L st M cc sc r h; cases h
  | succ n ih =>
    intro pc L st M cc sc r h
    unfold ri_run at h
    split at h
    · cases h
    · next j hj =>
      split at h
      · next pc1 L1 st1 M1 c1 s1 hs =>
        obtain ⟨a1, a2⟩ := ri_mono1 hs
        obtain ⟨b1, b2⟩ := ih _ _ _ _ _ _ _ h
        exact ⟨Nat.le_trans a1 b1, Nat.le_trans a2 b2⟩
      · next r1 hs =>
        cases h
        obtain ⟨-, a1, a2⟩ := ri_mono2 hs
        exact ⟨Nat.le_of_eq a1.symm, Nat.le_of_eq a2.symm⟩
      · cases h
theorem ri_run_sound {call : ri_Ca} {code : Nat → Option ri_J} {rt : Option FieldType} {F : Nat} (TB : ri_Tab) (Fx : ri_Fx p s m args meth c bs nL own nm A) (hcode : ∀ pc j, code pc = some j → ri_ck own nm bs pc j = true) (hR : F + 2 ≤ R.frames ∧ 400 * (F + 2) ≤ R.locals) (hC : ri_Cal l call F) (r : ri_R) (hr1 : r.2.2.1 ≤ R.cells) (hr2 : r.2.2.2 ≤ R.slots) (n0 : Nat) (dA0 : Nat → Nat) (dT0 : Nat → ClassId) (cc0 : Nat)
    (hret : ∀ (pc1 : Nat) (L1 : ri_L) (st1 : List Value) (j : ri_J), code pc1 = some j → ri_step X call ri_rc rt j pc1 L1 st1 r.2.1 r.2.2.1 r.2.2.2 = some (.inr r) → ∀ (dA1 : Nat → Nat) (dT1 : Nat → ClassId) (H1 : Heap) (locs1 : List Loc) (ls1 : Array Slot), ri_Ag n0 dA0 dT0 cc0 r.2.1.length dA1 dT1 r.2.2.1 → ri_At X D A s nL dA1 dT1 r.2.1 L1 H1 locs1 ls1 → W p l e R s m args below meth c H1 locs1 r.2.2.1 r.2.2.2 Q (F0 m pc1 ls1 (st1.map (ri_cv dA1)))) :
    ∀ (n pc : Nat) (L : ri_L) (st : List Value) (M : ri_M) (cc sc : Nat), ri_run X call ri_rc code rt n pc L st M cc sc = some r → ∀ (dA : Nat → Nat) (dT : Nat → ClassId) (H : Heap) (locs : List Loc) (ls : Array Slot), ri_Ag n0 dA0 dT0 cc0 M.length dA dT cc → ri_At X D A s nL dA dT M L H locs ls → W p l e R s m args below meth c H locs cc sc Q (F0 m pc ls (st.map (ri_cv dA))) := by
  intro n
  induction n with
  | zero => intro pc L st M cc sc h; cases h
  | succ n ih =>
    intro pc L st M cc sc h dA dT H locs ls hag hAt
    unfold ri_run at h
    split at h
    · cases h
    · next j hj =>
      split at h
      · next pc1 L1 st1 M1 c1 s1 hs =>
        obtain ⟨b1, b2⟩ := ri_mono _ _ _ _ _ _ _ _ h
        exact ri_sound TB Fx (hcode _ _ hj) hR hC hs hAt (fun dA1 dT1 H1 locs1 ls1 g1 g2 => ih _ _ _ _ _ _ h dA1 dT1 H1 locs1 ls1 (hag.trans g1) g2) (Nat.le_trans b1 hr1) (Nat.le_trans b2 hr2)
      · next r1 hs =>
        cases h
        obtain ⟨a1, a2, a3⟩ := ri_mono2 hs
        subst a1; subst a2; subst a3
        exact hret pc L st j hj hs dA dT H locs ls hag hAt
      · cases h
/-- a method's end -/
theorem ri_end {call : ri_Ca} {rt : Option FieldType} {j : ri_J} {r : ri_R} {Qc : Array Value → State → Outcome → State → Prop} {free : Addr → Prop} (hx : p.tables.exec = Jvm.exec) (hb : c.code = bs) (hrt : meth.sig.returnType = rt) (hlocks : meth.locks = false) (hck : ri_ck own nm bs pc j = true) (h : ri_step X call ri_rc rt j pc L st M cc sc = some (.inr r)) (hq : ∀ t : State, t.heap = H → s.WarmedH t.vm → Qc args s (.returned (r.1.map (ri_cv dA))) t) (hf : ∀ q ∈ locs, free q.base) : W p l e R s m args below meth c H locs cc sc (MQ below Qc args s cc sc free) (F0 m pc ls (st.map (ri_cv dA))) := by
  have hd := ri_ck_d hck
  obtain ⟨ins, len, a, b, c0⟩ := j
  dsimp only at hd
  cases ins
  case ireturn =>
    have h2 : ri_ret rt st M cc sc = some (.inr r) := h
    unfold ri_ret at h2
    split at h2
    · next x t =>
      split at h2
      · next hfit =>
        cases h2
        exact W.zret hx hb hrt (ri_fit_ok (dA := dA) hfit).1 hq hf hd hlocks
      · cases h2
    · cases h2
  case lreturn =>
    have h2 : ri_lret rt st M cc sc = some (.inr r) := h
    unfold ri_lret at h2
    split at h2
    · cases h2
      exact W.lret hx hb hrt hq hf hd hlocks
    · cases h2
  case areturn =>
    have h2 : ri_aret rt st M cc sc = some (.inr r) := h
    unfold ri_aret at h2
    split at h2
    · cases h2
      exact W.aret hx hb hrt (Or.inl ⟨_, rfl⟩) (Or.inl rfl) hq hf hd hlocks
    · cases h2
      exact W.aret hx hb hrt (Or.inl ⟨_, rfl⟩) (Or.inr ⟨_, rfl⟩) hq hf hd hlocks
    · cases h2
  case return_ =>
    have h2 : ri_vret rt st M cc sc = some (.inr r) := h
    unfold ri_vret at h2
    split at h2
    · cases h2
      exact W.vret hx hb hrt hq hf hd hlocks
    · cases h2
  all_goals
    exfalso
    simp only [ri_step, ri_psh, ri_ild, ri_lld, ri_ald, ri_ist, ri_lst, ri_ast, ri_inc, ri_i2, ri_d2, ri_l2, ri_e2, ri_lsh, ri_lcm, ri_i1, ri_il, ri_li, ri_pop, ri_dup, ri_dup2, ri_dupx1, ri_jmp, ri_nul, ri_tsw, ri_lsw, ri_gf, ri_pf, ri_ial, ri_bal, ri_lal, ri_aal, ri_ias, ri_bas, ri_las, ri_aas, ri_aln, ri_nwa, ri_nwq, ri_nwo, ri_cls, ri_clv, ri_cin, ri_oin, ri_mm, ri_ma, ri_acp, ri_ret, ri_lret, ri_aret, ri_vret, ri_ic, ri_iz] at h
    (repeat' split at h) <;> cases h
end RI
theorem ri_sl_len {dA : Nat → Nat} : ∀ as : List Value, (lg_sl (as.map (ri_cv dA))).length = (ri_sl as).length
  | [] => rfl
  | v :: as => by
    have ih := ri_sl_len (dA := dA) as
    have e : lg_sl ((v :: as).map (ri_cv dA)) = (if (ri_cv dA v).category = 2 then [Slot.val (ri_cv dA v), Slot.second] else [Slot.val (ri_cv dA v)]) ++ lg_sl (as.map (ri_cv dA)) := by
      simp only [lg_sl, List.map_cons, List.flatMap_cons]
    rw [e, List.length_append, ih, ri_cat_cv]
    cases v <;> simp [ri_sl, Value.category] <;> omega
theorem ri_sl_args {dA : Nat → Nat} : ∀ (as : List Value) (i j : Nat) (v : Value), (ri_sl as)[j]? = some (some v) → (i + j, ri_cv dA v) ∈ lv_args i (as.map (ri_cv dA))
  | [], i, j, v, h => by simp [ri_sl] at h
  | w :: as, i, j, v, h => by
    have ih := ri_sl_args (dA := dA) as
    cases w with
    | long x =>
      simp only [ri_sl] at h
      match j, h with
      | 0, h =>
        cases h
        exact List.mem_cons_self
      | 1, h => cases h
      | j + 2, h =>
        have h2 := ih (i + 2) j v (by simpa using h)
        refine List.mem_cons_of_mem _ ?_
        rw [show i + (j + 2) = i + 2 + j by omega]
        exact h2
    | double x =>
      simp only [ri_sl] at h
      match j, h with
      | 0, h =>
        cases h
        exact List.mem_cons_self
      | 1, h => cases h
      | j + 2, h =>
        have h2 := ih (i + 2) j v (by simpa using h)
        refine List.mem_cons_of_mem _ ?_
        rw [show i + (j + 2) = i + 2 + j by omega]
        exact h2
    | int x =>
      simp only [ri_sl] at h
      match j, h with
      | 0, h =>
        cases h
        exact List.mem_cons_self
      | j + 1, h =>
        have h2 := ih (i + 1) j v (by simpa using h)
        refine List.mem_cons_of_mem _ ?_
        rw [show i + (j + 1) = i + 1 + j by omega]
        exact h2
    | float x =>
      simp only [ri_sl] at h
      match j, h with
      | 0, h =>
        cases h
        exact List.mem_cons_self
      | j + 1, h =>
        have h2 := ih (i + 1) j v (by simpa using h)
        refine List.mem_cons_of_mem _ ?_
        rw [show i + (j + 1) = i + 1 + j by omega]
        exact h2
    | null =>
      simp only [ri_sl] at h
      match j, h with
      | 0, h =>
        cases h
        exact List.mem_cons_self
      | j + 1, h =>
        have h2 := ih (i + 1) j v (by simpa using h)
        refine List.mem_cons_of_mem _ ?_
        rw [show i + (j + 1) = i + 1 + j by omega]
        exact h2
    | ref x =>
      simp only [ri_sl] at h
      match j, h with
      | 0, h =>
        cases h
        exact List.mem_cons_self
      | j + 1, h =>
        have h2 := ih (i + 1) j v (by simpa using h)
        refine List.mem_cons_of_mem _ ?_
        rw [show i + (j + 1) = i + 1 + j by omega]
        exact h2
    | retAddr x =>
      simp only [ri_sl] at h
      match j, h with
      | 0, h =>
        cases h
        exact List.mem_cons_self
      | j + 1, h =>
        have h2 := ih (i + 1) j v (by simpa using h)
        refine List.mem_cons_of_mem _ ?_
        rw [show i + (j + 1) = i + 1 + j by omega]
        exact h2
theorem ri_ent_ok {as : List Value} {n : Nat} {L : ri_L} (h : ri_ent as n = some L) (dA : Nat → Nat) : L.length = n ∧ lv_has ((lg_sl (as.map (ri_cv dA)) ++ List.replicate (n - (lg_sl (as.map (ri_cv dA))).length) Slot.unset).toArray) n (ri_lv dA L) := by
  unfold ri_ent at h
  split at h
  · next hn =>
    cases h
    have hl := lv_entry (as.map (ri_cv dA)) (n := n) (by rw [ri_sl_len]; exact hn)
    refine ⟨by simp; omega, hl.1, hl.2.1, fun q hq => hl.2.2 q ?_⟩
    obtain ⟨v, hv, e⟩ := ri_lv_mem.mp hq
    have h2 : (ri_sl as)[q.1]? = some (some v) := by
      unfold ri_get at hv
      split at hv
      · next o ho =>
        subst hv
        by_cases hq1 : q.1 < (ri_sl as).length
        · rwa [List.getElem?_append_left hq1] at ho
        · rw [List.getElem?_append_right (by omega)] at ho
          have h9 := List.eq_of_mem_replicate (List.mem_of_getElem? ho)
          cases h9
      · cases hv
    have h3 := ri_sl_args (dA := dA) as 0 q.1 v h2
    rw [Nat.zero_add, ← e] at h3
    exact h3
  · cases h
theorem ri_tc_lt {a pc : Nat} {j : ri_J} (h : ri_tc a pc = some j) : a < ri_n ∧ pc < ri_len a ∧ ri_code a pc = some j := by
  unfold ri_tc at h
  cases h1 : Nat.blt a ri_n && Nat.blt pc (ri_len a) with
  | false => rw [h1] at h; cases h
  | true =>
    rw [h1] at h
    rw [Bool.and_eq_true] at h1
    exact ⟨Nat.le_of_ble_eq_true h1.1, Nat.le_of_ble_eq_true h1.2, h⟩
/-- every method of the tables: what the interpreter answers is its contract -/
theorem ri_met (TB : ri_Tab) (hck : ∀ a pc j, ri_tc a pc = some j → ri_ck (ri_y a).cls (ri_y a).name (ri_b a) pc j = true) (l : Launch) (fuel : Nat) : ∀ d : Nat, ri_Cal l (ri_call ri_tc ri_ml ri_rt ri_rc fuel d) d := by
  intro d
  induction d with
  | zero => intro a as M r M1 c1 s1 h; cases h
  | succ d ih =>
    intro a as M r M1 c1 s1 h D dA dT sz
    simp only [ri_call] at h
    split at h
    · next L hL =>
      have ha : a < ri_n := by
        cases fuel with
        | zero => cases h
        | succ n =>
          unfold ri_run at h
          split at h
          · cases h
          · next j hj => exact (ri_tc_lt hj).1
      obtain ⟨k1, k2, k3, k4⟩ := ri_mk_ok (TB.1 a ha)
      refine Met.ofW (cc := ri_b a) (maxL := ri_ml a) (ret := ri_rt a) k1 rfl ?_
      intro p e s m args below meth c s₁ B hml hv
      obtain ⟨rfl, hsz, hP, hK, hTt, hD0, hW0⟩ := hv
      have hts0 := atoms_spec (ws := ri_wsy a) B.pre
      have hts : ∀ w ∈ ri_tb, w.before ((as.map (ri_cv dA)).toArray) s = true := ri_every (fun w hw => hts0 w (List.mem_cons_of_mem _ hw)) hW0
      have hown : s.vm.findClass (ri_y a).cls = some m.cls := findClass_of_methodNamed B.named
      have hnm : meth.name = (ri_y a).name := (name_of_methodNamed B.named B.method).1
      have hlocks := B.notSynchronized
      subst hsz
      have hD := hD0.self (sz := s.heap.size)
      have hA : ∀ q : Nat, s.heap.size ≤ q → va_A (ri_ws dA dT M) s.heap.size q := fun q h => Or.inr h
      obtain ⟨hl1, hl2⟩ := ri_ent_ok hL dA
      rw [lg_entry_eq]
      exact ri_run_sound (Q := MQ below (ri_Q D dA dT M r M1 c1 s.heap.size) _ s c1 s1 (va_A (ri_ws dA dT M) s.heap.size)) (F := d) TB ⟨B.exec, B.bytes, hml, hown, hts, hnm, hA⟩ (fun pc j hj => hck a pc j hj) ⟨Nat.le_refl _, Nat.le_refl _⟩ ih (r, M1, c1, s1) (Nat.le_refl _) (Nat.le_refl _) M.length dA dT 0
        (fun pc1 L1 st1 j hj hs dA1 dT1 H1 locs1 ls1 hag hAt => ri_end (dA := dA1) B.exec B.bytes B.returns hlocks (hck a pc1 j hj) hs (fun t ht hW => by
          obtain ⟨a1, a2, a3, a4, a5, a6, a7, a8⟩ := hAt
          exact ⟨dA1, dT1, hag, rfl, by rw [ht]; exact a3, fun k ty x h => ⟨arrOfT_moved hW.alike (a2 k ty x h).1, va_RA.moved hW.alike (a2 k ty x h).2⟩, a4, a5.F ht⟩) hAt.2.2.2.2.1.2.2)
        fuel 0 L [] M 0 0 h dA dT s.heap [] _ ri_Ag.rf ⟨hK, hTt, hP, hD, va_S.rf, hl1, hl2, trivial⟩
    · cases h
end
