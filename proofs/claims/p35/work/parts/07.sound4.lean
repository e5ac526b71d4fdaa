/-! Runs, and the methods' contracts. -/
section RI
variable {p : Program} {l : Launch} {e : Env} {R : Room} {s : State} {m : MethodId} {args : Array Value} {below : List Frame} {meth : Method} {c : Code} {H : Heap} {locs : List Loc} {Q : State → Prop} {bs : ByteArray} {nL : Nat} {own nm : String} {A : Nat → Prop} {D : va_G} {X : ri_X} {dA : Nat → Nat} {dT : Nat → ClassId} {pc : Nat} {L : ri_L} {st : List Value} {M : ri_M} {cc sc : Nat} {ls : Array Slot} {fr : ri_F}
theorem ri_mono {call : ri_Ca} {code : Nat → Option ri_J} {rt : Option FieldType} : ∀ (n pc : Nat) (L : ri_L) (st : List Value) (M : ri_M) (cc sc : Nat) (r : ri_R), ri_run X call ri_rc code rt n pc L st M cc sc = some r → cc ≤ r.2.2.1 ∧ sc ≤ r.2.2.2 := by
  intro n
  induction n with
  | zero => intro pc L st M cc sc r h; cases h
  | succ n ih =>
    intro pc L st M cc sc r h
    unfold ri_run at h
    split at h
    · cases h
    · next j hj =>
      split at h
      · next pc1 L1 st1 M1 c1 s1 hs =>
        obtain ⟨a1, a2⟩ := ri_mono1 hs
        obtain ⟨b1, b2⟩ := ih _ _ _ _ _ _ _ h
        exact ⟨Nat.le_trans a1 b1, Nat.le_trans a2 b2⟩
      · next r1 hs =>
        cases h
        obtain ⟨-, a1, a2⟩ := ri_mono2 hs
        exact ⟨Nat.le_of_eq a1.symm, Nat.le_of_eq a2.symm⟩
      · cases h
theorem ri_run_sound {call : ri_Ca} {code : Nat → Option ri_J} {rt : Option FieldType} {F : Nat} (TB : ri_Tab) (Fx : ri_Fx p s m args meth c bs nL own nm A) (hcode : ∀ pc j, code pc = some j → ri_ck own nm bs pc j = true) (hR : F + 2 ≤ R.frames ∧ 400 * (F + 2) ≤ R.locals) (hC : ri_Cal l call F) (r : ri_R) (hr1 : r.2.2.1 ≤ R.cells) (hr2 : r.2.2.2 ≤ R.slots) (n0 : Nat) (dA0 : Nat → Nat) (dT0 : Nat → ClassId) (cc0 : Nat)
    (hret : ∀ (pc1 : Nat) (L1 : ri_L) (st1 : List Value) (j : ri_J), code pc1 = some j → ri_step X call ri_rc rt j pc1 L1 st1 r.2.1 r.2.2.1 r.2.2.2 = some (.inr r) → ∀ (dA1 : Nat → Nat) (dT1 : Nat → ClassId) (H1 : Heap) (locs1 : List Loc) (ls1 : Array Slot), ri_Ag n0 dA0 dT0 cc0 r.2.1.length dA1 dT1 r.2.2.1 → ri_At X D A s nL dA1 dT1 r.2.1 L1 H1 locs1 ls1 → W p l e R s m args below meth c H1 locs1 r.2.2.1 r.2.2.2 Q (F0 m pc1 ls1 (st1.map (ri_cv dA1)))) :
    ∀ (n pc : Nat) (L : ri_L) (st : List Value) (M : ri_M) (cc sc : Nat), ri_run X call ri_rc code rt n pc L st M cc sc = some r → ∀ (dA : Nat → Nat) (dT : Nat → ClassId) (H : Heap) (locs : List Loc) (ls : Array Slot), ri_Ag n0 dA0 dT0 cc0 M.length dA dT cc → ri_At X D A s nL dA dT M L H locs ls → W p l e R s m args below meth c H locs cc sc Q (F0 m pc ls (st.map (ri_cv dA))) := by
  intro n
  induction n with
  | zero => intro pc L st M cc sc h; cases h
  | succ n ih =>
    intro pc L st M cc sc h dA dT H locs ls hag hAt
    unfold ri_run at h
    split at h
    · cases h
    · next j hj =>
      split at h
      · next pc1 L1 st1 M1 c1 s1 hs =>
        obtain ⟨b1, b2⟩ := ri_mono _ _ _ _ _ _ _ _ h
        exact ri_sound TB Fx (hcode _ _ hj) hR hC hs hAt (fun dA1 dT1 H1 locs1 ls1 g1 g2 => ih _ _ _ _ _ _ h dA1 dT1 H1 locs1 ls1 (hag.trans g1) g2) (Nat.le_trans b1 hr1) (Nat.le_trans b2 hr2)
      · next r1 hs =>
        cases h
        obtain ⟨a1, a2, a3⟩ := ri_mono2 hs
        subst a1; subst a2; subst a3
        exact hret pc L st j hj hs dA dT H locs ls hag hAt
      · cases h
/-- a method's end -/
theorem ri_end {call : ri_Ca} {rt : Option FieldType} {j : ri_J} {r : ri_R} {Qc : Array Value → State → Outcome → State → Prop} {free : Addr → Prop} (hx : p.tables.exec = Jvm.exec) (hb : c.code = bs) (hrt : meth.sig.returnType = rt) (hlocks : meth.locks = false) (hck : ri_ck own nm bs pc j = true) (h : ri_step X call ri_rc rt j pc L st M cc sc = some (.inr r)) (hq : ∀ t : State, t.heap = H → s.WarmedH t.vm → Qc args s (.returned (r.1.map (ri_cv dA))) t) (hf : ∀ q ∈ locs, free q.base) : W p l e R s m args below meth c H locs cc sc (MQ below Qc args s cc sc free) (F0 m pc ls (st.map (ri_cv dA))) := by
  have hd := ri_ck_d hck
  obtain ⟨ins, len, a, b, c0⟩ := j
  dsimp only at hd
  cases ins
  case ireturn =>
    have h2 : ri_ret rt st M cc sc = some (.inr r) := h
    unfold ri_ret at h2
    split at h2
    · next x t =>
      split at h2
      · next hfit =>
        cases h2
        exact W.zret hx hb hrt (ri_fit_ok (dA := dA) hfit).1 hq hf hd hlocks
      · cases h2
    · cases h2
  case lreturn =>
    have h2 : ri_lret rt st M cc sc = some (.inr r) := h
    unfold ri_lret at h2
    split at h2
    · cases h2
      exact W.lret hx hb hrt hq hf hd hlocks
    · cases h2
  case areturn =>
    have h2 : ri_aret rt st M cc sc = some (.inr r) := h
    unfold ri_aret at h2
    split at h2
    · cases h2
      exact W.aret hx hb hrt (Or.inl ⟨_, rfl⟩) (Or.inl rfl) hq hf hd hlocks
    · cases h2
      exact W.aret hx hb hrt (Or.inl ⟨_, rfl⟩) (Or.inr ⟨_, rfl⟩) hq hf hd hlocks
    · cases h2
  case return_ =>
    have h2 : ri_vret rt st M cc sc = some (.inr r) := h
    unfold ri_vret at h2
    split at h2
    · cases h2
      exact W.vret hx hb hrt hq hf hd hlocks
    · cases h2
  all_goals
    exfalso
    simp only [ri_step, ri_psh, ri_ild, ri_lld, ri_ald, ri_ist, ri_lst, ri_ast, ri_inc, ri_i2, ri_d2, ri_l2, ri_e2, ri_lsh, ri_lcm, ri_i1, ri_il, ri_li, ri_pop, ri_dup, ri_dup2, ri_dupx1, ri_jmp, ri_nul, ri_tsw, ri_lsw, ri_gf, ri_pf, ri_ial, ri_bal, ri_lal, ri_aal, ri_ias, ri_bas, ri_las, ri_aas, ri_aln, ri_nwa, ri_nwq, ri_nwo, ri_cls, ri_clv, ri_cin, ri_oin, ri_mm, ri_ma, ri_acp, ri_ret, ri_lret, ri_aret, ri_vret, ri_ic, ri_iz] at h
    (repeat' split at h) <;> cases h
end RI
theorem ri_sl_len {dA : Nat → Nat} : ∀ as : List Value, (lg_sl (as.map (ri_cv dA))).length = (ri_sl as).length
  | [] => rfl
  | v :: as => by
    have ih := ri_sl_len (dA := dA) as
    have e : lg_sl ((v :: as).map (ri_cv dA)) = (if (ri_cv dA v).category = 2 then [Slot.val (ri_cv dA v), Slot.second] else [Slot.val (ri_cv dA v)]) ++ lg_sl (as.map (ri_cv dA)) := by
      simp only [lg_sl, List.map_cons, List.flatMap_cons]
    rw [e, List.length_append, ih, ri_cat_cv]
    cases v <;> simp [ri_sl, Value.category] <;> omega
theorem ri_sl_args {dA : Nat → Nat} : ∀ (as : List Value) (i j : Nat) (v : Value), (ri_sl as)[j]? = some (some v) → (i + j, ri_cv dA v) ∈ lv_args i (as.map (ri_cv dA))
  | [], i, j, v, h => by simp [ri_sl] at h
  | w :: as, i, j, v, h => by
    have ih := ri_sl_args (dA := dA) as
    cases w with
    | long x =>
      simp only [ri_sl] at h
      match j, h with
      | 0, h =>
        cases h
        exact List.mem_cons_self
      | 1, h => cases h
      | j + 2, h =>
        have h2 := ih (i + 2) j v (by simpa using h)
        refine List.mem_cons_of_mem _ ?_
        rw [show i + (j + 2) = i + 2 + j by omega]
        exact h2
    | double x =>
      simp only [ri_sl] at h
      match j, h with
      | 0, h =>
        cases h
        exact List.mem_cons_self
      | 1, h => cases h
      | j + 2, h =>
        have h2 := ih (i + 2) j v (by simpa using h)
        refine List.mem_cons_of_mem _ ?_
        rw [show i + (j + 2) = i + 2 + j by omega]
        exact h2
    | int x =>
      simp only [ri_sl] at h
      match j, h with
      | 0, h =>
        cases h
        exact List.mem_cons_self
      | j + 1, h =>
        have h2 := ih (i + 1) j v (by simpa using h)
        refine List.mem_cons_of_mem _ ?_
        rw [show i + (j + 1) = i + 1 + j by omega]
        exact h2
    | float x =>
      simp only [ri_sl] at h
      match j, h with
      | 0, h =>
        cases h
        exact List.mem_cons_self
      | j + 1, h =>
        have h2 := ih (i + 1) j v (by simpa using h)
        refine List.mem_cons_of_mem _ ?_
        rw [show i + (j + 1) = i + 1 + j by omega]
        exact h2
    | null =>
      simp only [ri_sl] at h
      match j, h with
      | 0, h =>
        cases h
        exact List.mem_cons_self
      | j + 1, h =>
        have h2 := ih (i + 1) j v (by simpa using h)
        refine List.mem_cons_of_mem _ ?_
        rw [show i + (j + 1) = i + 1 + j by omega]
        exact h2
    | ref x =>
      simp only [ri_sl] at h
      match j, h with
      | 0, h =>
        cases h
        exact List.mem_cons_self
      | j + 1, h =>
        have h2 := ih (i + 1) j v (by simpa using h)
        refine List.mem_cons_of_mem _ ?_
        rw [show i + (j + 1) = i + 1 + j by omega]
        exact h2
    | retAddr x =>
      simp only [ri_sl] at h
      match j, h with
      | 0, h =>
        cases h
        exact List.mem_cons_self
      | j + 1, h =>
        have h2 := ih (i + 1) j v (by simpa using h)
        refine List.mem_cons_of_mem _ ?_
        rw [show i + (j + 1) = i + 1 + j by omega]
        exact h2
theorem ri_ent_ok {as : List Value} {n : Nat} {L : ri_L} (h : ri_ent as n = some L) (dA : Nat → Nat) : L.length = n ∧ lv_has ((lg_sl (as.map (ri_cv dA)) ++ List.replicate (n - (lg_sl (as.map (ri_cv dA))).length) Slot.unset).toArray) n (ri_lv dA L) := by
  unfold ri_ent at h
  split at h
  · next hn =>
    cases h
    have hl := lv_entry (as.map (ri_cv dA)) (n := n) (by rw [ri_sl_len]; exact hn)
    refine ⟨by simp; omega, hl.1, hl.2.1, fun q hq => hl.2.2 q ?_⟩
    obtain ⟨v, hv, e⟩ := ri_lv_mem.mp hq
    have h2 : (ri_sl as)[q.1]? = some (some v) := by
      unfold ri_get at hv
      split at hv
      · next o ho =>
        subst hv
        by_cases hq1 : q.1 < (ri_sl as).length
        · rwa [List.getElem?_append_left hq1] at ho
        · rw [List.getElem?_append_right (by omega)] at ho
          have h9 := List.eq_of_mem_replicate (List.mem_of_getElem? ho)
          cases h9
      · cases hv
    have h3 := ri_sl_args (dA := dA) as 0 q.1 v h2
    rw [Nat.zero_add, ← e] at h3
    exact h3
  · cases h
theorem ri_tc_lt {a pc : Nat} {j : ri_J} (h : ri_tc a pc = some j) : a < ri_n ∧ pc < ri_len a ∧ ri_code a pc = some j := by
  unfold ri_tc at h
  cases h1 : Nat.blt a ri_n && Nat.blt pc (ri_len a) with
  | false => rw [h1] at h; cases h
  | true =>
    rw [h1] at h
    rw [Bool.and_eq_true] at h1
    exact ⟨Nat.le_of_ble_eq_true h1.1, Nat.le_of_ble_eq_true h1.2, h⟩
/-- every method of the tables: what the interpreter answers is its contract -/
theorem ri_met (TB : ri_Tab) (hck : ∀ a pc j, ri_tc a pc = some j → ri_ck (ri_y a).cls (ri_y a).name (ri_b a) pc j = true) (l : Launch) (fuel : Nat) : ∀ d : Nat, ri_Cal l (ri_call ri_tc ri_ml ri_rt ri_rc fuel d) d := by
  intro d
  induction d with
  | zero => intro a as M r M1 c1 s1 h; cases h
  | succ d ih =>
    intro a as M r M1 c1 s1 h D dA dT sz
    simp only [ri_call] at h
    split at h
    · next L hL =>
      have ha : a < ri_n := by
        cases fuel with
        | zero => cases h
        | succ n =>
          unfold ri_run at h
          split at h
          · cases h
          · next j hj => exact (ri_tc_lt hj).1
      obtain ⟨k1, k2, k3, k4⟩ := ri_mk_ok (TB.1 a ha)
      refine Met.ofW (cc := ri_b a) (maxL := ri_ml a) (ret := ri_rt a) k1 rfl ?_
      intro p e s m args below meth c s₁ B hml hv
      obtain ⟨rfl, hsz, hP, hK, hTt, hD0, hW0⟩ := hv
      have hts0 := atoms_spec (ws := ri_wsy a) B.pre
      have hts : ∀ w ∈ ri_tb, w.before ((as.map (ri_cv dA)).toArray) s = true := ri_every (fun w hw => hts0 w (List.mem_cons_of_mem _ hw)) hW0
      have hown : s.vm.findClass (ri_y a).cls = some m.cls := findClass_of_methodNamed B.named
      have hnm : meth.name = (ri_y a).name := (name_of_methodNamed B.named B.method).1
      have hlocks := B.notSynchronized
      subst hsz
      have hD := hD0.self (sz := s.heap.size)
      have hA : ∀ q : Nat, s.heap.size ≤ q → va_A (ri_ws dA dT M) s.heap.size q := fun q h => Or.inr h
      obtain ⟨hl1, hl2⟩ := ri_ent_ok hL dA
      rw [lg_entry_eq]
      exact ri_run_sound (Q := MQ below (ri_Q D dA dT M r M1 c1 s.heap.size) _ s c1 s1 (va_A (ri_ws dA dT M) s.heap.size)) (F := d) TB ⟨B.exec, B.bytes, hml, hown, hts, hnm, hA⟩ (fun pc j hj => hck a pc j hj) ⟨Nat.le_refl _, Nat.le_refl _⟩ ih (r, M1, c1, s1) (Nat.le_refl _) (Nat.le_refl _) M.length dA dT 0
        (fun pc1 L1 st1 j hj hs dA1 dT1 H1 locs1 ls1 hag hAt => ri_end (dA := dA1) B.exec B.bytes B.returns hlocks (hck a pc1 j hj) hs (fun t ht hW => by
          obtain ⟨a1, a2, a3, a4, a5, a6, a7, a8⟩ := hAt
          exact ⟨dA1, dT1, hag, rfl, by rw [ht]; exact a3, fun k ty x h => ⟨arrOfT_moved hW.alike (a2 k ty x h).1, va_RA.moved hW.alike (a2 k ty x h).2⟩, a4, a5.F ht⟩) hAt.2.2.2.2.1.2.2)
        fuel 0 L [] M 0 0 h dA dT s.heap [] _ ri_Ag.rf ⟨hK, hTt, hP, hD, va_S.rf, hl1, hl2, trivial⟩
    · cases h
