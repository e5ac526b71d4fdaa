/-! From the machine's entry of the law to its end. -/
section RI
variable {p : Program} {l : Launch} {e : Env} {R : Room} {s : State} {m : MethodId} {args : Array Value} {below : List Frame} {meth : Method} {c : Code} {H : Heap} {locs : List Loc} {Q : State → Prop} {bs : ByteArray} {nL : Nat} {own nm : String} {A : Nat → Prop} {D : va_G} {X : ri_X} {dA : Nat → Nat} {dT : Nat → ClassId} {pc : Nat} {L : ri_L} {st : List Value} {M : ri_M} {cc sc : Nat} {ls : Array Slot} {fr : ri_F}
/-- some steps of a frame -/
noncomputable def ri_go (X : ri_X) (call : ri_Ca) (code : Nat → Option ri_J) (rt : Option FieldType) : Nat → Nat → ri_L → List Value → ri_M → Nat → Nat → Option ri_F
  | 0, pc, L, st, M, cc, sc => some (pc, L, st, M, cc, sc)
  | n + 1, pc, L, st, M, cc, sc => match code pc with
    | none => none
    | some j => match ri_step X call ri_rc rt j pc L st M cc sc with
      | some (.inl (pc1, L1, st1, M1, c1, s1)) => ri_go X call code rt n pc1 L1 st1 M1 c1 s1
      | _ => none
theorem ri_go_mono {call : ri_Ca} {code : Nat → Option ri_J} {rt : Option FieldType} : ∀ (n pc : Nat) (L : ri_L) (st : List Value) (M : ri_M) (cc sc : Nat) (f : ri_F), ri_go X call code rt n pc L st M cc sc = some f → cc ≤ f.2.2.2.2.1 ∧ sc ≤ f.2.2.2.2.2 := by
  intro n
  induction n with
  | zero => intro pc L st M cc sc f h; cases h; exact ⟨Nat.le_refl _, Nat.le_refl _⟩
  | succ n ih =>
    intro pc L st M cc sc f h
    unfold ri_go at h
    split at h
    · cases h
    · next j hj =>
      split at h
      · next pc1 L1 st1 M1 c1 s1 hs =>
        obtain ⟨a1, a2⟩ := ri_mono1 hs
        obtain ⟨b1, b2⟩ := ih _ _ _ _ _ _ _ h
        exact ⟨Nat.le_trans a1 b1, Nat.le_trans a2 b2⟩
      · cases h
theorem ri_go_sound {call : ri_Ca} {code : Nat → Option ri_J} {rt : Option FieldType} {F : Nat} (TB : ri_Tab) (Fx : ri_Fx p s m args meth c bs nL own nm A) (hcode : ∀ pc j, code pc = some j → ri_ck own nm bs pc j = true) (hR : F + 2 ≤ R.frames ∧ 400 * (F + 2) ≤ R.locals) (hC : ri_Cal l call F) (f : ri_F) (hr1 : f.2.2.2.2.1 ≤ R.cells) (hr2 : f.2.2.2.2.2 ≤ R.slots) (n0 : Nat) (dA0 : Nat → Nat) (dT0 : Nat → ClassId) (cc0 : Nat)
    (hK : ri_Go p l e R s m args below meth c Q X D A nL dA0 dT0 n0 cc0 f) :
    ∀ (n pc : Nat) (L : ri_L) (st : List Value) (M : ri_M) (cc sc : Nat), ri_go X call code rt n pc L st M cc sc = some f → ∀ (dA : Nat → Nat) (dT : Nat → ClassId) (H : Heap) (locs : List Loc) (ls : Array Slot), ri_Ag n0 dA0 dT0 cc0 M.length dA dT cc → ri_At X D A s nL dA dT M L H locs ls → W p l e R s m args below meth c H locs cc sc Q (F0 m pc ls (st.map (ri_cv dA))) := by
  intro n
  induction n with
  | zero =>
    intro pc L st M cc sc h dA dT H locs ls hag hAt
    cases h
    exact hK dA dT H locs ls hag hAt
  | succ n ih =>
    intro pc L st M cc sc h dA dT H locs ls hag hAt
    unfold ri_go at h
    split at h
    · cases h
    · next j hj =>
      split at h
      · next pc1 L1 st1 M1 c1 s1 hs =>
        obtain ⟨b1, b2⟩ := ri_go_mono _ _ _ _ _ _ _ _ h
        exact ri_sound TB Fx (hcode _ _ hj) hR hC hs hAt (fun dA1 dT1 H1 locs1 ls1 g1 g2 => ih _ _ _ _ _ _ h dA1 dT1 H1 locs1 ls1 (hag.trans g1) g2) (Nat.le_trans b1 hr1) (Nat.le_trans b2 hr2)
      · cases h
theorem ri_eqM_get : ∀ {M N : ri_M}, ri_eqM M N = true → M.length = N.length ∧ ∀ (k : Nat) (x y : ri_C), M[k]? = some x → N[k]? = some y → ri_eqC x y = true
  | [], [], _ => ⟨rfl, fun k x y h => by simp at h⟩
  | [], _ :: _, h => by cases h
  | _ :: _, [], h => by cases h
  | a :: M, b :: N, h => by
    unfold ri_eqM at h
    rw [Bool.and_eq_true] at h
    obtain ⟨e1, e2⟩ := ri_eqM_get h.2
    refine ⟨by rw [List.length_cons, List.length_cons, e1], fun k x y hx hy => ?_⟩
    cases k with
    | zero =>
      cases hx
      cases hy
      exact h.1
    | succ k => exact e2 k x y (by simpa using hx) (by simpa using hy)
theorem ri_eqC_at {a : Nat} {cA : ClassId} {H1 : Heap} {x y : ri_C} (h : ri_eqC x y = true) (hp : va_at D vwCl (a, ri_ce dA cA x) H1) : va_at D vwCl (a, ri_ce dA cA y) H1 := by
  unfold ri_eqC at h
  split at h
  · next c1 fs c2 gs =>
    rw [Bool.and_eq_true, decide_eq_true_eq, decide_eq_true_eq] at h
    obtain ⟨rfl, rfl⟩ := h
    exact hp
  · next t n f u k g =>
    simp only [Bool.and_eq_true, decide_eq_true_eq, List.all_eq_true, List.mem_range] at h
    obtain ⟨rfl, rfl, h⟩ := h
    have e : vp_cell cA (n, .inl f) = vp_cell cA (n, .inl g) := ri_arrV fun j hj => congrArg Value.int (h j hj)
    show H1[a]? = some (vp_cell cA (n, .inl g))
    rw [← e]
    exact hp
  · next t n f u k g =>
    simp only [Bool.and_eq_true, decide_eq_true_eq, List.all_eq_true, List.mem_range] at h
    obtain ⟨rfl, rfl, h⟩ := h
    have e : vp_cell cA (n, .inr (.inl f)) = vp_cell cA (n, .inr (.inl g)) := ri_arrV fun j hj => congrArg Value.long (h j hj)
    show H1[a]? = some (vp_cell cA (n, .inr (.inl g)))
    rw [← e]
    exact hp
  · next t n f u k g =>
    simp only [Bool.and_eq_true, decide_eq_true_eq, List.all_eq_true, List.mem_range] at h
    obtain ⟨rfl, rfl, h⟩ := h
    have e : vp_cell cA (n, .inr (.inr (.inr (.inr fun j => (f j).map dA)))) = vp_cell cA (n, .inr (.inr (.inr (.inr fun j => (g j).map dA)))) := ri_arrV (f := fun j => va_rf ((f j).map dA)) (g := fun j => va_rf ((g j).map dA)) fun j hj => congrArg (fun o => va_rf (Option.map dA o)) (h j hj)
    show H1[a]? = some (vp_cell cA (n, .inr (.inr (.inr (.inr fun j => (g j).map dA)))))
    rw [← e]
    exact hp
  · cases h
theorem ri_eqC_ty {x y : ri_C} (h : ri_eqC x y = true) {ty : FieldType} {b : vp_A} (hy : y = .inl (ty, b)) : ∃ b', x = .inl (ty, b') := by
  subst hy
  unfold ri_eqC at h
  split at h
  · next h9 => cases h9
  · next t n f u k g h8 h9 =>
    cases h9
    simp only [Bool.and_eq_true, decide_eq_true_eq] at h
    obtain ⟨rfl, -⟩ := h
    exact ⟨_, rfl⟩
  · next t n f u k g h8 h9 =>
    cases h9
    simp only [Bool.and_eq_true, decide_eq_true_eq] at h
    obtain ⟨rfl, -⟩ := h
    exact ⟨_, rfl⟩
  · next t n f u k g h8 h9 =>
    cases h9
    simp only [Bool.and_eq_true, decide_eq_true_eq] at h
    obtain ⟨rfl, -⟩ := h
    exact ⟨_, rfl⟩
  · cases h
theorem ri_eqM_at {N : ri_M} (h : ri_eqM M N = true) (hAt : ri_At X D A s nL dA dT M L H locs ls) : ri_At X D A s nL dA dT N L H locs ls := by
  obtain ⟨a1, a2, a3, a4, a5, a6, a7, a8⟩ := hAt
  obtain ⟨e1, e2⟩ := ri_eqM_get h
  have inv : ∀ (k : Nat) (y : ri_C), N[k]? = some y → ∃ x, M[k]? = some x ∧ ri_eqC x y = true := by
    intro k y hy
    have hk : k < M.length := by rw [e1]; exact (List.getElem?_eq_some_iff.mp hy).1
    exact ⟨_, List.getElem?_eq_getElem hk, e2 k _ y (List.getElem?_eq_getElem hk) hy⟩
  refine ⟨a1, fun k ty a hk => ?_, fun k q hq => ?_, ⟨fun i j y z hy hz hyz => ?_, fun k q hq => ?_⟩, a5, a6, a7, a8⟩
  · obtain ⟨x, hx, hxy⟩ := inv k _ hk
    obtain ⟨b', rfl⟩ := ri_eqC_ty hxy rfl
    exact a2 k ty b' hx
  · obtain ⟨y, hy, rfl⟩ := ri_ws_inv hq
    obtain ⟨x, hx, hxy⟩ := inv k y hy
    exact ri_eqC_at hxy (a3 k _ (ri_ws_at hx))
  · obtain ⟨y2, hy2, rfl⟩ := ri_ws_inv hy
    obtain ⟨z2, hz2, rfl⟩ := ri_ws_inv hz
    obtain ⟨x, hx, -⟩ := inv i y2 hy2
    obtain ⟨x2, hx2, -⟩ := inv j z2 hz2
    exact a4.1 i j _ _ (ri_ws_at hx) (ri_ws_at hx2) hyz
  · obtain ⟨y, hy, rfl⟩ := ri_ws_inv hq
    obtain ⟨x, hx, -⟩ := inv k y hy
    have z9 := a4.2 k _ (ri_ws_at hx)
    exact z9
theorem ri_end_law {call : ri_Ca} {j : ri_J} {r : ri_R} (hb : c.code = bs) (hck : ri_ck own nm bs pc j = true) (h : ri_step X call ri_rc (some .boolean) j pc L st M cc sc = some (.inr r)) (hr : r.1 = some (.int 1)) : decode bs pc = .ok (.ireturn, 1) ∧ st = [.int 1] := by
  have hd := ri_ck_d hck
  obtain ⟨ins, len, a, b, c0⟩ := j
  dsimp only at hd
  cases ins
  case ireturn =>
    have h2 : ri_ret (some .boolean) st M cc sc = some (.inr r) := h
    unfold ri_ret at h2
    split at h2
    · next x t ht =>
      split at h2
      · cases h2
        have hx : x = 1 := by
          have := Option.some.inj hr
          injection this
        subst hx
        exact ⟨hd, rfl⟩
      · cases h2
    · cases h2
  case lreturn =>
    have h2 : ri_lret (some .boolean) st M cc sc = some (.inr r) := h
    unfold ri_lret at h2
    split at h2
    · next h9 => cases h9
    · cases h2
  case areturn =>
    have h2 : ri_aret (some .boolean) st M cc sc = some (.inr r) := h
    unfold ri_aret at h2
    split at h2
    · next h9 => cases h9
    · next h9 => cases h9
    · cases h2
  case return_ =>
    have h2 : ri_vret (some .boolean) st M cc sc = some (.inr r) := h
    unfold ri_vret at h2
    split at h2
    · next h9 => cases h9
    · cases h2
  all_goals
    exfalso
    simp only [ri_step, ri_psh, ri_ild, ri_lld, ri_ald, ri_ist, ri_lst, ri_ast, ri_inc, ri_i2, ri_d2, ri_l2, ri_e2, ri_lsh, ri_lcm, ri_i1, ri_il, ri_li, ri_pop, ri_dup, ri_dup2, ri_dupx1, ri_jmp, ri_nul, ri_tsw, ri_lsw, ri_gf, ri_pf, ri_ial, ri_bal, ri_lal, ri_aal, ri_ias, ri_bas, ri_las, ri_aas, ri_aln, ri_nwa, ri_nwq, ri_nwo, ri_cls, ri_clv, ri_cin, ri_oin, ri_mm, ri_ma, ri_acp, ri_ret, ri_lret, ri_aret, ri_vret, ri_ic, ri_iz] at h
    (repeat' split at h) <;> cases h
end RI
theorem ri_pre_k : (match ri_go none (ri_c 19) ri_law (some .boolean) 10 0 [some (.ref 0), none, none, none] [] [] 0 0 with
  | some (pc, L, st, M, c, s) => decide (pc = 18) && (decide (L = [some (.ref 0), some (.ref 1), some (.ref 153), some (.int 0)]) && (decide (st = []) && (ri_eqM M ri_M3 && (Nat.ble c 1000 && Nat.ble s 20000))))
  | none => false) = true := by decide +kernel
