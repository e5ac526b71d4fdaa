/-! Runs that know the texts: a place in a frame from which the machine ends so. -/
noncomputable abbrev hM : Type := ri_X × (Nat → Option ri_J) × Option FieldType × String × String × ByteArray × Nat
noncomputable abbrev hM.X (μ : hM) : ri_X := μ.1
noncomputable abbrev hM.cd (μ : hM) : Nat → Option ri_J := μ.2.1
noncomputable abbrev hM.rt (μ : hM) : Option FieldType := μ.2.2.1
noncomputable abbrev hM.own (μ : hM) : String := μ.2.2.2.1
noncomputable abbrev hM.nm (μ : hM) : String := μ.2.2.2.2.1
noncomputable abbrev hM.bs (μ : hM) : ByteArray := μ.2.2.2.2.2.1
noncomputable abbrev hM.nL (μ : hM) : Nat := μ.2.2.2.2.2.2
/-- a method's frame -/
noncomputable abbrev hm (a : Nat) : hM := (none, ri_tc a, ri_rt a, (ri_y a).cls, (ri_y a).name, ri_b a, ri_ml a)
/-- the tables are sound -/
noncomputable def hTb : Prop := ri_Tab ∧ ∀ a pc j, ri_tc a pc = some j → ri_ck (ri_y a).cls (ri_y a).name (ri_b a) pc j = true
noncomputable def hRun (d : Nat) (μ : hM) (pc : Nat) (L : ri_L) (st : List Value) (M : ri_M) (r : Option Value × ri_M) : Prop :=
  hTb → (∀ pc j, μ.cd pc = some j → ri_ck μ.own μ.nm μ.bs pc j = true) → ∀ (p : Program) (l : Launch) (e : Env) (R : Room) (s : State) (m : MethodId) (args : Array Value) (below : List Frame) (meth : Method) (c : Code) (H : Heap) (locs : List Loc) (Q : State → Prop) (A : Nat → Prop) (D : va_G) (dA : Nat → Nat) (dT : Nat → ClassId) (cc sc : Nat) (ls : Array Slot),
    ri_Fx p s m args meth c μ.bs μ.nL μ.own μ.nm A → rs_S A s s.heap dA → rs_T dA s → (d + 2 ≤ R.frames ∧ 400 * (d + 2) ≤ R.locals) → (cc ≤ R.cells ∧ sc ≤ R.slots) →
    (∀ (pc1 : Nat) (L1 : ri_L) (st1 : List Value) (j : ri_J) (H1 : Heap) (locs1 : List Loc) (ls1 : Array Slot), μ.cd pc1 = some j → ri_step μ.X (fun _ _ _ => none) ri_rc μ.rt j pc1 L1 st1 r.2 0 0 = some (.inr (r.1, r.2, 0, 0)) → ri_At μ.X D A s μ.nL dA dT r.2 L1 H1 locs1 ls1 → W p l e R s m args below meth c H1 locs1 cc sc Q (F0 m pc1 ls1 (st1.map (ri_cv dA)))) →
    ri_At μ.X D A s μ.nL dA dT M L H locs ls → W p l e R s m args below meth c H locs cc sc Q (F0 m pc ls (st.map (ri_cv dA)))
/-- a call that knows the texts -/
noncomputable def hEv (d a : Nat) (as : List Value) (M : ri_M) (r : Option Value × ri_M) : Prop :=
  hTb → ∀ (l : Launch) (D : va_G) (dA : Nat → Nat) (dT : Nat → ClassId) (sz : Nat), Met l (ri_y a) (ri_wsy a) (ri_rm d 0 0) (rs_P D dA dT as M sz) (ri_Q D dA dT M r.1 r.2 0 sz) 0 0 (va_A (ri_ws dA dT M) sz)
section HR
variable {d : Nat} {μ : hM} {pc pc1 : Nat} {L L1 : ri_L} {st st1 : List Value} {M M1 : ri_M} {r : Option Value × ri_M}
/-- one step of the machine, with calls that are known -/
theorem hR_sd {ins : Instr} {len a b c d1 : Nat} {call : ri_Ca} (hC : ∀ l, hTb → ri_Cal l call d1) (hd : d1 ≤ d) (hc : μ.cd pc = some (ins, len, a, b, c)) (h : ri_step μ.X call ri_rc μ.rt (ins, len, a, b, c) pc L st M 0 0 = some (.inl (pc1, L1, st1, M1, 0, 0))) (g : hRun d μ pc1 L1 st1 M1 r) : hRun d μ pc L st M r := by
  intro TB hck p l e R s m args below meth c' H locs Q A D dA dT cc sc ls Fx hS hT hR hr hend hAt
  have h2 := ri_sh cc sc h
  refine ri_sound (F := d1) TB.1 Fx (hck _ _ hc) (by omega) (hC l TB) h2 hAt (fun dA1 dT1 H1 locs1 ls1 hag hAt1 => ?_) (by show cc + 0 ≤ _; exact hr.1) (by show sc + 0 ≤ _; exact hr.2)
  obtain ⟨-, -, -, -, h5⟩ := hag
  obtain ⟨rfl, rfl⟩ := h5 rfl
  exact g TB hck p l e R s m args below meth c' H1 locs1 Q A D dA1 dT1 cc sc ls1 Fx hS hT hR hr hend hAt1
theorem hR_st {ins : Instr} {len a b c : Nat} (hc : μ.cd pc = some (ins, len, a, b, c)) (h : ∀ call, ri_step μ.X call ri_rc μ.rt (ins, len, a, b, c) pc L st M 0 0 = some (.inl (pc1, L1, st1, M1, 0, 0))) (g : hRun d μ pc1 L1 st1 M1 r) : hRun d μ pc L st M r :=
  hR_sd (d1 := 0) (call := fun _ _ _ => none) (fun l _ a as M r M1 c1 s1 h => by cases h) (Nat.zero_le _) hc (h _) g
theorem hR_rs {ins : Instr} {len a b c : Nat} (hc : μ.cd pc = some (ins, len, a, b, c)) (h : ∀ call, ri_step μ.X call ri_rc μ.rt (ins, len, a, b, c) pc L st M 0 0 = some (.inr (r.1, r.2, 0, 0))) (e : r.2 = M) : hRun d μ pc L st M r := by
  intro TB hck p l e' R s m args below meth c' H locs Q A D dA dT cc sc ls Fx hS hT hR hr hend hAt
  rw [← e] at h hAt
  exact hend pc L st _ H locs ls hc (h _) hAt
theorem hR_ca {ins : Instr} {len a b c a' d1 : Nat} {as : List Value} {v : Option Value} (he : gEv d1 a' as M (v, M1, 0, 0)) (hd : d1 ≤ d) (hc : μ.cd pc = some (ins, len, a, b, c)) (h : ∀ call : ri_Ca, call a' as M = some (v, M1, 0, 0) → ri_step μ.X call ri_rc μ.rt (ins, len, a, b, c) pc L st M 0 0 = some (.inl (pc1, L1, st1, M1, 0, 0))) (g : hRun d μ pc1 L1 st1 M1 r) : hRun d μ pc L st M r := by
  obtain ⟨N, he⟩ := he
  exact hR_sd (d1 := d1) (call := ri_call ri_tc ri_ml ri_rt ri_rc N d1) (fun l TB => ri_met TB.1 TB.2 l N d1) hd hc (h _ (he N (Nat.le_refl _) d1 (Nat.le_refl _))) g
theorem hR_eqM (e : M = M1) (g : hRun d μ pc L st M1 r) : hRun d μ pc L st M r := e ▸ g
/-- a text -/
theorem hR_ldcS {i : Nat} (hi : i < 16) (ho : μ.own = RX9) (hd : decode μ.bs pc = .ok (.ldc (rs_ix.getD i 0), 2)) (g : hRun d μ (pc + 2) L (.ref (2000 + i) :: st) M r) : hRun d μ pc L st M r := by
  intro TB hck p l e R s m args below meth c' H locs Q A D dA dT cc sc ls Fx hS hT hR hr hend hAt
  obtain ⟨hx, hb, hml, hown, hts, hnm, hA⟩ := id Fx
  rw [ho] at hown
  exact va_ldcS hx hb hown (hT i hi) hd (g TB hck p l e R s m args below meth c' H locs Q A D dA dT cc sc ls Fx hS hT hR hr hend hAt)
/-- its length -/
theorem hR_slen {i : Nat} {rr : List Value} (hi : i < 16) (ho : μ.own = RX8) (hdp : 1 ≤ d) (hd : decode μ.bs pc = .ok (.invokevirtual 27, 3)) (hcat : Nat.ble (ri_cat rr) 8 = true) (g : hRun d μ (pc + 3) L (.int (Int32.ofNat (rs_L.getD i 0)) :: rr) M r) : hRun d μ pc L (.ref (2000 + i) :: rr) M r := by
  intro TB hck p l e R s m args below meth c' H locs Q A D dA dT cc sc ls Fx hS hT hR hr hend hAt
  obtain ⟨X, cd, rt, own, nm, bs, nL⟩ := μ
  dsimp only [hM.own, hM.bs, hM.X, hM.nL, hM.nm] at ho hd Fx hAt ⊢
  subst ho
  exact rs_callV (F := 1) (as := []) (k := 2000 + i) (rr := rr) TB.1 Fx hS hT rs_Y_length rs_w_l_length rs_w_i_length rs_w_s_length rfl hd (by omega) (fun sz => rj_length TB.1 l hi) (vk_recv (i := i) hS.1 hi hAt.2.2.2.2.1) (Nat.le_of_ble_eq_true hcat) hr hAt (fun H1 locs1 ls1 hAt1 => g TB hck p l e R s m args below meth c' H1 locs1 Q A D dA dT cc sc ls1 Fx hS hT hR hr hend hAt1)
/-- its char -/
theorem hR_schr {i : Nat} {k : Int32} {rr : List Value} (hi : i < 16) (h0 : ¬ k < 0) (h1 : k < Int32.ofNat (rs_L.getD i 0)) (hin : vp_in k (rs_L.getD i 0)) (ho : μ.own = RX8) (hdp : 3 ≤ d) (hd : decode μ.bs pc = .ok (.invokevirtual 33, 3)) (hcat : Nat.ble (ri_cat rr) 8 = true) (g : hRun d μ (pc + 3) L (.int (rs_ch i k) :: rr) M r) : hRun d μ pc L (.int k :: .ref (2000 + i) :: rr) M r := by
  intro TB hck p l e R s m args below meth c' H locs Q A D dA dT cc sc ls Fx hS hT hR hr hend hAt
  obtain ⟨X, cd, rt, own, nm, bs, nL⟩ := μ
  dsimp only [hM.own, hM.bs, hM.X, hM.nL, hM.nm] at ho hd Fx hAt ⊢
  subst ho
  exact rs_callV (F := 3) (as := [.int k]) (k := 2000 + i) (rr := rr) TB.1 Fx hS hT rs_Y_charAt rs_w_l_charAt rs_w_i_charAt rs_w_s_charAt rfl hd (by omega) (fun sz => rj_charAt TB.1 l hi h0 h1 hin) (vk_recv (i := i) hS.1 hi hAt.2.2.2.2.1) (Nat.le_of_ble_eq_true hcat) hr hAt (fun H1 locs1 ls1 hAt1 => g TB hck p l e R s m args below meth c' H1 locs1 Q A D dA dT cc sc ls1 Fx hS hT hR hr hend hAt1)
/-- a method's contract -/
theorem hEv_of {a : Nat} {as : List Value} (ha : a < ri_n) (he : ri_ent as (ri_ml a) = some L) (hlen : r.2.length = M.length) (h : hRun d (hm a) 0 L [] M r) : hEv (d + 1) a as M r := by
  intro TB l D dA dT sz
  obtain ⟨k1, k2, k3, k4⟩ := ri_mk_ok (TB.1.1 a ha)
  refine Met.ofW (cc := ri_b a) (maxL := ri_ml a) (ret := ri_rt a) k1 rfl ?_
  intro p e s m args below meth c s₁ B hml hv
  obtain ⟨⟨rfl, hsz, hP, hK, hTt, hD0, hW0⟩, hS, hT⟩ := hv
  have hts0 := atoms_spec (ws := ri_wsy a) B.pre
  have hts : ∀ w ∈ ri_tb, w.before ((as.map (ri_cv dA)).toArray) s = true := ri_every (fun w hw => hts0 w (List.mem_cons_of_mem _ hw)) hW0
  have hown : s.vm.findClass (ri_y a).cls = some m.cls := findClass_of_methodNamed B.named
  have hnm : meth.name = (ri_y a).name := (name_of_methodNamed B.named B.method).1
  have hlocks := B.notSynchronized
  subst hsz
  have hD := hD0.self (sz := s.heap.size)
  have hA : ∀ q : Nat, s.heap.size ≤ q → va_A (ri_ws dA dT M) s.heap.size q := fun q h => Or.inr h
  obtain ⟨hl1, hl2⟩ := ri_ent_ok he dA
  rw [lg_entry_eq]
  exact h TB (TB.2 a) p l e (ri_rm (d + 1) 0 0) s m _ below meth c s.heap [] (MQ below (ri_Q D dA dT M r.1 r.2 0 s.heap.size) _ s 0 0 (va_A (ri_ws dA dT M) s.heap.size)) (va_A (ri_ws dA dT M) s.heap.size) D dA dT 0 0 _ ⟨B.exec, B.bytes, hml, hown, hts, hnm, hA⟩ hS hT ⟨Nat.le_refl _, Nat.le_refl _⟩ ⟨Nat.le_refl _, Nat.le_refl _⟩
    (fun pc1 L1 st1 j H1 locs1 ls1 hj hs hAt => ri_end (dA := dA) B.exec B.bytes B.returns hlocks (TB.2 a pc1 j hj) hs (fun t ht hW => by
      obtain ⟨a1, a2, a3, a4, a5, a6, a7, a8⟩ := hAt
      exact ⟨dA, dT, ri_Ag.len ri_Ag.rf hlen, rfl, by rw [ht]; exact a3, fun k ty x h => ⟨arrOfT_moved hW.alike (a2 k ty x h).1, va_RA.moved hW.alike (a2 k ty x h).2⟩, a4, a5.F ht⟩) hAt.2.2.2.2.1.2.2)
    ⟨hK, hTt, hP, hD, va_S.rf, hl1, hl2, trivial⟩
end HR
