/-! Texts: String.length and charAt of the sixteen words. -/
section RS
variable {p : Program} {l : Launch} {e : Env} {R : Room} {s : State} {m : MethodId} {args : Array Value} {below : List Frame} {meth : Method} {c : Code} {H : Heap} {locs : List Loc} {Q : State → Prop} {bs : ByteArray} {nL : Nat} {own nm : String} {A : Nat → Prop} {D : va_G} {X : ri_X} {dA : Nat → Nat} {dT : Nat → ClassId} {pc : Nat} {L : ri_L} {st : List Value} {M : ri_M} {cc sc : Nat} {ls : Array Slot} {fr : ri_F}
noncomputable abbrev rs_L : List Nat := [5, 4, 4, 3, 2, 2, 3, 3, 5, 4, 5, 2, 2, 5, 6, 3]
noncomputable abbrev rs_B : List (List Int32) := [[104, 111, 117, 114, 115], [104, 111, 117, 114], [114, 111, 97, 100], [109, 97, 110], [105, 102], [111, 114], [97, 110, 100], [110, 111, 116], [97, 115, 107, 101, 100], [115, 101, 101, 110], [97, 112, 97, 114, 116], [100, 120], [100, 121], [121, 101, 97, 114, 115], [100, 121, 101, 97, 114, 115], [107, 105, 110]]
noncomputable def rs_ix : List Nat := [69, 75, 77, 79, 81, 83, 85, 87, 92, 94, 96, 98, 100, 102, 104, 106]
noncomputable def rs_tx : List String := ["hours", "hour", "road", "man", "if", "or", "and", "not", "asked", "seen", "apart", "dx", "dy", "years", "dyears", "kin"]
noncomputable def rs_S (A : Nat → Prop) (U : State) (H : Heap) (dA : Nat → Nat) : Prop :=
  vk_S 16 rs_L rs_B (fun i => dA (2000 + i)) (fun i => dA (2100 + i)) A U H ∧ va_Z RJ0 "COMPACT_STRINGS" "Z" (.int 1) A U H ∧ (va_Z RJ3 "SIOOBE_FORMATTER" "Ljava/util/function/BiFunction;" .null A U H ∨ va_Z RJ3 "SIOOBE_FORMATTER" "Ljava/util/function/BiFunction;" (.ref (dA 2200)) A U H)
noncomputable def rs_T (dA : Nat → Nat) (U : State) : Prop := ∀ i : Nat, i < 16 → vk_R RX9 (rs_ix.getD i 0) (rs_tx.getD i "") (dA (2000 + i)) U
theorem rs_S.go {U : State} {H1 : Heap} {B : Nat → Prop} (h : rs_S A s H dA) (hvm : s.vm.Alike U.vm) (hq : ∀ a : Nat, a < H.size → ¬ A a → H1[a]? = H[a]?) (hAB : ∀ q, B q → A q) : rs_S B U H1 dA :=
  ⟨((h.1.moved hvm).kept hq).narrow hAB, ((h.2.1.moved hvm).kept hq).narrow hAB, h.2.2.imp (fun q => ((q.moved hvm).kept hq).narrow hAB) (fun q => ((q.moved hvm).kept hq).narrow hAB)⟩
theorem rs_T.warm {U : State} (h : rs_T dA s) (hW : s.WarmedH U.vm) : rs_T dA U := fun i hi => (h i hi).warm hW
/-- a call's start, the texts known -/
noncomputable def rs_P (D : va_G) (dA : Nat → Nat) (dT : Nat → ClassId) (as : List Value) (M : ri_M) (sz : Nat) (v : Array Value) (U : State) : Prop := ri_P D dA dT as M sz v U ∧ rs_S (va_A (ri_ws dA dT M) sz) U U.heap dA ∧ rs_T dA U
theorem rs_blind {as : List Value} {sz : Nat} : FrameBlind (rs_P D dA dT as M sz) := fun a U g mk q => ⟨ri_blind a U g mk q.1, rs_S.go (U := U.calling g mk a) q.2.1 (Vm.Alike.refl U.vm : U.vm.Alike (U.calling g mk a).vm) (fun _ _ _ => rfl) (fun _ h => h), fun i hi => vk_R.same (u := U) (U := U.calling g mk a) rfl (q.2.2 i hi)⟩
theorem rs_A (hAt : ri_At X D A s nL dA dT M L H locs ls) (hA : ∀ q, s.heap.size ≤ q → A q) : ∀ q, va_A (ri_ws dA dT M) H.size q → A q := fun q h => by
  rcases h with ⟨k, y, h⟩ | h
  · exact hAt.2.2.2.1.2 k _ h
  · exact hA q (Nat.le_trans hAt.2.2.2.2.1.1 h)
theorem rs_pre (hts : ∀ w ∈ ri_tb, w.before args s = true) (hA : ∀ q, s.heap.size ≤ q → A q) (hAt : ri_At X D A s nL dA dT M L H locs ls) (hS : rs_S A s s.heap dA) (hT : rs_T dA s) {as : List Value} {vs : Array Value} (hv : vs = (as.map (ri_cv dA)).toArray) : ∀ U : State, U.heap = H → s.WarmedH U.vm → rs_P D dA dT as M H.size vs U := by
  intro U hU hW
  refine ⟨ri_pre hts hAt hv U hU hW, hS.go hW.alike (fun a h1 h2 => ?_) (rs_A hAt hA), hT.warm hW⟩
  rw [hU]
  exact hAt.2.2.2.2.1.2.1 a h1 h2
/-- a contract out of a walk -/
theorem rs_ofW {y : MethodName} {b : ByteArray} {ml F sz : Nat} {rt : Option FieldType} {as : List Value} {r : Option Value} (hL : ri_ent as ml = some L) (hpl : plainName y.cls = true)
    (body : ∀ (p : Program) (e : Env) (s : State) (m : MethodId) (args : Array Value) (below : List Frame) (meth : Method) (c : Code) (A : Nat → Prop) (ls : Array Slot), ri_Fx p s m args meth c b ml y.cls y.name A → rs_S A s s.heap dA → rs_T dA s → A = va_A (ri_ws dA dT M) s.heap.size → ri_At none D A s ml dA dT M L s.heap [] ls → meth.sig.returnType = rt → meth.locks = false → W p l e (ri_rm F 0 0) s m args below meth c s.heap [] 0 0 (MQ below (ri_Q D dA dT M r M 0 s.heap.size) args s 0 0 A) (F0 m 0 ls [])) :
    Met l y (.code y b ml rt :: ri_ac) (ri_rm F 0 0) (rs_P D dA dT as M sz) (ri_Q D dA dT M r M 0 sz) 0 0 (va_A (ri_ws dA dT M) sz) := by
  refine Met.ofW (cc := b) (maxL := ml) (ret := rt) hpl rfl ?_
  intro p e s m args below meth c s₁ B hml hv
  obtain ⟨⟨rfl, hsz, hP, hK, hTt, hD0, hW0⟩, hS, hT⟩ := hv
  have hts0 := atoms_spec (ws := (.code y b ml rt :: ri_ac)) B.pre
  have hts : ∀ w ∈ ri_tb, w.before ((as.map (ri_cv dA)).toArray) s = true := ri_every (fun w hw => hts0 w (List.mem_cons_of_mem _ hw)) hW0
  have hown : s.vm.findClass y.cls = some m.cls := findClass_of_methodNamed B.named
  have hnm : meth.name = y.name := (name_of_methodNamed B.named B.method).1
  have hlocks := B.notSynchronized
  subst hsz
  have hD := hD0.self (sz := s.heap.size)
  have hA : ∀ q : Nat, s.heap.size ≤ q → va_A (ri_ws dA dT M) s.heap.size q := fun q h => Or.inr h
  obtain ⟨hl1, hl2⟩ := ri_ent_ok hL dA
  rw [lg_entry_eq]
  exact body p e s m _ below meth c _ _ ⟨B.exec, B.bytes, hml, hown, hts, hnm, hA⟩ hS hT rfl ⟨hK, hTt, hP, hD, va_S.rf, hl1, hl2, trivial⟩ B.returns hlocks
/-- its end -/
theorem rs_q {r : Option Value} (hAe : A = va_A (ri_ws dA dT M) s.heap.size) (hAt : ri_At X D A s nL dA dT M L H locs ls) : ∀ t : State, t.heap = H → s.WarmedH t.vm → ri_Q D dA dT M r M 0 s.heap.size args s (.returned (r.map (ri_cv dA))) t := by
  intro t ht hW
  obtain ⟨a1, a2, a3, a4, a5, a6, a7, a8⟩ := hAt
  subst hAe
  exact ⟨dA, dT, ri_Ag.rf, rfl, by rw [ht]; exact a3, fun k ty x h => ⟨arrOfT_moved hW.alike (a2 k ty x h).1, va_RA.moved hW.alike (a2 k ty x h).2⟩, a4, a5.F ht⟩
/-- what every call needs -/
noncomputable def rs_Y (y : MethodName) (b : ByteArray) (ml : Nat) (rt : Option FieldType) (n : Nat) : Prop := Cond.code y b ml rt ∈ ri_tb ∧ Cond.initialized y.cls ∈ ri_tb ∧ (y.cls ≠ "java/lang/invoke/MethodHandle" ∧ y.cls ≠ "java/lang/invoke/VarHandle" ∧ (parseMethodDescriptor y.desc).map (fun d => d.parameters.length) = some n) ∧ ml ≤ 381
theorem rs_good {y : MethodName} {b : ByteArray} {ml : Nat} {rt : Option FieldType} (TB : ri_Tab) (hh : Cond.code y b ml rt ∈ ri_tb) : GoodIn ri_tb (.code y b ml rt :: ri_ac) := by
  intro w hw
  rcases List.mem_cons.mp hw with rfl | hw
  · exact ⟨hh, Or.inl rfl⟩
  · refine ⟨ri_hac TB w hw, ?_⟩
    simp only [ri_ac, List.mem_cons, List.not_mem_nil, or_false] at hw
    rcases hw with rfl | rfl | rfl | rfl <;> exact Or.inr ⟨_, rfl⟩
set_option maxRecDepth 100000 in
theorem rs_roomy {ml F : Nat} (hm : ml ≤ 381) (hR : F + 2 ≤ R.frames ∧ 400 * (F + 2) ≤ R.locals) : (ri_rm F 0 0).frames + 1 ≤ R.frames ∧ 8 + (ml + 11) + (ri_rm F 0 0).locals ≤ R.locals := by
  show F + 1 + 1 ≤ R.frames ∧ 8 + (ml + 11) + 400 * (F + 1) ≤ R.locals
  omega
theorem rs_go {r : Option Value} {rr : List Value} (hS : rs_S A s s.heap dA) (K : ∀ (H1 : Heap) (locs1 : List Loc) (ls1 : Array Slot), ri_At X D A s nL dA dT M L H1 locs1 ls1 → W p l e R s m args below meth c H1 locs1 cc sc Q (F0 m (pc + 3) ls1 ((r.toList ++ rr).map (ri_cv dA)))) : ri_Go p l e R s m args below meth c Q X D A nL dA dT M.length cc (pc + 3, L, r.toList ++ rr, M, cc + 0, sc + 0) := by
  intro dA1 dT1 H1 locs1 ls1 hag hAt
  obtain ⟨-, -, -, -, h5⟩ := hag
  obtain ⟨rfl, rfl⟩ := h5 rfl
  exact K H1 locs1 ls1 hAt
theorem rs_callV {y : MethodName} {b : ByteArray} {ml F i n k : Nat} {rt : Option FieldType} {as rr : List Value} {r : Option Value} (TB : ri_Tab) (Fx : ri_Fx p s m args meth c bs nL own nm A) (hS : rs_S A s s.heap dA) (hT : rs_T dA s) (hy : rs_Y y b ml rt n) (w3 : Cond.methodLink own i y ∈ ri_tb) (w4 : Cond.instanceMethod y ∈ ri_tb) (w5 : Cond.selects y.cls y y ∈ ri_tb) (hn : as.length = n) (hd : decode bs pc = .ok (.invokevirtual i, 3)) (hR : F + 2 ≤ R.frames ∧ 400 * (F + 2) ≤ R.locals)
    (hM : ∀ sz, Met l y (.code y b ml rt :: ri_ac) (ri_rm F 0 0) (rs_P D dA dT (.ref k :: as) M sz) (ri_Q D dA dT M r M 0 sz) 0 0 (va_A (ri_ws dA dT M) sz)) (hrecv : ∃ cell : Cell, H[dA k]? = some cell ∧ cell.vm.isStatics = false ∧ s.vm.findClass y.cls = some cell.cls) (hcat : ri_cat rr ≤ 8) (hr : cc ≤ R.cells ∧ sc ≤ R.slots) (hAt : ri_At X D A s nL dA dT M L H locs ls) (K : ∀ (H1 : Heap) (locs1 : List Loc) (ls1 : Array Slot), ri_At X D A s nL dA dT M L H1 locs1 ls1 → W p l e R s m args below meth c H1 locs1 cc sc Q (F0 m (pc + 3) ls1 ((r.toList ++ rr).map (ri_cv dA)))) : W p l e R s m args below meth c H locs cc sc Q (F0 m pc ls ((as.reverse ++ .ref k :: rr).map (ri_cv dA))) := by
  obtain ⟨hx, hb, hml, hown, hts, hnm, hA⟩ := Fx
  obtain ⟨k2, k3, hnd, k4⟩ := hy
  have hpre : PreV s H y.cls (dA k) (rs_P D dA dT (.ref k :: as) M H.size) (as.map (ri_cv dA)) := ⟨rs_blind, hrecv, rs_pre hts hA hAt hS hT rfl⟩
  have hstk : (as.reverse ++ .ref k :: rr).map (ri_cv dA) = (as.map (ri_cv dA)).reverse ++ .ref (dA k) :: rr.map (ri_cv dA) := by
    rw [List.map_append, List.map_reverse]
    rfl
  have hcat2 : 2 * (F0 m pc ls ((as.reverse ++ .ref k :: rr).map (ri_cv dA))).monitorRoom + ((rr.map (ri_cv dA)).map fun v => v.category).sum ≤ 8 := lv_room (by have := hcat; rw [← ri_cat_map (dA := dA)] at this; exact this)
  exact ri_called (va_runV ⟨hx, hb, hml, hown, hts⟩ (hM H.size) ⟨callB_of n hts (rs_good TB k2) rfl rfl rfl (hts _ k3) (hts _ w3) hnd (rs_roomy k4 hR), hts _ w4, hts _ w5⟩ hpre rfl (by rw [List.length_map]; exact hn) hAt.2.2.2.2.2.2.1.1 hstk hcat2 hd hr) hAt hA (Or.inl rfl) rfl (rs_go hS K)
theorem rs_callS {y : MethodName} {b : ByteArray} {ml F i n : Nat} {rt : Option FieldType} {as rr : List Value} {r : Option Value} (TB : ri_Tab) (Fx : ri_Fx p s m args meth c bs nL own nm A) (hS : rs_S A s s.heap dA) (hT : rs_T dA s) (hy : rs_Y y b ml rt n) (w3 : Cond.methodLink own i y ∈ ri_tb) (w4 : Cond.static y ∈ ri_tb) (hn : as.length = n) (hd : decode bs pc = .ok (.invokestatic i, 3)) (hR : F + 2 ≤ R.frames ∧ 400 * (F + 2) ≤ R.locals)
    (hM : ∀ sz, Met l y (.code y b ml rt :: ri_ac) (ri_rm F 0 0) (rs_P D dA dT as M sz) (ri_Q D dA dT M r M 0 sz) 0 0 (va_A (ri_ws dA dT M) sz)) (hcat : ri_cat rr ≤ 8) (hr : cc ≤ R.cells ∧ sc ≤ R.slots) (hAt : ri_At X D A s nL dA dT M L H locs ls) (K : ∀ (H1 : Heap) (locs1 : List Loc) (ls1 : Array Slot), ri_At X D A s nL dA dT M L H1 locs1 ls1 → W p l e R s m args below meth c H1 locs1 cc sc Q (F0 m (pc + 3) ls1 ((r.toList ++ rr).map (ri_cv dA)))) : W p l e R s m args below meth c H locs cc sc Q (F0 m pc ls ((as.reverse ++ rr).map (ri_cv dA))) := by
  obtain ⟨hx, hb, hml, hown, hts, hnm, hA⟩ := Fx
  obtain ⟨k2, k3, hnd, k4⟩ := hy
  have hpre : PreS s H (rs_P D dA dT as M H.size) (as.map (ri_cv dA)) := ⟨rs_blind, rs_pre hts hA hAt hS hT rfl⟩
  have hstk : (as.reverse ++ rr).map (ri_cv dA) = (as.map (ri_cv dA)).reverse ++ rr.map (ri_cv dA) := by
    rw [List.map_append, List.map_reverse]
  have hcat2 : 2 * (F0 m pc ls ((as.reverse ++ rr).map (ri_cv dA))).monitorRoom + ((rr.map (ri_cv dA)).map fun v => v.category).sum ≤ 8 := lv_room (by have := hcat; rw [← ri_cat_map (dA := dA)] at this; exact this)
  exact ri_called (va_runS ⟨hx, hb, hml, hown, hts⟩ (hM H.size) ⟨callB_of n hts (rs_good TB k2) rfl rfl rfl (hts _ k3) (hts _ w3) hnd (rs_roomy k4 hR), hts _ w4⟩ hpre rfl (by rw [List.length_map]; exact hn) hAt.2.2.2.2.2.2.1.1 hstk hcat2 hd hr) hAt hA (Or.inl rfl) rfl (rs_go hS K)
end RS
