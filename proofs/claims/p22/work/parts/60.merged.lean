section
/-! Texts: String.length and charAt of the sixteen words. -/
section RS
variable {p : Program} {l : Launch} {e : Env} {R : Room} {s : State} {m : MethodId} {args : Array Value} {below : List Frame} {meth : Method} {c : Code} {H : Heap} {locs : List Loc} {Q : State → Prop} {bs : ByteArray} {nL : Nat} {own nm : String} {A : Nat → Prop} {D : va_G} {X : ri_X} {dA : Nat → Nat} {dT : Nat → ClassId} {pc : Nat} {L : ri_L} {st : List Value} {M : ri_M} {cc sc : Nat} {ls : Array Slot} {fr : ri_F}
noncomputable abbrev rs_L : List Nat := [5, 4, 4, 3, 2, 2, 3, 3, 5, 4, 5, 2, 2, 5, 6, 3]
noncomputable abbrev rs_B : List (List Int32) := [[104, 111, 117, 114, 115], [104, 111, 117, 114], [114, 111, 97, 100], [109, 97, 110], [105, 102], [111, 114], [97, 110, 100], [110, 111, 116], [97, 115, 107, 101, 100], [115, 101, 101, 110], [97, 112, 97, 114, 116], [100, 120], [100, 121], [121, 101, 97, 114, 115], [100, 121, 101, 97, 114, 115], [107, 105, 110]]
noncomputable def rs_ix : List Nat := [69, 75, 77, 79, 81, 83, 85, 87, 92, 94, 96, 98, 100, 102, 104, 106]
noncomputable def rs_tx : List String := ["hours", "hour", "road", "man", "if", "or", "and", "not", "asked", "seen", "apart", "dx", "dy", "years", "dyears", "kin"]
noncomputable def rs_S (A : Nat → Prop) (U : State) (H : Heap) (dA : Nat → Nat) : Prop :=
  vk_S 16 rs_L rs_B (fun i => dA (2000 + i)) (fun i => dA (2100 + i)) A U H ∧ va_Z RJ0 "COMPACT_STRINGS" "Z" (.int 1) A U H ∧ (va_Z RJ3 "SIOOBE_FORMATTER" "Ljava/util/function/BiFunction;" .null A U H ∨ va_Z RJ3 "SIOOBE_FORMATTER" "Ljava/util/function/BiFunction;" (.ref (dA 2200)) A U H)
noncomputable def rs_T (dA : Nat → Nat) (U : State) : Prop := ∀ i : Nat, i < 16 → vk_R RX9 (rs_ix.getD i 0) (rs_tx.getD i "") (dA (2000 + i)) U
theorem rs_S.go {U : State} {H1 : Heap} {B : Nat → Prop} (h : rs_S A s H dA) (hvm : s.vm.Alike U.vm) (hq : ∀ a : Nat, a < H.size → ¬ A a → H1[a]? = H[a]?) (hAB : ∀ q, B q → A q) : rs_S B U H1 dA :=
  ⟨((h.1.moved hvm).kept hq).narrow hAB, ((h.2.1.moved hvm).kept hq).narrow hAB, h.2.2.imp (fun q => ((q.moved hvm).kept hq).narrow hAB) (fun q => ((q.moved hvm).kept hq).narrow hAB)⟩
theorem rs_T.warm {U : State} (h : rs_T dA s) (hW : s.WarmedH U.vm) : rs_T dA U := fun i hi => (h i hi).warm hW
/-- a call's start, the texts known -/
noncomputable def rs_P (D : va_G) (dA : Nat → Nat) (dT : Nat → ClassId) (as : List Value) (M : ri_M) (sz : Nat) (v : Array Value) (U : State) : Prop := ri_P D dA dT as M sz v U ∧ rs_S (va_A (ri_ws dA dT M) sz) U U.heap dA ∧ rs_T dA U
theorem rs_blind {as : List Value} {sz : Nat} : FrameBlind (rs_P D dA dT as M sz) := fun a U g mk q => ⟨ri_blind a U g mk q.1, rs_S.go (U := U.calling g mk a) q.2.1 (Vm.Alike.refl U.vm : U.vm.Alike (U.calling g mk a).vm) (fun _ _ _ => rfl) (fun _ h => h), fun i hi => vk_R.same (u := U) (U := U.calling g mk a) rfl (q.2.2 i hi)⟩
theorem rs_A (hAt : ri_At X D A s nL dA dT M L H locs ls) (hA : ∀ q, s.heap.size ≤ q → A q) : ∀ q, va_A (ri_ws dA dT M) H.size q → A q := fun q h => by
  rcases h with ⟨k, y, h⟩ | h
  · exact hAt.2.2.2.1.2 k _ h
  · exact hA q (Nat.le_trans hAt.2.2.2.2.1.1 h)
theorem rs_pre (hts : ∀ w ∈ ri_tb, w.before args s = true) (hA : ∀ q, s.heap.size ≤ q → A q) (hAt : ri_At X D A s nL dA dT M L H locs ls) (hS : rs_S A s s.heap dA) (hT : rs_T dA s) {as : List Value} {vs : Array Value} (hv : vs = (as.map (ri_cv dA)).toArray) : ∀ U : State, U.heap = H → s.WarmedH U.vm → rs_P D dA dT as M H.size vs U := by
  intro U hU hW
  refine ⟨ri_pre hts hAt hv U hU hW, hS.go hW.alike (fun a h1 h2 => ?_) (rs_A hAt hA), hT.warm hW⟩
  rw [hU]
  exact hAt.2.2.2.2.1.2.1 a h1 h2
/-- a contract out of a walk -/
theorem rs_ofW {y : MethodName} {b : ByteArray} {ml F sz : Nat} {rt : Option FieldType} {as : List Value} {r : Option Value} (hL : ri_ent as ml = some L) (hpl : plainName y.cls = true)
    (body : ∀ (p : Program) (e : Env) (s : State) (m : MethodId) (args : Array Value) (below : List Frame) (meth : Method) (c : Code) (A : Nat → Prop) (ls : Array Slot), ri_Fx p s m args meth c b ml y.cls y.name A → rs_S A s s.heap dA → rs_T dA s → A = va_A (ri_ws dA dT M) s.heap.size → ri_At none D A s ml dA dT M L s.heap [] ls → meth.sig.returnType = rt → meth.locks = false → W p l e (ri_rm F 0 0) s m args below meth c s.heap [] 0 0 (MQ below (ri_Q D dA dT M r M 0 s.heap.size) args s 0 0 A) (F0 m 0 ls [])) :
    Met l y (.code y b ml rt :: ri_ac) (ri_rm F 0 0) (rs_P D dA dT as M sz) (ri_Q D dA dT M r M 0 sz) 0 0 (va_A (ri_ws dA dT M) sz) := by
  refine Met.ofW (cc := b) (maxL := ml) (ret := rt) hpl rfl ?_
  intro p e s m args below meth c s₁ B hml hv
  obtain ⟨⟨rfl, hsz, hP, hK, hTt, hD0, hW0⟩, hS, hT⟩ := hv
  have hts0 := atoms_spec (ws := (.code y b ml rt :: ri_ac)) B.pre
  have hts : ∀ w ∈ ri_tb, w.before ((as.map (ri_cv dA)).toArray) s = true := ri_every (fun w hw => hts0 w (List.mem_cons_of_mem _ hw)) hW0
  have hown : s.vm.findClass y.cls = some m.cls := findClass_of_methodNamed B.named
  have hnm : meth.name = y.name := (name_of_methodNamed B.named B.method).1
  have hlocks := B.notSynchronized
  subst hsz
  have hD := hD0.self (sz := s.heap.size)
  have hA : ∀ q : Nat, s.heap.size ≤ q → va_A (ri_ws dA dT M) s.heap.size q := fun q h => Or.inr h
  obtain ⟨hl1, hl2⟩ := ri_ent_ok hL dA
  rw [lg_entry_eq]
  exact body p e s m _ below meth c _ _ ⟨B.exec, B.bytes, hml, hown, hts, hnm, hA⟩ hS hT rfl ⟨hK, hTt, hP, hD, va_S.rf, hl1, hl2, trivial⟩ B.returns hlocks
/-- its end -/
theorem rs_q {r : Option Value} (hAe : A = va_A (ri_ws dA dT M) s.heap.size) (hAt : ri_At X D A s nL dA dT M L H locs ls) : ∀ t : State, t.heap = H → s.WarmedH t.vm → ri_Q D dA dT M r M 0 s.heap.size args s (.returned (r.map (ri_cv dA))) t := by
  intro t ht hW
  obtain ⟨a1, a2, a3, a4, a5, a6, a7, a8⟩ := hAt
  subst hAe
  exact ⟨dA, dT, ri_Ag.rf, rfl, by rw [ht]; exact a3, fun k ty x h => ⟨arrOfT_moved hW.alike (a2 k ty x h).1, va_RA.moved hW.alike (a2 k ty x h).2⟩, a4, a5.F ht⟩
/-- what every call needs -/
noncomputable def rs_Y (y : MethodName) (b : ByteArray) (ml : Nat) (rt : Option FieldType) (n : Nat) : Prop := Cond.code y b ml rt ∈ ri_tb ∧ Cond.initialized y.cls ∈ ri_tb ∧ (y.cls ≠ "java/lang/invoke/MethodHandle" ∧ y.cls ≠ "java/lang/invoke/VarHandle" ∧ (parseMethodDescriptor y.desc).map (fun d => d.parameters.length) = some n) ∧ ml ≤ 381
theorem rs_good {y : MethodName} {b : ByteArray} {ml : Nat} {rt : Option FieldType} (TB : ri_Tab) (hh : Cond.code y b ml rt ∈ ri_tb) : GoodIn ri_tb (.code y b ml rt :: ri_ac) := by
  intro w hw
  rcases List.mem_cons.mp hw with rfl | hw
  · exact ⟨hh, Or.inl rfl⟩
  · refine ⟨ri_hac TB w hw, ?_⟩
    simp only [ri_ac, List.mem_cons, List.not_mem_nil, or_false] at hw
    rcases hw with rfl | rfl | rfl | rfl <;> exact Or.inr ⟨_, rfl⟩
set_option maxRecDepth 100000 in
theorem rs_roomy {ml F : Nat} (hm : ml ≤ 381) (hR : F + 2 ≤ R.frames ∧ 400 * (F + 2) ≤ R.locals) : (ri_rm F 0 0).frames + 1 ≤ R.frames ∧ 8 + (ml + 11) + (ri_rm F 0 0).locals ≤ R.locals := by
  show F + 1 + 1 ≤ R.frames ∧ 8 + (ml + 11) + 400 * (F + 1) ≤ R.locals
  omega
theorem rs_go {r : Option Value} {rr : List Value} (hS : rs_S A s s.heap dA) (K : ∀ (H1 : Heap) (locs1 : List Loc) (ls1 : Array Slot), ri_At X D A s nL dA dT M L H1 locs1 ls1 → W p l e R s m args below meth c H1 locs1 cc sc Q (F0 m (pc + 3) ls1 ((r.toList ++ rr).map (ri_cv dA)))) : ri_Go p l e R s m args below meth c Q X D A nL dA dT M.length cc (pc + 3, L, r.toList ++ rr, M, cc + 0, sc + 0) := by
  intro dA1 dT1 H1 locs1 ls1 hag hAt
  obtain ⟨-, -, -, -, h5⟩ := hag
  obtain ⟨rfl, rfl⟩ := h5 rfl
  exact K H1 locs1 ls1 hAt
theorem rs_callV {y : MethodName} {b : ByteArray} {ml F i n k : Nat} {rt : Option FieldType} {as rr : List Value} {r : Option Value} (TB : ri_Tab) (Fx : ri_Fx p s m args meth c bs nL own nm A) (hS : rs_S A s s.heap dA) (hT : rs_T dA s) (hy : rs_Y y b ml rt n) (w3 : Cond.methodLink own i y ∈ ri_tb) (w4 : Cond.instanceMethod y ∈ ri_tb) (w5 : Cond.selects y.cls y y ∈ ri_tb) (hn : as.length = n) (hd : decode bs pc = .ok (.invokevirtual i, 3)) (hR : F + 2 ≤ R.frames ∧ 400 * (F + 2) ≤ R.locals)
    (hM : ∀ sz, Met l y (.code y b ml rt :: ri_ac) (ri_rm F 0 0) (rs_P D dA dT (.ref k :: as) M sz) (ri_Q D dA dT M r M 0 sz) 0 0 (va_A (ri_ws dA dT M) sz)) (hrecv : ∃ cell : Cell, H[dA k]? = some cell ∧ cell.vm.isStatics = false ∧ s.vm.findClass y.cls = some cell.cls) (hcat : ri_cat rr ≤ 8) (hr : cc ≤ R.cells ∧ sc ≤ R.slots) (hAt : ri_At X D A s nL dA dT M L H locs ls) (K : ∀ (H1 : Heap) (locs1 : List Loc) (ls1 : Array Slot), ri_At X D A s nL dA dT M L H1 locs1 ls1 → W p l e R s m args below meth c H1 locs1 cc sc Q (F0 m (pc + 3) ls1 ((r.toList ++ rr).map (ri_cv dA)))) : W p l e R s m args below meth c H locs cc sc Q (F0 m pc ls ((as.reverse ++ .ref k :: rr).map (ri_cv dA))) := by
  obtain ⟨hx, hb, hml, hown, hts, hnm, hA⟩ := Fx
  obtain ⟨k2, k3, hnd, k4⟩ := hy
  have hpre : PreV s H y.cls (dA k) (rs_P D dA dT (.ref k :: as) M H.size) (as.map (ri_cv dA)) := ⟨rs_blind, hrecv, rs_pre hts hA hAt hS hT rfl⟩
  have hstk : (as.reverse ++ .ref k :: rr).map (ri_cv dA) = (as.map (ri_cv dA)).reverse ++ .ref (dA k) :: rr.map (ri_cv dA) := by
    rw [List.map_append, List.map_reverse]
    rfl
  have hcat2 : 2 * (F0 m pc ls ((as.reverse ++ .ref k :: rr).map (ri_cv dA))).monitorRoom + ((rr.map (ri_cv dA)).map fun v => v.category).sum ≤ 8 := lv_room (by have := hcat; rw [← ri_cat_map (dA := dA)] at this; exact this)
  exact ri_called (va_runV ⟨hx, hb, hml, hown, hts⟩ (hM H.size) ⟨callB_of n hts (rs_good TB k2) rfl rfl rfl (hts _ k3) (hts _ w3) hnd (rs_roomy k4 hR), hts _ w4, hts _ w5⟩ hpre rfl (by rw [List.length_map]; exact hn) hAt.2.2.2.2.2.2.1.1 hstk hcat2 hd hr) hAt hA (Or.inl rfl) rfl (rs_go hS K)
theorem rs_callS {y : MethodName} {b : ByteArray} {ml F i n : Nat} {rt : Option FieldType} {as rr : List Value} {r : Option Value} (TB : ri_Tab) (Fx : ri_Fx p s m args meth c bs nL own nm A) (hS : rs_S A s s.heap dA) (hT : rs_T dA s) (hy : rs_Y y b ml rt n) (w3 : Cond.methodLink own i y ∈ ri_tb) (w4 : Cond.static y ∈ ri_tb) (hn : as.length = n) (hd : decode bs pc = .ok (.invokestatic i, 3)) (hR : F + 2 ≤ R.frames ∧ 400 * (F + 2) ≤ R.locals)
    (hM : ∀ sz, Met l y (.code y b ml rt :: ri_ac) (ri_rm F 0 0) (rs_P D dA dT as M sz) (ri_Q D dA dT M r M 0 sz) 0 0 (va_A (ri_ws dA dT M) sz)) (hcat : ri_cat rr ≤ 8) (hr : cc ≤ R.cells ∧ sc ≤ R.slots) (hAt : ri_At X D A s nL dA dT M L H locs ls) (K : ∀ (H1 : Heap) (locs1 : List Loc) (ls1 : Array Slot), ri_At X D A s nL dA dT M L H1 locs1 ls1 → W p l e R s m args below meth c H1 locs1 cc sc Q (F0 m (pc + 3) ls1 ((r.toList ++ rr).map (ri_cv dA)))) : W p l e R s m args below meth c H locs cc sc Q (F0 m pc ls ((as.reverse ++ rr).map (ri_cv dA))) := by
  obtain ⟨hx, hb, hml, hown, hts, hnm, hA⟩ := Fx
  obtain ⟨k2, k3, hnd, k4⟩ := hy
  have hpre : PreS s H (rs_P D dA dT as M H.size) (as.map (ri_cv dA)) := ⟨rs_blind, rs_pre hts hA hAt hS hT rfl⟩
  have hstk : (as.reverse ++ rr).map (ri_cv dA) = (as.map (ri_cv dA)).reverse ++ rr.map (ri_cv dA) := by
    rw [List.map_append, List.map_reverse]
  have hcat2 : 2 * (F0 m pc ls ((as.reverse ++ rr).map (ri_cv dA))).monitorRoom + ((rr.map (ri_cv dA)).map fun v => v.category).sum ≤ 8 := lv_room (by have := hcat; rw [← ri_cat_map (dA := dA)] at this; exact this)
  exact ri_called (va_runS ⟨hx, hb, hml, hown, hts⟩ (hM H.size) ⟨callB_of n hts (rs_good TB k2) rfl rfl rfl (hts _ k3) (hts _ w3) hnd (rs_roomy k4 hR), hts _ w4⟩ hpre rfl (by rw [List.length_map]; exact hn) hAt.2.2.2.2.2.2.1.1 hstk hcat2 hd hr) hAt hA (Or.inl rfl) rfl (rs_go hS K)
end RS
end
section
/-! Texts: the words that these calls stand on. -/
theorem rs_Y_coder : rs_Y yJ0_coder_7d493 cJ0_coder_7d493 1 (some .byte) 0 := ⟨(ri_w_mem (i := 546) (by decide +kernel)), (ri_w_mem (i := 176) (by decide +kernel)), by decide +kernel, by decide⟩
theorem rs_Y_length : rs_Y yJ0_length_8abf5 cJ0_length_8abf5 1 (some .int) 0 := ⟨(ri_w_mem (i := 542) (by decide +kernel)), (ri_w_mem (i := 176) (by decide +kernel)), by decide +kernel, by decide⟩
theorem rs_Y_isLatin1 : rs_Y yJ0_isLatin1_aae02 cJ0_isLatin1_aae02 1 (some .boolean) 0 := ⟨(ri_w_mem (i := 556) (by decide +kernel)), (ri_w_mem (i := 176) (by decide +kernel)), by decide +kernel, by decide⟩
theorem rs_Y_charAt : rs_Y yJ0_charAt_5068e cJ0_charAt_5068e 2 (some .char) 1 := ⟨(ri_w_mem (i := 552) (by decide +kernel)), (ri_w_mem (i := 176) (by decide +kernel)), by decide +kernel, by decide⟩
theorem rs_Y_check : rs_Y yJ0_checkIndex_df160 cJ0_checkIndex_df160 2 (none) 2 := ⟨(ri_w_mem (i := 562) (by decide +kernel)), (ri_w_mem (i := 176) (by decide +kernel)), by decide +kernel, by decide⟩
theorem rs_Y_chr1 : rs_Y yJ1_charAt_3b067 cJ1_charAt_3b067 2 (some .char) 2 := ⟨(ri_w_mem (i := 559) (by decide +kernel)), (ri_w_mem (i := 177) (by decide +kernel)), by decide +kernel, by decide⟩
theorem rs_Y_pre : rs_Y yJ3_checkIndex_8e157 cJ3_checkIndex_8e157 3 (some .int) 3 := ⟨(ri_w_mem (i := 567) (by decide +kernel)), (ri_w_mem (i := 178) (by decide +kernel)), by decide +kernel, by decide⟩
theorem rs_w_CS : Cond.fieldLink RJ0 38 RJ0 "COMPACT_STRINGS" "Z" ∈ ri_tb := ri_w_mem (i := 547) (by decide +kernel)
theorem rs_w_val : Cond.fieldLink RJ0 9 RJ0 "value" "[B" ∈ ri_tb := ri_w_mem (i := 1840) (by decide +kernel)
theorem rs_w_cod : Cond.fieldLink RJ0 15 RJ0 "coder" "B" ∈ ri_tb := ri_w_mem (i := 1841) (by decide +kernel)
theorem rs_w_FM : Cond.fieldLink RJ0 1053 RJ3 "SIOOBE_FORMATTER" "Ljava/util/function/BiFunction;" ∈ ri_tb := ri_w_mem (i := 563) (by decide +kernel)
theorem rs_w_l_coder : Cond.methodLink RJ0 335 yJ0_coder_7d493 ∈ ri_tb := ri_w_mem (i := 543) (by decide +kernel)
theorem rs_w_l_isLatin1 : Cond.methodLink RJ0 492 yJ0_isLatin1_aae02 ∈ ri_tb := ri_w_mem (i := 553) (by decide +kernel)
theorem rs_w_l_chr1 : Cond.methodLink RJ0 495 yJ1_charAt_3b067 ∈ ri_tb := ri_w_mem (i := 557) (by decide +kernel)
theorem rs_w_l_check : Cond.methodLink RJ1 9 yJ0_checkIndex_df160 ∈ ri_tb := ri_w_mem (i := 560) (by decide +kernel)
theorem rs_w_l_pre : Cond.methodLink RJ0 1059 yJ3_checkIndex_8e157 ∈ ri_tb := ri_w_mem (i := 565) (by decide +kernel)
theorem rs_w_l_length : Cond.methodLink RX8 27 yJ0_length_8abf5 ∈ ri_tb := ri_w_mem (i := 539) (by decide +kernel)
theorem rs_w_l_charAt : Cond.methodLink RX8 33 yJ0_charAt_5068e ∈ ri_tb := ri_w_mem (i := 549) (by decide +kernel)
theorem rs_w_i_coder : Cond.instanceMethod yJ0_coder_7d493 ∈ ri_tb := ri_w_mem (i := 544) (by decide +kernel)
theorem rs_w_s_coder : Cond.selects yJ0_coder_7d493.cls yJ0_coder_7d493 yJ0_coder_7d493 ∈ ri_tb := ri_w_mem (i := 545) (by decide +kernel)
theorem rs_w_i_isLatin1 : Cond.instanceMethod yJ0_isLatin1_aae02 ∈ ri_tb := ri_w_mem (i := 554) (by decide +kernel)
theorem rs_w_s_isLatin1 : Cond.selects yJ0_isLatin1_aae02.cls yJ0_isLatin1_aae02 yJ0_isLatin1_aae02 ∈ ri_tb := ri_w_mem (i := 555) (by decide +kernel)
theorem rs_w_i_length : Cond.instanceMethod yJ0_length_8abf5 ∈ ri_tb := ri_w_mem (i := 540) (by decide +kernel)
theorem rs_w_s_length : Cond.selects yJ0_length_8abf5.cls yJ0_length_8abf5 yJ0_length_8abf5 ∈ ri_tb := ri_w_mem (i := 541) (by decide +kernel)
theorem rs_w_i_charAt : Cond.instanceMethod yJ0_charAt_5068e ∈ ri_tb := ri_w_mem (i := 550) (by decide +kernel)
theorem rs_w_s_charAt : Cond.selects yJ0_charAt_5068e.cls yJ0_charAt_5068e yJ0_charAt_5068e ∈ ri_tb := ri_w_mem (i := 551) (by decide +kernel)
theorem rs_w_t_check : Cond.static yJ0_checkIndex_df160 ∈ ri_tb := ri_w_mem (i := 561) (by decide +kernel)
theorem rs_w_t_chr1 : Cond.static yJ1_charAt_3b067 ∈ ri_tb := ri_w_mem (i := 558) (by decide +kernel)
theorem rs_w_t_pre : Cond.static yJ3_checkIndex_8e157 ∈ ri_tb := ri_w_mem (i := 566) (by decide +kernel)
end
section
/-! Texts: length, charAt walked. -/
section RS
variable {p : Program} {l : Launch} {e : Env} {R : Room} {s : State} {m : MethodId} {args : Array Value} {below : List Frame} {meth : Method} {c : Code} {H : Heap} {locs : List Loc} {Q : State → Prop} {bs : ByteArray} {nL : Nat} {own nm : String} {A : Nat → Prop} {D : va_G} {X : ri_X} {dA : Nat → Nat} {dT : Nat → ClassId} {pc : Nat} {L : ri_L} {st : List Value} {M : ri_M} {cc sc : Nat} {ls : Array Slot} {fr : ri_F}
theorem rs_lat (hAt : ri_At X D A s nL dA dT M L H locs ls) {i : Nat} {v : Value} (hg : ri_get L i = some v) : ls[i]? = some (.val (ri_cv dA v)) := ri_lat hAt.2.2.2.2.2.2.1 hg
theorem rs_zret {x : Int32} {ty : FieldType} (hAe : A = va_A (ri_ws dA dT M) s.heap.size) (hAt : ri_At X D A s nL dA dT M L H locs ls) (hx : p.tables.exec = Jvm.exec) (hb : c.code = bs) (hrt : meth.sig.returnType = some ty) (hn : narrow ty (.int x) = .int x) (hd : decode bs pc = .ok (.ireturn, 1)) (hlocks : meth.locks = false) : W p l e R s m args below meth c H locs cc sc (MQ below (ri_Q D dA dT M (some (.int x)) M 0 s.heap.size) args s cc sc A) (F0 m pc ls [.int x]) :=
  W.zret hx hb hrt hn (rs_q (r := some (.int x)) hAe hAt) hAt.2.2.2.2.1.2.2 hd hlocks
theorem rj_coder (l : Launch) {i sz : Nat} (hi : i < 16) : Met l yJ0_coder_7d493 (.code yJ0_coder_7d493 cJ0_coder_7d493 1 (some .byte) :: ri_ac) (ri_rm 0 0 0) (rs_P D dA dT [.ref (2000 + i)] M sz) (ri_Q D dA dT M (some (.int 0)) M 0 sz) 0 0 (va_A (ri_ws dA dT M) sz) := by
  refine rs_ofW (L := [some (.ref (2000 + i))]) rfl (by decide +kernel) ?_
  intro p e s m args below meth c A ls Fx hS hT hAe hAt hrt hlocks
  obtain ⟨hx, hb, hml, hown, hts, hnm, hA⟩ := Fx
  refine va_gets hx hb hS.2.1 hAt.2.2.2.2.1 hown (hts _ rs_w_CS) (fun _ h => h) (show decode cJ0_coder_7d493 0 = .ok (.getstatic 38, 3) by decide +kernel) ?_
  refine lv_if_eq hx hb (tgt := 13) (show decode cJ0_coder_7d493 3 = .ok (.ifCond .eq 10, 3) by decide +kernel) rfl (fun q => absurd q (by decide)) (fun _ => ?_)
  refine lv_aload_n hx hb (show decode cJ0_coder_7d493 6 = .ok (.aload_n 0, 1) by decide +kernel) rfl (rs_lat hAt (i := 0) rfl) ?_
  refine vk_getf hx hb (hS.1.1 i hi).2.1 hAt.2.2.2.2.1 hown (hts _ rs_w_cod) (fun _ h => h) (show decode cJ0_coder_7d493 7 = .ok (.getfield 15, 3) by decide +kernel) ?_
  refine lv_goto hx hb (tgt := 14) (show decode cJ0_coder_7d493 10 = .ok (.goto 4, 3) by decide +kernel) rfl ?_
  exact rs_zret hAe hAt hx hb hrt rfl (show decode cJ0_coder_7d493 14 = .ok (.ireturn, 1) by decide +kernel) hlocks
theorem rj_isLatin1 (l : Launch) {i sz : Nat} (hi : i < 16) : Met l yJ0_isLatin1_aae02 (.code yJ0_isLatin1_aae02 cJ0_isLatin1_aae02 1 (some .boolean) :: ri_ac) (ri_rm 0 0 0) (rs_P D dA dT [.ref (2000 + i)] M sz) (ri_Q D dA dT M (some (.int 1)) M 0 sz) 0 0 (va_A (ri_ws dA dT M) sz) := by
  refine rs_ofW (L := [some (.ref (2000 + i))]) rfl (by decide +kernel) ?_
  intro p e s m args below meth c A ls Fx hS hT hAe hAt hrt hlocks
  obtain ⟨hx, hb, hml, hown, hts, hnm, hA⟩ := Fx
  refine va_gets hx hb hS.2.1 hAt.2.2.2.2.1 hown (hts _ rs_w_CS) (fun _ h => h) (show decode cJ0_isLatin1_aae02 0 = .ok (.getstatic 38, 3) by decide +kernel) ?_
  refine lv_if_eq hx hb (tgt := 17) (show decode cJ0_isLatin1_aae02 3 = .ok (.ifCond .eq 14, 3) by decide +kernel) rfl (fun q => absurd q (by decide)) (fun _ => ?_)
  refine lv_aload_n hx hb (show decode cJ0_isLatin1_aae02 6 = .ok (.aload_n 0, 1) by decide +kernel) rfl (rs_lat hAt (i := 0) rfl) ?_
  refine vk_getf hx hb (hS.1.1 i hi).2.1 hAt.2.2.2.2.1 hown (hts _ rs_w_cod) (fun _ h => h) (show decode cJ0_isLatin1_aae02 7 = .ok (.getfield 15, 3) by decide +kernel) ?_
  refine lv_if_ne hx hb (tgt := 17) (show decode cJ0_isLatin1_aae02 10 = .ok (.ifCond .ne 7, 3) by decide +kernel) rfl (fun q => absurd rfl q) (fun _ => ?_)
  refine lv_iconst hx hb (v := 1) (show decode cJ0_isLatin1_aae02 13 = .ok (.iconst 1, 1) by decide +kernel) rfl ?_
  refine lv_goto hx hb (tgt := 18) (show decode cJ0_isLatin1_aae02 14 = .ok (.goto 4, 3) by decide +kernel) rfl ?_
  exact rs_zret hAe hAt hx hb hrt rfl (show decode cJ0_isLatin1_aae02 18 = .ok (.ireturn, 1) by decide +kernel) hlocks
theorem rs_len0 : ∀ i, i < 16 → Int32.ofNat (rs_L.getD i 0) >>> ((0 : Int32) &&& 31) = Int32.ofNat (rs_L.getD i 0) := by decide +kernel
theorem rj_length (TB : ri_Tab) (l : Launch) {i sz : Nat} (hi : i < 16) : Met l yJ0_length_8abf5 (.code yJ0_length_8abf5 cJ0_length_8abf5 1 (some .int) :: ri_ac) (ri_rm 1 0 0) (rs_P D dA dT [.ref (2000 + i)] M sz) (ri_Q D dA dT M (some (.int (Int32.ofNat (rs_L.getD i 0)))) M 0 sz) 0 0 (va_A (ri_ws dA dT M) sz) := by
  refine rs_ofW (L := [some (.ref (2000 + i))]) rfl (by decide +kernel) ?_
  intro p e s m args below meth c A ls Fx hS hT hAe hAt hrt hlocks
  have Fx0 := Fx
  obtain ⟨hx, hb, hml, hown, hts, hnm, hA⟩ := Fx
  refine lv_aload_n hx hb (show decode cJ0_length_8abf5 0 = .ok (.aload_n 0, 1) by decide +kernel) rfl (rs_lat hAt (i := 0) rfl) ?_
  refine vk_getf hx hb (hS.1.1 i hi).2.2.1 hAt.2.2.2.2.1 hown (hts _ rs_w_val) (fun _ h => h) (show decode cJ0_length_8abf5 1 = .ok (.getfield 9, 3) by decide +kernel) ?_
  refine va_tlen hx hb (hS.1.1 i hi).2.2.2 hAt.2.2.2.2.1 rfl (show decode cJ0_length_8abf5 4 = .ok (.arraylength, 1) by decide +kernel) ?_
  refine lv_aload_n hx hb (show decode cJ0_length_8abf5 5 = .ok (.aload_n 0, 1) by decide +kernel) rfl (rs_lat hAt (i := 0) rfl) ?_
  refine rs_callV (F := 0) (as := []) (k := 2000 + i) (rr := [.int (Int32.ofNat (rs_L.getD i 0))]) TB Fx0 hS hT rs_Y_coder rs_w_l_coder rs_w_i_coder rs_w_s_coder rfl (show decode cJ0_length_8abf5 6 = .ok (.invokevirtual 335, 3) by decide +kernel) ⟨Nat.le_refl _, Nat.le_refl _⟩ (fun sz => rj_coder l hi) (vk_recv (i := i) hS.1 hi hAt.2.2.2.2.1) (Nat.le_of_ble_eq_true rfl) ⟨Nat.le_refl _, Nat.le_refl _⟩ hAt (fun H1 locs1 ls1 hAt1 => ?_)
  refine lv_ishr hx hb (show decode cJ0_length_8abf5 9 = .ok (.ishr, 1) by decide +kernel) ?_
  rw [rs_len0 i hi]
  exact rs_zret hAe hAt1 hx hb hrt rfl (show decode cJ0_length_8abf5 10 = .ok (.ireturn, 1) by decide +kernel) hlocks
theorem rj_pre (l : Launch) {k n : Int32} {sz : Nat} {v : Value} (hv : v = .null ∨ v = .ref 2200) (h0 : ¬ k < 0) (h1 : k < n) : Met l yJ3_checkIndex_8e157 (.code yJ3_checkIndex_8e157 cJ3_checkIndex_8e157 3 (some .int) :: ri_ac) (ri_rm 0 0 0) (rs_P D dA dT [.int k, .int n, v] M sz) (ri_Q D dA dT M (some (.int k)) M 0 sz) 0 0 (va_A (ri_ws dA dT M) sz) := by
  refine rs_ofW (L := [some (.int k), some (.int n), some v]) (by rcases hv with rfl | rfl <;> rfl) (by decide +kernel) ?_
  intro p e s m args below meth c A ls Fx hS hT hAe hAt hrt hlocks
  obtain ⟨hx, hb, hml, hown, hts, hnm, hA⟩ := Fx
  refine lv_iload_n hx hb (show decode cJ3_checkIndex_8e157 0 = .ok (.iload_n 0, 1) by decide +kernel) rfl (rs_lat hAt (i := 0) rfl) ?_
  refine lv_if_lt hx hb (tgt := 9) (show decode cJ3_checkIndex_8e157 1 = .ok (.ifCond .lt 8, 3) by decide +kernel) rfl (fun q => absurd q h0) (fun _ => ?_)
  refine lv_iload_n hx hb (show decode cJ3_checkIndex_8e157 4 = .ok (.iload_n 0, 1) by decide +kernel) rfl (rs_lat hAt (i := 0) rfl) ?_
  refine lv_iload_n hx hb (show decode cJ3_checkIndex_8e157 5 = .ok (.iload_n 1, 1) by decide +kernel) rfl (rs_lat hAt (i := 1) rfl) ?_
  refine lv_icmp_lt hx hb (tgt := 16) (show decode cJ3_checkIndex_8e157 6 = .ok (.if_icmp .lt 10, 3) by decide +kernel) rfl (fun _ => ?_) (fun q => absurd h1 q)
  refine lv_iload_n hx hb (show decode cJ3_checkIndex_8e157 16 = .ok (.iload_n 0, 1) by decide +kernel) rfl (rs_lat hAt (i := 0) rfl) ?_
  exact rs_zret hAe hAt hx hb hrt rfl (show decode cJ3_checkIndex_8e157 17 = .ok (.ireturn, 1) by decide +kernel) hlocks
theorem rj_check (TB : ri_Tab) (l : Launch) {k n : Int32} {sz : Nat} (h0 : ¬ k < 0) (h1 : k < n) : Met l yJ0_checkIndex_df160 (.code yJ0_checkIndex_df160 cJ0_checkIndex_df160 2 none :: ri_ac) (ri_rm 1 0 0) (rs_P D dA dT [.int k, .int n] M sz) (ri_Q D dA dT M none M 0 sz) 0 0 (va_A (ri_ws dA dT M) sz) := by
  refine rs_ofW (L := [some (.int k), some (.int n)]) rfl (by decide +kernel) ?_
  intro p e s m args below meth c A ls Fx hS hT hAe hAt hrt hlocks
  have Fx0 := Fx
  obtain ⟨hx, hb, hml, hown, hts, hnm, hA⟩ := Fx
  refine lv_iload_n hx hb (show decode cJ0_checkIndex_df160 0 = .ok (.iload_n 0, 1) by decide +kernel) rfl (rs_lat hAt (i := 0) rfl) ?_
  refine lv_iload_n hx hb (show decode cJ0_checkIndex_df160 1 = .ok (.iload_n 1, 1) by decide +kernel) rfl (rs_lat hAt (i := 1) rfl) ?_
  have fin : ∀ v : Value, (v = .null ∨ v = .ref 2200) → W p l e (ri_rm 1 0 0) s m args below meth c s.heap [] 0 0 (MQ below (ri_Q D dA dT M none M 0 s.heap.size) args s 0 0 A) (F0 m 5 ls (([Value.int k, Value.int n, v].reverse ++ []).map (ri_cv dA))) := by
    intro v hv
    refine rs_callS (F := 0) (r := some (.int k)) TB Fx0 hS hT rs_Y_pre rs_w_l_pre rs_w_t_pre rfl (show decode cJ0_checkIndex_df160 5 = .ok (.invokestatic 1059, 3) by decide +kernel) ⟨Nat.le_refl _, Nat.le_refl _⟩ (fun sz => rj_pre l hv h0 h1) (by decide) ⟨Nat.le_refl _, Nat.le_refl _⟩ hAt (fun H1 locs1 ls1 hAt1 => ?_)
    refine lv_pop hx hb (show decode cJ0_checkIndex_df160 8 = .ok (.pop, 1) by decide +kernel) rfl ?_
    exact W.vret hx hb hrt (rs_q (r := none) hAe hAt1) hAt1.2.2.2.2.1.2.2 (show decode cJ0_checkIndex_df160 9 = .ok (.return_, 1) by decide +kernel) hlocks
  rcases hS.2.2 with q | q
  · exact va_gets hx hb q hAt.2.2.2.2.1 hown (hts _ rs_w_FM) (fun _ h => h) (show decode cJ0_checkIndex_df160 2 = .ok (.getstatic 1053, 3) by decide +kernel) (fin .null (Or.inl rfl))
  · exact va_gets hx hb q hAt.2.2.2.2.1 hown (hts _ rs_w_FM) (fun _ h => h) (show decode cJ0_checkIndex_df160 2 = .ok (.getstatic 1053, 3) by decide +kernel) (fin (.ref 2200) (Or.inr rfl))
/-- the char at a place -/
noncomputable def rs_ch (i : Nat) (k : Int32) : Int32 := ((((rs_B.getD i []).getD k.toNatClampNeg 0) &&& 255).toUInt32 % 65536).toInt32
theorem rs_chn (x : Int32) : narrow .char (.int ((x &&& 255).toUInt32 % 65536).toInt32) = .int ((x &&& 255).toUInt32 % 65536).toInt32 := by
  show Value.int ((((x &&& 255).toUInt32 % 65536).toInt32).toUInt32 % 65536).toInt32 = _
  have e : ∀ y : UInt32, (y.toInt32).toUInt32 = y := fun y => rfl
  rw [e]
  congr 2
  apply UInt32.toNat_inj.mp
  simp only [UInt32.toNat_mod, Nat.mod_mod]
theorem rj_chr1 (TB : ri_Tab) (l : Launch) {i sz : Nat} (hi : i < 16) {k : Int32} (h0 : ¬ k < 0) (h1 : k < Int32.ofNat (rs_L.getD i 0)) (hin : vp_in k (rs_L.getD i 0)) : Met l yJ1_charAt_3b067 (.code yJ1_charAt_3b067 cJ1_charAt_3b067 2 (some .char) :: ri_ac) (ri_rm 2 0 0) (rs_P D dA dT [.ref (2100 + i), .int k] M sz) (ri_Q D dA dT M (some (.int (rs_ch i k))) M 0 sz) 0 0 (va_A (ri_ws dA dT M) sz) := by
  refine rs_ofW (L := [some (.ref (2100 + i)), some (.int k)]) rfl (by decide +kernel) ?_
  intro p e s m args below meth c A ls Fx hS hT hAe hAt hrt hlocks
  have Fx0 := Fx
  obtain ⟨hx, hb, hml, hown, hts, hnm, hA⟩ := Fx
  refine lv_iload_n hx hb (show decode cJ1_charAt_3b067 0 = .ok (.iload_n 1, 1) by decide +kernel) rfl (rs_lat hAt (i := 1) rfl) ?_
  refine lv_aload_n hx hb (show decode cJ1_charAt_3b067 1 = .ok (.aload_n 0, 1) by decide +kernel) rfl (rs_lat hAt (i := 0) rfl) ?_
  refine va_tlen hx hb (hS.1.1 i hi).2.2.2 hAt.2.2.2.2.1 rfl (show decode cJ1_charAt_3b067 2 = .ok (.arraylength, 1) by decide +kernel) ?_
  refine rs_callS (F := 1) (as := [.int k, .int (Int32.ofNat (rs_L.getD i 0))]) (rr := []) (r := none) TB Fx0 hS hT rs_Y_check rs_w_l_check rs_w_t_check rfl (show decode cJ1_charAt_3b067 3 = .ok (.invokestatic 9, 3) by decide +kernel) ⟨Nat.le_refl _, Nat.le_refl _⟩ (fun sz => rj_check TB l h0 h1) (by decide) ⟨Nat.le_refl _, Nat.le_refl _⟩ hAt (fun H1 locs1 ls1 hAt1 => ?_)
  refine lv_aload_n hx hb (show decode cJ1_charAt_3b067 6 = .ok (.aload_n 0, 1) by decide +kernel) rfl (rs_lat hAt1 (i := 0) rfl) ?_
  refine lv_iload_n hx hb (show decode cJ1_charAt_3b067 7 = .ok (.iload_n 1, 1) by decide +kernel) rfl (rs_lat hAt1 (i := 1) rfl) ?_
  refine va_tb hx hb (hS.1.1 i hi).2.2.2 hAt1.2.2.2.2.1 hin rfl (show decode cJ1_charAt_3b067 8 = .ok (.baload, 1) by decide +kernel) ?_
  refine lv_sipush hx hb (v := 255) (show decode cJ1_charAt_3b067 9 = .ok (.sipush 255, 3) by decide +kernel) (by decide) ?_
  refine lv_iand hx hb (show decode cJ1_charAt_3b067 12 = .ok (.iand, 1) by decide +kernel) ?_
  refine lv_i2c hx hb (v := rs_ch i k) (show decode cJ1_charAt_3b067 13 = .ok (.i2c, 1) by decide +kernel) rfl ?_
  exact rs_zret hAe hAt1 hx hb hrt (rs_chn _) (show decode cJ1_charAt_3b067 14 = .ok (.ireturn, 1) by decide +kernel) hlocks
theorem rj_charAt (TB : ri_Tab) (l : Launch) {i sz : Nat} (hi : i < 16) {k : Int32} (h0 : ¬ k < 0) (h1 : k < Int32.ofNat (rs_L.getD i 0)) (hin : vp_in k (rs_L.getD i 0)) : Met l yJ0_charAt_5068e (.code yJ0_charAt_5068e cJ0_charAt_5068e 2 (some .char) :: ri_ac) (ri_rm 3 0 0) (rs_P D dA dT [.ref (2000 + i), .int k] M sz) (ri_Q D dA dT M (some (.int (rs_ch i k))) M 0 sz) 0 0 (va_A (ri_ws dA dT M) sz) := by
  refine rs_ofW (L := [some (.ref (2000 + i)), some (.int k)]) rfl (by decide +kernel) ?_
  intro p e s m args below meth c A ls Fx hS hT hAe hAt hrt hlocks
  have Fx0 := Fx
  obtain ⟨hx, hb, hml, hown, hts, hnm, hA⟩ := Fx
  refine lv_aload_n hx hb (show decode cJ0_charAt_5068e 0 = .ok (.aload_n 0, 1) by decide +kernel) rfl (rs_lat hAt (i := 0) rfl) ?_
  refine rs_callV (F := 0) (as := []) (k := 2000 + i) (rr := []) (r := some (.int 1)) TB Fx0 hS hT rs_Y_isLatin1 rs_w_l_isLatin1 rs_w_i_isLatin1 rs_w_s_isLatin1 rfl (show decode cJ0_charAt_5068e 1 = .ok (.invokevirtual 492, 3) by decide +kernel) ⟨by decide, by decide⟩ (fun sz => rj_isLatin1 l hi) (vk_recv (i := i) hS.1 hi hAt.2.2.2.2.1) (by decide) ⟨Nat.le_refl _, Nat.le_refl _⟩ hAt (fun H1 locs1 ls1 hAt1 => ?_)
  refine lv_if_eq hx hb (tgt := 16) (show decode cJ0_charAt_5068e 4 = .ok (.ifCond .eq 12, 3) by decide +kernel) rfl (fun q => absurd q (by decide)) (fun _ => ?_)
  refine lv_aload_n hx hb (show decode cJ0_charAt_5068e 7 = .ok (.aload_n 0, 1) by decide +kernel) rfl (rs_lat hAt1 (i := 0) rfl) ?_
  refine vk_getf hx hb (hS.1.1 i hi).2.2.1 hAt1.2.2.2.2.1 hown (hts _ rs_w_val) (fun _ h => h) (show decode cJ0_charAt_5068e 8 = .ok (.getfield 9, 3) by decide +kernel) ?_
  refine lv_iload_n hx hb (show decode cJ0_charAt_5068e 11 = .ok (.iload_n 1, 1) by decide +kernel) rfl (rs_lat hAt1 (i := 1) rfl) ?_
  refine rs_callS (F := 2) (as := [.ref (2100 + i), .int k]) (rr := []) (r := some (.int (rs_ch i k))) TB Fx0 hS hT rs_Y_chr1 rs_w_l_chr1 rs_w_t_chr1 rfl (show decode cJ0_charAt_5068e 12 = .ok (.invokestatic 495, 3) by decide +kernel) ⟨Nat.le_refl _, Nat.le_refl _⟩ (fun sz => rj_chr1 TB l hi h0 h1 hin) (by decide) ⟨Nat.le_refl _, Nat.le_refl _⟩ hAt1 (fun H2 locs2 ls2 hAt2 => ?_)
  exact rs_zret hAe hAt2 hx hb hrt (rs_chn _) (show decode cJ0_charAt_5068e 15 = .ok (.ireturn, 1) by decide +kernel) hlocks
end RS
end
section
/-! A step, whatever was made before. -/
noncomputable def ri_shf (cc sc : Nat) : ri_F ⊕ ri_R → ri_F ⊕ ri_R
  | .inl (pc, L, st, M, c, s) => .inl (pc, L, st, M, cc + c, sc + s)
  | .inr (v, M, c, s) => .inr (v, M, cc + c, sc + s)
theorem ri_jmp_sh {off : Int} {pc : Nat} {L : ri_L} {st : List Value} {M : ri_M} (cc sc : Nat) : ri_jmp off pc L st M cc sc = (ri_jmp off pc L st M 0 0).map (ri_shf cc sc) := by
  unfold ri_jmp
  split <;> rfl
theorem ri_ic_sh {k : ClassFile.Cond} {off : Int} {pc : Nat} {L : ri_L} {st : List Value} {M : ri_M} (cc sc : Nat) : ri_ic k off pc L st M cc sc = (ri_ic k off pc L st M 0 0).map (ri_shf cc sc) := by
  unfold ri_ic
  split
  · cases k <;> dsimp only <;> split <;> first | rfl | exact ri_jmp_sh cc sc
  · rfl
theorem ri_iz_sh {k : ClassFile.Cond} {off : Int} {pc : Nat} {L : ri_L} {st : List Value} {M : ri_M} (cc sc : Nat) : ri_iz k off pc L st M cc sc = (ri_iz k off pc L st M 0 0).map (ri_shf cc sc) := by
  unfold ri_iz
  split
  · cases k <;> dsimp only <;> split <;> first | rfl | exact ri_jmp_sh cc sc
  · rfl
theorem ri_mm_sh {f : Int32 → Int32 → Int32} {pc : Nat} {L : ri_L} {st : List Value} {M : ri_M} (cc sc : Nat) : ri_mm f pc L st M cc sc = (ri_mm f pc L st M 0 0).map (ri_shf cc sc) := by
  unfold ri_mm
  split
  · split <;> rfl
  · rfl
theorem ri_ma_sh {pc : Nat} {L : ri_L} {st : List Value} {M : ri_M} (cc sc : Nat) : ri_ma pc L st M cc sc = (ri_ma pc L st M 0 0).map (ri_shf cc sc) := by
  unfold ri_ma
  split
  · split <;> rfl
  · rfl
theorem ri_acp_sh {pc : Nat} {L : ri_L} {st : List Value} {M : ri_M} (cc sc : Nat) : ri_acp pc L st M cc sc = (ri_acp pc L st M 0 0).map (ri_shf cc sc) := by
  unfold ri_acp
  split
  · split
    · split <;> rfl
    · rfl
  · rfl
theorem ri_cls_sh {call : ri_Ca} {a n : Nat} {pc : Nat} {L : ri_L} {st : List Value} {M : ri_M} (cc sc : Nat) : ri_cls call a n pc L st M cc sc = (ri_cls call a n pc L st M 0 0).map (ri_shf cc sc) := by
  unfold ri_cls
  split
  · split
    · split
      · split
        · simp [ri_shf]
        · rfl
      · rfl
    · rfl
  · rfl
theorem ri_tsw_sh {d lo hi : Int} {offs : Array Int} {pc : Nat} {L : ri_L} {st : List Value} {M : ri_M} (cc sc : Nat) : ri_tsw d lo hi offs pc L st M cc sc = (ri_tsw d lo hi offs pc L st M 0 0).map (ri_shf cc sc) := by
  unfold ri_tsw
  split
  · split
    · exact ri_jmp_sh cc sc
    · split
      · exact ri_jmp_sh cc sc
      · rfl
  · rfl
theorem ri_lsw_sh {d : Int} {ps : Array (Int × Int)} {pc : Nat} {L : ri_L} {st : List Value} {M : ri_M} (cc sc : Nat) : ri_lsw d ps pc L st M cc sc = (ri_lsw d ps pc L st M 0 0).map (ri_shf cc sc) := by
  unfold ri_lsw
  split
  · split
    · exact ri_jmp_sh cc sc
    · rfl
  · rfl
theorem ri_map_eq2 {x y : ri_O} {fr : ri_F} {cc sc : Nat} (e : x = y.map (ri_shf cc sc)) (h : y = some (.inl fr)) : x = some (ri_shf cc sc (.inl fr)) := by
  rw [e, h]
  rfl
set_option maxHeartbeats 4000000 in
theorem ri_sh {X : ri_X} {call : ri_Ca} {rc : Nat → Nat} {rt : Option FieldType} {j : ri_J} {pc : Nat} {L : ri_L} {st : List Value} {M : ri_M} {fr : ri_F} (cc sc : Nat) (h : ri_step X call rc rt j pc L st M 0 0 = some (.inl fr)) : ri_step X call rc rt j pc L st M cc sc = some (ri_shf cc sc (.inl fr)) := by
  obtain ⟨ins, len, a, b, c0⟩ := j
  cases ins
  case if_icmp k off => exact ri_map_eq2 (ri_ic_sh cc sc) h
  case tableswitch d lo hi offs => exact ri_map_eq2 (ri_tsw_sh cc sc) h
  case lookupswitch d ps => exact ri_map_eq2 (ri_lsw_sh cc sc) h
  case ifCond k off => exact ri_map_eq2 (ri_iz_sh cc sc) h
  case invokestatic i =>
    have h2 : (match c0 % 16 with
      | 0 => ri_cls call a b pc L st M 0 0
      | 1 => ri_cls call a b pc L st M 0 0
      | 7 => ri_mm (fun x y => if y < x then y else x) pc L st M 0 0
      | 8 => ri_mm (fun x y => if x < y then y else x) pc L st M 0 0
      | 9 => ri_ma pc L st M 0 0
      | 10 => ri_acp pc L st M 0 0
      | _ => none) = some (.inl fr) := h
    show (match c0 % 16 with
      | 0 => ri_cls call a b pc L st M cc sc
      | 1 => ri_cls call a b pc L st M cc sc
      | 7 => ri_mm (fun x y => if y < x then y else x) pc L st M cc sc
      | 8 => ri_mm (fun x y => if x < y then y else x) pc L st M cc sc
      | 9 => ri_ma pc L st M cc sc
      | 10 => ri_acp pc L st M cc sc
      | _ => none) = _
    split at h2
    · exact ri_map_eq2 (ri_cls_sh cc sc) h2
    · exact ri_map_eq2 (ri_cls_sh cc sc) h2
    · exact ri_map_eq2 (ri_mm_sh cc sc) h2
    · exact ri_map_eq2 (ri_mm_sh cc sc) h2
    · exact ri_map_eq2 (ri_ma_sh cc sc) h2
    · exact ri_map_eq2 (ri_acp_sh cc sc) h2
    · cases h2
  all_goals simp only [ri_step, ri_psh, ri_ild, ri_lld, ri_ald, ri_ist, ri_lst, ri_ast, ri_inc, ri_i2, ri_d2, ri_l2, ri_e2, ri_lsh, ri_lcm, ri_i1, ri_il, ri_li, ri_pop, ri_dup, ri_dup2, ri_dupx1, ri_nul, ri_tsw, ri_lsw, ri_gf, ri_pf, ri_ial, ri_bal, ri_lal, ri_aal, ri_ias, ri_bas, ri_las, ri_aas, ri_aln, ri_nwa, ri_nwq, ri_nwo, ri_cls, ri_clv, ri_cin, ri_oin, ri_mm, ri_ma, ri_acp, ri_ret, ri_lret, ri_aret, ri_vret, ri_ic, ri_iz] at h ⊢ <;> (repeat' split at h) <;> first | (cases h; done) | (cases h; simp_all [ri_shf]; done) | (rw [ri_jmp_sh]; simp_all [ri_shf]; done) | (simp_all [ri_shf, ri_jmp_sh cc sc]; done)
end
section
/-! Runs that know the texts: a place in a frame from which the machine ends so. -/
noncomputable abbrev hM : Type := ri_X × (Nat → Option ri_J) × Option FieldType × String × String × ByteArray × Nat
noncomputable abbrev hM.X (μ : hM) : ri_X := μ.1
noncomputable abbrev hM.cd (μ : hM) : Nat → Option ri_J := μ.2.1
noncomputable abbrev hM.rt (μ : hM) : Option FieldType := μ.2.2.1
noncomputable abbrev hM.own (μ : hM) : String := μ.2.2.2.1
noncomputable abbrev hM.nm (μ : hM) : String := μ.2.2.2.2.1
noncomputable abbrev hM.bs (μ : hM) : ByteArray := μ.2.2.2.2.2.1
noncomputable abbrev hM.nL (μ : hM) : Nat := μ.2.2.2.2.2.2
/-- a method's frame -/
noncomputable abbrev hm (a : Nat) : hM := (none, ri_tc a, ri_rt a, (ri_y a).cls, (ri_y a).name, ri_b a, ri_ml a)
/-- the tables are sound -/
noncomputable def hTb : Prop := ri_Tab ∧ ∀ a pc j, ri_tc a pc = some j → ri_ck (ri_y a).cls (ri_y a).name (ri_b a) pc j = true
noncomputable def hRun (d : Nat) (μ : hM) (pc : Nat) (L : ri_L) (st : List Value) (M : ri_M) (r : Option Value × ri_M) : Prop :=
  hTb → (∀ pc j, μ.cd pc = some j → ri_ck μ.own μ.nm μ.bs pc j = true) → ∀ (p : Program) (l : Launch) (e : Env) (R : Room) (s : State) (m : MethodId) (args : Array Value) (below : List Frame) (meth : Method) (c : Code) (H : Heap) (locs : List Loc) (Q : State → Prop) (A : Nat → Prop) (D : va_G) (dA : Nat → Nat) (dT : Nat → ClassId) (cc sc : Nat) (ls : Array Slot),
    ri_Fx p s m args meth c μ.bs μ.nL μ.own μ.nm A → rs_S A s s.heap dA → rs_T dA s → (d + 2 ≤ R.frames ∧ 400 * (d + 2) ≤ R.locals) → (cc ≤ R.cells ∧ sc ≤ R.slots) →
    (∀ (pc1 : Nat) (L1 : ri_L) (st1 : List Value) (j : ri_J) (H1 : Heap) (locs1 : List Loc) (ls1 : Array Slot), μ.cd pc1 = some j → ri_step μ.X (fun _ _ _ => none) ri_rc μ.rt j pc1 L1 st1 r.2 0 0 = some (.inr (r.1, r.2, 0, 0)) → ri_At μ.X D A s μ.nL dA dT r.2 L1 H1 locs1 ls1 → W p l e R s m args below meth c H1 locs1 cc sc Q (F0 m pc1 ls1 (st1.map (ri_cv dA)))) →
    ri_At μ.X D A s μ.nL dA dT M L H locs ls → W p l e R s m args below meth c H locs cc sc Q (F0 m pc ls (st.map (ri_cv dA)))
/-- a call that knows the texts -/
noncomputable def hEv (d a : Nat) (as : List Value) (M : ri_M) (r : Option Value × ri_M) : Prop :=
  hTb → ∀ (l : Launch) (D : va_G) (dA : Nat → Nat) (dT : Nat → ClassId) (sz : Nat), Met l (ri_y a) (ri_wsy a) (ri_rm d 0 0) (rs_P D dA dT as M sz) (ri_Q D dA dT M r.1 r.2 0 sz) 0 0 (va_A (ri_ws dA dT M) sz)
section HR
variable {d : Nat} {μ : hM} {pc pc1 : Nat} {L L1 : ri_L} {st st1 : List Value} {M M1 : ri_M} {r : Option Value × ri_M}
/-- one step of the machine, with calls that are known -/
theorem hR_sd {ins : Instr} {len a b c d1 : Nat} {call : ri_Ca} (hC : ∀ l, hTb → ri_Cal l call d1) (hd : d1 ≤ d) (hc : μ.cd pc = some (ins, len, a, b, c)) (h : ri_step μ.X call ri_rc μ.rt (ins, len, a, b, c) pc L st M 0 0 = some (.inl (pc1, L1, st1, M1, 0, 0))) (g : hRun d μ pc1 L1 st1 M1 r) : hRun d μ pc L st M r := by
  intro TB hck p l e R s m args below meth c' H locs Q A D dA dT cc sc ls Fx hS hT hR hr hend hAt
  have h2 := ri_sh cc sc h
  refine ri_sound (F := d1) TB.1 Fx (hck _ _ hc) (by omega) (hC l TB) h2 hAt (fun dA1 dT1 H1 locs1 ls1 hag hAt1 => ?_) (by show cc + 0 ≤ _; exact hr.1) (by show sc + 0 ≤ _; exact hr.2)
  obtain ⟨-, -, -, -, h5⟩ := hag
  obtain ⟨rfl, rfl⟩ := h5 rfl
  exact g TB hck p l e R s m args below meth c' H1 locs1 Q A D dA1 dT1 cc sc ls1 Fx hS hT hR hr hend hAt1
theorem hR_st {ins : Instr} {len a b c : Nat} (hc : μ.cd pc = some (ins, len, a, b, c)) (h : ∀ call, ri_step μ.X call ri_rc μ.rt (ins, len, a, b, c) pc L st M 0 0 = some (.inl (pc1, L1, st1, M1, 0, 0))) (g : hRun d μ pc1 L1 st1 M1 r) : hRun d μ pc L st M r :=
  hR_sd (d1 := 0) (call := fun _ _ _ => none) (fun l _ a as M r M1 c1 s1 h => by cases h) (Nat.zero_le _) hc (h _) g
theorem hR_rs {ins : Instr} {len a b c : Nat} (hc : μ.cd pc = some (ins, len, a, b, c)) (h : ∀ call, ri_step μ.X call ri_rc μ.rt (ins, len, a, b, c) pc L st M 0 0 = some (.inr (r.1, r.2, 0, 0))) (e : r.2 = M) : hRun d μ pc L st M r := by
  intro TB hck p l e' R s m args below meth c' H locs Q A D dA dT cc sc ls Fx hS hT hR hr hend hAt
  rw [← e] at h hAt
  exact hend pc L st _ H locs ls hc (h _) hAt
theorem hR_ca {ins : Instr} {len a b c a' d1 : Nat} {as : List Value} {v : Option Value} (he : gEv d1 a' as M (v, M1, 0, 0)) (hd : d1 ≤ d) (hc : μ.cd pc = some (ins, len, a, b, c)) (h : ∀ call : ri_Ca, call a' as M = some (v, M1, 0, 0) → ri_step μ.X call ri_rc μ.rt (ins, len, a, b, c) pc L st M 0 0 = some (.inl (pc1, L1, st1, M1, 0, 0))) (g : hRun d μ pc1 L1 st1 M1 r) : hRun d μ pc L st M r := by
  obtain ⟨N, he⟩ := he
  exact hR_sd (d1 := d1) (call := ri_call ri_tc ri_ml ri_rt ri_rc N d1) (fun l TB => ri_met TB.1 TB.2 l N d1) hd hc (h _ (he N (Nat.le_refl _) d1 (Nat.le_refl _))) g
theorem hR_eqM (e : M = M1) (g : hRun d μ pc L st M1 r) : hRun d μ pc L st M r := e ▸ g
/-- a text -/
theorem hR_ldcS {i : Nat} (hi : i < 16) (ho : μ.own = RX9) (hd : decode μ.bs pc = .ok (.ldc (rs_ix.getD i 0), 2)) (g : hRun d μ (pc + 2) L (.ref (2000 + i) :: st) M r) : hRun d μ pc L st M r := by
  intro TB hck p l e R s m args below meth c' H locs Q A D dA dT cc sc ls Fx hS hT hR hr hend hAt
  obtain ⟨hx, hb, hml, hown, hts, hnm, hA⟩ := id Fx
  rw [ho] at hown
  exact va_ldcS hx hb hown (hT i hi) hd (g TB hck p l e R s m args below meth c' H locs Q A D dA dT cc sc ls Fx hS hT hR hr hend hAt)
/-- its length -/
theorem hR_slen {i : Nat} {rr : List Value} (hi : i < 16) (ho : μ.own = RX8) (hdp : 1 ≤ d) (hd : decode μ.bs pc = .ok (.invokevirtual 27, 3)) (hcat : Nat.ble (ri_cat rr) 8 = true) (g : hRun d μ (pc + 3) L (.int (Int32.ofNat (rs_L.getD i 0)) :: rr) M r) : hRun d μ pc L (.ref (2000 + i) :: rr) M r := by
  intro TB hck p l e R s m args below meth c' H locs Q A D dA dT cc sc ls Fx hS hT hR hr hend hAt
  obtain ⟨X, cd, rt, own, nm, bs, nL⟩ := μ
  dsimp only [hM.own, hM.bs, hM.X, hM.nL, hM.nm] at ho hd Fx hAt ⊢
  subst ho
  exact rs_callV (F := 1) (as := []) (k := 2000 + i) (rr := rr) TB.1 Fx hS hT rs_Y_length rs_w_l_length rs_w_i_length rs_w_s_length rfl hd (by omega) (fun sz => rj_length TB.1 l hi) (vk_recv (i := i) hS.1 hi hAt.2.2.2.2.1) (Nat.le_of_ble_eq_true hcat) hr hAt (fun H1 locs1 ls1 hAt1 => g TB hck p l e R s m args below meth c' H1 locs1 Q A D dA dT cc sc ls1 Fx hS hT hR hr hend hAt1)
/-- its char -/
theorem hR_schr {i : Nat} {k : Int32} {rr : List Value} (hi : i < 16) (h0 : ¬ k < 0) (h1 : k < Int32.ofNat (rs_L.getD i 0)) (hin : vp_in k (rs_L.getD i 0)) (ho : μ.own = RX8) (hdp : 3 ≤ d) (hd : decode μ.bs pc = .ok (.invokevirtual 33, 3)) (hcat : Nat.ble (ri_cat rr) 8 = true) (g : hRun d μ (pc + 3) L (.int (rs_ch i k) :: rr) M r) : hRun d μ pc L (.int k :: .ref (2000 + i) :: rr) M r := by
  intro TB hck p l e R s m args below meth c' H locs Q A D dA dT cc sc ls Fx hS hT hR hr hend hAt
  obtain ⟨X, cd, rt, own, nm, bs, nL⟩ := μ
  dsimp only [hM.own, hM.bs, hM.X, hM.nL, hM.nm] at ho hd Fx hAt ⊢
  subst ho
  exact rs_callV (F := 3) (as := [.int k]) (k := 2000 + i) (rr := rr) TB.1 Fx hS hT rs_Y_charAt rs_w_l_charAt rs_w_i_charAt rs_w_s_charAt rfl hd (by omega) (fun sz => rj_charAt TB.1 l hi h0 h1 hin) (vk_recv (i := i) hS.1 hi hAt.2.2.2.2.1) (Nat.le_of_ble_eq_true hcat) hr hAt (fun H1 locs1 ls1 hAt1 => g TB hck p l e R s m args below meth c' H1 locs1 Q A D dA dT cc sc ls1 Fx hS hT hR hr hend hAt1)
/-- a method's contract -/
theorem hEv_of {a : Nat} {as : List Value} (ha : a < ri_n) (he : ri_ent as (ri_ml a) = some L) (hlen : r.2.length = M.length) (h : hRun d (hm a) 0 L [] M r) : hEv (d + 1) a as M r := by
  intro TB l D dA dT sz
  obtain ⟨k1, k2, k3, k4⟩ := ri_mk_ok (TB.1.1 a ha)
  refine Met.ofW (cc := ri_b a) (maxL := ri_ml a) (ret := ri_rt a) k1 rfl ?_
  intro p e s m args below meth c s₁ B hml hv
  obtain ⟨⟨rfl, hsz, hP, hK, hTt, hD0, hW0⟩, hS, hT⟩ := hv
  have hts0 := atoms_spec (ws := ri_wsy a) B.pre
  have hts : ∀ w ∈ ri_tb, w.before ((as.map (ri_cv dA)).toArray) s = true := ri_every (fun w hw => hts0 w (List.mem_cons_of_mem _ hw)) hW0
  have hown : s.vm.findClass (ri_y a).cls = some m.cls := findClass_of_methodNamed B.named
  have hnm : meth.name = (ri_y a).name := (name_of_methodNamed B.named B.method).1
  have hlocks := B.notSynchronized
  subst hsz
  have hD := hD0.self (sz := s.heap.size)
  have hA : ∀ q : Nat, s.heap.size ≤ q → va_A (ri_ws dA dT M) s.heap.size q := fun q h => Or.inr h
  obtain ⟨hl1, hl2⟩ := ri_ent_ok he dA
  rw [lg_entry_eq]
  exact h TB (TB.2 a) p l e (ri_rm (d + 1) 0 0) s m _ below meth c s.heap [] (MQ below (ri_Q D dA dT M r.1 r.2 0 s.heap.size) _ s 0 0 (va_A (ri_ws dA dT M) s.heap.size)) (va_A (ri_ws dA dT M) s.heap.size) D dA dT 0 0 _ ⟨B.exec, B.bytes, hml, hown, hts, hnm, hA⟩ hS hT ⟨Nat.le_refl _, Nat.le_refl _⟩ ⟨Nat.le_refl _, Nat.le_refl _⟩
    (fun pc1 L1 st1 j H1 locs1 ls1 hj hs hAt => ri_end (dA := dA) B.exec B.bytes B.returns hlocks (TB.2 a pc1 j hj) hs (fun t ht hW => by
      obtain ⟨a1, a2, a3, a4, a5, a6, a7, a8⟩ := hAt
      exact ⟨dA, dT, ri_Ag.len ri_Ag.rf hlen, rfl, by rw [ht]; exact a3, fun k ty x h => ⟨arrOfT_moved hW.alike (a2 k ty x h).1, va_RA.moved hW.alike (a2 k ty x h).2⟩, a4, a5.F ht⟩) hAt.2.2.2.2.1.2.2)
    ⟨hK, hTt, hP, hD, va_S.rf, hl1, hl2, trivial⟩
end HR
end
section
/-! The rules of runs that know the texts. -/
section HRR
variable {d pc len a b c d1 : Nat} {μ : hM} {L : ri_L} {st rr as : List Value} {M M1 : ri_M} {s s' : wS} {r : Option Value × ri_M} {off : Int}
theorem hR_ic_eq_j {x y : Int32} {t : Nat} (hc : μ.cd pc = some (.if_icmp .eq off, len, a, b, c)) (h : x = y) (ht : (pc : Int) + off = Int.ofNat t) (g : hRun d μ t L st M r) : hRun d μ pc L (.int y :: .int x :: st) M r := hR_st hc (fun call => by
  show (if x = y then ri_jmp off pc L st M 0 0 else some (.inl (pc + 3, L, st, M, 0, 0))) = _
  rw [if_pos h]
  exact ri_jmp_ok ht) g
theorem hR_ic_eq_f {x y : Int32} (hc : μ.cd pc = some (.if_icmp .eq off, len, a, b, c)) (h : ¬ x = y) (g : hRun d μ (pc + 3) L st M r) : hRun d μ pc L (.int y :: .int x :: st) M r := hR_st hc (fun call => by
  show (if x = y then ri_jmp off pc L st M 0 0 else some (.inl (pc + 3, L, st, M, 0, 0))) = _
  rw [if_neg h]) g
theorem hR_ic_ne_j {x y : Int32} {t : Nat} (hc : μ.cd pc = some (.if_icmp .ne off, len, a, b, c)) (h : ¬ x = y) (ht : (pc : Int) + off = Int.ofNat t) (g : hRun d μ t L st M r) : hRun d μ pc L (.int y :: .int x :: st) M r := hR_st hc (fun call => by
  show (if x = y then some (.inl (pc + 3, L, st, M, 0, 0)) else ri_jmp off pc L st M 0 0) = _
  rw [if_neg h]
  exact ri_jmp_ok ht) g
theorem hR_ic_ne_f {x y : Int32} (hc : μ.cd pc = some (.if_icmp .ne off, len, a, b, c)) (h : x = y) (g : hRun d μ (pc + 3) L st M r) : hRun d μ pc L (.int y :: .int x :: st) M r := hR_st hc (fun call => by
  show (if x = y then some (.inl (pc + 3, L, st, M, 0, 0)) else ri_jmp off pc L st M 0 0) = _
  rw [if_pos h]) g
theorem hR_ic_lt_j {x y : Int32} {t : Nat} (hc : μ.cd pc = some (.if_icmp .lt off, len, a, b, c)) (h : x < y) (ht : (pc : Int) + off = Int.ofNat t) (g : hRun d μ t L st M r) : hRun d μ pc L (.int y :: .int x :: st) M r := hR_st hc (fun call => by
  show (if x < y then ri_jmp off pc L st M 0 0 else some (.inl (pc + 3, L, st, M, 0, 0))) = _
  rw [if_pos h]
  exact ri_jmp_ok ht) g
theorem hR_ic_lt_f {x y : Int32} (hc : μ.cd pc = some (.if_icmp .lt off, len, a, b, c)) (h : ¬ x < y) (g : hRun d μ (pc + 3) L st M r) : hRun d μ pc L (.int y :: .int x :: st) M r := hR_st hc (fun call => by
  show (if x < y then ri_jmp off pc L st M 0 0 else some (.inl (pc + 3, L, st, M, 0, 0))) = _
  rw [if_neg h]) g
theorem hR_ic_gt_j {x y : Int32} {t : Nat} (hc : μ.cd pc = some (.if_icmp .gt off, len, a, b, c)) (h : y < x) (ht : (pc : Int) + off = Int.ofNat t) (g : hRun d μ t L st M r) : hRun d μ pc L (.int y :: .int x :: st) M r := hR_st hc (fun call => by
  show (if y < x then ri_jmp off pc L st M 0 0 else some (.inl (pc + 3, L, st, M, 0, 0))) = _
  rw [if_pos h]
  exact ri_jmp_ok ht) g
theorem hR_ic_gt_f {x y : Int32} (hc : μ.cd pc = some (.if_icmp .gt off, len, a, b, c)) (h : ¬ y < x) (g : hRun d μ (pc + 3) L st M r) : hRun d μ pc L (.int y :: .int x :: st) M r := hR_st hc (fun call => by
  show (if y < x then ri_jmp off pc L st M 0 0 else some (.inl (pc + 3, L, st, M, 0, 0))) = _
  rw [if_neg h]) g
theorem hR_ic_ge_j {x y : Int32} {t : Nat} (hc : μ.cd pc = some (.if_icmp .ge off, len, a, b, c)) (h : ¬ x < y) (ht : (pc : Int) + off = Int.ofNat t) (g : hRun d μ t L st M r) : hRun d μ pc L (.int y :: .int x :: st) M r := hR_st hc (fun call => by
  show (if y ≤ x then ri_jmp off pc L st M 0 0 else some (.inl (pc + 3, L, st, M, 0, 0))) = _
  rw [if_pos (Int32.not_lt.1 h)]
  exact ri_jmp_ok ht) g
theorem hR_ic_ge_f {x y : Int32} (hc : μ.cd pc = some (.if_icmp .ge off, len, a, b, c)) (h : x < y) (g : hRun d μ (pc + 3) L st M r) : hRun d μ pc L (.int y :: .int x :: st) M r := hR_st hc (fun call => by
  show (if y ≤ x then ri_jmp off pc L st M 0 0 else some (.inl (pc + 3, L, st, M, 0, 0))) = _
  rw [if_neg (Int32.not_le.2 h)]) g
theorem hR_ic_le_j {x y : Int32} {t : Nat} (hc : μ.cd pc = some (.if_icmp .le off, len, a, b, c)) (h : ¬ y < x) (ht : (pc : Int) + off = Int.ofNat t) (g : hRun d μ t L st M r) : hRun d μ pc L (.int y :: .int x :: st) M r := hR_st hc (fun call => by
  show (if x ≤ y then ri_jmp off pc L st M 0 0 else some (.inl (pc + 3, L, st, M, 0, 0))) = _
  rw [if_pos (Int32.not_lt.1 h)]
  exact ri_jmp_ok ht) g
theorem hR_ic_le_f {x y : Int32} (hc : μ.cd pc = some (.if_icmp .le off, len, a, b, c)) (h : y < x) (g : hRun d μ (pc + 3) L st M r) : hRun d μ pc L (.int y :: .int x :: st) M r := hR_st hc (fun call => by
  show (if x ≤ y then ri_jmp off pc L st M 0 0 else some (.inl (pc + 3, L, st, M, 0, 0))) = _
  rw [if_neg (Int32.not_le.2 h)]) g
theorem hR_iz_eq_j {x : Int32} {t : Nat} (hc : μ.cd pc = some (.ifCond .eq off, len, a, b, c)) (h : x = (0 : Int32)) (ht : (pc : Int) + off = Int.ofNat t) (g : hRun d μ t L st M r) : hRun d μ pc L (.int x :: st) M r := hR_st hc (fun call => by
  show (if x = (0 : Int32) then ri_jmp off pc L st M 0 0 else some (.inl (pc + 3, L, st, M, 0, 0))) = _
  rw [if_pos h]
  exact ri_jmp_ok ht) g
theorem hR_iz_eq_f {x : Int32} (hc : μ.cd pc = some (.ifCond .eq off, len, a, b, c)) (h : ¬ x = (0 : Int32)) (g : hRun d μ (pc + 3) L st M r) : hRun d μ pc L (.int x :: st) M r := hR_st hc (fun call => by
  show (if x = (0 : Int32) then ri_jmp off pc L st M 0 0 else some (.inl (pc + 3, L, st, M, 0, 0))) = _
  rw [if_neg h]) g
theorem hR_iz_ne_j {x : Int32} {t : Nat} (hc : μ.cd pc = some (.ifCond .ne off, len, a, b, c)) (h : ¬ x = (0 : Int32)) (ht : (pc : Int) + off = Int.ofNat t) (g : hRun d μ t L st M r) : hRun d μ pc L (.int x :: st) M r := hR_st hc (fun call => by
  show (if x = (0 : Int32) then some (.inl (pc + 3, L, st, M, 0, 0)) else ri_jmp off pc L st M 0 0) = _
  rw [if_neg h]
  exact ri_jmp_ok ht) g
theorem hR_iz_ne_f {x : Int32} (hc : μ.cd pc = some (.ifCond .ne off, len, a, b, c)) (h : x = (0 : Int32)) (g : hRun d μ (pc + 3) L st M r) : hRun d μ pc L (.int x :: st) M r := hR_st hc (fun call => by
  show (if x = (0 : Int32) then some (.inl (pc + 3, L, st, M, 0, 0)) else ri_jmp off pc L st M 0 0) = _
  rw [if_pos h]) g
theorem hR_iz_lt_j {x : Int32} {t : Nat} (hc : μ.cd pc = some (.ifCond .lt off, len, a, b, c)) (h : x < (0 : Int32)) (ht : (pc : Int) + off = Int.ofNat t) (g : hRun d μ t L st M r) : hRun d μ pc L (.int x :: st) M r := hR_st hc (fun call => by
  show (if x < (0 : Int32) then ri_jmp off pc L st M 0 0 else some (.inl (pc + 3, L, st, M, 0, 0))) = _
  rw [if_pos h]
  exact ri_jmp_ok ht) g
theorem hR_iz_lt_f {x : Int32} (hc : μ.cd pc = some (.ifCond .lt off, len, a, b, c)) (h : ¬ x < (0 : Int32)) (g : hRun d μ (pc + 3) L st M r) : hRun d μ pc L (.int x :: st) M r := hR_st hc (fun call => by
  show (if x < (0 : Int32) then ri_jmp off pc L st M 0 0 else some (.inl (pc + 3, L, st, M, 0, 0))) = _
  rw [if_neg h]) g
theorem hR_iz_gt_j {x : Int32} {t : Nat} (hc : μ.cd pc = some (.ifCond .gt off, len, a, b, c)) (h : (0 : Int32) < x) (ht : (pc : Int) + off = Int.ofNat t) (g : hRun d μ t L st M r) : hRun d μ pc L (.int x :: st) M r := hR_st hc (fun call => by
  show (if (0 : Int32) < x then ri_jmp off pc L st M 0 0 else some (.inl (pc + 3, L, st, M, 0, 0))) = _
  rw [if_pos h]
  exact ri_jmp_ok ht) g
theorem hR_iz_gt_f {x : Int32} (hc : μ.cd pc = some (.ifCond .gt off, len, a, b, c)) (h : ¬ (0 : Int32) < x) (g : hRun d μ (pc + 3) L st M r) : hRun d μ pc L (.int x :: st) M r := hR_st hc (fun call => by
  show (if (0 : Int32) < x then ri_jmp off pc L st M 0 0 else some (.inl (pc + 3, L, st, M, 0, 0))) = _
  rw [if_neg h]) g
theorem hR_iz_ge_j {x : Int32} {t : Nat} (hc : μ.cd pc = some (.ifCond .ge off, len, a, b, c)) (h : ¬ x < (0 : Int32)) (ht : (pc : Int) + off = Int.ofNat t) (g : hRun d μ t L st M r) : hRun d μ pc L (.int x :: st) M r := hR_st hc (fun call => by
  show (if (0 : Int32) ≤ x then ri_jmp off pc L st M 0 0 else some (.inl (pc + 3, L, st, M, 0, 0))) = _
  rw [if_pos (Int32.not_lt.1 h)]
  exact ri_jmp_ok ht) g
theorem hR_iz_ge_f {x : Int32} (hc : μ.cd pc = some (.ifCond .ge off, len, a, b, c)) (h : x < (0 : Int32)) (g : hRun d μ (pc + 3) L st M r) : hRun d μ pc L (.int x :: st) M r := hR_st hc (fun call => by
  show (if (0 : Int32) ≤ x then ri_jmp off pc L st M 0 0 else some (.inl (pc + 3, L, st, M, 0, 0))) = _
  rw [if_neg (Int32.not_le.2 h)]) g
theorem hR_iz_le_j {x : Int32} {t : Nat} (hc : μ.cd pc = some (.ifCond .le off, len, a, b, c)) (h : ¬ (0 : Int32) < x) (ht : (pc : Int) + off = Int.ofNat t) (g : hRun d μ t L st M r) : hRun d μ pc L (.int x :: st) M r := hR_st hc (fun call => by
  show (if x ≤ (0 : Int32) then ri_jmp off pc L st M 0 0 else some (.inl (pc + 3, L, st, M, 0, 0))) = _
  rw [if_pos (Int32.not_lt.1 h)]
  exact ri_jmp_ok ht) g
theorem hR_iz_le_f {x : Int32} (hc : μ.cd pc = some (.ifCond .le off, len, a, b, c)) (h : (0 : Int32) < x) (g : hRun d μ (pc + 3) L st M r) : hRun d μ pc L (.int x :: st) M r := hR_st hc (fun call => by
  show (if x ≤ (0 : Int32) then ri_jmp off pc L st M 0 0 else some (.inl (pc + 3, L, st, M, 0, 0))) = _
  rw [if_neg (Int32.not_le.2 h)]) g
theorem hR_lc_eq_j {x y : Int64} {t : Nat} (hc : μ.cd pc = some (.ifCond .eq off, len, a, b, c)) (h : x = y) (ht : (pc : Int) + off = Int.ofNat t) (g : hRun d μ t L st M r) : hRun d μ pc L (.int (lg_cmp x y) :: st) M r := hR_iz_eq_j hc (glc_eq.2 h) ht g
theorem hR_lc_eq_f {x y : Int64} (hc : μ.cd pc = some (.ifCond .eq off, len, a, b, c)) (h : ¬ x = y) (g : hRun d μ (pc + 3) L st M r) : hRun d μ pc L (.int (lg_cmp x y) :: st) M r := hR_iz_eq_f hc (fun e => h (glc_eq.1 e)) g
theorem hR_lc_ne_j {x y : Int64} {t : Nat} (hc : μ.cd pc = some (.ifCond .ne off, len, a, b, c)) (h : ¬ x = y) (ht : (pc : Int) + off = Int.ofNat t) (g : hRun d μ t L st M r) : hRun d μ pc L (.int (lg_cmp x y) :: st) M r := hR_iz_ne_j hc (fun e => h (glc_eq.1 e)) ht g
theorem hR_lc_ne_f {x y : Int64} (hc : μ.cd pc = some (.ifCond .ne off, len, a, b, c)) (h : x = y) (g : hRun d μ (pc + 3) L st M r) : hRun d μ pc L (.int (lg_cmp x y) :: st) M r := hR_iz_ne_f hc (glc_eq.2 h) g
theorem hR_lc_lt_j {x y : Int64} {t : Nat} (hc : μ.cd pc = some (.ifCond .lt off, len, a, b, c)) (h : x < y) (ht : (pc : Int) + off = Int.ofNat t) (g : hRun d μ t L st M r) : hRun d μ pc L (.int (lg_cmp x y) :: st) M r := hR_iz_lt_j hc (ri_lg_lt.2 h) ht g
theorem hR_lc_lt_f {x y : Int64} (hc : μ.cd pc = some (.ifCond .lt off, len, a, b, c)) (h : ¬ x < y) (g : hRun d μ (pc + 3) L st M r) : hRun d μ pc L (.int (lg_cmp x y) :: st) M r := hR_iz_lt_f hc (fun e => h (ri_lg_lt.1 e)) g
theorem hR_lc_ge_j {x y : Int64} {t : Nat} (hc : μ.cd pc = some (.ifCond .ge off, len, a, b, c)) (h : ¬ x < y) (ht : (pc : Int) + off = Int.ofNat t) (g : hRun d μ t L st M r) : hRun d μ pc L (.int (lg_cmp x y) :: st) M r := hR_iz_ge_j hc (fun e => h (ri_lg_lt.1 e)) ht g
theorem hR_lc_ge_f {x y : Int64} (hc : μ.cd pc = some (.ifCond .ge off, len, a, b, c)) (h : x < y) (g : hRun d μ (pc + 3) L st M r) : hRun d μ pc L (.int (lg_cmp x y) :: st) M r := hR_iz_ge_f hc (ri_lg_lt.2 h) g
theorem hR_lc_gt_j {x y : Int64} {t : Nat} (hc : μ.cd pc = some (.ifCond .gt off, len, a, b, c)) (h : y < x) (ht : (pc : Int) + off = Int.ofNat t) (g : hRun d μ t L st M r) : hRun d μ pc L (.int (lg_cmp x y) :: st) M r := hR_iz_gt_j hc (ri_lg_gt.2 h) ht g
theorem hR_lc_gt_f {x y : Int64} (hc : μ.cd pc = some (.ifCond .gt off, len, a, b, c)) (h : ¬ y < x) (g : hRun d μ (pc + 3) L st M r) : hRun d μ pc L (.int (lg_cmp x y) :: st) M r := hR_iz_gt_f hc (fun e => h (ri_lg_gt.1 e)) g
theorem hR_lc_le_j {x y : Int64} {t : Nat} (hc : μ.cd pc = some (.ifCond .le off, len, a, b, c)) (h : ¬ y < x) (ht : (pc : Int) + off = Int.ofNat t) (g : hRun d μ t L st M r) : hRun d μ pc L (.int (lg_cmp x y) :: st) M r := hR_iz_le_j hc (fun e => h (ri_lg_gt.1 e)) ht g
theorem hR_lc_le_f {x y : Int64} (hc : μ.cd pc = some (.ifCond .le off, len, a, b, c)) (h : y < x) (g : hRun d μ (pc + 3) L st M r) : hRun d μ pc L (.int (lg_cmp x y) :: st) M r := hR_iz_le_f hc (ri_lg_gt.2 h) g
theorem hR_ifnull_n_j {t : Nat} (hc : μ.cd pc = some (.ifnull off, len, a, b, c)) (ht : (pc : Int) + off = Int.ofNat t) (g : hRun d μ t L st M r) : hRun d μ pc L (.null :: st) M r := hR_st hc (fun call => ri_jmp_ok ht) g
theorem hR_ifnonnull_r_j {t k : Nat} (hc : μ.cd pc = some (.ifnonnull off, len, a, b, c)) (ht : (pc : Int) + off = Int.ofNat t) (g : hRun d μ t L st M r) : hRun d μ pc L (.ref k :: st) M r := hR_st hc (fun call => ri_jmp_ok ht) g
theorem hR_ifnull_r_f {k : Nat} (hc : μ.cd pc = some (.ifnull off, len, a, b, c)) (g : hRun d μ (pc + 3) L st M r) : hRun d μ pc L (.ref k :: st) M r := hR_st hc (fun call => rfl) g
theorem hR_ifnonnull_n_f (hc : μ.cd pc = some (.ifnonnull off, len, a, b, c)) (g : hRun d μ (pc + 3) L st M r) : hRun d μ pc L (.null :: st) M r := hR_st hc (fun call => rfl) g
theorem hR_gfI {i k : Nat} (hc : μ.cd pc = some (.getfield i, len, a, b, c)) (hk : wkd k = a) (hf : Nat.blt (wfk a b) 2 = true) (g : hRun d μ (pc + 3) L (.int (s.1 k b) :: st) (wmk s) r) : hRun d μ pc L (.ref (k + 1) :: st) (wmk s) r := by
  have hf' : wfk a b < 2 := by simpa [Nat.blt_eq] using hf
  have hb := wfk_b (a := a) (b := b) (by omega)
  refine hR_st hc (fun call => ?_) g
  show ri_gf a b pc L (.ref (k + 1) :: st) (wmk s) 0 0 = _
  have e : wfld s k b = .int (s.1 k b) := by
    unfold wfld
    rw [hk, if_neg (by omega), if_neg (by omega)]
  simp only [ri_gf, wget_o hk hb.1, wfs hb.2, e, if_true]
theorem hR_gfL {i k : Nat} (hc : μ.cd pc = some (.getfield i, len, a, b, c)) (hk : wkd k = a) (hf : Nat.beq (wfk a b) 2 = true) (g : hRun d μ (pc + 3) L (.long (s.2 k b) :: st) (wmk s) r) : hRun d μ pc L (.ref (k + 1) :: st) (wmk s) r := by
  have hf' : wfk a b = 2 := Nat.eq_of_beq_eq_true hf
  have hb := wfk_b (a := a) (b := b) (by omega)
  refine hR_st hc (fun call => ?_) g
  show ri_gf a b pc L (.ref (k + 1) :: st) (wmk s) 0 0 = _
  have e : wfld s k b = .long (s.2 k b) := by
    unfold wfld
    rw [hk, if_neg (by omega), if_pos hf']
  simp only [ri_gf, wget_o hk hb.1, wfs hb.2, e, if_true]
theorem hR_gfR {i k k' : Nat} (hc : μ.cd pc = some (.getfield i, len, a, b, c)) (hk : wkd k = a) (hf : Nat.beq (wfk a b) 3 = true) (hR : wfR k b = k') (g : hRun d μ (pc + 3) L (.ref (k' + 1) :: st) (wmk s) r) : hRun d μ pc L (.ref (k + 1) :: st) (wmk s) r := by
  have hf' : wfk a b = 3 := Nat.eq_of_beq_eq_true hf
  have hb := wfk_b (a := a) (b := b) (by omega)
  refine hR_st hc (fun call => ?_) g
  show ri_gf a b pc L (.ref (k + 1) :: st) (wmk s) 0 0 = _
  have e : wfld s k b = .ref (k' + 1) := by
    unfold wfld
    rw [hk, if_pos hf', hR]
  simp only [ri_gf, wget_o hk hb.1, wfs hb.2, e, if_true]
theorem hR_pfI {i k : Nat} {v : Int32} (hc : μ.cd pc = some (.putfield i, len, a, b, c)) (hk : wkd k = a) (hf : Nat.beq (wfk a b) 0 = true) (ht : ri_ft a b = .int) (e : wpfI s k b v = some s') (g : hRun d μ (pc + 3) L st (wmk s') r) : hRun d μ pc L (.int v :: .ref (k + 1) :: st) (wmk s) r := by
  have hf' : wfk a b = 0 := Nat.eq_of_beq_eq_true hf
  have hb := wfk_b (a := a) (b := b) (by omega)
  refine hR_st hc (fun call => ?_) g
  show ri_pf a b pc L (.int v :: .ref (k + 1) :: st) (wmk s) 0 0 = _
  obtain rfl := gi1 e
  have hfit : ri_fit (ri_ft a b) (.int v) = true := by
    rw [ht]
    rfl
  simp only [ri_pf, wget_o hk hb.1]
  rw [if_pos ⟨trivial, by simpa using hb.2, hfit⟩, wsetI hk (by omega)]
theorem hR_pfZ {i k : Nat} {v : Int32} (hc : μ.cd pc = some (.putfield i, len, a, b, c)) (hk : wkd k = a) (hf : Nat.beq (wfk a b) 1 = true) (ht : ri_ft a b = .boolean) (e : wpfZ s k b v = some s') (g : hRun d μ (pc + 3) L st (wmk s') r) : hRun d μ pc L (.int v :: .ref (k + 1) :: st) (wmk s) r := by
  have hf' : wfk a b = 1 := Nat.eq_of_beq_eq_true hf
  have hb := wfk_b (a := a) (b := b) (by omega)
  refine hR_st hc (fun call => ?_) g
  show ri_pf a b pc L (.int v :: .ref (k + 1) :: st) (wmk s) 0 0 = _
  unfold wpfZ at e
  rcases gif e with ⟨h1, e⟩ | ⟨h1, e⟩
  · obtain rfl := gi1 e
    have hfit : ri_fit (ri_ft a b) (.int v) = true := by
      rw [ht]
      simpa [ri_fit] using h1
    simp only [ri_pf, wget_o hk hb.1]
    rw [if_pos ⟨trivial, by simpa using hb.2, hfit⟩, wsetI hk (by omega)]
  · cases e
theorem hR_pfL {i k : Nat} {v : Int64} (hc : μ.cd pc = some (.putfield i, len, a, b, c)) (hk : wkd k = a) (hf : Nat.beq (wfk a b) 2 = true) (ht : ri_ft a b = .long) (e : wpfL s k b v = some s') (g : hRun d μ (pc + 3) L st (wmk s') r) : hRun d μ pc L (.long v :: .ref (k + 1) :: st) (wmk s) r := by
  have hf' : wfk a b = 2 := Nat.eq_of_beq_eq_true hf
  have hb := wfk_b (a := a) (b := b) (by omega)
  refine hR_st hc (fun call => ?_) g
  show ri_pf a b pc L (.long v :: .ref (k + 1) :: st) (wmk s) 0 0 = _
  obtain rfl := gi1 e
  have hfit : ri_fit (ri_ft a b) (.long v) = true := by
    rw [ht]
    rfl
  simp only [ri_pf, wget_o hk hb.1]
  rw [if_pos ⟨trivial, by simpa using hb.2, hfit⟩, wsetL hk (by omega)]
theorem hR_ial {k n : Nat} {x : Int32} {v : Int32} (hc : μ.cd pc = some (.iaload, len, a, b, c)) (hk : wkd k = 20) (hn : wln k = n) (e : wldI s k n x = some v) (g : hRun d μ (pc + 1) L (.int v :: st) (wmk s) r) : hRun d μ pc L (.int x :: .ref (k + 1) :: st) (wmk s) r := by
  obtain ⟨h1, rfl⟩ := wldI_e e
  refine hR_st hc (fun call => ?_) g
  show ri_ial μ.X pc L (.int x :: .ref (k + 1) :: st) (wmk s) 0 0 = _
  simp only [ri_ial, wget_I hk, hn]
  rw [if_neg h1]
theorem hR_ialc {k n j : Nat} {x : Int32} (hc : μ.cd pc = some (.iaload, len, a, b, c)) (hk : wkd k = 20) (hn : wln k = n) (h1 : ¬ (x < 0 ∨ n ≤ x.toNatClampNeg)) (hj : x.toNatClampNeg = j) (g : hRun d μ (pc + 1) L (.int (s.1 k j) :: st) (wmk s) r) : hRun d μ pc L (.int x :: .ref (k + 1) :: st) (wmk s) r := by
  subst hj
  exact hR_ial hc hk hn (by unfold wldI; rw [if_neg h1]) g
theorem hR_bal {k n : Nat} {x : Int32} {v : Int32} (hc : μ.cd pc = some (.baload, len, a, b, c)) (hk : wkd k = 21) (hn : wln k = n) (e : wldI s k n x = some v) (g : hRun d μ (pc + 1) L (.int v :: st) (wmk s) r) : hRun d μ pc L (.int x :: .ref (k + 1) :: st) (wmk s) r := by
  obtain ⟨h1, rfl⟩ := wldI_e e
  refine hR_st hc (fun call => ?_) g
  show ri_bal pc L (.int x :: .ref (k + 1) :: st) (wmk s) 0 0 = _
  simp only [ri_bal, wget_B hk, hn]
  rw [if_neg h1]
theorem hR_balc {k n j : Nat} {x : Int32} (hc : μ.cd pc = some (.baload, len, a, b, c)) (hk : wkd k = 21) (hn : wln k = n) (h1 : ¬ (x < 0 ∨ n ≤ x.toNatClampNeg)) (hj : x.toNatClampNeg = j) (g : hRun d μ (pc + 1) L (.int (s.1 k j) :: st) (wmk s) r) : hRun d μ pc L (.int x :: .ref (k + 1) :: st) (wmk s) r := by
  subst hj
  exact hR_bal hc hk hn (by unfold wldI; rw [if_neg h1]) g
theorem hR_zal {k n : Nat} {x : Int32} {v : Int32} (hc : μ.cd pc = some (.baload, len, a, b, c)) (hk : wkd k = 22) (hn : wln k = n) (e : wldI s k n x = some v) (g : hRun d μ (pc + 1) L (.int v :: st) (wmk s) r) : hRun d μ pc L (.int x :: .ref (k + 1) :: st) (wmk s) r := by
  obtain ⟨h1, rfl⟩ := wldI_e e
  refine hR_st hc (fun call => ?_) g
  show ri_bal pc L (.int x :: .ref (k + 1) :: st) (wmk s) 0 0 = _
  simp only [ri_bal, wget_Z hk, hn]
  rw [if_neg h1]
theorem hR_zalc {k n j : Nat} {x : Int32} (hc : μ.cd pc = some (.baload, len, a, b, c)) (hk : wkd k = 22) (hn : wln k = n) (h1 : ¬ (x < 0 ∨ n ≤ x.toNatClampNeg)) (hj : x.toNatClampNeg = j) (g : hRun d μ (pc + 1) L (.int (s.1 k j) :: st) (wmk s) r) : hRun d μ pc L (.int x :: .ref (k + 1) :: st) (wmk s) r := by
  subst hj
  exact hR_zal hc hk hn (by unfold wldI; rw [if_neg h1]) g
theorem hR_lal {k n : Nat} {x : Int32} {v : Int64} (hc : μ.cd pc = some (.laload, len, a, b, c)) (hk : wkd k = 23) (hn : wln k = n) (e : wldL s k n x = some v) (g : hRun d μ (pc + 1) L (.long v :: st) (wmk s) r) : hRun d μ pc L (.int x :: .ref (k + 1) :: st) (wmk s) r := by
  obtain ⟨h1, rfl⟩ := wldL_e e
  refine hR_st hc (fun call => ?_) g
  show ri_lal pc L (.int x :: .ref (k + 1) :: st) (wmk s) 0 0 = _
  simp only [ri_lal, wget_J hk, hn]
  rw [if_neg h1]
theorem hR_lalc {k n j : Nat} {x : Int32} (hc : μ.cd pc = some (.laload, len, a, b, c)) (hk : wkd k = 23) (hn : wln k = n) (h1 : ¬ (x < 0 ∨ n ≤ x.toNatClampNeg)) (hj : x.toNatClampNeg = j) (g : hRun d μ (pc + 1) L (.long (s.2 k j) :: st) (wmk s) r) : hRun d μ pc L (.int x :: .ref (k + 1) :: st) (wmk s) r := by
  subst hj
  exact hR_lal hc hk hn (by unfold wldL; rw [if_neg h1]) g
theorem hR_ias {k n : Nat} {x : Int32} {v : Int32} (hc : μ.cd pc = some (.iastore, len, a, b, c)) (hk : wkd k = 20) (hn : wln k = n) (e : wstI s k n x v = some s') (g : hRun d μ (pc + 1) L st (wmk s') r) : hRun d μ pc L (.int v :: .int x :: .ref (k + 1) :: st) (wmk s) r := by
  unfold wstI at e
  rcases gif e with ⟨h1, e⟩ | ⟨h1, e⟩
  · cases e
  · obtain rfl := gi1 e
    refine hR_st hc (fun call => ?_) g
    show ri_ias pc L (.int v :: .int x :: .ref (k + 1) :: st) (wmk s) 0 0 = _
    simp only [ri_ias, wget_I hk, hn]
    rw [if_neg h1, ← hn, wsetAI hk]
theorem hR_bas {k n : Nat} {x : Int32} {v : Int32} (hc : μ.cd pc = some (.bastore, len, a, b, c)) (hk : wkd k = 21) (hn : wln k = n) (e : wstB s k n x v = some s') (g : hRun d μ (pc + 1) L st (wmk s') r) : hRun d μ pc L (.int v :: .int x :: .ref (k + 1) :: st) (wmk s) r := by
  unfold wstB at e
  rcases gif e with ⟨h1, e⟩ | ⟨h1, e⟩
  · cases e
  · obtain rfl := gi1 e
    refine hR_st hc (fun call => ?_) g
    show ri_bas pc L (.int v :: .int x :: .ref (k + 1) :: st) (wmk s) 0 0 = _
    simp only [ri_bas, wget_B hk, hn]
    rw [if_neg h1, ← hn, wsetAB hk]
theorem hR_zas {k n : Nat} {x : Int32} {v : Int32} (hc : μ.cd pc = some (.bastore, len, a, b, c)) (hk : wkd k = 22) (hn : wln k = n) (e : wstZ s k n x v = some s') (g : hRun d μ (pc + 1) L st (wmk s') r) : hRun d μ pc L (.int v :: .int x :: .ref (k + 1) :: st) (wmk s) r := by
  unfold wstZ at e
  rcases gif e with ⟨h1, e⟩ | ⟨h1, e⟩
  · cases e
  · obtain rfl := gi1 e
    refine hR_st hc (fun call => ?_) g
    show ri_bas pc L (.int v :: .int x :: .ref (k + 1) :: st) (wmk s) 0 0 = _
    simp only [ri_bas, wget_Z hk, hn]
    rw [if_neg h1, ← hn, wsetAZ hk]
theorem hR_las {k n : Nat} {x : Int32} {v : Int64} (hc : μ.cd pc = some (.lastore, len, a, b, c)) (hk : wkd k = 23) (hn : wln k = n) (e : wstL s k n x v = some s') (g : hRun d μ (pc + 1) L st (wmk s') r) : hRun d μ pc L (.long v :: .int x :: .ref (k + 1) :: st) (wmk s) r := by
  unfold wstL at e
  rcases gif e with ⟨h1, e⟩ | ⟨h1, e⟩
  · cases e
  · obtain rfl := gi1 e
    refine hR_st hc (fun call => ?_) g
    show ri_las pc L (.long v :: .int x :: .ref (k + 1) :: st) (wmk s) 0 0 = _
    simp only [ri_las, wget_J hk, hn]
    rw [if_neg h1, ← hn, wsetAJ hk]
theorem hR_aal {k n k' : Nat} {x : Int32} (hc : μ.cd pc = some (.aaload, len, a, b, c)) (hk : (Nat.beq (wkd k) 24 || Nat.beq (wkd k) 25) = true) (hn : wln k = n) (e : wldR k n x = some k') (g : hRun d μ (pc + 1) L (.ref (k' + 1) :: st) (wmk s) r) : hRun d μ pc L (.int x :: .ref (k + 1) :: st) (wmk s) r := by
  obtain ⟨h1, h2⟩ := wldR_e e
  have hk' : wkd k = 24 ∨ wkd k = 25 := by
    rcases gor hk with h | h
    · exact .inl (Nat.eq_of_beq_eq_true h)
    · exact .inr (Nat.eq_of_beq_eq_true h)
  refine hR_st hc (fun call => ?_) g
  show ri_aal pc L (.int x :: .ref (k + 1) :: st) (wmk s) 0 0 = _
  have hC : ∃ C, wCl k = .object C := by
    unfold wCl
    cases Nat.beq k 13
    · exact ⟨_, rfl⟩
    · exact ⟨_, rfl⟩
  obtain ⟨C, hC⟩ := hC
  simp only [ri_aal, wget_A hk', hC, hn]
  rw [if_neg h1]
  cases e3 : wrA k x.toNatClampNeg with
  | none => rw [e3] at h2; cases h2
  | some q =>
    rw [e3] at h2
    obtain ⟨z, rfl⟩ := wrA_p e3
    have : z = k' := gi1 h2
    subst this
    rfl
theorem hR_aln {k n : Nat} {w : Int32} (hc : μ.cd pc = some (.arraylength, len, a, b, c)) (hk : (Nat.ble 20 (wkd k) && Nat.ble (wkd k) 25) = true) (hn : wln k = n) (hw : Int32.ofNat n = w) (g : hRun d μ (pc + 1) L (.int w :: st) (wmk s) r) : hRun d μ pc L (.ref (k + 1) :: st) (wmk s) r := by
  subst hw
  have h2 : 20 ≤ wkd k ∧ wkd k ≤ 25 := by
    have := gand hk
    exact ⟨Nat.le_of_ble_eq_true this.1, Nat.le_of_ble_eq_true this.2⟩
  have hx : ∃ ty z, (wmk s)[k]? = some (.inl (ty, (n, z))) := by
    have h3 : wkd k = 20 ∨ wkd k = 21 ∨ wkd k = 22 ∨ wkd k = 23 ∨ (wkd k = 24 ∨ wkd k = 25) := by omega
    rcases h3 with h | h | h | h | h
    · exact ⟨_, _, by rw [wget_I h, hn]⟩
    · exact ⟨_, _, by rw [wget_B h, hn]⟩
    · exact ⟨_, _, by rw [wget_Z h, hn]⟩
    · exact ⟨_, _, by rw [wget_J h, hn]⟩
    · exact ⟨_, _, by rw [wget_A h, hn]⟩
  obtain ⟨ty, z, hx⟩ := hx
  refine hR_st hc (fun call => ?_) g
  show ri_aln μ.X pc L (.ref (k + 1) :: st) (wmk s) 0 0 = _
  simp only [ri_aln, hx]
theorem hR_acp {i k k1 n n1 : Nat} {sp dp q : Int32} (hc : μ.cd pc = some (.invokestatic i, len, a, b, c)) (h10 : Nat.beq (c % 16) 10 = true) (hk : wkd k = 20) (hn : wln k = n) (hk1 : wkd k1 = 20) (hn1 : wln k1 = n1) (e : wcpI s k n k1 n1 sp dp q = some s') (hcat : Nat.ble (ri_cat st) 8 = true) (g : hRun d μ (pc + 3) L st (wmk s') r) : hRun d μ pc L (.int q :: .int dp :: .ref (k1 + 1) :: .int sp :: .ref (k + 1) :: st) (wmk s) r := by
  unfold wcpI at e
  rcases gif e with ⟨h1, e⟩ | ⟨h1, e⟩
  · obtain rfl := gi1 e
    refine hR_st hc (fun call => ?_) g
    have h10' : c % 16 = 10 := Nat.eq_of_beq_eq_true h10
    show (match c % 16 with
      | 0 => ri_cls call a b pc L _ (wmk s) 0 0
      | 1 => ri_cls call a b pc L _ (wmk s) 0 0
      | 7 => _
      | 8 => _
      | 9 => _
      | 10 => ri_acp pc L (.int q :: .int dp :: .ref (k1 + 1) :: .int sp :: .ref (k + 1) :: st) (wmk s) 0 0
      | _ => _) = _
    rw [h10']
    show ri_acp pc L (.int q :: .int dp :: .ref (k1 + 1) :: .int sp :: .ref (k + 1) :: st) (wmk s) 0 0 = _
    simp only [ri_acp, wget_I hk, wget_I hk1, hn, hn1]
    rw [if_pos ⟨h1, Nat.le_of_ble_eq_true hcat⟩]
    rw [← hn1]
    have e2 : (wmk s).set k1 (.inl (.int, (wln k1, .inl (va_cpy (s.1 k) (s.1 k1) sp.toNatClampNeg dp.toNatClampNeg q.toNatClampNeg)))) = wmk (fun j => if j = k1 then va_cpy (s.1 k) (s.1 k1) sp.toNatClampNeg dp.toNatClampNeg q.toNatClampNeg else s.1 j, s.2) := wset (by simp [wcell, hk1]) (fun j hj => by simp [hj]) (fun _ _ => rfl)
    rw [e2]
  · cases e
theorem hR_dvI {x y v : Int32} (hc : μ.cd pc = some (.idiv, len, a, b, c)) (e : wdvI x y = some v) (g : hRun d μ (pc + 1) L (.int v :: st) M r) : hRun d μ pc L (.int y :: .int x :: st) M r := by
  unfold wdvI at e
  rcases gif e with ⟨h1, e⟩ | ⟨h1, e⟩
  · cases e
  · obtain rfl := gi1 e
    refine hR_st hc (fun call => ?_) g
    show (if y = 0 then none else _) = _
    rw [if_neg h1]
theorem hR_dvIc {x y : Int32} (hc : μ.cd pc = some (.idiv, len, a, b, c)) (h1 : ¬ y = 0) (g : hRun d μ (pc + 1) L (.int (x / y) :: st) M r) : hRun d μ pc L (.int y :: .int x :: st) M r := hR_dvI hc (by unfold wdvI; rw [if_neg h1]) g
theorem hR_rmI {x y v : Int32} (hc : μ.cd pc = some (.irem, len, a, b, c)) (e : wrmI x y = some v) (g : hRun d μ (pc + 1) L (.int v :: st) M r) : hRun d μ pc L (.int y :: .int x :: st) M r := by
  unfold wrmI at e
  rcases gif e with ⟨h1, e⟩ | ⟨h1, e⟩
  · cases e
  · obtain rfl := gi1 e
    refine hR_st hc (fun call => ?_) g
    show (if y = 0 then none else _) = _
    rw [if_neg h1]
theorem hR_rmIc {x y : Int32} (hc : μ.cd pc = some (.irem, len, a, b, c)) (h1 : ¬ y = 0) (g : hRun d μ (pc + 1) L (.int (x - x / y * y) :: st) M r) : hRun d μ pc L (.int y :: .int x :: st) M r := hR_rmI hc (by unfold wrmI; rw [if_neg h1]) g
theorem hR_dvL {x y v : Int64} (hc : μ.cd pc = some (.ldiv, len, a, b, c)) (e : wdvL x y = some v) (g : hRun d μ (pc + 1) L (.long v :: st) M r) : hRun d μ pc L (.long y :: .long x :: st) M r := by
  unfold wdvL at e
  rcases gif e with ⟨h1, e⟩ | ⟨h1, e⟩
  · cases e
  · obtain rfl := gi1 e
    refine hR_st hc (fun call => ?_) g
    show (if y = 0 then none else _) = _
    rw [if_neg h1]
theorem hR_dvLc {x y : Int64} (hc : μ.cd pc = some (.ldiv, len, a, b, c)) (h1 : ¬ y = 0) (g : hRun d μ (pc + 1) L (.long (x / y) :: st) M r) : hRun d μ pc L (.long y :: .long x :: st) M r := hR_dvL hc (by unfold wdvL; rw [if_neg h1]) g
theorem hR_rmL {x y v : Int64} (hc : μ.cd pc = some (.lrem, len, a, b, c)) (e : wrmL x y = some v) (g : hRun d μ (pc + 1) L (.long v :: st) M r) : hRun d μ pc L (.long y :: .long x :: st) M r := by
  unfold wrmL at e
  rcases gif e with ⟨h1, e⟩ | ⟨h1, e⟩
  · cases e
  · obtain rfl := gi1 e
    refine hR_st hc (fun call => ?_) g
    show (if y = 0 then none else _) = _
    rw [if_neg h1]
theorem hR_rmLc {x y : Int64} (hc : μ.cd pc = some (.lrem, len, a, b, c)) (h1 : ¬ y = 0) (g : hRun d μ (pc + 1) L (.long (x - x / y * y) :: st) M r) : hRun d μ pc L (.long y :: .long x :: st) M r := hR_rmL hc (by unfold wrmL; rw [if_neg h1]) g
theorem hR_min {i : Nat} {x y : Int32} (hc : μ.cd pc = some (.invokestatic i, len, a, b, c)) (h10 : Nat.beq (c % 16) 7 = true) (hcat : Nat.ble (ri_cat st) 8 = true) (g : hRun d μ (pc + 3) L (.int (wmin x y) :: st) M r) : hRun d μ pc L (.int y :: .int x :: st) M r := by
  refine hR_st hc (fun call => ?_) g
  have h10' : c % 16 = 7 := Nat.eq_of_beq_eq_true h10
  simp only [ri_step, h10', ri_mm, if_pos (Nat.le_of_ble_eq_true hcat)]
  rfl
theorem hR_max {i : Nat} {x y : Int32} (hc : μ.cd pc = some (.invokestatic i, len, a, b, c)) (h10 : Nat.beq (c % 16) 8 = true) (hcat : Nat.ble (ri_cat st) 8 = true) (g : hRun d μ (pc + 3) L (.int (wmax x y) :: st) M r) : hRun d μ pc L (.int y :: .int x :: st) M r := by
  refine hR_st hc (fun call => ?_) g
  have h10' : c % 16 = 8 := Nat.eq_of_beq_eq_true h10
  simp only [ri_step, h10', ri_mm, if_pos (Nat.le_of_ble_eq_true hcat)]
  rfl
theorem hR_abs {i : Nat} {x : Int32} (hc : μ.cd pc = some (.invokestatic i, len, a, b, c)) (h10 : Nat.beq (c % 16) 9 = true) (hcat : Nat.ble (ri_cat st) 8 = true) (g : hRun d μ (pc + 3) L (.int (wabs x) :: st) M r) : hRun d μ pc L (.int x :: st) M r := by
  refine hR_st hc (fun call => ?_) g
  have h10' : c % 16 = 9 := Nat.eq_of_beq_eq_true h10
  simp only [ri_step, h10', ri_ma, if_pos (Nat.le_of_ble_eq_true hcat)]
  rfl
theorem hR_sw_k {lo hi dd : Int} {offs : Array Int} {x kk : Int32} {t : Nat} (hc : μ.cd pc = some (.tableswitch dd lo hi offs, len, a, b, c)) (h : x = kk) (ho : (if kk.toInt < lo ∨ hi < kk.toInt then none else offs[(kk.toInt - lo).toNat]?) = some off) (ht : (pc : Int) + off = Int.ofNat t) (g : hRun d μ t L st M r) : hRun d μ pc L (.int x :: st) M r := by
  subst h
  refine hR_st hc (fun call => ?_) g
  show ri_tsw dd lo hi offs pc L (.int x :: st) M 0 0 = _
  rcases gif ho with ⟨h1, ho⟩ | ⟨h1, ho⟩
  · cases ho
  · simp only [ri_tsw]
    rw [if_neg h1, ho]
    exact ri_jmp_ok ht
theorem hR_sw_d (cs : List Int32) {lo hi dd : Int} {offs : Array Int} {x : Int32} {t : Nat} (hc : μ.cd pc = some (.tableswitch dd lo hi offs, len, a, b, c)) (hx : ∀ n ∈ cs, ¬ x = n) (hall : (List.range offs.size).all (fun i => decide (offs[i]? = some dd) || cs.any (fun n => decide (n.toInt = lo + (i : Int)))) = true) (hsz : (offs.size : Int) = hi - lo + 1) (ht : (pc : Int) + dd = Int.ofNat t) (g : hRun d μ t L st M r) : hRun d μ pc L (.int x :: st) M r := by
  refine hR_st hc (fun call => ?_) g
  show ri_tsw dd lo hi offs pc L (.int x :: st) M 0 0 = _
  simp only [ri_tsw]
  by_cases h1 : x.toInt < lo ∨ hi < x.toInt
  · rw [if_pos h1]
    exact ri_jmp_ok ht
  · rw [if_neg h1]
    have h2 : (x.toInt - lo).toNat < offs.size := by omega
    have h3 := List.all_eq_true.1 hall (x.toInt - lo).toNat (List.mem_range.2 h2)
    rcases gor h3 with h4 | h4
    · rw [of_decide_eq_true h4]
      exact ri_jmp_ok ht
    · exfalso
      obtain ⟨n, hn, he⟩ := List.any_eq_true.1 h4
      have he := of_decide_eq_true he
      exact hx n hn (Int32.toInt_inj.1 (by omega))
theorem hR_ls_k {dd : Int} {ps : Array (Int × Int)} {x kk : Int32} {t : Nat} (hc : μ.cd pc = some (.lookupswitch dd ps, len, a, b, c)) (h : x = kk) (ho : (if (ps.toList.zip (ps.toList.drop 1)).all (fun (a, next) => a.1 < next.1) = true then some (Op.lookupswitch.offset ps.toList dd kk.toInt) else none) = some off) (ht : (pc : Int) + off = Int.ofNat t) (g : hRun d μ t L st M r) : hRun d μ pc L (.int x :: st) M r := by
  subst h
  refine hR_st hc (fun call => ?_) g
  show ri_lsw dd ps pc L (.int x :: st) M 0 0 = _
  rcases gif ho with ⟨h1, ho⟩ | ⟨h1, ho⟩
  · simp only [ri_lsw]
    rw [if_pos h1, gi1 ho]
    exact ri_jmp_ok ht
  · cases ho
theorem hR_ls_d (cs : List Int32) {dd : Int} {ps : Array (Int × Int)} {x : Int32} {t : Nat} (hc : μ.cd pc = some (.lookupswitch dd ps, len, a, b, c)) (hx : ∀ n ∈ cs, ¬ x = n) (hall : ps.toList.all (fun p => cs.any (fun n => decide (n.toInt = p.1))) = true) (hs : (ps.toList.zip (ps.toList.drop 1)).all (fun (a, next) => a.1 < next.1) = true) (ht : (pc : Int) + dd = Int.ofNat t) (g : hRun d μ t L st M r) : hRun d μ pc L (.int x :: st) M r := by
  refine hR_st hc (fun call => ?_) g
  show ri_lsw dd ps pc L (.int x :: st) M 0 0 = _
  simp only [ri_lsw]
  rw [if_pos hs, gls hx _ hall]
  exact ri_jmp_ok ht
theorem hR_ri {x : Int32} (hc : μ.cd pc = some (.ireturn, len, a, b, c)) (hr : μ.rt = some .int) : hRun d μ pc L [.int x] M (some (.int x), M) := hR_rs hc (fun call => by
  show ri_ret (μ.rt) [.int x] M 0 0 = _
  rw [hr]
  rfl) rfl
theorem hR_rz {x v : Int32} (hc : μ.cd pc = some (.ireturn, len, a, b, c)) (hr : μ.rt = some .boolean) (e : wrtZ x = some v) : hRun d μ pc L [.int x] M (some (.int v), M) := hR_rs hc (fun call => by
  show ri_ret (μ.rt) [.int x] M 0 0 = _
  rw [hr]
  unfold wrtZ at e
  rcases gif e with ⟨h1, e⟩ | ⟨h1, e⟩
  · obtain rfl := gi1 e
    have : ri_fit .boolean (.int x) = true := by simpa [ri_fit] using h1
    simp only [ri_ret]
    rw [if_pos this]
  · cases e) rfl
theorem hR_rzc {x : Int32} (hc : μ.cd pc = some (.ireturn, len, a, b, c)) (hr : μ.rt = some .boolean) (e : ri_fit .boolean (.int x) = true) : hRun d μ pc L [.int x] M (some (.int x), M) := hR_rs hc (fun call => by
  show ri_ret (μ.rt) [.int x] M 0 0 = _
  rw [hr]
  simp only [ri_ret]
  rw [if_pos e]) rfl
theorem hR_rl {x : Int64} (hc : μ.cd pc = some (.lreturn, len, a, b, c)) (hr : μ.rt = some .long) : hRun d μ pc L [.long x] M (some (.long x), M) := hR_rs hc (fun call => by
  show ri_lret (μ.rt) [.long x] M 0 0 = _
  rw [hr]
  rfl) rfl
theorem hR_ra {o : Option Nat} {C : String} (hc : μ.cd pc = some (.areturn, len, a, b, c)) (hr : μ.rt = some (.object C)) : hRun d μ pc L [wrv o] M (some (wrv o), M) := hR_rs hc (fun call => by
  show ri_aret (μ.rt) [wrv o] M 0 0 = _
  rw [hr]
  cases o <;> rfl) rfl
theorem hR_rv (hc : μ.cd pc = some (.return_, len, a, b, c)) (hr : μ.rt = none) : hRun d μ pc L [] M (none, M) := hR_rs hc (fun call => by
  show ri_vret (μ.rt) [] M 0 0 = _
  rw [hr]
  rfl) rfl
theorem hR_cvI {i k : Nat} {v : Int32} (he : gEv d1 a (.ref (k + 1) :: as) (wmk s) (some (.int v), M1, 0, 0)) (hd : d1 ≤ d) (hc : μ.cd pc = some (.invokevirtual i, len, a, b, c)) (hs : ri_spl b [] st = some (as, .ref (k + 1) :: rr)) (hk : wkd k = ri_rc a) (hr : Nat.blt (ri_rc a) 12 = true) (hcat : Nat.ble (ri_cat rr) 8 = true) (g : hRun d μ (pc + 3) L (.int v :: rr) M1 r) : hRun d μ pc L st (wmk s) r := by
  refine hR_ca he hd hc (fun call hcall => ?_) g
  show ri_clv call ri_rc a b pc L st (wmk s) 0 0 = _
  have hr' : ri_rc a < 12 := by simpa [Nat.blt_eq] using hr
  simp only [ri_clv, hs, wget_o hk hr']
  rw [if_pos ⟨trivial, Nat.le_of_ble_eq_true hcat⟩, hcall]
  rfl
theorem hR_cnI {i k : Nat} {v : Int32} (he : gEv d1 a (.ref k :: as) M (some (.int v), M1, 0, 0)) (hd : d1 ≤ d) (hc : μ.cd pc = some (.invokespecial i, len, a, b, c)) (hs : ri_spl b [] st = some (as, .ref k :: rr)) (h6 : Nat.beq (c % 16) 6 = false) (hcat : Nat.ble (ri_cat rr) 8 = true) (g : hRun d μ (pc + 3) L (.int v :: rr) M1 r) : hRun d μ pc L st M r := by
  refine hR_ca he hd hc (fun call hcall => ?_) g
  show (if c % 16 = 6 then ri_oin pc L st M 0 0 else ri_cin call a b pc L st M 0 0) = _
  rw [if_neg (fun e => by rw [e] at h6; cases h6)]
  simp only [ri_cin, hs]
  rw [if_pos (Nat.le_of_ble_eq_true hcat), hcall]
  rfl
theorem hR_csI {i : Nat} {v : Int32} (he : gEv d1 a as M (some (.int v), M1, 0, 0)) (hd : d1 ≤ d) (hc : μ.cd pc = some (.invokestatic i, len, a, b, c)) (hs : ri_spl b [] st = some (as, rr)) (h01 : Nat.blt (c % 16) 2 = true) (hcat : Nat.ble (ri_cat rr) 8 = true) (g : hRun d μ (pc + 3) L (.int v :: rr) M1 r) : hRun d μ pc L st M r := by
  refine hR_ca he hd hc (fun call hcall => ?_) g
  have h01' : c % 16 = 0 ∨ c % 16 = 1 := by
    have : c % 16 < 2 := by simpa [Nat.blt_eq] using h01
    omega
  have : ri_cls call a b pc L st M 0 0 = some (.inl (pc + 3, L, .int v :: rr, M1, 0, 0)) := by
    simp only [ri_cls, hs]
    rw [if_pos (Nat.le_of_ble_eq_true hcat), hcall]
    rfl
  rcases h01' with e | e <;> simp only [ri_step, e, this]
theorem hR_cvL {i k : Nat} {v : Int64} (he : gEv d1 a (.ref (k + 1) :: as) (wmk s) (some (.long v), M1, 0, 0)) (hd : d1 ≤ d) (hc : μ.cd pc = some (.invokevirtual i, len, a, b, c)) (hs : ri_spl b [] st = some (as, .ref (k + 1) :: rr)) (hk : wkd k = ri_rc a) (hr : Nat.blt (ri_rc a) 12 = true) (hcat : Nat.ble (ri_cat rr) 8 = true) (g : hRun d μ (pc + 3) L (.long v :: rr) M1 r) : hRun d μ pc L st (wmk s) r := by
  refine hR_ca he hd hc (fun call hcall => ?_) g
  show ri_clv call ri_rc a b pc L st (wmk s) 0 0 = _
  have hr' : ri_rc a < 12 := by simpa [Nat.blt_eq] using hr
  simp only [ri_clv, hs, wget_o hk hr']
  rw [if_pos ⟨trivial, Nat.le_of_ble_eq_true hcat⟩, hcall]
  rfl
theorem hR_cnL {i k : Nat} {v : Int64} (he : gEv d1 a (.ref k :: as) M (some (.long v), M1, 0, 0)) (hd : d1 ≤ d) (hc : μ.cd pc = some (.invokespecial i, len, a, b, c)) (hs : ri_spl b [] st = some (as, .ref k :: rr)) (h6 : Nat.beq (c % 16) 6 = false) (hcat : Nat.ble (ri_cat rr) 8 = true) (g : hRun d μ (pc + 3) L (.long v :: rr) M1 r) : hRun d μ pc L st M r := by
  refine hR_ca he hd hc (fun call hcall => ?_) g
  show (if c % 16 = 6 then ri_oin pc L st M 0 0 else ri_cin call a b pc L st M 0 0) = _
  rw [if_neg (fun e => by rw [e] at h6; cases h6)]
  simp only [ri_cin, hs]
  rw [if_pos (Nat.le_of_ble_eq_true hcat), hcall]
  rfl
theorem hR_csL {i : Nat} {v : Int64} (he : gEv d1 a as M (some (.long v), M1, 0, 0)) (hd : d1 ≤ d) (hc : μ.cd pc = some (.invokestatic i, len, a, b, c)) (hs : ri_spl b [] st = some (as, rr)) (h01 : Nat.blt (c % 16) 2 = true) (hcat : Nat.ble (ri_cat rr) 8 = true) (g : hRun d μ (pc + 3) L (.long v :: rr) M1 r) : hRun d μ pc L st M r := by
  refine hR_ca he hd hc (fun call hcall => ?_) g
  have h01' : c % 16 = 0 ∨ c % 16 = 1 := by
    have : c % 16 < 2 := by simpa [Nat.blt_eq] using h01
    omega
  have : ri_cls call a b pc L st M 0 0 = some (.inl (pc + 3, L, .long v :: rr, M1, 0, 0)) := by
    simp only [ri_cls, hs]
    rw [if_pos (Nat.le_of_ble_eq_true hcat), hcall]
    rfl
  rcases h01' with e | e <;> simp only [ri_step, e, this]
theorem hR_cvR {i k : Nat} {v : Option Nat} (he : gEv d1 a (.ref (k + 1) :: as) (wmk s) (some (wrv v), M1, 0, 0)) (hd : d1 ≤ d) (hc : μ.cd pc = some (.invokevirtual i, len, a, b, c)) (hs : ri_spl b [] st = some (as, .ref (k + 1) :: rr)) (hk : wkd k = ri_rc a) (hr : Nat.blt (ri_rc a) 12 = true) (hcat : Nat.ble (ri_cat rr) 8 = true) (g : hRun d μ (pc + 3) L (wrv v :: rr) M1 r) : hRun d μ pc L st (wmk s) r := by
  refine hR_ca he hd hc (fun call hcall => ?_) g
  show ri_clv call ri_rc a b pc L st (wmk s) 0 0 = _
  have hr' : ri_rc a < 12 := by simpa [Nat.blt_eq] using hr
  simp only [ri_clv, hs, wget_o hk hr']
  rw [if_pos ⟨trivial, Nat.le_of_ble_eq_true hcat⟩, hcall]
  rfl
theorem hR_cnR {i k : Nat} {v : Option Nat} (he : gEv d1 a (.ref k :: as) M (some (wrv v), M1, 0, 0)) (hd : d1 ≤ d) (hc : μ.cd pc = some (.invokespecial i, len, a, b, c)) (hs : ri_spl b [] st = some (as, .ref k :: rr)) (h6 : Nat.beq (c % 16) 6 = false) (hcat : Nat.ble (ri_cat rr) 8 = true) (g : hRun d μ (pc + 3) L (wrv v :: rr) M1 r) : hRun d μ pc L st M r := by
  refine hR_ca he hd hc (fun call hcall => ?_) g
  show (if c % 16 = 6 then ri_oin pc L st M 0 0 else ri_cin call a b pc L st M 0 0) = _
  rw [if_neg (fun e => by rw [e] at h6; cases h6)]
  simp only [ri_cin, hs]
  rw [if_pos (Nat.le_of_ble_eq_true hcat), hcall]
  rfl
theorem hR_csR {i : Nat} {v : Option Nat} (he : gEv d1 a as M (some (wrv v), M1, 0, 0)) (hd : d1 ≤ d) (hc : μ.cd pc = some (.invokestatic i, len, a, b, c)) (hs : ri_spl b [] st = some (as, rr)) (h01 : Nat.blt (c % 16) 2 = true) (hcat : Nat.ble (ri_cat rr) 8 = true) (g : hRun d μ (pc + 3) L (wrv v :: rr) M1 r) : hRun d μ pc L st M r := by
  refine hR_ca he hd hc (fun call hcall => ?_) g
  have h01' : c % 16 = 0 ∨ c % 16 = 1 := by
    have : c % 16 < 2 := by simpa [Nat.blt_eq] using h01
    omega
  have : ri_cls call a b pc L st M 0 0 = some (.inl (pc + 3, L, wrv v :: rr, M1, 0, 0)) := by
    simp only [ri_cls, hs]
    rw [if_pos (Nat.le_of_ble_eq_true hcat), hcall]
    rfl
  rcases h01' with e | e <;> simp only [ri_step, e, this]
theorem hR_cvV {i k : Nat}  (he : gEv d1 a (.ref (k + 1) :: as) (wmk s) (none, M1, 0, 0)) (hd : d1 ≤ d) (hc : μ.cd pc = some (.invokevirtual i, len, a, b, c)) (hs : ri_spl b [] st = some (as, .ref (k + 1) :: rr)) (hk : wkd k = ri_rc a) (hr : Nat.blt (ri_rc a) 12 = true) (hcat : Nat.ble (ri_cat rr) 8 = true) (g : hRun d μ (pc + 3) L (rr) M1 r) : hRun d μ pc L st (wmk s) r := by
  refine hR_ca he hd hc (fun call hcall => ?_) g
  show ri_clv call ri_rc a b pc L st (wmk s) 0 0 = _
  have hr' : ri_rc a < 12 := by simpa [Nat.blt_eq] using hr
  simp only [ri_clv, hs, wget_o hk hr']
  rw [if_pos ⟨trivial, Nat.le_of_ble_eq_true hcat⟩, hcall]
  rfl
theorem hR_cnV {i k : Nat}  (he : gEv d1 a (.ref k :: as) M (none, M1, 0, 0)) (hd : d1 ≤ d) (hc : μ.cd pc = some (.invokespecial i, len, a, b, c)) (hs : ri_spl b [] st = some (as, .ref k :: rr)) (h6 : Nat.beq (c % 16) 6 = false) (hcat : Nat.ble (ri_cat rr) 8 = true) (g : hRun d μ (pc + 3) L (rr) M1 r) : hRun d μ pc L st M r := by
  refine hR_ca he hd hc (fun call hcall => ?_) g
  show (if c % 16 = 6 then ri_oin pc L st M 0 0 else ri_cin call a b pc L st M 0 0) = _
  rw [if_neg (fun e => by rw [e] at h6; cases h6)]
  simp only [ri_cin, hs]
  rw [if_pos (Nat.le_of_ble_eq_true hcat), hcall]
  rfl
theorem hR_csV {i : Nat}  (he : gEv d1 a as M (none, M1, 0, 0)) (hd : d1 ≤ d) (hc : μ.cd pc = some (.invokestatic i, len, a, b, c)) (hs : ri_spl b [] st = some (as, rr)) (h01 : Nat.blt (c % 16) 2 = true) (hcat : Nat.ble (ri_cat rr) 8 = true) (g : hRun d μ (pc + 3) L (rr) M1 r) : hRun d μ pc L st M r := by
  refine hR_ca he hd hc (fun call hcall => ?_) g
  have h01' : c % 16 = 0 ∨ c % 16 = 1 := by
    have : c % 16 < 2 := by simpa [Nat.blt_eq] using h01
    omega
  have : ri_cls call a b pc L st M 0 0 = some (.inl (pc + 3, L, rr, M1, 0, 0)) := by
    simp only [ri_cls, hs]
    rw [if_pos (Nat.le_of_ble_eq_true hcat), hcall]
    rfl
  rcases h01' with e | e <;> simp only [ri_step, e, this]
theorem hR_sub {x y : Int32} (hc : μ.cd pc = some (.isub, len, a, b, c)) (g : hRun d μ (pc + 1) L (.int (x - y) :: st) M r) : hRun d μ pc L (.int y :: .int x :: st) M r := hR_st hc (fun call => rfl) g
end HRR
end
section
/-! Calls of methods that know the texts; some steps at once. -/
section HC
variable {d pc pc1 len a b c d1 : Nat} {μ : hM} {L L1 : ri_L} {st st1 rr as : List Value} {M M1 : ri_M} {s s' : wS} {r : Option Value × ri_M} {v : Option Value}
theorem hR_go (k : Nat) (h : ri_go μ.X (fun _ _ _ => none) μ.cd μ.rt k pc L st M 0 0 = some (pc1, L1, st1, M1, 0, 0)) (g : hRun d μ pc1 L1 st1 M1 r) : hRun d μ pc L st M r := by
  induction k generalizing pc L st M with
  | zero => cases h; exact g
  | succ k ih =>
    unfold ri_go at h
    split at h
    · cases h
    · next j hj =>
      split at h
      · next pc2 L2 st2 M2 c2 s2 hs =>
        obtain ⟨b1, b2⟩ := ri_go_mono _ _ _ _ _ _ _ _ h
        have e1 : c2 = 0 := Nat.le_zero.mp b1
        have e2 : s2 = 0 := Nat.le_zero.mp b2
        subst e1
        subst e2
        obtain ⟨ins, len, a, b, c0⟩ := j
        exact hR_sd (d1 := 0) (call := fun _ _ _ => none) (fun l _ a as M r M1 c1 s1 h => by cases h) (Nat.zero_le _) hj hs (ih h)
      · cases h
theorem hR_hcv {i k : Nat} (he : hEv d1 a (.ref (k + 1) :: as) M (v, M1)) (hd : d1 ≤ d) (hc : μ.cd pc = some (.invokevirtual i, len, a, b, c)) (hs : ri_spl b [] st = some (as, .ref (k + 1) :: rr)) (hM : ∃ fs, M[k]? = some (.inr (ri_rc a, fs))) (hcat : ri_cat rr ≤ 8) (g : hRun d μ (pc + 3) L (v.toList ++ rr) M1 r) : hRun d μ pc L st M r := by
  intro TB hck p l e R s m args below meth c' H locs Q A D dA dT cc sc ls Fx hS hT hR hr hend hAt
  have hck1 := hck _ _ hc
  have hdec := ri_ck_d hck1
  have hm1 : _ = true := (Bool.and_eq_true _ _ ▸ (show (_ && _) = true from hck1)).2
  dsimp only at hm1
  rw [Bool.and_eq_true, decide_eq_true_eq] at hm1
  obtain ⟨hlk, hkd⟩ := hm1
  have Fx0 := Fx
  obtain ⟨hx, hb, hml, hown, hts, hnm, hA⟩ := Fx
  obtain ⟨hn, hnd, hl⟩ := ri_lk_ok hlk
  have hmk := TB.1.1 a hn
  obtain ⟨k1, k2, k3, k4⟩ := ri_mk_ok hmk
  obtain ⟨k5, k6, q, hq, hqc⟩ := ri_mk_2 hmk hkd
  obtain ⟨fs, hM⟩ := hM
  obtain ⟨hl1, hl2⟩ := ri_spl_ok _ _ _ _ _ hs
  have hst : st = as.reverse ++ .ref (k + 1) :: rr := hl2.symm
  have hstk : st.map (ri_cv dA) = (as.map (ri_cv dA)).reverse ++ .ref (dA (k + 1)) :: rr.map (ri_cv dA) := by
    rw [hst, List.map_append, List.map_reverse]
    rfl
  have hrecv := va_recv hAt.1 hAt.2.2.1 hq (ri_ws_at hM)
  rw [hqc] at hrecv
  have hpre : PreV s H (ri_y a).cls (dA (k + 1)) (rs_P D dA dT (.ref (k + 1) :: as) M H.size) (as.map (ri_cv dA)) := ⟨rs_blind, hrecv, rs_pre hts hA hAt hS hT rfl⟩
  have hlen : (as.map (ri_cv dA)).length = b := by simpa using hl1
  have hcat2 : 2 * (F0 m pc ls (st.map (ri_cv dA))).monitorRoom + ((rr.map (ri_cv dA)).map fun v => v.category).sum ≤ 8 := lv_room (by have := hcat; rw [← ri_cat_map (dA := dA)] at this; exact this)
  have hG := ri_goodIn TB.1 hn k2 (ri_hac TB.1)
  have hR1 : d1 + 2 ≤ R.frames ∧ 400 * (d1 + 2) ≤ R.locals := by omega
  have K : ri_Go p l e R s m args below meth c' Q μ.X D A μ.nL dA dT M.length cc (pc + 3, L, v.toList ++ rr, M1, cc + 0, sc + 0) := by
    intro dA1 dT1 H1 locs1 ls1 hag hAt1
    obtain ⟨-, -, -, -, h5⟩ := hag
    obtain ⟨rfl, rfl⟩ := h5 rfl
    exact g TB hck p l e R s m args below meth c' H1 locs1 Q A D dA1 dT1 cc sc ls1 Fx0 hS hT hR hr hend hAt1
  rcases hl with hl | hl
  · exact ri_called (va_runV ⟨hx, hb, hml, hown, hts⟩ (he TB l D dA dT H.size) ⟨callB_of b hts hG rfl rfl rfl (hts _ k3) (hts _ hl) hnd (ri_roomy k4 hR1), hts _ k5, hts _ k6⟩ hpre rfl hlen hAt.2.2.2.2.2.2.1.1 hstk hcat2 hdec hr) hAt hA (Or.inl rfl) rfl K
  · exact ri_called (va_runVN ⟨hx, hb, hml, hown, hts⟩ (he TB l D dA dT H.size) ⟨va_cnB b hts hG rfl rfl rfl (va_Nw.of rfl (hts _ hl)) (hts _ k3) hnd (ri_roomy k4 hR1), hts _ k5, hts _ k6⟩ hpre rfl hlen hAt.2.2.2.2.2.2.1.1 hstk hcat2 hdec hr) hAt hA (Or.inl rfl) rfl K
theorem hR_hcs {i : Nat} (he : hEv d1 a as M (v, M1)) (hd : d1 ≤ d) (hc : μ.cd pc = some (.invokestatic i, len, a, b, c)) (hs : ri_spl b [] st = some (as, rr)) (h01 : Nat.blt (c % 16) 2 = true) (hcat : ri_cat rr ≤ 8) (g : hRun d μ (pc + 3) L (v.toList ++ rr) M1 r) : hRun d μ pc L st M r := by
  intro TB hck p l e R s m args below meth c' H locs Q A D dA dT cc sc ls Fx hS hT hR hr hend hAt
  have hck1 := hck _ _ hc
  have hdec := ri_ck_d hck1
  have hm1 : _ = true := (Bool.and_eq_true _ _ ▸ (show (_ && _) = true from hck1)).2
  have hm2 : (ri_lk μ.own i a b c && decide (ri_kd a = 0)) = true := by
    have h01' : c % 16 = 0 ∨ c % 16 = 1 := by
      have : c % 16 < 2 := by simpa [Nat.blt_eq] using h01
      omega
    dsimp only at hm1
    rcases h01' with e | e <;> rw [e] at hm1 <;> exact hm1
  rw [Bool.and_eq_true, decide_eq_true_eq] at hm2
  obtain ⟨hlk, hkd⟩ := hm2
  have Fx0 := Fx
  obtain ⟨hx, hb, hml, hown, hts, hnm, hA⟩ := Fx
  obtain ⟨hn, hnd, hl⟩ := ri_lk_ok hlk
  have hmk := TB.1.1 a hn
  obtain ⟨k1, k2, k3, k4⟩ := ri_mk_ok hmk
  have k5 := ri_mk_0 hmk hkd
  obtain ⟨hl1, hl2⟩ := ri_spl_ok _ _ _ _ _ hs
  have hst : st = as.reverse ++ rr := hl2.symm
  have hstk : st.map (ri_cv dA) = (as.map (ri_cv dA)).reverse ++ rr.map (ri_cv dA) := by
    rw [hst, List.map_append, List.map_reverse]
  have hpre : PreS s H (rs_P D dA dT as M H.size) (as.map (ri_cv dA)) := ⟨rs_blind, rs_pre hts hA hAt hS hT rfl⟩
  have hlen : (as.map (ri_cv dA)).length = b := by simpa using hl1
  have hcat2 : 2 * (F0 m pc ls (st.map (ri_cv dA))).monitorRoom + ((rr.map (ri_cv dA)).map fun v => v.category).sum ≤ 8 := lv_room (by have := hcat; rw [← ri_cat_map (dA := dA)] at this; exact this)
  have hG := ri_goodIn TB.1 hn k2 (ri_hac TB.1)
  have hR1 : d1 + 2 ≤ R.frames ∧ 400 * (d1 + 2) ≤ R.locals := by omega
  have K : ri_Go p l e R s m args below meth c' Q μ.X D A μ.nL dA dT M.length cc (pc + 3, L, v.toList ++ rr, M1, cc + 0, sc + 0) := by
    intro dA1 dT1 H1 locs1 ls1 hag hAt1
    obtain ⟨-, -, -, -, h5⟩ := hag
    obtain ⟨rfl, rfl⟩ := h5 rfl
    exact g TB hck p l e R s m args below meth c' H1 locs1 Q A D dA1 dT1 cc sc ls1 Fx0 hS hT hR hr hend hAt1
  have hM := he TB l D dA dT H.size
  rcases hl with hl | hl
  · exact ri_called (va_runS ⟨hx, hb, hml, hown, hts⟩ hM ⟨callB_of b hts hG rfl rfl rfl (hts _ k3) (hts _ hl) hnd (ri_roomy k4 hR1), hts _ k5⟩ hpre rfl hlen hAt.2.2.2.2.2.2.1.1 hstk hcat2 hdec hr) hAt hA (Or.inl rfl) rfl K
  · exact ri_called (va_runSN ⟨hx, hb, hml, hown, hts⟩ hM ⟨va_cnB b hts hG rfl rfl rfl (va_Nw.of rfl (hts _ hl)) (hts _ k3) hnd (ri_roomy k4 hR1), hts _ k5, trivial⟩ hpre rfl hlen hAt.2.2.2.2.2.2.1.1 hstk hcat2 hdec hr) hAt hA (Or.inl rfl) rfl K
theorem hR_hcvI {i k : Nat} {x : Int32} (he : hEv d1 a (.ref (k + 1) :: as) (wmk s) (some (.int x), M1)) (hd : d1 ≤ d) (hc : μ.cd pc = some (.invokevirtual i, len, a, b, c)) (hs : ri_spl b [] st = some (as, .ref (k + 1) :: rr)) (hk : wkd k = ri_rc a) (hr : Nat.blt (ri_rc a) 12 = true) (hcat : Nat.ble (ri_cat rr) 8 = true) (g : hRun d μ (pc + 3) L (.int x :: rr) M1 r) : hRun d μ pc L st (wmk s) r := by
  have hr' : ri_rc a < 12 := by simpa [Nat.blt_eq] using hr
  exact hR_hcv he hd hc hs ⟨_, wget_o hk hr'⟩ (Nat.le_of_ble_eq_true hcat) g
theorem hR_hcvV {i k : Nat} (he : hEv d1 a (.ref (k + 1) :: as) (wmk s) (none, M1)) (hd : d1 ≤ d) (hc : μ.cd pc = some (.invokevirtual i, len, a, b, c)) (hs : ri_spl b [] st = some (as, .ref (k + 1) :: rr)) (hk : wkd k = ri_rc a) (hr : Nat.blt (ri_rc a) 12 = true) (hcat : Nat.ble (ri_cat rr) 8 = true) (g : hRun d μ (pc + 3) L rr M1 r) : hRun d μ pc L st (wmk s) r := by
  have hr' : ri_rc a < 12 := by simpa [Nat.blt_eq] using hr
  exact hR_hcv he hd hc hs ⟨_, wget_o hk hr'⟩ (Nat.le_of_ble_eq_true hcat) g
theorem hR_hcsI {i : Nat} {x : Int32} (he : hEv d1 a as M (some (.int x), M1)) (hd : d1 ≤ d) (hc : μ.cd pc = some (.invokestatic i, len, a, b, c)) (hs : ri_spl b [] st = some (as, rr)) (h01 : Nat.blt (c % 16) 2 = true) (hcat : Nat.ble (ri_cat rr) 8 = true) (g : hRun d μ (pc + 3) L (.int x :: rr) M1 r) : hRun d μ pc L st M r := hR_hcs he hd hc hs h01 (Nat.le_of_ble_eq_true hcat) g
theorem hEv_w {t : wS} (ha : a < ri_n) (he : ri_ent as (ri_ml a) = some L) (h : hRun d (hm a) 0 L [] (wmk s) (v, wmk t)) : hEv (d + 1) a as (wmk s) (v, wmk t) := hEv_of ha he (by simp [wmk]) h
end HC
/-- charAt, as a function -/
noncomputable def ri_sln (i : Nat) : Int32 := Int32.ofNat (rs_L.getD i 0)
noncomputable def wsch (i : Nat) (k : Int32) : Option Int32 := if ¬ k < 0 ∧ k < ri_sln i then some (rs_ch i k) else none
theorem wsch_ok {i : Nat} {k t : Int32} (hi : i < 16) (h : wsch i k = some t) : (¬ k < 0 ∧ k < Int32.ofNat (rs_L.getD i 0) ∧ vp_in k (rs_L.getD i 0)) ∧ t = rs_ch i k := by
  unfold wsch at h
  split at h
  · next hc =>
    refine ⟨⟨hc.1, hc.2, ?_⟩, (Option.some.inj h).symm⟩
    have z : ∀ i < 16, (Int32.ofNat (rs_L.getD i 0)).toInt = rs_L.getD i 0 := by decide +kernel
    have h1 := t_lt hc.2
    have h0 := t_ge hc.1
    rw [t_i0] at h0
    unfold ri_sln at h1
    rw [z i hi] at h1
    exact t_ix h0 h1
  · cases h
end
section
/-! The seven methods that know the texts. -/
noncomputable def wX8_spells_h15 (x1 : Int32) (z3 : Nat) (s : wS) : Nat → Int32 → Option ((Unit) ⊕ (Unit))
  | 0, _ => none
  | n + 1, x4 => if x4 < (ri_sln z3) then ((wX8_byteAt (x1 + x4) s).bind fun t3 => (wsch z3 x4).bind fun t5 => if t3 = t5 then (wX8_spells_h15 x1 z3 s n (x4 + 1)) else (some (.inr ()))) else (some (.inl ()))
theorem wX8_spells_t15 {x1 : Int32} {z3 : Nat} {s : wS} {x : (Unit) ⊕ (Unit)} {r : Option Value × ri_M} (hz : z3 < 16) (he49 : ∀ (w1 : Int32) (w2 : Int32) (w3 : Nat) (w4 : Int32) , x = .inl () → hRun 3 (hm 86) 49 [some (.ref 2), some (.int w1), some (.int w2), some (.ref (2000 + w3)), some (.int w4)] [] (wmk s) r) (he41 : ∀ (w1 : Int32) (w2 : Int32) (w3 : Nat) (w4 : Int32) , x = .inr () → hRun 3 (hm 86) 41 [some (.ref 2), some (.int w1), some (.int w2), some (.ref (2000 + w3)), some (.int w4)] [] (wmk s) r) : ∀ {n : Nat} {x4 : Int32} {w2 : Int32} , wX8_spells_h15 x1 z3 s n x4 = some x → hRun 3 (hm 86) 15 [some (.ref 2), some (.int x1), some (.int w2), some (.ref (2000 + z3)), some (.int x4)] [] (wmk s) r := by
  intro n
  induction n with
  | zero => intro x4 w2 h; cases (show (none : Option ((Unit) ⊕ (Unit))) = some x from h)
  | succ n ih =>
    intro x4 w2 h
    rw [wX8_spells_h15] at h
    refine hR_go 2 (pc1 := 18) (L1 := [some (.ref 2), some (.int x1), some (.int w2), some (.ref (2000 + z3)), some (.int x4)]) (st1 := [.ref (2000 + z3), .int x4]) rfl ?_
    refine hR_slen hz rfl (by decide) (by decide +kernel) rfl ?_
    rcases gif h with ⟨c2, h⟩ | ⟨c2, h⟩
    · refine hR_ic_ge_f rfl c2 ?_
      refine hR_go 4 (pc1 := 29) (L1 := [some (.ref 2), some (.int x1), some (.int w2), some (.ref (2000 + z3)), some (.int x4)]) (st1 := [.int (x1 + x4), .ref 2]) rfl ?_
      obtain ⟨t3, e4, h⟩ := gb h
      refine hR_cvI (wX8_byteAt_s e4) (Nat.le_of_ble_eq_true rfl) rfl rfl rfl rfl rfl ?_
      refine hR_go 2 (pc1 := 35) (L1 := [some (.ref 2), some (.int x1), some (.int w2), some (.ref (2000 + z3)), some (.int x4)]) (st1 := [.int x4, .ref (2000 + z3), .int t3]) rfl ?_
      obtain ⟨t5, et5, h⟩ := gb h
      obtain ⟨⟨b1, b2, b3⟩, rfl⟩ := wsch_ok hz et5
      refine hR_schr hz b1 b2 b3 rfl (by decide) (by decide +kernel) rfl ?_
      rcases gif h with ⟨c6, h⟩ | ⟨c6, h⟩
      · refine hR_ic_eq_j rfl c6 rfl ?_
        refine hR_go 2 (pc1 := 15) (L1 := [some (.ref 2), some (.int x1), some (.int w2), some (.ref (2000 + z3)), some (.int (x4 + 1))]) (st1 := []) rfl ?_
        exact ih h
      · refine hR_ic_eq_f rfl c6 ?_
        exact he41 _ _ _ _ (Option.some.inj h).symm
    · refine hR_ic_ge_j rfl c2 rfl ?_
      exact he49 _ _ _ _ (Option.some.inj h).symm
noncomputable def wX8_spells (x1 : Int32) (x2 : Int32) (z3 : Nat) (s : wS) : Option (Int32) := if (x2 - x1) = (ri_sln z3) then ((wX8_spells_h15 x1 z3 s wFuel 0).bind fun z7 => (match z7 with | .inl () => some 1 | .inr () => some 0)) else (some 0)
theorem wX8_spells_s {x1 : Int32} {x2 : Int32} {z3 : Nat} {s : wS} {rv : Int32} (hz : z3 < 16) (h : wX8_spells x1 x2 z3 s = some rv) : hEv 4 86 [.ref 2, .int x1, .int x2, .ref (2000 + z3)] (wmk s) (some (.int rv), wmk s) := by
  refine hEv_w (d := 3) (L := [some (.ref 2), some (.int x1), some (.int x2), some (.ref (2000 + z3)), none]) (by decide) rfl ?_
  unfold wX8_spells at h
  refine hR_go 4 (pc1 := 4) (L1 := [some (.ref 2), some (.int x1), some (.int x2), some (.ref (2000 + z3)), none]) (st1 := [.ref (2000 + z3), .int (x2 - x1)]) rfl ?_
  refine hR_slen hz rfl (by decide) (by decide +kernel) rfl ?_
  rcases gif h with ⟨c1, h⟩ | ⟨c1, h⟩
  · refine hR_ic_eq_j rfl c1 rfl ?_
    refine hR_go 2 (pc1 := 15) (L1 := [some (.ref 2), some (.int x1), some (.int x2), some (.ref (2000 + z3)), some (.int 0)]) (st1 := []) rfl ?_
    obtain ⟨z7, ez7, h⟩ := gb h
    refine wX8_spells_t15 hz ?_ ?_ ez7
    · intro w8 w9 w10 w11 hq
      replace hq := hq.symm
      subst hq
      dsimp only at h
      refine hR_go 1 (pc1 := 50) (L1 := [some (.ref 2), some (.int w8), some (.int w9), some (.ref (2000 + w10)), some (.int w11)]) (st1 := [.int 1]) rfl ?_
      obtain rfl := gi1 h
      exact hR_rzc rfl rfl rfl
    · intro w12 w13 w14 w15 hq
      replace hq := hq.symm
      subst hq
      dsimp only at h
      refine hR_go 1 (pc1 := 42) (L1 := [some (.ref 2), some (.int w12), some (.int w13), some (.ref (2000 + w14)), some (.int w15)]) (st1 := [.int 0]) rfl ?_
      obtain rfl := gi1 h
      exact hR_rzc rfl rfl rfl
  · refine hR_ic_eq_f rfl c1 ?_
    refine hR_go 1 (pc1 := 11) (L1 := [some (.ref 2), some (.int x1), some (.int x2), some (.ref (2000 + z3)), none]) (st1 := [.int 0]) rfl ?_
    obtain rfl := gi1 h
    exact hR_rzc rfl rfl rfl
noncomputable def wX9_valueWordSign (x1 : Int32) (x2 : Int32) (s : wS) : Option (Int32) := (wX8_spells x1 x2 8 s).bind fun t1 => if t1 = 0 then ((wX8_spells x1 x2 9 s).bind fun t4 => if t4 = 0 then ((wX8_spells x1 x2 10 s).bind fun t7 => if t7 = 0 then ((wX8_spells x1 x2 11 s).bind fun t10 => if t10 = 0 then ((wX8_spells x1 x2 12 s).bind fun t13 => if t13 = 0 then ((wX8_spells x1 x2 13 s).bind fun t16 => if t16 = 0 then ((wX8_spells x1 x2 14 s).bind fun t19 => if t19 = 0 then ((wX8_spells x1 x2 15 s).bind fun t22 => if t22 = 0 then (some 1) else (some 30)) else (some 29)) else (some 28)) else (some 27)) else (some 26)) else (some 25)) else (some 24)) else (some 23)
theorem wX9_valueWordSign_s {x1 : Int32} {x2 : Int32} {s : wS} {rv : Int32} (h : wX9_valueWordSign x1 x2 s = some rv) : hEv 5 95 [.ref 2, .int x1, .int x2] (wmk s) (some (.int rv), wmk s) := by
  refine hEv_w (d := 4) (L := [some (.ref 2), some (.int x1), some (.int x2)]) (by decide) rfl ?_
  unfold wX9_valueWordSign at h
  refine hR_go 3 (pc1 := 3) (L1 := [some (.ref 2), some (.int x1), some (.int x2)]) (st1 := [.int x2, .int x1, .ref 2]) rfl ?_
  refine hR_ldcS (i := 8) (by decide) rfl (by decide +kernel) ?_
  obtain ⟨t1, e2, h⟩ := gb h
  refine hR_hcvI (wX8_spells_s (by decide) e2) (Nat.le_of_ble_eq_true rfl) rfl rfl rfl rfl rfl ?_
  rcases gif h with ⟨c3, h⟩ | ⟨c3, h⟩
  · refine hR_iz_eq_j rfl c3 rfl ?_
    refine hR_go 3 (pc1 := 17) (L1 := [some (.ref 2), some (.int x1), some (.int x2)]) (st1 := [.int x2, .int x1, .ref 2]) rfl ?_
    refine hR_ldcS (i := 9) (by decide) rfl (by decide +kernel) ?_
    obtain ⟨t4, e5, h⟩ := gb h
    refine hR_hcvI (wX8_spells_s (by decide) e5) (Nat.le_of_ble_eq_true rfl) rfl rfl rfl rfl rfl ?_
    rcases gif h with ⟨c6, h⟩ | ⟨c6, h⟩
    · refine hR_iz_eq_j rfl c6 rfl ?_
      refine hR_go 3 (pc1 := 31) (L1 := [some (.ref 2), some (.int x1), some (.int x2)]) (st1 := [.int x2, .int x1, .ref 2]) rfl ?_
      refine hR_ldcS (i := 10) (by decide) rfl (by decide +kernel) ?_
      obtain ⟨t7, e8, h⟩ := gb h
      refine hR_hcvI (wX8_spells_s (by decide) e8) (Nat.le_of_ble_eq_true rfl) rfl rfl rfl rfl rfl ?_
      rcases gif h with ⟨c9, h⟩ | ⟨c9, h⟩
      · refine hR_iz_eq_j rfl c9 rfl ?_
        refine hR_go 3 (pc1 := 45) (L1 := [some (.ref 2), some (.int x1), some (.int x2)]) (st1 := [.int x2, .int x1, .ref 2]) rfl ?_
        refine hR_ldcS (i := 11) (by decide) rfl (by decide +kernel) ?_
        obtain ⟨t10, e11, h⟩ := gb h
        refine hR_hcvI (wX8_spells_s (by decide) e11) (Nat.le_of_ble_eq_true rfl) rfl rfl rfl rfl rfl ?_
        rcases gif h with ⟨c12, h⟩ | ⟨c12, h⟩
        · refine hR_iz_eq_j rfl c12 rfl ?_
          refine hR_go 3 (pc1 := 59) (L1 := [some (.ref 2), some (.int x1), some (.int x2)]) (st1 := [.int x2, .int x1, .ref 2]) rfl ?_
          refine hR_ldcS (i := 12) (by decide) rfl (by decide +kernel) ?_
          obtain ⟨t13, e14, h⟩ := gb h
          refine hR_hcvI (wX8_spells_s (by decide) e14) (Nat.le_of_ble_eq_true rfl) rfl rfl rfl rfl rfl ?_
          rcases gif h with ⟨c15, h⟩ | ⟨c15, h⟩
          · refine hR_iz_eq_j rfl c15 rfl ?_
            refine hR_go 3 (pc1 := 73) (L1 := [some (.ref 2), some (.int x1), some (.int x2)]) (st1 := [.int x2, .int x1, .ref 2]) rfl ?_
            refine hR_ldcS (i := 13) (by decide) rfl (by decide +kernel) ?_
            obtain ⟨t16, e17, h⟩ := gb h
            refine hR_hcvI (wX8_spells_s (by decide) e17) (Nat.le_of_ble_eq_true rfl) rfl rfl rfl rfl rfl ?_
            rcases gif h with ⟨c18, h⟩ | ⟨c18, h⟩
            · refine hR_iz_eq_j rfl c18 rfl ?_
              refine hR_go 3 (pc1 := 87) (L1 := [some (.ref 2), some (.int x1), some (.int x2)]) (st1 := [.int x2, .int x1, .ref 2]) rfl ?_
              refine hR_ldcS (i := 14) (by decide) rfl (by decide +kernel) ?_
              obtain ⟨t19, e20, h⟩ := gb h
              refine hR_hcvI (wX8_spells_s (by decide) e20) (Nat.le_of_ble_eq_true rfl) rfl rfl rfl rfl rfl ?_
              rcases gif h with ⟨c21, h⟩ | ⟨c21, h⟩
              · refine hR_iz_eq_j rfl c21 rfl ?_
                refine hR_go 3 (pc1 := 101) (L1 := [some (.ref 2), some (.int x1), some (.int x2)]) (st1 := [.int x2, .int x1, .ref 2]) rfl ?_
                refine hR_ldcS (i := 15) (by decide) rfl (by decide +kernel) ?_
                obtain ⟨t22, e23, h⟩ := gb h
                refine hR_hcvI (wX8_spells_s (by decide) e23) (Nat.le_of_ble_eq_true rfl) rfl rfl rfl rfl rfl ?_
                rcases gif h with ⟨c24, h⟩ | ⟨c24, h⟩
                · refine hR_iz_eq_j rfl c24 rfl ?_
                  refine hR_go 1 (pc1 := 113) (L1 := [some (.ref 2), some (.int x1), some (.int x2)]) (st1 := [.int 1]) rfl ?_
                  obtain rfl := gi1 h
                  exact hR_ri rfl rfl
                · refine hR_iz_eq_f rfl c24 ?_
                  refine hR_go 1 (pc1 := 111) (L1 := [some (.ref 2), some (.int x1), some (.int x2)]) (st1 := [.int 30]) rfl ?_
                  obtain rfl := gi1 h
                  exact hR_ri rfl rfl
              · refine hR_iz_eq_f rfl c21 ?_
                refine hR_go 1 (pc1 := 97) (L1 := [some (.ref 2), some (.int x1), some (.int x2)]) (st1 := [.int 29]) rfl ?_
                obtain rfl := gi1 h
                exact hR_ri rfl rfl
            · refine hR_iz_eq_f rfl c18 ?_
              refine hR_go 1 (pc1 := 83) (L1 := [some (.ref 2), some (.int x1), some (.int x2)]) (st1 := [.int 28]) rfl ?_
              obtain rfl := gi1 h
              exact hR_ri rfl rfl
          · refine hR_iz_eq_f rfl c15 ?_
            refine hR_go 1 (pc1 := 69) (L1 := [some (.ref 2), some (.int x1), some (.int x2)]) (st1 := [.int 27]) rfl ?_
            obtain rfl := gi1 h
            exact hR_ri rfl rfl
        · refine hR_iz_eq_f rfl c12 ?_
          refine hR_go 1 (pc1 := 55) (L1 := [some (.ref 2), some (.int x1), some (.int x2)]) (st1 := [.int 26]) rfl ?_
          obtain rfl := gi1 h
          exact hR_ri rfl rfl
      · refine hR_iz_eq_f rfl c9 ?_
        refine hR_go 1 (pc1 := 41) (L1 := [some (.ref 2), some (.int x1), some (.int x2)]) (st1 := [.int 25]) rfl ?_
        obtain rfl := gi1 h
        exact hR_ri rfl rfl
    · refine hR_iz_eq_f rfl c6 ?_
      refine hR_go 1 (pc1 := 27) (L1 := [some (.ref 2), some (.int x1), some (.int x2)]) (st1 := [.int 24]) rfl ?_
      obtain rfl := gi1 h
      exact hR_ri rfl rfl
  · refine hR_iz_eq_f rfl c3 ?_
    refine hR_go 1 (pc1 := 13) (L1 := [some (.ref 2), some (.int x1), some (.int x2)]) (st1 := [.int 23]) rfl ?_
    obtain rfl := gi1 h
    exact hR_ri rfl rfl
noncomputable def wX9_wordSign (x1 : Int32) (x2 : Int32) (s : wS) : Option (Int32) := (wX8_spells x1 x2 0 s).bind fun t1 => if t1 = 0 then ((wX8_spells x1 x2 1 s).bind fun t4 => if t4 = 0 then ((wX8_spells x1 x2 2 s).bind fun t7 => if t7 = 0 then ((wX8_spells x1 x2 3 s).bind fun t10 => if t10 = 0 then ((wX8_spells x1 x2 4 s).bind fun t13 => if t13 = 0 then ((wX8_spells x1 x2 5 s).bind fun t16 => if t16 = 0 then ((wX8_spells x1 x2 6 s).bind fun t19 => if t19 = 0 then ((wX8_spells x1 x2 7 s).bind fun t22 => if t22 = 0 then ((wX9_valueWordSign x1 x2 s).bind fun t25 => some t25) else (some 22)) else (some 21)) else (some 20)) else (some 19)) else (some 18)) else (some 17)) else (some 16)) else (some 15)
theorem wX9_wordSign_s {x1 : Int32} {x2 : Int32} {s : wS} {rv : Int32} (h : wX9_wordSign x1 x2 s = some rv) : hEv 6 94 [.ref 2, .int x1, .int x2] (wmk s) (some (.int rv), wmk s) := by
  refine hEv_w (d := 5) (L := [some (.ref 2), some (.int x1), some (.int x2)]) (by decide) rfl ?_
  unfold wX9_wordSign at h
  refine hR_go 3 (pc1 := 3) (L1 := [some (.ref 2), some (.int x1), some (.int x2)]) (st1 := [.int x2, .int x1, .ref 2]) rfl ?_
  refine hR_ldcS (i := 0) (by decide) rfl (by decide +kernel) ?_
  obtain ⟨t1, e2, h⟩ := gb h
  refine hR_hcvI (wX8_spells_s (by decide) e2) (Nat.le_of_ble_eq_true rfl) rfl rfl rfl rfl rfl ?_
  rcases gif h with ⟨c3, h⟩ | ⟨c3, h⟩
  · refine hR_iz_eq_j rfl c3 rfl ?_
    refine hR_go 3 (pc1 := 17) (L1 := [some (.ref 2), some (.int x1), some (.int x2)]) (st1 := [.int x2, .int x1, .ref 2]) rfl ?_
    refine hR_ldcS (i := 1) (by decide) rfl (by decide +kernel) ?_
    obtain ⟨t4, e5, h⟩ := gb h
    refine hR_hcvI (wX8_spells_s (by decide) e5) (Nat.le_of_ble_eq_true rfl) rfl rfl rfl rfl rfl ?_
    rcases gif h with ⟨c6, h⟩ | ⟨c6, h⟩
    · refine hR_iz_eq_j rfl c6 rfl ?_
      refine hR_go 3 (pc1 := 31) (L1 := [some (.ref 2), some (.int x1), some (.int x2)]) (st1 := [.int x2, .int x1, .ref 2]) rfl ?_
      refine hR_ldcS (i := 2) (by decide) rfl (by decide +kernel) ?_
      obtain ⟨t7, e8, h⟩ := gb h
      refine hR_hcvI (wX8_spells_s (by decide) e8) (Nat.le_of_ble_eq_true rfl) rfl rfl rfl rfl rfl ?_
      rcases gif h with ⟨c9, h⟩ | ⟨c9, h⟩
      · refine hR_iz_eq_j rfl c9 rfl ?_
        refine hR_go 3 (pc1 := 45) (L1 := [some (.ref 2), some (.int x1), some (.int x2)]) (st1 := [.int x2, .int x1, .ref 2]) rfl ?_
        refine hR_ldcS (i := 3) (by decide) rfl (by decide +kernel) ?_
        obtain ⟨t10, e11, h⟩ := gb h
        refine hR_hcvI (wX8_spells_s (by decide) e11) (Nat.le_of_ble_eq_true rfl) rfl rfl rfl rfl rfl ?_
        rcases gif h with ⟨c12, h⟩ | ⟨c12, h⟩
        · refine hR_iz_eq_j rfl c12 rfl ?_
          refine hR_go 3 (pc1 := 59) (L1 := [some (.ref 2), some (.int x1), some (.int x2)]) (st1 := [.int x2, .int x1, .ref 2]) rfl ?_
          refine hR_ldcS (i := 4) (by decide) rfl (by decide +kernel) ?_
          obtain ⟨t13, e14, h⟩ := gb h
          refine hR_hcvI (wX8_spells_s (by decide) e14) (Nat.le_of_ble_eq_true rfl) rfl rfl rfl rfl rfl ?_
          rcases gif h with ⟨c15, h⟩ | ⟨c15, h⟩
          · refine hR_iz_eq_j rfl c15 rfl ?_
            refine hR_go 3 (pc1 := 73) (L1 := [some (.ref 2), some (.int x1), some (.int x2)]) (st1 := [.int x2, .int x1, .ref 2]) rfl ?_
            refine hR_ldcS (i := 5) (by decide) rfl (by decide +kernel) ?_
            obtain ⟨t16, e17, h⟩ := gb h
            refine hR_hcvI (wX8_spells_s (by decide) e17) (Nat.le_of_ble_eq_true rfl) rfl rfl rfl rfl rfl ?_
            rcases gif h with ⟨c18, h⟩ | ⟨c18, h⟩
            · refine hR_iz_eq_j rfl c18 rfl ?_
              refine hR_go 3 (pc1 := 87) (L1 := [some (.ref 2), some (.int x1), some (.int x2)]) (st1 := [.int x2, .int x1, .ref 2]) rfl ?_
              refine hR_ldcS (i := 6) (by decide) rfl (by decide +kernel) ?_
              obtain ⟨t19, e20, h⟩ := gb h
              refine hR_hcvI (wX8_spells_s (by decide) e20) (Nat.le_of_ble_eq_true rfl) rfl rfl rfl rfl rfl ?_
              rcases gif h with ⟨c21, h⟩ | ⟨c21, h⟩
              · refine hR_iz_eq_j rfl c21 rfl ?_
                refine hR_go 3 (pc1 := 101) (L1 := [some (.ref 2), some (.int x1), some (.int x2)]) (st1 := [.int x2, .int x1, .ref 2]) rfl ?_
                refine hR_ldcS (i := 7) (by decide) rfl (by decide +kernel) ?_
                obtain ⟨t22, e23, h⟩ := gb h
                refine hR_hcvI (wX8_spells_s (by decide) e23) (Nat.le_of_ble_eq_true rfl) rfl rfl rfl rfl rfl ?_
                rcases gif h with ⟨c24, h⟩ | ⟨c24, h⟩
                · refine hR_iz_eq_j rfl c24 rfl ?_
                  refine hR_go 3 (pc1 := 115) (L1 := [some (.ref 2), some (.int x1), some (.int x2)]) (st1 := [.int x2, .int x1, .ref 2]) rfl ?_
                  obtain ⟨t25, e26, h⟩ := gb h
                  refine hR_hcsI (wX9_valueWordSign_s e26) (Nat.le_of_ble_eq_true rfl) rfl rfl rfl rfl ?_
                  obtain rfl := gi1 h
                  exact hR_ri rfl rfl
                · refine hR_iz_eq_f rfl c24 ?_
                  refine hR_go 1 (pc1 := 111) (L1 := [some (.ref 2), some (.int x1), some (.int x2)]) (st1 := [.int 22]) rfl ?_
                  obtain rfl := gi1 h
                  exact hR_ri rfl rfl
              · refine hR_iz_eq_f rfl c21 ?_
                refine hR_go 1 (pc1 := 97) (L1 := [some (.ref 2), some (.int x1), some (.int x2)]) (st1 := [.int 21]) rfl ?_
                obtain rfl := gi1 h
                exact hR_ri rfl rfl
            · refine hR_iz_eq_f rfl c18 ?_
              refine hR_go 1 (pc1 := 83) (L1 := [some (.ref 2), some (.int x1), some (.int x2)]) (st1 := [.int 20]) rfl ?_
              obtain rfl := gi1 h
              exact hR_ri rfl rfl
          · refine hR_iz_eq_f rfl c15 ?_
            refine hR_go 1 (pc1 := 69) (L1 := [some (.ref 2), some (.int x1), some (.int x2)]) (st1 := [.int 19]) rfl ?_
            obtain rfl := gi1 h
            exact hR_ri rfl rfl
        · refine hR_iz_eq_f rfl c12 ?_
          refine hR_go 1 (pc1 := 55) (L1 := [some (.ref 2), some (.int x1), some (.int x2)]) (st1 := [.int 18]) rfl ?_
          obtain rfl := gi1 h
          exact hR_ri rfl rfl
      · refine hR_iz_eq_f rfl c9 ?_
        refine hR_go 1 (pc1 := 41) (L1 := [some (.ref 2), some (.int x1), some (.int x2)]) (st1 := [.int 17]) rfl ?_
        obtain rfl := gi1 h
        exact hR_ri rfl rfl
    · refine hR_iz_eq_f rfl c6 ?_
      refine hR_go 1 (pc1 := 27) (L1 := [some (.ref 2), some (.int x1), some (.int x2)]) (st1 := [.int 16]) rfl ?_
      obtain rfl := gi1 h
      exact hR_ri rfl rfl
  · refine hR_iz_eq_f rfl c3 ?_
    refine hR_go 1 (pc1 := 13) (L1 := [some (.ref 2), some (.int x1), some (.int x2)]) (st1 := [.int 15]) rfl ?_
    obtain rfl := gi1 h
    exact hR_ri rfl rfl
noncomputable def wX9_cutOne_j131 (x2 : Int32) (s : wS) : Option (Int32 × wS) := some ((x2 + 2), s)
theorem wX9_cutOne_u131 {x2 : Int32} {s : wS} {w3 : Int32} {rv : Int32} {rs : wS} (h : wX9_cutOne_j131 x2 s = some (rv, rs)) : hRun 6 (hm 90) 131 [some (.ref 4), some (.ref 2), some (.int x2), some (.int w3)] [] (wmk s) (some (.int rv), wmk rs) := by
  unfold wX9_cutOne_j131 at h
  refine hR_go 4 (pc1 := 140) (L1 := [some (.ref 4), some (.ref 2), some (.int x2), some (.int w3)]) (st1 := [.int (x2 + 2)]) rfl ?_
  obtain ⟨rfl, rfl⟩ := gi2 h
  exact hR_ri rfl rfl
noncomputable def wX9_cutOne_j108 (x2 : Int32) (y0 : Int32) (y1 : Int32) (s : wS) : Option (Int32 × wS) := (wX9_byteSign y0 y1 s).bind fun t15 => (wX9_put t15 x2 0 s).bind fun s18 => if t15 = 11 then (wX9_cutOne_j131 x2 s18) else (if t15 = 13 then (wX9_cutOne_j131 x2 s18) else (some ((x2 + 1), s18)))
theorem wX9_cutOne_u108 {x2 : Int32} {y0 : Int32} {y1 : Int32} {s : wS} {w3 : Option Value} {rv : Int32} {rs : wS} (h : wX9_cutOne_j108 x2 y0 y1 s = some (rv, rs)) : hRun 6 (hm 90) 108 [some (.ref 4), some (.ref 2), some (.int x2), w3] [.int y1, .int y0] (wmk s) (some (.int rv), wmk rs) := by
  unfold wX9_cutOne_j108 at h
  obtain ⟨t15, e16, h⟩ := gb h
  refine hR_csI (wX9_byteSign_s e16) (Nat.le_of_ble_eq_true rfl) rfl rfl rfl rfl ?_
  refine hR_go 5 (pc1 := 116) (L1 := [some (.ref 4), some (.ref 2), some (.int x2), some (.int t15)]) (st1 := [.int 0, .int x2, .int t15, .ref 4]) rfl ?_
  obtain ⟨s18, e19, h⟩ := gb h
  refine hR_cvV (wX9_put_s e19) (Nat.le_of_ble_eq_true rfl) rfl rfl rfl rfl rfl ?_
  refine hR_go 2 (pc1 := 122) (L1 := [some (.ref 4), some (.ref 2), some (.int x2), some (.int t15)]) (st1 := [.int 11, .int t15]) rfl ?_
  rcases gif h with ⟨c20, h⟩ | ⟨c20, h⟩
  · refine hR_ic_eq_j rfl c20 rfl ?_
    exact wX9_cutOne_u131 h
  · refine hR_ic_eq_f rfl c20 ?_
    refine hR_go 2 (pc1 := 128) (L1 := [some (.ref 4), some (.ref 2), some (.int x2), some (.int t15)]) (st1 := [.int 13, .int t15]) rfl ?_
    rcases gif h with ⟨c21, h⟩ | ⟨c21, h⟩
    · refine hR_ic_ne_f rfl c21 ?_
      exact wX9_cutOne_u131 h
    · refine hR_ic_ne_j rfl c21 rfl ?_
      refine hR_go 3 (pc1 := 140) (L1 := [some (.ref 4), some (.ref 2), some (.int x2), some (.int t15)]) (st1 := [.int (x2 + 1)]) rfl ?_
      obtain ⟨rfl, rfl⟩ := gi2 h
      exact hR_ri rfl rfl
noncomputable def wX9_cutOne (x2 : Int32) (s : wS) : Option (Int32 × wS) := (wX8_byteAt x2 s).bind fun t1 => if t1 = 32 then (some ((x2 + 1), s)) else ((wX8_isBetween x2 97 122 s).bind fun t4 => if t4 = 0 then ((wX8_isBetween x2 48 57 s).bind fun t7 => if t7 = 0 then ((wX8_byteAt x2 s).bind fun t10 => (wX8_byteAt (x2 + 1) s).bind fun t12 => if t12 = 61 then (wX9_cutOne_j108 x2 t10 1 s) else (wX9_cutOne_j108 x2 t10 0 s)) else ((wX9_endOf x2 48 57 s).bind fun t22 => (wX9_numberAt x2 t22 s).bind fun t24 => (wX9_put 2 x2 t24 s).bind fun s27 => some (t22, s27))) else ((wX9_endOf x2 97 122 s).bind fun t29 => (wX9_wordSign x2 t29 s).bind fun t31 => (wX9_put t31 x2 0 s).bind fun s34 => some (t29, s34)))
theorem wX9_cutOne_s {x2 : Int32} {s : wS} {rv : Int32} {rs : wS} (h : wX9_cutOne x2 s = some (rv, rs)) : hEv 7 90 [.ref 4, .ref 2, .int x2] (wmk s) (some (.int rv), wmk rs) := by
  refine hEv_w (d := 6) (L := [some (.ref 4), some (.ref 2), some (.int x2), none]) (by decide) rfl ?_
  unfold wX9_cutOne at h
  refine hR_go 2 (pc1 := 2) (L1 := [some (.ref 4), some (.ref 2), some (.int x2), none]) (st1 := [.int x2, .ref 2]) rfl ?_
  obtain ⟨t1, e2, h⟩ := gb h
  refine hR_cvI (wX8_byteAt_s e2) (Nat.le_of_ble_eq_true rfl) rfl rfl rfl rfl rfl ?_
  refine hR_go 1 (pc1 := 7) (L1 := [some (.ref 4), some (.ref 2), some (.int x2), none]) (st1 := [.int 32, .int t1]) rfl ?_
  rcases gif h with ⟨c3, h⟩ | ⟨c3, h⟩
  · refine hR_ic_ne_f rfl c3 ?_
    refine hR_go 3 (pc1 := 13) (L1 := [some (.ref 4), some (.ref 2), some (.int x2), none]) (st1 := [.int (x2 + 1)]) rfl ?_
    obtain ⟨rfl, rfl⟩ := gi2 h
    exact hR_ri rfl rfl
  · refine hR_ic_ne_j rfl c3 rfl ?_
    refine hR_go 4 (pc1 := 20) (L1 := [some (.ref 4), some (.ref 2), some (.int x2), none]) (st1 := [.int 122, .int 97, .int x2, .ref 2]) rfl ?_
    obtain ⟨t4, e5, h⟩ := gb h
    refine hR_cvI (wX8_isBetween_s e5) (Nat.le_of_ble_eq_true rfl) rfl rfl rfl rfl rfl ?_
    rcases gif h with ⟨c6, h⟩ | ⟨c6, h⟩
    · refine hR_iz_eq_j rfl c6 rfl ?_
      refine hR_go 4 (pc1 := 56) (L1 := [some (.ref 4), some (.ref 2), some (.int x2), none]) (st1 := [.int 57, .int 48, .int x2, .ref 2]) rfl ?_
      obtain ⟨t7, e8, h⟩ := gb h
      refine hR_cvI (wX8_isBetween_s e8) (Nat.le_of_ble_eq_true rfl) rfl rfl rfl rfl rfl ?_
      rcases gif h with ⟨c9, h⟩ | ⟨c9, h⟩
      · refine hR_iz_eq_j rfl c9 rfl ?_
        refine hR_go 2 (pc1 := 88) (L1 := [some (.ref 4), some (.ref 2), some (.int x2), none]) (st1 := [.int x2, .ref 2]) rfl ?_
        obtain ⟨t10, e11, h⟩ := gb h
        refine hR_cvI (wX8_byteAt_s e11) (Nat.le_of_ble_eq_true rfl) rfl rfl rfl rfl rfl ?_
        refine hR_go 4 (pc1 := 95) (L1 := [some (.ref 4), some (.ref 2), some (.int x2), none]) (st1 := [.int (x2 + 1), .ref 2, .int t10]) rfl ?_
        obtain ⟨t12, e13, h⟩ := gb h
        refine hR_cvI (wX8_byteAt_s e13) (Nat.le_of_ble_eq_true rfl) rfl rfl rfl rfl rfl ?_
        refine hR_go 1 (pc1 := 100) (L1 := [some (.ref 4), some (.ref 2), some (.int x2), none]) (st1 := [.int 61, .int t12, .int t10]) rfl ?_
        rcases gif h with ⟨c14, h⟩ | ⟨c14, h⟩
        · refine hR_ic_ne_f rfl c14 ?_
          refine hR_go 2 (pc1 := 108) (L1 := [some (.ref 4), some (.ref 2), some (.int x2), none]) (st1 := [.int 1, .int t10]) rfl ?_
          exact wX9_cutOne_u108 h
        · refine hR_ic_ne_j rfl c14 rfl ?_
          refine hR_go 1 (pc1 := 108) (L1 := [some (.ref 4), some (.ref 2), some (.int x2), none]) (st1 := [.int 0, .int t10]) rfl ?_
          exact wX9_cutOne_u108 h
      · refine hR_iz_eq_f rfl c9 ?_
        refine hR_go 4 (pc1 := 68) (L1 := [some (.ref 4), some (.ref 2), some (.int x2), none]) (st1 := [.int 57, .int 48, .int x2, .ref 2]) rfl ?_
        obtain ⟨t22, e23, h⟩ := gb h
        refine hR_csI (wX9_endOf_s e23) (Nat.le_of_ble_eq_true rfl) rfl rfl rfl rfl ?_
        refine hR_go 7 (pc1 := 78) (L1 := [some (.ref 4), some (.ref 2), some (.int x2), some (.int t22)]) (st1 := [.int t22, .int x2, .ref 2, .int x2, .int 2, .ref 4]) rfl ?_
        obtain ⟨t24, e25, h⟩ := gb h
        refine hR_csI (wX9_numberAt_s e25) (Nat.le_of_ble_eq_true rfl) rfl rfl rfl rfl ?_
        obtain ⟨s27, e28, h⟩ := gb h
        refine hR_cvV (wX9_put_s e28) (Nat.le_of_ble_eq_true rfl) rfl rfl rfl rfl rfl ?_
        refine hR_go 1 (pc1 := 85) (L1 := [some (.ref 4), some (.ref 2), some (.int x2), some (.int t22)]) (st1 := [.int t22]) rfl ?_
        obtain ⟨rfl, rfl⟩ := gi2 h
        exact hR_ri rfl rfl
    · refine hR_iz_eq_f rfl c6 ?_
      refine hR_go 4 (pc1 := 32) (L1 := [some (.ref 4), some (.ref 2), some (.int x2), none]) (st1 := [.int 122, .int 97, .int x2, .ref 2]) rfl ?_
      obtain ⟨t29, e30, h⟩ := gb h
      refine hR_csI (wX9_endOf_s e30) (Nat.le_of_ble_eq_true rfl) rfl rfl rfl rfl ?_
      refine hR_go 5 (pc1 := 40) (L1 := [some (.ref 4), some (.ref 2), some (.int x2), some (.int t29)]) (st1 := [.int t29, .int x2, .ref 2, .ref 4]) rfl ?_
      obtain ⟨t31, e32, h⟩ := gb h
      refine hR_hcsI (wX9_wordSign_s e32) (Nat.le_of_ble_eq_true rfl) rfl rfl rfl rfl ?_
      refine hR_go 2 (pc1 := 45) (L1 := [some (.ref 4), some (.ref 2), some (.int x2), some (.int t29)]) (st1 := [.int 0, .int x2, .int t31, .ref 4]) rfl ?_
      obtain ⟨s34, e35, h⟩ := gb h
      refine hR_cvV (wX9_put_s e35) (Nat.le_of_ble_eq_true rfl) rfl rfl rfl rfl rfl ?_
      refine hR_go 1 (pc1 := 49) (L1 := [some (.ref 4), some (.ref 2), some (.int x2), some (.int t29)]) (st1 := [.int t29]) rfl ?_
      obtain ⟨rfl, rfl⟩ := gi2 h
      exact hR_ri rfl rfl
noncomputable def wX9_cut_h19 : Nat → Int32 → Int32 → wS → Option (wS)
  | 0, _, _, _ => none
  | n + 1, x2, x3, s => if x3 < 400 then (if x2 < (s.1 1 1) then ((wX9_cutOne x2 s).bind fun (t6, s7) => wX9_cut_h19 n t6 (x3 + 1) s7) else (some s)) else (some s)
theorem wX9_cut_t19 {x : wS} {r : Option Value × ri_M} (he47 : ∀ (s : wS) (w2 : Int32) (w3 : Int32) , x = s → hRun 7 (hm 88) 47 [some (.ref 4), some (.ref 2), some (.int w2), some (.int w3)] [] (wmk s) r) : ∀ {n : Nat} {x2 : Int32} {x3 : Int32} {s : wS} , wX9_cut_h19 n x2 x3 s = some x → hRun 7 (hm 88) 19 [some (.ref 4), some (.ref 2), some (.int x2), some (.int x3)] [] (wmk s) r := by
  intro n
  induction n with
  | zero => intro x2 x3 s h; cases (show (none : Option (wS)) = some x from h)
  | succ n ih =>
    intro x2 x3 s h
    rw [wX9_cut_h19] at h
    refine hR_go 2 (pc1 := 23) (L1 := [some (.ref 4), some (.ref 2), some (.int x2), some (.int x3)]) (st1 := [.int 400, .int x3]) rfl ?_
    rcases gif h with ⟨c4, h⟩ | ⟨c4, h⟩
    · refine hR_ic_ge_f rfl c4 ?_
      refine hR_go 2 (pc1 := 28) (L1 := [some (.ref 4), some (.ref 2), some (.int x2), some (.int x3)]) (st1 := [.ref 2, .int x2]) rfl ?_
      refine hR_gfI (k := 1) rfl rfl rfl ?_
      rcases gif h with ⟨c5, h⟩ | ⟨c5, h⟩
      · refine hR_ic_ge_f rfl c5 ?_
        refine hR_go 3 (pc1 := 37) (L1 := [some (.ref 4), some (.ref 2), some (.int x2), some (.int x3)]) (st1 := [.int x2, .ref 2, .ref 4]) rfl ?_
        obtain ⟨⟨t6, s7⟩, e8, h⟩ := gb h
        dsimp only at h
        refine hR_hcvI (wX9_cutOne_s e8) (Nat.le_of_ble_eq_true rfl) rfl rfl rfl rfl rfl ?_
        refine hR_go 3 (pc1 := 19) (L1 := [some (.ref 4), some (.ref 2), some (.int t6), some (.int (x3 + 1))]) (st1 := []) rfl ?_
        exact ih h
      · refine hR_ic_ge_j rfl c5 rfl ?_
        exact he47 _ _ _ (Option.some.inj h).symm
    · refine hR_ic_ge_j rfl c4 rfl ?_
      exact he47 _ _ _ (Option.some.inj h).symm
noncomputable def wX9_cut_j47 (s : wS) : Option (wS) := (wX9_put 0 (s.1 1 1) 0 s).bind fun s14 => some s14
theorem wX9_cut_u47 {s : wS} {w2 : Int32} {w3 : Int32} {rs : wS} (h : wX9_cut_j47 s = some rs) : hRun 7 (hm 88) 47 [some (.ref 4), some (.ref 2), some (.int w2), some (.int w3)] [] (wmk s) (none, wmk rs) := by
  unfold wX9_cut_j47 at h
  refine hR_go 3 (pc1 := 50) (L1 := [some (.ref 4), some (.ref 2), some (.int w2), some (.int w3)]) (st1 := [.ref 2, .int 0, .ref 4]) rfl ?_
  refine hR_gfI (k := 1) rfl rfl rfl ?_
  refine hR_go 1 (pc1 := 54) (L1 := [some (.ref 4), some (.ref 2), some (.int w2), some (.int w3)]) (st1 := [.int 0, .int (s.1 1 1), .int 0, .ref 4]) rfl ?_
  obtain ⟨s14, e15, h⟩ := gb h
  refine hR_cvV (wX9_put_s e15) (Nat.le_of_ble_eq_true rfl) rfl rfl rfl rfl rfl ?_
  obtain rfl := gi1 h
  exact hR_rv rfl rfl
noncomputable def wX9_cut (s : wS) : Option (wS) := (wpfI s 3 3 0).bind fun s1 => (wpfI s1 3 4 0).bind fun s2 => (wpfI s2 3 5 0).bind fun s3 => (wX9_cut_h19 wFuel 0 0 s3).bind fun s10 => wX9_cut_j47 s10
theorem wX9_cut_s {s : wS} {rs : wS} (h : wX9_cut s = some rs) : hEv 8 88 [.ref 4, .ref 2] (wmk s) (none, wmk rs) := by
  refine hEv_w (d := 7) (L := [some (.ref 4), some (.ref 2), none, none]) (by decide) rfl ?_
  unfold wX9_cut at h
  refine hR_go 2 (pc1 := 2) (L1 := [some (.ref 4), some (.ref 2), none, none]) (st1 := [.int 0, .ref 4]) rfl ?_
  obtain ⟨s1, es1, h⟩ := gb h
  refine hR_pfI (k := 3) rfl rfl rfl rfl es1 ?_
  refine hR_go 2 (pc1 := 7) (L1 := [some (.ref 4), some (.ref 2), none, none]) (st1 := [.int 0, .ref 4]) rfl ?_
  obtain ⟨s2, es2, h⟩ := gb h
  refine hR_pfI (k := 3) rfl rfl rfl rfl es2 ?_
  refine hR_go 2 (pc1 := 12) (L1 := [some (.ref 4), some (.ref 2), none, none]) (st1 := [.int 0, .ref 4]) rfl ?_
  obtain ⟨s3, es3, h⟩ := gb h
  refine hR_pfI (k := 3) rfl rfl rfl rfl es3 ?_
  refine hR_go 4 (pc1 := 19) (L1 := [some (.ref 4), some (.ref 2), some (.int 0), some (.int 0)]) (st1 := []) rfl ?_
  obtain ⟨z9, ez9, h⟩ := gb h
  refine wX9_cut_t19 ?_  ez9
  · intro s10 w11 w12 hz
    replace hz := hz.symm
    subst hz
    exact wX9_cut_u47 h
noncomputable def wX10_court (s : wS) : Option (Int32 × wS) := (wX9_cut s).bind fun s2 => (wpfI s2 1 1 0).bind fun s4 => (wX1_read 9 s4).bind fun s6 => if (s6.1 3 5) = 0 then ((wX2_open 14 9 s6).bind fun s10 => (wX10_courtIsAnother s10).bind fun s13 => (wX0_worlds 15 s13).bind fun t15 => some (t15, s13)) else (some ((((Int8.ofInt (-2)).toInt32) - (s6.1 3 5)), s6))
theorem wX10_court_s {s : wS} {rv : Int32} {rs : wS} (h : wX10_court s = some (rv, rs)) : hEv 9 105 [.ref 1] (wmk s) (some (.int rv), wmk rs) := by
  refine hEv_w (d := 8) (L := [some (.ref 1)]) (by decide) rfl ?_
  unfold wX10_court at h
  refine hR_go 1 (pc1 := 1) (L1 := [some (.ref 1)]) (st1 := [.ref 1]) rfl ?_
  refine hR_gfR (k := 0) (k' := 3) rfl rfl rfl rfl ?_
  refine hR_go 1 (pc1 := 5) (L1 := [some (.ref 1)]) (st1 := [.ref 1, .ref 4]) rfl ?_
  refine hR_gfR (k := 0) (k' := 1) rfl rfl rfl rfl ?_
  obtain ⟨s2, e3, h⟩ := gb h
  refine hR_hcvV (wX9_cut_s e3) (Nat.le_of_ble_eq_true rfl) rfl rfl rfl rfl rfl ?_
  refine hR_go 1 (pc1 := 12) (L1 := [some (.ref 1)]) (st1 := [.ref 1]) rfl ?_
  refine hR_gfR (k := 0) (k' := 1) rfl rfl rfl rfl ?_
  refine hR_go 1 (pc1 := 16) (L1 := [some (.ref 1)]) (st1 := [.int 0, .ref 2]) rfl ?_
  obtain ⟨s4, es4, h⟩ := gb h
  refine hR_pfI (k := 1) rfl rfl rfl rfl es4 ?_
  refine hR_go 1 (pc1 := 20) (L1 := [some (.ref 1)]) (st1 := [.ref 1]) rfl ?_
  refine hR_gfR (k := 0) (k' := 7) rfl rfl rfl rfl ?_
  refine hR_go 1 (pc1 := 24) (L1 := [some (.ref 1)]) (st1 := [.ref 1, .ref 8]) rfl ?_
  refine hR_gfR (k := 0) (k' := 3) rfl rfl rfl rfl ?_
  refine hR_go 1 (pc1 := 28) (L1 := [some (.ref 1)]) (st1 := [.ref 1, .ref 4, .ref 8]) rfl ?_
  refine hR_gfR (k := 0) (k' := 9) rfl rfl rfl rfl ?_
  obtain ⟨s6, e7, h⟩ := gb h
  refine hR_cvV (wX1_read_s rfl e7) (Nat.le_of_ble_eq_true rfl) rfl rfl rfl rfl rfl ?_
  refine hR_go 1 (pc1 := 35) (L1 := [some (.ref 1)]) (st1 := [.ref 1]) rfl ?_
  refine hR_gfR (k := 0) (k' := 3) rfl rfl rfl rfl ?_
  refine hR_gfI (k := 3) rfl rfl rfl ?_
  rcases gif h with ⟨c8, h⟩ | ⟨c8, h⟩
  · refine hR_iz_eq_j rfl c8 rfl ?_
    refine hR_go 1 (pc1 := 56) (L1 := [some (.ref 1)]) (st1 := [.ref 1]) rfl ?_
    refine hR_gfR (k := 0) (k' := 14) rfl rfl rfl rfl ?_
    refine hR_go 1 (pc1 := 60) (L1 := [some (.ref 1)]) (st1 := [.ref 1, .ref 15]) rfl ?_
    refine hR_gfR (k := 0) (k' := 9) rfl rfl rfl rfl ?_
    obtain ⟨s10, e11, h⟩ := gb h
    refine hR_cvV (wX2_open_s rfl rfl e11) (Nat.le_of_ble_eq_true rfl) rfl rfl rfl rfl rfl ?_
    refine hR_go 1 (pc1 := 67) (L1 := [some (.ref 1)]) (st1 := [.ref 1]) rfl ?_
    obtain ⟨s13, e14, h⟩ := gb h
    refine hR_cvV (wX10_courtIsAnother_s e14) (Nat.le_of_ble_eq_true rfl) rfl rfl rfl rfl rfl ?_
    refine hR_go 1 (pc1 := 71) (L1 := [some (.ref 1)]) (st1 := [.ref 1]) rfl ?_
    refine hR_gfR (k := 0) (k' := 14) rfl rfl rfl rfl ?_
    refine hR_gfR (k := 14) (k' := 15) rfl rfl rfl rfl ?_
    obtain ⟨t15, e16, h⟩ := gb h
    refine hR_cvI (wX0_worlds_s rfl e16) (Nat.le_of_ble_eq_true rfl) rfl rfl rfl rfl rfl ?_
    obtain ⟨rfl, rfl⟩ := gi2 h
    exact hR_ri rfl rfl
  · refine hR_iz_eq_f rfl c8 ?_
    refine hR_go 2 (pc1 := 47) (L1 := [some (.ref 1)]) (st1 := [.ref 1, .int ((Int8.ofInt (-2)).toInt32)]) rfl ?_
    refine hR_gfR (k := 0) (k' := 3) rfl rfl rfl rfl ?_
    refine hR_gfI (k := 3) rfl rfl rfl ?_
    refine hR_sub rfl ?_
    obtain ⟨rfl, rfl⟩ := gi2 h
    exact hR_ri rfl rfl
noncomputable def wX10_law (s : wS) : Option (Int32 × wS) := if (s.1 0 6) < 6 then ((wldR 13 6 (s.1 0 6)).bind fun k2 => (wX9_cut s).bind fun s4 => (wpfI s4 1 1 0).bind fun s6 => (wX4_read k2 s6).bind fun s8 => if (s8.1 3 5) = 0 then ((wpfI s8 0 6 ((s8.1 0 6) + 1)).bind fun s11 => some (((s11.1 0 6) - 1), s11)) else (some ((((Int8.ofInt (-2)).toInt32) - (s8.1 3 5)), s8))) else (some ((-1), s))
theorem wX10_law_s {s : wS} {rv : Int32} {rs : wS} (h : wX10_law s = some (rv, rs)) : hEv 40 106 [.ref 1] (wmk s) (some (.int rv), wmk rs) := by
  refine hEv_w (d := 39) (L := [some (.ref 1), none]) (by decide) rfl ?_
  unfold wX10_law at h
  refine hR_go 1 (pc1 := 1) (L1 := [some (.ref 1), none]) (st1 := [.ref 1]) rfl ?_
  refine hR_gfI (k := 0) rfl rfl rfl ?_
  refine hR_go 1 (pc1 := 6) (L1 := [some (.ref 1), none]) (st1 := [.int 6, .int (s.1 0 6)]) rfl ?_
  rcases gif h with ⟨c1, h⟩ | ⟨c1, h⟩
  · refine hR_ic_lt_j rfl c1 rfl ?_
    refine hR_go 1 (pc1 := 12) (L1 := [some (.ref 1), none]) (st1 := [.ref 1]) rfl ?_
    refine hR_gfR (k := 0) (k' := 13) rfl rfl rfl rfl ?_
    refine hR_go 1 (pc1 := 16) (L1 := [some (.ref 1), none]) (st1 := [.ref 1, .ref 14]) rfl ?_
    refine hR_gfI (k := 0) rfl rfl rfl ?_
    obtain ⟨k2, ek2, h⟩ := gb h
    refine hR_aal (k := 13) rfl rfl rfl ek2 ?_
    refine hR_go 2 (pc1 := 22) (L1 := [some (.ref 1), some (.ref (k2 + 1))]) (st1 := [.ref (k2 + 1)]) rfl ?_
    refine hR_ifnonnull_r_j rfl rfl ?_
    refine hR_go 1 (pc1 := 28) (L1 := [some (.ref 1), some (.ref (k2 + 1))]) (st1 := [.ref 1]) rfl ?_
    refine hR_gfR (k := 0) (k' := 3) rfl rfl rfl rfl ?_
    refine hR_go 1 (pc1 := 32) (L1 := [some (.ref 1), some (.ref (k2 + 1))]) (st1 := [.ref 1, .ref 4]) rfl ?_
    refine hR_gfR (k := 0) (k' := 1) rfl rfl rfl rfl ?_
    obtain ⟨s4, e5, h⟩ := gb h
    refine hR_hcvV (wX9_cut_s e5) (Nat.le_of_ble_eq_true rfl) rfl rfl rfl rfl rfl ?_
    refine hR_go 1 (pc1 := 39) (L1 := [some (.ref 1), some (.ref (k2 + 1))]) (st1 := [.ref 1]) rfl ?_
    refine hR_gfR (k := 0) (k' := 1) rfl rfl rfl rfl ?_
    refine hR_go 1 (pc1 := 43) (L1 := [some (.ref 1), some (.ref (k2 + 1))]) (st1 := [.int 0, .ref 2]) rfl ?_
    obtain ⟨s6, es6, h⟩ := gb h
    refine hR_pfI (k := 1) rfl rfl rfl rfl es6 ?_
    refine hR_go 1 (pc1 := 47) (L1 := [some (.ref 1), some (.ref (k2 + 1))]) (st1 := [.ref 1]) rfl ?_
    refine hR_gfR (k := 0) (k' := 8) rfl rfl rfl rfl ?_
    refine hR_go 1 (pc1 := 51) (L1 := [some (.ref 1), some (.ref (k2 + 1))]) (st1 := [.ref 1, .ref 9]) rfl ?_
    refine hR_gfR (k := 0) (k' := 3) rfl rfl rfl rfl ?_
    refine hR_go 1 (pc1 := 55) (L1 := [some (.ref 1), some (.ref (k2 + 1))]) (st1 := [.ref (k2 + 1), .ref 4, .ref 9]) rfl ?_
    obtain ⟨s8, e9, h⟩ := gb h
    refine hR_cvV (wX4_read_s (wldR_3 ek2) e9) (Nat.le_of_ble_eq_true rfl) rfl rfl rfl rfl rfl ?_
    refine hR_go 1 (pc1 := 59) (L1 := [some (.ref 1), some (.ref (k2 + 1))]) (st1 := [.ref 1]) rfl ?_
    refine hR_gfR (k := 0) (k' := 3) rfl rfl rfl rfl ?_
    refine hR_gfI (k := 3) rfl rfl rfl ?_
    rcases gif h with ⟨c10, h⟩ | ⟨c10, h⟩
    · refine hR_iz_eq_j rfl c10 rfl ?_
      refine hR_go 2 (pc1 := 81) (L1 := [some (.ref 1), some (.ref (k2 + 1))]) (st1 := [.ref 1, .ref 1]) rfl ?_
      refine hR_gfI (k := 0) rfl rfl rfl ?_
      refine hR_go 2 (pc1 := 86) (L1 := [some (.ref 1), some (.ref (k2 + 1))]) (st1 := [.int ((s8.1 0 6) + 1), .ref 1]) rfl ?_
      obtain ⟨s11, es11, h⟩ := gb h
      refine hR_pfI (k := 0) rfl rfl rfl rfl es11 ?_
      refine hR_go 1 (pc1 := 90) (L1 := [some (.ref 1), some (.ref (k2 + 1))]) (st1 := [.ref 1]) rfl ?_
      refine hR_gfI (k := 0) rfl rfl rfl ?_
      refine hR_go 2 (pc1 := 95) (L1 := [some (.ref 1), some (.ref (k2 + 1))]) (st1 := [.int ((s11.1 0 6) - 1)]) rfl ?_
      obtain ⟨rfl, rfl⟩ := gi2 h
      exact hR_ri rfl rfl
    · refine hR_iz_eq_f rfl c10 ?_
      refine hR_go 2 (pc1 := 71) (L1 := [some (.ref 1), some (.ref (k2 + 1))]) (st1 := [.ref 1, .int ((Int8.ofInt (-2)).toInt32)]) rfl ?_
      refine hR_gfR (k := 0) (k' := 3) rfl rfl rfl rfl ?_
      refine hR_gfI (k := 3) rfl rfl rfl ?_
      refine hR_sub rfl ?_
      obtain ⟨rfl, rfl⟩ := gi2 h
      exact hR_ri rfl rfl
  · refine hR_ic_lt_f rfl c1 ?_
    refine hR_go 1 (pc1 := 10) (L1 := [some (.ref 1), none]) (st1 := [.int (-1)]) rfl ?_
    obtain ⟨rfl, rfl⟩ := gi2 h
    exact hR_ri rfl rfl
end
section
/-! The class: a text is cut, a COURT and a LAW are read. -/
theorem wsch_T {i : Nat} {k : Int32} (h0 : 0 ≤ k.toInt) (h1 : k < ri_sln i) : Tot (wsch i k) (fun _ => True) := by
  unfold wsch
  rw [if_pos ⟨fun q => absurd (t_lt q) (by rw [t_i0]; omega), h1⟩]
  exact t_some trivial
theorem wX8_spells_h15_T {x1 : Int32} {z3 : Nat} {s : wS} : ∀ (n : Nat) {x4 : Int32}, 0 ≤ x4.toInt → 2147483648 - x4.toInt < (n : Int) → Tot (wX8_spells_h15 x1 z3 s n x4) (fun _ => True) := by
  intro n
  induction n with
  | zero => intro x4 h0 hm; exact (t_m0 hm).elim
  | succ n ih =>
    intro x4 h0 hm
    rw [wX8_spells_h15]
    refine t_ite (fun c => ?_) (fun c => t_some trivial)
    refine t_bind wX8_byteAt_T (fun t3 _ => t_bind (wsch_T h0 c) (fun t5 _ => t_ite (fun _ => ?_) (fun _ => t_some trivial)))
    exact ih (t_n1 c h0) (t_m1 c hm)
theorem wX8_spells_T {x1 x2 : Int32} {z3 : Nat} {s : wS} : Tot (wX8_spells x1 x2 z3 s) (fun _ => True) := by
  unfold wX8_spells
  refine t_ite (fun _ => ?_) (fun _ => t_some trivial)
  refine t_bind (wX8_spells_h15_T _ (by decide) t_mi) (fun z7 _ => ?_)
  rcases z7 with _ | _
  · exact t_some trivial
  · exact t_some trivial
theorem wX9_valueWordSign_T {x1 x2 : Int32} {s : wS} : Tot (wX9_valueWordSign x1 x2 s) (fun _ => True) := by
  unfold wX9_valueWordSign
  refine t_bind wX8_spells_T (fun _ _ => t_ite (fun _ => ?_) (fun _ => t_some trivial))
  refine t_bind wX8_spells_T (fun _ _ => t_ite (fun _ => ?_) (fun _ => t_some trivial))
  refine t_bind wX8_spells_T (fun _ _ => t_ite (fun _ => ?_) (fun _ => t_some trivial))
  refine t_bind wX8_spells_T (fun _ _ => t_ite (fun _ => ?_) (fun _ => t_some trivial))
  refine t_bind wX8_spells_T (fun _ _ => t_ite (fun _ => ?_) (fun _ => t_some trivial))
  refine t_bind wX8_spells_T (fun _ _ => t_ite (fun _ => ?_) (fun _ => t_some trivial))
  refine t_bind wX8_spells_T (fun _ _ => t_ite (fun _ => ?_) (fun _ => t_some trivial))
  exact t_bind wX8_spells_T (fun _ _ => t_ite (fun _ => t_some trivial) (fun _ => t_some trivial))
theorem wX9_wordSign_T {x1 x2 : Int32} {s : wS} : Tot (wX9_wordSign x1 x2 s) (fun _ => True) := by
  unfold wX9_wordSign
  refine t_bind wX8_spells_T (fun _ _ => t_ite (fun _ => ?_) (fun _ => t_some trivial))
  refine t_bind wX8_spells_T (fun _ _ => t_ite (fun _ => ?_) (fun _ => t_some trivial))
  refine t_bind wX8_spells_T (fun _ _ => t_ite (fun _ => ?_) (fun _ => t_some trivial))
  refine t_bind wX8_spells_T (fun _ _ => t_ite (fun _ => ?_) (fun _ => t_some trivial))
  refine t_bind wX8_spells_T (fun _ _ => t_ite (fun _ => ?_) (fun _ => t_some trivial))
  refine t_bind wX8_spells_T (fun _ _ => t_ite (fun _ => ?_) (fun _ => t_some trivial))
  refine t_bind wX8_spells_T (fun _ _ => t_ite (fun _ => ?_) (fun _ => t_some trivial))
  refine t_bind wX8_spells_T (fun _ _ => t_ite (fun _ => ?_) (fun _ => t_some trivial))
  exact t_bind wX9_valueWordSign_T (fun _ _ => t_some trivial)
theorem wX9_cutOne_T {x2 : Int32} {s : wS} : Tot (wX9_cutOne x2 s) (fun r => wA bR s r.2) := by
  have j108 : ∀ y0 y1, Tot (wX9_cutOne_j108 x2 y0 y1 s) (fun r => wA bR s r.2) := by
    intro y0 y1
    unfold wX9_cutOne_j108 wX9_cutOne_j131
    exact t_bind wX9_byteSign_T (fun t15 _ => t_bind wX9_put_T (fun s18 h => t_ite (fun _ => t_some h) (fun _ => t_ite (fun _ => t_some h) (fun _ => t_some h))))
  unfold wX9_cutOne
  refine t_bind wX8_byteAt_T (fun t1 _ => t_ite (fun _ => t_some wA.refl) (fun _ => ?_))
  refine t_bind wX8_isBetween_T (fun t4 _ => t_ite (fun _ => ?_) (fun _ => ?_))
  · refine t_bind wX8_isBetween_T (fun t7 _ => t_ite (fun _ => ?_) (fun _ => ?_))
    · exact t_bind wX8_byteAt_T (fun t10 _ => t_bind wX8_byteAt_T (fun t12 _ => t_ite (fun _ => j108 _ _) (fun _ => j108 _ _)))
    · exact t_bind wX9_endOf_T (fun t22 _ => t_bind wX9_numberAt_T (fun t24 _ => t_bind wX9_put_T (fun s27 h => t_some h)))
  · exact t_bind wX9_endOf_T (fun t29 _ => t_bind wX9_wordSign_T (fun t31 _ => t_bind wX9_put_T (fun s34 h => t_some h)))
theorem wX9_cut_h19_T : ∀ (n : Nat) {x2 x3 : Int32} {s : wS}, 2147483648 - x3.toInt < (n : Int) → Tot (wX9_cut_h19 n x2 x3 s) (fun r => wA bR s r) := by
  intro n
  induction n with
  | zero => intro x2 x3 s hm; exact (t_m0 hm).elim
  | succ n ih =>
    intro x2 x3 s hm
    rw [wX9_cut_h19]
    refine t_ite (fun c => t_ite (fun _ => ?_) (fun _ => t_some wA.refl)) (fun _ => t_some wA.refl)
    refine t_bind wX9_cutOne_T (fun r h => ?_)
    obtain ⟨t6, s7⟩ := r
    exact t_mono (ih (t_m1 c hm)) (fun r hr => h.trans hr)
theorem wX9_cut_T {s : wS} : Tot (wX9_cut s) (fun r => wA bR s r) := by
  unfold wX9_cut
  refine t_bind (t_pfI (B := bR) rfl) (fun s1 h1 => t_bind (t_pfI (B := bR) rfl) (fun s2 h2 => t_bind (t_pfI (B := bR) rfl) (fun s3 h3 => t_bind (wX9_cut_h19_T _ t_mi) (fun s10 h10 => ?_))))
  unfold wX9_cut_j47
  exact t_bind wX9_put_T (fun s14 h => t_some ((((h1.1.trans h2.1).trans h3.1).trans h10).trans h))
/-- what a court's reading may write -/
noncomputable def bK (k b : Nat) : Bool := bR k b || (Nat.beq k 1 || ((Nat.beq k 14 && Nat.blt b 11) || (Nat.ble 15 k && Nat.ble k 18)))
theorem bR_le_bK : ∀ k b, bR k b = true → bK k b = true := fun k b h => by
  unfold bK
  rw [h]
  rfl
theorem bK_14 {b : Nat} (h : Nat.blt b 11 = true) : bK 14 b = true := by
  unfold bK
  rw [show (Nat.beq 14 14 && Nat.blt b 11) = true by rw [h]; rfl, Bool.true_or, Bool.or_true, Bool.or_true]
theorem wX2_open_T {s : wS} : Tot (wX2_open 14 9 s) (fun r => wA bK s r) := by
  unfold wX2_open
  refine t_bind (wX0_becomes_T (B := bK) (k0 := 15) (k1 := 9) rfl rfl (fun _ => rfl) (fun _ => rfl) (fun _ => rfl)) (fun s2 h2 => ?_)
  refine t_bind (t_pfI (B := bK) rfl) (fun s4 h4 => t_bind (t_pfI (B := bK) rfl) (fun s5 h5 => t_bind (t_pfI (B := bK) rfl) (fun s6 h6 => t_some ?_)))
  exact ((h2.trans h4.1).trans h5.1).trans h6.1
theorem wX10_court_T {s : wS} : Tot (wX10_court s) (fun r => wA bK s r.2) := by
  unfold wX10_court
  refine t_bind wX9_cut_T (fun s2 h2 => t_bind (t_pfI (B := bK) rfl) (fun s4 h4 => t_bind wX1_read_T (fun s6 h6 => ?_)))
  have A := ((h2.mono bR_le_bK).trans h4.1).trans (h6.mono bR_le_bK)
  refine t_ite (fun _ => ?_) (fun _ => t_some A)
  refine t_bind wX2_open_T (fun s10 h10 => t_bind wX10_courtIsAnother_T (fun s13 h13 => t_bind (wX0_worlds_T rfl) (fun t15 _ => t_some ?_)))
  exact (A.trans h10).trans (h13.mono bR_le_bK)
/-- what a LAW's reading may write -/
noncomputable def bKL (k b : Nat) : Bool := bK k b || (Nat.beq k 0 && Nat.beq b 6)
theorem bK_le_bKL : ∀ k b, bK k b = true → bKL k b = true := fun k b h => by
  unfold bKL
  rw [h]
  rfl
theorem bR_le_bKL : ∀ k b, bR k b = true → bKL k b = true := fun k b h => bK_le_bKL k b (bR_le_bK k b h)
theorem wX10_law_T {s : wS} (h0 : 0 ≤ (s.1 0 6).toInt ∧ (s.1 0 6).toInt ≤ 6) : Tot (wX10_law s) (fun r => wA bKL s r.2 ∧ 0 ≤ (r.2.1 0 6).toInt ∧ (r.2.1 0 6).toInt ≤ 6) := by
  unfold wX10_law
  refine t_ite (fun c => ?_) (fun _ => t_some ⟨wA.refl, h0⟩)
  have hc := t_lt c
  rw [show (6 : Int32).toInt = 6 from rfl] at hc
  refine t_bind (t_ldR3 h0.1 hc) (fun k2 hk => t_bind wX9_cut_T (fun s4 h4 => t_bind (t_pfI (B := bKL) rfl) (fun s6 h6 => t_bind (wX4_read_T hk.1) (fun s8 h8 => ?_))))
  have A : wA bKL s s8 := ((h4.mono bR_le_bKL).trans h6.1).trans (h8.mono bR_le_bKL)
  have e4 : s4.1 0 6 = s.1 0 6 := h4 0 6 rfl
  have e8 : s8.1 0 6 = s.1 0 6 := by rw [h8 0 6 rfl, h6.2, wupI_n (by omega), e4]
  refine t_ite (fun _ => ?_) (fun _ => t_some ⟨A, by show 0 ≤ (s8.1 0 6).toInt ∧ (s8.1 0 6).toInt ≤ 6; rw [e8]; exact h0⟩)
  refine t_bind (t_pfI (B := bKL) rfl) (fun s11 h11 => t_some ⟨A.trans h11.1, ?_⟩)
  show 0 ≤ (s11.1 0 6).toInt ∧ (s11.1 0 6).toInt ≤ 6
  rw [h11.2, wup_same, e8, t_p1 h0.1 (by omega)]
  omega
end
section
/-! What holds between the calls of both sides. -/
noncomputable def INV (s : wS) : Prop := (0 ≤ (s.1 0 6).toInt ∧ (s.1 0 6).toInt ≤ 6) ∧ RI s ∧ s.1 14 11 = s.1 163 6 ∧ ∀ k : Nat, k < 4 → ((s.1 27 k = 0 ↔ s.1 171 k = 0) ∧ (¬ s.1 171 k = 0 → s.1 (104 + 12 * k) 11 = s.1 170 (262 * k + 6)))
theorem INV.rq {s : wS} (g : INV s) : RQ s := g.2.1.1
/-- the class wrote, but nothing of x -/
theorem INV_C {B : Nat → Nat → Bool} {s s' : wS} (h : wA B s s') (g : INV s) (h0 : 0 ≤ (s'.1 0 6).toInt ∧ (s'.1 0 6).toInt ≤ 6) (h14 : B 14 11 = false) (h27 : ∀ b, B 27 b = false) (hI : B 104 11 = false ∧ B 116 11 = false ∧ B 128 11 = false ∧ B 140 11 = false) (hr : ∀ b, B 163 b = false ∧ B 157 b = false ∧ B 156 b = false ∧ B 154 b = false ∧ B 170 b = false ∧ B 171 b = false) (h1 : B 152 1 = false) (h2 : B 152 2 = false) : INV s' := by
  obtain ⟨g0, gR, gx, gI⟩ := g
  obtain ⟨r1, x1, x2, x3⟩ := RI_taped h gR (fun b => (hr b).1) (fun b => (hr b).2.1) (fun b => (hr b).2.2.1) (fun b => (hr b).2.2.2.1) h2 (fun b => (hr b).2.2.2.2.1) (fun b => (hr b).2.2.2.2.2) (by rw [h 152 1 h1]; exact gR.2.1)
  refine ⟨h0, r1, ?_, fun k hk => ?_⟩
  · rw [h 14 11 h14, x1, gx]
  · rw [h 27 k (h27 k), x2, x3]
    have e : s'.1 (104 + 12 * k) 11 = s.1 (104 + 12 * k) 11 := by
      refine h _ 11 ?_
      match k, hk with
      | 0, _ => exact hI.1
      | 1, _ => exact hI.2.1
      | 2, _ => exact hI.2.2.1
      | 3, _ => exact hI.2.2.2
    rw [e]
    exact gI k hk
theorem INV_Q {s s' : wS} (h : wA bQ s s') (g : INV s) : INV s' :=
  INV_C h g (by rw [h 0 6 rfl]; exact g.1) rfl (fun _ => rfl) ⟨rfl, rfl, rfl, rfl⟩ (fun _ => ⟨rfl, rfl, rfl, rfl, rfl, rfl⟩) rfl rfl
/-- the reference wrote, but nothing of x -/
theorem INV_R {s s' : wS} (g : INV s) (h : RI s' ∧ wA bX s s' ∧ XR s s') : INV s' := by
  obtain ⟨g0, gR, gx, gI⟩ := g
  obtain ⟨r1, a, x1, x2, x3⟩ := h
  refine ⟨by rw [a 0 6 rfl]; exact g0, r1, by rw [a 14 11 rfl, x1, gx], fun k hk => ?_⟩
  rw [a 27 k rfl, x2, x3, a (104 + 12 * k) 11 (nb_false (by omega))]
  exact gI k hk
theorem INV_P {s s' : wS} (h : wA bP s s') (g : INV s) : INV s' := INV_Q (h.mono bP_le_bQ) g
theorem seed_both {x : Int32} {s s1 s2 : wS} {v v2 : Int32} (g : INV s) (h : wA (fun k b => Nat.beq k 14 && Nat.beq b 11) s s1 ∧ ((x < 0 ∧ (v, s1) = (-1, s)) ∨ (¬ x < 0 ∧ v = s.1 14 11 ∧ s1.1 14 11 = x))) (h2 : RI s1 → RI s2 ∧ wA bX s1 s2 ∧ s2.1 170 = s1.1 170 ∧ s2.1 171 = s1.1 171 ∧ ((x < 0 ∧ (v2, s2) = (-1, s1)) ∨ (¬ x < 0 ∧ v2 = s1.1 163 6 ∧ s2.1 163 6 = x))) : v = v2 ∧ INV s2 := by
  obtain ⟨g0, gR, gx, gI⟩ := g
  obtain ⟨a, h⟩ := h
  obtain ⟨r1, x1, x2, x3⟩ := RI_taped a gR (fun _ => rfl) (fun _ => rfl) (fun _ => rfl) (fun _ => rfl) rfl (fun _ => rfl) (fun _ => rfl) (by rw [a 152 1 rfl]; exact gR.2.1)
  obtain ⟨r2, a2, y2, y3, h2⟩ := h2 r1
  have A0 : s2.1 0 6 = s.1 0 6 := by rw [a2 0 6 rfl, a 0 6 rfl]
  have A27 : ∀ k, s2.1 27 k = s.1 27 k := fun k => by rw [a2 27 k rfl, a 27 k rfl]
  have AI : ∀ k, k < 4 → s2.1 (104 + 12 * k) 11 = s.1 (104 + 12 * k) 11 := fun k hk => by
    rw [a2 (104 + 12 * k) 11 (nb_false (by omega)), a (104 + 12 * k) 11 (by dsimp only; rw [nq_false (show 104 + 12 * k ≠ 14 by omega)]; rfl)]
  have e14 : s2.1 14 11 = s1.1 14 11 := a2 14 11 rfl
  have I2 : ∀ k : Nat, k < 4 → ((s2.1 27 k = 0 ↔ s2.1 171 k = 0) ∧ (¬ s2.1 171 k = 0 → s2.1 (104 + 12 * k) 11 = s2.1 170 (262 * k + 6))) := fun k hk => by
    rw [A27, y3, x3, y2, x2, AI k hk]
    exact gI k hk
  rcases h with ⟨hx, e⟩ | ⟨hx, e, e'⟩
  · obtain ⟨rfl, rfl⟩ := Prod.mk.inj e
    rcases h2 with ⟨_, q⟩ | ⟨hx', _⟩
    · obtain ⟨rfl, rfl⟩ := Prod.mk.inj q
      exact ⟨rfl, g0, gR, gx, gI⟩
    · exact absurd hx hx'
  · rcases h2 with ⟨hx', _⟩ | ⟨_, q, q'⟩
    · exact absurd hx' hx
    · refine ⟨by rw [e, q, x1, gx], by rw [A0]; exact g0, r2, by rw [e14, e', q'], I2⟩
theorem image_both {x : Int32} {s s1 s2 : wS} {v v2 : Int32} (g : INV s) (h : ((v, s1) = (-1, s) ∧ ¬ (0 ≤ x.toInt ∧ x.toInt < 4)) ∨ ((0 ≤ x.toInt ∧ x.toInt < 4) ∧ wA (fun k _ => Nat.beq k 27 || (Nat.ble (104 + 12 * x.toNatClampNeg) k && Nat.ble k (115 + 12 * x.toNatClampNeg))) s s1 ∧ s1.1 (104 + 12 * x.toNatClampNeg) 11 = s.1 14 11 ∧ s1.1 27 = upd (s.1 27) x.toNatClampNeg 1)) (h2 : RI s1 → RI s2 ∧ wA bX s1 s2 ∧ (((v2, s2) = (-1, s1) ∧ ¬ (0 ≤ x.toInt ∧ x.toInt < 4)) ∨ ((0 ≤ x.toInt ∧ x.toInt < 4) ∧ s2.1 163 = s1.1 163 ∧ s2.1 171 = upd (s1.1 171) x.toNatClampNeg 1 ∧ (∀ i, s2.1 170 i = if 262 * x.toNatClampNeg ≤ i ∧ i < 262 * x.toNatClampNeg + 262 then s1.1 163 (i - 262 * x.toNatClampNeg) else s1.1 170 i)))) : INV s2 := by
  rcases h with ⟨e, hx⟩ | ⟨hx, a, e11, e27⟩
  · obtain ⟨rfl, rfl⟩ := Prod.mk.inj e
    obtain ⟨r2, a2, h2⟩ := h2 g.2.1
    rcases h2 with ⟨q, _⟩ | ⟨q, _⟩
    · obtain ⟨rfl, rfl⟩ := Prod.mk.inj q
      exact g
    · exact absurd q hx
  · obtain ⟨g0, gR, gx, gI⟩ := g
    have hxn : x.toNatClampNeg < 4 := by unfold Int32.toNatClampNeg; omega
    have z : ∀ k b, 152 ≤ k → s1.1 k b = s.1 k b := fun k b hk => a k b (by
      dsimp only
      rw [nq_false (show k ≠ 27 by omega), nb_false (show 115 + 12 * x.toNatClampNeg < k by omega), Bool.and_false]
      rfl)
    have z' : ∀ k, 152 ≤ k → s1.1 k = s.1 k := fun k hk => funext fun b => z k b hk
    have r1 : RI s1 := by
      obtain ⟨g1, g2, g3⟩ := gR
      exact ⟨RQ_same ⟨z' 163 (by omega), z' 157 (by omega), z' 156 (by omega), z' 154 (by omega), z 152 2 (by omega)⟩ g1, by rw [z 152 1 (by omega)]; exact g2, IM_eq (z' 170 (by omega)) (z' 171 (by omega)) g3⟩
    obtain ⟨r2, a2, h2⟩ := h2 r1
    rcases h2 with ⟨_, q⟩ | ⟨_, q163, q171, q170⟩
    · exact absurd hx q
    · have c0 : s1.1 0 6 = s.1 0 6 := a 0 6 (by dsimp only; rw [nb_false (show 0 < 104 + 12 * x.toNatClampNeg by omega)]; rfl)
      have c14 : s1.1 14 11 = s.1 14 11 := a 14 11 (by dsimp only; rw [nb_false (show 14 < 104 + 12 * x.toNatClampNeg by omega)]; rfl)
      refine ⟨by rw [a2 0 6 rfl, c0]; exact g0, r2, by rw [a2 14 11 rfl, c14, q163, z 163 6 (by omega), gx], fun k hk => ?_⟩
      have e6 : s2.1 170 (262 * k + 6) = if k = x.toNatClampNeg then s.1 163 6 else s.1 170 (262 * k + 6) := by
        rw [q170]
        by_cases hkx : k = x.toNatClampNeg
        · rw [if_pos hkx, if_pos (by omega), z 163 _ (by omega), hkx, Nat.add_sub_cancel_left]
        · rw [if_neg hkx, if_neg (by omega), z 170 _ (by omega)]
      have e171 : s2.1 171 k = if k = x.toNatClampNeg then 1 else s.1 171 k := by
        rw [q171]
        unfold upd
        by_cases hkx : k = x.toNatClampNeg
        · rw [if_pos hkx, if_pos hkx]
        · rw [if_neg hkx, if_neg hkx, z 171 _ (by omega)]
      have f27 : s2.1 27 k = if k = x.toNatClampNeg then 1 else s.1 27 k := by
        rw [a2 27 k rfl, e27]
        unfold upd
        rfl
      rw [a2 (104 + 12 * k) 11 (nb_false (by omega)), e6, e171, f27]
      by_cases hkx : k = x.toNatClampNeg
      · rw [if_pos hkx, if_pos hkx, if_pos hkx]
        exact ⟨Iff.rfl, fun _ => by rw [hkx, e11, gx]⟩
      · rw [if_neg hkx, if_neg hkx, if_neg hkx, a (104 + 12 * k) 11 ?_]
        · exact gI k hk
        · dsimp only
          rw [nq_false (show 104 + 12 * k ≠ 27 by omega)]
          rcases Nat.lt_or_gt_of_ne hkx with q | q
          · rw [nb_false (show 104 + 12 * k < 104 + 12 * x.toNatClampNeg by omega)]; rfl
          · rw [nb_false (show 115 + 12 * x.toNatClampNeg < 104 + 12 * k by omega), Bool.and_false]; rfl
theorem back_both {x : Int32} {s s1 s2 : wS} {v v2 : Int32} (g : INV s) (h : ((v, s1) = (-1, s) ∧ (¬ (0 ≤ x.toInt ∧ x.toInt < 4) ∨ s.1 27 x.toNatClampNeg = 0)) ∨ ((0 ≤ x.toInt ∧ x.toInt < 4) ∧ ¬ s.1 27 x.toNatClampNeg = 0 ∧ wA (fun k b => (Nat.ble 14 k && Nat.ble k 25) || bR k b) s s1 ∧ s1.1 14 11 = s.1 (104 + 12 * x.toNatClampNeg) 11)) (h2 : RI s1 → RI s2 ∧ wA bX s1 s2 ∧ s2.1 170 = s1.1 170 ∧ s2.1 171 = s1.1 171 ∧ (((v2, s2) = (-1, s1) ∧ (¬ (0 ≤ x.toInt ∧ x.toInt < 4) ∨ s1.1 171 x.toNatClampNeg = 0)) ∨ ((0 ≤ x.toInt ∧ x.toInt < 4) ∧ ¬ s1.1 171 x.toNatClampNeg = 0 ∧ (∀ i, i < 262 → s2.1 163 i = s1.1 170 (262 * x.toNatClampNeg + i))))) : INV s2 := by
  rcases h with ⟨e, hx⟩ | ⟨hx, hm, a, e11⟩
  · obtain ⟨rfl, rfl⟩ := Prod.mk.inj e
    obtain ⟨r2, a2, y2, y3, h2⟩ := h2 g.2.1
    rcases h2 with ⟨q, _⟩ | ⟨q, q', _⟩
    · obtain ⟨rfl, rfl⟩ := Prod.mk.inj q
      exact g
    · exfalso
      rcases hx with hx | hx
      · exact hx q
      · exact q' (((g.2.2.2 _ (by unfold Int32.toNatClampNeg; omega)).1).1 hx)
  · obtain ⟨g0, gR, gx, gI⟩ := g
    have hxn : x.toNatClampNeg < 4 := by unfold Int32.toNatClampNeg; omega
    obtain ⟨r1, x1, x2, x3⟩ := RI_taped a gR (fun _ => rfl) (fun _ => rfl) (fun _ => rfl) (fun _ => rfl) rfl (fun _ => rfl) (fun _ => rfl) (by rw [a 152 1 rfl]; exact gR.2.1)
    obtain ⟨r2, a2, y2, y3, h2⟩ := h2 r1
    have hm' : ¬ s.1 171 x.toNatClampNeg = 0 := fun q => hm ((gI _ hxn).1.2 q)
    rcases h2 with ⟨_, q⟩ | ⟨_, _, q⟩
    · rcases q with q | q
      · exact absurd hx q
      · rw [x3] at q; exact absurd q hm'
    · refine ⟨by rw [a2 0 6 rfl, a 0 6 rfl]; exact g0, r2, ?_, fun k hk => ?_⟩
      · rw [a2 14 11 rfl, e11, q 6 (by omega), x2]
        exact (gI _ hxn).2 hm'
      · have eI : s1.1 (104 + 12 * k) 11 = s.1 (104 + 12 * k) 11 := a _ 11 (by
          match k, hk with
          | 0, _ => rfl
          | 1, _ => rfl
          | 2, _ => rfl
          | 3, _ => rfl)
        rw [a2 27 k rfl, a 27 k rfl, y3, x3, y2, x2, a2 (104 + 12 * k) 11 (nb_false (by omega)), eI]
        exact gI k hk
end
section
/-! The fresh objects: a state of the general world. -/
noncomputable def w0 : wS := (fun k b => bif (Nat.beq k 163 && Nat.beq b 4) || ((Nat.beq k 14 || Nat.beq k 104 || Nat.beq k 116 || Nat.beq k 128 || Nat.beq k 140) && Nat.beq b 7) then -1 else 0, fun _ _ => 0)
theorem w0_eq : ri_eqM ri_M3 (wmk w0) = true := by decide +kernel
theorem w0_INV : INV w0 := by
  have z163 : ∀ b, b ≠ 4 → w0.1 163 b = 0 := fun b hb => by
    show (bif (Nat.beq 163 163 && Nat.beq b 4) || (false && Nat.beq b 7) then (-1 : Int32) else 0) = 0
    rw [nq_false hb]
    rfl
  refine ⟨by decide, ⟨⟨?_, ?_⟩, by decide, fun k _ h => absurd rfl h⟩, rfl, fun k _ => ⟨Iff.rfl, fun h => absurd rfl h⟩⟩
  · unfold qC
    rw [z163 0 (by decide), z163 1 (by decide), z163 2 (by decide), z163 3 (by decide), z163 5 (by decide), z163 6 (by decide)]
    refine ⟨by decide, by decide, by decide, fun h => absurd h (by decide), by decide, by decide, fun a h => ?_, fun a h => ?_, by decide⟩
    · rw [t_i0] at h; omega
    · rw [t_i0] at h; omega
  · refine ⟨by decide, fun l h => ?_⟩
    have e : w0.1 152 2 = 0 := rfl
    rw [e, t_i0] at h
    omega
end
