/-! One step, whole; then runs, then methods. -/
section RI
variable {p : Program} {l : Launch} {e : Env} {R : Room} {s : State} {m : MethodId} {args : Array Value} {below : List Frame} {meth : Method} {c : Code} {H : Heap} {locs : List Loc} {Q : State → Prop} {bs : ByteArray} {nL : Nat} {own nm : String} {A : Nat → Prop} {D : va_G} {X : ri_X} {dA : Nat → Nat} {dT : Nat → ClassId} {pc : Nat} {L : ri_L} {st : List Value} {M : ri_M} {cc sc : Nat} {ls : Array Slot} {fr : ri_F}
set_option maxHeartbeats 4000000 in
theorem ri_mono1 {call : ri_Ca} {rt : Option FieldType} {j : ri_J} (h : ri_step X call ri_rc rt j pc L st M cc sc = some (.inl fr)) : cc ≤ fr.2.2.2.2.1 ∧ sc ≤ fr.2.2.2.2.2 := by
  obtain ⟨ins, len, a, b, c0⟩ := j
  cases ins <;> simp only [ri_step, ri_psh, ri_ild, ri_lld, ri_ald, ri_ist, ri_lst, ri_ast, ri_inc, ri_i2, ri_d2, ri_l2, ri_e2, ri_lsh, ri_lcm, ri_i1, ri_il, ri_li, ri_pop, ri_dup, ri_dup2, ri_dupx1, ri_jmp, ri_nul, ri_tsw, ri_lsw, ri_gf, ri_pf, ri_ial, ri_bal, ri_lal, ri_aal, ri_ias, ri_bas, ri_las, ri_aas, ri_aln, ri_nwa, ri_nwq, ri_nwo, ri_cls, ri_clv, ri_cin, ri_oin, ri_mm, ri_ma, ri_acp, ri_ret, ri_lret, ri_aret, ri_vret, ri_ic, ri_iz] at h <;> (repeat' split at h) <;> first | (cases h; done) | (cases h; exact ⟨Nat.le_refl _, Nat.le_refl _⟩) | (cases h; exact ⟨Nat.le_add_right _ _, Nat.le_add_right _ _⟩)
set_option maxHeartbeats 4000000 in
theorem ri_mono2 {call : ri_Ca} {rt : Option FieldType} {j : ri_J} {r : ri_R} (h : ri_step X call ri_rc rt j pc L st M cc sc = some (.inr r)) : r.2.1 = M ∧ r.2.2.1 = cc ∧ r.2.2.2 = sc := by
  obtain ⟨ins, len, a, b, c0⟩ := j
  cases ins <;> simp only [ri_step, ri_psh, ri_ild, ri_lld, ri_ald, ri_ist, ri_lst, ri_ast, ri_inc, ri_i2, ri_d2, ri_l2, ri_e2, ri_lsh, ri_lcm, ri_i1, ri_il, ri_li, ri_pop, ri_dup, ri_dup2, ri_dupx1, ri_jmp, ri_nul, ri_tsw, ri_lsw, ri_gf, ri_pf, ri_ial, ri_bal, ri_lal, ri_aal, ri_ias, ri_bas, ri_las, ri_aas, ri_aln, ri_nwa, ri_nwq, ri_nwo, ri_cls, ri_clv, ri_cin, ri_oin, ri_mm, ri_ma, ri_acp, ri_ret, ri_lret, ri_aret, ri_vret, ri_ic, ri_iz] at h <;> (repeat' split at h) <;> first | (cases h; done) | (cases h; exact ⟨rfl, rfl, rfl⟩)
set_option maxHeartbeats 4000000 in
set_option maxRecDepth 100000 in
theorem ri_sound {call : ri_Ca} {rt : Option FieldType} {j : ri_J} {F : Nat} (TB : ri_Tab) (Fx : ri_Fx p s m args meth c bs nL own nm A) (hck : ri_ck own nm bs pc j = true) (hR : F + 2 ≤ R.frames ∧ 400 * (F + 2) ≤ R.locals) (hC : ri_Cal l call F) (h : ri_step X call ri_rc rt j pc L st M cc sc = some (.inl fr)) (hAt : ri_At X D A s nL dA dT M L H locs ls) (K : ri_Go p l e R s m args below meth c Q X D A nL dA dT M.length cc fr) (hr1 : fr.2.2.2.2.1 ≤ R.cells) (hr2 : fr.2.2.2.2.2 ≤ R.slots) : W p l e R s m args below meth c H locs cc sc Q (F0 m pc ls (st.map (ri_cv dA))) := by
  have hd := ri_ck_d hck
  have hm : _ = true := (Bool.and_eq_true _ _ ▸ (show (_ && _) = true from hck)).2
  obtain ⟨hc1, hc2⟩ := ri_mono1 h
  obtain ⟨ins, len, a, b, c0⟩ := j
  obtain ⟨hx, hb, hml, hown, hts, hnm, hA⟩ := id Fx
  dsimp only at hd
  cases ins
  case iadd =>
    exact ri_p_i2 (f := fun x y => x + y) h hAt K (fun x y r k => lv_iadd hx hb hd k)
  case isub =>
    exact ri_p_i2 (f := fun x y => x - y) h hAt K (fun x y r k => lv_isub hx hb hd k)
  case imul =>
    exact ri_p_i2 (f := fun x y => x * y) h hAt K (fun x y r k => lv_imul hx hb hd k)
  case iand =>
    exact ri_p_i2 (f := fun x y => x &&& y) h hAt K (fun x y r k => lv_iand hx hb hd k)
  case ior =>
    exact ri_p_i2 (f := fun x y => x ||| y) h hAt K (fun x y r k => lv_ior hx hb hd k)
  case ixor =>
    exact ri_p_i2 (f := fun x y => x ^^^ y) h hAt K (fun x y r k => lv_ixor hx hb hd k)
  case ishl =>
    exact ri_p_i2 (f := fun x y => x <<< (y &&& 31)) h hAt K (fun x y r k => lv_ishl hx hb hd k)
  case ishr =>
    exact ri_p_i2 (f := fun x y => x >>> (y &&& 31)) h hAt K (fun x y r k => lv_ishr hx hb hd k)
  case iushr =>
    exact ri_p_i2 (f := ri_ushr) h hAt K (fun x y r k => lv_iushr hx hb hd rfl k)
  case idiv =>
    exact ri_p_d2 (f := fun x y => x / y) h hAt K (fun x y r hy k => lv_idiv hx hb hd hy k)
  case irem =>
    exact ri_p_d2 (f := fun x y => x - x / y * y) h hAt K (fun x y r hy k => lv_irem hx hb hd hy k)
  case ladd =>
    exact ri_p_l2 (f := fun x y => x + y) h hAt K (fun x y r k => lv_ladd hx hb hd k)
  case lsub =>
    exact ri_p_l2 (f := fun x y => x - y) h hAt K (fun x y r k => lv_lsub hx hb hd k)
  case lmul =>
    exact ri_p_l2 (f := fun x y => x * y) h hAt K (fun x y r k => lv_lmul hx hb hd k)
  case land =>
    exact ri_p_l2 (f := fun x y => x &&& y) h hAt K (fun x y r k => lv_land hx hb hd k)
  case lor =>
    exact ri_p_l2 (f := fun x y => x ||| y) h hAt K (fun x y r k => lv_lor hx hb hd k)
  case ldiv =>
    exact ri_p_e2 (f := fun x y => x / y) h hAt K (fun x y r hy k => lv_ldiv hx hb hd hy k)
  case lrem =>
    exact ri_p_e2 (f := fun x y => x - x / y * y) h hAt K (fun x y r hy k => lv_lrem hx hb hd hy k)
  case lshl =>
    exact ri_p_lsh (f := fun x y => x <<< (y.toInt64 &&& 63)) h hAt K (fun x y r k => lv_lshl hx hb hd rfl k)
  case lcmp =>
    exact ri_p_lcm h hAt K (fun x y r k => W.lcmp hx hb hd k)
  case ineg =>
    exact ri_p_i1 (f := fun x => -x) h hAt K (fun x r k => lv_ineg hx hb hd k)
  case i2b =>
    exact ri_p_i1 (f := fun x => x.toInt8.toInt32) h hAt K (fun x r k => lv_i2b hx hb hd rfl k)
  case i2l =>
    exact ri_p_il h hAt K (fun x r k => lv_i2l hx hb hd rfl k)
  case l2i =>
    exact ri_p_li h hAt K (fun x r k => lv_l2i hx hb hd rfl k)
  case aconst_null =>
    exact ri_p_psh (v := .null) h hAt K (fun r k => lv_null hx hb hd k)
  case iconst n =>
    exact ri_p_psh (v := .int (Int32.ofInt n)) h hAt K (fun r k => lv_iconst hx hb hd rfl k)
  case lconst n =>
    exact ri_p_psh (v := .long (Int64.ofNat n.val)) h hAt K (fun r k => lv_lconst hx hb hd rfl k)
  case bipush n =>
    exact ri_p_psh (v := .int (Int8.ofInt n).toInt32) h hAt K (fun r k => lv_bipush hx hb hd rfl k)
  case sipush n =>
    exact ri_p_psh (v := .int (Int16.ofInt n).toInt32) h hAt K (fun r k => lv_sipush hx hb hd rfl k)
  case ldc i =>
    exact ri_p_psh (v := .int (Int32.ofNat a)) h hAt K (fun r k => lv_ldc hx hb hown (hts _ (ri_w_mem hm)) hd k)
  case ldc_w i =>
    exact ri_p_psh (v := .int (Int32.ofNat a)) h hAt K (fun r k => lv_ldcw hx hb hown (hts _ (ri_w_mem hm)) hd k)
  case ldc2_w i =>
    exact ri_p_psh (v := .long (Int64.ofNat a)) h hAt K (fun r k => lv_ldc2 hx hb hown (hts _ (ri_w_mem hm)) hd k)
  case iload i =>
    exact ri_p_ild h hAt K (fun x r g k => lv_iload hx hb hd g k)
  case iload_n i =>
    exact ri_p_ild h hAt K (fun x r g k => lv_iload_n hx hb hd rfl g k)
  case lload i =>
    exact ri_p_lld h hAt K (fun x r g k => lv_lload hx hb hd g k)
  case lload_n i =>
    exact ri_p_lld h hAt K (fun x r g k => lv_lload_n hx hb hd rfl g k)
  case aload i =>
    exact ri_p_ald h hAt K (fun x r g k => lv_aload hx hb hd g k) (fun r g k => lv_aloadN hx hb hd g k)
  case aload_n i =>
    exact ri_p_ald h hAt K (fun x r g k => lv_aload_n hx hb hd rfl g k) (fun r g k => lv_aload_nN hx hb hd rfl g k)
  case istore i =>
    exact ri_p_ist h hAt K (fun x r g k => lv_istore hx hb hd hAt.2.2.2.2.2.2.1 g rfl k)
  case istore_n i =>
    exact ri_p_ist h hAt K (fun x r g k => lv_istore_n hx hb hd rfl hAt.2.2.2.2.2.2.1 g rfl k)
  case lstore i =>
    exact ri_p_lst h hAt K (fun x r g k => lv_lstore hx hb hd hAt.2.2.2.2.2.2.1 g rfl k)
  case lstore_n i =>
    exact ri_p_lst h hAt K (fun x r g k => lv_lstore_n hx hb hd rfl hAt.2.2.2.2.2.2.1 g rfl k)
  case astore i =>
    exact ri_p_ast h hAt K (fun x r g k => lv_astore hx hb hd hAt.2.2.2.2.2.2.1 g rfl k) (fun r g k => lv_astoreN hx hb hd hAt.2.2.2.2.2.2.1 g rfl k)
  case astore_n i =>
    exact ri_p_ast h hAt K (fun x r g k => lv_astore_n hx hb hd rfl hAt.2.2.2.2.2.2.1 g rfl k) (fun r g k => lv_astore_nN hx hb hd rfl hAt.2.2.2.2.2.2.1 g rfl k)
  case iinc i n =>
    by_cases hl3 : len = 3
    · subst hl3
      exact ri_p_inc (h := h) hAt K (fun x k r g1 g2 kk => lv_iinc hx hb hd hAt.2.2.2.2.2.2.1 g1 rfl g2 rfl kk)
    · have h2 : (if len = 3 then ri_inc i n pc L st M cc sc else none) = some (.inl fr) := h
      rw [if_neg hl3] at h2
      cases h2
  case pop =>
    exact ri_p_pop h hAt K (fun v r g k => lv_pop hx hb hd g k)
  case dup =>
    exact ri_p_dup h hAt K (fun v r g k => lv_dup hx hb hd g k)
  case dup2 =>
    exact ri_p_dup2 h hAt K (fun v r g k => lv_dup2_2 hx hb hd g k) (fun v w r g1 g2 k => lv_dup2_11 hx hb hd g1 g2 k)
  case dup_x1 =>
    exact ri_p_dupx1 h hAt K (fun v w r g1 g2 k => lv_dup_x1 hx hb hd g1 g2 k)
  case goto off =>
    exact ri_p_jmp h hAt K (fun t ht k => lv_goto hx hb hd ht k)
  case if_icmp k off =>
    exact ri_p_ic hx hb h hAt K (of_decide_eq_true hm) hd
  case ifCond k off =>
    exact ri_p_iz hx hb h hAt K (of_decide_eq_true hm) hd
  case ifnull off =>
    exact ri_p_nul h hAt K (fun t r _ ht k => lv_ifnullN hx hb hd ht k) (fun r q k => by cases q) (fun t x r q ht k => by cases q) (fun x r _ k => lv_ifnull hx hb hd k)
  case ifnonnull off =>
    exact ri_p_nul h hAt K (fun t r q ht k => by cases q) (fun r _ k => lv_ifnonnullN hx hb hd k) (fun t x r _ ht k => lv_ifnonnull hx hb hd ht k) (fun x r q k => by cases q)
  case tableswitch d lo hi offs =>
    exact ri_p_tsw h hAt K (fun x t r g ht k => lv_tableOut hx hb hd g ht k) (fun x off t r g1 g2 g3 ht k => lv_tableIn hx hb hd g1 g2 g3 ht k)
  case lookupswitch d ps =>
    exact ri_p_lsw h hAt K (fun x t r g ht k => lv_lookup hx hb hd g rfl ht k)
  case iaload =>
    exact ri_p_ial h hAt K (fun n f i r x1 x2 x3 g k => va_sld hx hb x1 x2 x3 hAt.2.2.2.2.1 g hd k) (fun k n f i r hK g1 g2 kk => va_iald hx hb hK hAt.2.2.1 k 0 g1 rfl g2 hd kk)
  case baload =>
    exact ri_p_bal h hAt K (fun k n f i r hK g1 g2 kk => va_bald hx hb hK hAt.2.2.1 k 0 g1 rfl g2 hd kk) (fun k n f i r hK g1 g2 kk => va_zald hx hb hK hAt.2.2.1 k 0 g1 rfl g2 hd kk)
  case laload =>
    exact ri_p_lal h hAt K (fun k n f i r hK g1 g2 kk => va_lald hx hb hK hAt.2.2.1 k 0 g1 rfl g2 hd kk)
  case aaload =>
    exact ri_p_aal h hAt K (fun k C n f i r hK g1 g2 kk => va_aldq hx hb hK hAt.2.2.1 k 0 g1 rfl g2 hd kk)
  case iastore =>
    exact ri_p_ias h hAt K (fun k n f i x r hK g1 g2 kk => va_iast hx hb hK hAt.2.2.1 hAt.2.2.2.1 hAt.2.2.2.2.1 k 0 g1 rfl g2 hd kk)
  case bastore =>
    exact ri_p_bas h hAt K (fun k n f i x r hK g1 g2 kk => va_bast hx hb hK hAt.2.2.1 hAt.2.2.2.1 hAt.2.2.2.2.1 k 0 g1 rfl g2 hd kk) (fun k n f i x r hK g1 g2 kk => va_zast hx hb hK hAt.2.2.1 hAt.2.2.2.1 hAt.2.2.2.2.1 k 0 g1 rfl g2 hd kk)
  case lastore =>
    exact ri_p_las h hAt K (fun k n f i x r hK g1 g2 kk => va_last hx hb hK hAt.2.2.1 hAt.2.2.2.1 hAt.2.2.2.2.1 k 0 g1 rfl g2 hd kk)
  case aastore =>
    exact ri_p_aas h hAt K (fun k v ci q n vs f i r hK g1 g2 g3 g4 kk => va_astq hx hb hK hAt.2.2.1 hAt.2.2.2.1 hAt.2.2.2.2.1 k 0 v ci g1 rfl g2 g3 g4 hd kk)
  case arraylength =>
    exact ri_p_aln h hAt K (fun n f r x1 x2 x3 k => va_slen hx hb x1 x2 x3 hAt.2.2.2.2.1 hd k) (fun k ty x r hK g1 kk => va_alen hx hb hK hAt.2.2.1 k 0 g1 rfl rfl hd kk)
  case newarray t =>
    exact ri_p_nwa h hAt K (fun n g r hg c1 c2 e1 e2 k => va_newa hx hb (hts _ (ri_w_mem hm (by cases t <;> first | rfl | cases hg))) rfl hAt.1 hAt.2.2.1 hAt.2.2.2.1 hAt.2.2.2.2.1 hA (a0 := g n.toNatClampNeg) (by cases t <;> first | (cases hg; intro; rfl) | cases hg) c1 rfl c2 (by rw [← e1]; exact hr1) (by rw [← e2]; exact hr2) hd k)
  case anewarray i =>
    have hm2 := hm
    dsimp only at hm2
    split at hm2
    · next q hq =>
      rw [Bool.and_eq_true] at hm2
      exact ri_p_nwq h hAt K (fun n q0 r hg c1 c2 e1 e2 k => by
        have e0 : q0 = q := Option.some.inj (hg.symm.trans hq)
        subst e0
        exact va_newq hx hb hown (hts _ (ri_w_mem hm2.1)) (va_AO.of (hts _ (ri_w_mem hm2.2))) hAt.1 hAt.2.2.1 hAt.2.2.2.1 hAt.2.2.2.2.1 hA c1 rfl c2 (by rw [← e1]; exact hr1) (by rw [← e2]; exact hr2) hd k)
    · cases hm2
  case new i =>
    have hm2 := hm
    dsimp only at hm2
    split at hm2
    · next q hq =>
      obtain ⟨t1, t2, t3, t4, t5, t6, t7⟩ := TB.2.2.2.1 a q hq
      exact ri_p_nwo h hAt K t7 (fun r e1 e2 k => va_new (ci := a) (fs := ri_new a) (C := q.1) (T := q.2.1) (N := q.2.2) hx hb hts t1 (ri_ft a) t4 hown (hts _ (ri_w_mem hm2)) (hts _ t2) (hts _ t3) hAt.1 hAt.2.2.1 hAt.2.2.2.1 hAt.2.2.2.2.1 hA hq (fun j hj => by
        have hj2 : j < ri_fn a := by rw [t6]; exact hj
        simp [ri_new, vp_V, List.getD_eq_getElem?_getD, hj2]) (by rw [← e1]; exact hr1) (by rw [← t6, ← e2]; exact hr2) hd (fun qq H1 hP hD hS => by
        have z := k qq H1 hP hD hS
        rw [t6] at z
        exact z))
    · cases hm2
  case getfield i =>
    have hm2 := hm
    dsimp only at hm2
    split at hm2
    · next q hq =>
      obtain ⟨t1, t2, t3, t4, t5, t6, t7⟩ := TB.2.2.2.1 a q hq
      rw [Bool.and_eq_true] at hm2
      have hb2 : b < q.2.2 := Nat.le_of_ble_eq_true hm2.1
      have hl := hm2.2
      unfold ri_fk at hl
      split at hl
      · exact ri_p_gf h hAt K (fun k fs v r g1 g2 kk => va_get (ci := a) (C := q.1) (T := q.2.1) (N := q.2.2) hx hb hts t1 hown hAt.1 hAt.2.2.1 k g1 hq b hb2 (hts _ (ri_w_mem hl)) (fun _ h9 => h9) g2 hd kk)
      · exact ri_p_gf h hAt K (fun k fs v r g1 g2 kk => va_getN (ci := a) (C := q.1) (T := q.2.1) (N := q.2.2) hx hb hts t1 hown hAt.1 hAt.2.2.1 k g1 hq b hb2 (hts _ (ri_w_mem hl)) (fun _ h9 => h9) g2 hd kk)
    · cases hm2
  case putfield i =>
    have hm2 := hm
    dsimp only at hm2
    split at hm2
    · next q hq =>
      obtain ⟨t1, t2, t3, t4, t5, t6, t7⟩ := TB.2.2.2.1 a q hq
      rw [Bool.and_eq_true, Bool.and_eq_true] at hm2
      have hb2 : b < q.2.2 := Nat.le_of_ble_eq_true hm2.1
      have hl := hm2.2.1
      have hf := hm2.2.2
      by_cases hfin : (q.2.1 b).2.2.2 = true
      · rw [if_pos hfin, Bool.and_eq_true, Bool.and_eq_true, decide_eq_true_eq, decide_eq_true_eq, decide_eq_true_eq] at hf
        unfold ri_fk at hl
        rw [if_pos hf.2.1] at hl
        exact ri_p_pf h hAt K (fun k fs v r g1 g2 g3 g4 kk => va_putF (ci := a) (C := q.1) (T := q.2.1) (N := q.2.2) hx hb hts t1 (ri_ft a) t4 t5 hown hAt.1 hAt.2.2.1 hAt.2.2.2.1 hAt.2.2.2.2.1 k g1 hq b hb2 (hts _ (ri_w_mem hl)) (fun _ h9 => h9) hfin (hnm.trans hf.1) hf.2.2 (t4 b hb2) g3 g4 g2 hd kk)
      · have hfin2 : (q.2.1 b).2.2.2 = false := by simpa using hfin
        unfold ri_fk at hl
        split at hl
        · exact ri_p_pf h hAt K (fun k fs v r g1 g2 g3 g4 kk => va_put (ci := a) (C := q.1) (T := q.2.1) (N := q.2.2) hx hb hts t1 (ri_ft a) t4 t5 hown hAt.1 hAt.2.2.1 hAt.2.2.2.1 hAt.2.2.2.2.1 k g1 hq b hb2 (hts _ (ri_w_mem hl)) (fun _ h9 => h9) hfin2 (t4 b hb2) g3 g4 g2 hd kk)
        · exact ri_p_pf h hAt K (fun k fs v r g1 g2 g3 g4 kk => va_putN (ci := a) (C := q.1) (T := q.2.1) (N := q.2.2) hx hb hts t1 (ri_ft a) t4 t5 hown hAt.1 hAt.2.2.1 hAt.2.2.2.1 hAt.2.2.2.2.1 k g1 hq b hb2 (hts _ (ri_w_mem hl)) (fun _ h9 => h9) hfin2 (t4 b hb2) g3 g4 g2 hd kk)
    · cases hm2
  case invokevirtual i =>
    rw [Bool.and_eq_true, decide_eq_true_eq] at hm
    exact ri_p_clv TB Fx hm.1 hm.2 hd hR hC h hAt K hr1 hr2
  case invokespecial i =>
    by_cases h6 : c0 % 16 = 6
    · have hm2 := hm
      dsimp only at hm2
      rw [if_pos h6] at hm2
      have h2 : (if c0 % 16 = 6 then ri_oin pc L st M cc sc else ri_cin call a b pc L st M cc sc) = some (.inl fr) := h
      rw [if_pos h6] at h2
      exact ri_p_oin h2 hAt K (fun x r g k => W.objInit (g := F0 m pc ls (.ref x :: r)) (rest := r) hx hb hown (hts _ (ri_w_mem hm2)) (hts _ TB.2.2.2.2.1.1) (hts _ TB.2.2.2.2.1.2) rfl (hAt.2.2.2.2.2.2.1.1.trans hml.symm) rfl hd (by omega) (by have g2 := g; unfold ri_cat at g2; have g3 := lv_room (pc := pc) (ls := ls) (rest := .ref x :: r) (m := m) g2; omega) (W.eq rfl k))
    · have hm2 := hm
      dsimp only at hm2
      rw [if_neg h6, Bool.and_eq_true, decide_eq_true_eq] at hm2
      have h2 : (if c0 % 16 = 6 then ri_oin pc L st M cc sc else ri_cin call a b pc L st M cc sc) = some (.inl fr) := h
      rw [if_neg h6] at h2
      exact ri_p_cin TB Fx hm2.1 hm2.2 hd hR hC h2 hAt K hr1 hr2
  case invokestatic i =>
    have h2 : (match c0 % 16 with
      | 0 => ri_cls call a b pc L st M cc sc
      | 1 => ri_cls call a b pc L st M cc sc
      | 7 => ri_mm (fun x y => if y < x then y else x) pc L st M cc sc
      | 8 => ri_mm (fun x y => if x < y then y else x) pc L st M cc sc
      | 9 => ri_ma pc L st M cc sc
      | 10 => ri_acp pc L st M cc sc
      | _ => none) = some (.inl fr) := h
    dsimp only at hm
    have hml2 : c.maxLocals = ls.size := hml.trans hAt.2.2.2.2.2.2.1.1.symm
    split at h2
    · next q =>
      rw [q] at hm
      replace hm : (ri_lk own i a b c0 && decide (ri_kd a = 0)) = true := hm
      rw [Bool.and_eq_true, decide_eq_true_eq] at hm
      exact ri_p_cls TB Fx hm.1 hm.2 hd hR hC h2 hAt K hr1 hr2
    · next q =>
      rw [q] at hm
      replace hm : (ri_lk own i a b c0 && decide (ri_kd a = 0)) = true := hm
      rw [Bool.and_eq_true, decide_eq_true_eq] at hm
      exact ri_p_cls TB Fx hm.1 hm.2 hd hR hC h2 hAt K hr1 hr2
    · next q =>
      rw [q] at hm
      exact ri_p_mm h2 hAt K (fun x y r g k => va_mmin hx hb hml2 hown (hts _ (ri_w_mem hm)) (hts _ TB.2.2.2.2.2.2.1.1) (hts _ TB.2.2.2.2.2.1) (hts _ TB.2.2.2.2.2.2.1.2) (by omega) (by unfold ri_cat at g; omega) (Nat.le_trans hc1 hr1) (Nat.le_trans hc2 hr2) hd k)
    · next q =>
      rw [q] at hm
      exact ri_p_mm h2 hAt K (fun x y r g k => va_mmax hx hb hml2 hown (hts _ (ri_w_mem hm)) (hts _ TB.2.2.2.2.2.2.2.1.1) (hts _ TB.2.2.2.2.2.1) (hts _ TB.2.2.2.2.2.2.2.1.2) (by omega) (by unfold ri_cat at g; omega) (Nat.le_trans hc1 hr1) (Nat.le_trans hc2 hr2) hd k)
    · next q =>
      rw [q] at hm
      exact ri_p_ma h2 hAt K (fun x r g k => va_mabs hx hb hml2 hown (hts _ (ri_w_mem hm)) (hts _ TB.2.2.2.2.2.2.2.2.1.1) (hts _ TB.2.2.2.2.2.1) (hts _ TB.2.2.2.2.2.2.2.2.1.2) (by omega) (by unfold ri_cat at g; omega) (Nat.le_trans hc1 hr1) (Nat.le_trans hc2 hr2) hd k)
    · next q =>
      rw [q] at hm
      exact ri_p_acp h2 hAt K (fun k0 k n0 n1 f g sp dp n r hK g1 g2 g3 g4 kk => va_copyi hx hb hml2 hown (hts _ (ri_w_mem hm)) (hts _ TB.2.2.2.2.2.2.2.2.2.1.1) (hts _ TB.2.2.2.2.2.2.2.2.2.1.2.1) (hts _ TB.2.2.2.2.2.2.2.2.2.1.2.2) hK hAt.2.2.1 hAt.2.2.2.1 hAt.2.2.2.2.1 k0 k 0 1 g1 g2 rfl rfl rfl g3.1 g3.2.1 g3.2.2.1 g3.2.2.2.1 g3.2.2.2.2 (fun _ _ => rfl) (by omega) (by unfold ri_cat at g4; rw [show nativeFrameWords "java/lang/System" "arraycopy" 5 = 7 from by decide +kernel]; omega) hd kk)
    · cases h2
  case ireturn =>
    have h2 : ri_ret rt st M cc sc = some (.inl fr) := h
    unfold ri_ret at h2
    split at h2
    · split at h2 <;> cases h2
    · cases h2
  case lreturn =>
    have h2 : ri_lret rt st M cc sc = some (.inl fr) := h
    unfold ri_lret at h2
    split at h2 <;> cases h2
  case areturn =>
    have h2 : ri_aret rt st M cc sc = some (.inl fr) := h
    unfold ri_aret at h2
    split at h2 <;> cases h2
  case return_ =>
    have h2 : ri_vret rt st M cc sc = some (.inl fr) := h
    unfold ri_vret at h2
    split at h2 <;> cases h2
  all_goals (cases h)
end RI
