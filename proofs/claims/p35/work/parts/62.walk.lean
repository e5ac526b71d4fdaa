/-! Texts: length, charAt walked. -/
section RS
variable {p : Program} {l : Launch} {e : Env} {R : Room} {s : State} {m : MethodId} {args : Array Value} {below : List Frame} {meth : Method} {c : Code} {H : Heap} {locs : List Loc} {Q : State → Prop} {bs : ByteArray} {nL : Nat} {own nm : String} {A : Nat → Prop} {D : va_G} {X : ri_X} {dA : Nat → Nat} {dT : Nat → ClassId} {pc : Nat} {L : ri_L} {st : List Value} {M : ri_M} {cc sc : Nat} {ls : Array Slot} {fr : ri_F}
theorem rs_lat (hAt : ri_At X D A s nL dA dT M L H locs ls) {i : Nat} {v : Value} (hg : ri_get L i = some v) : ls[i]? = some (.val (ri_cv dA v)) := ri_lat hAt.2.2.2.2.2.2.1 hg
theorem rs_zret {x : Int32} {ty : FieldType} (hAe : A = va_A (ri_ws dA dT M) s.heap.size) (hAt : ri_At X D A s nL dA dT M L H locs ls) (hx : p.tables.exec = Jvm.exec) (hb : c.code = bs) (hrt : meth.sig.returnType = some ty) (hn : narrow ty (.int x) = .int x) (hd : decode bs pc = .ok (.ireturn, 1)) (hlocks : meth.locks = false) : W p l e R s m args below meth c H locs cc sc (MQ below (ri_Q D dA dT M (some (.int x)) M 0 s.heap.size) args s cc sc A) (F0 m pc ls [.int x]) :=
  W.zret hx hb hrt hn (rs_q (r := some (.int x)) hAe hAt) hAt.2.2.2.2.1.2.2 hd hlocks
theorem rj_coder (l : Launch) {i sz : Nat} (hi : i < 16) : Met l yJ0_coder_7d493 (.code yJ0_coder_7d493 cJ0_coder_7d493 1 (some .byte) :: ri_ac) (ri_rm 0 0 0) (rs_P D dA dT [.ref (2000 + i)] M sz) (ri_Q D dA dT M (some (.int 0)) M 0 sz) 0 0 (va_A (ri_ws dA dT M) sz) := by
  refine rs_ofW (L := [some (.ref (2000 + i))]) rfl (by decide +kernel) ?_
  intro p e s m args below meth c A ls Fx hS hT hAe hAt hrt hlocks
  obtain ⟨hx, hb, hml, hown, hts, hnm, hA⟩ := Fx
  refine va_gets hx hb hS.2.1 hAt.2.2.2.2.1 hown (hts _ rs_w_CS) (fun _ h => h) (show decode cJ0_coder_7d493 0 = .ok (.getstatic 38, 3) by decide +kernel) ?_
  refine lv_if_eq hx hb (tgt := 13) (show decode cJ0_coder_7d493 3 = .ok (.ifCond .eq 10, 3) by decide +kernel) rfl (fun q => absurd q (by decide)) (fun _ => ?_)
  refine lv_aload_n hx hb (show decode cJ0_coder_7d493 6 = .ok (.aload_n 0, 1) by decide +kernel) rfl (rs_lat hAt (i := 0) rfl) ?_
  refine vk_getf hx hb (hS.1.1 i hi).2.1 hAt.2.2.2.2.1 hown (hts _ rs_w_cod) (fun _ h => h) (show decode cJ0_coder_7d493 7 = .ok (.getfield 15, 3) by decide +kernel) ?_
  refine lv_goto hx hb (tgt := 14) (show decode cJ0_coder_7d493 10 = .ok (.goto 4, 3) by decide +kernel) rfl ?_
  exact rs_zret hAe hAt hx hb hrt rfl (show decode cJ0_coder_7d493 14 = .ok (.ireturn, 1) by decide +kernel) hlocks
theorem rj_isLatin1 (l : Launch) {i sz : Nat} (hi : i < 16) : Met l yJ0_isLatin1_aae02 (.code yJ0_isLatin1_aae02 cJ0_isLatin1_aae02 1 (some .boolean) :: ri_ac) (ri_rm 0 0 0) (rs_P D dA dT [.ref (2000 + i)] M sz) (ri_Q D dA dT M (some (.int 1)) M 0 sz) 0 0 (va_A (ri_ws dA dT M) sz) := by
  refine rs_ofW (L := [some (.ref (2000 + i))]) rfl (by decide +kernel) ?_
  intro p e s m args below meth c A ls Fx hS hT hAe hAt hrt hlocks
  obtain ⟨hx, hb, hml, hown, hts, hnm, hA⟩ := Fx
  refine va_gets hx hb hS.2.1 hAt.2.2.2.2.1 hown (hts _ rs_w_CS) (fun _ h => h) (show decode cJ0_isLatin1_aae02 0 = .ok (.getstatic 38, 3) by decide +kernel) ?_
  refine lv_if_eq hx hb (tgt := 17) (show decode cJ0_isLatin1_aae02 3 = .ok (.ifCond .eq 14, 3) by decide +kernel) rfl (fun q => absurd q (by decide)) (fun _ => ?_)
  refine lv_aload_n hx hb (show decode cJ0_isLatin1_aae02 6 = .ok (.aload_n 0, 1) by decide +kernel) rfl (rs_lat hAt (i := 0) rfl) ?_
  refine vk_getf hx hb (hS.1.1 i hi).2.1 hAt.2.2.2.2.1 hown (hts _ rs_w_cod) (fun _ h => h) (show decode cJ0_isLatin1_aae02 7 = .ok (.getfield 15, 3) by decide +kernel) ?_
  refine lv_if_ne hx hb (tgt := 17) (show decode cJ0_isLatin1_aae02 10 = .ok (.ifCond .ne 7, 3) by decide +kernel) rfl (fun q => absurd rfl q) (fun _ => ?_)
  refine lv_iconst hx hb (v := 1) (show decode cJ0_isLatin1_aae02 13 = .ok (.iconst 1, 1) by decide +kernel) rfl ?_
  refine lv_goto hx hb (tgt := 18) (show decode cJ0_isLatin1_aae02 14 = .ok (.goto 4, 3) by decide +kernel) rfl ?_
  exact rs_zret hAe hAt hx hb hrt rfl (show decode cJ0_isLatin1_aae02 18 = .ok (.ireturn, 1) by decide +kernel) hlocks
theorem rs_len0 : ∀ i, i < 16 → Int32.ofNat (rs_L.getD i 0) >>> ((0 : Int32) &&& 31) = Int32.ofNat (rs_L.getD i 0) := by decide +kernel
theorem rj_length (TB : ri_Tab) (l : Launch) {i sz : Nat} (hi : i < 16) : Met l yJ0_length_8abf5 (.code yJ0_length_8abf5 cJ0_length_8abf5 1 (some .int) :: ri_ac) (ri_rm 1 0 0) (rs_P D dA dT [.ref (2000 + i)] M sz) (ri_Q D dA dT M (some (.int (Int32.ofNat (rs_L.getD i 0)))) M 0 sz) 0 0 (va_A (ri_ws dA dT M) sz) := by
  refine rs_ofW (L := [some (.ref (2000 + i))]) rfl (by decide +kernel) ?_
  intro p e s m args below meth c A ls Fx hS hT hAe hAt hrt hlocks
  have Fx0 := Fx
  obtain ⟨hx, hb, hml, hown, hts, hnm, hA⟩ := Fx
  refine lv_aload_n hx hb (show decode cJ0_length_8abf5 0 = .ok (.aload_n 0, 1) by decide +kernel) rfl (rs_lat hAt (i := 0) rfl) ?_
  refine vk_getf hx hb (hS.1.1 i hi).2.2.1 hAt.2.2.2.2.1 hown (hts _ rs_w_val) (fun _ h => h) (show decode cJ0_length_8abf5 1 = .ok (.getfield 9, 3) by decide +kernel) ?_
  refine va_tlen hx hb (hS.1.1 i hi).2.2.2 hAt.2.2.2.2.1 rfl (show decode cJ0_length_8abf5 4 = .ok (.arraylength, 1) by decide +kernel) ?_
  refine lv_aload_n hx hb (show decode cJ0_length_8abf5 5 = .ok (.aload_n 0, 1) by decide +kernel) rfl (rs_lat hAt (i := 0) rfl) ?_
  refine rs_callV (F := 0) (as := []) (k := 2000 + i) (rr := [.int (Int32.ofNat (rs_L.getD i 0))]) TB Fx0 hS hT rs_Y_coder rs_w_l_coder rs_w_i_coder rs_w_s_coder rfl (show decode cJ0_length_8abf5 6 = .ok (.invokevirtual 335, 3) by decide +kernel) ⟨Nat.le_refl _, Nat.le_refl _⟩ (fun sz => rj_coder l hi) (vk_recv (i := i) hS.1 hi hAt.2.2.2.2.1) (Nat.le_of_ble_eq_true rfl) ⟨Nat.le_refl _, Nat.le_refl _⟩ hAt (fun H1 locs1 ls1 hAt1 => ?_)
  refine lv_ishr hx hb (show decode cJ0_length_8abf5 9 = .ok (.ishr, 1) by decide +kernel) ?_
  rw [rs_len0 i hi]
  exact rs_zret hAe hAt1 hx hb hrt rfl (show decode cJ0_length_8abf5 10 = .ok (.ireturn, 1) by decide +kernel) hlocks
theorem rj_pre (l : Launch) {k n : Int32} {sz : Nat} {v : Value} (hv : v = .null ∨ v = .ref 2200) (h0 : ¬ k < 0) (h1 : k < n) : Met l yJ3_checkIndex_8e157 (.code yJ3_checkIndex_8e157 cJ3_checkIndex_8e157 3 (some .int) :: ri_ac) (ri_rm 0 0 0) (rs_P D dA dT [.int k, .int n, v] M sz) (ri_Q D dA dT M (some (.int k)) M 0 sz) 0 0 (va_A (ri_ws dA dT M) sz) := by
  refine rs_ofW (L := [some (.int k), some (.int n), some v]) (by rcases hv with rfl | rfl <;> rfl) (by decide +kernel) ?_
  intro p e s m args below meth c A ls Fx hS hT hAe hAt hrt hlocks
  obtain ⟨hx, hb, hml, hown, hts, hnm, hA⟩ := Fx
  refine lv_iload_n hx hb (show decode cJ3_checkIndex_8e157 0 = .ok (.iload_n 0, 1) by decide +kernel) rfl (rs_lat hAt (i := 0) rfl) ?_
  refine lv_if_lt hx hb (tgt := 9) (show decode cJ3_checkIndex_8e157 1 = .ok (.ifCond .lt 8, 3) by decide +kernel) rfl (fun q => absurd q h0) (fun _ => ?_)
  refine lv_iload_n hx hb (show decode cJ3_checkIndex_8e157 4 = .ok (.iload_n 0, 1) by decide +kernel) rfl (rs_lat hAt (i := 0) rfl) ?_
  refine lv_iload_n hx hb (show decode cJ3_checkIndex_8e157 5 = .ok (.iload_n 1, 1) by decide +kernel) rfl (rs_lat hAt (i := 1) rfl) ?_
  refine lv_icmp_lt hx hb (tgt := 16) (show decode cJ3_checkIndex_8e157 6 = .ok (.if_icmp .lt 10, 3) by decide +kernel) rfl (fun _ => ?_) (fun q => absurd h1 q)
  refine lv_iload_n hx hb (show decode cJ3_checkIndex_8e157 16 = .ok (.iload_n 0, 1) by decide +kernel) rfl (rs_lat hAt (i := 0) rfl) ?_
  exact rs_zret hAe hAt hx hb hrt rfl (show decode cJ3_checkIndex_8e157 17 = .ok (.ireturn, 1) by decide +kernel) hlocks
theorem rj_check (TB : ri_Tab) (l : Launch) {k n : Int32} {sz : Nat} (h0 : ¬ k < 0) (h1 : k < n) : Met l yJ0_checkIndex_df160 (.code yJ0_checkIndex_df160 cJ0_checkIndex_df160 2 none :: ri_ac) (ri_rm 1 0 0) (rs_P D dA dT [.int k, .int n] M sz) (ri_Q D dA dT M none M 0 sz) 0 0 (va_A (ri_ws dA dT M) sz) := by
  refine rs_ofW (L := [some (.int k), some (.int n)]) rfl (by decide +kernel) ?_
  intro p e s m args below meth c A ls Fx hS hT hAe hAt hrt hlocks
  have Fx0 := Fx
  obtain ⟨hx, hb, hml, hown, hts, hnm, hA⟩ := Fx
  refine lv_iload_n hx hb (show decode cJ0_checkIndex_df160 0 = .ok (.iload_n 0, 1) by decide +kernel) rfl (rs_lat hAt (i := 0) rfl) ?_
  refine lv_iload_n hx hb (show decode cJ0_checkIndex_df160 1 = .ok (.iload_n 1, 1) by decide +kernel) rfl (rs_lat hAt (i := 1) rfl) ?_
  have fin : ∀ v : Value, (v = .null ∨ v = .ref 2200) → W p l e (ri_rm 1 0 0) s m args below meth c s.heap [] 0 0 (MQ below (ri_Q D dA dT M none M 0 s.heap.size) args s 0 0 A) (F0 m 5 ls (([Value.int k, Value.int n, v].reverse ++ []).map (ri_cv dA))) := by
    intro v hv
    refine rs_callS (F := 0) (r := some (.int k)) TB Fx0 hS hT rs_Y_pre rs_w_l_pre rs_w_t_pre rfl (show decode cJ0_checkIndex_df160 5 = .ok (.invokestatic 1059, 3) by decide +kernel) ⟨Nat.le_refl _, Nat.le_refl _⟩ (fun sz => rj_pre l hv h0 h1) (by decide) ⟨Nat.le_refl _, Nat.le_refl _⟩ hAt (fun H1 locs1 ls1 hAt1 => ?_)
    refine lv_pop hx hb (show decode cJ0_checkIndex_df160 8 = .ok (.pop, 1) by decide +kernel) rfl ?_
    exact W.vret hx hb hrt (rs_q (r := none) hAe hAt1) hAt1.2.2.2.2.1.2.2 (show decode cJ0_checkIndex_df160 9 = .ok (.return_, 1) by decide +kernel) hlocks
  rcases hS.2.2 with q | q
  · exact va_gets hx hb q hAt.2.2.2.2.1 hown (hts _ rs_w_FM) (fun _ h => h) (show decode cJ0_checkIndex_df160 2 = .ok (.getstatic 1053, 3) by decide +kernel) (fin .null (Or.inl rfl))
  · exact va_gets hx hb q hAt.2.2.2.2.1 hown (hts _ rs_w_FM) (fun _ h => h) (show decode cJ0_checkIndex_df160 2 = .ok (.getstatic 1053, 3) by decide +kernel) (fin (.ref 2200) (Or.inr rfl))
/-- the char at a place -/
noncomputable def rs_ch (i : Nat) (k : Int32) : Int32 := ((((rs_B.getD i []).getD k.toNatClampNeg 0) &&& 255).toUInt32 % 65536).toInt32
theorem rs_chn (x : Int32) : narrow .char (.int ((x &&& 255).toUInt32 % 65536).toInt32) = .int ((x &&& 255).toUInt32 % 65536).toInt32 := by
  show Value.int ((((x &&& 255).toUInt32 % 65536).toInt32).toUInt32 % 65536).toInt32 = _
  have e : ∀ y : UInt32, (y.toInt32).toUInt32 = y := fun y => rfl
  rw [e]
  congr 2
  apply UInt32.toNat_inj.mp
  simp only [UInt32.toNat_mod, Nat.mod_mod]
theorem rj_chr1 (TB : ri_Tab) (l : Launch) {i sz : Nat} (hi : i < 16) {k : Int32} (h0 : ¬ k < 0) (h1 : k < Int32.ofNat (rs_L.getD i 0)) (hin : vp_in k (rs_L.getD i 0)) : Met l yJ1_charAt_3b067 (.code yJ1_charAt_3b067 cJ1_charAt_3b067 2 (some .char) :: ri_ac) (ri_rm 2 0 0) (rs_P D dA dT [.ref (2100 + i), .int k] M sz) (ri_Q D dA dT M (some (.int (rs_ch i k))) M 0 sz) 0 0 (va_A (ri_ws dA dT M) sz) := by
  refine rs_ofW (L := [some (.ref (2100 + i)), some (.int k)]) rfl (by decide +kernel) ?_
  intro p e s m args below meth c A ls Fx hS hT hAe hAt hrt hlocks
  have Fx0 := Fx
  obtain ⟨hx, hb, hml, hown, hts, hnm, hA⟩ := Fx
  refine lv_iload_n hx hb (show decode cJ1_charAt_3b067 0 = .ok (.iload_n 1, 1) by decide +kernel) rfl (rs_lat hAt (i := 1) rfl) ?_
  refine lv_aload_n hx hb (show decode cJ1_charAt_3b067 1 = .ok (.aload_n 0, 1) by decide +kernel) rfl (rs_lat hAt (i := 0) rfl) ?_
  refine va_tlen hx hb (hS.1.1 i hi).2.2.2 hAt.2.2.2.2.1 rfl (show decode cJ1_charAt_3b067 2 = .ok (.arraylength, 1) by decide +kernel) ?_
  refine rs_callS (F := 1) (as := [.int k, .int (Int32.ofNat (rs_L.getD i 0))]) (rr := []) (r := none) TB Fx0 hS hT rs_Y_check rs_w_l_check rs_w_t_check rfl (show decode cJ1_charAt_3b067 3 = .ok (.invokestatic 9, 3) by decide +kernel) ⟨Nat.le_refl _, Nat.le_refl _⟩ (fun sz => rj_check TB l h0 h1) (by decide) ⟨Nat.le_refl _, Nat.le_refl _⟩ hAt (fun H1 locs1 ls1 hAt1 => ?_)
  refine lv_aload_n hx hb (show decode cJ1_charAt_3b067 6 = .ok (.aload_n 0, 1) by decide +kernel) rfl (rs_lat hAt1 (i := 0) rfl) ?_
  refine lv_iload_n hx hb (show decode cJ1_charAt_3b067 7 = .ok (.iload_n 1, 1) by decide +kernel) rfl (rs_lat hAt1 (i := 1) rfl) ?_
  refine va_tb hx hb (hS.1.1 i hi).2.2.2 hAt1.2.2.2.2.1 hin rfl (show decode cJ1_charAt_3b067 8 = .ok (.baload, 1) by decide +kernel) ?_
  refine lv_sipush hx hb (v := 255) (show decode cJ1_charAt_3b067 9 = .ok (.sipush 255, 3) by decide +kernel) (by decide) ?_
  refine lv_iand hx hb (show decode cJ1_charAt_3b067 12 = .ok (.iand, 1) by decide +kernel) ?_
  refine lv_i2c hx hb (v := rs_ch i k) (show decode cJ1_charAt_3b067 13 = .ok (.i2c, 1) by decide +kernel) rfl ?_
  exact rs_zret hAe hAt1 hx hb hrt (rs_chn _) (show decode cJ1_charAt_3b067 14 = .ok (.ireturn, 1) by decide +kernel) hlocks
theorem rj_charAt (TB : ri_Tab) (l : Launch) {i sz : Nat} (hi : i < 16) {k : Int32} (h0 : ¬ k < 0) (h1 : k < Int32.ofNat (rs_L.getD i 0)) (hin : vp_in k (rs_L.getD i 0)) : Met l yJ0_charAt_5068e (.code yJ0_charAt_5068e cJ0_charAt_5068e 2 (some .char) :: ri_ac) (ri_rm 3 0 0) (rs_P D dA dT [.ref (2000 + i), .int k] M sz) (ri_Q D dA dT M (some (.int (rs_ch i k))) M 0 sz) 0 0 (va_A (ri_ws dA dT M) sz) := by
  refine rs_ofW (L := [some (.ref (2000 + i)), some (.int k)]) rfl (by decide +kernel) ?_
  intro p e s m args below meth c A ls Fx hS hT hAe hAt hrt hlocks
  have Fx0 := Fx
  obtain ⟨hx, hb, hml, hown, hts, hnm, hA⟩ := Fx
  refine lv_aload_n hx hb (show decode cJ0_charAt_5068e 0 = .ok (.aload_n 0, 1) by decide +kernel) rfl (rs_lat hAt (i := 0) rfl) ?_
  refine rs_callV (F := 0) (as := []) (k := 2000 + i) (rr := []) (r := some (.int 1)) TB Fx0 hS hT rs_Y_isLatin1 rs_w_l_isLatin1 rs_w_i_isLatin1 rs_w_s_isLatin1 rfl (show decode cJ0_charAt_5068e 1 = .ok (.invokevirtual 492, 3) by decide +kernel) ⟨by decide, by decide⟩ (fun sz => rj_isLatin1 l hi) (vk_recv (i := i) hS.1 hi hAt.2.2.2.2.1) (by decide) ⟨Nat.le_refl _, Nat.le_refl _⟩ hAt (fun H1 locs1 ls1 hAt1 => ?_)
  refine lv_if_eq hx hb (tgt := 16) (show decode cJ0_charAt_5068e 4 = .ok (.ifCond .eq 12, 3) by decide +kernel) rfl (fun q => absurd q (by decide)) (fun _ => ?_)
  refine lv_aload_n hx hb (show decode cJ0_charAt_5068e 7 = .ok (.aload_n 0, 1) by decide +kernel) rfl (rs_lat hAt1 (i := 0) rfl) ?_
  refine vk_getf hx hb (hS.1.1 i hi).2.2.1 hAt1.2.2.2.2.1 hown (hts _ rs_w_val) (fun _ h => h) (show decode cJ0_charAt_5068e 8 = .ok (.getfield 9, 3) by decide +kernel) ?_
  refine lv_iload_n hx hb (show decode cJ0_charAt_5068e 11 = .ok (.iload_n 1, 1) by decide +kernel) rfl (rs_lat hAt1 (i := 1) rfl) ?_
  refine rs_callS (F := 2) (as := [.ref (2100 + i), .int k]) (rr := []) (r := some (.int (rs_ch i k))) TB Fx0 hS hT rs_Y_chr1 rs_w_l_chr1 rs_w_t_chr1 rfl (show decode cJ0_charAt_5068e 12 = .ok (.invokestatic 495, 3) by decide +kernel) ⟨Nat.le_refl _, Nat.le_refl _⟩ (fun sz => rj_chr1 TB l hi h0 h1 hin) (by decide) ⟨Nat.le_refl _, Nat.le_refl _⟩ hAt1 (fun H2 locs2 ls2 hAt2 => ?_)
  exact rs_zret hAe hAt2 hx hb hrt (rs_chn _) (show decode cJ0_charAt_5068e 15 = .ok (.ireturn, 1) by decide +kernel) hlocks
end RS
