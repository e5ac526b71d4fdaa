/-! The texts as the law finds them. -/
noncomputable def rq_P : List Nat := [33, 42, 51, 61, 71, 81, 92, 105, 119, 136, 153, 172, 189, 207, 229, 253]
noncomputable def rq_I : List Nat := [534, 587, 588, 589, 590, 591, 592, 593, 597, 598, 599, 600, 601, 602, 603, 604]
noncomputable def rq_f : List Cond := flatC (Jvm.Cond.and given_1 narrow_1)
noncomputable abbrev rq_t (i : Nat) : Term := .string RX9 (rs_ix.getD i 0)
noncomputable abbrev rq_v (i : Nat) : Term := .field (rq_t i) "java/lang/String" "value" "[B"
set_option maxRecDepth 100000 in
theorem rq_1 : ∀ i, i < 16 → rq_f[rq_P.getD i 0]? = some (.exactly (rq_t i) "java/lang/String") ∧ rq_f[rq_P.getD i 0 + 1]? = some (.eq (.field (rq_t i) "java/lang/String" "coder" "B") (.int 0)) ∧ rq_f[rq_P.getD i 0 + 2]? = some (.arrayOf (rq_v i) .byte) ∧ rq_f[rq_P.getD i 0 + 3]? = some (.eq (.length (rq_v i)) (.int (Int32.ofNat (rs_L.getD i 0)))) := by decide +kernel
set_option maxRecDepth 100000 in
theorem rq_2 : ∀ i, i < 16 → ∀ j, j < rs_L.getD i 0 → rq_f[rq_P.getD i 0 + 4 + j]? = some (.eq (.elem (rq_v i) (.int (Int32.ofNat j))) (.int ((rs_B.getD i []).getD j 0))) := by decide +kernel
set_option maxRecDepth 100000 in
theorem rq_3 : ∀ i, i < 16 → ∀ j, j < i → rq_f[rq_P.getD i 0 + 4 + rs_L.getD i 0 + j]? = some (.not (.eq (rq_t j) (rq_t i))) := by decide +kernel
set_option maxRecDepth 100000 in
theorem rq_4 : ∀ i, i < 16 → lw_tbl[rq_I.getD i 0]? = some (.stringRef RX9 (rs_ix.getD i 0) (rs_tx.getD i "")) := by decide +kernel
theorem rq_5 : lw_tbl[548]? = some (.laysStatic RJ0 "COMPACT_STRINGS" "Z") ∧ lw_tbl[564]? = some (.laysStatic RJ3 "SIOOBE_FORMATTER" "Ljava/util/function/BiFunction;") ∧ lw_tbl[176]? = some (.initialized RJ0) ∧ lw_tbl[178]? = some (.initialized RJ3) := by decide +kernel
theorem rq_6 : rq_f[4]? = some (.eq (.static RJ0 "COMPACT_STRINGS" "Z") (.int 1)) ∧ rq_f[5]? = some (.isRef (.static RJ3 "SIOOBE_FORMATTER" "Ljava/util/function/BiFunction;")) := by decide +kernel
theorem rq_L : ∀ i, i < 16 → rs_L.getD i 0 < 2 ^ 31 := by decide +kernel
/-- the texts, from what the start gives -/
theorem rq_all {args : Array Value} {s : State} {A : Nat → Prop} {d : Nat → Nat} (hts : ∀ w ∈ lw_tbl, w.before args s = true) (hgv : (Jvm.Cond.and given_1 narrow_1).before args s = true) (hA : ∀ a : Nat, a < s.heap.size → ¬ A a) : ∃ dA : Nat → Nat, (∀ k, k < 2000 → dA k = d k) ∧ rs_S A s s.heap dA ∧ rs_T dA s := by
  have hs : ∀ (k : Nat) (w : Cond), rq_f[k]? = some w → w.before args s = true := fun k w h => flat_of_before _ hgv w (List.mem_of_getElem? h)
  have ht : ∀ (k : Nat) (w : Cond), lw_tbl[k]? = some w → w.before args s = true := fun k w h => hts w (List.mem_of_getElem? h)
  obtain ⟨adK, adV, hK, hE⟩ := vk_Sof (args := args) (s := s) (N := 16) (tm := rq_t) (len := rs_L) (byt := rs_B) (A := A) rq_L (fun i hi => hs _ _ (rq_1 i hi).1) (fun i hi => hs _ _ (rq_1 i hi).2.1) (fun i hi => hs _ _ (rq_1 i hi).2.2.1) (fun i hi => hs _ _ (rq_1 i hi).2.2.2) (fun i hi j hj => hs _ _ (rq_2 i hi j hj)) (fun i j hi hj hij => by
    rcases Nat.lt_or_gt_of_ne hij with h | h
    · exact Or.inl (hs _ _ (rq_3 j hj i h))
    · exact Or.inr (hs _ _ (rq_3 i hi j h))) hA
  have hC := va_Zof (ht _ _ rq_5.1) (ht _ _ rq_5.2.2.1) (va_eqt (hs _ _ rq_6.1)) hA
  obtain ⟨t, hF⟩ : ∃ t : Nat, va_Z RJ3 "SIOOBE_FORMATTER" "Ljava/util/function/BiFunction;" .null A s s.heap ∨ va_Z RJ3 "SIOOBE_FORMATTER" "Ljava/util/function/BiFunction;" (.ref t) A s s.heap := by
    rcases va_Zqof (ht _ _ rq_5.2.1) (ht _ _ rq_5.2.2.2) (hs _ _ rq_6.2) hA with h | ⟨t, h⟩
    · exact ⟨0, Or.inl h⟩
    · exact ⟨t, Or.inr h⟩
  refine ⟨fun k => if k < 2000 then d k else if k < 2100 then adK (k - 2000) else if k < 2200 then adV (k - 2100) else t, fun k hk => if_pos hk, ⟨?_, hC, ?_⟩, fun i hi => ?_⟩
  · have e1 : ∀ i, i < 16 → (if 2000 + i < 2000 then d (2000 + i) else if 2000 + i < 2100 then adK (2000 + i - 2000) else if 2000 + i < 2200 then adV (2000 + i - 2100) else t) = adK i := fun i hi => by
      rw [if_neg (by omega), if_pos (by omega), Nat.add_sub_cancel_left]
    have e2 : ∀ i, i < 16 → (if 2100 + i < 2000 then d (2100 + i) else if 2100 + i < 2100 then adK (2100 + i - 2000) else if 2100 + i < 2200 then adV (2100 + i - 2100) else t) = adV i := fun i hi => by
      rw [if_neg (by omega), if_neg (by omega), if_pos (by omega), Nat.add_sub_cancel_left]
    refine ⟨fun i hi => ?_, fun i j hi hj h => ?_⟩
    · dsimp only
      rw [e1 i hi, e2 i hi]
      exact hK.1 i hi
    · dsimp only at h
      rw [e1 i hi, e1 j hj] at h
      exact hK.2 i j hi hj h
  · exact hF
  · dsimp only
    rw [if_neg (by omega), if_pos (by omega), Nat.add_sub_cancel_left]
    exact vk_R.of (ht _ _ (rq_4 i hi)) (hE i hi)
section RI
variable {D : va_G} {X : ri_X} {A : Nat → Prop} {s : State} {nL : Nat} {dA dA' : Nat → Nat} {dT : Nat → ClassId} {M : ri_M} {L : ri_L} {H : Heap} {locs : List Loc} {ls : Array Slot}
/-- the numbers past the world don't matter -/
theorem ri_re (h : ∀ k, k ≤ M.length → dA' k = dA k) (hM : M.all (ri_okc M.length) = true) (hL : ri_okL M.length L = true) (hAt : ri_At X D A s nL dA dT M L H locs ls) : ri_At X D A s nL dA' dT M L H locs ls := by
  obtain ⟨a1, a2, a3, a4, a5, a6, a7, a8⟩ := hAt
  have lt : ∀ (k : Nat) (x : ri_C), M[k]? = some x → k + 1 ≤ M.length := fun k x hx => (List.getElem?_eq_some_iff.mp hx).1
  refine ⟨a1, a2, fun k q hq => ?_, ⟨fun i j y z hy hz hyz => ?_, fun k q hq => ?_⟩, a5, a6, ri_lv_eq h hL a7, by rw [h 0 (Nat.zero_le _)]; exact a8⟩
  · obtain ⟨x, hx, rfl⟩ := ri_ws_inv hq
    rw [h (k + 1) (lt k x hx)]
    exact ri_at_eq h (List.all_eq_true.mp hM x (List.mem_of_getElem? hx)) (a3 k _ (ri_ws_at hx))
  · obtain ⟨y2, hy2, rfl⟩ := ri_ws_inv hy
    obtain ⟨z2, hz2, rfl⟩ := ri_ws_inv hz
    dsimp only at hyz
    rw [h _ (lt i _ hy2), h _ (lt j _ hz2)] at hyz
    exact a4.1 i j _ _ (ri_ws_at hy2) (ri_ws_at hz2) hyz
  · obtain ⟨x, hx, rfl⟩ := ri_ws_inv hq
    have z9 := a4.2 k _ (ri_ws_at hx)
    dsimp only at z9 ⊢
    rw [h _ (lt k _ hx)]
    exact z9
end RI
theorem w0_ok : (wmk w0).all (ri_okc (wmk w0).length) = true := by decide +kernel
theorem w0_okL : ri_okL (wmk w0).length [some (.ref 0), some (.ref 1), some (.ref 153), some (.int 0)] = true := by decide +kernel
