/-! Calls of methods that know the texts; some steps at once. -/
section HC
variable {d pc pc1 len a b c d1 : Nat} {μ : hM} {L L1 : ri_L} {st st1 rr as : List Value} {M M1 : ri_M} {s s' : wS} {r : Option Value × ri_M} {v : Option Value}
theorem hR_go (k : Nat) (h : ri_go μ.X (fun _ _ _ => none) μ.cd μ.rt k pc L st M 0 0 = some (pc1, L1, st1, M1, 0, 0)) (g : hRun d μ pc1 L1 st1 M1 r) : hRun d μ pc L st M r := by
  induction k generalizing pc L st M with
  | zero => cases h; exact g
  | succ k ih =>
    unfold ri_go at h
    split at h
    · cases h
    · next j hj =>
      split at h
      · next pc2 L2 st2 M2 c2 s2 hs =>
        obtain ⟨b1, b2⟩ := ri_go_mono _ _ _ _ _ _ _ _ h
        have e1 : c2 = 0 := Nat.le_zero.mp b1
        have e2 : s2 = 0 := Nat.le_zero.mp b2
        subst e1
        subst e2
        obtain ⟨ins, len, a, b, c0⟩ := j
        exact hR_sd (d1 := 0) (call := fun _ _ _ => none) (fun l _ a as M r M1 c1 s1 h => by cases h) (Nat.zero_le _) hj hs (ih h)
      · cases h
theorem hR_hcv {i k : Nat} (he : hEv d1 a (.ref (k + 1) :: as) M (v, M1)) (hd : d1 ≤ d) (hc : μ.cd pc = some (.invokevirtual i, len, a, b, c)) (hs : ri_spl b [] st = some (as, .ref (k + 1) :: rr)) (hM : ∃ fs, M[k]? = some (.inr (ri_rc a, fs))) (hcat : ri_cat rr ≤ 8) (g : hRun d μ (pc + 3) L (v.toList ++ rr) M1 r) : hRun d μ pc L st M r := by
  intro TB hck p l e R s m args below meth c' H locs Q A D dA dT cc sc ls Fx hS hT hR hr hend hAt
  have hck1 := hck _ _ hc
  have hdec := ri_ck_d hck1
  have hm1 : _ = true := (Bool.and_eq_true _ _ ▸ (show (_ && _) = true from hck1)).2
  dsimp only at hm1
  rw [Bool.and_eq_true, decide_eq_true_eq] at hm1
  obtain ⟨hlk, hkd⟩ := hm1
  have Fx0 := Fx
  obtain ⟨hx, hb, hml, hown, hts, hnm, hA⟩ := Fx
  obtain ⟨hn, hnd, hl⟩ := ri_lk_ok hlk
  have hmk := TB.1.1 a hn
  obtain ⟨k1, k2, k3, k4⟩ := ri_mk_ok hmk
  obtain ⟨k5, k6, q, hq, hqc⟩ := ri_mk_2 hmk hkd
  obtain ⟨fs, hM⟩ := hM
  obtain ⟨hl1, hl2⟩ := ri_spl_ok _ _ _ _ _ hs
  have hst : st = as.reverse ++ .ref (k + 1) :: rr := hl2.symm
  have hstk : st.map (ri_cv dA) = (as.map (ri_cv dA)).reverse ++ .ref (dA (k + 1)) :: rr.map (ri_cv dA) := by
    rw [hst, List.map_append, List.map_reverse]
    rfl
  have hrecv := va_recv hAt.1 hAt.2.2.1 hq (ri_ws_at hM)
  rw [hqc] at hrecv
  have hpre : PreV s H (ri_y a).cls (dA (k + 1)) (rs_P D dA dT (.ref (k + 1) :: as) M H.size) (as.map (ri_cv dA)) := ⟨rs_blind, hrecv, rs_pre hts hA hAt hS hT rfl⟩
  have hlen : (as.map (ri_cv dA)).length = b := by simpa using hl1
  have hcat2 : 2 * (F0 m pc ls (st.map (ri_cv dA))).monitorRoom + ((rr.map (ri_cv dA)).map fun v => v.category).sum ≤ 8 := lv_room (by have := hcat; rw [← ri_cat_map (dA := dA)] at this; exact this)
  have hG := ri_goodIn TB.1 hn k2 (ri_hac TB.1)
  have hR1 : d1 + 2 ≤ R.frames ∧ 400 * (d1 + 2) ≤ R.locals := by omega
  have K : ri_Go p l e R s m args below meth c' Q μ.X D A μ.nL dA dT M.length cc (pc + 3, L, v.toList ++ rr, M1, cc + 0, sc + 0) := by
    intro dA1 dT1 H1 locs1 ls1 hag hAt1
    obtain ⟨-, -, -, -, h5⟩ := hag
    obtain ⟨rfl, rfl⟩ := h5 rfl
    exact g TB hck p l e R s m args below meth c' H1 locs1 Q A D dA1 dT1 cc sc ls1 Fx0 hS hT hR hr hend hAt1
  rcases hl with hl | hl
  · exact ri_called (va_runV ⟨hx, hb, hml, hown, hts⟩ (he TB l D dA dT H.size) ⟨callB_of b hts hG rfl rfl rfl (hts _ k3) (hts _ hl) hnd (ri_roomy k4 hR1), hts _ k5, hts _ k6⟩ hpre rfl hlen hAt.2.2.2.2.2.2.1.1 hstk hcat2 hdec hr) hAt hA (Or.inl rfl) rfl K
  · exact ri_called (va_runVN ⟨hx, hb, hml, hown, hts⟩ (he TB l D dA dT H.size) ⟨va_cnB b hts hG rfl rfl rfl (va_Nw.of rfl (hts _ hl)) (hts _ k3) hnd (ri_roomy k4 hR1), hts _ k5, hts _ k6⟩ hpre rfl hlen hAt.2.2.2.2.2.2.1.1 hstk hcat2 hdec hr) hAt hA (Or.inl rfl) rfl K
theorem hR_hcs {i : Nat} (he : hEv d1 a as M (v, M1)) (hd : d1 ≤ d) (hc : μ.cd pc = some (.invokestatic i, len, a, b, c)) (hs : ri_spl b [] st = some (as, rr)) (h01 : Nat.blt (c % 16) 2 = true) (hcat : ri_cat rr ≤ 8) (g : hRun d μ (pc + 3) L (v.toList ++ rr) M1 r) : hRun d μ pc L st M r := by
  intro TB hck p l e R s m args below meth c' H locs Q A D dA dT cc sc ls Fx hS hT hR hr hend hAt
  have hck1 := hck _ _ hc
  have hdec := ri_ck_d hck1
  have hm1 : _ = true := (Bool.and_eq_true _ _ ▸ (show (_ && _) = true from hck1)).2
  have hm2 : (ri_lk μ.own i a b c && decide (ri_kd a = 0)) = true := by
    have h01' : c % 16 = 0 ∨ c % 16 = 1 := by
      have : c % 16 < 2 := by simpa [Nat.blt_eq] using h01
      omega
    dsimp only at hm1
    rcases h01' with e | e <;> rw [e] at hm1 <;> exact hm1
  rw [Bool.and_eq_true, decide_eq_true_eq] at hm2
  obtain ⟨hlk, hkd⟩ := hm2
  have Fx0 := Fx
  obtain ⟨hx, hb, hml, hown, hts, hnm, hA⟩ := Fx
  obtain ⟨hn, hnd, hl⟩ := ri_lk_ok hlk
  have hmk := TB.1.1 a hn
  obtain ⟨k1, k2, k3, k4⟩ := ri_mk_ok hmk
  have k5 := ri_mk_0 hmk hkd
  obtain ⟨hl1, hl2⟩ := ri_spl_ok _ _ _ _ _ hs
  have hst : st = as.reverse ++ rr := hl2.symm
  have hstk : st.map (ri_cv dA) = (as.map (ri_cv dA)).reverse ++ rr.map (ri_cv dA) := by
    rw [hst, List.map_append, List.map_reverse]
  have hpre : PreS s H (rs_P D dA dT as M H.size) (as.map (ri_cv dA)) := ⟨rs_blind, rs_pre hts hA hAt hS hT rfl⟩
  have hlen : (as.map (ri_cv dA)).length = b := by simpa using hl1
  have hcat2 : 2 * (F0 m pc ls (st.map (ri_cv dA))).monitorRoom + ((rr.map (ri_cv dA)).map fun v => v.category).sum ≤ 8 := lv_room (by have := hcat; rw [← ri_cat_map (dA := dA)] at this; exact this)
  have hG := ri_goodIn TB.1 hn k2 (ri_hac TB.1)
  have hR1 : d1 + 2 ≤ R.frames ∧ 400 * (d1 + 2) ≤ R.locals := by omega
  have K : ri_Go p l e R s m args below meth c' Q μ.X D A μ.nL dA dT M.length cc (pc + 3, L, v.toList ++ rr, M1, cc + 0, sc + 0) := by
    intro dA1 dT1 H1 locs1 ls1 hag hAt1
    obtain ⟨-, -, -, -, h5⟩ := hag
    obtain ⟨rfl, rfl⟩ := h5 rfl
    exact g TB hck p l e R s m args below meth c' H1 locs1 Q A D dA1 dT1 cc sc ls1 Fx0 hS hT hR hr hend hAt1
  have hM := he TB l D dA dT H.size
  rcases hl with hl | hl
  · exact ri_called (va_runS ⟨hx, hb, hml, hown, hts⟩ hM ⟨callB_of b hts hG rfl rfl rfl (hts _ k3) (hts _ hl) hnd (ri_roomy k4 hR1), hts _ k5⟩ hpre rfl hlen hAt.2.2.2.2.2.2.1.1 hstk hcat2 hdec hr) hAt hA (Or.inl rfl) rfl K
  · exact ri_called (va_runSN ⟨hx, hb, hml, hown, hts⟩ hM ⟨va_cnB b hts hG rfl rfl rfl (va_Nw.of rfl (hts _ hl)) (hts _ k3) hnd (ri_roomy k4 hR1), hts _ k5, trivial⟩ hpre rfl hlen hAt.2.2.2.2.2.2.1.1 hstk hcat2 hdec hr) hAt hA (Or.inl rfl) rfl K
theorem hR_hcvI {i k : Nat} {x : Int32} (he : hEv d1 a (.ref (k + 1) :: as) (wmk s) (some (.int x), M1)) (hd : d1 ≤ d) (hc : μ.cd pc = some (.invokevirtual i, len, a, b, c)) (hs : ri_spl b [] st = some (as, .ref (k + 1) :: rr)) (hk : wkd k = ri_rc a) (hr : Nat.blt (ri_rc a) 12 = true) (hcat : Nat.ble (ri_cat rr) 8 = true) (g : hRun d μ (pc + 3) L (.int x :: rr) M1 r) : hRun d μ pc L st (wmk s) r := by
  have hr' : ri_rc a < 12 := by simpa [Nat.blt_eq] using hr
  exact hR_hcv he hd hc hs ⟨_, wget_o hk hr'⟩ (Nat.le_of_ble_eq_true hcat) g
theorem hR_hcvV {i k : Nat} (he : hEv d1 a (.ref (k + 1) :: as) (wmk s) (none, M1)) (hd : d1 ≤ d) (hc : μ.cd pc = some (.invokevirtual i, len, a, b, c)) (hs : ri_spl b [] st = some (as, .ref (k + 1) :: rr)) (hk : wkd k = ri_rc a) (hr : Nat.blt (ri_rc a) 12 = true) (hcat : Nat.ble (ri_cat rr) 8 = true) (g : hRun d μ (pc + 3) L rr M1 r) : hRun d μ pc L st (wmk s) r := by
  have hr' : ri_rc a < 12 := by simpa [Nat.blt_eq] using hr
  exact hR_hcv he hd hc hs ⟨_, wget_o hk hr'⟩ (Nat.le_of_ble_eq_true hcat) g
theorem hR_hcsI {i : Nat} {x : Int32} (he : hEv d1 a as M (some (.int x), M1)) (hd : d1 ≤ d) (hc : μ.cd pc = some (.invokestatic i, len, a, b, c)) (hs : ri_spl b [] st = some (as, rr)) (h01 : Nat.blt (c % 16) 2 = true) (hcat : Nat.ble (ri_cat rr) 8 = true) (g : hRun d μ (pc + 3) L (.int x :: rr) M1 r) : hRun d μ pc L st M r := hR_hcs he hd hc hs h01 (Nat.le_of_ble_eq_true hcat) g
theorem hEv_w {t : wS} (ha : a < ri_n) (he : ri_ent as (ri_ml a) = some L) (h : hRun d (hm a) 0 L [] (wmk s) (v, wmk t)) : hEv (d + 1) a as (wmk s) (v, wmk t) := hEv_of ha he (by simp [wmk]) h
end HC
/-- charAt, as a function -/
noncomputable def ri_sln (i : Nat) : Int32 := Int32.ofNat (rs_L.getD i 0)
noncomputable def wsch (i : Nat) (k : Int32) : Option Int32 := if ¬ k < 0 ∧ k < ri_sln i then some (rs_ch i k) else none
theorem wsch_ok {i : Nat} {k t : Int32} (hi : i < 16) (h : wsch i k = some t) : (¬ k < 0 ∧ k < Int32.ofNat (rs_L.getD i 0) ∧ vp_in k (rs_L.getD i 0)) ∧ t = rs_ch i k := by
  unfold wsch at h
  split at h
  · next hc =>
    refine ⟨⟨hc.1, hc.2, ?_⟩, (Option.some.inj h).symm⟩
    have z : ∀ i < 16, (Int32.ofNat (rs_L.getD i 0)).toInt = rs_L.getD i 0 := by decide +kernel
    have h1 := t_lt hc.2
    have h0 := t_ge hc.1
    rw [t_i0] at h0
    unfold ri_sln at h1
    rw [z i hi] at h1
    exact t_ix h0 h1
  · cases h
