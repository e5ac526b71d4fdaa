section
/-! The law: its switch, its loop. -/
section LAW
variable {n : Nat} {xs : Nat → Int32}
theorem lo_sw {i v : Int32} {s : wS} (hi : 0 ≤ i.toInt) (hn : i.toInt + 6 ≤ n) (hn2 : n ≤ 3072) (g : JB s) (K : ∀ s2, JB s2 → LK n xs i 1617 s2) : ∃ r, hRun 60 (hL n xs) 33 [some (.ref 0), some (.ref 1), some (.ref 153), some (.int i)] [.int v] (wmk s) (some (.int 1), wmk r) := by
  by_cases c0 : v = 0
  · obtain ⟨r, hr⟩ := lo_0 (n := n) (xs := xs) hi hn hn2 g K
    exact ⟨r, hR_sw_k rfl c0 rfl rfl hr⟩
  by_cases c1 : v = 1
  · obtain ⟨r, hr⟩ := lo_1 (n := n) (xs := xs) hi hn hn2 g K
    exact ⟨r, hR_sw_k rfl c1 rfl rfl hr⟩
  by_cases c2 : v = 2
  · obtain ⟨r, hr⟩ := lo_2 (n := n) (xs := xs) hi hn hn2 g K
    exact ⟨r, hR_sw_k rfl c2 rfl rfl hr⟩
  by_cases c3 : v = 3
  · obtain ⟨r, hr⟩ := lo_3 (n := n) (xs := xs) hi hn hn2 g K
    exact ⟨r, hR_sw_k rfl c3 rfl rfl hr⟩
  by_cases c4 : v = 4
  · obtain ⟨r, hr⟩ := lo_4 (n := n) (xs := xs) hi hn hn2 g K
    exact ⟨r, hR_sw_k rfl c4 rfl rfl hr⟩
  by_cases c5 : v = 5
  · obtain ⟨r, hr⟩ := lo_5 (n := n) (xs := xs) hi hn hn2 g K
    exact ⟨r, hR_sw_k rfl c5 rfl rfl hr⟩
  by_cases c6 : v = 6
  · obtain ⟨r, hr⟩ := lo_6 (n := n) (xs := xs) hi hn hn2 g K
    exact ⟨r, hR_sw_k rfl c6 rfl rfl hr⟩
  by_cases c7 : v = 7
  · obtain ⟨r, hr⟩ := lo_7 (n := n) (xs := xs) hi hn hn2 g K
    exact ⟨r, hR_sw_k rfl c7 rfl rfl hr⟩
  by_cases c8 : v = 8
  · obtain ⟨r, hr⟩ := lo_8 (n := n) (xs := xs) hi hn hn2 g K
    exact ⟨r, hR_sw_k rfl c8 rfl rfl hr⟩
  by_cases c9 : v = 9
  · obtain ⟨r, hr⟩ := lo_9 (n := n) (xs := xs) hi hn hn2 g K
    exact ⟨r, hR_sw_k rfl c9 rfl rfl hr⟩
  by_cases c10 : v = 10
  · obtain ⟨r, hr⟩ := lo_10 (n := n) (xs := xs) hi hn hn2 g K
    exact ⟨r, hR_sw_k rfl c10 rfl rfl hr⟩
  by_cases c11 : v = 11
  · obtain ⟨r, hr⟩ := lo_11 (n := n) (xs := xs) hi hn hn2 g K
    exact ⟨r, hR_sw_k rfl c11 rfl rfl hr⟩
  by_cases c12 : v = 12
  · obtain ⟨r, hr⟩ := lo_12 (n := n) (xs := xs) hi hn hn2 g K
    exact ⟨r, hR_sw_k rfl c12 rfl rfl hr⟩
  by_cases c13 : v = 13
  · obtain ⟨r, hr⟩ := lo_13 (n := n) (xs := xs) hi hn hn2 g K
    exact ⟨r, hR_sw_k rfl c13 rfl rfl hr⟩
  by_cases c14 : v = 14
  · obtain ⟨r, hr⟩ := lo_14 (n := n) (xs := xs) hi hn hn2 g K
    exact ⟨r, hR_sw_k rfl c14 rfl rfl hr⟩
  by_cases c15 : v = 15
  · obtain ⟨r, hr⟩ := lo_15 (n := n) (xs := xs) hi hn hn2 g K
    exact ⟨r, hR_sw_k rfl c15 rfl rfl hr⟩
  by_cases c16 : v = 16
  · obtain ⟨r, hr⟩ := lo_16 (n := n) (xs := xs) hi hn hn2 g K
    exact ⟨r, hR_sw_k rfl c16 rfl rfl hr⟩
  by_cases c17 : v = 17
  · obtain ⟨r, hr⟩ := lo_17 (n := n) (xs := xs) hi hn hn2 g K
    exact ⟨r, hR_sw_k rfl c17 rfl rfl hr⟩
  by_cases c18 : v = 18
  · obtain ⟨r, hr⟩ := lo_18 (n := n) (xs := xs) hi hn hn2 g K
    exact ⟨r, hR_sw_k rfl c18 rfl rfl hr⟩
  by_cases c19 : v = 19
  · obtain ⟨r, hr⟩ := lo_19 (n := n) (xs := xs) hi hn hn2 g K
    exact ⟨r, hR_sw_k rfl c19 rfl rfl hr⟩
  by_cases c20 : v = 20
  · obtain ⟨r, hr⟩ := lo_20 (n := n) (xs := xs) hi hn hn2 g K
    exact ⟨r, hR_sw_k rfl c20 rfl rfl hr⟩
  by_cases c21 : v = 21
  · obtain ⟨r, hr⟩ := lo_21 (n := n) (xs := xs) hi hn hn2 g K
    exact ⟨r, hR_sw_k rfl c21 rfl rfl hr⟩
  by_cases c22 : v = 22
  · obtain ⟨r, hr⟩ := lo_22 (n := n) (xs := xs) hi hn hn2 g K
    exact ⟨r, hR_sw_k rfl c22 rfl rfl hr⟩
  by_cases c23 : v = 23
  · obtain ⟨r, hr⟩ := lo_23 (n := n) (xs := xs) hi hn hn2 g K
    exact ⟨r, hR_sw_k rfl c23 rfl rfl hr⟩
  by_cases c24 : v = 24
  · obtain ⟨r, hr⟩ := lo_24 (n := n) (xs := xs) hi hn hn2 g K
    exact ⟨r, hR_sw_k rfl c24 rfl rfl hr⟩
  by_cases c25 : v = 25
  · obtain ⟨r, hr⟩ := lo_25 (n := n) (xs := xs) hi hn hn2 g K
    exact ⟨r, hR_sw_k rfl c25 rfl rfl hr⟩
  by_cases c26 : v = 26
  · obtain ⟨r, hr⟩ := lo_26 (n := n) (xs := xs) hi hn hn2 g K
    exact ⟨r, hR_sw_k rfl c26 rfl rfl hr⟩
  by_cases c27 : v = 27
  · obtain ⟨r, hr⟩ := lo_27 (n := n) (xs := xs) hi hn hn2 g K
    exact ⟨r, hR_sw_k rfl c27 rfl rfl hr⟩
  by_cases c28 : v = 28
  · obtain ⟨r, hr⟩ := lo_28 (n := n) (xs := xs) hi hn hn2 g K
    exact ⟨r, hR_sw_k rfl c28 rfl rfl hr⟩
  by_cases c29 : v = 29
  · obtain ⟨r, hr⟩ := lo_29 (n := n) (xs := xs) hi hn hn2 g K
    exact ⟨r, hR_sw_k rfl c29 rfl rfl hr⟩
  by_cases c30 : v = 30
  · obtain ⟨r, hr⟩ := lo_30 (n := n) (xs := xs) hi hn hn2 g K
    exact ⟨r, hR_sw_k rfl c30 rfl rfl hr⟩
  by_cases c31 : v = 31
  · obtain ⟨r, hr⟩ := lo_31 (n := n) (xs := xs) hi hn hn2 g K
    exact ⟨r, hR_sw_k rfl c31 rfl rfl hr⟩
  by_cases c32 : v = 32
  · obtain ⟨r, hr⟩ := lo_32 (n := n) (xs := xs) hi hn hn2 g K
    exact ⟨r, hR_sw_k rfl c32 rfl rfl hr⟩
  by_cases c33 : v = 33
  · obtain ⟨r, hr⟩ := lo_33 (n := n) (xs := xs) hi hn hn2 g K
    exact ⟨r, hR_sw_k rfl c33 rfl rfl hr⟩
  by_cases c34 : v = 34
  · obtain ⟨r, hr⟩ := lo_34 (n := n) (xs := xs) hi hn hn2 g K
    exact ⟨r, hR_sw_k rfl c34 rfl rfl hr⟩
  by_cases c35 : v = 35
  · obtain ⟨r, hr⟩ := lo_35 (n := n) (xs := xs) hi hn hn2 g K
    exact ⟨r, hR_sw_k rfl c35 rfl rfl hr⟩
  by_cases c36 : v = 36
  · obtain ⟨r, hr⟩ := lo_36 (n := n) (xs := xs) hi hn hn2 g K
    exact ⟨r, hR_sw_k rfl c36 rfl rfl hr⟩
  by_cases c37 : v = 37
  · obtain ⟨r, hr⟩ := lo_37 (n := n) (xs := xs) hi hn hn2 g K
    exact ⟨r, hR_sw_k rfl c37 rfl rfl hr⟩
  by_cases c38 : v = 38
  · obtain ⟨r, hr⟩ := lo_38 (n := n) (xs := xs) hi hn hn2 g K
    exact ⟨r, hR_sw_k rfl c38 rfl rfl hr⟩
  obtain ⟨r, hr⟩ := K s g
  exact ⟨r, hR_sw_d [0, 1, 2, 3, 4, 5, 6, 7, 8, 9, 10, 11, 12, 13, 14, 15, 16, 17, 18, 19, 20, 21, 22, 23, 24, 25, 26, 27, 28, 29, 30, 31, 32, 33, 34, 35, 36, 37, 38] rfl (gl1 c0 (gl1 c1 (gl1 c2 (gl1 c3 (gl1 c4 (gl1 c5 (gl1 c6 (gl1 c7 (gl1 c8 (gl1 c9 (gl1 c10 (gl1 c11 (gl1 c12 (gl1 c13 (gl1 c14 (gl1 c15 (gl1 c16 (gl1 c17 (gl1 c18 (gl1 c19 (gl1 c20 (gl1 c21 (gl1 c22 (gl1 c23 (gl1 c24 (gl1 c25 (gl1 c26 (gl1 c27 (gl1 c28 (gl1 c29 (gl1 c30 (gl1 c31 (gl1 c32 (gl1 c33 (gl1 c34 (gl1 c35 (gl1 c36 (gl1 c37 (gl1 c38 gl0))))))))))))))))))))))))))))))))))))))) (by decide) (by decide) rfl hr⟩
theorem law_loop (hn2 : n ≤ 3072) : ∀ (N : Nat) {i : Int32} {s : wS}, 0 ≤ i.toInt → i.toInt ≤ n → (n : Int) - i.toInt < N → JB s → LK n xs i 18 s := by
  intro N
  induction N with
  | zero => intro i s h0 h1 hm; exfalso; omega
  | succ N ih =>
    intro i s h0 h1 hm g
    have e6 : ((Int8.ofInt 6).toInt32).toInt = 6 := by decide
    have en : (Int32.ofNat n).toInt = n := Int32.toInt_ofNat_of_lt (by omega)
    have ed : (Int32.ofNat n - (Int8.ofInt 6).toInt32).toInt = n - 6 := by rw [t_sub (by rw [en, e6]; omega) (by rw [en, e6]; omega), en, e6]
    by_cases c : (Int32.ofNat n - (Int8.ofInt 6).toInt32) < i
    · refine ⟨s, ?_⟩
      refine hR_go 4 (pc1 := 23) (L1 := [some (.ref 0), some (.ref 1), some (.ref 153), some (.int i)]) (st1 := [.int (Int8.ofInt 6).toInt32, .int (Int32.ofNat n), .int i]) rfl ?_
      refine hR_sub rfl ?_
      refine hR_ic_gt_j (t := 1623) rfl c rfl ?_
      refine hR_go 1 (pc1 := 1624) (L1 := [some (.ref 0), some (.ref 1), some (.ref 153), some (.int i)]) (st1 := [.int 1]) rfl ?_
      exact hR_rzc rfl rfl rfl
    · have hc := t_ge c
      rw [ed] at hc
      have K : ∀ s2, JB s2 → LK n xs i 1617 s2 := by
        intro s2 g2
        have e := t_pl (x := i) (d := 6) (m := 6) rfl (by omega) (by omega) h0 (by omega)
        obtain ⟨r, hr⟩ := ih (i := i + 6) (s := s2) (by omega) (by omega) (by omega) g2
        exact ⟨r, hR_go 2 (pc1 := 18) (L1 := [some (.ref 0), some (.ref 1), some (.ref 153), some (.int (i + 6))]) (st1 := []) rfl hr⟩
      obtain ⟨r, hr⟩ := lo_sw (n := n) (xs := xs) (v := xs i.toNatClampNeg &&& (Int8.ofInt 63).toInt32) h0 (by omega) hn2 g K
      refine ⟨r, ?_⟩
      refine hR_go 4 (pc1 := 23) (L1 := [some (.ref 0), some (.ref 1), some (.ref 153), some (.int i)]) (st1 := [.int (Int8.ofInt 6).toInt32, .int (Int32.ofNat n), .int i]) rfl ?_
      refine hR_sub rfl ?_
      refine hR_ic_gt_f rfl c ?_
      refine hR_go 2 (pc1 := 29) (L1 := [some (.ref 0), some (.ref 1), some (.ref 153), some (.int i)]) (st1 := [.int i, .ref 0]) rfl ?_
      refine hR_ialX rfl (t_ix h0 (by omega)) ?_
      exact hR_go 2 (pc1 := 33) (L1 := [some (.ref 0), some (.ref 1), some (.ref 153), some (.int i)]) (st1 := [.int (xs i.toNatClampNeg &&& (Int8.ofInt 63).toInt32)]) rfl hr
/-- the whole of it -/
theorem law_all (hn2 : n ≤ 3072) {s : wS} (g : JB s) : LK n xs 0 18 s := law_loop hn2 4000 (by decide) (by rw [t_i0]; omega) (by rw [t_i0]; omega) g
end LAW
end
section
/-! The start, with the tables. -/
theorem w0_JB : JB w0 := ⟨w0_JA, fun l hl => absurd hl (by
  rw [show w0.1 152 2 = 0 from rfl, t_i0]
  omega)⟩
end
