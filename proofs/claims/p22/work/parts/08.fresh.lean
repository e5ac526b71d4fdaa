/-! The fresh objects: what the two constructors make. -/
noncomputable def ri_fl (l : List (Option Nat)) : Nat → Option Nat := fun j => match l[j]? with
  | some q => q
  | none => none
noncomputable def ri_c (d : Nat) : ri_Ca := ri_call ri_tc ri_ml ri_rt ri_rc 100000 d
noncomputable def ri_eqC : ri_C → ri_C → Bool
  | .inr (a, fs), .inr (b, gs) => decide (a = b) && decide (fs = gs)
  | .inl (t, (n, .inl f)), .inl (u, (m, .inl g)) => decide (t = u) && (decide (n = m) && (List.range n).all fun j => decide (f j = g j))
  | .inl (t, (n, .inr (.inl f))), .inl (u, (m, .inr (.inl g))) => decide (t = u) && (decide (n = m) && (List.range n).all fun j => decide (f j = g j))
  | .inl (t, (n, .inr (.inr (.inr (.inr f))))), .inl (u, (m, .inr (.inr (.inr (.inr g))))) => decide (t = u) && (decide (n = m) && (List.range n).all fun j => decide (f j = g j))
  | _, _ => false
noncomputable def ri_eqM : ri_M → ri_M → Bool
  | [], [] => true
  | x :: xs, y :: ys => ri_eqC x y && ri_eqM xs ys
  | _, _ => false
noncomputable def ri_M3 : ri_M := [.inr (10, [.ref 2, .ref 4, .ref 8, .ref 9, .ref 10, .ref 14, .int 0, .ref 15, .ref 27, .ref 28, .ref 29, .ref 33, .ref 34, .ref 35, .ref 36, .ref 38, .ref 40, .ref 41]),
  .inr (8, [.ref 3, .int 0]),
  .inl (.byte, (400, .inl (fun _ => 0))),
  .inr (9, [.ref 5, .ref 6, .ref 7, .int 0, .int 0, .int 0]),
  .inl (.int, (401, .inl (fun _ => 0))),
  .inl (.int, (401, .inl (fun _ => 0))),
  .inl (.int, (401, .inl (fun _ => 0))),
  .inr (1, [.int 0]),
  .inr (4, [.int 0]),
  .inr (0, [.ref 11, .ref 12, .ref 13]),
  .inl (.int, (3, .inl (fun _ => 0))),
  .inl (.int, (24, .inl (fun _ => 0))),
  .inl (.int, (24, .inl (fun _ => 0))),
  .inl (.object RX3, (6, .inr (.inr (.inr (.inr (ri_fl [some 45, some 55, some 65, some 75, some 85, some 95])))))),
  .inr (2, [.ref 16, .ref 20, .ref 21, .ref 22, .ref 23, .ref 24, .int 0, .int (-1), .ref 25, .ref 26, .int 0, .int 0]),
  .inr (0, [.ref 17, .ref 18, .ref 19]),
  .inl (.int, (3, .inl (fun _ => 0))),
  .inl (.int, (24, .inl (fun _ => 0))),
  .inl (.int, (24, .inl (fun _ => 0))),
  .inl (.int, (40, .inl (fun _ => 0))),
  .inl (.int, (40, .inl (fun _ => 0))),
  .inl (.int, (40, .inl (fun _ => 0))),
  .inl (.int, (40, .inl (fun _ => 0))),
  .inl (.boolean, (40, .inl (fun _ => 0))),
  .inl (.int, (10, .inl (fun _ => 0))),
  .inl (.int, (10, .inl (fun _ => 0))),
  .inl (.object RX2, (4, .inr (.inr (.inr (.inr (ri_fl [some 105, some 117, some 129, some 141])))))),
  .inl (.boolean, (4, .inl (fun _ => 0))),
  .inr (5, [.ref 30, .ref 31, .ref 32, .int 0]),
  .inl (.int, (84, .inl (fun _ => 0))),
  .inl (.int, (84, .inl (fun _ => 0))),
  .inl (.int, (84, .inl (fun _ => 0))),
  .inl (.int, (24, .inl (fun _ => 0))),
  .inl (.int, (512, .inl (fun _ => 0))),
  .inl (.int, (512, .inl (fun _ => 0))),
  .inr (7, [.ref 37, .int 0]),
  .inl (.int, (24, .inl (fun _ => 0))),
  .inr (7, [.ref 39, .int 0]),
  .inl (.int, (24, .inl (fun _ => 0))),
  .inl (.int, (12, .inl (fun _ => 0))),
  .inr (6, [.ref 42, .ref 43, .ref 44, .int 0, .int 0]),
  .inl (.int, (84, .inl (fun _ => 0))),
  .inl (.int, (84, .inl (fun _ => 0))),
  .inl (.int, (256, .inl (fun _ => 0))),
  .inr (3, [.ref 46, .int 0, .ref 47, .ref 48, .ref 49, .ref 50, .int 0, .ref 51, .ref 52, .int 0, .ref 53, .ref 54, .int 0]),
  .inl (.int, (400, .inl (fun _ => 0))),
  .inl (.int, (12, .inl (fun _ => 0))),
  .inl (.int, (12, .inl (fun _ => 0))),
  .inl (.int, (12, .inl (fun _ => 0))),
  .inl (.int, (12, .inl (fun _ => 0))),
  .inl (.long, (8, .inr (.inl fun _ => 0))),
  .inl (.long, (61, .inr (.inl fun _ => 0))),
  .inl (.long, (192, .inr (.inl fun _ => 0))),
  .inl (.int, (192, .inl (fun _ => 0))),
  .inr (3, [.ref 56, .int 0, .ref 57, .ref 58, .ref 59, .ref 60, .int 0, .ref 61, .ref 62, .int 0, .ref 63, .ref 64, .int 0]),
  .inl (.int, (400, .inl (fun _ => 0))),
  .inl (.int, (12, .inl (fun _ => 0))),
  .inl (.int, (12, .inl (fun _ => 0))),
  .inl (.int, (12, .inl (fun _ => 0))),
  .inl (.int, (12, .inl (fun _ => 0))),
  .inl (.long, (8, .inr (.inl fun _ => 0))),
  .inl (.long, (61, .inr (.inl fun _ => 0))),
  .inl (.long, (192, .inr (.inl fun _ => 0))),
  .inl (.int, (192, .inl (fun _ => 0))),
  .inr (3, [.ref 66, .int 0, .ref 67, .ref 68, .ref 69, .ref 70, .int 0, .ref 71, .ref 72, .int 0, .ref 73, .ref 74, .int 0]),
  .inl (.int, (400, .inl (fun _ => 0))),
  .inl (.int, (12, .inl (fun _ => 0))),
  .inl (.int, (12, .inl (fun _ => 0))),
  .inl (.int, (12, .inl (fun _ => 0))),
  .inl (.int, (12, .inl (fun _ => 0))),
  .inl (.long, (8, .inr (.inl fun _ => 0))),
  .inl (.long, (61, .inr (.inl fun _ => 0))),
  .inl (.long, (192, .inr (.inl fun _ => 0))),
  .inl (.int, (192, .inl (fun _ => 0))),
  .inr (3, [.ref 76, .int 0, .ref 77, .ref 78, .ref 79, .ref 80, .int 0, .ref 81, .ref 82, .int 0, .ref 83, .ref 84, .int 0]),
  .inl (.int, (400, .inl (fun _ => 0))),
  .inl (.int, (12, .inl (fun _ => 0))),
  .inl (.int, (12, .inl (fun _ => 0))),
  .inl (.int, (12, .inl (fun _ => 0))),
  .inl (.int, (12, .inl (fun _ => 0))),
  .inl (.long, (8, .inr (.inl fun _ => 0))),
  .inl (.long, (61, .inr (.inl fun _ => 0))),
  .inl (.long, (192, .inr (.inl fun _ => 0))),
  .inl (.int, (192, .inl (fun _ => 0))),
  .inr (3, [.ref 86, .int 0, .ref 87, .ref 88, .ref 89, .ref 90, .int 0, .ref 91, .ref 92, .int 0, .ref 93, .ref 94, .int 0]),
  .inl (.int, (400, .inl (fun _ => 0))),
  .inl (.int, (12, .inl (fun _ => 0))),
  .inl (.int, (12, .inl (fun _ => 0))),
  .inl (.int, (12, .inl (fun _ => 0))),
  .inl (.int, (12, .inl (fun _ => 0))),
  .inl (.long, (8, .inr (.inl fun _ => 0))),
  .inl (.long, (61, .inr (.inl fun _ => 0))),
  .inl (.long, (192, .inr (.inl fun _ => 0))),
  .inl (.int, (192, .inl (fun _ => 0))),
  .inr (3, [.ref 96, .int 0, .ref 97, .ref 98, .ref 99, .ref 100, .int 0, .ref 101, .ref 102, .int 0, .ref 103, .ref 104, .int 0]),
  .inl (.int, (400, .inl (fun _ => 0))),
  .inl (.int, (12, .inl (fun _ => 0))),
  .inl (.int, (12, .inl (fun _ => 0))),
  .inl (.int, (12, .inl (fun _ => 0))),
  .inl (.int, (12, .inl (fun _ => 0))),
  .inl (.long, (8, .inr (.inl fun _ => 0))),
  .inl (.long, (61, .inr (.inl fun _ => 0))),
  .inl (.long, (192, .inr (.inl fun _ => 0))),
  .inl (.int, (192, .inl (fun _ => 0))),
  .inr (2, [.ref 106, .ref 110, .ref 111, .ref 112, .ref 113, .ref 114, .int 0, .int (-1), .ref 115, .ref 116, .int 0, .int 0]),
  .inr (0, [.ref 107, .ref 108, .ref 109]),
  .inl (.int, (3, .inl (fun _ => 0))),
  .inl (.int, (24, .inl (fun _ => 0))),
  .inl (.int, (24, .inl (fun _ => 0))),
  .inl (.int, (40, .inl (fun _ => 0))),
  .inl (.int, (40, .inl (fun _ => 0))),
  .inl (.int, (40, .inl (fun _ => 0))),
  .inl (.int, (40, .inl (fun _ => 0))),
  .inl (.boolean, (40, .inl (fun _ => 0))),
  .inl (.int, (10, .inl (fun _ => 0))),
  .inl (.int, (10, .inl (fun _ => 0))),
  .inr (2, [.ref 118, .ref 122, .ref 123, .ref 124, .ref 125, .ref 126, .int 0, .int (-1), .ref 127, .ref 128, .int 0, .int 0]),
  .inr (0, [.ref 119, .ref 120, .ref 121]),
  .inl (.int, (3, .inl (fun _ => 0))),
  .inl (.int, (24, .inl (fun _ => 0))),
  .inl (.int, (24, .inl (fun _ => 0))),
  .inl (.int, (40, .inl (fun _ => 0))),
  .inl (.int, (40, .inl (fun _ => 0))),
  .inl (.int, (40, .inl (fun _ => 0))),
  .inl (.int, (40, .inl (fun _ => 0))),
  .inl (.boolean, (40, .inl (fun _ => 0))),
  .inl (.int, (10, .inl (fun _ => 0))),
  .inl (.int, (10, .inl (fun _ => 0))),
  .inr (2, [.ref 130, .ref 134, .ref 135, .ref 136, .ref 137, .ref 138, .int 0, .int (-1), .ref 139, .ref 140, .int 0, .int 0]),
  .inr (0, [.ref 131, .ref 132, .ref 133]),
  .inl (.int, (3, .inl (fun _ => 0))),
  .inl (.int, (24, .inl (fun _ => 0))),
  .inl (.int, (24, .inl (fun _ => 0))),
  .inl (.int, (40, .inl (fun _ => 0))),
  .inl (.int, (40, .inl (fun _ => 0))),
  .inl (.int, (40, .inl (fun _ => 0))),
  .inl (.int, (40, .inl (fun _ => 0))),
  .inl (.boolean, (40, .inl (fun _ => 0))),
  .inl (.int, (10, .inl (fun _ => 0))),
  .inl (.int, (10, .inl (fun _ => 0))),
  .inr (2, [.ref 142, .ref 146, .ref 147, .ref 148, .ref 149, .ref 150, .int 0, .int (-1), .ref 151, .ref 152, .int 0, .int 0]),
  .inr (0, [.ref 143, .ref 144, .ref 145]),
  .inl (.int, (3, .inl (fun _ => 0))),
  .inl (.int, (24, .inl (fun _ => 0))),
  .inl (.int, (24, .inl (fun _ => 0))),
  .inl (.int, (40, .inl (fun _ => 0))),
  .inl (.int, (40, .inl (fun _ => 0))),
  .inl (.int, (40, .inl (fun _ => 0))),
  .inl (.int, (40, .inl (fun _ => 0))),
  .inl (.boolean, (40, .inl (fun _ => 0))),
  .inl (.int, (10, .inl (fun _ => 0))),
  .inl (.int, (10, .inl (fun _ => 0))),
  .inr (11, [.ref 154, .int 0, .int 0, .ref 155, .ref 156, .ref 157, .ref 158, .int 0, .int 0, .int 0, .ref 159, .ref 160, .int 0, .int 0, .int 0, .int 0, .int 0, .int 0, .int 0, .ref 161, .int 0, .ref 162, .int 0, .ref 163, .ref 164, .ref 165, .ref 166, .int 0, .int 0, .int 0, .ref 167, .ref 168, .ref 169, .int 0, .int 0, .int 0, .ref 170, .ref 171, .ref 172]),
  .inl (.byte, (400, .inl (fun _ => 0))),
  .inl (.int, (2400, .inl (fun _ => 0))),
  .inl (.int, (7, .inl (fun _ => 0))),
  .inl (.int, (360, .inl (fun _ => 0))),
  .inl (.int, (6, .inl (fun _ => 0))),
  .inl (.int, (16, .inl (fun _ => 0))),
  .inl (.int, (16, .inl (fun _ => 0))),
  .inl (.int, (400, .inl (fun _ => 0))),
  .inl (.long, (64, .inr (.inl fun _ => 0))),
  .inl (.long, (8, .inr (.inl fun _ => 0))),
  .inl (.int, (262, .inl (upd (fun _ => 0) 4 (-1)))),
  .inl (.long, (192, .inr (.inl fun _ => 0))),
  .inl (.boolean, (512, .inl (fun _ => 0))),
  .inl (.int, (512, .inl (fun _ => 0))),
  .inl (.int, (512, .inl (fun _ => 0))),
  .inl (.int, (252, .inl (fun _ => 0))),
  .inl (.long, (168, .inr (.inl fun _ => 0))),
  .inl (.int, (1048, .inl (fun _ => 0))),
  .inl (.boolean, (4, .inl (fun _ => 0)))]
theorem ri_M3_0 : ri_M3[0]? = some (.inr (10, [.ref 2, .ref 4, .ref 8, .ref 9, .ref 10, .ref 14, .int 0, .ref 15, .ref 27, .ref 28, .ref 29, .ref 33, .ref 34, .ref 35, .ref 36, .ref 38, .ref 40, .ref 41])) := rfl
theorem ri_M3_1 : ri_M3[1]? = some (.inr (8, [.ref 3, .int 0])) := rfl
theorem ri_M3_2 : ri_M3[2]? = some (.inl (.byte, (400, .inl (fun _ => 0)))) := rfl
theorem ri_M3_3 : ri_M3[3]? = some (.inr (9, [.ref 5, .ref 6, .ref 7, .int 0, .int 0, .int 0])) := rfl
theorem ri_M3_4 : ri_M3[4]? = some (.inl (.int, (401, .inl (fun _ => 0)))) := rfl
theorem ri_M3_5 : ri_M3[5]? = some (.inl (.int, (401, .inl (fun _ => 0)))) := rfl
theorem ri_M3_6 : ri_M3[6]? = some (.inl (.int, (401, .inl (fun _ => 0)))) := rfl
theorem ri_M3_7 : ri_M3[7]? = some (.inr (1, [.int 0])) := rfl
theorem ri_M3_8 : ri_M3[8]? = some (.inr (4, [.int 0])) := rfl
theorem ri_M3_9 : ri_M3[9]? = some (.inr (0, [.ref 11, .ref 12, .ref 13])) := rfl
theorem ri_M3_10 : ri_M3[10]? = some (.inl (.int, (3, .inl (fun _ => 0)))) := rfl
theorem ri_M3_11 : ri_M3[11]? = some (.inl (.int, (24, .inl (fun _ => 0)))) := rfl
theorem ri_M3_12 : ri_M3[12]? = some (.inl (.int, (24, .inl (fun _ => 0)))) := rfl
theorem ri_M3_13 : ri_M3[13]? = some (.inl (.object RX3, (6, .inr (.inr (.inr (.inr (ri_fl [some 45, some 55, some 65, some 75, some 85, some 95]))))))) := rfl
theorem ri_M3_14 : ri_M3[14]? = some (.inr (2, [.ref 16, .ref 20, .ref 21, .ref 22, .ref 23, .ref 24, .int 0, .int (-1), .ref 25, .ref 26, .int 0, .int 0])) := rfl
theorem ri_M3_15 : ri_M3[15]? = some (.inr (0, [.ref 17, .ref 18, .ref 19])) := rfl
theorem ri_M3_16 : ri_M3[16]? = some (.inl (.int, (3, .inl (fun _ => 0)))) := rfl
theorem ri_M3_17 : ri_M3[17]? = some (.inl (.int, (24, .inl (fun _ => 0)))) := rfl
theorem ri_M3_18 : ri_M3[18]? = some (.inl (.int, (24, .inl (fun _ => 0)))) := rfl
theorem ri_M3_19 : ri_M3[19]? = some (.inl (.int, (40, .inl (fun _ => 0)))) := rfl
theorem ri_M3_20 : ri_M3[20]? = some (.inl (.int, (40, .inl (fun _ => 0)))) := rfl
theorem ri_M3_21 : ri_M3[21]? = some (.inl (.int, (40, .inl (fun _ => 0)))) := rfl
theorem ri_M3_22 : ri_M3[22]? = some (.inl (.int, (40, .inl (fun _ => 0)))) := rfl
theorem ri_M3_23 : ri_M3[23]? = some (.inl (.boolean, (40, .inl (fun _ => 0)))) := rfl
theorem ri_M3_24 : ri_M3[24]? = some (.inl (.int, (10, .inl (fun _ => 0)))) := rfl
theorem ri_M3_25 : ri_M3[25]? = some (.inl (.int, (10, .inl (fun _ => 0)))) := rfl
theorem ri_M3_26 : ri_M3[26]? = some (.inl (.object RX2, (4, .inr (.inr (.inr (.inr (ri_fl [some 105, some 117, some 129, some 141]))))))) := rfl
theorem ri_M3_27 : ri_M3[27]? = some (.inl (.boolean, (4, .inl (fun _ => 0)))) := rfl
theorem ri_M3_28 : ri_M3[28]? = some (.inr (5, [.ref 30, .ref 31, .ref 32, .int 0])) := rfl
theorem ri_M3_29 : ri_M3[29]? = some (.inl (.int, (84, .inl (fun _ => 0)))) := rfl
theorem ri_M3_30 : ri_M3[30]? = some (.inl (.int, (84, .inl (fun _ => 0)))) := rfl
theorem ri_M3_31 : ri_M3[31]? = some (.inl (.int, (84, .inl (fun _ => 0)))) := rfl
theorem ri_M3_32 : ri_M3[32]? = some (.inl (.int, (24, .inl (fun _ => 0)))) := rfl
theorem ri_M3_33 : ri_M3[33]? = some (.inl (.int, (512, .inl (fun _ => 0)))) := rfl
theorem ri_M3_34 : ri_M3[34]? = some (.inl (.int, (512, .inl (fun _ => 0)))) := rfl
theorem ri_M3_35 : ri_M3[35]? = some (.inr (7, [.ref 37, .int 0])) := rfl
theorem ri_M3_36 : ri_M3[36]? = some (.inl (.int, (24, .inl (fun _ => 0)))) := rfl
theorem ri_M3_37 : ri_M3[37]? = some (.inr (7, [.ref 39, .int 0])) := rfl
theorem ri_M3_38 : ri_M3[38]? = some (.inl (.int, (24, .inl (fun _ => 0)))) := rfl
theorem ri_M3_39 : ri_M3[39]? = some (.inl (.int, (12, .inl (fun _ => 0)))) := rfl
theorem ri_M3_40 : ri_M3[40]? = some (.inr (6, [.ref 42, .ref 43, .ref 44, .int 0, .int 0])) := rfl
theorem ri_M3_41 : ri_M3[41]? = some (.inl (.int, (84, .inl (fun _ => 0)))) := rfl
theorem ri_M3_42 : ri_M3[42]? = some (.inl (.int, (84, .inl (fun _ => 0)))) := rfl
theorem ri_M3_43 : ri_M3[43]? = some (.inl (.int, (256, .inl (fun _ => 0)))) := rfl
theorem ri_M3_44 : ri_M3[44]? = some (.inr (3, [.ref 46, .int 0, .ref 47, .ref 48, .ref 49, .ref 50, .int 0, .ref 51, .ref 52, .int 0, .ref 53, .ref 54, .int 0])) := rfl
theorem ri_M3_45 : ri_M3[45]? = some (.inl (.int, (400, .inl (fun _ => 0)))) := rfl
theorem ri_M3_46 : ri_M3[46]? = some (.inl (.int, (12, .inl (fun _ => 0)))) := rfl
theorem ri_M3_47 : ri_M3[47]? = some (.inl (.int, (12, .inl (fun _ => 0)))) := rfl
theorem ri_M3_48 : ri_M3[48]? = some (.inl (.int, (12, .inl (fun _ => 0)))) := rfl
theorem ri_M3_49 : ri_M3[49]? = some (.inl (.int, (12, .inl (fun _ => 0)))) := rfl
theorem ri_M3_50 : ri_M3[50]? = some (.inl (.long, (8, .inr (.inl fun _ => 0)))) := rfl
theorem ri_M3_51 : ri_M3[51]? = some (.inl (.long, (61, .inr (.inl fun _ => 0)))) := rfl
theorem ri_M3_52 : ri_M3[52]? = some (.inl (.long, (192, .inr (.inl fun _ => 0)))) := rfl
theorem ri_M3_53 : ri_M3[53]? = some (.inl (.int, (192, .inl (fun _ => 0)))) := rfl
theorem ri_M3_54 : ri_M3[54]? = some (.inr (3, [.ref 56, .int 0, .ref 57, .ref 58, .ref 59, .ref 60, .int 0, .ref 61, .ref 62, .int 0, .ref 63, .ref 64, .int 0])) := rfl
theorem ri_M3_55 : ri_M3[55]? = some (.inl (.int, (400, .inl (fun _ => 0)))) := rfl
theorem ri_M3_56 : ri_M3[56]? = some (.inl (.int, (12, .inl (fun _ => 0)))) := rfl
theorem ri_M3_57 : ri_M3[57]? = some (.inl (.int, (12, .inl (fun _ => 0)))) := rfl
theorem ri_M3_58 : ri_M3[58]? = some (.inl (.int, (12, .inl (fun _ => 0)))) := rfl
theorem ri_M3_59 : ri_M3[59]? = some (.inl (.int, (12, .inl (fun _ => 0)))) := rfl
theorem ri_M3_60 : ri_M3[60]? = some (.inl (.long, (8, .inr (.inl fun _ => 0)))) := rfl
theorem ri_M3_61 : ri_M3[61]? = some (.inl (.long, (61, .inr (.inl fun _ => 0)))) := rfl
theorem ri_M3_62 : ri_M3[62]? = some (.inl (.long, (192, .inr (.inl fun _ => 0)))) := rfl
theorem ri_M3_63 : ri_M3[63]? = some (.inl (.int, (192, .inl (fun _ => 0)))) := rfl
theorem ri_M3_64 : ri_M3[64]? = some (.inr (3, [.ref 66, .int 0, .ref 67, .ref 68, .ref 69, .ref 70, .int 0, .ref 71, .ref 72, .int 0, .ref 73, .ref 74, .int 0])) := rfl
theorem ri_M3_65 : ri_M3[65]? = some (.inl (.int, (400, .inl (fun _ => 0)))) := rfl
theorem ri_M3_66 : ri_M3[66]? = some (.inl (.int, (12, .inl (fun _ => 0)))) := rfl
theorem ri_M3_67 : ri_M3[67]? = some (.inl (.int, (12, .inl (fun _ => 0)))) := rfl
theorem ri_M3_68 : ri_M3[68]? = some (.inl (.int, (12, .inl (fun _ => 0)))) := rfl
theorem ri_M3_69 : ri_M3[69]? = some (.inl (.int, (12, .inl (fun _ => 0)))) := rfl
theorem ri_M3_70 : ri_M3[70]? = some (.inl (.long, (8, .inr (.inl fun _ => 0)))) := rfl
theorem ri_M3_71 : ri_M3[71]? = some (.inl (.long, (61, .inr (.inl fun _ => 0)))) := rfl
theorem ri_M3_72 : ri_M3[72]? = some (.inl (.long, (192, .inr (.inl fun _ => 0)))) := rfl
theorem ri_M3_73 : ri_M3[73]? = some (.inl (.int, (192, .inl (fun _ => 0)))) := rfl
theorem ri_M3_74 : ri_M3[74]? = some (.inr (3, [.ref 76, .int 0, .ref 77, .ref 78, .ref 79, .ref 80, .int 0, .ref 81, .ref 82, .int 0, .ref 83, .ref 84, .int 0])) := rfl
theorem ri_M3_75 : ri_M3[75]? = some (.inl (.int, (400, .inl (fun _ => 0)))) := rfl
theorem ri_M3_76 : ri_M3[76]? = some (.inl (.int, (12, .inl (fun _ => 0)))) := rfl
theorem ri_M3_77 : ri_M3[77]? = some (.inl (.int, (12, .inl (fun _ => 0)))) := rfl
theorem ri_M3_78 : ri_M3[78]? = some (.inl (.int, (12, .inl (fun _ => 0)))) := rfl
theorem ri_M3_79 : ri_M3[79]? = some (.inl (.int, (12, .inl (fun _ => 0)))) := rfl
theorem ri_M3_80 : ri_M3[80]? = some (.inl (.long, (8, .inr (.inl fun _ => 0)))) := rfl
theorem ri_M3_81 : ri_M3[81]? = some (.inl (.long, (61, .inr (.inl fun _ => 0)))) := rfl
theorem ri_M3_82 : ri_M3[82]? = some (.inl (.long, (192, .inr (.inl fun _ => 0)))) := rfl
theorem ri_M3_83 : ri_M3[83]? = some (.inl (.int, (192, .inl (fun _ => 0)))) := rfl
theorem ri_M3_84 : ri_M3[84]? = some (.inr (3, [.ref 86, .int 0, .ref 87, .ref 88, .ref 89, .ref 90, .int 0, .ref 91, .ref 92, .int 0, .ref 93, .ref 94, .int 0])) := rfl
theorem ri_M3_85 : ri_M3[85]? = some (.inl (.int, (400, .inl (fun _ => 0)))) := rfl
theorem ri_M3_86 : ri_M3[86]? = some (.inl (.int, (12, .inl (fun _ => 0)))) := rfl
theorem ri_M3_87 : ri_M3[87]? = some (.inl (.int, (12, .inl (fun _ => 0)))) := rfl
theorem ri_M3_88 : ri_M3[88]? = some (.inl (.int, (12, .inl (fun _ => 0)))) := rfl
theorem ri_M3_89 : ri_M3[89]? = some (.inl (.int, (12, .inl (fun _ => 0)))) := rfl
theorem ri_M3_90 : ri_M3[90]? = some (.inl (.long, (8, .inr (.inl fun _ => 0)))) := rfl
theorem ri_M3_91 : ri_M3[91]? = some (.inl (.long, (61, .inr (.inl fun _ => 0)))) := rfl
theorem ri_M3_92 : ri_M3[92]? = some (.inl (.long, (192, .inr (.inl fun _ => 0)))) := rfl
theorem ri_M3_93 : ri_M3[93]? = some (.inl (.int, (192, .inl (fun _ => 0)))) := rfl
theorem ri_M3_94 : ri_M3[94]? = some (.inr (3, [.ref 96, .int 0, .ref 97, .ref 98, .ref 99, .ref 100, .int 0, .ref 101, .ref 102, .int 0, .ref 103, .ref 104, .int 0])) := rfl
theorem ri_M3_95 : ri_M3[95]? = some (.inl (.int, (400, .inl (fun _ => 0)))) := rfl
theorem ri_M3_96 : ri_M3[96]? = some (.inl (.int, (12, .inl (fun _ => 0)))) := rfl
theorem ri_M3_97 : ri_M3[97]? = some (.inl (.int, (12, .inl (fun _ => 0)))) := rfl
theorem ri_M3_98 : ri_M3[98]? = some (.inl (.int, (12, .inl (fun _ => 0)))) := rfl
theorem ri_M3_99 : ri_M3[99]? = some (.inl (.int, (12, .inl (fun _ => 0)))) := rfl
theorem ri_M3_100 : ri_M3[100]? = some (.inl (.long, (8, .inr (.inl fun _ => 0)))) := rfl
theorem ri_M3_101 : ri_M3[101]? = some (.inl (.long, (61, .inr (.inl fun _ => 0)))) := rfl
theorem ri_M3_102 : ri_M3[102]? = some (.inl (.long, (192, .inr (.inl fun _ => 0)))) := rfl
theorem ri_M3_103 : ri_M3[103]? = some (.inl (.int, (192, .inl (fun _ => 0)))) := rfl
theorem ri_M3_104 : ri_M3[104]? = some (.inr (2, [.ref 106, .ref 110, .ref 111, .ref 112, .ref 113, .ref 114, .int 0, .int (-1), .ref 115, .ref 116, .int 0, .int 0])) := rfl
theorem ri_M3_105 : ri_M3[105]? = some (.inr (0, [.ref 107, .ref 108, .ref 109])) := rfl
theorem ri_M3_106 : ri_M3[106]? = some (.inl (.int, (3, .inl (fun _ => 0)))) := rfl
theorem ri_M3_107 : ri_M3[107]? = some (.inl (.int, (24, .inl (fun _ => 0)))) := rfl
theorem ri_M3_108 : ri_M3[108]? = some (.inl (.int, (24, .inl (fun _ => 0)))) := rfl
theorem ri_M3_109 : ri_M3[109]? = some (.inl (.int, (40, .inl (fun _ => 0)))) := rfl
theorem ri_M3_110 : ri_M3[110]? = some (.inl (.int, (40, .inl (fun _ => 0)))) := rfl
theorem ri_M3_111 : ri_M3[111]? = some (.inl (.int, (40, .inl (fun _ => 0)))) := rfl
theorem ri_M3_112 : ri_M3[112]? = some (.inl (.int, (40, .inl (fun _ => 0)))) := rfl
theorem ri_M3_113 : ri_M3[113]? = some (.inl (.boolean, (40, .inl (fun _ => 0)))) := rfl
theorem ri_M3_114 : ri_M3[114]? = some (.inl (.int, (10, .inl (fun _ => 0)))) := rfl
theorem ri_M3_115 : ri_M3[115]? = some (.inl (.int, (10, .inl (fun _ => 0)))) := rfl
theorem ri_M3_116 : ri_M3[116]? = some (.inr (2, [.ref 118, .ref 122, .ref 123, .ref 124, .ref 125, .ref 126, .int 0, .int (-1), .ref 127, .ref 128, .int 0, .int 0])) := rfl
theorem ri_M3_117 : ri_M3[117]? = some (.inr (0, [.ref 119, .ref 120, .ref 121])) := rfl
theorem ri_M3_118 : ri_M3[118]? = some (.inl (.int, (3, .inl (fun _ => 0)))) := rfl
theorem ri_M3_119 : ri_M3[119]? = some (.inl (.int, (24, .inl (fun _ => 0)))) := rfl
theorem ri_M3_120 : ri_M3[120]? = some (.inl (.int, (24, .inl (fun _ => 0)))) := rfl
theorem ri_M3_121 : ri_M3[121]? = some (.inl (.int, (40, .inl (fun _ => 0)))) := rfl
theorem ri_M3_122 : ri_M3[122]? = some (.inl (.int, (40, .inl (fun _ => 0)))) := rfl
theorem ri_M3_123 : ri_M3[123]? = some (.inl (.int, (40, .inl (fun _ => 0)))) := rfl
theorem ri_M3_124 : ri_M3[124]? = some (.inl (.int, (40, .inl (fun _ => 0)))) := rfl
theorem ri_M3_125 : ri_M3[125]? = some (.inl (.boolean, (40, .inl (fun _ => 0)))) := rfl
theorem ri_M3_126 : ri_M3[126]? = some (.inl (.int, (10, .inl (fun _ => 0)))) := rfl
theorem ri_M3_127 : ri_M3[127]? = some (.inl (.int, (10, .inl (fun _ => 0)))) := rfl
theorem ri_M3_128 : ri_M3[128]? = some (.inr (2, [.ref 130, .ref 134, .ref 135, .ref 136, .ref 137, .ref 138, .int 0, .int (-1), .ref 139, .ref 140, .int 0, .int 0])) := rfl
theorem ri_M3_129 : ri_M3[129]? = some (.inr (0, [.ref 131, .ref 132, .ref 133])) := rfl
theorem ri_M3_130 : ri_M3[130]? = some (.inl (.int, (3, .inl (fun _ => 0)))) := rfl
theorem ri_M3_131 : ri_M3[131]? = some (.inl (.int, (24, .inl (fun _ => 0)))) := rfl
theorem ri_M3_132 : ri_M3[132]? = some (.inl (.int, (24, .inl (fun _ => 0)))) := rfl
theorem ri_M3_133 : ri_M3[133]? = some (.inl (.int, (40, .inl (fun _ => 0)))) := rfl
theorem ri_M3_134 : ri_M3[134]? = some (.inl (.int, (40, .inl (fun _ => 0)))) := rfl
theorem ri_M3_135 : ri_M3[135]? = some (.inl (.int, (40, .inl (fun _ => 0)))) := rfl
theorem ri_M3_136 : ri_M3[136]? = some (.inl (.int, (40, .inl (fun _ => 0)))) := rfl
theorem ri_M3_137 : ri_M3[137]? = some (.inl (.boolean, (40, .inl (fun _ => 0)))) := rfl
theorem ri_M3_138 : ri_M3[138]? = some (.inl (.int, (10, .inl (fun _ => 0)))) := rfl
theorem ri_M3_139 : ri_M3[139]? = some (.inl (.int, (10, .inl (fun _ => 0)))) := rfl
theorem ri_M3_140 : ri_M3[140]? = some (.inr (2, [.ref 142, .ref 146, .ref 147, .ref 148, .ref 149, .ref 150, .int 0, .int (-1), .ref 151, .ref 152, .int 0, .int 0])) := rfl
theorem ri_M3_141 : ri_M3[141]? = some (.inr (0, [.ref 143, .ref 144, .ref 145])) := rfl
theorem ri_M3_142 : ri_M3[142]? = some (.inl (.int, (3, .inl (fun _ => 0)))) := rfl
theorem ri_M3_143 : ri_M3[143]? = some (.inl (.int, (24, .inl (fun _ => 0)))) := rfl
theorem ri_M3_144 : ri_M3[144]? = some (.inl (.int, (24, .inl (fun _ => 0)))) := rfl
theorem ri_M3_145 : ri_M3[145]? = some (.inl (.int, (40, .inl (fun _ => 0)))) := rfl
theorem ri_M3_146 : ri_M3[146]? = some (.inl (.int, (40, .inl (fun _ => 0)))) := rfl
theorem ri_M3_147 : ri_M3[147]? = some (.inl (.int, (40, .inl (fun _ => 0)))) := rfl
theorem ri_M3_148 : ri_M3[148]? = some (.inl (.int, (40, .inl (fun _ => 0)))) := rfl
theorem ri_M3_149 : ri_M3[149]? = some (.inl (.boolean, (40, .inl (fun _ => 0)))) := rfl
theorem ri_M3_150 : ri_M3[150]? = some (.inl (.int, (10, .inl (fun _ => 0)))) := rfl
theorem ri_M3_151 : ri_M3[151]? = some (.inl (.int, (10, .inl (fun _ => 0)))) := rfl
theorem ri_M3_152 : ri_M3[152]? = some (.inr (11, [.ref 154, .int 0, .int 0, .ref 155, .ref 156, .ref 157, .ref 158, .int 0, .int 0, .int 0, .ref 159, .ref 160, .int 0, .int 0, .int 0, .int 0, .int 0, .int 0, .int 0, .ref 161, .int 0, .ref 162, .int 0, .ref 163, .ref 164, .ref 165, .ref 166, .int 0, .int 0, .int 0, .ref 167, .ref 168, .ref 169, .int 0, .int 0, .int 0, .ref 170, .ref 171, .ref 172])) := rfl
theorem ri_M3_153 : ri_M3[153]? = some (.inl (.byte, (400, .inl (fun _ => 0)))) := rfl
theorem ri_M3_154 : ri_M3[154]? = some (.inl (.int, (2400, .inl (fun _ => 0)))) := rfl
theorem ri_M3_155 : ri_M3[155]? = some (.inl (.int, (7, .inl (fun _ => 0)))) := rfl
theorem ri_M3_156 : ri_M3[156]? = some (.inl (.int, (360, .inl (fun _ => 0)))) := rfl
theorem ri_M3_157 : ri_M3[157]? = some (.inl (.int, (6, .inl (fun _ => 0)))) := rfl
theorem ri_M3_158 : ri_M3[158]? = some (.inl (.int, (16, .inl (fun _ => 0)))) := rfl
theorem ri_M3_159 : ri_M3[159]? = some (.inl (.int, (16, .inl (fun _ => 0)))) := rfl
theorem ri_M3_160 : ri_M3[160]? = some (.inl (.int, (400, .inl (fun _ => 0)))) := rfl
theorem ri_M3_161 : ri_M3[161]? = some (.inl (.long, (64, .inr (.inl fun _ => 0)))) := rfl
theorem ri_M3_162 : ri_M3[162]? = some (.inl (.long, (8, .inr (.inl fun _ => 0)))) := rfl
theorem ri_M3_163 : ri_M3[163]? = some (.inl (.int, (262, .inl (upd (fun _ => 0) 4 (-1))))) := rfl
theorem ri_M3_164 : ri_M3[164]? = some (.inl (.long, (192, .inr (.inl fun _ => 0)))) := rfl
theorem ri_M3_165 : ri_M3[165]? = some (.inl (.boolean, (512, .inl (fun _ => 0)))) := rfl
theorem ri_M3_166 : ri_M3[166]? = some (.inl (.int, (512, .inl (fun _ => 0)))) := rfl
theorem ri_M3_167 : ri_M3[167]? = some (.inl (.int, (512, .inl (fun _ => 0)))) := rfl
theorem ri_M3_168 : ri_M3[168]? = some (.inl (.int, (252, .inl (fun _ => 0)))) := rfl
theorem ri_M3_169 : ri_M3[169]? = some (.inl (.long, (168, .inr (.inl fun _ => 0)))) := rfl
theorem ri_M3_170 : ri_M3[170]? = some (.inl (.int, (1048, .inl (fun _ => 0)))) := rfl
theorem ri_M3_171 : ri_M3[171]? = some (.inl (.boolean, (4, .inl (fun _ => 0)))) := rfl
noncomputable def ri_r1 : Option ri_R := ri_c 20 102 [.ref 1] [.inr (10, ri_new 10)]
noncomputable def ri_r2 : Option ri_R := match ri_r1 with
  | some (_, M, _, _) => ri_c 20 168 [.ref (M.length + 1)] (M ++ [.inr (11, ri_new 11)])
  | none => none
theorem ri_r1_ok : (match ri_r1 with | some (v, M, c, s) => decide (v = none) && (decide (M.length = 152) && (Nat.ble c 1000 && Nat.ble s 20000)) | none => false) = true := by decide +kernel
theorem ri_r2_ok : (match ri_r2 with | some (v, M, c, s) => decide (v = none) && (ri_eqM M ri_M3 && (Nat.ble c 1000 && Nat.ble s 20000)) | none => false) = true := by decide +kernel
