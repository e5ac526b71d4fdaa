/-! Each row of the tables is as the machine has it. -/
theorem ri_c0 : (List.range' 0 8).all ri_all = true := by decide +kernel
theorem ri_c8 : (List.range' 8 8).all ri_all = true := by decide +kernel
theorem ri_c16 : (List.range' 16 8).all ri_all = true := by decide +kernel
theorem ri_c24 : (List.range' 24 8).all ri_all = true := by decide +kernel
theorem ri_c32 : (List.range' 32 8).all ri_all = true := by decide +kernel
theorem ri_c40 : (List.range' 40 8).all ri_all = true := by decide +kernel
theorem ri_c48 : (List.range' 48 8).all ri_all = true := by decide +kernel
theorem ri_c56 : (List.range' 56 8).all ri_all = true := by decide +kernel
theorem ri_c64 : (List.range' 64 8).all ri_all = true := by decide +kernel
theorem ri_c72 : (List.range' 72 8).all ri_all = true := by decide +kernel
theorem ri_c80 : (List.range' 80 8).all ri_all = true := by decide +kernel
theorem ri_c88 : (List.range' 88 8).all ri_all = true := by decide +kernel
theorem ri_c96 : (List.range' 96 8).all ri_all = true := by decide +kernel
theorem ri_c104 : (List.range' 104 8).all ri_all = true := by decide +kernel
theorem ri_c112 : (List.range' 112 8).all ri_all = true := by decide +kernel
theorem ri_c120 : (List.range' 120 8).all ri_all = true := by decide +kernel
theorem ri_c128 : (List.range' 128 8).all ri_all = true := by decide +kernel
theorem ri_c136 : (List.range' 136 8).all ri_all = true := by decide +kernel
theorem ri_c144 : (List.range' 144 8).all ri_all = true := by decide +kernel
theorem ri_c152 : (List.range' 152 8).all ri_all = true := by decide +kernel
theorem ri_c160 : (List.range' 160 8).all ri_all = true := by decide +kernel
theorem ri_c168 : (List.range' 168 8).all ri_all = true := by decide +kernel
theorem ri_c176 : (List.range' 176 8).all ri_all = true := by decide +kernel
theorem ri_c184 : (List.range' 184 8).all ri_all = true := by decide +kernel
theorem ri_c192 : (List.range' 192 8).all ri_all = true := by decide +kernel
theorem ri_c200 : (List.range' 200 8).all ri_all = true := by decide +kernel
theorem ri_c208 : (List.range' 208 8).all ri_all = true := by decide +kernel
theorem ri_c216 : (List.range' 216 8).all ri_all = true := by decide +kernel
theorem ri_c224 : (List.range' 224 8).all ri_all = true := by decide +kernel
theorem ri_c232 : (List.range' 232 8).all ri_all = true := by decide +kernel
theorem ri_c240 : (List.range' 240 8).all ri_all = true := by decide +kernel
theorem ri_c248 : (List.range' 248 8).all ri_all = true := by decide +kernel
theorem ri_c256 : (List.range' 256 8).all ri_all = true := by decide +kernel
theorem ri_c264 : (List.range' 264 8).all ri_all = true := by decide +kernel
theorem ri_c272 : (List.range' 272 8).all ri_all = true := by decide +kernel
theorem ri_c280 : (List.range' 280 1).all ri_all = true := by decide +kernel
theorem ri_all_ok : ∀ a, a < 281 → ri_all a = true := by
  intro a h
  rcases Nat.lt_or_ge a 8 with q8 | q8
  · exact List.all_eq_true.mp ri_c0 a (List.mem_range'_1.mpr ⟨by omega, by omega⟩)
  rcases Nat.lt_or_ge a 16 with q16 | q16
  · exact List.all_eq_true.mp ri_c8 a (List.mem_range'_1.mpr ⟨by omega, by omega⟩)
  rcases Nat.lt_or_ge a 24 with q24 | q24
  · exact List.all_eq_true.mp ri_c16 a (List.mem_range'_1.mpr ⟨by omega, by omega⟩)
  rcases Nat.lt_or_ge a 32 with q32 | q32
  · exact List.all_eq_true.mp ri_c24 a (List.mem_range'_1.mpr ⟨by omega, by omega⟩)
  rcases Nat.lt_or_ge a 40 with q40 | q40
  · exact List.all_eq_true.mp ri_c32 a (List.mem_range'_1.mpr ⟨by omega, by omega⟩)
  rcases Nat.lt_or_ge a 48 with q48 | q48
  · exact List.all_eq_true.mp ri_c40 a (List.mem_range'_1.mpr ⟨by omega, by omega⟩)
  rcases Nat.lt_or_ge a 56 with q56 | q56
  · exact List.all_eq_true.mp ri_c48 a (List.mem_range'_1.mpr ⟨by omega, by omega⟩)
  rcases Nat.lt_or_ge a 64 with q64 | q64
  · exact List.all_eq_true.mp ri_c56 a (List.mem_range'_1.mpr ⟨by omega, by omega⟩)
  rcases Nat.lt_or_ge a 72 with q72 | q72
  · exact List.all_eq_true.mp ri_c64 a (List.mem_range'_1.mpr ⟨by omega, by omega⟩)
  rcases Nat.lt_or_ge a 80 with q80 | q80
  · exact List.all_eq_true.mp ri_c72 a (List.mem_range'_1.mpr ⟨by omega, by omega⟩)
  rcases Nat.lt_or_ge a 88 with q88 | q88
  · exact List.all_eq_true.mp ri_c80 a (List.mem_range'_1.mpr ⟨by omega, by omega⟩)
  rcases Nat.lt_or_ge a 96 with q96 | q96
  · exact List.all_eq_true.mp ri_c88 a (List.mem_range'_1.mpr ⟨by omega, by omega⟩)
  rcases Nat.lt_or_ge a 104 with q104 | q104
  · exact List.all_eq_true.mp ri_c96 a (List.mem_range'_1.mpr ⟨by omega, by omega⟩)
  rcases Nat.lt_or_ge a 112 with q112 | q112
  · exact List.all_eq_true.mp ri_c104 a (List.mem_range'_1.mpr ⟨by omega, by omega⟩)
  rcases Nat.lt_or_ge a 120 with q120 | q120
  · exact List.all_eq_true.mp ri_c112 a (List.mem_range'_1.mpr ⟨by omega, by omega⟩)
  rcases Nat.lt_or_ge a 128 with q128 | q128
  · exact List.all_eq_true.mp ri_c120 a (List.mem_range'_1.mpr ⟨by omega, by omega⟩)
  rcases Nat.lt_or_ge a 136 with q136 | q136
  · exact List.all_eq_true.mp ri_c128 a (List.mem_range'_1.mpr ⟨by omega, by omega⟩)
  rcases Nat.lt_or_ge a 144 with q144 | q144
  · exact List.all_eq_true.mp ri_c136 a (List.mem_range'_1.mpr ⟨by omega, by omega⟩)
  rcases Nat.lt_or_ge a 152 with q152 | q152
  · exact List.all_eq_true.mp ri_c144 a (List.mem_range'_1.mpr ⟨by omega, by omega⟩)
  rcases Nat.lt_or_ge a 160 with q160 | q160
  · exact List.all_eq_true.mp ri_c152 a (List.mem_range'_1.mpr ⟨by omega, by omega⟩)
  rcases Nat.lt_or_ge a 168 with q168 | q168
  · exact List.all_eq_true.mp ri_c160 a (List.mem_range'_1.mpr ⟨by omega, by omega⟩)
  rcases Nat.lt_or_ge a 176 with q176 | q176
  · exact List.all_eq_true.mp ri_c168 a (List.mem_range'_1.mpr ⟨by omega, by omega⟩)
  rcases Nat.lt_or_ge a 184 with q184 | q184
  · exact List.all_eq_true.mp ri_c176 a (List.mem_range'_1.mpr ⟨by omega, by omega⟩)
  rcases Nat.lt_or_ge a 192 with q192 | q192
  · exact List.all_eq_true.mp ri_c184 a (List.mem_range'_1.mpr ⟨by omega, by omega⟩)
  rcases Nat.lt_or_ge a 200 with q200 | q200
  · exact List.all_eq_true.mp ri_c192 a (List.mem_range'_1.mpr ⟨by omega, by omega⟩)
  rcases Nat.lt_or_ge a 208 with q208 | q208
  · exact List.all_eq_true.mp ri_c200 a (List.mem_range'_1.mpr ⟨by omega, by omega⟩)
  rcases Nat.lt_or_ge a 216 with q216 | q216
  · exact List.all_eq_true.mp ri_c208 a (List.mem_range'_1.mpr ⟨by omega, by omega⟩)
  rcases Nat.lt_or_ge a 224 with q224 | q224
  · exact List.all_eq_true.mp ri_c216 a (List.mem_range'_1.mpr ⟨by omega, by omega⟩)
  rcases Nat.lt_or_ge a 232 with q232 | q232
  · exact List.all_eq_true.mp ri_c224 a (List.mem_range'_1.mpr ⟨by omega, by omega⟩)
  rcases Nat.lt_or_ge a 240 with q240 | q240
  · exact List.all_eq_true.mp ri_c232 a (List.mem_range'_1.mpr ⟨by omega, by omega⟩)
  rcases Nat.lt_or_ge a 248 with q248 | q248
  · exact List.all_eq_true.mp ri_c240 a (List.mem_range'_1.mpr ⟨by omega, by omega⟩)
  rcases Nat.lt_or_ge a 256 with q256 | q256
  · exact List.all_eq_true.mp ri_c248 a (List.mem_range'_1.mpr ⟨by omega, by omega⟩)
  rcases Nat.lt_or_ge a 264 with q264 | q264
  · exact List.all_eq_true.mp ri_c256 a (List.mem_range'_1.mpr ⟨by omega, by omega⟩)
  rcases Nat.lt_or_ge a 272 with q272 | q272
  · exact List.all_eq_true.mp ri_c264 a (List.mem_range'_1.mpr ⟨by omega, by omega⟩)
  rcases Nat.lt_or_ge a 280 with q280 | q280
  · exact List.all_eq_true.mp ri_c272 a (List.mem_range'_1.mpr ⟨by omega, by omega⟩)
  exact List.all_eq_true.mp ri_c280 a (List.mem_range'_1.mpr ⟨by omega, by omega⟩)
theorem ri_lawck : (List.range 1627).all (ri_one RL "law" code kL_law) = true := by decide +kernel
theorem ri_in0 : ((u_ws RX0 TX0 3).zip [263, 265, 267]).all (fun q => ri_w q.2 q.1) = true ∧ (u_ws RX0 TX0 3).length = 3 := by decide +kernel
theorem ri_cw0 : ri_w 255 (.instantiable RX0 3) = true ∧ ri_w 169 (.initialized RX0) = true := by decide +kernel
theorem ri_in1 : ((u_ws RX1 TX1 1).zip [241]).all (fun q => ri_w q.2 q.1) = true ∧ (u_ws RX1 TX1 1).length = 1 := by decide +kernel
theorem ri_cw1 : ri_w 235 (.instantiable RX1 1) = true ∧ ri_w 167 (.initialized RX1) = true := by decide +kernel
theorem ri_in2 : ((u_ws RX2 TX2 12).zip [303, 305, 307, 309, 311, 313, 315, 317, 319, 321, 323, 325]).all (fun q => ri_w q.2 q.1) = true ∧ (u_ws RX2 TX2 12).length = 12 := by decide +kernel
theorem ri_cw2 : ri_w 273 (.instantiable RX2 12) = true ∧ ri_w 170 (.initialized RX2) = true := by decide +kernel
theorem ri_in3 : ((u_ws RX3 TX3 13).zip [409, 411, 413, 415, 417, 419, 421, 423, 425, 427, 429, 431, 433]).all (fun q => ri_w q.2 q.1) = true ∧ (u_ws RX3 TX3 13).length = 13 := by decide +kernel
theorem ri_cw3 : ri_w 388 (.instantiable RX3 13) = true ∧ ri_w 174 (.initialized RX3) = true := by decide +kernel
theorem ri_in4 : ((u_ws RX4 TX4 1).zip [251]).all (fun q => ri_w q.2 q.1) = true ∧ (u_ws RX4 TX4 1).length = 1 := by decide +kernel
theorem ri_cw4 : ri_w 245 (.instantiable RX4 1) = true ∧ ri_w 168 (.initialized RX4) = true := by decide +kernel
theorem ri_in5 : ((u_ws RX5 TX5 4).zip [343, 345, 347, 349]).all (fun q => ri_w q.2 q.1) = true ∧ (u_ws RX5 TX5 4).length = 4 := by decide +kernel
theorem ri_cw5 : ri_w 331 (.instantiable RX5 4) = true ∧ ri_w 171 (.initialized RX5) = true := by decide +kernel
theorem ri_in6 : ((u_ws RX6 TX6 5).zip [377, 379, 381, 383, 385]).all (fun q => ri_w q.2 q.1) = true ∧ (u_ws RX6 TX6 5).length = 5 := by decide +kernel
theorem ri_cw6 : ri_w 367 (.instantiable RX6 5) = true ∧ ri_w 173 (.initialized RX6) = true := by decide +kernel
theorem ri_in7 : ((u_ws RX7 TX7 2).zip [361, 363]).all (fun q => ri_w q.2 q.1) = true ∧ (u_ws RX7 TX7 2).length = 2 := by decide +kernel
theorem ri_cw7 : ri_w 353 (.instantiable RX7 2) = true ∧ ri_w 172 (.initialized RX7) = true := by decide +kernel
theorem ri_in8 : ((u_ws RX8 TX8 2).zip [201, 203]).all (fun q => ri_w q.2 q.1) = true ∧ (u_ws RX8 TX8 2).length = 2 := by decide +kernel
theorem ri_cw8 : ri_w 192 (.instantiable RX8 2) = true ∧ ri_w 165 (.initialized RX8) = true := by decide +kernel
theorem ri_in9 : ((u_ws RX9 TX9 6).zip [220, 222, 224, 226, 228, 230]).all (fun q => ri_w q.2 q.1) = true ∧ (u_ws RX9 TX9 6).length = 6 := by decide +kernel
theorem ri_cw9 : ri_w 208 (.instantiable RX9 6) = true ∧ ri_w 166 (.initialized RX9) = true := by decide +kernel
theorem ri_in10 : ((u_ws RX10 TX10 18).zip [455, 457, 459, 461, 463, 465, 467, 469, 471, 473, 475, 477, 479, 481, 483, 485, 487, 489]).all (fun q => ri_w q.2 q.1) = true ∧ (u_ws RX10 TX10 18).length = 18 := by decide +kernel
theorem ri_cw10 : ri_w 184 (.instantiable RX10 18) = true ∧ ri_w 164 (.initialized RX10) = true := by decide +kernel
theorem ri_in11 : ((u_ws RX11 TX11 39).zip [1301, 1303, 1305, 1307, 1309, 1311, 1313, 1315, 1317, 1319, 1321, 1323, 1325, 1327, 1329, 1331, 1333, 1335, 1337, 1339, 1341, 1343, 1345, 1347, 1349, 1351, 1353, 1355, 1357, 1359, 1361, 1363, 1365, 1367, 1369, 1371, 1373, 1375, 1377]).all (fun q => ri_w q.2 q.1) = true ∧ (u_ws RX11 TX11 39).length = 39 := by decide +kernel
theorem ri_cw11 : ri_w 1257 (.instantiable RX11 39) = true ∧ ri_w 175 (.initialized RX11) = true := by decide +kernel
theorem ri_obj : ri_w 189 (.instanceMethod Lib.objectInit) = true ∧ ri_w 190 (.code Lib.objectInit ⟨#[0xb1]⟩ 1 none) = true := by decide +kernel
theorem ri_min : ri_w 858 (.static Lib.Math.min.name) = true ∧ ri_w 181 (.initialized "java/lang/Math") = true ∧ ri_w 859 (.code Lib.Math.min.name Lib.Math.min.code 2 (some .int)) = true := by decide +kernel
theorem ri_max : ri_w 1133 (.static Lib.Math.max.name) = true ∧ ri_w 181 (.initialized "java/lang/Math") = true ∧ ri_w 1134 (.code Lib.Math.max.name Lib.Math.max.code 2 (some .int)) = true := by decide +kernel
theorem ri_abs : ri_w 802 (.static Lib.Math.abs.name) = true ∧ ri_w 181 (.initialized "java/lang/Math") = true ∧ ri_w 803 (.code Lib.Math.abs.name Lib.Math.abs.code 1 (some .int)) = true := by decide +kernel
theorem ri_cpy : ri_w 691 (.native arraycopyName) = true ∧ ri_w 690 (.static arraycopyName) = true ∧ ri_w 180 (.initialized "java/lang/System") = true := by decide +kernel
theorem ri_good : lw_tbl.all goodWord = true := by decide +kernel
