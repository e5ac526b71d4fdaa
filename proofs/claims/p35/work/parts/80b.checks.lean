theorem ri_o0 : ri_on 0 = (ri_y 0).cls := by eq_refl
theorem ri_d0_0 : ri_nd (ri_y 0) 0 = true := ri_nd_of ri_o0 ri_oq0 (by eq_refl)
set_option maxRecDepth 100000 in
theorem ri_k0 : ri_mk 0 = true := ri_mk1 (ri_oqp ri_o0 ri_oq0) (ri_G1 (i := 95) (by eq_refl) (by eq_refl)) (ri_G1 (i := 6) (by eq_refl) (by eq_refl)) (by eq_refl) (by eq_refl) (ri_G1 (i := 94) (by eq_refl) (by eq_refl)) (by eq_refl) (by eq_refl)
theorem ri_o1 : ri_on 0 = (ri_y 1).cls := by eq_refl
theorem ri_d1_0 : ri_nd (ri_y 1) 0 = true := ri_nd_of ri_o1 ri_oq0 (by eq_refl)
set_option maxRecDepth 100000 in
theorem ri_k1 : ri_mk 1 = true := ri_mk2 (ri_oqp ri_o1 ri_oq0) (ri_G2 (i := 220) (by eq_refl) (by eq_refl)) (ri_G1 (i := 6) (by eq_refl) (by eq_refl)) (by eq_refl) (by eq_refl) (ri_G2 (i := 219) (by eq_refl) (by eq_refl)) (ri_G0 (by eq_refl)) (q := (RX0, TX0, 3)) (by eq_refl) (by eq_refl)
theorem ri_o2 : ri_on 0 = (ri_y 2).cls := by eq_refl
theorem ri_d2_1 : ri_nd (ri_y 2) 1 = true := ri_nd_of ri_o2 ri_oq0 (by eq_refl)
set_option maxRecDepth 100000 in
theorem ri_k2 : ri_mk 2 = true := ri_mk2 (ri_oqp ri_o2 ri_oq0) (ri_G3 (i := 17) (by eq_refl) (by eq_refl)) (ri_G1 (i := 6) (by eq_refl) (by eq_refl)) (by eq_refl) (by eq_refl) (ri_G3 (i := 16) (by eq_refl) (by eq_refl)) (ri_G0 (by eq_refl)) (q := (RX0, TX0, 3)) (by eq_refl) (by eq_refl)
theorem ri_o3 : ri_on 0 = (ri_y 3).cls := by eq_refl
theorem ri_d3_3 : ri_nd (ri_y 3) 3 = true := ri_nd_of ri_o3 ri_oq0 (by eq_refl)
set_option maxRecDepth 100000 in
theorem ri_k3 : ri_mk 3 = true := ri_mk2 (ri_oqp ri_o3 ri_oq0) (ri_G3 (i := 22) (by eq_refl) (by eq_refl)) (ri_G1 (i := 6) (by eq_refl) (by eq_refl)) (by eq_refl) (by eq_refl) (ri_G3 (i := 21) (by eq_refl) (by eq_refl)) (ri_G0 (by eq_refl)) (q := (RX0, TX0, 3)) (by eq_refl) (by eq_refl)
theorem ri_o4 : ri_on 0 = (ri_y 4).cls := by eq_refl
theorem ri_d4_1 : ri_nd (ri_y 4) 1 = true := ri_nd_of ri_o4 ri_oq0 (by eq_refl)
set_option maxRecDepth 100000 in
theorem ri_k4 : ri_mk 4 = true := ri_mk2 (ri_oqp ri_o4 ri_oq0) (ri_G3 (i := 45) (by eq_refl) (by eq_refl)) (ri_G1 (i := 6) (by eq_refl) (by eq_refl)) (by eq_refl) (by eq_refl) (ri_G3 (i := 44) (by eq_refl) (by eq_refl)) (ri_G0 (by eq_refl)) (q := (RX0, TX0, 3)) (by eq_refl) (by eq_refl)
theorem ri_o5 : ri_on 0 = (ri_y 5).cls := by eq_refl
theorem ri_d5_0 : ri_nd (ri_y 5) 0 = true := ri_nd_of ri_o5 ri_oq0 (by eq_refl)
set_option maxRecDepth 100000 in
theorem ri_k5 : ri_mk 5 = true := ri_mk2 (ri_oqp ri_o5 ri_oq0) (ri_G3 (i := 37) (by eq_refl) (by eq_refl)) (ri_G1 (i := 6) (by eq_refl) (by eq_refl)) (by eq_refl) (by eq_refl) (ri_G3 (i := 36) (by eq_refl) (by eq_refl)) (ri_G0 (by eq_refl)) (q := (RX0, TX0, 3)) (by eq_refl) (by eq_refl)
theorem ri_o6 : ri_on 0 = (ri_y 6).cls := by eq_refl
theorem ri_d6_0 : ri_nd (ri_y 6) 0 = true := ri_nd_of ri_o6 ri_oq0 (by eq_refl)
set_option maxRecDepth 100000 in
theorem ri_k6 : ri_mk 6 = true := ri_mk2 (ri_oqp ri_o6 ri_oq0) (ri_G3 (i := 66) (by eq_refl) (by eq_refl)) (ri_G1 (i := 6) (by eq_refl) (by eq_refl)) (by eq_refl) (by eq_refl) (ri_G3 (i := 65) (by eq_refl) (by eq_refl)) (ri_G0 (by eq_refl)) (q := (RX0, TX0, 3)) (by eq_refl) (by eq_refl)
theorem ri_o7 : ri_on 0 = (ri_y 7).cls := by eq_refl
theorem ri_d7_1 : ri_nd (ri_y 7) 1 = true := ri_nd_of ri_o7 ri_oq0 (by eq_refl)
set_option maxRecDepth 100000 in
theorem ri_k7 : ri_mk 7 = true := ri_mk2 (ri_oqp ri_o7 ri_oq0) (ri_G3 (i := 2) (by eq_refl) (by eq_refl)) (ri_G1 (i := 6) (by eq_refl) (by eq_refl)) (by eq_refl) (by eq_refl) (ri_G3 (i := 1) (by eq_refl) (by eq_refl)) (ri_G0 (by eq_refl)) (q := (RX0, TX0, 3)) (by eq_refl) (by eq_refl)
theorem ri_o8 : ri_on 0 = (ri_y 8).cls := by eq_refl
theorem ri_d8_2 : ri_nd (ri_y 8) 2 = true := ri_nd_of ri_o8 ri_oq0 (by eq_refl)
set_option maxRecDepth 100000 in
theorem ri_k8 : ri_mk 8 = true := ri_mk2 (ri_oqp ri_o8 ri_oq0) (ri_G3 (i := 127) (by eq_refl) (by eq_refl)) (ri_G1 (i := 6) (by eq_refl) (by eq_refl)) (by eq_refl) (by eq_refl) (ri_G3 (i := 126) (by eq_refl) (by eq_refl)) (ri_G0 (by eq_refl)) (q := (RX0, TX0, 3)) (by eq_refl) (by eq_refl)
theorem ri_o9 : ri_on 0 = (ri_y 9).cls := by eq_refl
theorem ri_d9_2 : ri_nd (ri_y 9) 2 = true := ri_nd_of ri_o9 ri_oq0 (by eq_refl)
set_option maxRecDepth 100000 in
theorem ri_k9 : ri_mk 9 = true := ri_mk2 (ri_oqp ri_o9 ri_oq0) (ri_G3 (i := 131) (by eq_refl) (by eq_refl)) (ri_G1 (i := 6) (by eq_refl) (by eq_refl)) (by eq_refl) (by eq_refl) (ri_G3 (i := 130) (by eq_refl) (by eq_refl)) (ri_G0 (by eq_refl)) (q := (RX0, TX0, 3)) (by eq_refl) (by eq_refl)
theorem ri_o10 : ri_on 0 = (ri_y 10).cls := by eq_refl
theorem ri_d10_2 : ri_nd (ri_y 10) 2 = true := ri_nd_of ri_o10 ri_oq0 (by eq_refl)
set_option maxRecDepth 100000 in
theorem ri_k10 : ri_mk 10 = true := ri_mk2 (ri_oqp ri_o10 ri_oq0) (ri_G3 (i := 135) (by eq_refl) (by eq_refl)) (ri_G1 (i := 6) (by eq_refl) (by eq_refl)) (by eq_refl) (by eq_refl) (ri_G3 (i := 134) (by eq_refl) (by eq_refl)) (ri_G0 (by eq_refl)) (q := (RX0, TX0, 3)) (by eq_refl) (by eq_refl)
theorem ri_o11 : ri_on 0 = (ri_y 11).cls := by eq_refl
theorem ri_d11_1 : ri_nd (ri_y 11) 1 = true := ri_nd_of ri_o11 ri_oq0 (by eq_refl)
set_option maxRecDepth 100000 in
theorem ri_k11 : ri_mk 11 = true := ri_mk2 (ri_oqp ri_o11 ri_oq0) (ri_G4 (i := 105) (by eq_refl) (by eq_refl)) (ri_G1 (i := 6) (by eq_refl) (by eq_refl)) (by eq_refl) (by eq_refl) (ri_G4 (i := 104) (by eq_refl) (by eq_refl)) (ri_G0 (by eq_refl)) (q := (RX0, TX0, 3)) (by eq_refl) (by eq_refl)
theorem ri_o12 : ri_on 0 = (ri_y 12).cls := by eq_refl
theorem ri_d12_0 : ri_nd (ri_y 12) 0 = true := ri_nd_of ri_o12 ri_oq0 (by eq_refl)
set_option maxRecDepth 100000 in
theorem ri_k12 : ri_mk 12 = true := ri_mk2 (ri_oqp ri_o12 ri_oq0) (ri_G4 (i := 156) (by eq_refl) (by eq_refl)) (ri_G1 (i := 6) (by eq_refl) (by eq_refl)) (by eq_refl) (by eq_refl) (ri_G4 (i := 155) (by eq_refl) (by eq_refl)) (ri_G0 (by eq_refl)) (q := (RX0, TX0, 3)) (by eq_refl) (by eq_refl)
theorem ri_o13 : ri_on 0 = (ri_y 13).cls := by eq_refl
theorem ri_d13_2 : ri_nd (ri_y 13) 2 = true := ri_nd_of ri_o13 ri_oq0 (by eq_refl)
set_option maxRecDepth 100000 in
theorem ri_k13 : ri_mk 13 = true := ri_mk2 (ri_oqp ri_o13 ri_oq0) (ri_G4 (i := 22) (by eq_refl) (by eq_refl)) (ri_G1 (i := 6) (by eq_refl) (by eq_refl)) (by eq_refl) (by eq_refl) (ri_G4 (i := 21) (by eq_refl) (by eq_refl)) (ri_G0 (by eq_refl)) (q := (RX0, TX0, 3)) (by eq_refl) (by eq_refl)
theorem ri_o14 : ri_on 1 = (ri_y 14).cls := by eq_refl
theorem ri_d14_0 : ri_nd (ri_y 14) 0 = true := ri_nd_of ri_o14 ri_oq1 (by eq_refl)
set_option maxRecDepth 100000 in
theorem ri_k14 : ri_mk 14 = true := ri_mk1 (ri_oqp ri_o14 ri_oq1) (ri_G1 (i := 75) (by eq_refl) (by eq_refl)) (ri_G1 (i := 4) (by eq_refl) (by eq_refl)) (by eq_refl) (by eq_refl) (ri_G1 (i := 74) (by eq_refl) (by eq_refl)) (by eq_refl) (by eq_refl)
theorem ri_o15 : ri_on 1 = (ri_y 15).cls := by eq_refl
theorem ri_d15_2 : ri_nd (ri_y 15) 2 = true := ri_nd_of ri_o15 ri_oq1 (by eq_refl)
set_option maxRecDepth 100000 in
theorem ri_k15 : ri_mk 15 = true := ri_mk2 (ri_oqp ri_o15 ri_oq1) (ri_G2 (i := 216) (by eq_refl) (by eq_refl)) (ri_G1 (i := 4) (by eq_refl) (by eq_refl)) (by eq_refl) (by eq_refl) (ri_G2 (i := 215) (by eq_refl) (by eq_refl)) (ri_G0 (by eq_refl)) (q := (RX1, TX1, 1)) (by eq_refl) (by eq_refl)
theorem ri_o16 : ri_on 1 = (ri_y 16).cls := by eq_refl
theorem ri_d16_2 : ri_nd (ri_y 16) 2 = true := ri_nd_of ri_o16 ri_oq1 (by eq_refl)
set_option maxRecDepth 100000 in
theorem ri_k16 : ri_mk 16 = true := ri_mk2 (ri_oqp ri_o16 ri_oq1) (ri_G2 (i := 224) (by eq_refl) (by eq_refl)) (ri_G1 (i := 4) (by eq_refl) (by eq_refl)) (by eq_refl) (by eq_refl) (ri_G2 (i := 223) (by eq_refl) (by eq_refl)) (ri_G0 (by eq_refl)) (q := (RX1, TX1, 1)) (by eq_refl) (by eq_refl)
theorem ri_o17 : ri_on 1 = (ri_y 17).cls := by eq_refl
theorem ri_d17_1 : ri_nd (ri_y 17) 1 = true := ri_nd_of ri_o17 ri_oq1 (by eq_refl)
set_option maxRecDepth 100000 in
theorem ri_k17 : ri_mk 17 = true := ri_mk0 (ri_oqp ri_o17 ri_oq1) (ri_G2 (i := 234) (by eq_refl) (by eq_refl)) (ri_G1 (i := 4) (by eq_refl) (by eq_refl)) (by eq_refl) (by eq_refl) (ri_G2 (i := 233) (by eq_refl) (by eq_refl))
theorem ri_o18 : ri_on 2 = (ri_y 18).cls := by eq_refl
theorem ri_d18_0 : ri_nd (ri_y 18) 0 = true := ri_nd_of ri_o18 ri_oq2 (by eq_refl)
set_option maxRecDepth 100000 in
theorem ri_k18 : ri_mk 18 = true := ri_mk1 (ri_oqp ri_o18 ri_oq2) (ri_G1 (i := 113) (by eq_refl) (by eq_refl)) (ri_G1 (i := 7) (by eq_refl) (by eq_refl)) (by eq_refl) (by eq_refl) (ri_G1 (i := 112) (by eq_refl) (by eq_refl)) (by eq_refl) (by eq_refl)
theorem ri_o19 : ri_on 2 = (ri_y 19).cls := by eq_refl
theorem ri_d19_1 : ri_nd (ri_y 19) 1 = true := ri_nd_of ri_o19 ri_oq2 (by eq_refl)
set_option maxRecDepth 100000 in
theorem ri_k19 : ri_mk 19 = true := ri_mk2 (ri_oqp ri_o19 ri_oq2) (ri_G3 (i := 41) (by eq_refl) (by eq_refl)) (ri_G1 (i := 7) (by eq_refl) (by eq_refl)) (by eq_refl) (by eq_refl) (ri_G3 (i := 40) (by eq_refl) (by eq_refl)) (ri_G0 (by eq_refl)) (q := (RX2, TX2, 12)) (by eq_refl) (by eq_refl)
theorem ri_o20 : ri_on 2 = (ri_y 20).cls := by eq_refl
theorem ri_d20_1 : ri_nd (ri_y 20) 1 = true := ri_nd_of ri_o20 ri_oq2 (by eq_refl)
set_option maxRecDepth 100000 in
theorem ri_k20 : ri_mk 20 = true := ri_mk2 (ri_oqp ri_o20 ri_oq2) (ri_G5 (i := 127) (by eq_refl) (by eq_refl)) (ri_G1 (i := 7) (by eq_refl) (by eq_refl)) (by eq_refl) (by eq_refl) (ri_G5 (i := 126) (by eq_refl) (by eq_refl)) (ri_G0 (by eq_refl)) (q := (RX2, TX2, 12)) (by eq_refl) (by eq_refl)
theorem ri_o21 : ri_on 2 = (ri_y 21).cls := by eq_refl
theorem ri_d21_1 : ri_nd (ri_y 21) 1 = true := ri_nd_of ri_o21 ri_oq2 (by eq_refl)
set_option maxRecDepth 100000 in
theorem ri_k21 : ri_mk 21 = true := ri_mk2 (ri_oqp ri_o21 ri_oq2) (ri_G3 (i := 212) (by eq_refl) (by eq_refl)) (ri_G1 (i := 7) (by eq_refl) (by eq_refl)) (by eq_refl) (by eq_refl) (ri_G3 (i := 211) (by eq_refl) (by eq_refl)) (ri_G0 (by eq_refl)) (q := (RX2, TX2, 12)) (by eq_refl) (by eq_refl)
theorem ri_o22 : ri_on 2 = (ri_y 22).cls := by eq_refl
theorem ri_d22_4 : ri_nd (ri_y 22) 4 = true := ri_nd_of ri_o22 ri_oq2 (by eq_refl)
set_option maxRecDepth 100000 in
theorem ri_k22 : ri_mk 22 = true := ri_mk2 (ri_oqp ri_o22 ri_oq2) (ri_G3 (i := 220) (by eq_refl) (by eq_refl)) (ri_G1 (i := 7) (by eq_refl) (by eq_refl)) (by eq_refl) (by eq_refl) (ri_G3 (i := 219) (by eq_refl) (by eq_refl)) (ri_G0 (by eq_refl)) (q := (RX2, TX2, 12)) (by eq_refl) (by eq_refl)
theorem ri_o23 : ri_on 2 = (ri_y 23).cls := by eq_refl
theorem ri_d23_1 : ri_nd (ri_y 23) 1 = true := ri_nd_of ri_o23 ri_oq2 (by eq_refl)
set_option maxRecDepth 100000 in
theorem ri_k23 : ri_mk 23 = true := ri_mk2 (ri_oqp ri_o23 ri_oq2) (ri_G3 (i := 229) (by eq_refl) (by eq_refl)) (ri_G1 (i := 7) (by eq_refl) (by eq_refl)) (by eq_refl) (by eq_refl) (ri_G3 (i := 228) (by eq_refl) (by eq_refl)) (ri_G0 (by eq_refl)) (q := (RX2, TX2, 12)) (by eq_refl) (by eq_refl)
theorem ri_o24 : ri_on 2 = (ri_y 24).cls := by eq_refl
theorem ri_d24_1 : ri_nd (ri_y 24) 1 = true := ri_nd_of ri_o24 ri_oq2 (by eq_refl)
set_option maxRecDepth 100000 in
theorem ri_k24 : ri_mk 24 = true := ri_mk2 (ri_oqp ri_o24 ri_oq2) (ri_G3 (i := 234) (by eq_refl) (by eq_refl)) (ri_G1 (i := 7) (by eq_refl) (by eq_refl)) (by eq_refl) (by eq_refl) (ri_G3 (i := 233) (by eq_refl) (by eq_refl)) (ri_G0 (by eq_refl)) (q := (RX2, TX2, 12)) (by eq_refl) (by eq_refl)
theorem ri_o25 : ri_on 2 = (ri_y 25).cls := by eq_refl
theorem ri_d25_2 : ri_nd (ri_y 25) 2 = true := ri_nd_of ri_o25 ri_oq2 (by eq_refl)
set_option maxRecDepth 100000 in
theorem ri_k25 : ri_mk 25 = true := ri_mk2 (ri_oqp ri_o25 ri_oq2) (ri_G4 (i := 2) (by eq_refl) (by eq_refl)) (ri_G1 (i := 7) (by eq_refl) (by eq_refl)) (by eq_refl) (by eq_refl) (ri_G4 (i := 1) (by eq_refl) (by eq_refl)) (ri_G0 (by eq_refl)) (q := (RX2, TX2, 12)) (by eq_refl) (by eq_refl)
theorem ri_o26 : ri_on 2 = (ri_y 26).cls := by eq_refl
theorem ri_d26_0 : ri_nd (ri_y 26) 0 = true := ri_nd_of ri_o26 ri_oq2 (by eq_refl)
set_option maxRecDepth 100000 in
theorem ri_k26 : ri_mk 26 = true := ri_mk2 (ri_oqp ri_o26 ri_oq2) (ri_G4 (i := 38) (by eq_refl) (by eq_refl)) (ri_G1 (i := 7) (by eq_refl) (by eq_refl)) (by eq_refl) (by eq_refl) (ri_G4 (i := 37) (by eq_refl) (by eq_refl)) (ri_G0 (by eq_refl)) (q := (RX2, TX2, 12)) (by eq_refl) (by eq_refl)
theorem ri_o27 : ri_on 2 = (ri_y 27).cls := by eq_refl
theorem ri_d27_2 : ri_nd (ri_y 27) 2 = true := ri_nd_of ri_o27 ri_oq2 (by eq_refl)
set_option maxRecDepth 100000 in
theorem ri_k27 : ri_mk 27 = true := ri_mk2 (ri_oqp ri_o27 ri_oq2) (ri_G4 (i := 49) (by eq_refl) (by eq_refl)) (ri_G1 (i := 7) (by eq_refl) (by eq_refl)) (by eq_refl) (by eq_refl) (ri_G4 (i := 48) (by eq_refl) (by eq_refl)) (ri_G0 (by eq_refl)) (q := (RX2, TX2, 12)) (by eq_refl) (by eq_refl)
theorem ri_o28 : ri_on 2 = (ri_y 28).cls := by eq_refl
theorem ri_d28_0 : ri_nd (ri_y 28) 0 = true := ri_nd_of ri_o28 ri_oq2 (by eq_refl)
set_option maxRecDepth 100000 in
theorem ri_k28 : ri_mk 28 = true := ri_mk2 (ri_oqp ri_o28 ri_oq2) (ri_G5 (i := 113) (by eq_refl) (by eq_refl)) (ri_G1 (i := 7) (by eq_refl) (by eq_refl)) (by eq_refl) (by eq_refl) (ri_G5 (i := 112) (by eq_refl) (by eq_refl)) (ri_G0 (by eq_refl)) (q := (RX2, TX2, 12)) (by eq_refl) (by eq_refl)
theorem ri_o29 : ri_on 2 = (ri_y 29).cls := by eq_refl
theorem ri_d29_0 : ri_nd (ri_y 29) 0 = true := ri_nd_of ri_o29 ri_oq2 (by eq_refl)
set_option maxRecDepth 100000 in
theorem ri_k29 : ri_mk 29 = true := ri_mk2 (ri_oqp ri_o29 ri_oq2) (ri_G5 (i := 117) (by eq_refl) (by eq_refl)) (ri_G1 (i := 7) (by eq_refl) (by eq_refl)) (by eq_refl) (by eq_refl) (ri_G5 (i := 116) (by eq_refl) (by eq_refl)) (ri_G0 (by eq_refl)) (q := (RX2, TX2, 12)) (by eq_refl) (by eq_refl)
theorem ri_o30 : ri_on 2 = (ri_y 30).cls := by eq_refl
theorem ri_d30_1 : ri_nd (ri_y 30) 1 = true := ri_nd_of ri_o30 ri_oq2 (by eq_refl)
set_option maxRecDepth 100000 in
theorem ri_k30 : ri_mk 30 = true := ri_mk2 (ri_oqp ri_o30 ri_oq2) (ri_G5 (i := 101) (by eq_refl) (by eq_refl)) (ri_G1 (i := 7) (by eq_refl) (by eq_refl)) (by eq_refl) (by eq_refl) (ri_G5 (i := 100) (by eq_refl) (by eq_refl)) (ri_G0 (by eq_refl)) (q := (RX2, TX2, 12)) (by eq_refl) (by eq_refl)
theorem ri_o31 : ri_on 3 = (ri_y 31).cls := by eq_refl
theorem ri_d31_0 : ri_nd (ri_y 31) 0 = true := ri_nd_of ri_o31 ri_oq3 (by eq_refl)
set_option maxRecDepth 100000 in
theorem ri_k31 : ri_mk 31 = true := ri_mk1 (ri_oqp ri_o31 ri_oq3) (ri_G1 (i := 228) (by eq_refl) (by eq_refl)) (ri_G1 (i := 11) (by eq_refl) (by eq_refl)) (by eq_refl) (by eq_refl) (ri_G1 (i := 227) (by eq_refl) (by eq_refl)) (by eq_refl) (by eq_refl)
theorem ri_o32 : ri_on 3 = (ri_y 32).cls := by eq_refl
theorem ri_d32_0 : ri_nd (ri_y 32) 0 = true := ri_nd_of ri_o32 ri_oq3 (by eq_refl)
set_option maxRecDepth 100000 in
theorem ri_k32 : ri_mk 32 = true := ri_mk2 (ri_oqp ri_o32 ri_oq3) (ri_G3 (i := 78) (by eq_refl) (by eq_refl)) (ri_G1 (i := 11) (by eq_refl) (by eq_refl)) (by eq_refl) (by eq_refl) (ri_G3 (i := 77) (by eq_refl) (by eq_refl)) (ri_G0 (by eq_refl)) (q := (RX3, TX3, 13)) (by eq_refl) (by eq_refl)
theorem ri_o33 : ri_on 3 = (ri_y 33).cls := by eq_refl
theorem ri_d33_1 : ri_nd (ri_y 33) 1 = true := ri_nd_of ri_o33 ri_oq3 (by eq_refl)
set_option maxRecDepth 100000 in
theorem ri_k33 : ri_mk 33 = true := ri_mk2 (ri_oqp ri_o33 ri_oq3) (ri_G3 (i := 102) (by eq_refl) (by eq_refl)) (ri_G1 (i := 11) (by eq_refl) (by eq_refl)) (by eq_refl) (by eq_refl) (ri_G3 (i := 101) (by eq_refl) (by eq_refl)) (ri_G0 (by eq_refl)) (q := (RX3, TX3, 13)) (by eq_refl) (by eq_refl)
theorem ri_o34 : ri_on 3 = (ri_y 34).cls := by eq_refl
theorem ri_d34_3 : ri_nd (ri_y 34) 3 = true := ri_nd_of ri_o34 ri_oq3 (by eq_refl)
set_option maxRecDepth 100000 in
theorem ri_k34 : ri_mk 34 = true := ri_mk2 (ri_oqp ri_o34 ri_oq3) (ri_G3 (i := 115) (by eq_refl) (by eq_refl)) (ri_G1 (i := 11) (by eq_refl) (by eq_refl)) (by eq_refl) (by eq_refl) (ri_G3 (i := 114) (by eq_refl) (by eq_refl)) (ri_G0 (by eq_refl)) (q := (RX3, TX3, 13)) (by eq_refl) (by eq_refl)
theorem ri_o35 : ri_on 3 = (ri_y 35).cls := by eq_refl
theorem ri_d35_3 : ri_nd (ri_y 35) 3 = true := ri_nd_of ri_o35 ri_oq3 (by eq_refl)
set_option maxRecDepth 100000 in
theorem ri_k35 : ri_mk 35 = true := ri_mk0 (ri_oqp ri_o35 ri_oq3) (ri_G3 (i := 168) (by eq_refl) (by eq_refl)) (ri_G1 (i := 11) (by eq_refl) (by eq_refl)) (by eq_refl) (by eq_refl) (ri_G3 (i := 167) (by eq_refl) (by eq_refl))
theorem ri_o36 : ri_on 3 = (ri_y 36).cls := by eq_refl
theorem ri_d36_3 : ri_nd (ri_y 36) 3 = true := ri_nd_of ri_o36 ri_oq3 (by eq_refl)
set_option maxRecDepth 100000 in
theorem ri_k36 : ri_mk 36 = true := ri_mk2 (ri_oqp ri_o36 ri_oq3) (ri_G3 (i := 201) (by eq_refl) (by eq_refl)) (ri_G1 (i := 11) (by eq_refl) (by eq_refl)) (by eq_refl) (by eq_refl) (ri_G3 (i := 200) (by eq_refl) (by eq_refl)) (ri_G0 (by eq_refl)) (q := (RX3, TX3, 13)) (by eq_refl) (by eq_refl)
theorem ri_o37 : ri_on 3 = (ri_y 37).cls := by eq_refl
theorem ri_d37_3 : ri_nd (ri_y 37) 3 = true := ri_nd_of ri_o37 ri_oq3 (by eq_refl)
set_option maxRecDepth 100000 in
theorem ri_k37 : ri_mk 37 = true := ri_mk2 (ri_oqp ri_o37 ri_oq3) (ri_G4 (i := 30) (by eq_refl) (by eq_refl)) (ri_G1 (i := 11) (by eq_refl) (by eq_refl)) (by eq_refl) (by eq_refl) (ri_G4 (i := 29) (by eq_refl) (by eq_refl)) (ri_G0 (by eq_refl)) (q := (RX3, TX3, 13)) (by eq_refl) (by eq_refl)
theorem ri_o38 : ri_on 3 = (ri_y 38).cls := by eq_refl
theorem ri_d38_1 : ri_nd (ri_y 38) 1 = true := ri_nd_of ri_o38 ri_oq3 (by eq_refl)
set_option maxRecDepth 100000 in
theorem ri_k38 : ri_mk 38 = true := ri_mk2 (ri_oqp ri_o38 ri_oq3) (ri_G3 (i := 147) (by eq_refl) (by eq_refl)) (ri_G1 (i := 11) (by eq_refl) (by eq_refl)) (by eq_refl) (by eq_refl) (ri_G3 (i := 146) (by eq_refl) (by eq_refl)) (ri_G0 (by eq_refl)) (q := (RX3, TX3, 13)) (by eq_refl) (by eq_refl)
theorem ri_o39 : ri_on 3 = (ri_y 39).cls := by eq_refl
theorem ri_d39_2 : ri_nd (ri_y 39) 2 = true := ri_nd_of ri_o39 ri_oq3 (by eq_refl)
set_option maxRecDepth 100000 in
theorem ri_k39 : ri_mk 39 = true := ri_mk2 (ri_oqp ri_o39 ri_oq3) (ri_G3 (i := 151) (by eq_refl) (by eq_refl)) (ri_G1 (i := 11) (by eq_refl) (by eq_refl)) (by eq_refl) (by eq_refl) (ri_G3 (i := 150) (by eq_refl) (by eq_refl)) (ri_G0 (by eq_refl)) (q := (RX3, TX3, 13)) (by eq_refl) (by eq_refl)
theorem ri_o40 : ri_on 3 = (ri_y 40).cls := by eq_refl
theorem ri_d40_2 : ri_nd (ri_y 40) 2 = true := ri_nd_of ri_o40 ri_oq3 (by eq_refl)
set_option maxRecDepth 100000 in
theorem ri_k40 : ri_mk 40 = true := ri_mk2 (ri_oqp ri_o40 ri_oq3) (ri_G3 (i := 197) (by eq_refl) (by eq_refl)) (ri_G1 (i := 11) (by eq_refl) (by eq_refl)) (by eq_refl) (by eq_refl) (ri_G3 (i := 196) (by eq_refl) (by eq_refl)) (ri_G0 (by eq_refl)) (q := (RX3, TX3, 13)) (by eq_refl) (by eq_refl)
theorem ri_o41 : ri_on 3 = (ri_y 41).cls := by eq_refl
theorem ri_d41_4 : ri_nd (ri_y 41) 4 = true := ri_nd_of ri_o41 ri_oq3 (by eq_refl)
set_option maxRecDepth 100000 in
theorem ri_k41 : ri_mk 41 = true := ri_mk2 (ri_oqp ri_o41 ri_oq3) (ri_G3 (i := 156) (by eq_refl) (by eq_refl)) (ri_G1 (i := 11) (by eq_refl) (by eq_refl)) (by eq_refl) (by eq_refl) (ri_G3 (i := 155) (by eq_refl) (by eq_refl)) (ri_G0 (by eq_refl)) (q := (RX3, TX3, 13)) (by eq_refl) (by eq_refl)
theorem ri_o42 : ri_on 3 = (ri_y 42).cls := by eq_refl
theorem ri_d42_2 : ri_nd (ri_y 42) 2 = true := ri_nd_of ri_o42 ri_oq3 (by eq_refl)
set_option maxRecDepth 100000 in
theorem ri_k42 : ri_mk 42 = true := ri_mk2 (ri_oqp ri_o42 ri_oq3) (ri_G3 (i := 165) (by eq_refl) (by eq_refl)) (ri_G1 (i := 11) (by eq_refl) (by eq_refl)) (by eq_refl) (by eq_refl) (ri_G3 (i := 164) (by eq_refl) (by eq_refl)) (ri_G0 (by eq_refl)) (q := (RX3, TX3, 13)) (by eq_refl) (by eq_refl)
theorem ri_o43 : ri_on 3 = (ri_y 43).cls := by eq_refl
theorem ri_d43_1 : ri_nd (ri_y 43) 1 = true := ri_nd_of ri_o43 ri_oq3 (by eq_refl)
set_option maxRecDepth 100000 in
theorem ri_k43 : ri_mk 43 = true := ri_mk2 (ri_oqp ri_o43 ri_oq3) (ri_G3 (i := 186) (by eq_refl) (by eq_refl)) (ri_G1 (i := 11) (by eq_refl) (by eq_refl)) (by eq_refl) (by eq_refl) (ri_G3 (i := 185) (by eq_refl) (by eq_refl)) (ri_G0 (by eq_refl)) (q := (RX3, TX3, 13)) (by eq_refl) (by eq_refl)
theorem ri_o44 : ri_on 3 = (ri_y 44).cls := by eq_refl
theorem ri_d44_1 : ri_nd (ri_y 44) 1 = true := ri_nd_of ri_o44 ri_oq3 (by eq_refl)
set_option maxRecDepth 100000 in
theorem ri_k44 : ri_mk 44 = true := ri_mk2 (ri_oqp ri_o44 ri_oq3) (ri_G3 (i := 173) (by eq_refl) (by eq_refl)) (ri_G1 (i := 11) (by eq_refl) (by eq_refl)) (by eq_refl) (by eq_refl) (ri_G3 (i := 172) (by eq_refl) (by eq_refl)) (ri_G0 (by eq_refl)) (q := (RX3, TX3, 13)) (by eq_refl) (by eq_refl)
theorem ri_o45 : ri_on 3 = (ri_y 45).cls := by eq_refl
theorem ri_d45_2 : ri_nd (ri_y 45) 2 = true := ri_nd_of ri_o45 ri_oq3 (by eq_refl)
set_option maxRecDepth 100000 in
theorem ri_k45 : ri_mk 45 = true := ri_mk2 (ri_oqp ri_o45 ri_oq3) (ri_G3 (i := 177) (by eq_refl) (by eq_refl)) (ri_G1 (i := 11) (by eq_refl) (by eq_refl)) (by eq_refl) (by eq_refl) (ri_G3 (i := 176) (by eq_refl) (by eq_refl)) (ri_G0 (by eq_refl)) (q := (RX3, TX3, 13)) (by eq_refl) (by eq_refl)
theorem ri_o46 : ri_on 3 = (ri_y 46).cls := by eq_refl
theorem ri_d46_1 : ri_nd (ri_y 46) 1 = true := ri_nd_of ri_o46 ri_oq3 (by eq_refl)
set_option maxRecDepth 100000 in
theorem ri_k46 : ri_mk 46 = true := ri_mk2 (ri_oqp ri_o46 ri_oq3) (ri_G3 (i := 182) (by eq_refl) (by eq_refl)) (ri_G1 (i := 11) (by eq_refl) (by eq_refl)) (by eq_refl) (by eq_refl) (ri_G3 (i := 181) (by eq_refl) (by eq_refl)) (ri_G0 (by eq_refl)) (q := (RX3, TX3, 13)) (by eq_refl) (by eq_refl)
theorem ri_o47 : ri_on 3 = (ri_y 47).cls := by eq_refl
theorem ri_d47_0 : ri_nd (ri_y 47) 0 = true := ri_nd_of ri_o47 ri_oq3 (by eq_refl)
set_option maxRecDepth 100000 in
theorem ri_k47 : ri_mk 47 = true := ri_mk2 (ri_oqp ri_o47 ri_oq3) (ri_G3 (i := 190) (by eq_refl) (by eq_refl)) (ri_G1 (i := 11) (by eq_refl) (by eq_refl)) (by eq_refl) (by eq_refl) (ri_G3 (i := 189) (by eq_refl) (by eq_refl)) (ri_G0 (by eq_refl)) (q := (RX3, TX3, 13)) (by eq_refl) (by eq_refl)
theorem ri_o48 : ri_on 3 = (ri_y 48).cls := by eq_refl
theorem ri_d48_3 : ri_nd (ri_y 48) 3 = true := ri_nd_of ri_o48 ri_oq3 (by eq_refl)
set_option maxRecDepth 100000 in
theorem ri_k48 : ri_mk 48 = true := ri_mk0 (ri_oqp ri_o48 ri_oq3) (ri_G3 (i := 193) (by eq_refl) (by eq_refl)) (ri_G1 (i := 11) (by eq_refl) (by eq_refl)) (by eq_refl) (by eq_refl) (ri_G3 (i := 192) (by eq_refl) (by eq_refl))
theorem ri_o49 : ri_on 4 = (ri_y 49).cls := by eq_refl
theorem ri_d49_0 : ri_nd (ri_y 49) 0 = true := ri_nd_of ri_o49 ri_oq4 (by eq_refl)
set_option maxRecDepth 100000 in
theorem ri_k49 : ri_mk 49 = true := ri_mk1 (ri_oqp ri_o49 ri_oq4) (ri_G1 (i := 85) (by eq_refl) (by eq_refl)) (ri_G1 (i := 5) (by eq_refl) (by eq_refl)) (by eq_refl) (by eq_refl) (ri_G1 (i := 84) (by eq_refl) (by eq_refl)) (by eq_refl) (by eq_refl)
theorem ri_o50 : ri_on 4 = (ri_y 50).cls := by eq_refl
theorem ri_d50_2 : ri_nd (ri_y 50) 2 = true := ri_nd_of ri_o50 ri_oq4 (by eq_refl)
set_option maxRecDepth 100000 in
theorem ri_k50 : ri_mk 50 = true := ri_mk2 (ri_oqp ri_o50 ri_oq4) (ri_G3 (i := 74) (by eq_refl) (by eq_refl)) (ri_G1 (i := 5) (by eq_refl) (by eq_refl)) (by eq_refl) (by eq_refl) (ri_G3 (i := 73) (by eq_refl) (by eq_refl)) (ri_G0 (by eq_refl)) (q := (RX4, TX4, 1)) (by eq_refl) (by eq_refl)
theorem ri_o51 : ri_on 4 = (ri_y 51).cls := by eq_refl
theorem ri_d51_1 : ri_nd (ri_y 51) 1 = true := ri_nd_of ri_o51 ri_oq4 (by eq_refl)
set_option maxRecDepth 100000 in
theorem ri_k51 : ri_mk 51 = true := ri_mk0 (ri_oqp ri_o51 ri_oq4) (ri_G3 (i := 82) (by eq_refl) (by eq_refl)) (ri_G1 (i := 5) (by eq_refl) (by eq_refl)) (by eq_refl) (by eq_refl) (ri_G3 (i := 81) (by eq_refl) (by eq_refl))
theorem ri_o52 : ri_on 4 = (ri_y 52).cls := by eq_refl
theorem ri_d52_3 : ri_nd (ri_y 52) 3 = true := ri_nd_of ri_o52 ri_oq4 (by eq_refl)
set_option maxRecDepth 100000 in
theorem ri_k52 : ri_mk 52 = true := ri_mk2 (ri_oqp ri_o52 ri_oq4) (ri_G3 (i := 107) (by eq_refl) (by eq_refl)) (ri_G1 (i := 5) (by eq_refl) (by eq_refl)) (by eq_refl) (by eq_refl) (ri_G3 (i := 106) (by eq_refl) (by eq_refl)) (ri_G0 (by eq_refl)) (q := (RX4, TX4, 1)) (by eq_refl) (by eq_refl)
theorem ri_o53 : ri_on 4 = (ri_y 53).cls := by eq_refl
theorem ri_d53_3 : ri_nd (ri_y 53) 3 = true := ri_nd_of ri_o53 ri_oq4 (by eq_refl)
set_option maxRecDepth 100000 in
theorem ri_k53 : ri_mk 53 = true := ri_mk2 (ri_oqp ri_o53 ri_oq4) (ri_G3 (i := 111) (by eq_refl) (by eq_refl)) (ri_G1 (i := 5) (by eq_refl) (by eq_refl)) (by eq_refl) (by eq_refl) (ri_G3 (i := 110) (by eq_refl) (by eq_refl)) (ri_G0 (by eq_refl)) (q := (RX4, TX4, 1)) (by eq_refl) (by eq_refl)
theorem ri_o54 : ri_on 4 = (ri_y 54).cls := by eq_refl
theorem ri_d54_2 : ri_nd (ri_y 54) 2 = true := ri_nd_of ri_o54 ri_oq4 (by eq_refl)
set_option maxRecDepth 100000 in
theorem ri_k54 : ri_mk 54 = true := ri_mk2 (ri_oqp ri_o54 ri_oq4) (ri_G3 (i := 88) (by eq_refl) (by eq_refl)) (ri_G1 (i := 5) (by eq_refl) (by eq_refl)) (by eq_refl) (by eq_refl) (ri_G3 (i := 87) (by eq_refl) (by eq_refl)) (ri_G0 (by eq_refl)) (q := (RX4, TX4, 1)) (by eq_refl) (by eq_refl)
theorem ri_o55 : ri_on 4 = (ri_y 55).cls := by eq_refl
theorem ri_d55_2 : ri_nd (ri_y 55) 2 = true := ri_nd_of ri_o55 ri_oq4 (by eq_refl)
set_option maxRecDepth 100000 in
theorem ri_k55 : ri_mk 55 = true := ri_mk2 (ri_oqp ri_o55 ri_oq4) (ri_G3 (i := 92) (by eq_refl) (by eq_refl)) (ri_G1 (i := 5) (by eq_refl) (by eq_refl)) (by eq_refl) (by eq_refl) (ri_G3 (i := 91) (by eq_refl) (by eq_refl)) (ri_G0 (by eq_refl)) (q := (RX4, TX4, 1)) (by eq_refl) (by eq_refl)
theorem ri_o56 : ri_on 5 = (ri_y 56).cls := by eq_refl
theorem ri_d56_0 : ri_nd (ri_y 56) 0 = true := ri_nd_of ri_o56 ri_oq5 (by eq_refl)
set_option maxRecDepth 100000 in
theorem ri_k56 : ri_mk 56 = true := ri_mk1 (ri_oqp ri_o56 ri_oq5) (ri_G1 (i := 171) (by eq_refl) (by eq_refl)) (ri_G1 (i := 8) (by eq_refl) (by eq_refl)) (by eq_refl) (by eq_refl) (ri_G1 (i := 170) (by eq_refl) (by eq_refl)) (by eq_refl) (by eq_refl)
theorem ri_o57 : ri_on 5 = (ri_y 57).cls := by eq_refl
theorem ri_d57_1 : ri_nd (ri_y 57) 1 = true := ri_nd_of ri_o57 ri_oq5 (by eq_refl)
set_option maxRecDepth 100000 in
theorem ri_k57 : ri_mk 57 = true := ri_mk2 (ri_oqp ri_o57 ri_oq5) (ri_G3 (i := 56) (by eq_refl) (by eq_refl)) (ri_G1 (i := 8) (by eq_refl) (by eq_refl)) (by eq_refl) (by eq_refl) (ri_G3 (i := 55) (by eq_refl) (by eq_refl)) (ri_G0 (by eq_refl)) (q := (RX5, TX5, 4)) (by eq_refl) (by eq_refl)
theorem ri_o58 : ri_on 5 = (ri_y 58).cls := by eq_refl
theorem ri_d58_3 : ri_nd (ri_y 58) 3 = true := ri_nd_of ri_o58 ri_oq5 (by eq_refl)
set_option maxRecDepth 100000 in
theorem ri_k58 : ri_mk 58 = true := ri_mk2 (ri_oqp ri_o58 ri_oq5) (ri_G3 (i := 61) (by eq_refl) (by eq_refl)) (ri_G1 (i := 8) (by eq_refl) (by eq_refl)) (by eq_refl) (by eq_refl) (ri_G3 (i := 60) (by eq_refl) (by eq_refl)) (ri_G0 (by eq_refl)) (q := (RX5, TX5, 4)) (by eq_refl) (by eq_refl)
theorem ri_o59 : ri_on 5 = (ri_y 59).cls := by eq_refl
theorem ri_d59_2 : ri_nd (ri_y 59) 2 = true := ri_nd_of ri_o59 ri_oq5 (by eq_refl)
set_option maxRecDepth 100000 in
theorem ri_k59 : ri_mk 59 = true := ri_mk2 (ri_oqp ri_o59 ri_oq5) (ri_G4 (i := 225) (by eq_refl) (by eq_refl)) (ri_G1 (i := 8) (by eq_refl) (by eq_refl)) (by eq_refl) (by eq_refl) (ri_G4 (i := 224) (by eq_refl) (by eq_refl)) (ri_G0 (by eq_refl)) (q := (RX5, TX5, 4)) (by eq_refl) (by eq_refl)
theorem ri_o60 : ri_on 5 = (ri_y 60).cls := by eq_refl
theorem ri_d60_2 : ri_nd (ri_y 60) 2 = true := ri_nd_of ri_o60 ri_oq5 (by eq_refl)
set_option maxRecDepth 100000 in
theorem ri_k60 : ri_mk 60 = true := ri_mk2 (ri_oqp ri_o60 ri_oq5) (ri_G4 (i := 235) (by eq_refl) (by eq_refl)) (ri_G1 (i := 8) (by eq_refl) (by eq_refl)) (by eq_refl) (by eq_refl) (ri_G4 (i := 234) (by eq_refl) (by eq_refl)) (ri_G0 (by eq_refl)) (q := (RX5, TX5, 4)) (by eq_refl) (by eq_refl)
theorem ri_o61 : ri_on 5 = (ri_y 61).cls := by eq_refl
theorem ri_d61_3 : ri_nd (ri_y 61) 3 = true := ri_nd_of ri_o61 ri_oq5 (by eq_refl)
set_option maxRecDepth 100000 in
theorem ri_k61 : ri_mk 61 = true := ri_mk2 (ri_oqp ri_o61 ri_oq5) (ri_G4 (i := 220) (by eq_refl) (by eq_refl)) (ri_G1 (i := 8) (by eq_refl) (by eq_refl)) (by eq_refl) (by eq_refl) (ri_G4 (i := 219) (by eq_refl) (by eq_refl)) (ri_G0 (by eq_refl)) (q := (RX5, TX5, 4)) (by eq_refl) (by eq_refl)
theorem ri_o62 : ri_on 5 = (ri_y 62).cls := by eq_refl
theorem ri_d62_3 : ri_nd (ri_y 62) 3 = true := ri_nd_of ri_o62 ri_oq5 (by eq_refl)
set_option maxRecDepth 100000 in
theorem ri_k62 : ri_mk 62 = true := ri_mk2 (ri_oqp ri_o62 ri_oq5) (ri_G4 (i := 231) (by eq_refl) (by eq_refl)) (ri_G1 (i := 8) (by eq_refl) (by eq_refl)) (by eq_refl) (by eq_refl) (ri_G4 (i := 230) (by eq_refl) (by eq_refl)) (ri_G0 (by eq_refl)) (q := (RX5, TX5, 4)) (by eq_refl) (by eq_refl)
theorem ri_o63 : ri_on 5 = (ri_y 63).cls := by eq_refl
theorem ri_d63_3 : ri_nd (ri_y 63) 3 = true := ri_nd_of ri_o63 ri_oq5 (by eq_refl)
set_option maxRecDepth 100000 in
theorem ri_k63 : ri_mk 63 = true := ri_mk2 (ri_oqp ri_o63 ri_oq5) (ri_G5 (i := 86) (by eq_refl) (by eq_refl)) (ri_G1 (i := 8) (by eq_refl) (by eq_refl)) (by eq_refl) (by eq_refl) (ri_G5 (i := 85) (by eq_refl) (by eq_refl)) (ri_G0 (by eq_refl)) (q := (RX5, TX5, 4)) (by eq_refl) (by eq_refl)
theorem ri_o64 : ri_on 5 = (ri_y 64).cls := by eq_refl
theorem ri_d64_4 : ri_nd (ri_y 64) 4 = true := ri_nd_of ri_o64 ri_oq5 (by eq_refl)
set_option maxRecDepth 100000 in
theorem ri_k64 : ri_mk 64 = true := ri_mk2 (ri_oqp ri_o64 ri_oq5) (ri_G5 (i := 57) (by eq_refl) (by eq_refl)) (ri_G1 (i := 8) (by eq_refl) (by eq_refl)) (by eq_refl) (by eq_refl) (ri_G5 (i := 56) (by eq_refl) (by eq_refl)) (ri_G0 (by eq_refl)) (q := (RX5, TX5, 4)) (by eq_refl) (by eq_refl)
theorem ri_o65 : ri_on 5 = (ri_y 65).cls := by eq_refl
theorem ri_d65_5 : ri_nd (ri_y 65) 5 = true := ri_nd_of ri_o65 ri_oq5 (by eq_refl)
set_option maxRecDepth 100000 in
theorem ri_k65 : ri_mk 65 = true := ri_mk2 (ri_oqp ri_o65 ri_oq5) (ri_G5 (i := 53) (by eq_refl) (by eq_refl)) (ri_G1 (i := 8) (by eq_refl) (by eq_refl)) (by eq_refl) (by eq_refl) (ri_G5 (i := 52) (by eq_refl) (by eq_refl)) (ri_G0 (by eq_refl)) (q := (RX5, TX5, 4)) (by eq_refl) (by eq_refl)
theorem ri_o66 : ri_on 5 = (ri_y 66).cls := by eq_refl
theorem ri_d66_3 : ri_nd (ri_y 66) 3 = true := ri_nd_of ri_o66 ri_oq5 (by eq_refl)
set_option maxRecDepth 100000 in
theorem ri_k66 : ri_mk 66 = true := ri_mk2 (ri_oqp ri_o66 ri_oq5) (ri_G5 (i := 6) (by eq_refl) (by eq_refl)) (ri_G1 (i := 8) (by eq_refl) (by eq_refl)) (by eq_refl) (by eq_refl) (ri_G5 (i := 5) (by eq_refl) (by eq_refl)) (ri_G0 (by eq_refl)) (q := (RX5, TX5, 4)) (by eq_refl) (by eq_refl)
theorem ri_o67 : ri_on 5 = (ri_y 67).cls := by eq_refl
theorem ri_d67_4 : ri_nd (ri_y 67) 4 = true := ri_nd_of ri_o67 ri_oq5 (by eq_refl)
set_option maxRecDepth 100000 in
theorem ri_k67 : ri_mk 67 = true := ri_mk2 (ri_oqp ri_o67 ri_oq5) (ri_G5 (i := 17) (by eq_refl) (by eq_refl)) (ri_G1 (i := 8) (by eq_refl) (by eq_refl)) (by eq_refl) (by eq_refl) (ri_G5 (i := 16) (by eq_refl) (by eq_refl)) (ri_G0 (by eq_refl)) (q := (RX5, TX5, 4)) (by eq_refl) (by eq_refl)
theorem ri_o68 : ri_on 6 = (ri_y 68).cls := by eq_refl
theorem ri_d68_0 : ri_nd (ri_y 68) 0 = true := ri_nd_of ri_o68 ri_oq6 (by eq_refl)
set_option maxRecDepth 100000 in
theorem ri_k68 : ri_mk 68 = true := ri_mk1 (ri_oqp ri_o68 ri_oq6) (ri_G1 (i := 207) (by eq_refl) (by eq_refl)) (ri_G1 (i := 10) (by eq_refl) (by eq_refl)) (by eq_refl) (by eq_refl) (ri_G1 (i := 206) (by eq_refl) (by eq_refl)) (by eq_refl) (by eq_refl)
theorem ri_o69 : ri_on 6 = (ri_y 69).cls := by eq_refl
theorem ri_d69_1 : ri_nd (ri_y 69) 1 = true := ri_nd_of ri_o69 ri_oq6 (by eq_refl)
set_option maxRecDepth 100000 in
theorem ri_k69 : ri_mk 69 = true := ri_mk2 (ri_oqp ri_o69 ri_oq6) (ri_G5 (i := 25) (by eq_refl) (by eq_refl)) (ri_G1 (i := 10) (by eq_refl) (by eq_refl)) (by eq_refl) (by eq_refl) (ri_G5 (i := 24) (by eq_refl) (by eq_refl)) (ri_G0 (by eq_refl)) (q := (RX6, TX6, 5)) (by eq_refl) (by eq_refl)
theorem ri_o70 : ri_on 6 = (ri_y 70).cls := by eq_refl
theorem ri_d70_4 : ri_nd (ri_y 70) 4 = true := ri_nd_of ri_o70 ri_oq6 (by eq_refl)
set_option maxRecDepth 100000 in
theorem ri_k70 : ri_mk 70 = true := ri_mk2 (ri_oqp ri_o70 ri_oq6) (ri_G5 (i := 31) (by eq_refl) (by eq_refl)) (ri_G1 (i := 10) (by eq_refl) (by eq_refl)) (by eq_refl) (by eq_refl) (ri_G5 (i := 30) (by eq_refl) (by eq_refl)) (ri_G0 (by eq_refl)) (q := (RX6, TX6, 5)) (by eq_refl) (by eq_refl)
theorem ri_o71 : ri_on 6 = (ri_y 71).cls := by eq_refl
theorem ri_d71_0 : ri_nd (ri_y 71) 0 = true := ri_nd_of ri_o71 ri_oq6 (by eq_refl)
set_option maxRecDepth 100000 in
theorem ri_k71 : ri_mk 71 = true := ri_mk2 (ri_oqp ri_o71 ri_oq6) (ri_G5 (i := 39) (by eq_refl) (by eq_refl)) (ri_G1 (i := 10) (by eq_refl) (by eq_refl)) (by eq_refl) (by eq_refl) (ri_G5 (i := 38) (by eq_refl) (by eq_refl)) (ri_G0 (by eq_refl)) (q := (RX6, TX6, 5)) (by eq_refl) (by eq_refl)
theorem ri_o72 : ri_on 6 = (ri_y 72).cls := by eq_refl
theorem ri_d72_1 : ri_nd (ri_y 72) 1 = true := ri_nd_of ri_o72 ri_oq6 (by eq_refl)
set_option maxRecDepth 100000 in
theorem ri_k72 : ri_mk 72 = true := ri_mk2 (ri_oqp ri_o72 ri_oq6) (ri_G5 (i := 43) (by eq_refl) (by eq_refl)) (ri_G1 (i := 10) (by eq_refl) (by eq_refl)) (by eq_refl) (by eq_refl) (ri_G5 (i := 42) (by eq_refl) (by eq_refl)) (ri_G0 (by eq_refl)) (q := (RX6, TX6, 5)) (by eq_refl) (by eq_refl)
theorem ri_o73 : ri_on 7 = (ri_y 73).cls := by eq_refl
theorem ri_d73_0 : ri_nd (ri_y 73) 0 = true := ri_nd_of ri_o73 ri_oq7 (by eq_refl)
set_option maxRecDepth 100000 in
theorem ri_k73 : ri_mk 73 = true := ri_mk1 (ri_oqp ri_o73 ri_oq7) (ri_G1 (i := 193) (by eq_refl) (by eq_refl)) (ri_G1 (i := 9) (by eq_refl) (by eq_refl)) (by eq_refl) (by eq_refl) (ri_G1 (i := 192) (by eq_refl) (by eq_refl)) (by eq_refl) (by eq_refl)
theorem ri_o74 : ri_on 7 = (ri_y 74).cls := by eq_refl
theorem ri_d74_0 : ri_nd (ri_y 74) 0 = true := ri_nd_of ri_o74 ri_oq7 (by eq_refl)
set_option maxRecDepth 100000 in
theorem ri_k74 : ri_mk 74 = true := ri_mk2 (ri_oqp ri_o74 ri_oq7) (ri_G4 (i := 73) (by eq_refl) (by eq_refl)) (ri_G1 (i := 9) (by eq_refl) (by eq_refl)) (by eq_refl) (by eq_refl) (ri_G4 (i := 72) (by eq_refl) (by eq_refl)) (ri_G0 (by eq_refl)) (q := (RX7, TX7, 2)) (by eq_refl) (by eq_refl)
theorem ri_o75 : ri_on 7 = (ri_y 75).cls := by eq_refl
theorem ri_d75_3 : ri_nd (ri_y 75) 3 = true := ri_nd_of ri_o75 ri_oq7 (by eq_refl)
set_option maxRecDepth 100000 in
theorem ri_k75 : ri_mk 75 = true := ri_mk2 (ri_oqp ri_o75 ri_oq7) (ri_G4 (i := 78) (by eq_refl) (by eq_refl)) (ri_G1 (i := 9) (by eq_refl) (by eq_refl)) (by eq_refl) (by eq_refl) (ri_G4 (i := 77) (by eq_refl) (by eq_refl)) (ri_G0 (by eq_refl)) (q := (RX7, TX7, 2)) (by eq_refl) (by eq_refl)
theorem ri_o76 : ri_on 7 = (ri_y 76).cls := by eq_refl
theorem ri_d76_1 : ri_nd (ri_y 76) 1 = true := ri_nd_of ri_o76 ri_oq7 (by eq_refl)
set_option maxRecDepth 100000 in
theorem ri_k76 : ri_mk 76 = true := ri_mk2 (ri_oqp ri_o76 ri_oq7) (ri_G4 (i := 83) (by eq_refl) (by eq_refl)) (ri_G1 (i := 9) (by eq_refl) (by eq_refl)) (by eq_refl) (by eq_refl) (ri_G4 (i := 82) (by eq_refl) (by eq_refl)) (ri_G0 (by eq_refl)) (q := (RX7, TX7, 2)) (by eq_refl) (by eq_refl)
theorem ri_o77 : ri_on 7 = (ri_y 77).cls := by eq_refl
theorem ri_d77_2 : ri_nd (ri_y 77) 2 = true := ri_nd_of ri_o77 ri_oq7 (by eq_refl)
set_option maxRecDepth 100000 in
theorem ri_k77 : ri_mk 77 = true := ri_mk2 (ri_oqp ri_o77 ri_oq7) (ri_G4 (i := 97) (by eq_refl) (by eq_refl)) (ri_G1 (i := 9) (by eq_refl) (by eq_refl)) (by eq_refl) (by eq_refl) (ri_G4 (i := 96) (by eq_refl) (by eq_refl)) (ri_G0 (by eq_refl)) (q := (RX7, TX7, 2)) (by eq_refl) (by eq_refl)
theorem ri_o78 : ri_on 7 = (ri_y 78).cls := by eq_refl
theorem ri_d78_2 : ri_nd (ri_y 78) 2 = true := ri_nd_of ri_o78 ri_oq7 (by eq_refl)
set_option maxRecDepth 100000 in
theorem ri_k78 : ri_mk 78 = true := ri_mk2 (ri_oqp ri_o78 ri_oq7) (ri_G4 (i := 188) (by eq_refl) (by eq_refl)) (ri_G1 (i := 9) (by eq_refl) (by eq_refl)) (by eq_refl) (by eq_refl) (ri_G4 (i := 187) (by eq_refl) (by eq_refl)) (ri_G0 (by eq_refl)) (q := (RX7, TX7, 2)) (by eq_refl) (by eq_refl)
theorem ri_o79 : ri_on 7 = (ri_y 79).cls := by eq_refl
theorem ri_d79_1 : ri_nd (ri_y 79) 1 = true := ri_nd_of ri_o79 ri_oq7 (by eq_refl)
set_option maxRecDepth 100000 in
theorem ri_k79 : ri_mk 79 = true := ri_mk2 (ri_oqp ri_o79 ri_oq7) (ri_G4 (i := 109) (by eq_refl) (by eq_refl)) (ri_G1 (i := 9) (by eq_refl) (by eq_refl)) (by eq_refl) (by eq_refl) (ri_G4 (i := 108) (by eq_refl) (by eq_refl)) (ri_G0 (by eq_refl)) (q := (RX7, TX7, 2)) (by eq_refl) (by eq_refl)
theorem ri_o80 : ri_on 7 = (ri_y 80).cls := by eq_refl
theorem ri_d80_1 : ri_nd (ri_y 80) 1 = true := ri_nd_of ri_o80 ri_oq7 (by eq_refl)
set_option maxRecDepth 100000 in
theorem ri_k80 : ri_mk 80 = true := ri_mk2 (ri_oqp ri_o80 ri_oq7) (ri_G5 (i := 81) (by eq_refl) (by eq_refl)) (ri_G1 (i := 9) (by eq_refl) (by eq_refl)) (by eq_refl) (by eq_refl) (ri_G5 (i := 80) (by eq_refl) (by eq_refl)) (ri_G0 (by eq_refl)) (q := (RX7, TX7, 2)) (by eq_refl) (by eq_refl)
theorem ri_o81 : ri_on 7 = (ri_y 81).cls := by eq_refl
theorem ri_d81_2 : ri_nd (ri_y 81) 2 = true := ri_nd_of ri_o81 ri_oq7 (by eq_refl)
set_option maxRecDepth 100000 in
theorem ri_k81 : ri_mk 81 = true := ri_mk2 (ri_oqp ri_o81 ri_oq7) (ri_G5 (i := 91) (by eq_refl) (by eq_refl)) (ri_G1 (i := 9) (by eq_refl) (by eq_refl)) (by eq_refl) (by eq_refl) (ri_G5 (i := 90) (by eq_refl) (by eq_refl)) (ri_G0 (by eq_refl)) (q := (RX7, TX7, 2)) (by eq_refl) (by eq_refl)
theorem ri_o82 : ri_on 8 = (ri_y 82).cls := by eq_refl
theorem ri_d82_0 : ri_nd (ri_y 82) 0 = true := ri_nd_of ri_o82 ri_oq8 (by eq_refl)
set_option maxRecDepth 100000 in
theorem ri_k82 : ri_mk 82 = true := ri_mk1 (ri_oqp ri_o82 ri_oq8) (ri_G1 (i := 32) (by eq_refl) (by eq_refl)) (ri_G1 (i := 2) (by eq_refl) (by eq_refl)) (by eq_refl) (by eq_refl) (ri_G1 (i := 31) (by eq_refl) (by eq_refl)) (by eq_refl) (by eq_refl)
theorem ri_o83 : ri_on 8 = (ri_y 83).cls := by eq_refl
theorem ri_d83_1 : ri_nd (ri_y 83) 1 = true := ri_nd_of ri_o83 ri_oq8 (by eq_refl)
set_option maxRecDepth 100000 in
theorem ri_k83 : ri_mk 83 = true := ri_mk2 (ri_oqp ri_o83 ri_oq8) (ri_G2 (i := 96) (by eq_refl) (by eq_refl)) (ri_G1 (i := 2) (by eq_refl) (by eq_refl)) (by eq_refl) (by eq_refl) (ri_G2 (i := 95) (by eq_refl) (by eq_refl)) (ri_G0 (by eq_refl)) (q := (RX8, TX8, 2)) (by eq_refl) (by eq_refl)
theorem ri_o84 : ri_on 8 = (ri_y 84).cls := by eq_refl
theorem ri_d84_1 : ri_nd (ri_y 84) 1 = true := ri_nd_of ri_o84 ri_oq8 (by eq_refl)
set_option maxRecDepth 100000 in
theorem ri_k84 : ri_mk 84 = true := ri_mk2 (ri_oqp ri_o84 ri_oq8) (ri_G2 (i := 119) (by eq_refl) (by eq_refl)) (ri_G1 (i := 2) (by eq_refl) (by eq_refl)) (by eq_refl) (by eq_refl) (ri_G2 (i := 118) (by eq_refl) (by eq_refl)) (ri_G0 (by eq_refl)) (q := (RX8, TX8, 2)) (by eq_refl) (by eq_refl)
theorem ri_o85 : ri_on 8 = (ri_y 85).cls := by eq_refl
theorem ri_d85_3 : ri_nd (ri_y 85) 3 = true := ri_nd_of ri_o85 ri_oq8 (by eq_refl)
set_option maxRecDepth 100000 in
theorem ri_k85 : ri_mk 85 = true := ri_mk2 (ri_oqp ri_o85 ri_oq8) (ri_G2 (i := 123) (by eq_refl) (by eq_refl)) (ri_G1 (i := 2) (by eq_refl) (by eq_refl)) (by eq_refl) (by eq_refl) (ri_G2 (i := 122) (by eq_refl) (by eq_refl)) (ri_G0 (by eq_refl)) (q := (RX8, TX8, 2)) (by eq_refl) (by eq_refl)
theorem ri_o86 : ri_on 8 = (ri_y 86).cls := by eq_refl
theorem ri_d86_3 : ri_nd (ri_y 86) 3 = true := ri_nd_of ri_o86 ri_oq8 (by eq_refl)
set_option maxRecDepth 100000 in
theorem ri_k86 : ri_mk 86 = true := ri_mk2 (ri_oqp ri_o86 ri_oq8) (ri_G2 (i := 135) (by eq_refl) (by eq_refl)) (ri_G1 (i := 2) (by eq_refl) (by eq_refl)) (by eq_refl) (by eq_refl) (ri_G2 (i := 134) (by eq_refl) (by eq_refl)) (ri_G0 (by eq_refl)) (q := (RX8, TX8, 2)) (by eq_refl) (by eq_refl)
theorem ri_o87 : ri_on 9 = (ri_y 87).cls := by eq_refl
theorem ri_d87_0 : ri_nd (ri_y 87) 0 = true := ri_nd_of ri_o87 ri_oq9 (by eq_refl)
set_option maxRecDepth 100000 in
theorem ri_k87 : ri_mk 87 = true := ri_mk1 (ri_oqp ri_o87 ri_oq9) (ri_G1 (i := 48) (by eq_refl) (by eq_refl)) (ri_G1 (i := 3) (by eq_refl) (by eq_refl)) (by eq_refl) (by eq_refl) (ri_G1 (i := 47) (by eq_refl) (by eq_refl)) (by eq_refl) (by eq_refl)
theorem ri_o88 : ri_on 9 = (ri_y 88).cls := by eq_refl
theorem ri_d88_1 : ri_nd (ri_y 88) 1 = true := ri_nd_of ri_o88 ri_oq9 (by eq_refl)
set_option maxRecDepth 100000 in
theorem ri_k88 : ri_mk 88 = true := ri_mk2 (ri_oqp ri_o88 ri_oq9) (ri_G2 (i := 111) (by eq_refl) (by eq_refl)) (ri_G1 (i := 3) (by eq_refl) (by eq_refl)) (by eq_refl) (by eq_refl) (ri_G2 (i := 110) (by eq_refl) (by eq_refl)) (ri_G0 (by eq_refl)) (q := (RX9, TX9, 6)) (by eq_refl) (by eq_refl)
theorem ri_o89 : ri_on 9 = (ri_y 89).cls := by eq_refl
theorem ri_d89_3 : ri_nd (ri_y 89) 3 = true := ri_nd_of ri_o89 ri_oq9 (by eq_refl)
set_option maxRecDepth 100000 in
theorem ri_k89 : ri_mk 89 = true := ri_mk2 (ri_oqp ri_o89 ri_oq9) (ri_G2 (i := 205) (by eq_refl) (by eq_refl)) (ri_G1 (i := 3) (by eq_refl) (by eq_refl)) (by eq_refl) (by eq_refl) (ri_G2 (i := 204) (by eq_refl) (by eq_refl)) (ri_G0 (by eq_refl)) (q := (RX9, TX9, 6)) (by eq_refl) (by eq_refl)
theorem ri_o90 : ri_on 9 = (ri_y 90).cls := by eq_refl
theorem ri_d90_2 : ri_nd (ri_y 90) 2 = true := ri_nd_of ri_o90 ri_oq9 (by eq_refl)
set_option maxRecDepth 100000 in
theorem ri_k90 : ri_mk 90 = true := ri_mk2 (ri_oqp ri_o90 ri_oq9) (ri_G2 (i := 115) (by eq_refl) (by eq_refl)) (ri_G1 (i := 3) (by eq_refl) (by eq_refl)) (by eq_refl) (by eq_refl) (ri_G2 (i := 114) (by eq_refl) (by eq_refl)) (ri_G0 (by eq_refl)) (q := (RX9, TX9, 6)) (by eq_refl) (by eq_refl)
theorem ri_o91 : ri_on 9 = (ri_y 91).cls := by eq_refl
theorem ri_d91_4 : ri_nd (ri_y 91) 4 = true := ri_nd_of ri_o91 ri_oq9 (by eq_refl)
set_option maxRecDepth 100000 in
theorem ri_k91 : ri_mk 91 = true := ri_mk0 (ri_oqp ri_o91 ri_oq9) (ri_G2 (i := 127) (by eq_refl) (by eq_refl)) (ri_G1 (i := 3) (by eq_refl) (by eq_refl)) (by eq_refl) (by eq_refl) (ri_G2 (i := 126) (by eq_refl) (by eq_refl))
theorem ri_o92 : ri_on 9 = (ri_y 92).cls := by eq_refl
theorem ri_d92_3 : ri_nd (ri_y 92) 3 = true := ri_nd_of ri_o92 ri_oq9 (by eq_refl)
set_option maxRecDepth 100000 in
theorem ri_k92 : ri_mk 92 = true := ri_mk0 (ri_oqp ri_o92 ri_oq9) (ri_G2 (i := 209) (by eq_refl) (by eq_refl)) (ri_G1 (i := 3) (by eq_refl) (by eq_refl)) (by eq_refl) (by eq_refl) (ri_G2 (i := 208) (by eq_refl) (by eq_refl))
theorem ri_o93 : ri_on 9 = (ri_y 93).cls := by eq_refl
theorem ri_d93_2 : ri_nd (ri_y 93) 2 = true := ri_nd_of ri_o93 ri_oq9 (by eq_refl)
set_option maxRecDepth 100000 in
theorem ri_k93 : ri_mk 93 = true := ri_mk0 (ri_oqp ri_o93 ri_oq9) (ri_G2 (i := 212) (by eq_refl) (by eq_refl)) (ri_G1 (i := 3) (by eq_refl) (by eq_refl)) (by eq_refl) (by eq_refl) (ri_G2 (i := 211) (by eq_refl) (by eq_refl))
theorem ri_o94 : ri_on 9 = (ri_y 94).cls := by eq_refl
theorem ri_d94_3 : ri_nd (ri_y 94) 3 = true := ri_nd_of ri_o94 ri_oq9 (by eq_refl)
set_option maxRecDepth 100000 in
theorem ri_k94 : ri_mk 94 = true := ri_mk0 (ri_oqp ri_o94 ri_oq9) (ri_G2 (i := 130) (by eq_refl) (by eq_refl)) (ri_G1 (i := 3) (by eq_refl) (by eq_refl)) (by eq_refl) (by eq_refl) (ri_G2 (i := 129) (by eq_refl) (by eq_refl))
theorem ri_o95 : ri_on 9 = (ri_y 95).cls := by eq_refl
theorem ri_d95_3 : ri_nd (ri_y 95) 3 = true := ri_nd_of ri_o95 ri_oq9 (by eq_refl)
set_option maxRecDepth 100000 in
theorem ri_k95 : ri_mk 95 = true := ri_mk0 (ri_oqp ri_o95 ri_oq9) (ri_G2 (i := 193) (by eq_refl) (by eq_refl)) (ri_G1 (i := 3) (by eq_refl) (by eq_refl)) (by eq_refl) (by eq_refl) (ri_G2 (i := 192) (by eq_refl) (by eq_refl))
theorem ri_o96 : ri_on 9 = (ri_y 96).cls := by eq_refl
theorem ri_d96_0 : ri_nd (ri_y 96) 0 = true := ri_nd_of ri_o96 ri_oq9 (by eq_refl)
set_option maxRecDepth 100000 in
theorem ri_k96 : ri_mk 96 = true := ri_mk2 (ri_oqp ri_o96 ri_oq9) (ri_G2 (i := 228) (by eq_refl) (by eq_refl)) (ri_G1 (i := 3) (by eq_refl) (by eq_refl)) (by eq_refl) (by eq_refl) (ri_G2 (i := 227) (by eq_refl) (by eq_refl)) (ri_G0 (by eq_refl)) (q := (RX9, TX9, 6)) (by eq_refl) (by eq_refl)
theorem ri_o97 : ri_on 9 = (ri_y 97).cls := by eq_refl
theorem ri_d97_0 : ri_nd (ri_y 97) 0 = true := ri_nd_of ri_o97 ri_oq9 (by eq_refl)
set_option maxRecDepth 100000 in
theorem ri_k97 : ri_mk 97 = true := ri_mk2 (ri_oqp ri_o97 ri_oq9) (ri_G3 (i := 96) (by eq_refl) (by eq_refl)) (ri_G1 (i := 3) (by eq_refl) (by eq_refl)) (by eq_refl) (by eq_refl) (ri_G3 (i := 95) (by eq_refl) (by eq_refl)) (ri_G0 (by eq_refl)) (q := (RX9, TX9, 6)) (by eq_refl) (by eq_refl)
theorem ri_o98 : ri_on 9 = (ri_y 98).cls := by eq_refl
theorem ri_d98_0 : ri_nd (ri_y 98) 0 = true := ri_nd_of ri_o98 ri_oq9 (by eq_refl)
set_option maxRecDepth 100000 in
theorem ri_k98 : ri_mk 98 = true := ri_mk2 (ri_oqp ri_o98 ri_oq9) (ri_G3 (i := 7) (by eq_refl) (by eq_refl)) (ri_G1 (i := 3) (by eq_refl) (by eq_refl)) (by eq_refl) (by eq_refl) (ri_G3 (i := 6) (by eq_refl) (by eq_refl)) (ri_G0 (by eq_refl)) (q := (RX9, TX9, 6)) (by eq_refl) (by eq_refl)
theorem ri_o99 : ri_on 9 = (ri_y 99).cls := by eq_refl
theorem ri_d99_1 : ri_nd (ri_y 99) 1 = true := ri_nd_of ri_o99 ri_oq9 (by eq_refl)
set_option maxRecDepth 100000 in
theorem ri_k99 : ri_mk 99 = true := ri_mk2 (ri_oqp ri_o99 ri_oq9) (ri_G3 (i := 33) (by eq_refl) (by eq_refl)) (ri_G1 (i := 3) (by eq_refl) (by eq_refl)) (by eq_refl) (by eq_refl) (ri_G3 (i := 32) (by eq_refl) (by eq_refl)) (ri_G0 (by eq_refl)) (q := (RX9, TX9, 6)) (by eq_refl) (by eq_refl)
theorem ri_o100 : ri_on 9 = (ri_y 100).cls := by eq_refl
theorem ri_d100_1 : ri_nd (ri_y 100) 1 = true := ri_nd_of ri_o100 ri_oq9 (by eq_refl)
set_option maxRecDepth 100000 in
theorem ri_k100 : ri_mk 100 = true := ri_mk2 (ri_oqp ri_o100 ri_oq9) (ri_G2 (i := 238) (by eq_refl) (by eq_refl)) (ri_G1 (i := 3) (by eq_refl) (by eq_refl)) (by eq_refl) (by eq_refl) (ri_G2 (i := 237) (by eq_refl) (by eq_refl)) (ri_G0 (by eq_refl)) (q := (RX9, TX9, 6)) (by eq_refl) (by eq_refl)
theorem ri_o101 : ri_on 9 = (ri_y 101).cls := by eq_refl
theorem ri_d101_2 : ri_nd (ri_y 101) 2 = true := ri_nd_of ri_o101 ri_oq9 (by eq_refl)
set_option maxRecDepth 100000 in
theorem ri_k101 : ri_mk 101 = true := ri_mk2 (ri_oqp ri_o101 ri_oq9) (ri_G3 (i := 11) (by eq_refl) (by eq_refl)) (ri_G1 (i := 3) (by eq_refl) (by eq_refl)) (by eq_refl) (by eq_refl) (ri_G3 (i := 10) (by eq_refl) (by eq_refl)) (ri_G0 (by eq_refl)) (q := (RX9, TX9, 6)) (by eq_refl) (by eq_refl)
theorem ri_o102 : ri_on 10 = (ri_y 102).cls := by eq_refl
theorem ri_d102_0 : ri_nd (ri_y 102) 0 = true := ri_nd_of ri_o102 ri_oq10 (by eq_refl)
set_option maxRecDepth 100000 in
theorem ri_k102 : ri_mk 102 = true := ri_mk1 (ri_oqp ri_o102 ri_oq10) (ri_G1 (i := 24) (by eq_refl) (by eq_refl)) (ri_G1 (i := 1) (by eq_refl) (by eq_refl)) (by eq_refl) (by eq_refl) (ri_G1 (i := 23) (by eq_refl) (by eq_refl)) (by eq_refl) (by eq_refl)
theorem ri_o103 : ri_on 10 = (ri_y 103).cls := by eq_refl
theorem ri_d103_5 : ri_nd (ri_y 103) 5 = true := ri_nd_of ri_o103 ri_oq10 (by eq_refl)
set_option maxRecDepth 100000 in
theorem ri_k103 : ri_mk 103 = true := ri_mk2 (ri_oqp ri_o103 ri_oq10) (ri_G2 (i := 92) (by eq_refl) (by eq_refl)) (ri_G1 (i := 1) (by eq_refl) (by eq_refl)) (by eq_refl) (by eq_refl) (ri_G2 (i := 90) (by eq_refl) (by eq_refl)) (ri_G2 (i := 91) (by eq_refl) (by eq_refl)) (q := (RX10, TX10, 18)) (by eq_refl) (by eq_refl)
theorem ri_o104 : ri_on 10 = (ri_y 104).cls := by eq_refl
theorem ri_d104_1 : ri_nd (ri_y 104) 1 = true := ri_nd_of ri_o104 ri_oq10 (by eq_refl)
set_option maxRecDepth 100000 in
theorem ri_k104 : ri_mk 104 = true := ri_mk2 (ri_oqp ri_o104 ri_oq10) (ri_G2 (i := 103) (by eq_refl) (by eq_refl)) (ri_G1 (i := 1) (by eq_refl) (by eq_refl)) (by eq_refl) (by eq_refl) (ri_G2 (i := 101) (by eq_refl) (by eq_refl)) (ri_G2 (i := 102) (by eq_refl) (by eq_refl)) (q := (RX10, TX10, 18)) (by eq_refl) (by eq_refl)
theorem ri_o105 : ri_on 10 = (ri_y 105).cls := by eq_refl
theorem ri_d105_0 : ri_nd (ri_y 105) 0 = true := ri_nd_of ri_o105 ri_oq10 (by eq_refl)
set_option maxRecDepth 100000 in
theorem ri_k105 : ri_mk 105 = true := ri_mk2 (ri_oqp ri_o105 ri_oq10) (ri_G2 (i := 107) (by eq_refl) (by eq_refl)) (ri_G1 (i := 1) (by eq_refl) (by eq_refl)) (by eq_refl) (by eq_refl) (ri_G2 (i := 105) (by eq_refl) (by eq_refl)) (ri_G2 (i := 106) (by eq_refl) (by eq_refl)) (q := (RX10, TX10, 18)) (by eq_refl) (by eq_refl)
theorem ri_o106 : ri_on 10 = (ri_y 106).cls := by eq_refl
theorem ri_d106_0 : ri_nd (ri_y 106) 0 = true := ri_nd_of ri_o106 ri_oq10 (by eq_refl)
set_option maxRecDepth 100000 in
theorem ri_k106 : ri_mk 106 = true := ri_mk2 (ri_oqp ri_o106 ri_oq10) (ri_G3 (i := 70) (by eq_refl) (by eq_refl)) (ri_G1 (i := 1) (by eq_refl) (by eq_refl)) (by eq_refl) (by eq_refl) (ri_G3 (i := 68) (by eq_refl) (by eq_refl)) (ri_G3 (i := 69) (by eq_refl) (by eq_refl)) (q := (RX10, TX10, 18)) (by eq_refl) (by eq_refl)
theorem ri_o107 : ri_on 10 = (ri_y 107).cls := by eq_refl
theorem ri_d107_3 : ri_nd (ri_y 107) 3 = true := ri_nd_of ri_o107 ri_oq10 (by eq_refl)
set_option maxRecDepth 100000 in
theorem ri_k107 : ri_mk 107 = true := ri_mk2 (ri_oqp ri_o107 ri_oq10) (ri_G3 (i := 120) (by eq_refl) (by eq_refl)) (ri_G1 (i := 1) (by eq_refl) (by eq_refl)) (by eq_refl) (by eq_refl) (ri_G3 (i := 118) (by eq_refl) (by eq_refl)) (ri_G3 (i := 119) (by eq_refl) (by eq_refl)) (q := (RX10, TX10, 18)) (by eq_refl) (by eq_refl)
theorem ri_o108 : ri_on 10 = (ri_y 108).cls := by eq_refl
theorem ri_d108_4 : ri_nd (ri_y 108) 4 = true := ri_nd_of ri_o108 ri_oq10 (by eq_refl)
set_option maxRecDepth 100000 in
theorem ri_k108 : ri_mk 108 = true := ri_mk2 (ri_oqp ri_o108 ri_oq10) (ri_G3 (i := 139) (by eq_refl) (by eq_refl)) (ri_G1 (i := 1) (by eq_refl) (by eq_refl)) (by eq_refl) (by eq_refl) (ri_G3 (i := 137) (by eq_refl) (by eq_refl)) (ri_G3 (i := 138) (by eq_refl) (by eq_refl)) (q := (RX10, TX10, 18)) (by eq_refl) (by eq_refl)
theorem ri_o109 : ri_on 10 = (ri_y 109).cls := by eq_refl
theorem ri_d109_4 : ri_nd (ri_y 109) 4 = true := ri_nd_of ri_o109 ri_oq10 (by eq_refl)
set_option maxRecDepth 100000 in
theorem ri_k109 : ri_mk 109 = true := ri_mk2 (ri_oqp ri_o109 ri_oq10) (ri_G3 (i := 208) (by eq_refl) (by eq_refl)) (ri_G1 (i := 1) (by eq_refl) (by eq_refl)) (by eq_refl) (by eq_refl) (ri_G3 (i := 206) (by eq_refl) (by eq_refl)) (ri_G3 (i := 207) (by eq_refl) (by eq_refl)) (q := (RX10, TX10, 18)) (by eq_refl) (by eq_refl)
theorem ri_o110 : ri_on 10 = (ri_y 110).cls := by eq_refl
theorem ri_d110_2 : ri_nd (ri_y 110) 2 = true := ri_nd_of ri_o110 ri_oq10 (by eq_refl)
set_option maxRecDepth 100000 in
theorem ri_k110 : ri_mk 110 = true := ri_mk2 (ri_oqp ri_o110 ri_oq10) (ri_G3 (i := 225) (by eq_refl) (by eq_refl)) (ri_G1 (i := 1) (by eq_refl) (by eq_refl)) (by eq_refl) (by eq_refl) (ri_G3 (i := 223) (by eq_refl) (by eq_refl)) (ri_G3 (i := 224) (by eq_refl) (by eq_refl)) (q := (RX10, TX10, 18)) (by eq_refl) (by eq_refl)
theorem ri_o111 : ri_on 10 = (ri_y 111).cls := by eq_refl
theorem ri_d111_2 : ri_nd (ri_y 111) 2 = true := ri_nd_of ri_o111 ri_oq10 (by eq_refl)
set_option maxRecDepth 100000 in
theorem ri_k111 : ri_mk 111 = true := ri_mk2 (ri_oqp ri_o111 ri_oq10) (ri_G3 (i := 238) (by eq_refl) (by eq_refl)) (ri_G1 (i := 1) (by eq_refl) (by eq_refl)) (by eq_refl) (by eq_refl) (ri_G3 (i := 236) (by eq_refl) (by eq_refl)) (ri_G3 (i := 237) (by eq_refl) (by eq_refl)) (q := (RX10, TX10, 18)) (by eq_refl) (by eq_refl)
theorem ri_o112 : ri_on 10 = (ri_y 112).cls := by eq_refl
theorem ri_d112_1 : ri_nd (ri_y 112) 1 = true := ri_nd_of ri_o112 ri_oq10 (by eq_refl)
set_option maxRecDepth 100000 in
theorem ri_k112 : ri_mk 112 = true := ri_mk2 (ri_oqp ri_o112 ri_oq10) (ri_G4 (i := 6) (by eq_refl) (by eq_refl)) (ri_G1 (i := 1) (by eq_refl) (by eq_refl)) (by eq_refl) (by eq_refl) (ri_G4 (i := 4) (by eq_refl) (by eq_refl)) (ri_G4 (i := 5) (by eq_refl) (by eq_refl)) (q := (RX10, TX10, 18)) (by eq_refl) (by eq_refl)
theorem ri_o113 : ri_on 10 = (ri_y 113).cls := by eq_refl
theorem ri_d113_1 : ri_nd (ri_y 113) 1 = true := ri_nd_of ri_o113 ri_oq10 (by eq_refl)
set_option maxRecDepth 100000 in
theorem ri_k113 : ri_mk 113 = true := ri_mk2 (ri_oqp ri_o113 ri_oq10) (ri_G4 (i := 10) (by eq_refl) (by eq_refl)) (ri_G1 (i := 1) (by eq_refl) (by eq_refl)) (by eq_refl) (by eq_refl) (ri_G4 (i := 8) (by eq_refl) (by eq_refl)) (ri_G4 (i := 9) (by eq_refl) (by eq_refl)) (q := (RX10, TX10, 18)) (by eq_refl) (by eq_refl)
theorem ri_o114 : ri_on 10 = (ri_y 114).cls := by eq_refl
theorem ri_d114_3 : ri_nd (ri_y 114) 3 = true := ri_nd_of ri_o114 ri_oq10 (by eq_refl)
set_option maxRecDepth 100000 in
theorem ri_k114 : ri_mk 114 = true := ri_mk2 (ri_oqp ri_o114 ri_oq10) (ri_G4 (i := 14) (by eq_refl) (by eq_refl)) (ri_G1 (i := 1) (by eq_refl) (by eq_refl)) (by eq_refl) (by eq_refl) (ri_G4 (i := 12) (by eq_refl) (by eq_refl)) (ri_G4 (i := 13) (by eq_refl) (by eq_refl)) (q := (RX10, TX10, 18)) (by eq_refl) (by eq_refl)
theorem ri_o115 : ri_on 10 = (ri_y 115).cls := by eq_refl
theorem ri_d115_2 : ri_nd (ri_y 115) 2 = true := ri_nd_of ri_o115 ri_oq10 (by eq_refl)
set_option maxRecDepth 100000 in
theorem ri_k115 : ri_mk 115 = true := ri_mk2 (ri_oqp ri_o115 ri_oq10) (ri_G4 (i := 34) (by eq_refl) (by eq_refl)) (ri_G1 (i := 1) (by eq_refl) (by eq_refl)) (by eq_refl) (by eq_refl) (ri_G4 (i := 32) (by eq_refl) (by eq_refl)) (ri_G4 (i := 33) (by eq_refl) (by eq_refl)) (q := (RX10, TX10, 18)) (by eq_refl) (by eq_refl)
theorem ri_o116 : ri_on 10 = (ri_y 116).cls := by eq_refl
theorem ri_d116_2 : ri_nd (ri_y 116) 2 = true := ri_nd_of ri_o116 ri_oq10 (by eq_refl)
set_option maxRecDepth 100000 in
theorem ri_k116 : ri_mk 116 = true := ri_mk2 (ri_oqp ri_o116 ri_oq10) (ri_G4 (i := 61) (by eq_refl) (by eq_refl)) (ri_G1 (i := 1) (by eq_refl) (by eq_refl)) (by eq_refl) (by eq_refl) (ri_G4 (i := 59) (by eq_refl) (by eq_refl)) (ri_G4 (i := 60) (by eq_refl) (by eq_refl)) (q := (RX10, TX10, 18)) (by eq_refl) (by eq_refl)
theorem ri_o117 : ri_on 10 = (ri_y 117).cls := by eq_refl
theorem ri_d117_3 : ri_nd (ri_y 117) 3 = true := ri_nd_of ri_o117 ri_oq10 (by eq_refl)
set_option maxRecDepth 100000 in
theorem ri_k117 : ri_mk 117 = true := ri_mk2 (ri_oqp ri_o117 ri_oq10) (ri_G4 (i := 89) (by eq_refl) (by eq_refl)) (ri_G1 (i := 1) (by eq_refl) (by eq_refl)) (by eq_refl) (by eq_refl) (ri_G4 (i := 87) (by eq_refl) (by eq_refl)) (ri_G4 (i := 88) (by eq_refl) (by eq_refl)) (q := (RX10, TX10, 18)) (by eq_refl) (by eq_refl)
theorem ri_o118 : ri_on 10 = (ri_y 118).cls := by eq_refl
theorem ri_d118_4 : ri_nd (ri_y 118) 4 = true := ri_nd_of ri_o118 ri_oq10 (by eq_refl)
set_option maxRecDepth 100000 in
theorem ri_k118 : ri_mk 118 = true := ri_mk2 (ri_oqp ri_o118 ri_oq10) (ri_G4 (i := 93) (by eq_refl) (by eq_refl)) (ri_G1 (i := 1) (by eq_refl) (by eq_refl)) (by eq_refl) (by eq_refl) (ri_G4 (i := 91) (by eq_refl) (by eq_refl)) (ri_G4 (i := 92) (by eq_refl) (by eq_refl)) (q := (RX10, TX10, 18)) (by eq_refl) (by eq_refl)
theorem ri_o119 : ri_on 10 = (ri_y 119).cls := by eq_refl
theorem ri_d119_2 : ri_nd (ri_y 119) 2 = true := ri_nd_of ri_o119 ri_oq10 (by eq_refl)
set_option maxRecDepth 100000 in
theorem ri_k119 : ri_mk 119 = true := ri_mk2 (ri_oqp ri_o119 ri_oq10) (ri_G4 (i := 101) (by eq_refl) (by eq_refl)) (ri_G1 (i := 1) (by eq_refl) (by eq_refl)) (by eq_refl) (by eq_refl) (ri_G4 (i := 99) (by eq_refl) (by eq_refl)) (ri_G4 (i := 100) (by eq_refl) (by eq_refl)) (q := (RX10, TX10, 18)) (by eq_refl) (by eq_refl)
theorem ri_o120 : ri_on 10 = (ri_y 120).cls := by eq_refl
theorem ri_d120_2 : ri_nd (ri_y 120) 2 = true := ri_nd_of ri_o120 ri_oq10 (by eq_refl)
set_option maxRecDepth 100000 in
theorem ri_k120 : ri_mk 120 = true := ri_mk2 (ri_oqp ri_o120 ri_oq10) (ri_G4 (i := 114) (by eq_refl) (by eq_refl)) (ri_G1 (i := 1) (by eq_refl) (by eq_refl)) (by eq_refl) (by eq_refl) (ri_G4 (i := 112) (by eq_refl) (by eq_refl)) (ri_G4 (i := 113) (by eq_refl) (by eq_refl)) (q := (RX10, TX10, 18)) (by eq_refl) (by eq_refl)
theorem ri_o121 : ri_on 10 = (ri_y 121).cls := by eq_refl
theorem ri_d121_1 : ri_nd (ri_y 121) 1 = true := ri_nd_of ri_o121 ri_oq10 (by eq_refl)
set_option maxRecDepth 100000 in
theorem ri_k121 : ri_mk 121 = true := ri_mk2 (ri_oqp ri_o121 ri_oq10) (ri_G4 (i := 126) (by eq_refl) (by eq_refl)) (ri_G1 (i := 1) (by eq_refl) (by eq_refl)) (by eq_refl) (by eq_refl) (ri_G4 (i := 124) (by eq_refl) (by eq_refl)) (ri_G4 (i := 125) (by eq_refl) (by eq_refl)) (q := (RX10, TX10, 18)) (by eq_refl) (by eq_refl)
theorem ri_o122 : ri_on 10 = (ri_y 122).cls := by eq_refl
theorem ri_d122_1 : ri_nd (ri_y 122) 1 = true := ri_nd_of ri_o122 ri_oq10 (by eq_refl)
set_option maxRecDepth 100000 in
theorem ri_k122 : ri_mk 122 = true := ri_mk2 (ri_oqp ri_o122 ri_oq10) (ri_G4 (i := 131) (by eq_refl) (by eq_refl)) (ri_G1 (i := 1) (by eq_refl) (by eq_refl)) (by eq_refl) (by eq_refl) (ri_G4 (i := 129) (by eq_refl) (by eq_refl)) (ri_G4 (i := 130) (by eq_refl) (by eq_refl)) (q := (RX10, TX10, 18)) (by eq_refl) (by eq_refl)
theorem ri_o123 : ri_on 10 = (ri_y 123).cls := by eq_refl
theorem ri_d123_1 : ri_nd (ri_y 123) 1 = true := ri_nd_of ri_o123 ri_oq10 (by eq_refl)
set_option maxRecDepth 100000 in
theorem ri_k123 : ri_mk 123 = true := ri_mk2 (ri_oqp ri_o123 ri_oq10) (ri_G4 (i := 148) (by eq_refl) (by eq_refl)) (ri_G1 (i := 1) (by eq_refl) (by eq_refl)) (by eq_refl) (by eq_refl) (ri_G4 (i := 146) (by eq_refl) (by eq_refl)) (ri_G4 (i := 147) (by eq_refl) (by eq_refl)) (q := (RX10, TX10, 18)) (by eq_refl) (by eq_refl)
theorem ri_o124 : ri_on 10 = (ri_y 124).cls := by eq_refl
theorem ri_d124_2 : ri_nd (ri_y 124) 2 = true := ri_nd_of ri_o124 ri_oq10 (by eq_refl)
set_option maxRecDepth 100000 in
theorem ri_k124 : ri_mk 124 = true := ri_mk2 (ri_oqp ri_o124 ri_oq10) (ri_G4 (i := 164) (by eq_refl) (by eq_refl)) (ri_G1 (i := 1) (by eq_refl) (by eq_refl)) (by eq_refl) (by eq_refl) (ri_G4 (i := 162) (by eq_refl) (by eq_refl)) (ri_G4 (i := 163) (by eq_refl) (by eq_refl)) (q := (RX10, TX10, 18)) (by eq_refl) (by eq_refl)
theorem ri_o125 : ri_on 10 = (ri_y 125).cls := by eq_refl
theorem ri_d125_3 : ri_nd (ri_y 125) 3 = true := ri_nd_of ri_o125 ri_oq10 (by eq_refl)
set_option maxRecDepth 100000 in
theorem ri_k125 : ri_mk 125 = true := ri_mk2 (ri_oqp ri_o125 ri_oq10) (ri_G4 (i := 176) (by eq_refl) (by eq_refl)) (ri_G1 (i := 1) (by eq_refl) (by eq_refl)) (by eq_refl) (by eq_refl) (ri_G4 (i := 174) (by eq_refl) (by eq_refl)) (ri_G4 (i := 175) (by eq_refl) (by eq_refl)) (q := (RX10, TX10, 18)) (by eq_refl) (by eq_refl)
theorem ri_o126 : ri_on 10 = (ri_y 126).cls := by eq_refl
theorem ri_d126_3 : ri_nd (ri_y 126) 3 = true := ri_nd_of ri_o126 ri_oq10 (by eq_refl)
set_option maxRecDepth 100000 in
theorem ri_k126 : ri_mk 126 = true := ri_mk2 (ri_oqp ri_o126 ri_oq10) (ri_G4 (i := 184) (by eq_refl) (by eq_refl)) (ri_G1 (i := 1) (by eq_refl) (by eq_refl)) (by eq_refl) (by eq_refl) (ri_G4 (i := 182) (by eq_refl) (by eq_refl)) (ri_G4 (i := 183) (by eq_refl) (by eq_refl)) (q := (RX10, TX10, 18)) (by eq_refl) (by eq_refl)
theorem ri_o127 : ri_on 10 = (ri_y 127).cls := by eq_refl
theorem ri_d127_3 : ri_nd (ri_y 127) 3 = true := ri_nd_of ri_o127 ri_oq10 (by eq_refl)
set_option maxRecDepth 100000 in
theorem ri_k127 : ri_mk 127 = true := ri_mk2 (ri_oqp ri_o127 ri_oq10) (ri_G4 (i := 192) (by eq_refl) (by eq_refl)) (ri_G1 (i := 1) (by eq_refl) (by eq_refl)) (by eq_refl) (by eq_refl) (ri_G4 (i := 190) (by eq_refl) (by eq_refl)) (ri_G4 (i := 191) (by eq_refl) (by eq_refl)) (q := (RX10, TX10, 18)) (by eq_refl) (by eq_refl)
theorem ri_o128 : ri_on 10 = (ri_y 128).cls := by eq_refl
theorem ri_d128_2 : ri_nd (ri_y 128) 2 = true := ri_nd_of ri_o128 ri_oq10 (by eq_refl)
set_option maxRecDepth 100000 in
theorem ri_k128 : ri_mk 128 = true := ri_mk2 (ri_oqp ri_o128 ri_oq10) (ri_G4 (i := 200) (by eq_refl) (by eq_refl)) (ri_G1 (i := 1) (by eq_refl) (by eq_refl)) (by eq_refl) (by eq_refl) (ri_G4 (i := 198) (by eq_refl) (by eq_refl)) (ri_G4 (i := 199) (by eq_refl) (by eq_refl)) (q := (RX10, TX10, 18)) (by eq_refl) (by eq_refl)
theorem ri_o129 : ri_on 10 = (ri_y 129).cls := by eq_refl
theorem ri_d129_3 : ri_nd (ri_y 129) 3 = true := ri_nd_of ri_o129 ri_oq10 (by eq_refl)
set_option maxRecDepth 100000 in
theorem ri_k129 : ri_mk 129 = true := ri_mk2 (ri_oqp ri_o129 ri_oq10) (ri_G4 (i := 204) (by eq_refl) (by eq_refl)) (ri_G1 (i := 1) (by eq_refl) (by eq_refl)) (by eq_refl) (by eq_refl) (ri_G4 (i := 202) (by eq_refl) (by eq_refl)) (ri_G4 (i := 203) (by eq_refl) (by eq_refl)) (q := (RX10, TX10, 18)) (by eq_refl) (by eq_refl)
theorem ri_o130 : ri_on 10 = (ri_y 130).cls := by eq_refl
theorem ri_d130_3 : ri_nd (ri_y 130) 3 = true := ri_nd_of ri_o130 ri_oq10 (by eq_refl)
set_option maxRecDepth 100000 in
theorem ri_k130 : ri_mk 130 = true := ri_mk2 (ri_oqp ri_o130 ri_oq10) (ri_G4 (i := 208) (by eq_refl) (by eq_refl)) (ri_G1 (i := 1) (by eq_refl) (by eq_refl)) (by eq_refl) (by eq_refl) (ri_G4 (i := 206) (by eq_refl) (by eq_refl)) (ri_G4 (i := 207) (by eq_refl) (by eq_refl)) (q := (RX10, TX10, 18)) (by eq_refl) (by eq_refl)
theorem ri_o131 : ri_on 10 = (ri_y 131).cls := by eq_refl
theorem ri_d131_3 : ri_nd (ri_y 131) 3 = true := ri_nd_of ri_o131 ri_oq10 (by eq_refl)
set_option maxRecDepth 100000 in
theorem ri_k131 : ri_mk 131 = true := ri_mk2 (ri_oqp ri_o131 ri_oq10) (ri_G4 (i := 212) (by eq_refl) (by eq_refl)) (ri_G1 (i := 1) (by eq_refl) (by eq_refl)) (by eq_refl) (by eq_refl) (ri_G4 (i := 210) (by eq_refl) (by eq_refl)) (ri_G4 (i := 211) (by eq_refl) (by eq_refl)) (q := (RX10, TX10, 18)) (by eq_refl) (by eq_refl)
theorem ri_o132 : ri_on 10 = (ri_y 132).cls := by eq_refl
theorem ri_d132_4 : ri_nd (ri_y 132) 4 = true := ri_nd_of ri_o132 ri_oq10 (by eq_refl)
set_option maxRecDepth 100000 in
theorem ri_k132 : ri_mk 132 = true := ri_mk2 (ri_oqp ri_o132 ri_oq10) (ri_G5 (i := 2) (by eq_refl) (by eq_refl)) (ri_G1 (i := 1) (by eq_refl) (by eq_refl)) (by eq_refl) (by eq_refl) (ri_G5 (i := 0) (by eq_refl) (by eq_refl)) (ri_G5 (i := 1) (by eq_refl) (by eq_refl)) (q := (RX10, TX10, 18)) (by eq_refl) (by eq_refl)
theorem ri_o133 : ri_on 10 = (ri_y 133).cls := by eq_refl
theorem ri_d133_2 : ri_nd (ri_y 133) 2 = true := ri_nd_of ri_o133 ri_oq10 (by eq_refl)
set_option maxRecDepth 100000 in
theorem ri_k133 : ri_mk 133 = true := ri_mk2 (ri_oqp ri_o133 ri_oq10) (ri_G5 (i := 21) (by eq_refl) (by eq_refl)) (ri_G1 (i := 1) (by eq_refl) (by eq_refl)) (by eq_refl) (by eq_refl) (ri_G5 (i := 19) (by eq_refl) (by eq_refl)) (ri_G5 (i := 20) (by eq_refl) (by eq_refl)) (q := (RX10, TX10, 18)) (by eq_refl) (by eq_refl)
theorem ri_o134 : ri_on 10 = (ri_y 134).cls := by eq_refl
theorem ri_d134_5 : ri_nd (ri_y 134) 5 = true := ri_nd_of ri_o134 ri_oq10 (by eq_refl)
set_option maxRecDepth 100000 in
theorem ri_k134 : ri_mk 134 = true := ri_mk2 (ri_oqp ri_o134 ri_oq10) (ri_G5 (i := 49) (by eq_refl) (by eq_refl)) (ri_G1 (i := 1) (by eq_refl) (by eq_refl)) (by eq_refl) (by eq_refl) (ri_G5 (i := 47) (by eq_refl) (by eq_refl)) (ri_G5 (i := 48) (by eq_refl) (by eq_refl)) (q := (RX10, TX10, 18)) (by eq_refl) (by eq_refl)
theorem ri_o135 : ri_on 10 = (ri_y 135).cls := by eq_refl
theorem ri_d135_1 : ri_nd (ri_y 135) 1 = true := ri_nd_of ri_o135 ri_oq10 (by eq_refl)
set_option maxRecDepth 100000 in
theorem ri_k135 : ri_mk 135 = true := ri_mk2 (ri_oqp ri_o135 ri_oq10) (ri_G5 (i := 62) (by eq_refl) (by eq_refl)) (ri_G1 (i := 1) (by eq_refl) (by eq_refl)) (by eq_refl) (by eq_refl) (ri_G5 (i := 60) (by eq_refl) (by eq_refl)) (ri_G5 (i := 61) (by eq_refl) (by eq_refl)) (q := (RX10, TX10, 18)) (by eq_refl) (by eq_refl)
theorem ri_o136 : ri_on 10 = (ri_y 136).cls := by eq_refl
theorem ri_d136_3 : ri_nd (ri_y 136) 3 = true := ri_nd_of ri_o136 ri_oq10 (by eq_refl)
set_option maxRecDepth 100000 in
theorem ri_k136 : ri_mk 136 = true := ri_mk2 (ri_oqp ri_o136 ri_oq10) (ri_G5 (i := 66) (by eq_refl) (by eq_refl)) (ri_G1 (i := 1) (by eq_refl) (by eq_refl)) (by eq_refl) (by eq_refl) (ri_G5 (i := 64) (by eq_refl) (by eq_refl)) (ri_G5 (i := 65) (by eq_refl) (by eq_refl)) (q := (RX10, TX10, 18)) (by eq_refl) (by eq_refl)
theorem ri_o137 : ri_on 10 = (ri_y 137).cls := by eq_refl
theorem ri_d137_1 : ri_nd (ri_y 137) 1 = true := ri_nd_of ri_o137 ri_oq10 (by eq_refl)
set_option maxRecDepth 100000 in
theorem ri_k137 : ri_mk 137 = true := ri_mk2 (ri_oqp ri_o137 ri_oq10) (ri_G5 (i := 97) (by eq_refl) (by eq_refl)) (ri_G1 (i := 1) (by eq_refl) (by eq_refl)) (by eq_refl) (by eq_refl) (ri_G5 (i := 95) (by eq_refl) (by eq_refl)) (ri_G5 (i := 96) (by eq_refl) (by eq_refl)) (q := (RX10, TX10, 18)) (by eq_refl) (by eq_refl)
theorem ri_o138 : ri_on 10 = (ri_y 138).cls := by eq_refl
theorem ri_d138_4 : ri_nd (ri_y 138) 4 = true := ri_nd_of ri_o138 ri_oq10 (by eq_refl)
set_option maxRecDepth 100000 in
theorem ri_k138 : ri_mk 138 = true := ri_mk2 (ri_oqp ri_o138 ri_oq10) (ri_G5 (i := 105) (by eq_refl) (by eq_refl)) (ri_G1 (i := 1) (by eq_refl) (by eq_refl)) (by eq_refl) (by eq_refl) (ri_G5 (i := 103) (by eq_refl) (by eq_refl)) (ri_G5 (i := 104) (by eq_refl) (by eq_refl)) (q := (RX10, TX10, 18)) (by eq_refl) (by eq_refl)
theorem ri_o139 : ri_on 10 = (ri_y 139).cls := by eq_refl
theorem ri_d139_1 : ri_nd (ri_y 139) 1 = true := ri_nd_of ri_o139 ri_oq10 (by eq_refl)
set_option maxRecDepth 100000 in
theorem ri_k139 : ri_mk 139 = true := ri_mk2 (ri_oqp ri_o139 ri_oq10) (ri_G5 (i := 109) (by eq_refl) (by eq_refl)) (ri_G1 (i := 1) (by eq_refl) (by eq_refl)) (by eq_refl) (by eq_refl) (ri_G5 (i := 107) (by eq_refl) (by eq_refl)) (ri_G5 (i := 108) (by eq_refl) (by eq_refl)) (q := (RX10, TX10, 18)) (by eq_refl) (by eq_refl)
theorem ri_o140 : ri_on 10 = (ri_y 140).cls := by eq_refl
theorem ri_d140_1 : ri_nd (ri_y 140) 1 = true := ri_nd_of ri_o140 ri_oq10 (by eq_refl)
set_option maxRecDepth 100000 in
theorem ri_k140 : ri_mk 140 = true := ri_mk2 (ri_oqp ri_o140 ri_oq10) (ri_G5 (i := 123) (by eq_refl) (by eq_refl)) (ri_G1 (i := 1) (by eq_refl) (by eq_refl)) (by eq_refl) (by eq_refl) (ri_G5 (i := 121) (by eq_refl) (by eq_refl)) (ri_G5 (i := 122) (by eq_refl) (by eq_refl)) (q := (RX10, TX10, 18)) (by eq_refl) (by eq_refl)
theorem ri_o141 : ri_on 10 = (ri_y 141).cls := by eq_refl
theorem ri_d141_1 : ri_nd (ri_y 141) 1 = true := ri_nd_of ri_o141 ri_oq10 (by eq_refl)
set_option maxRecDepth 100000 in
theorem ri_k141 : ri_mk 141 = true := ri_mk2 (ri_oqp ri_o141 ri_oq10) (ri_G5 (i := 132) (by eq_refl) (by eq_refl)) (ri_G1 (i := 1) (by eq_refl) (by eq_refl)) (by eq_refl) (by eq_refl) (ri_G5 (i := 130) (by eq_refl) (by eq_refl)) (ri_G5 (i := 131) (by eq_refl) (by eq_refl)) (q := (RX10, TX10, 18)) (by eq_refl) (by eq_refl)
theorem ri_o142 : ri_on 10 = (ri_y 142).cls := by eq_refl
theorem ri_d142_2 : ri_nd (ri_y 142) 2 = true := ri_nd_of ri_o142 ri_oq10 (by eq_refl)
set_option maxRecDepth 100000 in
theorem ri_k142 : ri_mk 142 = true := ri_mk0 (ri_oqp ri_o142 ri_oq10) (ri_G2 (i := 99) (by eq_refl) (by eq_refl)) (ri_G1 (i := 1) (by eq_refl) (by eq_refl)) (by eq_refl) (by eq_refl) (ri_G2 (i := 98) (by eq_refl) (by eq_refl))
theorem ri_o143 : ri_on 10 = (ri_y 143).cls := by eq_refl
theorem ri_d143_2 : ri_nd (ri_y 143) 2 = true := ri_nd_of ri_o143 ri_oq10 (by eq_refl)
set_option maxRecDepth 100000 in
theorem ri_k143 : ri_mk 143 = true := ri_mk0 (ri_oqp ri_o143 ri_oq10) (ri_G2 (i := 231) (by eq_refl) (by eq_refl)) (ri_G1 (i := 1) (by eq_refl) (by eq_refl)) (by eq_refl) (by eq_refl) (ri_G2 (i := 230) (by eq_refl) (by eq_refl))
theorem ri_o144 : ri_on 10 = (ri_y 144).cls := by eq_refl
theorem ri_d144_3 : ri_nd (ri_y 144) 3 = true := ri_nd_of ri_o144 ri_oq10 (by eq_refl)
set_option maxRecDepth 100000 in
theorem ri_k144 : ri_mk 144 = true := ri_mk0 (ri_oqp ri_o144 ri_oq10) (ri_G3 (i := 29) (by eq_refl) (by eq_refl)) (ri_G1 (i := 1) (by eq_refl) (by eq_refl)) (by eq_refl) (by eq_refl) (ri_G3 (i := 28) (by eq_refl) (by eq_refl))
theorem ri_o145 : ri_on 10 = (ri_y 145).cls := by eq_refl
theorem ri_d145_2 : ri_nd (ri_y 145) 2 = true := ri_nd_of ri_o145 ri_oq10 (by eq_refl)
set_option maxRecDepth 100000 in
theorem ri_k145 : ri_mk 145 = true := ri_mk0 (ri_oqp ri_o145 ri_oq10) (ri_G3 (i := 26) (by eq_refl) (by eq_refl)) (ri_G1 (i := 1) (by eq_refl) (by eq_refl)) (by eq_refl) (by eq_refl) (ri_G3 (i := 25) (by eq_refl) (by eq_refl))
theorem ri_o146 : ri_on 10 = (ri_y 146).cls := by eq_refl
theorem ri_d146_2 : ri_nd (ri_y 146) 2 = true := ri_nd_of ri_o146 ri_oq10 (by eq_refl)
set_option maxRecDepth 100000 in
theorem ri_k146 : ri_mk 146 = true := ri_mk0 (ri_oqp ri_o146 ri_oq10) (ri_G4 (i := 138) (by eq_refl) (by eq_refl)) (ri_G1 (i := 1) (by eq_refl) (by eq_refl)) (by eq_refl) (by eq_refl) (ri_G4 (i := 137) (by eq_refl) (by eq_refl))
theorem ri_o147 : ri_on 10 = (ri_y 147).cls := by eq_refl
theorem ri_d147_1 : ri_nd (ri_y 147) 1 = true := ri_nd_of ri_o147 ri_oq10 (by eq_refl)
set_option maxRecDepth 100000 in
theorem ri_k147 : ri_mk 147 = true := ri_mk0 (ri_oqp ri_o147 ri_oq10) (ri_G5 (i := 69) (by eq_refl) (by eq_refl)) (ri_G1 (i := 1) (by eq_refl) (by eq_refl)) (by eq_refl) (by eq_refl) (ri_G5 (i := 68) (by eq_refl) (by eq_refl))
theorem ri_o148 : ri_on 10 = (ri_y 148).cls := by eq_refl
theorem ri_d148_1 : ri_nd (ri_y 148) 1 = true := ri_nd_of ri_o148 ri_oq10 (by eq_refl)
set_option maxRecDepth 100000 in
theorem ri_k148 : ri_mk 148 = true := ri_mk0 (ri_oqp ri_o148 ri_oq10) (ri_G4 (i := 238) (by eq_refl) (by eq_refl)) (ri_G1 (i := 1) (by eq_refl) (by eq_refl)) (by eq_refl) (by eq_refl) (ri_G4 (i := 237) (by eq_refl) (by eq_refl))
theorem ri_o149 : ri_on 10 = (ri_y 149).cls := by eq_refl
theorem ri_d149_0 : ri_nd (ri_y 149) 0 = true := ri_nd_of ri_o149 ri_oq10 (by eq_refl)
set_option maxRecDepth 100000 in
theorem ri_k149 : ri_mk 149 = true := ri_mk2 (ri_oqp ri_o149 ri_oq10) (ri_G3 (i := 52) (by eq_refl) (by eq_refl)) (ri_G1 (i := 1) (by eq_refl) (by eq_refl)) (by eq_refl) (by eq_refl) (ri_G3 (i := 51) (by eq_refl) (by eq_refl)) (ri_G0 (by eq_refl)) (q := (RX10, TX10, 18)) (by eq_refl) (by eq_refl)
theorem ri_o150 : ri_on 10 = (ri_y 150).cls := by eq_refl
theorem ri_d150_1 : ri_nd (ri_y 150) 1 = true := ri_nd_of ri_o150 ri_oq10 (by eq_refl)
set_option maxRecDepth 100000 in
theorem ri_k150 : ri_mk 150 = true := ri_mk2 (ri_oqp ri_o150 ri_oq10) (ri_G3 (i := 143) (by eq_refl) (by eq_refl)) (ri_G1 (i := 1) (by eq_refl) (by eq_refl)) (by eq_refl) (by eq_refl) (ri_G3 (i := 142) (by eq_refl) (by eq_refl)) (ri_G0 (by eq_refl)) (q := (RX10, TX10, 18)) (by eq_refl) (by eq_refl)
theorem ri_o151 : ri_on 10 = (ri_y 151).cls := by eq_refl
theorem ri_d151_2 : ri_nd (ri_y 151) 2 = true := ri_nd_of ri_o151 ri_oq10 (by eq_refl)
set_option maxRecDepth 100000 in
theorem ri_k151 : ri_mk 151 = true := ri_mk2 (ri_oqp ri_o151 ri_oq10) (ri_G4 (i := 65) (by eq_refl) (by eq_refl)) (ri_G1 (i := 1) (by eq_refl) (by eq_refl)) (by eq_refl) (by eq_refl) (ri_G4 (i := 64) (by eq_refl) (by eq_refl)) (ri_G0 (by eq_refl)) (q := (RX10, TX10, 18)) (by eq_refl) (by eq_refl)
theorem ri_o152 : ri_on 10 = (ri_y 152).cls := by eq_refl
theorem ri_d152_2 : ri_nd (ri_y 152) 2 = true := ri_nd_of ri_o152 ri_oq10 (by eq_refl)
set_option maxRecDepth 100000 in
theorem ri_k152 : ri_mk 152 = true := ri_mk2 (ri_oqp ri_o152 ri_oq10) (ri_G4 (i := 26) (by eq_refl) (by eq_refl)) (ri_G1 (i := 1) (by eq_refl) (by eq_refl)) (by eq_refl) (by eq_refl) (ri_G4 (i := 25) (by eq_refl) (by eq_refl)) (ri_G0 (by eq_refl)) (q := (RX10, TX10, 18)) (by eq_refl) (by eq_refl)
theorem ri_o153 : ri_on 10 = (ri_y 153).cls := by eq_refl
theorem ri_d153_2 : ri_nd (ri_y 153) 2 = true := ri_nd_of ri_o153 ri_oq10 (by eq_refl)
set_option maxRecDepth 100000 in
theorem ri_k153 : ri_mk 153 = true := ri_mk2 (ri_oqp ri_o153 ri_oq10) (ri_G4 (i := 152) (by eq_refl) (by eq_refl)) (ri_G1 (i := 1) (by eq_refl) (by eq_refl)) (by eq_refl) (by eq_refl) (ri_G4 (i := 151) (by eq_refl) (by eq_refl)) (ri_G0 (by eq_refl)) (q := (RX10, TX10, 18)) (by eq_refl) (by eq_refl)
theorem ri_o154 : ri_on 10 = (ri_y 154).cls := by eq_refl
theorem ri_d154_3 : ri_nd (ri_y 154) 3 = true := ri_nd_of ri_o154 ri_oq10 (by eq_refl)
set_option maxRecDepth 100000 in
theorem ri_k154 : ri_mk 154 = true := ri_mk2 (ri_oqp ri_o154 ri_oq10) (ri_G4 (i := 18) (by eq_refl) (by eq_refl)) (ri_G1 (i := 1) (by eq_refl) (by eq_refl)) (by eq_refl) (by eq_refl) (ri_G4 (i := 17) (by eq_refl) (by eq_refl)) (ri_G0 (by eq_refl)) (q := (RX10, TX10, 18)) (by eq_refl) (by eq_refl)
theorem ri_o155 : ri_on 10 = (ri_y 155).cls := by eq_refl
theorem ri_d155_1 : ri_nd (ri_y 155) 1 = true := ri_nd_of ri_o155 ri_oq10 (by eq_refl)
set_option maxRecDepth 100000 in
theorem ri_k155 : ri_mk 155 = true := ri_mk0 (ri_oqp ri_o155 ri_oq10) (ri_G4 (i := 160) (by eq_refl) (by eq_refl)) (ri_G1 (i := 1) (by eq_refl) (by eq_refl)) (by eq_refl) (by eq_refl) (ri_G4 (i := 159) (by eq_refl) (by eq_refl))
theorem ri_o156 : ri_on 10 = (ri_y 156).cls := by eq_refl
theorem ri_d156_4 : ri_nd (ri_y 156) 4 = true := ri_nd_of ri_o156 ri_oq10 (by eq_refl)
set_option maxRecDepth 100000 in
theorem ri_k156 : ri_mk 156 = true := ri_mk2 (ri_oqp ri_o156 ri_oq10) (ri_G4 (i := 42) (by eq_refl) (by eq_refl)) (ri_G1 (i := 1) (by eq_refl) (by eq_refl)) (by eq_refl) (by eq_refl) (ri_G4 (i := 41) (by eq_refl) (by eq_refl)) (ri_G0 (by eq_refl)) (q := (RX10, TX10, 18)) (by eq_refl) (by eq_refl)
theorem ri_o157 : ri_on 10 = (ri_y 157).cls := by eq_refl
theorem ri_d157_2 : ri_nd (ri_y 157) 2 = true := ri_nd_of ri_o157 ri_oq10 (by eq_refl)
set_option maxRecDepth 100000 in
theorem ri_k157 : ri_mk 157 = true := ri_mk2 (ri_oqp ri_o157 ri_oq10) (ri_G4 (i := 55) (by eq_refl) (by eq_refl)) (ri_G1 (i := 1) (by eq_refl) (by eq_refl)) (by eq_refl) (by eq_refl) (ri_G4 (i := 54) (by eq_refl) (by eq_refl)) (ri_G0 (by eq_refl)) (q := (RX10, TX10, 18)) (by eq_refl) (by eq_refl)
theorem ri_o158 : ri_on 10 = (ri_y 158).cls := by eq_refl
theorem ri_d158_1 : ri_nd (ri_y 158) 1 = true := ri_nd_of ri_o158 ri_oq10 (by eq_refl)
set_option maxRecDepth 100000 in
theorem ri_k158 : ri_mk 158 = true := ri_mk0 (ri_oqp ri_o158 ri_oq10) (ri_G4 (i := 45) (by eq_refl) (by eq_refl)) (ri_G1 (i := 1) (by eq_refl) (by eq_refl)) (by eq_refl) (by eq_refl) (ri_G4 (i := 44) (by eq_refl) (by eq_refl))
theorem ri_o159 : ri_on 10 = (ri_y 159).cls := by eq_refl
theorem ri_d159_3 : ri_nd (ri_y 159) 3 = true := ri_nd_of ri_o159 ri_oq10 (by eq_refl)
set_option maxRecDepth 100000 in
theorem ri_k159 : ri_mk 159 = true := ri_mk2 (ri_oqp ri_o159 ri_oq10) (ri_G4 (i := 69) (by eq_refl) (by eq_refl)) (ri_G1 (i := 1) (by eq_refl) (by eq_refl)) (by eq_refl) (by eq_refl) (ri_G4 (i := 68) (by eq_refl) (by eq_refl)) (ri_G0 (by eq_refl)) (q := (RX10, TX10, 18)) (by eq_refl) (by eq_refl)
theorem ri_o160 : ri_on 10 = (ri_y 160).cls := by eq_refl
theorem ri_d160_1 : ri_nd (ri_y 160) 1 = true := ri_nd_of ri_o160 ri_oq10 (by eq_refl)
set_option maxRecDepth 100000 in
theorem ri_k160 : ri_mk 160 = true := ri_mk2 (ri_oqp ri_o160 ri_oq10) (ri_G4 (i := 122) (by eq_refl) (by eq_refl)) (ri_G1 (i := 1) (by eq_refl) (by eq_refl)) (by eq_refl) (by eq_refl) (ri_G4 (i := 121) (by eq_refl) (by eq_refl)) (ri_G0 (by eq_refl)) (q := (RX10, TX10, 18)) (by eq_refl) (by eq_refl)
theorem ri_o161 : ri_on 10 = (ri_y 161).cls := by eq_refl
theorem ri_d161_1 : ri_nd (ri_y 161) 1 = true := ri_nd_of ri_o161 ri_oq10 (by eq_refl)
set_option maxRecDepth 100000 in
theorem ri_k161 : ri_mk 161 = true := ri_mk2 (ri_oqp ri_o161 ri_oq10) (ri_G4 (i := 118) (by eq_refl) (by eq_refl)) (ri_G1 (i := 1) (by eq_refl) (by eq_refl)) (by eq_refl) (by eq_refl) (ri_G4 (i := 117) (by eq_refl) (by eq_refl)) (ri_G0 (by eq_refl)) (q := (RX10, TX10, 18)) (by eq_refl) (by eq_refl)
theorem ri_o162 : ri_on 10 = (ri_y 162).cls := by eq_refl
theorem ri_d162_1 : ri_nd (ri_y 162) 1 = true := ri_nd_of ri_o162 ri_oq10 (by eq_refl)
set_option maxRecDepth 100000 in
theorem ri_k162 : ri_mk 162 = true := ri_mk2 (ri_oqp ri_o162 ri_oq10) (ri_G4 (i := 135) (by eq_refl) (by eq_refl)) (ri_G1 (i := 1) (by eq_refl) (by eq_refl)) (by eq_refl) (by eq_refl) (ri_G4 (i := 134) (by eq_refl) (by eq_refl)) (ri_G0 (by eq_refl)) (q := (RX10, TX10, 18)) (by eq_refl) (by eq_refl)
theorem ri_o163 : ri_on 10 = (ri_y 163).cls := by eq_refl
theorem ri_d163_1 : ri_nd (ri_y 163) 1 = true := ri_nd_of ri_o163 ri_oq10 (by eq_refl)
set_option maxRecDepth 100000 in
theorem ri_k163 : ri_mk 163 = true := ri_mk2 (ri_oqp ri_o163 ri_oq10) (ri_G4 (i := 168) (by eq_refl) (by eq_refl)) (ri_G1 (i := 1) (by eq_refl) (by eq_refl)) (by eq_refl) (by eq_refl) (ri_G4 (i := 167) (by eq_refl) (by eq_refl)) (ri_G0 (by eq_refl)) (q := (RX10, TX10, 18)) (by eq_refl) (by eq_refl)
theorem ri_o164 : ri_on 10 = (ri_y 164).cls := by eq_refl
theorem ri_d164_3 : ri_nd (ri_y 164) 3 = true := ri_nd_of ri_o164 ri_oq10 (by eq_refl)
set_option maxRecDepth 100000 in
theorem ri_k164 : ri_mk 164 = true := ri_mk2 (ri_oqp ri_o164 ri_oq10) (ri_G4 (i := 172) (by eq_refl) (by eq_refl)) (ri_G1 (i := 1) (by eq_refl) (by eq_refl)) (by eq_refl) (by eq_refl) (ri_G4 (i := 171) (by eq_refl) (by eq_refl)) (ri_G0 (by eq_refl)) (q := (RX10, TX10, 18)) (by eq_refl) (by eq_refl)
theorem ri_o165 : ri_on 10 = (ri_y 165).cls := by eq_refl
theorem ri_d165_2 : ri_nd (ri_y 165) 2 = true := ri_nd_of ri_o165 ri_oq10 (by eq_refl)
set_option maxRecDepth 100000 in
theorem ri_k165 : ri_mk 165 = true := ri_mk2 (ri_oqp ri_o165 ri_oq10) (ri_G4 (i := 180) (by eq_refl) (by eq_refl)) (ri_G1 (i := 1) (by eq_refl) (by eq_refl)) (by eq_refl) (by eq_refl) (ri_G4 (i := 179) (by eq_refl) (by eq_refl)) (ri_G0 (by eq_refl)) (q := (RX10, TX10, 18)) (by eq_refl) (by eq_refl)
theorem ri_o166 : ri_on 10 = (ri_y 166).cls := by eq_refl
theorem ri_d166_1 : ri_nd (ri_y 166) 1 = true := ri_nd_of ri_o166 ri_oq10 (by eq_refl)
set_option maxRecDepth 100000 in
theorem ri_k166 : ri_mk 166 = true := ri_mk2 (ri_oqp ri_o166 ri_oq10) (ri_G4 (i := 216) (by eq_refl) (by eq_refl)) (ri_G1 (i := 1) (by eq_refl) (by eq_refl)) (by eq_refl) (by eq_refl) (ri_G4 (i := 215) (by eq_refl) (by eq_refl)) (ri_G0 (by eq_refl)) (q := (RX10, TX10, 18)) (by eq_refl) (by eq_refl)
theorem ri_o167 : ri_on 10 = (ri_y 167).cls := by eq_refl
theorem ri_d167_2 : ri_nd (ri_y 167) 2 = true := ri_nd_of ri_o167 ri_oq10 (by eq_refl)
set_option maxRecDepth 100000 in
theorem ri_k167 : ri_mk 167 = true := ri_mk2 (ri_oqp ri_o167 ri_oq10) (ri_G5 (i := 77) (by eq_refl) (by eq_refl)) (ri_G1 (i := 1) (by eq_refl) (by eq_refl)) (by eq_refl) (by eq_refl) (ri_G5 (i := 76) (by eq_refl) (by eq_refl)) (ri_G0 (by eq_refl)) (q := (RX10, TX10, 18)) (by eq_refl) (by eq_refl)
theorem ri_o168 : ri_on 11 = (ri_y 168).cls := by eq_refl
theorem ri_d168_0 : ri_nd (ri_y 168) 0 = true := ri_nd_of ri_o168 ri_oq11 (by eq_refl)
set_option maxRecDepth 100000 in
theorem ri_k168 : ri_mk 168 = true := ri_mk1 (ri_oqp ri_o168 ri_oq11) (ri_G5 (i := 137) (by eq_refl) (by eq_refl)) (ri_G1 (i := 12) (by eq_refl) (by eq_refl)) (by eq_refl) (by eq_refl) (ri_G5 (i := 136) (by eq_refl) (by eq_refl)) (by eq_refl) (by eq_refl)
theorem ri_o169 : ri_on 11 = (ri_y 169).cls := by eq_refl
theorem ri_d169_3 : ri_nd (ri_y 169) 3 = true := ri_nd_of ri_o169 ri_oq11 (by eq_refl)
set_option maxRecDepth 100000 in
theorem ri_k169 : ri_mk 169 = true := ri_mk0 (ri_oqp ri_o169 ri_oq11) (ri_G6 (i := 79) (by eq_refl) (by eq_refl)) (ri_G1 (i := 12) (by eq_refl) (by eq_refl)) (by eq_refl) (by eq_refl) (ri_G6 (i := 78) (by eq_refl) (by eq_refl))
theorem ri_o170 : ri_on 11 = (ri_y 170).cls := by eq_refl
theorem ri_d170_1 : ri_nd (ri_y 170) 1 = true := ri_nd_of ri_o170 ri_oq11 (by eq_refl)
set_option maxRecDepth 100000 in
theorem ri_k170 : ri_mk 170 = true := ri_mk0 (ri_oqp ri_o170 ri_oq11) (ri_G7 (i := 103) (by eq_refl) (by eq_refl)) (ri_G1 (i := 12) (by eq_refl) (by eq_refl)) (by eq_refl) (by eq_refl) (ri_G7 (i := 102) (by eq_refl) (by eq_refl))
theorem ri_o171 : ri_on 11 = (ri_y 171).cls := by eq_refl
theorem ri_d171_1 : ri_nd (ri_y 171) 1 = true := ri_nd_of ri_o171 ri_oq11 (by eq_refl)
set_option maxRecDepth 100000 in
theorem ri_k171 : ri_mk 171 = true := ri_mk2 (ri_oqp ri_o171 ri_oq11) (ri_G6 (i := 24) (by eq_refl) (by eq_refl)) (ri_G1 (i := 12) (by eq_refl) (by eq_refl)) (by eq_refl) (by eq_refl) (ri_G6 (i := 23) (by eq_refl) (by eq_refl)) (ri_G0 (by eq_refl)) (q := (RX11, TX11, 39)) (by eq_refl) (by eq_refl)
theorem ri_o172 : ri_on 11 = (ri_y 172).cls := by eq_refl
theorem ri_d172_5 : ri_nd (ri_y 172) 5 = true := ri_nd_of ri_o172 ri_oq11 (by eq_refl)
set_option maxRecDepth 100000 in
theorem ri_k172 : ri_mk 172 = true := ri_mk2 (ri_oqp ri_o172 ri_oq11) (ri_G6 (i := 20) (by eq_refl) (by eq_refl)) (ri_G1 (i := 12) (by eq_refl) (by eq_refl)) (by eq_refl) (by eq_refl) (ri_G6 (i := 18) (by eq_refl) (by eq_refl)) (ri_G6 (i := 19) (by eq_refl) (by eq_refl)) (q := (RX11, TX11, 39)) (by eq_refl) (by eq_refl)
theorem ri_o173 : ri_on 11 = (ri_y 173).cls := by eq_refl
theorem ri_d173_1 : ri_nd (ri_y 173) 1 = true := ri_nd_of ri_o173 ri_oq11 (by eq_refl)
set_option maxRecDepth 100000 in
theorem ri_k173 : ri_mk 173 = true := ri_mk2 (ri_oqp ri_o173 ri_oq11) (ri_G6 (i := 28) (by eq_refl) (by eq_refl)) (ri_G1 (i := 12) (by eq_refl) (by eq_refl)) (by eq_refl) (by eq_refl) (ri_G6 (i := 26) (by eq_refl) (by eq_refl)) (ri_G6 (i := 27) (by eq_refl) (by eq_refl)) (q := (RX11, TX11, 39)) (by eq_refl) (by eq_refl)
theorem ri_o174 : ri_on 11 = (ri_y 174).cls := by eq_refl
theorem ri_d174_2 : ri_nd (ri_y 174) 2 = true := ri_nd_of ri_o174 ri_oq11 (by eq_refl)
set_option maxRecDepth 100000 in
theorem ri_k174 : ri_mk 174 = true := ri_mk2 (ri_oqp ri_o174 ri_oq11) (ri_G6 (i := 60) (by eq_refl) (by eq_refl)) (ri_G1 (i := 12) (by eq_refl) (by eq_refl)) (by eq_refl) (by eq_refl) (ri_G6 (i := 59) (by eq_refl) (by eq_refl)) (ri_G0 (by eq_refl)) (q := (RX11, TX11, 39)) (by eq_refl) (by eq_refl)
theorem ri_o175 : ri_on 11 = (ri_y 175).cls := by eq_refl
theorem ri_d175_0 : ri_nd (ri_y 175) 0 = true := ri_nd_of ri_o175 ri_oq11 (by eq_refl)
set_option maxRecDepth 100000 in
theorem ri_k175 : ri_mk 175 = true := ri_mk2 (ri_oqp ri_o175 ri_oq11) (ri_G6 (i := 44) (by eq_refl) (by eq_refl)) (ri_G1 (i := 12) (by eq_refl) (by eq_refl)) (by eq_refl) (by eq_refl) (ri_G6 (i := 43) (by eq_refl) (by eq_refl)) (ri_G0 (by eq_refl)) (q := (RX11, TX11, 39)) (by eq_refl) (by eq_refl)
theorem ri_o176 : ri_on 11 = (ri_y 176).cls := by eq_refl
theorem ri_d176_1 : ri_nd (ri_y 176) 1 = true := ri_nd_of ri_o176 ri_oq11 (by eq_refl)
set_option maxRecDepth 100000 in
theorem ri_k176 : ri_mk 176 = true := ri_mk2 (ri_oqp ri_o176 ri_oq11) (ri_G6 (i := 76) (by eq_refl) (by eq_refl)) (ri_G1 (i := 12) (by eq_refl) (by eq_refl)) (by eq_refl) (by eq_refl) (ri_G6 (i := 75) (by eq_refl) (by eq_refl)) (ri_G0 (by eq_refl)) (q := (RX11, TX11, 39)) (by eq_refl) (by eq_refl)
theorem ri_o177 : ri_on 11 = (ri_y 177).cls := by eq_refl
theorem ri_d177_1 : ri_nd (ri_y 177) 1 = true := ri_nd_of ri_o177 ri_oq11 (by eq_refl)
set_option maxRecDepth 100000 in
theorem ri_k177 : ri_mk 177 = true := ri_mk2 (ri_oqp ri_o177 ri_oq11) (ri_G6 (i := 53) (by eq_refl) (by eq_refl)) (ri_G1 (i := 12) (by eq_refl) (by eq_refl)) (by eq_refl) (by eq_refl) (ri_G6 (i := 52) (by eq_refl) (by eq_refl)) (ri_G0 (by eq_refl)) (q := (RX11, TX11, 39)) (by eq_refl) (by eq_refl)
theorem ri_o178 : ri_on 11 = (ri_y 178).cls := by eq_refl
theorem ri_d178_1 : ri_nd (ri_y 178) 1 = true := ri_nd_of ri_o178 ri_oq11 (by eq_refl)
set_option maxRecDepth 100000 in
theorem ri_k178 : ri_mk 178 = true := ri_mk2 (ri_oqp ri_o178 ri_oq11) (ri_G6 (i := 49) (by eq_refl) (by eq_refl)) (ri_G1 (i := 12) (by eq_refl) (by eq_refl)) (by eq_refl) (by eq_refl) (ri_G6 (i := 48) (by eq_refl) (by eq_refl)) (ri_G0 (by eq_refl)) (q := (RX11, TX11, 39)) (by eq_refl) (by eq_refl)
theorem ri_o179 : ri_on 11 = (ri_y 179).cls := by eq_refl
theorem ri_d179_0 : ri_nd (ri_y 179) 0 = true := ri_nd_of ri_o179 ri_oq11 (by eq_refl)
set_option maxRecDepth 100000 in
theorem ri_k179 : ri_mk 179 = true := ri_mk2 (ri_oqp ri_o179 ri_oq11) (ri_G6 (i := 68) (by eq_refl) (by eq_refl)) (ri_G1 (i := 12) (by eq_refl) (by eq_refl)) (by eq_refl) (by eq_refl) (ri_G6 (i := 67) (by eq_refl) (by eq_refl)) (ri_G0 (by eq_refl)) (q := (RX11, TX11, 39)) (by eq_refl) (by eq_refl)
theorem ri_o180 : ri_on 11 = (ri_y 180).cls := by eq_refl
theorem ri_d180_1 : ri_nd (ri_y 180) 1 = true := ri_nd_of ri_o180 ri_oq11 (by eq_refl)
set_option maxRecDepth 100000 in
theorem ri_k180 : ri_mk 180 = true := ri_mk2 (ri_oqp ri_o180 ri_oq11) (ri_G6 (i := 129) (by eq_refl) (by eq_refl)) (ri_G1 (i := 12) (by eq_refl) (by eq_refl)) (by eq_refl) (by eq_refl) (ri_G6 (i := 128) (by eq_refl) (by eq_refl)) (ri_G0 (by eq_refl)) (q := (RX11, TX11, 39)) (by eq_refl) (by eq_refl)
theorem ri_o181 : ri_on 11 = (ri_y 181).cls := by eq_refl
theorem ri_d181_2 : ri_nd (ri_y 181) 2 = true := ri_nd_of ri_o181 ri_oq11 (by eq_refl)
set_option maxRecDepth 100000 in
theorem ri_k181 : ri_mk 181 = true := ri_mk2 (ri_oqp ri_o181 ri_oq11) (ri_G6 (i := 72) (by eq_refl) (by eq_refl)) (ri_G1 (i := 12) (by eq_refl) (by eq_refl)) (by eq_refl) (by eq_refl) (ri_G6 (i := 71) (by eq_refl) (by eq_refl)) (ri_G0 (by eq_refl)) (q := (RX11, TX11, 39)) (by eq_refl) (by eq_refl)
theorem ri_o182 : ri_on 11 = (ri_y 182).cls := by eq_refl
theorem ri_d182_0 : ri_nd (ri_y 182) 0 = true := ri_nd_of ri_o182 ri_oq11 (by eq_refl)
set_option maxRecDepth 100000 in
theorem ri_k182 : ri_mk 182 = true := ri_mk2 (ri_oqp ri_o182 ri_oq11) (ri_G6 (i := 116) (by eq_refl) (by eq_refl)) (ri_G1 (i := 12) (by eq_refl) (by eq_refl)) (by eq_refl) (by eq_refl) (ri_G6 (i := 115) (by eq_refl) (by eq_refl)) (ri_G0 (by eq_refl)) (q := (RX11, TX11, 39)) (by eq_refl) (by eq_refl)
theorem ri_o183 : ri_on 11 = (ri_y 183).cls := by eq_refl
theorem ri_d183_2 : ri_nd (ri_y 183) 2 = true := ri_nd_of ri_o183 ri_oq11 (by eq_refl)
set_option maxRecDepth 100000 in
theorem ri_k183 : ri_mk 183 = true := ri_mk2 (ri_oqp ri_o183 ri_oq11) (ri_G6 (i := 112) (by eq_refl) (by eq_refl)) (ri_G1 (i := 12) (by eq_refl) (by eq_refl)) (by eq_refl) (by eq_refl) (ri_G6 (i := 111) (by eq_refl) (by eq_refl)) (ri_G0 (by eq_refl)) (q := (RX11, TX11, 39)) (by eq_refl) (by eq_refl)
theorem ri_o184 : ri_on 11 = (ri_y 184).cls := by eq_refl
theorem ri_d184_1 : ri_nd (ri_y 184) 1 = true := ri_nd_of ri_o184 ri_oq11 (by eq_refl)
set_option maxRecDepth 100000 in
theorem ri_k184 : ri_mk 184 = true := ri_mk2 (ri_oqp ri_o184 ri_oq11) (ri_G6 (i := 108) (by eq_refl) (by eq_refl)) (ri_G1 (i := 12) (by eq_refl) (by eq_refl)) (by eq_refl) (by eq_refl) (ri_G6 (i := 107) (by eq_refl) (by eq_refl)) (ri_G0 (by eq_refl)) (q := (RX11, TX11, 39)) (by eq_refl) (by eq_refl)
theorem ri_o185 : ri_on 11 = (ri_y 185).cls := by eq_refl
theorem ri_d185_1 : ri_nd (ri_y 185) 1 = true := ri_nd_of ri_o185 ri_oq11 (by eq_refl)
set_option maxRecDepth 100000 in
theorem ri_k185 : ri_mk 185 = true := ri_mk2 (ri_oqp ri_o185 ri_oq11) (ri_G6 (i := 142) (by eq_refl) (by eq_refl)) (ri_G1 (i := 12) (by eq_refl) (by eq_refl)) (by eq_refl) (by eq_refl) (ri_G6 (i := 141) (by eq_refl) (by eq_refl)) (ri_G0 (by eq_refl)) (q := (RX11, TX11, 39)) (by eq_refl) (by eq_refl)
theorem ri_o186 : ri_on 11 = (ri_y 186).cls := by eq_refl
theorem ri_d186_1 : ri_nd (ri_y 186) 1 = true := ri_nd_of ri_o186 ri_oq11 (by eq_refl)
set_option maxRecDepth 100000 in
theorem ri_k186 : ri_mk 186 = true := ri_mk0 (ri_oqp ri_o186 ri_oq11) (ri_G6 (i := 157) (by eq_refl) (by eq_refl)) (ri_G1 (i := 12) (by eq_refl) (by eq_refl)) (by eq_refl) (by eq_refl) (ri_G6 (i := 156) (by eq_refl) (by eq_refl))
theorem ri_o187 : ri_on 11 = (ri_y 187).cls := by eq_refl
theorem ri_d187_1 : ri_nd (ri_y 187) 1 = true := ri_nd_of ri_o187 ri_oq11 (by eq_refl)
set_option maxRecDepth 100000 in
theorem ri_k187 : ri_mk 187 = true := ri_mk2 (ri_oqp ri_o187 ri_oq11) (ri_G6 (i := 154) (by eq_refl) (by eq_refl)) (ri_G1 (i := 12) (by eq_refl) (by eq_refl)) (by eq_refl) (by eq_refl) (ri_G6 (i := 153) (by eq_refl) (by eq_refl)) (ri_G0 (by eq_refl)) (q := (RX11, TX11, 39)) (by eq_refl) (by eq_refl)
theorem ri_o188 : ri_on 11 = (ri_y 188).cls := by eq_refl
theorem ri_d188_0 : ri_nd (ri_y 188) 0 = true := ri_nd_of ri_o188 ri_oq11 (by eq_refl)
set_option maxRecDepth 100000 in
theorem ri_k188 : ri_mk 188 = true := ri_mk2 (ri_oqp ri_o188 ri_oq11) (ri_G6 (i := 103) (by eq_refl) (by eq_refl)) (ri_G1 (i := 12) (by eq_refl) (by eq_refl)) (by eq_refl) (by eq_refl) (ri_G6 (i := 102) (by eq_refl) (by eq_refl)) (ri_G0 (by eq_refl)) (q := (RX11, TX11, 39)) (by eq_refl) (by eq_refl)
theorem ri_o189 : ri_on 11 = (ri_y 189).cls := by eq_refl
theorem ri_d189_0 : ri_nd (ri_y 189) 0 = true := ri_nd_of ri_o189 ri_oq11 (by eq_refl)
set_option maxRecDepth 100000 in
theorem ri_k189 : ri_mk 189 = true := ri_mk2 (ri_oqp ri_o189 ri_oq11) (ri_G6 (i := 99) (by eq_refl) (by eq_refl)) (ri_G1 (i := 12) (by eq_refl) (by eq_refl)) (by eq_refl) (by eq_refl) (ri_G6 (i := 98) (by eq_refl) (by eq_refl)) (ri_G0 (by eq_refl)) (q := (RX11, TX11, 39)) (by eq_refl) (by eq_refl)
theorem ri_o190 : ri_on 11 = (ri_y 190).cls := by eq_refl
theorem ri_d190_0 : ri_nd (ri_y 190) 0 = true := ri_nd_of ri_o190 ri_oq11 (by eq_refl)
set_option maxRecDepth 100000 in
theorem ri_k190 : ri_mk 190 = true := ri_mk2 (ri_oqp ri_o190 ri_oq11) (ri_G6 (i := 95) (by eq_refl) (by eq_refl)) (ri_G1 (i := 12) (by eq_refl) (by eq_refl)) (by eq_refl) (by eq_refl) (ri_G6 (i := 94) (by eq_refl) (by eq_refl)) (ri_G0 (by eq_refl)) (q := (RX11, TX11, 39)) (by eq_refl) (by eq_refl)
theorem ri_o191 : ri_on 11 = (ri_y 191).cls := by eq_refl
theorem ri_d191_0 : ri_nd (ri_y 191) 0 = true := ri_nd_of ri_o191 ri_oq11 (by eq_refl)
set_option maxRecDepth 100000 in
theorem ri_k191 : ri_mk 191 = true := ri_mk2 (ri_oqp ri_o191 ri_oq11) (ri_G6 (i := 146) (by eq_refl) (by eq_refl)) (ri_G1 (i := 12) (by eq_refl) (by eq_refl)) (by eq_refl) (by eq_refl) (ri_G6 (i := 145) (by eq_refl) (by eq_refl)) (ri_G0 (by eq_refl)) (q := (RX11, TX11, 39)) (by eq_refl) (by eq_refl)
theorem ri_o192 : ri_on 11 = (ri_y 192).cls := by eq_refl
theorem ri_d192_0 : ri_nd (ri_y 192) 0 = true := ri_nd_of ri_o192 ri_oq11 (by eq_refl)
set_option maxRecDepth 100000 in
theorem ri_k192 : ri_mk 192 = true := ri_mk2 (ri_oqp ri_o192 ri_oq11) (ri_G6 (i := 137) (by eq_refl) (by eq_refl)) (ri_G1 (i := 12) (by eq_refl) (by eq_refl)) (by eq_refl) (by eq_refl) (ri_G6 (i := 136) (by eq_refl) (by eq_refl)) (ri_G0 (by eq_refl)) (q := (RX11, TX11, 39)) (by eq_refl) (by eq_refl)
theorem ri_o193 : ri_on 11 = (ri_y 193).cls := by eq_refl
theorem ri_d193_0 : ri_nd (ri_y 193) 0 = true := ri_nd_of ri_o193 ri_oq11 (by eq_refl)
set_option maxRecDepth 100000 in
theorem ri_k193 : ri_mk 193 = true := ri_mk2 (ri_oqp ri_o193 ri_oq11) (ri_G6 (i := 161) (by eq_refl) (by eq_refl)) (ri_G1 (i := 12) (by eq_refl) (by eq_refl)) (by eq_refl) (by eq_refl) (ri_G6 (i := 160) (by eq_refl) (by eq_refl)) (ri_G0 (by eq_refl)) (q := (RX11, TX11, 39)) (by eq_refl) (by eq_refl)
theorem ri_o194 : ri_on 11 = (ri_y 194).cls := by eq_refl
theorem ri_d194_0 : ri_nd (ri_y 194) 0 = true := ri_nd_of ri_o194 ri_oq11 (by eq_refl)
set_option maxRecDepth 100000 in
theorem ri_k194 : ri_mk 194 = true := ri_mk2 (ri_oqp ri_o194 ri_oq11) (ri_G6 (i := 150) (by eq_refl) (by eq_refl)) (ri_G1 (i := 12) (by eq_refl) (by eq_refl)) (by eq_refl) (by eq_refl) (ri_G6 (i := 149) (by eq_refl) (by eq_refl)) (ri_G0 (by eq_refl)) (q := (RX11, TX11, 39)) (by eq_refl) (by eq_refl)
theorem ri_o195 : ri_on 11 = (ri_y 195).cls := by eq_refl
theorem ri_d195_0 : ri_nd (ri_y 195) 0 = true := ri_nd_of ri_o195 ri_oq11 (by eq_refl)
set_option maxRecDepth 100000 in
theorem ri_k195 : ri_mk 195 = true := ri_mk2 (ri_oqp ri_o195 ri_oq11) (ri_G6 (i := 133) (by eq_refl) (by eq_refl)) (ri_G1 (i := 12) (by eq_refl) (by eq_refl)) (by eq_refl) (by eq_refl) (ri_G6 (i := 132) (by eq_refl) (by eq_refl)) (ri_G0 (by eq_refl)) (q := (RX11, TX11, 39)) (by eq_refl) (by eq_refl)
theorem ri_o196 : ri_on 11 = (ri_y 196).cls := by eq_refl
theorem ri_d196_1 : ri_nd (ri_y 196) 1 = true := ri_nd_of ri_o196 ri_oq11 (by eq_refl)
set_option maxRecDepth 100000 in
theorem ri_k196 : ri_mk 196 = true := ri_mk2 (ri_oqp ri_o196 ri_oq11) (ri_G6 (i := 91) (by eq_refl) (by eq_refl)) (ri_G1 (i := 12) (by eq_refl) (by eq_refl)) (by eq_refl) (by eq_refl) (ri_G6 (i := 90) (by eq_refl) (by eq_refl)) (ri_G0 (by eq_refl)) (q := (RX11, TX11, 39)) (by eq_refl) (by eq_refl)
theorem ri_o197 : ri_on 11 = (ri_y 197).cls := by eq_refl
theorem ri_d197_0 : ri_nd (ri_y 197) 0 = true := ri_nd_of ri_o197 ri_oq11 (by eq_refl)
set_option maxRecDepth 100000 in
theorem ri_k197 : ri_mk 197 = true := ri_mk2 (ri_oqp ri_o197 ri_oq11) (ri_G6 (i := 83) (by eq_refl) (by eq_refl)) (ri_G1 (i := 12) (by eq_refl) (by eq_refl)) (by eq_refl) (by eq_refl) (ri_G6 (i := 82) (by eq_refl) (by eq_refl)) (ri_G0 (by eq_refl)) (q := (RX11, TX11, 39)) (by eq_refl) (by eq_refl)
theorem ri_o198 : ri_on 11 = (ri_y 198).cls := by eq_refl
theorem ri_d198_0 : ri_nd (ri_y 198) 0 = true := ri_nd_of ri_o198 ri_oq11 (by eq_refl)
set_option maxRecDepth 100000 in
theorem ri_k198 : ri_mk 198 = true := ri_mk2 (ri_oqp ri_o198 ri_oq11) (ri_G6 (i := 87) (by eq_refl) (by eq_refl)) (ri_G1 (i := 12) (by eq_refl) (by eq_refl)) (by eq_refl) (by eq_refl) (ri_G6 (i := 86) (by eq_refl) (by eq_refl)) (ri_G0 (by eq_refl)) (q := (RX11, TX11, 39)) (by eq_refl) (by eq_refl)
theorem ri_o199 : ri_on 11 = (ri_y 199).cls := by eq_refl
theorem ri_d199_1 : ri_nd (ri_y 199) 1 = true := ri_nd_of ri_o199 ri_oq11 (by eq_refl)
set_option maxRecDepth 100000 in
theorem ri_k199 : ri_mk 199 = true := ri_mk2 (ri_oqp ri_o199 ri_oq11) (ri_G6 (i := 64) (by eq_refl) (by eq_refl)) (ri_G1 (i := 12) (by eq_refl) (by eq_refl)) (by eq_refl) (by eq_refl) (ri_G6 (i := 63) (by eq_refl) (by eq_refl)) (ri_G0 (by eq_refl)) (q := (RX11, TX11, 39)) (by eq_refl) (by eq_refl)
theorem ri_o200 : ri_on 11 = (ri_y 200).cls := by eq_refl
theorem ri_d200_0 : ri_nd (ri_y 200) 0 = true := ri_nd_of ri_o200 ri_oq11 (by eq_refl)
set_option maxRecDepth 100000 in
theorem ri_k200 : ri_mk 200 = true := ri_mk2 (ri_oqp ri_o200 ri_oq11) (ri_G6 (i := 40) (by eq_refl) (by eq_refl)) (ri_G1 (i := 12) (by eq_refl) (by eq_refl)) (by eq_refl) (by eq_refl) (ri_G6 (i := 39) (by eq_refl) (by eq_refl)) (ri_G0 (by eq_refl)) (q := (RX11, TX11, 39)) (by eq_refl) (by eq_refl)
theorem ri_o201 : ri_on 11 = (ri_y 201).cls := by eq_refl
theorem ri_d201_0 : ri_nd (ri_y 201) 0 = true := ri_nd_of ri_o201 ri_oq11 (by eq_refl)
set_option maxRecDepth 100000 in
theorem ri_k201 : ri_mk 201 = true := ri_mk2 (ri_oqp ri_o201 ri_oq11) (ri_G6 (i := 36) (by eq_refl) (by eq_refl)) (ri_G1 (i := 12) (by eq_refl) (by eq_refl)) (by eq_refl) (by eq_refl) (ri_G6 (i := 35) (by eq_refl) (by eq_refl)) (ri_G0 (by eq_refl)) (q := (RX11, TX11, 39)) (by eq_refl) (by eq_refl)
theorem ri_o202 : ri_on 11 = (ri_y 202).cls := by eq_refl
theorem ri_d202_0 : ri_nd (ri_y 202) 0 = true := ri_nd_of ri_o202 ri_oq11 (by eq_refl)
set_option maxRecDepth 100000 in
theorem ri_k202 : ri_mk 202 = true := ri_mk2 (ri_oqp ri_o202 ri_oq11) (ri_G6 (i := 32) (by eq_refl) (by eq_refl)) (ri_G1 (i := 12) (by eq_refl) (by eq_refl)) (by eq_refl) (by eq_refl) (ri_G6 (i := 30) (by eq_refl) (by eq_refl)) (ri_G6 (i := 31) (by eq_refl) (by eq_refl)) (q := (RX11, TX11, 39)) (by eq_refl) (by eq_refl)
theorem ri_o203 : ri_on 11 = (ri_y 203).cls := by eq_refl
theorem ri_d203_0 : ri_nd (ri_y 203) 0 = true := ri_nd_of ri_o203 ri_oq11 (by eq_refl)
set_option maxRecDepth 100000 in
theorem ri_k203 : ri_mk 203 = true := ri_mk2 (ri_oqp ri_o203 ri_oq11) (ri_G6 (i := 167) (by eq_refl) (by eq_refl)) (ri_G1 (i := 12) (by eq_refl) (by eq_refl)) (by eq_refl) (by eq_refl) (ri_G6 (i := 165) (by eq_refl) (by eq_refl)) (ri_G6 (i := 166) (by eq_refl) (by eq_refl)) (q := (RX11, TX11, 39)) (by eq_refl) (by eq_refl)
theorem ri_o204 : ri_on 11 = (ri_y 204).cls := by eq_refl
theorem ri_d204_1 : ri_nd (ri_y 204) 1 = true := ri_nd_of ri_o204 ri_oq11 (by eq_refl)
set_option maxRecDepth 100000 in
theorem ri_k204 : ri_mk 204 = true := ri_mk2 (ri_oqp ri_o204 ri_oq11) (ri_G6 (i := 196) (by eq_refl) (by eq_refl)) (ri_G1 (i := 12) (by eq_refl) (by eq_refl)) (by eq_refl) (by eq_refl) (ri_G6 (i := 195) (by eq_refl) (by eq_refl)) (ri_G0 (by eq_refl)) (q := (RX11, TX11, 39)) (by eq_refl) (by eq_refl)
theorem ri_o205 : ri_on 11 = (ri_y 205).cls := by eq_refl
theorem ri_d205_1 : ri_nd (ri_y 205) 1 = true := ri_nd_of ri_o205 ri_oq11 (by eq_refl)
set_option maxRecDepth 100000 in
theorem ri_k205 : ri_mk 205 = true := ri_mk2 (ri_oqp ri_o205 ri_oq11) (ri_G6 (i := 215) (by eq_refl) (by eq_refl)) (ri_G1 (i := 12) (by eq_refl) (by eq_refl)) (by eq_refl) (by eq_refl) (ri_G6 (i := 214) (by eq_refl) (by eq_refl)) (ri_G0 (by eq_refl)) (q := (RX11, TX11, 39)) (by eq_refl) (by eq_refl)
theorem ri_o206 : ri_on 11 = (ri_y 206).cls := by eq_refl
theorem ri_d206_0 : ri_nd (ri_y 206) 0 = true := ri_nd_of ri_o206 ri_oq11 (by eq_refl)
set_option maxRecDepth 100000 in
theorem ri_k206 : ri_mk 206 = true := ri_mk2 (ri_oqp ri_o206 ri_oq11) (ri_G6 (i := 219) (by eq_refl) (by eq_refl)) (ri_G1 (i := 12) (by eq_refl) (by eq_refl)) (by eq_refl) (by eq_refl) (ri_G6 (i := 218) (by eq_refl) (by eq_refl)) (ri_G0 (by eq_refl)) (q := (RX11, TX11, 39)) (by eq_refl) (by eq_refl)
theorem ri_o207 : ri_on 11 = (ri_y 207).cls := by eq_refl
theorem ri_d207_3 : ri_nd (ri_y 207) 3 = true := ri_nd_of ri_o207 ri_oq11 (by eq_refl)
set_option maxRecDepth 100000 in
theorem ri_k207 : ri_mk 207 = true := ri_mk0 (ri_oqp ri_o207 ri_oq11) (ri_G6 (i := 222) (by eq_refl) (by eq_refl)) (ri_G1 (i := 12) (by eq_refl) (by eq_refl)) (by eq_refl) (by eq_refl) (ri_G6 (i := 221) (by eq_refl) (by eq_refl))
theorem ri_o208 : ri_on 11 = (ri_y 208).cls := by eq_refl
theorem ri_d208_3 : ri_nd (ri_y 208) 3 = true := ri_nd_of ri_o208 ri_oq11 (by eq_refl)
set_option maxRecDepth 100000 in
theorem ri_k208 : ri_mk 208 = true := ri_mk2 (ri_oqp ri_o208 ri_oq11) (ri_G6 (i := 211) (by eq_refl) (by eq_refl)) (ri_G1 (i := 12) (by eq_refl) (by eq_refl)) (by eq_refl) (by eq_refl) (ri_G6 (i := 210) (by eq_refl) (by eq_refl)) (ri_G0 (by eq_refl)) (q := (RX11, TX11, 39)) (by eq_refl) (by eq_refl)
theorem ri_o209 : ri_on 11 = (ri_y 209).cls := by eq_refl
theorem ri_d209_0 : ri_nd (ri_y 209) 0 = true := ri_nd_of ri_o209 ri_oq11 (by eq_refl)
set_option maxRecDepth 100000 in
theorem ri_k209 : ri_mk 209 = true := ri_mk2 (ri_oqp ri_o209 ri_oq11) (ri_G6 (i := 183) (by eq_refl) (by eq_refl)) (ri_G1 (i := 12) (by eq_refl) (by eq_refl)) (by eq_refl) (by eq_refl) (ri_G6 (i := 182) (by eq_refl) (by eq_refl)) (ri_G0 (by eq_refl)) (q := (RX11, TX11, 39)) (by eq_refl) (by eq_refl)
theorem ri_o210 : ri_on 11 = (ri_y 210).cls := by eq_refl
theorem ri_d210_0 : ri_nd (ri_y 210) 0 = true := ri_nd_of ri_o210 ri_oq11 (by eq_refl)
set_option maxRecDepth 100000 in
theorem ri_k210 : ri_mk 210 = true := ri_mk2 (ri_oqp ri_o210 ri_oq11) (ri_G6 (i := 171) (by eq_refl) (by eq_refl)) (ri_G1 (i := 12) (by eq_refl) (by eq_refl)) (by eq_refl) (by eq_refl) (ri_G6 (i := 170) (by eq_refl) (by eq_refl)) (ri_G0 (by eq_refl)) (q := (RX11, TX11, 39)) (by eq_refl) (by eq_refl)
theorem ri_o211 : ri_on 11 = (ri_y 211).cls := by eq_refl
theorem ri_d211_1 : ri_nd (ri_y 211) 1 = true := ri_nd_of ri_o211 ri_oq11 (by eq_refl)
set_option maxRecDepth 100000 in
theorem ri_k211 : ri_mk 211 = true := ri_mk2 (ri_oqp ri_o211 ri_oq11) (ri_G6 (i := 179) (by eq_refl) (by eq_refl)) (ri_G1 (i := 12) (by eq_refl) (by eq_refl)) (by eq_refl) (by eq_refl) (ri_G6 (i := 178) (by eq_refl) (by eq_refl)) (ri_G0 (by eq_refl)) (q := (RX11, TX11, 39)) (by eq_refl) (by eq_refl)
theorem ri_o212 : ri_on 11 = (ri_y 212).cls := by eq_refl
theorem ri_d212_2 : ri_nd (ri_y 212) 2 = true := ri_nd_of ri_o212 ri_oq11 (by eq_refl)
set_option maxRecDepth 100000 in
theorem ri_k212 : ri_mk 212 = true := ri_mk2 (ri_oqp ri_o212 ri_oq11) (ri_G6 (i := 188) (by eq_refl) (by eq_refl)) (ri_G1 (i := 12) (by eq_refl) (by eq_refl)) (by eq_refl) (by eq_refl) (ri_G6 (i := 187) (by eq_refl) (by eq_refl)) (ri_G0 (by eq_refl)) (q := (RX11, TX11, 39)) (by eq_refl) (by eq_refl)
theorem ri_o213 : ri_on 11 = (ri_y 213).cls := by eq_refl
theorem ri_d213_1 : ri_nd (ri_y 213) 1 = true := ri_nd_of ri_o213 ri_oq11 (by eq_refl)
set_option maxRecDepth 100000 in
theorem ri_k213 : ri_mk 213 = true := ri_mk2 (ri_oqp ri_o213 ri_oq11) (ri_G7 (i := 29) (by eq_refl) (by eq_refl)) (ri_G1 (i := 12) (by eq_refl) (by eq_refl)) (by eq_refl) (by eq_refl) (ri_G7 (i := 28) (by eq_refl) (by eq_refl)) (ri_G0 (by eq_refl)) (q := (RX11, TX11, 39)) (by eq_refl) (by eq_refl)
theorem ri_o214 : ri_on 11 = (ri_y 214).cls := by eq_refl
theorem ri_d214_1 : ri_nd (ri_y 214) 1 = true := ri_nd_of ri_o214 ri_oq11 (by eq_refl)
set_option maxRecDepth 100000 in
theorem ri_k214 : ri_mk 214 = true := ri_mk0 (ri_oqp ri_o214 ri_oq11) (ri_G6 (i := 230) (by eq_refl) (by eq_refl)) (ri_G1 (i := 12) (by eq_refl) (by eq_refl)) (by eq_refl) (by eq_refl) (ri_G6 (i := 229) (by eq_refl) (by eq_refl))
theorem ri_o215 : ri_on 11 = (ri_y 215).cls := by eq_refl
theorem ri_d215_1 : ri_nd (ri_y 215) 1 = true := ri_nd_of ri_o215 ri_oq11 (by eq_refl)
set_option maxRecDepth 100000 in
theorem ri_k215 : ri_mk 215 = true := ri_mk2 (ri_oqp ri_o215 ri_oq11) (ri_G7 (i := 6) (by eq_refl) (by eq_refl)) (ri_G1 (i := 12) (by eq_refl) (by eq_refl)) (by eq_refl) (by eq_refl) (ri_G7 (i := 5) (by eq_refl) (by eq_refl)) (ri_G0 (by eq_refl)) (q := (RX11, TX11, 39)) (by eq_refl) (by eq_refl)
theorem ri_o216 : ri_on 11 = (ri_y 216).cls := by eq_refl
theorem ri_d216_2 : ri_nd (ri_y 216) 2 = true := ri_nd_of ri_o216 ri_oq11 (by eq_refl)
set_option maxRecDepth 100000 in
theorem ri_k216 : ri_mk 216 = true := ri_mk2 (ri_oqp ri_o216 ri_oq11) (ri_G6 (i := 238) (by eq_refl) (by eq_refl)) (ri_G1 (i := 12) (by eq_refl) (by eq_refl)) (by eq_refl) (by eq_refl) (ri_G6 (i := 237) (by eq_refl) (by eq_refl)) (ri_G0 (by eq_refl)) (q := (RX11, TX11, 39)) (by eq_refl) (by eq_refl)
theorem ri_o217 : ri_on 11 = (ri_y 217).cls := by eq_refl
theorem ri_d217_2 : ri_nd (ri_y 217) 2 = true := ri_nd_of ri_o217 ri_oq11 (by eq_refl)
set_option maxRecDepth 100000 in
theorem ri_k217 : ri_mk 217 = true := ri_mk2 (ri_oqp ri_o217 ri_oq11) (ri_G7 (i := 45) (by eq_refl) (by eq_refl)) (ri_G1 (i := 12) (by eq_refl) (by eq_refl)) (by eq_refl) (by eq_refl) (ri_G7 (i := 44) (by eq_refl) (by eq_refl)) (ri_G0 (by eq_refl)) (q := (RX11, TX11, 39)) (by eq_refl) (by eq_refl)
theorem ri_o218 : ri_on 11 = (ri_y 218).cls := by eq_refl
theorem ri_d218_3 : ri_nd (ri_y 218) 3 = true := ri_nd_of ri_o218 ri_oq11 (by eq_refl)
set_option maxRecDepth 100000 in
theorem ri_k218 : ri_mk 218 = true := ri_mk2 (ri_oqp ri_o218 ri_oq11) (ri_G6 (i := 175) (by eq_refl) (by eq_refl)) (ri_G1 (i := 12) (by eq_refl) (by eq_refl)) (by eq_refl) (by eq_refl) (ri_G6 (i := 173) (by eq_refl) (by eq_refl)) (ri_G6 (i := 174) (by eq_refl) (by eq_refl)) (q := (RX11, TX11, 39)) (by eq_refl) (by eq_refl)
theorem ri_o219 : ri_on 11 = (ri_y 219).cls := by eq_refl
theorem ri_d219_2 : ri_nd (ri_y 219) 2 = true := ri_nd_of ri_o219 ri_oq11 (by eq_refl)
set_option maxRecDepth 100000 in
theorem ri_k219 : ri_mk 219 = true := ri_mk0 (ri_oqp ri_o219 ri_oq11) (ri_G6 (i := 207) (by eq_refl) (by eq_refl)) (ri_G1 (i := 12) (by eq_refl) (by eq_refl)) (by eq_refl) (by eq_refl) (ri_G6 (i := 206) (by eq_refl) (by eq_refl))
theorem ri_o220 : ri_on 11 = (ri_y 220).cls := by eq_refl
theorem ri_d220_3 : ri_nd (ri_y 220) 3 = true := ri_nd_of ri_o220 ri_oq11 (by eq_refl)
set_option maxRecDepth 100000 in
theorem ri_k220 : ri_mk 220 = true := ri_mk2 (ri_oqp ri_o220 ri_oq11) (ri_G6 (i := 204) (by eq_refl) (by eq_refl)) (ri_G1 (i := 12) (by eq_refl) (by eq_refl)) (by eq_refl) (by eq_refl) (ri_G6 (i := 203) (by eq_refl) (by eq_refl)) (ri_G0 (by eq_refl)) (q := (RX11, TX11, 39)) (by eq_refl) (by eq_refl)
theorem ri_o221 : ri_on 11 = (ri_y 221).cls := by eq_refl
theorem ri_d221_4 : ri_nd (ri_y 221) 4 = true := ri_nd_of ri_o221 ri_oq11 (by eq_refl)
set_option maxRecDepth 100000 in
theorem ri_k221 : ri_mk 221 = true := ri_mk2 (ri_oqp ri_o221 ri_oq11) (ri_G6 (i := 200) (by eq_refl) (by eq_refl)) (ri_G1 (i := 12) (by eq_refl) (by eq_refl)) (by eq_refl) (by eq_refl) (ri_G6 (i := 199) (by eq_refl) (by eq_refl)) (ri_G0 (by eq_refl)) (q := (RX11, TX11, 39)) (by eq_refl) (by eq_refl)
theorem ri_o222 : ri_on 11 = (ri_y 222).cls := by eq_refl
theorem ri_d222_4 : ri_nd (ri_y 222) 4 = true := ri_nd_of ri_o222 ri_oq11 (by eq_refl)
set_option maxRecDepth 100000 in
theorem ri_k222 : ri_mk 222 = true := ri_mk2 (ri_oqp ri_o222 ri_oq11) (ri_G6 (i := 192) (by eq_refl) (by eq_refl)) (ri_G1 (i := 12) (by eq_refl) (by eq_refl)) (by eq_refl) (by eq_refl) (ri_G6 (i := 190) (by eq_refl) (by eq_refl)) (ri_G6 (i := 191) (by eq_refl) (by eq_refl)) (q := (RX11, TX11, 39)) (by eq_refl) (by eq_refl)
theorem ri_o223 : ri_on 11 = (ri_y 223).cls := by eq_refl
theorem ri_d223_1 : ri_nd (ri_y 223) 1 = true := ri_nd_of ri_o223 ri_oq11 (by eq_refl)
set_option maxRecDepth 100000 in
theorem ri_k223 : ri_mk 223 = true := ri_mk2 (ri_oqp ri_o223 ri_oq11) (ri_G6 (i := 234) (by eq_refl) (by eq_refl)) (ri_G1 (i := 12) (by eq_refl) (by eq_refl)) (by eq_refl) (by eq_refl) (ri_G6 (i := 233) (by eq_refl) (by eq_refl)) (ri_G0 (by eq_refl)) (q := (RX11, TX11, 39)) (by eq_refl) (by eq_refl)
theorem ri_o224 : ri_on 11 = (ri_y 224).cls := by eq_refl
theorem ri_d224_4 : ri_nd (ri_y 224) 4 = true := ri_nd_of ri_o224 ri_oq11 (by eq_refl)
set_option maxRecDepth 100000 in
theorem ri_k224 : ri_mk 224 = true := ri_mk2 (ri_oqp ri_o224 ri_oq11) (ri_G6 (i := 227) (by eq_refl) (by eq_refl)) (ri_G1 (i := 12) (by eq_refl) (by eq_refl)) (by eq_refl) (by eq_refl) (ri_G6 (i := 225) (by eq_refl) (by eq_refl)) (ri_G6 (i := 226) (by eq_refl) (by eq_refl)) (q := (RX11, TX11, 39)) (by eq_refl) (by eq_refl)
theorem ri_o225 : ri_on 11 = (ri_y 225).cls := by eq_refl
theorem ri_d225_2 : ri_nd (ri_y 225) 2 = true := ri_nd_of ri_o225 ri_oq11 (by eq_refl)
set_option maxRecDepth 100000 in
theorem ri_k225 : ri_mk 225 = true := ri_mk2 (ri_oqp ri_o225 ri_oq11) (ri_G7 (i := 2) (by eq_refl) (by eq_refl)) (ri_G1 (i := 12) (by eq_refl) (by eq_refl)) (by eq_refl) (by eq_refl) (ri_G7 (i := 0) (by eq_refl) (by eq_refl)) (ri_G7 (i := 1) (by eq_refl) (by eq_refl)) (q := (RX11, TX11, 39)) (by eq_refl) (by eq_refl)
theorem ri_o226 : ri_on 11 = (ri_y 226).cls := by eq_refl
theorem ri_d226_2 : ri_nd (ri_y 226) 2 = true := ri_nd_of ri_o226 ri_oq11 (by eq_refl)
set_option maxRecDepth 100000 in
theorem ri_k226 : ri_mk 226 = true := ri_mk2 (ri_oqp ri_o226 ri_oq11) (ri_G7 (i := 11) (by eq_refl) (by eq_refl)) (ri_G1 (i := 12) (by eq_refl) (by eq_refl)) (by eq_refl) (by eq_refl) (ri_G7 (i := 9) (by eq_refl) (by eq_refl)) (ri_G7 (i := 10) (by eq_refl) (by eq_refl)) (q := (RX11, TX11, 39)) (by eq_refl) (by eq_refl)
theorem ri_o227 : ri_on 11 = (ri_y 227).cls := by eq_refl
theorem ri_d227_1 : ri_nd (ri_y 227) 1 = true := ri_nd_of ri_o227 ri_oq11 (by eq_refl)
set_option maxRecDepth 100000 in
theorem ri_k227 : ri_mk 227 = true := ri_mk2 (ri_oqp ri_o227 ri_oq11) (ri_G7 (i := 15) (by eq_refl) (by eq_refl)) (ri_G1 (i := 12) (by eq_refl) (by eq_refl)) (by eq_refl) (by eq_refl) (ri_G7 (i := 13) (by eq_refl) (by eq_refl)) (ri_G7 (i := 14) (by eq_refl) (by eq_refl)) (q := (RX11, TX11, 39)) (by eq_refl) (by eq_refl)
theorem ri_o228 : ri_on 11 = (ri_y 228).cls := by eq_refl
theorem ri_d228_1 : ri_nd (ri_y 228) 1 = true := ri_nd_of ri_o228 ri_oq11 (by eq_refl)
set_option maxRecDepth 100000 in
theorem ri_k228 : ri_mk 228 = true := ri_mk2 (ri_oqp ri_o228 ri_oq11) (ri_G7 (i := 57) (by eq_refl) (by eq_refl)) (ri_G1 (i := 12) (by eq_refl) (by eq_refl)) (by eq_refl) (by eq_refl) (ri_G7 (i := 56) (by eq_refl) (by eq_refl)) (ri_G0 (by eq_refl)) (q := (RX11, TX11, 39)) (by eq_refl) (by eq_refl)
theorem ri_o229 : ri_on 11 = (ri_y 229).cls := by eq_refl
theorem ri_d229_1 : ri_nd (ri_y 229) 1 = true := ri_nd_of ri_o229 ri_oq11 (by eq_refl)
set_option maxRecDepth 100000 in
theorem ri_k229 : ri_mk 229 = true := ri_mk2 (ri_oqp ri_o229 ri_oq11) (ri_G7 (i := 33) (by eq_refl) (by eq_refl)) (ri_G1 (i := 12) (by eq_refl) (by eq_refl)) (by eq_refl) (by eq_refl) (ri_G7 (i := 32) (by eq_refl) (by eq_refl)) (ri_G0 (by eq_refl)) (q := (RX11, TX11, 39)) (by eq_refl) (by eq_refl)
theorem ri_o230 : ri_on 11 = (ri_y 230).cls := by eq_refl
theorem ri_d230_4 : ri_nd (ri_y 230) 4 = true := ri_nd_of ri_o230 ri_oq11 (by eq_refl)
set_option maxRecDepth 100000 in
theorem ri_k230 : ri_mk 230 = true := ri_mk2 (ri_oqp ri_o230 ri_oq11) (ri_G7 (i := 41) (by eq_refl) (by eq_refl)) (ri_G1 (i := 12) (by eq_refl) (by eq_refl)) (by eq_refl) (by eq_refl) (ri_G7 (i := 40) (by eq_refl) (by eq_refl)) (ri_G0 (by eq_refl)) (q := (RX11, TX11, 39)) (by eq_refl) (by eq_refl)
theorem ri_o231 : ri_on 11 = (ri_y 231).cls := by eq_refl
theorem ri_d231_2 : ri_nd (ri_y 231) 2 = true := ri_nd_of ri_o231 ri_oq11 (by eq_refl)
set_option maxRecDepth 100000 in
theorem ri_k231 : ri_mk 231 = true := ri_mk2 (ri_oqp ri_o231 ri_oq11) (ri_G7 (i := 37) (by eq_refl) (by eq_refl)) (ri_G1 (i := 12) (by eq_refl) (by eq_refl)) (by eq_refl) (by eq_refl) (ri_G7 (i := 36) (by eq_refl) (by eq_refl)) (ri_G0 (by eq_refl)) (q := (RX11, TX11, 39)) (by eq_refl) (by eq_refl)
theorem ri_o232 : ri_on 11 = (ri_y 232).cls := by eq_refl
theorem ri_d232_2 : ri_nd (ri_y 232) 2 = true := ri_nd_of ri_o232 ri_oq11 (by eq_refl)
set_option maxRecDepth 100000 in
theorem ri_k232 : ri_mk 232 = true := ri_mk2 (ri_oqp ri_o232 ri_oq11) (ri_G7 (i := 53) (by eq_refl) (by eq_refl)) (ri_G1 (i := 12) (by eq_refl) (by eq_refl)) (by eq_refl) (by eq_refl) (ri_G7 (i := 52) (by eq_refl) (by eq_refl)) (ri_G0 (by eq_refl)) (q := (RX11, TX11, 39)) (by eq_refl) (by eq_refl)
theorem ri_o233 : ri_on 11 = (ri_y 233).cls := by eq_refl
theorem ri_d233_1 : ri_nd (ri_y 233) 1 = true := ri_nd_of ri_o233 ri_oq11 (by eq_refl)
set_option maxRecDepth 100000 in
theorem ri_k233 : ri_mk 233 = true := ri_mk2 (ri_oqp ri_o233 ri_oq11) (ri_G7 (i := 25) (by eq_refl) (by eq_refl)) (ri_G1 (i := 12) (by eq_refl) (by eq_refl)) (by eq_refl) (by eq_refl) (ri_G7 (i := 24) (by eq_refl) (by eq_refl)) (ri_G0 (by eq_refl)) (q := (RX11, TX11, 39)) (by eq_refl) (by eq_refl)
theorem ri_o234 : ri_on 11 = (ri_y 234).cls := by eq_refl
theorem ri_d234_1 : ri_nd (ri_y 234) 1 = true := ri_nd_of ri_o234 ri_oq11 (by eq_refl)
set_option maxRecDepth 100000 in
theorem ri_k234 : ri_mk 234 = true := ri_mk0 (ri_oqp ri_o234 ri_oq11) (ri_G7 (i := 64) (by eq_refl) (by eq_refl)) (ri_G1 (i := 12) (by eq_refl) (by eq_refl)) (by eq_refl) (by eq_refl) (ri_G7 (i := 63) (by eq_refl) (by eq_refl))
theorem ri_o235 : ri_on 11 = (ri_y 235).cls := by eq_refl
theorem ri_d235_3 : ri_nd (ri_y 235) 3 = true := ri_nd_of ri_o235 ri_oq11 (by eq_refl)
set_option maxRecDepth 100000 in
theorem ri_k235 : ri_mk 235 = true := ri_mk2 (ri_oqp ri_o235 ri_oq11) (ri_G7 (i := 68) (by eq_refl) (by eq_refl)) (ri_G1 (i := 12) (by eq_refl) (by eq_refl)) (by eq_refl) (by eq_refl) (ri_G7 (i := 67) (by eq_refl) (by eq_refl)) (ri_G0 (by eq_refl)) (q := (RX11, TX11, 39)) (by eq_refl) (by eq_refl)
theorem ri_o236 : ri_on 11 = (ri_y 236).cls := by eq_refl
theorem ri_d236_3 : ri_nd (ri_y 236) 3 = true := ri_nd_of ri_o236 ri_oq11 (by eq_refl)
set_option maxRecDepth 100000 in
theorem ri_k236 : ri_mk 236 = true := ri_mk2 (ri_oqp ri_o236 ri_oq11) (ri_G7 (i := 21) (by eq_refl) (by eq_refl)) (ri_G1 (i := 12) (by eq_refl) (by eq_refl)) (by eq_refl) (by eq_refl) (ri_G7 (i := 19) (by eq_refl) (by eq_refl)) (ri_G7 (i := 20) (by eq_refl) (by eq_refl)) (q := (RX11, TX11, 39)) (by eq_refl) (by eq_refl)
theorem ri_o237 : ri_on 11 = (ri_y 237).cls := by eq_refl
theorem ri_d237_2 : ri_nd (ri_y 237) 2 = true := ri_nd_of ri_o237 ri_oq11 (by eq_refl)
set_option maxRecDepth 100000 in
theorem ri_k237 : ri_mk 237 = true := ri_mk2 (ri_oqp ri_o237 ri_oq11) (ri_G7 (i := 49) (by eq_refl) (by eq_refl)) (ri_G1 (i := 12) (by eq_refl) (by eq_refl)) (by eq_refl) (by eq_refl) (ri_G7 (i := 47) (by eq_refl) (by eq_refl)) (ri_G7 (i := 48) (by eq_refl) (by eq_refl)) (q := (RX11, TX11, 39)) (by eq_refl) (by eq_refl)
theorem ri_o238 : ri_on 11 = (ri_y 238).cls := by eq_refl
theorem ri_d238_2 : ri_nd (ri_y 238) 2 = true := ri_nd_of ri_o238 ri_oq11 (by eq_refl)
set_option maxRecDepth 100000 in
theorem ri_k238 : ri_mk 238 = true := ri_mk2 (ri_oqp ri_o238 ri_oq11) (ri_G7 (i := 61) (by eq_refl) (by eq_refl)) (ri_G1 (i := 12) (by eq_refl) (by eq_refl)) (by eq_refl) (by eq_refl) (ri_G7 (i := 59) (by eq_refl) (by eq_refl)) (ri_G7 (i := 60) (by eq_refl) (by eq_refl)) (q := (RX11, TX11, 39)) (by eq_refl) (by eq_refl)
theorem ri_o239 : ri_on 11 = (ri_y 239).cls := by eq_refl
theorem ri_d239_3 : ri_nd (ri_y 239) 3 = true := ri_nd_of ri_o239 ri_oq11 (by eq_refl)
set_option maxRecDepth 100000 in
theorem ri_k239 : ri_mk 239 = true := ri_mk2 (ri_oqp ri_o239 ri_oq11) (ri_G7 (i := 72) (by eq_refl) (by eq_refl)) (ri_G1 (i := 12) (by eq_refl) (by eq_refl)) (by eq_refl) (by eq_refl) (ri_G7 (i := 70) (by eq_refl) (by eq_refl)) (ri_G7 (i := 71) (by eq_refl) (by eq_refl)) (q := (RX11, TX11, 39)) (by eq_refl) (by eq_refl)
theorem ri_o240 : ri_on 11 = (ri_y 240).cls := by eq_refl
theorem ri_d240_2 : ri_nd (ri_y 240) 2 = true := ri_nd_of ri_o240 ri_oq11 (by eq_refl)
set_option maxRecDepth 100000 in
theorem ri_k240 : ri_mk 240 = true := ri_mk2 (ri_oqp ri_o240 ri_oq11) (ri_G7 (i := 80) (by eq_refl) (by eq_refl)) (ri_G1 (i := 12) (by eq_refl) (by eq_refl)) (by eq_refl) (by eq_refl) (ri_G7 (i := 79) (by eq_refl) (by eq_refl)) (ri_G0 (by eq_refl)) (q := (RX11, TX11, 39)) (by eq_refl) (by eq_refl)
theorem ri_o241 : ri_on 11 = (ri_y 241).cls := by eq_refl
theorem ri_d241_4 : ri_nd (ri_y 241) 4 = true := ri_nd_of ri_o241 ri_oq11 (by eq_refl)
set_option maxRecDepth 100000 in
theorem ri_k241 : ri_mk 241 = true := ri_mk2 (ri_oqp ri_o241 ri_oq11) (ri_G7 (i := 76) (by eq_refl) (by eq_refl)) (ri_G1 (i := 12) (by eq_refl) (by eq_refl)) (by eq_refl) (by eq_refl) (ri_G7 (i := 74) (by eq_refl) (by eq_refl)) (ri_G7 (i := 75) (by eq_refl) (by eq_refl)) (q := (RX11, TX11, 39)) (by eq_refl) (by eq_refl)
theorem ri_o242 : ri_on 11 = (ri_y 242).cls := by eq_refl
theorem ri_d242_2 : ri_nd (ri_y 242) 2 = true := ri_nd_of ri_o242 ri_oq11 (by eq_refl)
set_option maxRecDepth 100000 in
theorem ri_k242 : ri_mk 242 = true := ri_mk2 (ri_oqp ri_o242 ri_oq11) (ri_G7 (i := 84) (by eq_refl) (by eq_refl)) (ri_G1 (i := 12) (by eq_refl) (by eq_refl)) (by eq_refl) (by eq_refl) (ri_G7 (i := 82) (by eq_refl) (by eq_refl)) (ri_G7 (i := 83) (by eq_refl) (by eq_refl)) (q := (RX11, TX11, 39)) (by eq_refl) (by eq_refl)
theorem ri_o243 : ri_on 11 = (ri_y 243).cls := by eq_refl
theorem ri_d243_1 : ri_nd (ri_y 243) 1 = true := ri_nd_of ri_o243 ri_oq11 (by eq_refl)
set_option maxRecDepth 100000 in
theorem ri_k243 : ri_mk 243 = true := ri_mk2 (ri_oqp ri_o243 ri_oq11) (ri_G7 (i := 92) (by eq_refl) (by eq_refl)) (ri_G1 (i := 12) (by eq_refl) (by eq_refl)) (by eq_refl) (by eq_refl) (ri_G7 (i := 91) (by eq_refl) (by eq_refl)) (ri_G0 (by eq_refl)) (q := (RX11, TX11, 39)) (by eq_refl) (by eq_refl)
theorem ri_o244 : ri_on 11 = (ri_y 244).cls := by eq_refl
theorem ri_d244_2 : ri_nd (ri_y 244) 2 = true := ri_nd_of ri_o244 ri_oq11 (by eq_refl)
set_option maxRecDepth 100000 in
theorem ri_k244 : ri_mk 244 = true := ri_mk2 (ri_oqp ri_o244 ri_oq11) (ri_G7 (i := 88) (by eq_refl) (by eq_refl)) (ri_G1 (i := 12) (by eq_refl) (by eq_refl)) (by eq_refl) (by eq_refl) (ri_G7 (i := 86) (by eq_refl) (by eq_refl)) (ri_G7 (i := 87) (by eq_refl) (by eq_refl)) (q := (RX11, TX11, 39)) (by eq_refl) (by eq_refl)
theorem ri_o245 : ri_on 11 = (ri_y 245).cls := by eq_refl
theorem ri_d245_1 : ri_nd (ri_y 245) 1 = true := ri_nd_of ri_o245 ri_oq11 (by eq_refl)
set_option maxRecDepth 100000 in
theorem ri_k245 : ri_mk 245 = true := ri_mk2 (ri_oqp ri_o245 ri_oq11) (ri_G7 (i := 96) (by eq_refl) (by eq_refl)) (ri_G1 (i := 12) (by eq_refl) (by eq_refl)) (by eq_refl) (by eq_refl) (ri_G7 (i := 94) (by eq_refl) (by eq_refl)) (ri_G7 (i := 95) (by eq_refl) (by eq_refl)) (q := (RX11, TX11, 39)) (by eq_refl) (by eq_refl)
theorem ri_o246 : ri_on 11 = (ri_y 246).cls := by eq_refl
theorem ri_d246_1 : ri_nd (ri_y 246) 1 = true := ri_nd_of ri_o246 ri_oq11 (by eq_refl)
set_option maxRecDepth 100000 in
theorem ri_k246 : ri_mk 246 = true := ri_mk2 (ri_oqp ri_o246 ri_oq11) (ri_G7 (i := 100) (by eq_refl) (by eq_refl)) (ri_G1 (i := 12) (by eq_refl) (by eq_refl)) (by eq_refl) (by eq_refl) (ri_G7 (i := 98) (by eq_refl) (by eq_refl)) (ri_G7 (i := 99) (by eq_refl) (by eq_refl)) (q := (RX11, TX11, 39)) (by eq_refl) (by eq_refl)
theorem ri_o247 : ri_on 11 = (ri_y 247).cls := by eq_refl
theorem ri_d247_2 : ri_nd (ri_y 247) 2 = true := ri_nd_of ri_o247 ri_oq11 (by eq_refl)
set_option maxRecDepth 100000 in
theorem ri_k247 : ri_mk 247 = true := ri_mk2 (ri_oqp ri_o247 ri_oq11) (ri_G7 (i := 111) (by eq_refl) (by eq_refl)) (ri_G1 (i := 12) (by eq_refl) (by eq_refl)) (by eq_refl) (by eq_refl) (ri_G7 (i := 110) (by eq_refl) (by eq_refl)) (ri_G0 (by eq_refl)) (q := (RX11, TX11, 39)) (by eq_refl) (by eq_refl)
theorem ri_o248 : ri_on 11 = (ri_y 248).cls := by eq_refl
theorem ri_d248_1 : ri_nd (ri_y 248) 1 = true := ri_nd_of ri_o248 ri_oq11 (by eq_refl)
set_option maxRecDepth 100000 in
theorem ri_k248 : ri_mk 248 = true := ri_mk2 (ri_oqp ri_o248 ri_oq11) (ri_G7 (i := 107) (by eq_refl) (by eq_refl)) (ri_G1 (i := 12) (by eq_refl) (by eq_refl)) (by eq_refl) (by eq_refl) (ri_G7 (i := 105) (by eq_refl) (by eq_refl)) (ri_G7 (i := 106) (by eq_refl) (by eq_refl)) (q := (RX11, TX11, 39)) (by eq_refl) (by eq_refl)
theorem ri_o249 : ri_on 11 = (ri_y 249).cls := by eq_refl
theorem ri_d249_0 : ri_nd (ri_y 249) 0 = true := ri_nd_of ri_o249 ri_oq11 (by eq_refl)
set_option maxRecDepth 100000 in
theorem ri_k249 : ri_mk 249 = true := ri_mk2 (ri_oqp ri_o249 ri_oq11) (ri_G7 (i := 119) (by eq_refl) (by eq_refl)) (ri_G1 (i := 12) (by eq_refl) (by eq_refl)) (by eq_refl) (by eq_refl) (ri_G7 (i := 118) (by eq_refl) (by eq_refl)) (ri_G0 (by eq_refl)) (q := (RX11, TX11, 39)) (by eq_refl) (by eq_refl)
theorem ri_o250 : ri_on 11 = (ri_y 250).cls := by eq_refl
theorem ri_d250_2 : ri_nd (ri_y 250) 2 = true := ri_nd_of ri_o250 ri_oq11 (by eq_refl)
set_option maxRecDepth 100000 in
theorem ri_k250 : ri_mk 250 = true := ri_mk2 (ri_oqp ri_o250 ri_oq11) (ri_G7 (i := 123) (by eq_refl) (by eq_refl)) (ri_G1 (i := 12) (by eq_refl) (by eq_refl)) (by eq_refl) (by eq_refl) (ri_G7 (i := 122) (by eq_refl) (by eq_refl)) (ri_G0 (by eq_refl)) (q := (RX11, TX11, 39)) (by eq_refl) (by eq_refl)
theorem ri_o251 : ri_on 11 = (ri_y 251).cls := by eq_refl
theorem ri_d251_2 : ri_nd (ri_y 251) 2 = true := ri_nd_of ri_o251 ri_oq11 (by eq_refl)
set_option maxRecDepth 100000 in
theorem ri_k251 : ri_mk 251 = true := ri_mk2 (ri_oqp ri_o251 ri_oq11) (ri_G7 (i := 115) (by eq_refl) (by eq_refl)) (ri_G1 (i := 12) (by eq_refl) (by eq_refl)) (by eq_refl) (by eq_refl) (ri_G7 (i := 113) (by eq_refl) (by eq_refl)) (ri_G7 (i := 114) (by eq_refl) (by eq_refl)) (q := (RX11, TX11, 39)) (by eq_refl) (by eq_refl)
theorem ri_o252 : ri_on 11 = (ri_y 252).cls := by eq_refl
theorem ri_d252_3 : ri_nd (ri_y 252) 3 = true := ri_nd_of ri_o252 ri_oq11 (by eq_refl)
set_option maxRecDepth 100000 in
theorem ri_k252 : ri_mk 252 = true := ri_mk2 (ri_oqp ri_o252 ri_oq11) (ri_G7 (i := 127) (by eq_refl) (by eq_refl)) (ri_G1 (i := 12) (by eq_refl) (by eq_refl)) (by eq_refl) (by eq_refl) (ri_G7 (i := 125) (by eq_refl) (by eq_refl)) (ri_G7 (i := 126) (by eq_refl) (by eq_refl)) (q := (RX11, TX11, 39)) (by eq_refl) (by eq_refl)
theorem ri_o253 : ri_on 11 = (ri_y 253).cls := by eq_refl
theorem ri_d253_3 : ri_nd (ri_y 253) 3 = true := ri_nd_of ri_o253 ri_oq11 (by eq_refl)
set_option maxRecDepth 100000 in
theorem ri_k253 : ri_mk 253 = true := ri_mk2 (ri_oqp ri_o253 ri_oq11) (ri_G7 (i := 131) (by eq_refl) (by eq_refl)) (ri_G1 (i := 12) (by eq_refl) (by eq_refl)) (by eq_refl) (by eq_refl) (ri_G7 (i := 129) (by eq_refl) (by eq_refl)) (ri_G7 (i := 130) (by eq_refl) (by eq_refl)) (q := (RX11, TX11, 39)) (by eq_refl) (by eq_refl)
theorem ri_o254 : ri_on 11 = (ri_y 254).cls := by eq_refl
theorem ri_d254_3 : ri_nd (ri_y 254) 3 = true := ri_nd_of ri_o254 ri_oq11 (by eq_refl)
set_option maxRecDepth 100000 in
theorem ri_k254 : ri_mk 254 = true := ri_mk2 (ri_oqp ri_o254 ri_oq11) (ri_G7 (i := 135) (by eq_refl) (by eq_refl)) (ri_G1 (i := 12) (by eq_refl) (by eq_refl)) (by eq_refl) (by eq_refl) (ri_G7 (i := 133) (by eq_refl) (by eq_refl)) (ri_G7 (i := 134) (by eq_refl) (by eq_refl)) (q := (RX11, TX11, 39)) (by eq_refl) (by eq_refl)
theorem ri_o255 : ri_on 11 = (ri_y 255).cls := by eq_refl
theorem ri_d255_2 : ri_nd (ri_y 255) 2 = true := ri_nd_of ri_o255 ri_oq11 (by eq_refl)
set_option maxRecDepth 100000 in
theorem ri_k255 : ri_mk 255 = true := ri_mk2 (ri_oqp ri_o255 ri_oq11) (ri_G7 (i := 139) (by eq_refl) (by eq_refl)) (ri_G1 (i := 12) (by eq_refl) (by eq_refl)) (by eq_refl) (by eq_refl) (ri_G7 (i := 137) (by eq_refl) (by eq_refl)) (ri_G7 (i := 138) (by eq_refl) (by eq_refl)) (q := (RX11, TX11, 39)) (by eq_refl) (by eq_refl)
theorem ri_o256 : ri_on 11 = (ri_y 256).cls := by eq_refl
theorem ri_d256_3 : ri_nd (ri_y 256) 3 = true := ri_nd_of ri_o256 ri_oq11 (by eq_refl)
set_option maxRecDepth 100000 in
theorem ri_k256 : ri_mk 256 = true := ri_mk2 (ri_oqp ri_o256 ri_oq11) (ri_G7 (i := 143) (by eq_refl) (by eq_refl)) (ri_G1 (i := 12) (by eq_refl) (by eq_refl)) (by eq_refl) (by eq_refl) (ri_G7 (i := 141) (by eq_refl) (by eq_refl)) (ri_G7 (i := 142) (by eq_refl) (by eq_refl)) (q := (RX11, TX11, 39)) (by eq_refl) (by eq_refl)
theorem ri_o257 : ri_on 11 = (ri_y 257).cls := by eq_refl
theorem ri_d257_0 : ri_nd (ri_y 257) 0 = true := ri_nd_of ri_o257 ri_oq11 (by eq_refl)
set_option maxRecDepth 100000 in
theorem ri_k257 : ri_mk 257 = true := ri_mk2 (ri_oqp ri_o257 ri_oq11) (ri_G7 (i := 151) (by eq_refl) (by eq_refl)) (ri_G1 (i := 12) (by eq_refl) (by eq_refl)) (by eq_refl) (by eq_refl) (ri_G7 (i := 150) (by eq_refl) (by eq_refl)) (ri_G0 (by eq_refl)) (q := (RX11, TX11, 39)) (by eq_refl) (by eq_refl)
theorem ri_o258 : ri_on 11 = (ri_y 258).cls := by eq_refl
theorem ri_d258_3 : ri_nd (ri_y 258) 3 = true := ri_nd_of ri_o258 ri_oq11 (by eq_refl)
set_option maxRecDepth 100000 in
theorem ri_k258 : ri_mk 258 = true := ri_mk2 (ri_oqp ri_o258 ri_oq11) (ri_G7 (i := 159) (by eq_refl) (by eq_refl)) (ri_G1 (i := 12) (by eq_refl) (by eq_refl)) (by eq_refl) (by eq_refl) (ri_G7 (i := 158) (by eq_refl) (by eq_refl)) (ri_G0 (by eq_refl)) (q := (RX11, TX11, 39)) (by eq_refl) (by eq_refl)
theorem ri_o259 : ri_on 11 = (ri_y 259).cls := by eq_refl
theorem ri_d259_1 : ri_nd (ri_y 259) 1 = true := ri_nd_of ri_o259 ri_oq11 (by eq_refl)
set_option maxRecDepth 100000 in
theorem ri_k259 : ri_mk 259 = true := ri_mk2 (ri_oqp ri_o259 ri_oq11) (ri_G7 (i := 155) (by eq_refl) (by eq_refl)) (ri_G1 (i := 12) (by eq_refl) (by eq_refl)) (by eq_refl) (by eq_refl) (ri_G7 (i := 154) (by eq_refl) (by eq_refl)) (ri_G0 (by eq_refl)) (q := (RX11, TX11, 39)) (by eq_refl) (by eq_refl)
theorem ri_o260 : ri_on 11 = (ri_y 260).cls := by eq_refl
theorem ri_d260_2 : ri_nd (ri_y 260) 2 = true := ri_nd_of ri_o260 ri_oq11 (by eq_refl)
set_option maxRecDepth 100000 in
theorem ri_k260 : ri_mk 260 = true := ri_mk0 (ri_oqp ri_o260 ri_oq11) (ri_G7 (i := 162) (by eq_refl) (by eq_refl)) (ri_G1 (i := 12) (by eq_refl) (by eq_refl)) (by eq_refl) (by eq_refl) (ri_G7 (i := 161) (by eq_refl) (by eq_refl))
theorem ri_o261 : ri_on 11 = (ri_y 261).cls := by eq_refl
theorem ri_d261_1 : ri_nd (ri_y 261) 1 = true := ri_nd_of ri_o261 ri_oq11 (by eq_refl)
set_option maxRecDepth 100000 in
theorem ri_k261 : ri_mk 261 = true := ri_mk2 (ri_oqp ri_o261 ri_oq11) (ri_G7 (i := 174) (by eq_refl) (by eq_refl)) (ri_G1 (i := 12) (by eq_refl) (by eq_refl)) (by eq_refl) (by eq_refl) (ri_G7 (i := 173) (by eq_refl) (by eq_refl)) (ri_G0 (by eq_refl)) (q := (RX11, TX11, 39)) (by eq_refl) (by eq_refl)
theorem ri_o262 : ri_on 11 = (ri_y 262).cls := by eq_refl
theorem ri_d262_3 : ri_nd (ri_y 262) 3 = true := ri_nd_of ri_o262 ri_oq11 (by eq_refl)
set_option maxRecDepth 100000 in
theorem ri_k262 : ri_mk 262 = true := ri_mk2 (ri_oqp ri_o262 ri_oq11) (ri_G7 (i := 147) (by eq_refl) (by eq_refl)) (ri_G1 (i := 12) (by eq_refl) (by eq_refl)) (by eq_refl) (by eq_refl) (ri_G7 (i := 145) (by eq_refl) (by eq_refl)) (ri_G7 (i := 146) (by eq_refl) (by eq_refl)) (q := (RX11, TX11, 39)) (by eq_refl) (by eq_refl)
theorem ri_o263 : ri_on 11 = (ri_y 263).cls := by eq_refl
theorem ri_d263_3 : ri_nd (ri_y 263) 3 = true := ri_nd_of ri_o263 ri_oq11 (by eq_refl)
set_option maxRecDepth 100000 in
theorem ri_k263 : ri_mk 263 = true := ri_mk2 (ri_oqp ri_o263 ri_oq11) (ri_G7 (i := 166) (by eq_refl) (by eq_refl)) (ri_G1 (i := 12) (by eq_refl) (by eq_refl)) (by eq_refl) (by eq_refl) (ri_G7 (i := 164) (by eq_refl) (by eq_refl)) (ri_G7 (i := 165) (by eq_refl) (by eq_refl)) (q := (RX11, TX11, 39)) (by eq_refl) (by eq_refl)
theorem ri_o264 : ri_on 11 = (ri_y 264).cls := by eq_refl
theorem ri_d264_4 : ri_nd (ri_y 264) 4 = true := ri_nd_of ri_o264 ri_oq11 (by eq_refl)
set_option maxRecDepth 100000 in
theorem ri_k264 : ri_mk 264 = true := ri_mk2 (ri_oqp ri_o264 ri_oq11) (ri_G7 (i := 170) (by eq_refl) (by eq_refl)) (ri_G1 (i := 12) (by eq_refl) (by eq_refl)) (by eq_refl) (by eq_refl) (ri_G7 (i := 168) (by eq_refl) (by eq_refl)) (ri_G7 (i := 169) (by eq_refl) (by eq_refl)) (q := (RX11, TX11, 39)) (by eq_refl) (by eq_refl)
theorem ri_o265 : ri_on 11 = (ri_y 265).cls := by eq_refl
theorem ri_d265_1 : ri_nd (ri_y 265) 1 = true := ri_nd_of ri_o265 ri_oq11 (by eq_refl)
set_option maxRecDepth 100000 in
theorem ri_k265 : ri_mk 265 = true := ri_mk2 (ri_oqp ri_o265 ri_oq11) (ri_G7 (i := 182) (by eq_refl) (by eq_refl)) (ri_G1 (i := 12) (by eq_refl) (by eq_refl)) (by eq_refl) (by eq_refl) (ri_G7 (i := 181) (by eq_refl) (by eq_refl)) (ri_G0 (by eq_refl)) (q := (RX11, TX11, 39)) (by eq_refl) (by eq_refl)
theorem ri_o266 : ri_on 11 = (ri_y 266).cls := by eq_refl
theorem ri_d266_1 : ri_nd (ri_y 266) 1 = true := ri_nd_of ri_o266 ri_oq11 (by eq_refl)
set_option maxRecDepth 100000 in
theorem ri_k266 : ri_mk 266 = true := ri_mk2 (ri_oqp ri_o266 ri_oq11) (ri_G7 (i := 186) (by eq_refl) (by eq_refl)) (ri_G1 (i := 12) (by eq_refl) (by eq_refl)) (by eq_refl) (by eq_refl) (ri_G7 (i := 185) (by eq_refl) (by eq_refl)) (ri_G0 (by eq_refl)) (q := (RX11, TX11, 39)) (by eq_refl) (by eq_refl)
theorem ri_o267 : ri_on 11 = (ri_y 267).cls := by eq_refl
theorem ri_d267_1 : ri_nd (ri_y 267) 1 = true := ri_nd_of ri_o267 ri_oq11 (by eq_refl)
set_option maxRecDepth 100000 in
theorem ri_k267 : ri_mk 267 = true := ri_mk2 (ri_oqp ri_o267 ri_oq11) (ri_G7 (i := 190) (by eq_refl) (by eq_refl)) (ri_G1 (i := 12) (by eq_refl) (by eq_refl)) (by eq_refl) (by eq_refl) (ri_G7 (i := 189) (by eq_refl) (by eq_refl)) (ri_G0 (by eq_refl)) (q := (RX11, TX11, 39)) (by eq_refl) (by eq_refl)
theorem ri_o268 : ri_on 11 = (ri_y 268).cls := by eq_refl
theorem ri_d268_1 : ri_nd (ri_y 268) 1 = true := ri_nd_of ri_o268 ri_oq11 (by eq_refl)
set_option maxRecDepth 100000 in
theorem ri_k268 : ri_mk 268 = true := ri_mk2 (ri_oqp ri_o268 ri_oq11) (ri_G7 (i := 194) (by eq_refl) (by eq_refl)) (ri_G1 (i := 12) (by eq_refl) (by eq_refl)) (by eq_refl) (by eq_refl) (ri_G7 (i := 193) (by eq_refl) (by eq_refl)) (ri_G0 (by eq_refl)) (q := (RX11, TX11, 39)) (by eq_refl) (by eq_refl)
theorem ri_o269 : ri_on 11 = (ri_y 269).cls := by eq_refl
theorem ri_d269_2 : ri_nd (ri_y 269) 2 = true := ri_nd_of ri_o269 ri_oq11 (by eq_refl)
set_option maxRecDepth 100000 in
theorem ri_k269 : ri_mk 269 = true := ri_mk2 (ri_oqp ri_o269 ri_oq11) (ri_G7 (i := 178) (by eq_refl) (by eq_refl)) (ri_G1 (i := 12) (by eq_refl) (by eq_refl)) (by eq_refl) (by eq_refl) (ri_G7 (i := 176) (by eq_refl) (by eq_refl)) (ri_G7 (i := 177) (by eq_refl) (by eq_refl)) (q := (RX11, TX11, 39)) (by eq_refl) (by eq_refl)
theorem ri_o270 : ri_on 11 = (ri_y 270).cls := by eq_refl
theorem ri_d270_5 : ri_nd (ri_y 270) 5 = true := ri_nd_of ri_o270 ri_oq11 (by eq_refl)
set_option maxRecDepth 100000 in
theorem ri_k270 : ri_mk 270 = true := ri_mk2 (ri_oqp ri_o270 ri_oq11) (ri_G7 (i := 198) (by eq_refl) (by eq_refl)) (ri_G1 (i := 12) (by eq_refl) (by eq_refl)) (by eq_refl) (by eq_refl) (ri_G7 (i := 196) (by eq_refl) (by eq_refl)) (ri_G7 (i := 197) (by eq_refl) (by eq_refl)) (q := (RX11, TX11, 39)) (by eq_refl) (by eq_refl)
theorem ri_o271 : ri_on 11 = (ri_y 271).cls := by eq_refl
theorem ri_d271_1 : ri_nd (ri_y 271) 1 = true := ri_nd_of ri_o271 ri_oq11 (by eq_refl)
set_option maxRecDepth 100000 in
theorem ri_k271 : ri_mk 271 = true := ri_mk2 (ri_oqp ri_o271 ri_oq11) (ri_G7 (i := 202) (by eq_refl) (by eq_refl)) (ri_G1 (i := 12) (by eq_refl) (by eq_refl)) (by eq_refl) (by eq_refl) (ri_G7 (i := 200) (by eq_refl) (by eq_refl)) (ri_G7 (i := 201) (by eq_refl) (by eq_refl)) (q := (RX11, TX11, 39)) (by eq_refl) (by eq_refl)
theorem ri_o272 : ri_on 11 = (ri_y 272).cls := by eq_refl
theorem ri_d272_1 : ri_nd (ri_y 272) 1 = true := ri_nd_of ri_o272 ri_oq11 (by eq_refl)
set_option maxRecDepth 100000 in
theorem ri_k272 : ri_mk 272 = true := ri_mk2 (ri_oqp ri_o272 ri_oq11) (ri_G7 (i := 206) (by eq_refl) (by eq_refl)) (ri_G1 (i := 12) (by eq_refl) (by eq_refl)) (by eq_refl) (by eq_refl) (ri_G7 (i := 204) (by eq_refl) (by eq_refl)) (ri_G7 (i := 205) (by eq_refl) (by eq_refl)) (q := (RX11, TX11, 39)) (by eq_refl) (by eq_refl)
theorem ri_o273 : ri_on 11 = (ri_y 273).cls := by eq_refl
theorem ri_d273_3 : ri_nd (ri_y 273) 3 = true := ri_nd_of ri_o273 ri_oq11 (by eq_refl)
set_option maxRecDepth 100000 in
theorem ri_k273 : ri_mk 273 = true := ri_mk2 (ri_oqp ri_o273 ri_oq11) (ri_G7 (i := 210) (by eq_refl) (by eq_refl)) (ri_G1 (i := 12) (by eq_refl) (by eq_refl)) (by eq_refl) (by eq_refl) (ri_G7 (i := 208) (by eq_refl) (by eq_refl)) (ri_G7 (i := 209) (by eq_refl) (by eq_refl)) (q := (RX11, TX11, 39)) (by eq_refl) (by eq_refl)
theorem ri_o274 : ri_on 11 = (ri_y 274).cls := by eq_refl
theorem ri_d274_1 : ri_nd (ri_y 274) 1 = true := ri_nd_of ri_o274 ri_oq11 (by eq_refl)
set_option maxRecDepth 100000 in
theorem ri_k274 : ri_mk 274 = true := ri_mk2 (ri_oqp ri_o274 ri_oq11) (ri_G7 (i := 219) (by eq_refl) (by eq_refl)) (ri_G1 (i := 12) (by eq_refl) (by eq_refl)) (by eq_refl) (by eq_refl) (ri_G7 (i := 217) (by eq_refl) (by eq_refl)) (ri_G7 (i := 218) (by eq_refl) (by eq_refl)) (q := (RX11, TX11, 39)) (by eq_refl) (by eq_refl)
theorem ri_o275 : ri_on 11 = (ri_y 275).cls := by eq_refl
theorem ri_d275_4 : ri_nd (ri_y 275) 4 = true := ri_nd_of ri_o275 ri_oq11 (by eq_refl)
set_option maxRecDepth 100000 in
theorem ri_k275 : ri_mk 275 = true := ri_mk2 (ri_oqp ri_o275 ri_oq11) (ri_G7 (i := 223) (by eq_refl) (by eq_refl)) (ri_G1 (i := 12) (by eq_refl) (by eq_refl)) (by eq_refl) (by eq_refl) (ri_G7 (i := 221) (by eq_refl) (by eq_refl)) (ri_G7 (i := 222) (by eq_refl) (by eq_refl)) (q := (RX11, TX11, 39)) (by eq_refl) (by eq_refl)
theorem ri_o276 : ri_on 11 = (ri_y 276).cls := by eq_refl
theorem ri_d276_1 : ri_nd (ri_y 276) 1 = true := ri_nd_of ri_o276 ri_oq11 (by eq_refl)
set_option maxRecDepth 100000 in
theorem ri_k276 : ri_mk 276 = true := ri_mk2 (ri_oqp ri_o276 ri_oq11) (ri_G7 (i := 227) (by eq_refl) (by eq_refl)) (ri_G1 (i := 12) (by eq_refl) (by eq_refl)) (by eq_refl) (by eq_refl) (ri_G7 (i := 225) (by eq_refl) (by eq_refl)) (ri_G7 (i := 226) (by eq_refl) (by eq_refl)) (q := (RX11, TX11, 39)) (by eq_refl) (by eq_refl)
theorem ri_o277 : ri_on 11 = (ri_y 277).cls := by eq_refl
theorem ri_d277_1 : ri_nd (ri_y 277) 1 = true := ri_nd_of ri_o277 ri_oq11 (by eq_refl)
set_option maxRecDepth 100000 in
theorem ri_k277 : ri_mk 277 = true := ri_mk2 (ri_oqp ri_o277 ri_oq11) (ri_G7 (i := 231) (by eq_refl) (by eq_refl)) (ri_G1 (i := 12) (by eq_refl) (by eq_refl)) (by eq_refl) (by eq_refl) (ri_G7 (i := 229) (by eq_refl) (by eq_refl)) (ri_G7 (i := 230) (by eq_refl) (by eq_refl)) (q := (RX11, TX11, 39)) (by eq_refl) (by eq_refl)
theorem ri_o278 : ri_on 11 = (ri_y 278).cls := by eq_refl
theorem ri_d278_1 : ri_nd (ri_y 278) 1 = true := ri_nd_of ri_o278 ri_oq11 (by eq_refl)
set_option maxRecDepth 100000 in
theorem ri_k278 : ri_mk 278 = true := ri_mk2 (ri_oqp ri_o278 ri_oq11) (ri_G7 (i := 236) (by eq_refl) (by eq_refl)) (ri_G1 (i := 12) (by eq_refl) (by eq_refl)) (by eq_refl) (by eq_refl) (ri_G7 (i := 234) (by eq_refl) (by eq_refl)) (ri_G7 (i := 235) (by eq_refl) (by eq_refl)) (q := (RX11, TX11, 39)) (by eq_refl) (by eq_refl)
theorem ri_o279 : ri_on 13 = (ri_y 279).cls := by eq_refl
theorem ri_d279_1 : ri_nd (ri_y 279) 1 = true := ri_nd_of ri_o279 ri_oq13 (by eq_refl)
set_option maxRecDepth 100000 in
theorem ri_k279 : ri_mk 279 = true := ri_mk0 (ri_oqp ri_o279 ri_oq13) (ri_G4 (i := 195) (by eq_refl) (by eq_refl)) (ri_G1 (i := 19) (by eq_refl) (by eq_refl)) (by eq_refl) (by eq_refl) (ri_G4 (i := 194) (by eq_refl) (by eq_refl))
theorem ri_o280 : ri_on 13 = (ri_y 280).cls := by eq_refl
theorem ri_d280_1 : ri_nd (ri_y 280) 1 = true := ri_nd_of ri_o280 ri_oq13 (by eq_refl)
set_option maxRecDepth 100000 in
theorem ri_k280 : ri_mk 280 = true := ri_mk0 (ri_oqp ri_o280 ri_oq13) (ri_G4 (i := 141) (by eq_refl) (by eq_refl)) (ri_G1 (i := 19) (by eq_refl) (by eq_refl)) (by eq_refl) (by eq_refl) (ri_G4 (i := 140) (by eq_refl) (by eq_refl))
