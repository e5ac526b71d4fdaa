section
set_option maxRecDepth 100000 in
theorem ri_l0_9 : ri_lqr 0 9 (some (0, 0, 0, 520)) = true := ri_lqf (m := 260) ri_vc0 (by eq_refl) (by eq_refl) (ri_G1 (i := 97) (by eq_refl) (by eq_refl))
set_option maxRecDepth 100000 in
theorem ri_l0_15 : ri_lqr 0 15 (some (0, 0, 1, 522)) = true := ri_lqf (m := 261) ri_vc0 (by eq_refl) (by eq_refl) (ri_G1 (i := 98) (by eq_refl) (by eq_refl))
set_option maxRecDepth 100000 in
theorem ri_l0_18 : ri_lqr 0 18 (some (0, 0, 2, 524)) = true := ri_lqf (m := 262) ri_vc0 (by eq_refl) (by eq_refl) (ri_G1 (i := 99) (by eq_refl) (by eq_refl))
set_option maxRecDepth 100000 in
theorem ri_l0_21 : ri_lqr 0 21 (some (1, 142, 2, 10577)) = true := ri_lqm (ri_lk_b (k := 661) (by eq_refl) ri_d142_2 (by eq_refl) (ri_G3 (i := 18) (by eq_refl) (by eq_refl)))
set_option maxRecDepth 100000 in
theorem ri_l0_25 : ri_lqr 0 25 (some (1, 7, 1, 10656)) = true := ri_lqm (ri_lk_a (k := 666) (by eq_refl) ri_d7_1 (by eq_refl) (ri_G3 (i := 23) (by eq_refl) (by eq_refl)))
set_option maxRecDepth 100000 in
theorem ri_l0_29 : ri_lqr 0 29 (some (1, 145, 2, 10673)) = true := ri_lqm (ri_lk_b (k := 667) (by eq_refl) ri_d145_2 (by eq_refl) (ri_G3 (i := 24) (by eq_refl) (by eq_refl)))
set_option maxRecDepth 100000 in
theorem ri_l0_33 : ri_lqr 0 33 (some (1, 144, 3, 10721)) = true := ri_lqm (ri_lk_b (k := 670) (by eq_refl) ri_d144_3 (by eq_refl) (ri_G3 (i := 27) (by eq_refl) (by eq_refl)))
set_option maxRecDepth 100000 in
theorem ri_l0_43 : ri_lqr 0 43 (some (1, 143, 2, 10337)) = true := ri_lqm (ri_lk_b (k := 646) (by eq_refl) ri_d143_2 (by eq_refl) (ri_G3 (i := 3) (by eq_refl) (by eq_refl)))
set_option maxRecDepth 100000 in
theorem ri_l0_47 : ri_lqr 0 47 (some (1, 11, 1, 16640)) = true := ri_lqm (ri_lk_a (k := 1040) (by eq_refl) ri_d11_1 (by eq_refl) (ri_G4 (i := 157) (by eq_refl) (by eq_refl)))
theorem ri_lf0 : ∀ i, ri_lqr 0 i (ri_lt0 i) = true := fun i => ri_bt (ri_bt (ri_bt (ri_bl ri_l0_9) (ri_bl ri_l0_15)) (ri_bt (ri_bl ri_l0_18) (ri_bl ri_l0_21))) (ri_bt (ri_bt (ri_bl ri_l0_25) (ri_bl ri_l0_29)) (ri_bt (ri_bl ri_l0_33) (ri_bt (ri_bl ri_l0_43) (ri_bl ri_l0_47))))
set_option maxRecDepth 100000 in
theorem ri_l1_9 : ri_lqr 1 9 (some (1, 1, 0, 9921)) = true := ri_lqm (ri_lk_b (k := 620) (by eq_refl) ri_d1_0 (by eq_refl) (ri_G2 (i := 217) (by eq_refl) (by eq_refl)))
set_option maxRecDepth 100000 in
theorem ri_l1_14 : ri_lqr 1 14 (some (0, 1, 0, 480)) = true := ri_lqf (m := 240) ri_vc1 (by eq_refl) (by eq_refl) (ri_G1 (i := 77) (by eq_refl) (by eq_refl))
set_option maxRecDepth 100000 in
theorem ri_l1_20 : ri_lqr 1 20 (some (1, 16, 2, 9984)) = true := ri_lqm (ri_lk_a (k := 624) (by eq_refl) ri_d16_2 (by eq_refl) (ri_G2 (i := 221) (by eq_refl) (by eq_refl)))
set_option maxRecDepth 100000 in
theorem ri_l1_24 : ri_lqr 1 24 (some (1, 99, 1, 10769)) = true := ri_lqm (ri_lk_b (k := 673) (by eq_refl) ri_d99_1 (by eq_refl) (ri_G3 (i := 30) (by eq_refl) (by eq_refl)))
set_option maxRecDepth 100000 in
theorem ri_l1_30 : ri_lqr 1 30 (some (1, 96, 0, 10049)) = true := ri_lqm (ri_lk_b (k := 628) (by eq_refl) ri_d96_0 (by eq_refl) (ri_G2 (i := 225) (by eq_refl) (by eq_refl)))
set_option maxRecDepth 100000 in
theorem ri_l1_34 : ri_lqr 1 34 (some (1, 5, 0, 10833)) = true := ri_lqm (ri_lk_b (k := 677) (by eq_refl) ri_d5_0 (by eq_refl) (ri_G3 (i := 34) (by eq_refl) (by eq_refl)))
set_option maxRecDepth 100000 in
theorem ri_l1_38 : ri_lqr 1 38 (some (1, 100, 1, 10209)) = true := ri_lqm (ri_lk_b (k := 638) (by eq_refl) ri_d100_1 (by eq_refl) (ri_G2 (i := 235) (by eq_refl) (by eq_refl)))
set_option maxRecDepth 100000 in
theorem ri_l1_42 : ri_lqr 1 42 (some (1, 17, 1, 10160)) = true := ri_lqm (ri_lk_a (k := 635) (by eq_refl) ri_d17_1 (by eq_refl) (ri_G2 (i := 232) (by eq_refl) (by eq_refl)))
set_option maxRecDepth 100000 in
theorem ri_l1_46 : ri_lqr 1 46 (some (1, 7, 1, 10273)) = true := ri_lqm (ri_lk_b (k := 642) (by eq_refl) ri_d7_1 (by eq_refl) (ri_G2 (i := 239) (by eq_refl) (by eq_refl)))
set_option maxRecDepth 100000 in
theorem ri_l1_49 : ri_lqr 1 49 (some (1, 98, 0, 10353)) = true := ri_lqm (ri_lk_b (k := 647) (by eq_refl) ri_d98_0 (by eq_refl) (ri_G3 (i := 4) (by eq_refl) (by eq_refl)))
set_option maxRecDepth 100000 in
theorem ri_l1_52 : ri_lqr 1 52 (some (1, 101, 2, 10417)) = true := ri_lqm (ri_lk_b (k := 651) (by eq_refl) ri_d101_2 (by eq_refl) (ri_G3 (i := 8) (by eq_refl) (by eq_refl)))
set_option maxRecDepth 100000 in
theorem ri_l1_56 : ri_lqr 1 56 (some (1, 2, 1, 10513)) = true := ri_lqm (ri_lk_b (k := 657) (by eq_refl) ri_d2_1 (by eq_refl) (ri_G3 (i := 14) (by eq_refl) (by eq_refl)))
set_option maxRecDepth 100000 in
theorem ri_l1_59 : ri_lqr 1 59 (some (1, 3, 3, 10593)) = true := ri_lqm (ri_lk_b (k := 662) (by eq_refl) ri_d3_3 (by eq_refl) (ri_G3 (i := 19) (by eq_refl) (by eq_refl)))
theorem ri_lf1 : ∀ i, ri_lqr 1 i (ri_lt1 i) = true := fun i => ri_bt (ri_bt (ri_bt (ri_bl ri_l1_9) (ri_bt (ri_bl ri_l1_14) (ri_bl ri_l1_20))) (ri_bt (ri_bl ri_l1_24) (ri_bt (ri_bl ri_l1_30) (ri_bl ri_l1_34)))) (ri_bt (ri_bt (ri_bl ri_l1_38) (ri_bt (ri_bl ri_l1_42) (ri_bl ri_l1_46))) (ri_bt (ri_bt (ri_bl ri_l1_49) (ri_bl ri_l1_52)) (ri_bt (ri_bl ri_l1_56) (ri_bl ri_l1_59))))
set_option maxRecDepth 100000 in
theorem ri_l2_11 : ri_lqr 2 11 (some (1, 0, 0, 4465)) = true := ri_lqm (ri_lk_b (k := 279) (by eq_refl) ri_d0_0 (by eq_refl) (ri_G1 (i := 116) (by eq_refl) (by eq_refl)))
set_option maxRecDepth 100000 in
theorem ri_l2_12 : ri_lqr 2 12 (some (0, 2, 0, 560)) = true := ri_lqf (m := 280) ri_vc2 (by eq_refl) (by eq_refl) (ri_G1 (i := 117) (by eq_refl) (by eq_refl))
set_option maxRecDepth 100000 in
theorem ri_l2_18 : ri_lqr 2 18 (some (0, 2, 1, 564)) = true := ri_lqf (m := 282) ri_vc2 (by eq_refl) (by eq_refl) (ri_G1 (i := 119) (by eq_refl) (by eq_refl))
set_option maxRecDepth 100000 in
theorem ri_l2_22 : ri_lqr 2 22 (some (0, 2, 2, 568)) = true := ri_lqf (m := 284) ri_vc2 (by eq_refl) (by eq_refl) (ri_G1 (i := 121) (by eq_refl) (by eq_refl))
set_option maxRecDepth 100000 in
theorem ri_l2_25 : ri_lqr 2 25 (some (0, 2, 3, 572)) = true := ri_lqf (m := 286) ri_vc2 (by eq_refl) (by eq_refl) (ri_G1 (i := 123) (by eq_refl) (by eq_refl))
set_option maxRecDepth 100000 in
theorem ri_l2_28 : ri_lqr 2 28 (some (0, 2, 4, 576)) = true := ri_lqf (m := 288) ri_vc2 (by eq_refl) (by eq_refl) (ri_G1 (i := 125) (by eq_refl) (by eq_refl))
set_option maxRecDepth 100000 in
theorem ri_l2_31 : ri_lqr 2 31 (some (0, 2, 5, 580)) = true := ri_lqf (m := 290) ri_vc2 (by eq_refl) (by eq_refl) (ri_G1 (i := 127) (by eq_refl) (by eq_refl))
set_option maxRecDepth 100000 in
theorem ri_l2_35 : ri_lqr 2 35 (some (0, 2, 7, 586)) = true := ri_lqf (m := 293) ri_vc2 (by eq_refl) (by eq_refl) (ri_G1 (i := 130) (by eq_refl) (by eq_refl))
set_option maxRecDepth 100000 in
theorem ri_l2_39 : ri_lqr 2 39 (some (0, 2, 8, 590)) = true := ri_lqf (m := 295) ri_vc2 (by eq_refl) (by eq_refl) (ri_G1 (i := 132) (by eq_refl) (by eq_refl))
set_option maxRecDepth 100000 in
theorem ri_l2_42 : ri_lqr 2 42 (some (0, 2, 9, 594)) = true := ri_lqf (m := 297) ri_vc2 (by eq_refl) (by eq_refl) (ri_G1 (i := 134) (by eq_refl) (by eq_refl))
set_option maxRecDepth 100000 in
theorem ri_l2_45 : ri_lqr 2 45 (some (1, 4, 1, 10961)) = true := ri_lqm (ri_lk_b (k := 685) (by eq_refl) ri_d4_1 (by eq_refl) (ri_G3 (i := 42) (by eq_refl) (by eq_refl)))
set_option maxRecDepth 100000 in
theorem ri_l2_49 : ri_lqr 2 49 (some (0, 2, 6, 582)) = true := ri_lqf (m := 291) ri_vc2 (by eq_refl) (by eq_refl) (ri_G1 (i := 128) (by eq_refl) (by eq_refl))
set_option maxRecDepth 100000 in
theorem ri_l2_52 : ri_lqr 2 52 (some (0, 2, 10, 598)) = true := ri_lqf (m := 299) ri_vc2 (by eq_refl) (by eq_refl) (ri_G1 (i := 136) (by eq_refl) (by eq_refl))
set_option maxRecDepth 100000 in
theorem ri_l2_61 : ri_lqr 2 61 (some (0, 2, 11, 602)) = true := ri_lqf (m := 301) ri_vc2 (by eq_refl) (by eq_refl) (ri_G1 (i := 138) (by eq_refl) (by eq_refl))
set_option maxRecDepth 100000 in
theorem ri_l2_64 : ri_lqr 2 64 (some (1, 143, 2, 13697)) = true := ri_lqm (ri_lk_b (k := 856) (by eq_refl) ri_d143_2 (by eq_refl) (ri_G3 (i := 213) (by eq_refl) (by eq_refl)))
set_option maxRecDepth 100000 in
theorem ri_l2_74 : ri_lqr 2 74 (some (1, 142, 2, 13825)) = true := ri_lqm (ri_lk_b (k := 864) (by eq_refl) ri_d142_2 (by eq_refl) (ri_G3 (i := 221) (by eq_refl) (by eq_refl)))
set_option maxRecDepth 100000 in
theorem ri_l2_78 : ri_lqr 2 78 (some (1, 23, 1, 14928)) = true := ri_lqm (ri_lk_a (k := 933) (by eq_refl) ri_d23_1 (by eq_refl) (ri_G4 (i := 50) (by eq_refl) (by eq_refl)))
set_option maxRecDepth 100000 in
theorem ri_l2_82 : ri_lqr 2 82 (some (1, 24, 1, 14944)) = true := ri_lqm (ri_lk_a (k := 934) (by eq_refl) ri_d24_1 (by eq_refl) (ri_G4 (i := 51) (by eq_refl) (by eq_refl)))
set_option maxRecDepth 100000 in
theorem ri_l2_85 : ri_lqr 2 85 (some (1, 26, 0, 19856)) = true := ri_lqm (ri_lk_a (k := 1241) (by eq_refl) ri_d26_0 (by eq_refl) (ri_G5 (i := 118) (by eq_refl) (by eq_refl)))
set_option maxRecDepth 100000 in
theorem ri_l2_89 : ri_lqr 2 89 (some (1, 27, 2, 19872)) = true := ri_lqm (ri_lk_a (k := 1242) (by eq_refl) ri_d27_2 (by eq_refl) (ri_G5 (i := 119) (by eq_refl) (by eq_refl)))
theorem ri_lf2 : ∀ i, ri_lqr 2 i (ri_lt2 i) = true := fun i => ri_bt (ri_bt (ri_bt (ri_bt (ri_bl ri_l2_11) (ri_bl ri_l2_12)) (ri_bt (ri_bl ri_l2_18) (ri_bt (ri_bl ri_l2_22) (ri_bl ri_l2_25)))) (ri_bt (ri_bt (ri_bl ri_l2_28) (ri_bl ri_l2_31)) (ri_bt (ri_bl ri_l2_35) (ri_bt (ri_bl ri_l2_39) (ri_bl ri_l2_42))))) (ri_bt (ri_bt (ri_bt (ri_bl ri_l2_45) (ri_bl ri_l2_49)) (ri_bt (ri_bl ri_l2_52) (ri_bt (ri_bl ri_l2_61) (ri_bl ri_l2_64)))) (ri_bt (ri_bt (ri_bl ri_l2_74) (ri_bl ri_l2_78)) (ri_bt (ri_bl ri_l2_82) (ri_bt (ri_bl ri_l2_85) (ri_bl ri_l2_89)))))
set_option maxRecDepth 100000 in
theorem ri_l3_9 : ri_lqr 3 9 (some (0, 3, 0, 786)) = true := ri_lqf (m := 393) ri_vc3 (by eq_refl) (by eq_refl) (ri_G1 (i := 230) (by eq_refl) (by eq_refl))
set_option maxRecDepth 100000 in
theorem ri_l3_15 : ri_lqr 3 15 (some (0, 3, 2, 792)) = true := ri_lqf (m := 396) ri_vc3 (by eq_refl) (by eq_refl) (ri_G1 (i := 233) (by eq_refl) (by eq_refl))
set_option maxRecDepth 100000 in
theorem ri_l3_18 : ri_lqr 3 18 (some (0, 3, 3, 794)) = true := ri_lqf (m := 397) ri_vc3 (by eq_refl) (by eq_refl) (ri_G1 (i := 234) (by eq_refl) (by eq_refl))
set_option maxRecDepth 100000 in
theorem ri_l3_21 : ri_lqr 3 21 (some (0, 3, 4, 796)) = true := ri_lqf (m := 398) ri_vc3 (by eq_refl) (by eq_refl) (ri_G1 (i := 235) (by eq_refl) (by eq_refl))
set_option maxRecDepth 100000 in
theorem ri_l3_24 : ri_lqr 3 24 (some (0, 3, 5, 798)) = true := ri_lqf (m := 399) ri_vc3 (by eq_refl) (by eq_refl) (ri_G1 (i := 236) (by eq_refl) (by eq_refl))
set_option maxRecDepth 100000 in
theorem ri_l3_27 : ri_lqr 3 27 (some (0, 3, 7, 804)) = true := ri_lqf (m := 402) ri_vc3 (by eq_refl) (by eq_refl) (ri_G1 (i := 239) (by eq_refl) (by eq_refl))
set_option maxRecDepth 100000 in
theorem ri_l3_31 : ri_lqr 3 31 (some (0, 3, 8, 806)) = true := ri_lqf (m := 403) ri_vc3 (by eq_refl) (by eq_refl) (ri_G2 (i := 0) (by eq_refl) (by eq_refl))
set_option maxRecDepth 100000 in
theorem ri_l3_34 : ri_lqr 3 34 (some (0, 3, 10, 810)) = true := ri_lqf (m := 405) ri_vc3 (by eq_refl) (by eq_refl) (ri_G2 (i := 2) (by eq_refl) (by eq_refl))
set_option maxRecDepth 100000 in
theorem ri_l3_37 : ri_lqr 3 37 (some (0, 3, 11, 812)) = true := ri_lqf (m := 406) ri_vc3 (by eq_refl) (by eq_refl) (ri_G2 (i := 3) (by eq_refl) (by eq_refl))
set_option maxRecDepth 100000 in
theorem ri_l3_40 : ri_lqr 3 40 (some (0, 3, 1, 788)) = true := ri_lqf (m := 394) ri_vc3 (by eq_refl) (by eq_refl) (ri_G1 (i := 231) (by eq_refl) (by eq_refl))
set_option maxRecDepth 100000 in
theorem ri_l3_44 : ri_lqr 3 44 (some (0, 3, 6, 800)) = true := ri_lqf (m := 400) ri_vc3 (by eq_refl) (by eq_refl) (ri_G1 (i := 237) (by eq_refl) (by eq_refl))
set_option maxRecDepth 100000 in
theorem ri_l3_47 : ri_lqr 3 47 (some (0, 3, 12, 814)) = true := ri_lqf (m := 407) ri_vc3 (by eq_refl) (by eq_refl) (ri_G2 (i := 4) (by eq_refl) (by eq_refl))
set_option maxRecDepth 100000 in
theorem ri_l3_51 : ri_lqr 3 51 (some (1, 142, 2, 12145)) = true := ri_lqm (ri_lk_b (k := 759) (by eq_refl) ri_d142_2 (by eq_refl) (ri_G3 (i := 116) (by eq_refl) (by eq_refl)))
set_option maxRecDepth 100000 in
theorem ri_l3_55 : ri_lqr 3 55 (some (1, 145, 2, 12993)) = true := ri_lqm (ri_lk_b (k := 812) (by eq_refl) ri_d145_2 (by eq_refl) (ri_G3 (i := 169) (by eq_refl) (by eq_refl)))
set_option maxRecDepth 100000 in
theorem ri_l3_59 : ri_lqr 3 59 (some (1, 35, 3, 12944)) = true := ri_lqm (ri_lk_a (k := 809) (by eq_refl) ri_d35_3 (by eq_refl) (ri_G3 (i := 166) (by eq_refl) (by eq_refl)))
set_option maxRecDepth 100000 in
theorem ri_l3_63 : ri_lqr 3 63 (some (1, 143, 2, 13137)) = true := ri_lqm (ri_lk_b (k := 821) (by eq_refl) ri_d143_2 (by eq_refl) (ri_G3 (i := 178) (by eq_refl) (by eq_refl)))
set_option maxRecDepth 100000 in
theorem ri_l3_67 : ri_lqr 3 67 (some (1, 39, 2, 12656)) = true := ri_lqm (ri_lk_a (k := 791) (by eq_refl) ri_d39_2 (by eq_refl) (ri_G3 (i := 148) (by eq_refl) (by eq_refl)))
set_option maxRecDepth 100000 in
theorem ri_l3_71 : ri_lqr 3 71 (some (1, 40, 2, 13392)) = true := ri_lqm (ri_lk_a (k := 837) (by eq_refl) ri_d40_2 (by eq_refl) (ri_G3 (i := 194) (by eq_refl) (by eq_refl)))
set_option maxRecDepth 100000 in
theorem ri_l3_74 : ri_lqr 3 74 (some (1, 7, 1, 12721)) = true := ri_lqm (ri_lk_b (k := 795) (by eq_refl) ri_d7_1 (by eq_refl) (ri_G3 (i := 152) (by eq_refl) (by eq_refl)))
set_option maxRecDepth 100000 in
theorem ri_l3_80 : ri_lqr 3 80 (some (1, 41, 4, 12736)) = true := ri_lqm (ri_lk_a (k := 796) (by eq_refl) ri_d41_4 (by eq_refl) (ri_G3 (i := 153) (by eq_refl) (by eq_refl)))
set_option maxRecDepth 100000 in
theorem ri_l3_84 : ri_lqr 3 84 (some (1, 44, 1, 13008)) = true := ri_lqm (ri_lk_a (k := 813) (by eq_refl) ri_d44_1 (by eq_refl) (ri_G3 (i := 170) (by eq_refl) (by eq_refl)))
set_option maxRecDepth 100000 in
theorem ri_l3_88 : ri_lqr 3 88 (some (1, 36, 3, 13456)) = true := ri_lqm (ri_lk_a (k := 841) (by eq_refl) ri_d36_3 (by eq_refl) (ri_G3 (i := 198) (by eq_refl) (by eq_refl)))
set_option maxRecDepth 100000 in
theorem ri_l3_92 : ri_lqr 3 92 (some (1, 144, 3, 13521)) = true := ri_lqm (ri_lk_b (k := 845) (by eq_refl) ri_d144_3 (by eq_refl) (ri_G3 (i := 202) (by eq_refl) (by eq_refl)))
set_option maxRecDepth 100000 in
theorem ri_l3_96 : ri_lqr 3 96 (some (1, 9, 2, 12801)) = true := ri_lqm (ri_lk_b (k := 800) (by eq_refl) ri_d9_2 (by eq_refl) (ri_G3 (i := 157) (by eq_refl) (by eq_refl)))
set_option maxRecDepth 100000 in
theorem ri_l3_104 : ri_lqr 3 104 (some (1, 10, 2, 12865)) = true := ri_lqm (ri_lk_b (k := 804) (by eq_refl) ri_d10_2 (by eq_refl) (ri_G3 (i := 161) (by eq_refl) (by eq_refl)))
set_option maxRecDepth 100000 in
theorem ri_l3_107 : ri_lqr 3 107 (some (1, 42, 2, 12880)) = true := ri_lqm (ri_lk_a (k := 805) (by eq_refl) ri_d42_2 (by eq_refl) (ri_G3 (i := 162) (by eq_refl) (by eq_refl)))
set_option maxRecDepth 100000 in
theorem ri_l3_111 : ri_lqr 3 111 (some (1, 45, 2, 13072)) = true := ri_lqm (ri_lk_a (k := 817) (by eq_refl) ri_d45_2 (by eq_refl) (ri_G3 (i := 174) (by eq_refl) (by eq_refl)))
set_option maxRecDepth 100000 in
theorem ri_l3_115 : ri_lqr 3 115 (some (1, 43, 1, 13216)) = true := ri_lqm (ri_lk_a (k := 826) (by eq_refl) ri_d43_1 (by eq_refl) (ri_G3 (i := 183) (by eq_refl) (by eq_refl)))
set_option maxRecDepth 100000 in
theorem ri_l3_118 : ri_lqr 3 118 (some (0, 3, 9, 808)) = true := ri_lqf (m := 404) ri_vc3 (by eq_refl) (by eq_refl) (ri_G2 (i := 1) (by eq_refl) (by eq_refl))
set_option maxRecDepth 100000 in
theorem ri_l3_121 : ri_lqr 3 121 (some (1, 46, 1, 13152)) = true := ri_lqm (ri_lk_a (k := 822) (by eq_refl) ri_d46_1 (by eq_refl) (ri_G3 (i := 179) (by eq_refl) (by eq_refl)))
set_option maxRecDepth 100000 in
theorem ri_l3_125 : ri_lqr 3 125 (some (1, 47, 0, 13280)) = true := ri_lqm (ri_lk_a (k := 830) (by eq_refl) ri_d47_0 (by eq_refl) (ri_G3 (i := 187) (by eq_refl) (by eq_refl)))
set_option maxRecDepth 100000 in
theorem ri_l3_129 : ri_lqr 3 129 (some (1, 48, 3, 13344)) = true := ri_lqm (ri_lk_a (k := 834) (by eq_refl) ri_d48_3 (by eq_refl) (ri_G3 (i := 191) (by eq_refl) (by eq_refl)))
theorem ri_lf3 : ∀ i, ri_lqr 3 i (ri_lt3 i) = true := fun i => ri_bt (ri_bt (ri_bt (ri_bt (ri_bt (ri_bl ri_l3_9) (ri_bl ri_l3_15)) (ri_bt (ri_bl ri_l3_18) (ri_bl ri_l3_21))) (ri_bt (ri_bt (ri_bl ri_l3_24) (ri_bl ri_l3_27)) (ri_bt (ri_bl ri_l3_31) (ri_bl ri_l3_34)))) (ri_bt (ri_bt (ri_bt (ri_bl ri_l3_37) (ri_bl ri_l3_40)) (ri_bt (ri_bl ri_l3_44) (ri_bl ri_l3_47))) (ri_bt (ri_bt (ri_bl ri_l3_51) (ri_bl ri_l3_55)) (ri_bt (ri_bl ri_l3_59) (ri_bl ri_l3_63))))) (ri_bt (ri_bt (ri_bt (ri_bt (ri_bl ri_l3_67) (ri_bl ri_l3_71)) (ri_bt (ri_bl ri_l3_74) (ri_bl ri_l3_80))) (ri_bt (ri_bt (ri_bl ri_l3_84) (ri_bl ri_l3_88)) (ri_bt (ri_bl ri_l3_92) (ri_bl ri_l3_96)))) (ri_bt (ri_bt (ri_bt (ri_bl ri_l3_104) (ri_bl ri_l3_107)) (ri_bt (ri_bl ri_l3_111) (ri_bl ri_l3_115))) (ri_bt (ri_bt (ri_bl ri_l3_118) (ri_bl ri_l3_121)) (ri_bt (ri_bl ri_l3_125) (ri_bl ri_l3_129)))))
set_option maxRecDepth 100000 in
theorem ri_l4_9 : ri_lqr 4 9 (some (0, 4, 0, 500)) = true := ri_lqf (m := 250) ri_vc4 (by eq_refl) (by eq_refl) (ri_G1 (i := 87) (by eq_refl) (by eq_refl))
set_option maxRecDepth 100000 in
theorem ri_l4_15 : ri_lqr 4 15 (some (1, 32, 0, 11489)) = true := ri_lqm (ri_lk_b (k := 718) (by eq_refl) ri_d32_0 (by eq_refl) (ri_G3 (i := 75) (by eq_refl) (by eq_refl)))
set_option maxRecDepth 100000 in
theorem ri_l4_20 : ri_lqr 4 20 (some (1, 96, 0, 11553)) = true := ri_lqm (ri_lk_b (k := 722) (by eq_refl) ri_d96_0 (by eq_refl) (ri_G3 (i := 79) (by eq_refl) (by eq_refl)))
set_option maxRecDepth 100000 in
theorem ri_l4_26 : ri_lqr 4 26 (some (1, 51, 1, 11568)) = true := ri_lqm (ri_lk_a (k := 723) (by eq_refl) ri_d51_1 (by eq_refl) (ri_G3 (i := 80) (by eq_refl) (by eq_refl)))
set_option maxRecDepth 100000 in
theorem ri_l4_30 : ri_lqr 4 30 (some (1, 100, 1, 11617)) = true := ri_lqm (ri_lk_b (k := 726) (by eq_refl) ri_d100_1 (by eq_refl) (ri_G3 (i := 83) (by eq_refl) (by eq_refl)))
set_option maxRecDepth 100000 in
theorem ri_l4_34 : ri_lqr 4 34 (some (0, 3, 6, 803)) = true := ri_lqg (m := 401) ri_vc3 (by eq_refl) (by eq_refl) (ri_G1 (i := 238) (by eq_refl) (by eq_refl))
set_option maxRecDepth 100000 in
theorem ri_l4_37 : ri_lqr 4 37 (some (1, 98, 0, 11633)) = true := ri_lqm (ri_lk_b (k := 727) (by eq_refl) ri_d98_0 (by eq_refl) (ri_G3 (i := 84) (by eq_refl) (by eq_refl)))
set_option maxRecDepth 100000 in
theorem ri_l4_40 : ri_lqr 4 40 (some (0, 3, 1, 791)) = true := ri_lqg (m := 395) ri_vc3 (by eq_refl) (by eq_refl) (ri_G1 (i := 232) (by eq_refl) (by eq_refl))
set_option maxRecDepth 100000 in
theorem ri_l4_43 : ri_lqr 4 43 (some (1, 54, 2, 11648)) = true := ri_lqm (ri_lk_a (k := 728) (by eq_refl) ri_d54_2 (by eq_refl) (ri_G3 (i := 85) (by eq_refl) (by eq_refl)))
set_option maxRecDepth 100000 in
theorem ri_l4_47 : ri_lqr 4 47 (some (1, 99, 1, 11937)) = true := ri_lqm (ri_lk_b (k := 746) (by eq_refl) ri_d99_1 (by eq_refl) (ri_G3 (i := 103) (by eq_refl) (by eq_refl)))
set_option maxRecDepth 100000 in
theorem ri_l4_51 : ri_lqr 4 51 (some (1, 52, 3, 11952)) = true := ri_lqm (ri_lk_a (k := 747) (by eq_refl) ri_d52_3 (by eq_refl) (ri_G3 (i := 104) (by eq_refl) (by eq_refl)))
set_option maxRecDepth 100000 in
theorem ri_l4_55 : ri_lqr 4 55 (some (1, 34, 3, 12081)) = true := ri_lqm (ri_lk_b (k := 755) (by eq_refl) ri_d34_3 (by eq_refl) (ri_G3 (i := 112) (by eq_refl) (by eq_refl)))
set_option maxRecDepth 100000 in
theorem ri_l4_59 : ri_lqr 4 59 (some (1, 53, 3, 12016)) = true := ri_lqm (ri_lk_a (k := 751) (by eq_refl) ri_d53_3 (by eq_refl) (ri_G3 (i := 108) (by eq_refl) (by eq_refl)))
set_option maxRecDepth 100000 in
theorem ri_l4_62 : ri_lqr 4 62 (some (1, 33, 1, 11873)) = true := ri_lqm (ri_lk_b (k := 742) (by eq_refl) ri_d33_1 (by eq_refl) (ri_G3 (i := 99) (by eq_refl) (by eq_refl)))
set_option maxRecDepth 100000 in
theorem ri_l4_65 : ri_lqr 4 65 (some (1, 55, 2, 11712)) = true := ri_lqm (ri_lk_a (k := 732) (by eq_refl) ri_d55_2 (by eq_refl) (ri_G3 (i := 89) (by eq_refl) (by eq_refl)))
set_option maxRecDepth 100000 in
theorem ri_l4_68 : ri_lqr 4 68 (some (1, 97, 0, 11777)) = true := ri_lqm (ri_lk_b (k := 736) (by eq_refl) ri_d97_0 (by eq_refl) (ri_G3 (i := 93) (by eq_refl) (by eq_refl)))
set_option maxRecDepth 100000 in
theorem ri_l4_72 : ri_lqr 4 72 (some (1, 142, 2, 11857)) = true := ri_lqm (ri_lk_b (k := 741) (by eq_refl) ri_d142_2 (by eq_refl) (ri_G3 (i := 98) (by eq_refl) (by eq_refl)))
theorem ri_lf4 : ∀ i, ri_lqr 4 i (ri_lt4 i) = true := fun i => ri_bt (ri_bt (ri_bt (ri_bt (ri_bl ri_l4_9) (ri_bl ri_l4_15)) (ri_bt (ri_bl ri_l4_20) (ri_bl ri_l4_26))) (ri_bt (ri_bt (ri_bl ri_l4_30) (ri_bl ri_l4_34)) (ri_bt (ri_bl ri_l4_37) (ri_bl ri_l4_40)))) (ri_bt (ri_bt (ri_bt (ri_bl ri_l4_43) (ri_bl ri_l4_47)) (ri_bt (ri_bl ri_l4_51) (ri_bl ri_l4_55))) (ri_bt (ri_bt (ri_bl ri_l4_59) (ri_bl ri_l4_62)) (ri_bt (ri_bl ri_l4_65) (ri_bt (ri_bl ri_l4_68) (ri_bl ri_l4_72)))))
set_option maxRecDepth 100000 in
theorem ri_l5_9 : ri_lqr 5 9 (some (0, 5, 0, 672)) = true := ri_lqf (m := 336) ri_vc5 (by eq_refl) (by eq_refl) (ri_G1 (i := 173) (by eq_refl) (by eq_refl))
set_option maxRecDepth 100000 in
theorem ri_l5_15 : ri_lqr 5 15 (some (0, 5, 1, 678)) = true := ri_lqf (m := 339) ri_vc5 (by eq_refl) (by eq_refl) (ri_G1 (i := 176) (by eq_refl) (by eq_refl))
set_option maxRecDepth 100000 in
theorem ri_l5_18 : ri_lqr 5 18 (some (0, 5, 2, 680)) = true := ri_lqf (m := 340) ri_vc5 (by eq_refl) (by eq_refl) (ri_G1 (i := 177) (by eq_refl) (by eq_refl))
set_option maxRecDepth 100000 in
theorem ri_l5_21 : ri_lqr 5 21 (some (0, 5, 3, 682)) = true := ri_lqf (m := 341) ri_vc5 (by eq_refl) (by eq_refl) (ri_G1 (i := 178) (by eq_refl) (by eq_refl))
set_option maxRecDepth 100000 in
theorem ri_l5_25 : ri_lqr 5 25 (some (1, 7, 1, 11201)) = true := ri_lqm (ri_lk_b (k := 700) (by eq_refl) ri_d7_1 (by eq_refl) (ri_G3 (i := 57) (by eq_refl) (by eq_refl)))
set_option maxRecDepth 100000 in
theorem ri_l5_31 : ri_lqr 5 31 (some (1, 58, 3, 11216)) = true := ri_lqm (ri_lk_a (k := 701) (by eq_refl) ri_d58_3 (by eq_refl) (ri_G3 (i := 58) (by eq_refl) (by eq_refl)))
set_option maxRecDepth 100000 in
theorem ri_l5_35 : ri_lqr 5 35 (some (1, 142, 2, 11281)) = true := ri_lqm (ri_lk_b (k := 705) (by eq_refl) ri_d142_2 (by eq_refl) (ri_G3 (i := 62) (by eq_refl) (by eq_refl)))
set_option maxRecDepth 100000 in
theorem ri_l5_39 : ri_lqr 5 39 (some (1, 143, 2, 17665)) = true := ri_lqm (ri_lk_b (k := 1104) (by eq_refl) ri_d143_2 (by eq_refl) (ri_G4 (i := 221) (by eq_refl) (by eq_refl)))
set_option maxRecDepth 100000 in
theorem ri_l5_43 : ri_lqr 5 43 (some (1, 37, 3, 17745)) = true := ri_lqm (ri_lk_b (k := 1109) (by eq_refl) ri_d37_3 (by eq_refl) (ri_G4 (i := 226) (by eq_refl) (by eq_refl)))
set_option maxRecDepth 100000 in
theorem ri_l5_49 : ri_lqr 5 49 (some (1, 59, 2, 17680)) = true := ri_lqm (ri_lk_a (k := 1105) (by eq_refl) ri_d59_2 (by eq_refl) (ri_G4 (i := 222) (by eq_refl) (by eq_refl)))
set_option maxRecDepth 100000 in
theorem ri_l5_53 : ri_lqr 5 53 (some (1, 78, 2, 17761)) = true := ri_lqm (ri_lk_b (k := 1110) (by eq_refl) ri_d78_2 (by eq_refl) (ri_G4 (i := 227) (by eq_refl) (by eq_refl)))
set_option maxRecDepth 100000 in
theorem ri_l5_59 : ri_lqr 5 59 (some (1, 60, 2, 17840)) = true := ri_lqm (ri_lk_a (k := 1115) (by eq_refl) ri_d60_2 (by eq_refl) (ri_G4 (i := 232) (by eq_refl) (by eq_refl)))
set_option maxRecDepth 100000 in
theorem ri_l5_62 : ri_lqr 5 62 (some (1, 61, 3, 18080)) = true := ri_lqm (ri_lk_a (k := 1130) (by eq_refl) ri_d61_3 (by eq_refl) (ri_G5 (i := 7) (by eq_refl) (by eq_refl)))
set_option maxRecDepth 100000 in
theorem ri_l5_66 : ri_lqr 5 66 (some (1, 62, 3, 18096)) = true := ri_lqm (ri_lk_a (k := 1131) (by eq_refl) ri_d62_3 (by eq_refl) (ri_G5 (i := 8) (by eq_refl) (by eq_refl)))
set_option maxRecDepth 100000 in
theorem ri_l5_74 : ri_lqr 5 74 (some (1, 13, 2, 18897)) = true := ri_lqm (ri_lk_b (k := 1181) (by eq_refl) ri_d13_2 (by eq_refl) (ri_G5 (i := 58) (by eq_refl) (by eq_refl)))
set_option maxRecDepth 100000 in
theorem ri_l5_77 : ri_lqr 5 77 (some (1, 64, 4, 18832)) = true := ri_lqm (ri_lk_a (k := 1177) (by eq_refl) ri_d64_4 (by eq_refl) (ri_G5 (i := 54) (by eq_refl) (by eq_refl)))
theorem ri_lf5 : ∀ i, ri_lqr 5 i (ri_lt5 i) = true := fun i => ri_bt (ri_bt (ri_bt (ri_bt (ri_bl ri_l5_9) (ri_bl ri_l5_15)) (ri_bt (ri_bl ri_l5_18) (ri_bl ri_l5_21))) (ri_bt (ri_bt (ri_bl ri_l5_25) (ri_bl ri_l5_31)) (ri_bt (ri_bl ri_l5_35) (ri_bl ri_l5_39)))) (ri_bt (ri_bt (ri_bt (ri_bl ri_l5_43) (ri_bl ri_l5_49)) (ri_bt (ri_bl ri_l5_53) (ri_bl ri_l5_59))) (ri_bt (ri_bt (ri_bl ri_l5_62) (ri_bl ri_l5_66)) (ri_bt (ri_bl ri_l5_74) (ri_bl ri_l5_77))))
set_option maxRecDepth 100000 in
theorem ri_l6_9 : ri_lqr 6 9 (some (0, 6, 0, 744)) = true := ri_lqf (m := 372) ri_vc6 (by eq_refl) (by eq_refl) (ri_G1 (i := 209) (by eq_refl) (by eq_refl))
set_option maxRecDepth 100000 in
theorem ri_l6_15 : ri_lqr 6 15 (some (0, 6, 1, 746)) = true := ri_lqf (m := 373) ri_vc6 (by eq_refl) (by eq_refl) (ri_G1 (i := 210) (by eq_refl) (by eq_refl))
set_option maxRecDepth 100000 in
theorem ri_l6_18 : ri_lqr 6 18 (some (0, 6, 2, 748)) = true := ri_lqf (m := 374) ri_vc6 (by eq_refl) (by eq_refl) (ri_G1 (i := 211) (by eq_refl) (by eq_refl))
set_option maxRecDepth 100000 in
theorem ri_l6_21 : ri_lqr 6 21 (some (1, 158, 1, 18385)) = true := ri_lqm (ri_lk_b (k := 1149) (by eq_refl) ri_d158_1 (by eq_refl) (ri_G5 (i := 26) (by eq_refl) (by eq_refl)))
set_option maxRecDepth 100000 in
theorem ri_l6_31 : ri_lqr 6 31 (some (0, 6, 3, 750)) = true := ri_lqf (m := 375) ri_vc6 (by eq_refl) (by eq_refl) (ri_G1 (i := 212) (by eq_refl) (by eq_refl))
set_option maxRecDepth 100000 in
theorem ri_l6_35 : ri_lqr 6 35 (some (0, 6, 4, 752)) = true := ri_lqf (m := 376) ri_vc6 (by eq_refl) (by eq_refl) (ri_G1 (i := 213) (by eq_refl) (by eq_refl))
set_option maxRecDepth 100000 in
theorem ri_l6_38 : ri_lqr 6 38 (some (0, 5, 0, 675)) = true := ri_lqg (m := 337) ri_vc5 (by eq_refl) (by eq_refl) (ri_G1 (i := 174) (by eq_refl) (by eq_refl))
set_option maxRecDepth 100000 in
theorem ri_l6_43 : ri_lqr 6 43 (some (1, 143, 2, 18481)) = true := ri_lqm (ri_lk_b (k := 1155) (by eq_refl) ri_d143_2 (by eq_refl) (ri_G5 (i := 32) (by eq_refl) (by eq_refl)))
set_option maxRecDepth 100000 in
theorem ri_l6_47 : ri_lqr 6 47 (some (1, 13, 2, 18497)) = true := ri_lqm (ri_lk_b (k := 1156) (by eq_refl) ri_d13_2 (by eq_refl) (ri_G5 (i := 33) (by eq_refl) (by eq_refl)))
set_option maxRecDepth 100000 in
theorem ri_l6_52 : ri_lqr 6 52 (some (1, 59, 2, 18513)) = true := ri_lqm (ri_lk_b (k := 1157) (by eq_refl) ri_d59_2 (by eq_refl) (ri_G5 (i := 34) (by eq_refl) (by eq_refl)))
set_option maxRecDepth 100000 in
theorem ri_l6_56 : ri_lqr 6 56 (some (1, 60, 2, 18529)) = true := ri_lqm (ri_lk_b (k := 1158) (by eq_refl) ri_d60_2 (by eq_refl) (ri_G5 (i := 35) (by eq_refl) (by eq_refl)))
set_option maxRecDepth 100000 in
theorem ri_l6_59 : ri_lqr 6 59 (some (1, 72, 1, 18608)) = true := ri_lqm (ri_lk_a (k := 1163) (by eq_refl) ri_d72_1 (by eq_refl) (ri_G5 (i := 40) (by eq_refl) (by eq_refl)))
set_option maxRecDepth 100000 in
theorem ri_l6_63 : ri_lqr 6 63 (some (1, 280, 1, 18672)) = true := ri_lqm (ri_lk_a (k := 1167) (by eq_refl) ri_d280_1 (by eq_refl) (ri_G5 (i := 44) (by eq_refl) (by eq_refl)))
theorem ri_lf6 : ∀ i, ri_lqr 6 i (ri_lt6 i) = true := fun i => ri_bt (ri_bt (ri_bt (ri_bl ri_l6_9) (ri_bt (ri_bl ri_l6_15) (ri_bl ri_l6_18))) (ri_bt (ri_bl ri_l6_21) (ri_bt (ri_bl ri_l6_31) (ri_bl ri_l6_35)))) (ri_bt (ri_bt (ri_bl ri_l6_38) (ri_bt (ri_bl ri_l6_43) (ri_bl ri_l6_47))) (ri_bt (ri_bt (ri_bl ri_l6_52) (ri_bl ri_l6_56)) (ri_bt (ri_bl ri_l6_59) (ri_bl ri_l6_63))))
set_option maxRecDepth 100000 in
theorem ri_l7_9 : ri_lqr 7 9 (some (0, 7, 0, 716)) = true := ri_lqf (m := 358) ri_vc7 (by eq_refl) (by eq_refl) (ri_G1 (i := 195) (by eq_refl) (by eq_refl))
set_option maxRecDepth 100000 in
theorem ri_l7_15 : ri_lqr 7 15 (some (1, 158, 1, 15313)) = true := ri_lqm (ri_lk_b (k := 957) (by eq_refl) ri_d158_1 (by eq_refl) (ri_G4 (i := 74) (by eq_refl) (by eq_refl)))
set_option maxRecDepth 100000 in
theorem ri_l7_19 : ri_lqr 7 19 (some (0, 7, 1, 718)) = true := ri_lqf (m := 359) ri_vc7 (by eq_refl) (by eq_refl) (ri_G1 (i := 196) (by eq_refl) (by eq_refl))
set_option maxRecDepth 100000 in
theorem ri_l7_23 : ri_lqr 7 23 (some (1, 145, 2, 15393)) = true := ri_lqm (ri_lk_b (k := 962) (by eq_refl) ri_d145_2 (by eq_refl) (ri_G4 (i := 79) (by eq_refl) (by eq_refl)))
set_option maxRecDepth 100000 in
theorem ri_l7_27 : ri_lqr 7 27 (some (1, 76, 1, 15408)) = true := ri_lqm (ri_lk_a (k := 963) (by eq_refl) ri_d76_1 (by eq_refl) (ri_G4 (i := 80) (by eq_refl) (by eq_refl)))
set_option maxRecDepth 100000 in
theorem ri_l7_31 : ri_lqr 7 31 (some (1, 143, 2, 15473)) = true := ri_lqm (ri_lk_b (k := 967) (by eq_refl) ri_d143_2 (by eq_refl) (ri_G4 (i := 84) (by eq_refl) (by eq_refl)))
set_option maxRecDepth 100000 in
theorem ri_l7_35 : ri_lqr 7 35 (some (1, 144, 3, 15489)) = true := ri_lqm (ri_lk_b (k := 968) (by eq_refl) ri_d144_3 (by eq_refl) (ri_G4 (i := 85) (by eq_refl) (by eq_refl)))
set_option maxRecDepth 100000 in
theorem ri_l7_39 : ri_lqr 7 39 (some (1, 77, 2, 15888)) = true := ri_lqm (ri_lk_a (k := 993) (by eq_refl) ri_d77_2 (by eq_refl) (ri_G4 (i := 110) (by eq_refl) (by eq_refl)))
set_option maxRecDepth 100000 in
theorem ri_l7_42 : ri_lqr 7 42 (some (1, 280, 1, 19280)) = true := ri_lqm (ri_lk_a (k := 1205) (by eq_refl) ri_d280_1 (by eq_refl) (ri_G5 (i := 82) (by eq_refl) (by eq_refl)))
set_option maxRecDepth 100000 in
theorem ri_l7_48 : ri_lqr 7 48 (some (1, 79, 1, 19440)) = true := ri_lqm (ri_lk_a (k := 1215) (by eq_refl) ri_d79_1 (by eq_refl) (ri_G5 (i := 92) (by eq_refl) (by eq_refl)))
set_option maxRecDepth 100000 in
theorem ri_l7_51 : ri_lqr 7 51 (some (1, 80, 1, 19456)) = true := ri_lqm (ri_lk_a (k := 1216) (by eq_refl) ri_d80_1 (by eq_refl) (ri_G5 (i := 93) (by eq_refl) (by eq_refl)))
theorem ri_lf7 : ∀ i, ri_lqr 7 i (ri_lt7 i) = true := fun i => ri_bt (ri_bt (ri_bt (ri_bl ri_l7_9) (ri_bl ri_l7_15)) (ri_bt (ri_bl ri_l7_19) (ri_bt (ri_bl ri_l7_23) (ri_bl ri_l7_27)))) (ri_bt (ri_bt (ri_bl ri_l7_31) (ri_bt (ri_bl ri_l7_35) (ri_bl ri_l7_39))) (ri_bt (ri_bl ri_l7_42) (ri_bt (ri_bl ri_l7_48) (ri_bl ri_l7_51))))
set_option maxRecDepth 100000 in
theorem ri_l8_9 : ri_lqr 8 9 (some (0, 8, 0, 394)) = true := ri_lqf (m := 197) ri_vc8 (by eq_refl) (by eq_refl) (ri_G1 (i := 34) (by eq_refl) (by eq_refl))
set_option maxRecDepth 100000 in
theorem ri_l8_15 : ri_lqr 8 15 (some (0, 8, 1, 398)) = true := ri_lqf (m := 199) ri_vc8 (by eq_refl) (by eq_refl) (ri_G1 (i := 36) (by eq_refl) (by eq_refl))
set_option maxRecDepth 100000 in
theorem ri_l8_19 : ri_lqr 8 19 (some (1, 142, 2, 8001)) = true := ri_lqm (ri_lk_b (k := 500) (by eq_refl) ri_d142_2 (by eq_refl) (ri_G2 (i := 97) (by eq_refl) (by eq_refl)))
set_option maxRecDepth 100000 in
theorem ri_l8_23 : ri_lqr 8 23 (some (1, 84, 1, 8432)) = true := ri_lqm (ri_lk_a (k := 527) (by eq_refl) ri_d84_1 (by eq_refl) (ri_G2 (i := 124) (by eq_refl) (by eq_refl)))
theorem ri_lf8 : ∀ i, ri_lqr 8 i (ri_lt8 i) = true := fun i => ri_bt (ri_bt (ri_bl ri_l8_9) (ri_bl ri_l8_15)) (ri_bt (ri_bl ri_l8_19) (ri_bl ri_l8_23))
set_option maxRecDepth 100000 in
theorem ri_l9_9 : ri_lqr 9 9 (some (0, 9, 0, 426)) = true := ri_lqf (m := 213) ri_vc9 (by eq_refl) (by eq_refl) (ri_G1 (i := 50) (by eq_refl) (by eq_refl))
set_option maxRecDepth 100000 in
theorem ri_l9_15 : ri_lqr 9 15 (some (0, 9, 1, 428)) = true := ri_lqf (m := 214) ri_vc9 (by eq_refl) (by eq_refl) (ri_G1 (i := 51) (by eq_refl) (by eq_refl))
set_option maxRecDepth 100000 in
theorem ri_l9_18 : ri_lqr 9 18 (some (0, 9, 2, 430)) = true := ri_lqf (m := 215) ri_vc9 (by eq_refl) (by eq_refl) (ri_G1 (i := 52) (by eq_refl) (by eq_refl))
set_option maxRecDepth 100000 in
theorem ri_l9_21 : ri_lqr 9 21 (some (0, 9, 3, 432)) = true := ri_lqf (m := 216) ri_vc9 (by eq_refl) (by eq_refl) (ri_G1 (i := 53) (by eq_refl) (by eq_refl))
set_option maxRecDepth 100000 in
theorem ri_l9_25 : ri_lqr 9 25 (some (0, 9, 4, 434)) = true := ri_lqf (m := 217) ri_vc9 (by eq_refl) (by eq_refl) (ri_G1 (i := 54) (by eq_refl) (by eq_refl))
set_option maxRecDepth 100000 in
theorem ri_l9_28 : ri_lqr 9 28 (some (0, 9, 5, 436)) = true := ri_lqf (m := 218) ri_vc9 (by eq_refl) (by eq_refl) (ri_G1 (i := 55) (by eq_refl) (by eq_refl))
set_option maxRecDepth 100000 in
theorem ri_l9_31 : ri_lqr 9 31 (some (0, 8, 1, 401)) = true := ri_lqg (m := 200) ri_vc8 (by eq_refl) (by eq_refl) (ri_G1 (i := 37) (by eq_refl) (by eq_refl))
set_option maxRecDepth 100000 in
theorem ri_l9_34 : ri_lqr 9 34 (some (1, 90, 2, 8240)) = true := ri_lqm (ri_lk_a (k := 515) (by eq_refl) ri_d90_2 (by eq_refl) (ri_G2 (i := 112) (by eq_refl) (by eq_refl)))
set_option maxRecDepth 100000 in
theorem ri_l9_38 : ri_lqr 9 38 (some (1, 89, 3, 9680)) = true := ri_lqm (ri_lk_a (k := 605) (by eq_refl) ri_d89_3 (by eq_refl) (ri_G2 (i := 202) (by eq_refl) (by eq_refl)))
set_option maxRecDepth 100000 in
theorem ri_l9_42 : ri_lqr 9 42 (some (1, 142, 2, 9745)) = true := ri_lqm (ri_lk_b (k := 609) (by eq_refl) ri_d142_2 (by eq_refl) (ri_G2 (i := 206) (by eq_refl) (by eq_refl)))
set_option maxRecDepth 100000 in
theorem ri_l9_46 : ri_lqr 9 46 (some (1, 84, 1, 8305)) = true := ri_lqm (ri_lk_b (k := 519) (by eq_refl) ri_d84_1 (by eq_refl) (ri_G2 (i := 116) (by eq_refl) (by eq_refl)))
set_option maxRecDepth 100000 in
theorem ri_l9_50 : ri_lqr 9 50 (some (1, 85, 3, 8369)) = true := ri_lqm (ri_lk_b (k := 523) (by eq_refl) ri_d85_3 (by eq_refl) (ri_G2 (i := 120) (by eq_refl) (by eq_refl)))
set_option maxRecDepth 100000 in
theorem ri_l9_54 : ri_lqr 9 54 (some (1, 91, 4, 8448)) = true := ri_lqm (ri_lk_a (k := 528) (by eq_refl) ri_d91_4 (by eq_refl) (ri_G2 (i := 125) (by eq_refl) (by eq_refl)))
set_option maxRecDepth 100000 in
theorem ri_l9_58 : ri_lqr 9 58 (some (1, 94, 3, 8496)) = true := ri_lqm (ri_lk_a (k := 531) (by eq_refl) ri_d94_3 (by eq_refl) (ri_G2 (i := 128) (by eq_refl) (by eq_refl)))
set_option maxRecDepth 100000 in
theorem ri_l9_62 : ri_lqr 9 62 (some (1, 92, 3, 9760)) = true := ri_lqm (ri_lk_a (k := 610) (by eq_refl) ri_d92_3 (by eq_refl) (ri_G2 (i := 207) (by eq_refl) (by eq_refl)))
set_option maxRecDepth 100000 in
theorem ri_l9_65 : ri_lqr 9 65 (some (1, 93, 2, 9808)) = true := ri_lqm (ri_lk_a (k := 613) (by eq_refl) ri_d93_2 (by eq_refl) (ri_G2 (i := 210) (by eq_refl) (by eq_refl)))
set_option maxRecDepth 100000 in
theorem ri_l9_71 : ri_lqr 9 71 (some (1, 86, 3, 8561)) = true := ri_lqm (ri_lk_b (k := 535) (by eq_refl) ri_d86_3 (by eq_refl) (ri_G2 (i := 132) (by eq_refl) (by eq_refl)))
set_option maxRecDepth 100000 in
theorem ri_l9_89 : ri_lqr 9 89 (some (1, 95, 3, 9504)) = true := ri_lqm (ri_lk_a (k := 594) (by eq_refl) ri_d95_3 (by eq_refl) (ri_G2 (i := 191) (by eq_refl) (by eq_refl)))
set_option maxRecDepth 100000 in
theorem ri_l9_108 : ri_lqr 9 108 (some (1, 143, 2, 10113)) = true := ri_lqm (ri_lk_b (k := 632) (by eq_refl) ri_d143_2 (by eq_refl) (ri_G2 (i := 229) (by eq_refl) (by eq_refl)))
set_option maxRecDepth 100000 in
theorem ri_l9_112 : ri_lqr 9 112 (some (1, 98, 0, 10496)) = true := ri_lqm (ri_lk_a (k := 656) (by eq_refl) ri_d98_0 (by eq_refl) (ri_G3 (i := 13) (by eq_refl) (by eq_refl)))
set_option maxRecDepth 100000 in
theorem ri_l9_115 : ri_lqr 9 115 (some (1, 100, 1, 10480)) = true := ri_lqm (ri_lk_a (k := 655) (by eq_refl) ri_d100_1 (by eq_refl) (ri_G3 (i := 12) (by eq_refl) (by eq_refl)))
theorem ri_lf9 : ∀ i, ri_lqr 9 i (ri_lt9 i) = true := fun i => ri_bt (ri_bt (ri_bt (ri_bt (ri_bl ri_l9_9) (ri_bl ri_l9_15)) (ri_bt (ri_bl ri_l9_18) (ri_bt (ri_bl ri_l9_21) (ri_bl ri_l9_25)))) (ri_bt (ri_bt (ri_bl ri_l9_28) (ri_bl ri_l9_31)) (ri_bt (ri_bl ri_l9_34) (ri_bt (ri_bl ri_l9_38) (ri_bl ri_l9_42))))) (ri_bt (ri_bt (ri_bt (ri_bl ri_l9_46) (ri_bl ri_l9_50)) (ri_bt (ri_bl ri_l9_54) (ri_bt (ri_bl ri_l9_58) (ri_bl ri_l9_62)))) (ri_bt (ri_bt (ri_bl ri_l9_65) (ri_bt (ri_bl ri_l9_71) (ri_bl ri_l9_89))) (ri_bt (ri_bl ri_l9_108) (ri_bt (ri_bl ri_l9_112) (ri_bl ri_l9_115)))))
set_option maxRecDepth 100000 in
theorem ri_l10_11 : ri_lqr 10 11 (some (1, 82, 0, 3089)) = true := ri_lqm (ri_lk_b (k := 193) (by eq_refl) ri_d82_0 (by eq_refl) (ri_G1 (i := 30) (by eq_refl) (by eq_refl)))
set_option maxRecDepth 100000 in
theorem ri_l10_12 : ri_lqr 10 12 (some (0, 10, 0, 874)) = true := ri_lqf (m := 437) ri_vc10 (by eq_refl) (by eq_refl) (ri_G2 (i := 34) (by eq_refl) (by eq_refl))
set_option maxRecDepth 100000 in
theorem ri_l10_18 : ri_lqr 10 18 (some (1, 87, 0, 3345)) = true := ri_lqm (ri_lk_b (k := 209) (by eq_refl) ri_d87_0 (by eq_refl) (ri_G1 (i := 46) (by eq_refl) (by eq_refl)))
set_option maxRecDepth 100000 in
theorem ri_l10_19 : ri_lqr 10 19 (some (0, 10, 1, 876)) = true := ri_lqf (m := 438) ri_vc10 (by eq_refl) (by eq_refl) (ri_G2 (i := 35) (by eq_refl) (by eq_refl))
set_option maxRecDepth 100000 in
theorem ri_l10_25 : ri_lqr 10 25 (some (1, 14, 0, 3777)) = true := ri_lqm (ri_lk_b (k := 236) (by eq_refl) ri_d14_0 (by eq_refl) (ri_G1 (i := 73) (by eq_refl) (by eq_refl)))
set_option maxRecDepth 100000 in
theorem ri_l10_26 : ri_lqr 10 26 (some (0, 10, 2, 878)) = true := ri_lqf (m := 439) ri_vc10 (by eq_refl) (by eq_refl) (ri_G2 (i := 36) (by eq_refl) (by eq_refl))
set_option maxRecDepth 100000 in
theorem ri_l10_32 : ri_lqr 10 32 (some (1, 49, 0, 3937)) = true := ri_lqm (ri_lk_b (k := 246) (by eq_refl) ri_d49_0 (by eq_refl) (ri_G1 (i := 83) (by eq_refl) (by eq_refl)))
set_option maxRecDepth 100000 in
theorem ri_l10_33 : ri_lqr 10 33 (some (0, 10, 3, 880)) = true := ri_lqf (m := 440) ri_vc10 (by eq_refl) (by eq_refl) (ri_G2 (i := 37) (by eq_refl) (by eq_refl))
set_option maxRecDepth 100000 in
theorem ri_l10_39 : ri_lqr 10 39 (some (1, 0, 0, 4097)) = true := ri_lqm (ri_lk_b (k := 256) (by eq_refl) ri_d0_0 (by eq_refl) (ri_G1 (i := 93) (by eq_refl) (by eq_refl)))
set_option maxRecDepth 100000 in
theorem ri_l10_40 : ri_lqr 10 40 (some (0, 10, 4, 882)) = true := ri_lqf (m := 441) ri_vc10 (by eq_refl) (by eq_refl) (ri_G2 (i := 38) (by eq_refl) (by eq_refl))
set_option maxRecDepth 100000 in
theorem ri_l10_46 : ri_lqr 10 46 (some (0, 10, 5, 884)) = true := ri_lqf (m := 442) ri_vc10 (by eq_refl) (by eq_refl) (ri_G2 (i := 39) (by eq_refl) (by eq_refl))
set_option maxRecDepth 100000 in
theorem ri_l10_52 : ri_lqr 10 52 (some (1, 18, 0, 4385)) = true := ri_lqm (ri_lk_b (k := 274) (by eq_refl) ri_d18_0 (by eq_refl) (ri_G1 (i := 111) (by eq_refl) (by eq_refl)))
set_option maxRecDepth 100000 in
theorem ri_l10_53 : ri_lqr 10 53 (some (0, 10, 7, 888)) = true := ri_lqf (m := 444) ri_vc10 (by eq_refl) (by eq_refl) (ri_G2 (i := 41) (by eq_refl) (by eq_refl))
set_option maxRecDepth 100000 in
theorem ri_l10_57 : ri_lqr 10 57 (some (0, 10, 8, 890)) = true := ri_lqf (m := 445) ri_vc10 (by eq_refl) (by eq_refl) (ri_G2 (i := 42) (by eq_refl) (by eq_refl))
set_option maxRecDepth 100000 in
theorem ri_l10_61 : ri_lqr 10 61 (some (0, 10, 9, 892)) = true := ri_lqf (m := 446) ri_vc10 (by eq_refl) (by eq_refl) (ri_G2 (i := 43) (by eq_refl) (by eq_refl))
set_option maxRecDepth 100000 in
theorem ri_l10_67 : ri_lqr 10 67 (some (1, 56, 0, 5313)) = true := ri_lqm (ri_lk_b (k := 332) (by eq_refl) ri_d56_0 (by eq_refl) (ri_G1 (i := 169) (by eq_refl) (by eq_refl)))
set_option maxRecDepth 100000 in
theorem ri_l10_68 : ri_lqr 10 68 (some (0, 10, 10, 894)) = true := ri_lqf (m := 447) ri_vc10 (by eq_refl) (by eq_refl) (ri_G2 (i := 44) (by eq_refl) (by eq_refl))
set_option maxRecDepth 100000 in
theorem ri_l10_72 : ri_lqr 10 72 (some (0, 10, 11, 896)) = true := ri_lqf (m := 448) ri_vc10 (by eq_refl) (by eq_refl) (ri_G2 (i := 45) (by eq_refl) (by eq_refl))
set_option maxRecDepth 100000 in
theorem ri_l10_76 : ri_lqr 10 76 (some (0, 10, 12, 898)) = true := ri_lqf (m := 449) ri_vc10 (by eq_refl) (by eq_refl) (ri_G2 (i := 46) (by eq_refl) (by eq_refl))
set_option maxRecDepth 100000 in
theorem ri_l10_79 : ri_lqr 10 79 (some (0, 10, 13, 900)) = true := ri_lqf (m := 450) ri_vc10 (by eq_refl) (by eq_refl) (ri_G2 (i := 47) (by eq_refl) (by eq_refl))
set_option maxRecDepth 100000 in
theorem ri_l10_84 : ri_lqr 10 84 (some (1, 73, 0, 5665)) = true := ri_lqm (ri_lk_b (k := 354) (by eq_refl) ri_d73_0 (by eq_refl) (ri_G1 (i := 191) (by eq_refl) (by eq_refl)))
set_option maxRecDepth 100000 in
theorem ri_l10_85 : ri_lqr 10 85 (some (0, 10, 14, 902)) = true := ri_lqf (m := 451) ri_vc10 (by eq_refl) (by eq_refl) (ri_G2 (i := 48) (by eq_refl) (by eq_refl))
set_option maxRecDepth 100000 in
theorem ri_l10_89 : ri_lqr 10 89 (some (0, 10, 15, 904)) = true := ri_lqf (m := 452) ri_vc10 (by eq_refl) (by eq_refl) (ri_G2 (i := 49) (by eq_refl) (by eq_refl))
set_option maxRecDepth 100000 in
theorem ri_l10_92 : ri_lqr 10 92 (some (0, 10, 16, 906)) = true := ri_lqf (m := 453) ri_vc10 (by eq_refl) (by eq_refl) (ri_G2 (i := 50) (by eq_refl) (by eq_refl))
set_option maxRecDepth 100000 in
theorem ri_l10_97 : ri_lqr 10 97 (some (1, 68, 0, 5889)) = true := ri_lqm (ri_lk_b (k := 368) (by eq_refl) ri_d68_0 (by eq_refl) (ri_G1 (i := 205) (by eq_refl) (by eq_refl)))
set_option maxRecDepth 100000 in
theorem ri_l10_98 : ri_lqr 10 98 (some (0, 10, 17, 908)) = true := ri_lqf (m := 454) ri_vc10 (by eq_refl) (by eq_refl) (ri_G2 (i := 51) (by eq_refl) (by eq_refl))
set_option maxRecDepth 100000 in
theorem ri_l10_102 : ri_lqr 10 102 (some (1, 31, 0, 6225)) = true := ri_lqm (ri_lk_b (k := 389) (by eq_refl) ri_d31_0 (by eq_refl) (ri_G1 (i := 226) (by eq_refl) (by eq_refl)))
set_option maxRecDepth 100000 in
theorem ri_l10_103 : ri_lqr 10 103 (some (0, 8, 1, 397)) = true := ri_lqg (m := 198) ri_vc8 (by eq_refl) (by eq_refl) (ri_G1 (i := 35) (by eq_refl) (by eq_refl))
set_option maxRecDepth 100000 in
theorem ri_l10_107 : ri_lqr 10 107 (some (1, 83, 1, 7937)) = true := ri_lqm (ri_lk_b (k := 496) (by eq_refl) ri_d83_1 (by eq_refl) (ri_G2 (i := 93) (by eq_refl) (by eq_refl)))
set_option maxRecDepth 100000 in
theorem ri_l10_111 : ri_lqr 10 111 (some (1, 88, 1, 8177)) = true := ri_lqm (ri_lk_b (k := 511) (by eq_refl) ri_d88_1 (by eq_refl) (ri_G2 (i := 108) (by eq_refl) (by eq_refl)))
set_option maxRecDepth 100000 in
theorem ri_l10_115 : ri_lqr 10 115 (some (1, 15, 2, 9857)) = true := ri_lqm (ri_lk_b (k := 616) (by eq_refl) ri_d15_2 (by eq_refl) (ri_G2 (i := 213) (by eq_refl) (by eq_refl)))
set_option maxRecDepth 100000 in
theorem ri_l10_119 : ri_lqr 10 119 (some (0, 9, 5, 439)) = true := ri_lqg (m := 219) ri_vc9 (by eq_refl) (by eq_refl) (ri_G1 (i := 56) (by eq_refl) (by eq_refl))
set_option maxRecDepth 100000 in
theorem ri_l10_122 : ri_lqr 10 122 (some (1, 19, 1, 10897)) = true := ri_lqm (ri_lk_b (k := 681) (by eq_refl) ri_d19_1 (by eq_refl) (ri_G3 (i := 38) (by eq_refl) (by eq_refl)))
set_option maxRecDepth 100000 in
theorem ri_l10_126 : ri_lqr 10 126 (some (1, 149, 0, 11072)) = true := ri_lqm (ri_lk_a (k := 692) (by eq_refl) ri_d149_0 (by eq_refl) (ri_G3 (i := 49) (by eq_refl) (by eq_refl)))
set_option maxRecDepth 100000 in
theorem ri_l10_129 : ri_lqr 10 129 (some (0, 2, 0, 563)) = true := ri_lqg (m := 281) ri_vc2 (by eq_refl) (by eq_refl) (ri_G1 (i := 118) (by eq_refl) (by eq_refl))
set_option maxRecDepth 100000 in
theorem ri_l10_132 : ri_lqr 10 132 (some (1, 6, 0, 11297)) = true := ri_lqm (ri_lk_b (k := 706) (by eq_refl) ri_d6_0 (by eq_refl) (ri_G3 (i := 63) (by eq_refl) (by eq_refl)))
set_option maxRecDepth 100000 in
theorem ri_l10_136 : ri_lqr 10 136 (some (0, 10, 6, 886)) = true := ri_lqf (m := 443) ri_vc10 (by eq_refl) (by eq_refl) (ri_G2 (i := 40) (by eq_refl) (by eq_refl))
set_option maxRecDepth 100000 in
theorem ri_l10_139 : ri_lqr 10 139 (some (1, 50, 2, 11425)) = true := ri_lqm (ri_lk_b (k := 714) (by eq_refl) ri_d50_2 (by eq_refl) (ri_G3 (i := 71) (by eq_refl) (by eq_refl)))
set_option maxRecDepth 100000 in
theorem ri_l10_142 : ri_lqr 10 142 (some (1, 142, 2, 12224)) = true := ri_lqm (ri_lk_a (k := 764) (by eq_refl) ri_d142_2 (by eq_refl) (ri_G3 (i := 121) (by eq_refl) (by eq_refl)))
set_option maxRecDepth 100000 in
theorem ri_l10_146 : ri_lqr 10 146 (some (1, 5, 0, 12241)) = true := ri_lqm (ri_lk_b (k := 765) (by eq_refl) ri_d5_0 (by eq_refl) (ri_G3 (i := 122) (by eq_refl) (by eq_refl)))
set_option maxRecDepth 100000 in
theorem ri_l10_150 : ri_lqr 10 150 (some (1, 7, 1, 12257)) = true := ri_lqm (ri_lk_b (k := 766) (by eq_refl) ri_d7_1 (by eq_refl) (ri_G3 (i := 123) (by eq_refl) (by eq_refl)))
set_option maxRecDepth 100000 in
theorem ri_l10_154 : ri_lqr 10 154 (some (1, 8, 2, 12273)) = true := ri_lqm (ri_lk_b (k := 767) (by eq_refl) ri_d8_2 (by eq_refl) (ri_G3 (i := 124) (by eq_refl) (by eq_refl)))
set_option maxRecDepth 100000 in
theorem ri_l10_157 : ri_lqr 10 157 (some (1, 9, 2, 12337)) = true := ri_lqm (ri_lk_b (k := 771) (by eq_refl) ri_d9_2 (by eq_refl) (ri_G3 (i := 128) (by eq_refl) (by eq_refl)))
set_option maxRecDepth 100000 in
theorem ri_l10_161 : ri_lqr 10 161 (some (1, 10, 2, 12401)) = true := ri_lqm (ri_lk_b (k := 775) (by eq_refl) ri_d10_2 (by eq_refl) (ri_G3 (i := 132) (by eq_refl) (by eq_refl)))
set_option maxRecDepth 100000 in
theorem ri_l10_164 : ri_lqr 10 164 (some (1, 150, 1, 12528)) = true := ri_lqm (ri_lk_a (k := 783) (by eq_refl) ri_d150_1 (by eq_refl) (ri_G3 (i := 140) (by eq_refl) (by eq_refl)))
set_option maxRecDepth 100000 in
theorem ri_l10_170 : ri_lqr 10 170 (some (1, 36, 3, 13553)) = true := ri_lqm (ri_lk_b (k := 847) (by eq_refl) ri_d36_3 (by eq_refl) (ri_G3 (i := 204) (by eq_refl) (by eq_refl)))
set_option maxRecDepth 100000 in
theorem ri_l10_174 : ri_lqr 10 174 (some (1, 21, 1, 13633)) = true := ri_lqm (ri_lk_b (k := 852) (by eq_refl) ri_d21_1 (by eq_refl) (ri_G3 (i := 209) (by eq_refl) (by eq_refl)))
set_option maxRecDepth 100000 in
theorem ri_l10_177 : ri_lqr 10 177 (some (1, 22, 4, 13761)) = true := ri_lqm (ri_lk_b (k := 860) (by eq_refl) ri_d22_4 (by eq_refl) (ri_G3 (i := 217) (by eq_refl) (by eq_refl)))
set_option maxRecDepth 100000 in
theorem ri_l10_181 : ri_lqr 10 181 (some (1, 23, 1, 13905)) = true := ri_lqm (ri_lk_b (k := 869) (by eq_refl) ri_d23_1 (by eq_refl) (ri_G3 (i := 226) (by eq_refl) (by eq_refl)))
set_option maxRecDepth 100000 in
theorem ri_l10_185 : ri_lqr 10 185 (some (0, 2, 1, 567)) = true := ri_lqg (m := 283) ri_vc2 (by eq_refl) (by eq_refl) (ri_G1 (i := 120) (by eq_refl) (by eq_refl))
set_option maxRecDepth 100000 in
theorem ri_l10_188 : ri_lqr 10 188 (some (1, 143, 2, 13968)) = true := ri_lqm (ri_lk_a (k := 873) (by eq_refl) ri_d143_2 (by eq_refl) (ri_G3 (i := 230) (by eq_refl) (by eq_refl)))
set_option maxRecDepth 100000 in
theorem ri_l10_192 : ri_lqr 10 192 (some (0, 2, 2, 571)) = true := ri_lqg (m := 285) ri_vc2 (by eq_refl) (by eq_refl) (ri_G1 (i := 122) (by eq_refl) (by eq_refl))
set_option maxRecDepth 100000 in
theorem ri_l10_195 : ri_lqr 10 195 (some (0, 2, 3, 575)) = true := ri_lqg (m := 287) ri_vc2 (by eq_refl) (by eq_refl) (ri_G1 (i := 124) (by eq_refl) (by eq_refl))
set_option maxRecDepth 100000 in
theorem ri_l10_198 : ri_lqr 10 198 (some (0, 2, 4, 579)) = true := ri_lqg (m := 289) ri_vc2 (by eq_refl) (by eq_refl) (ri_G1 (i := 126) (by eq_refl) (by eq_refl))
set_option maxRecDepth 100000 in
theorem ri_l10_201 : ri_lqr 10 201 (some (1, 24, 1, 13985)) = true := ri_lqm (ri_lk_b (k := 874) (by eq_refl) ri_d24_1 (by eq_refl) (ri_G3 (i := 231) (by eq_refl) (by eq_refl)))
set_option maxRecDepth 100000 in
theorem ri_l10_204 : ri_lqr 10 204 (some (1, 25, 2, 14113)) = true := ri_lqm (ri_lk_b (k := 882) (by eq_refl) ri_d25_2 (by eq_refl) (ri_G3 (i := 239) (by eq_refl) (by eq_refl)))
set_option maxRecDepth 100000 in
theorem ri_l10_208 : ri_lqr 10 208 (some (0, 2, 7, 589)) = true := ri_lqg (m := 294) ri_vc2 (by eq_refl) (by eq_refl) (ri_G1 (i := 131) (by eq_refl) (by eq_refl))
set_option maxRecDepth 100000 in
theorem ri_l10_211 : ri_lqr 10 211 (some (1, 154, 3, 14368)) = true := ri_lqm (ri_lk_a (k := 898) (by eq_refl) ri_d154_3 (by eq_refl) (ri_G4 (i := 15) (by eq_refl) (by eq_refl)))
set_option maxRecDepth 100000 in
theorem ri_l10_215 : ri_lqr 10 215 (some (1, 26, 0, 14689)) = true := ri_lqm (ri_lk_b (k := 918) (by eq_refl) ri_d26_0 (by eq_refl) (ri_G4 (i := 35) (by eq_refl) (by eq_refl)))
set_option maxRecDepth 100000 in
theorem ri_l10_218 : ri_lqr 10 218 (some (1, 156, 4, 14752)) = true := ri_lqm (ri_lk_a (k := 922) (by eq_refl) ri_d156_4 (by eq_refl) (ri_G4 (i := 39) (by eq_refl) (by eq_refl)))
set_option maxRecDepth 100000 in
theorem ri_l10_222 : ri_lqr 10 222 (some (1, 151, 2, 15120)) = true := ri_lqm (ri_lk_a (k := 945) (by eq_refl) ri_d151_2 (by eq_refl) (ri_G4 (i := 62) (by eq_refl) (by eq_refl)))
set_option maxRecDepth 100000 in
theorem ri_l10_226 : ri_lqr 10 226 (some (0, 7, 1, 721)) = true := ri_lqg (m := 360) ri_vc7 (by eq_refl) (by eq_refl) (ri_G1 (i := 197) (by eq_refl) (by eq_refl))
set_option maxRecDepth 100000 in
theorem ri_l10_229 : ri_lqr 10 229 (some (1, 77, 2, 15633)) = true := ri_lqm (ri_lk_b (k := 977) (by eq_refl) ri_d77_2 (by eq_refl) (ri_G4 (i := 94) (by eq_refl) (by eq_refl)))
set_option maxRecDepth 100000 in
theorem ri_l10_232 : ri_lqr 10 232 (some (1, 11, 1, 15761)) = true := ri_lqm (ri_lk_b (k := 985) (by eq_refl) ri_d11_1 (by eq_refl) (ri_G4 (i := 102) (by eq_refl) (by eq_refl)))
set_option maxRecDepth 100000 in
theorem ri_l10_235 : ri_lqr 10 235 (some (1, 79, 1, 15825)) = true := ri_lqm (ri_lk_b (k := 989) (by eq_refl) ri_d79_1 (by eq_refl) (ri_G4 (i := 106) (by eq_refl) (by eq_refl)))
set_option maxRecDepth 100000 in
theorem ri_l10_238 : ri_lqr 10 238 (some (1, 161, 1, 15968)) = true := ri_lqm (ri_lk_a (k := 998) (by eq_refl) ri_d161_1 (by eq_refl) (ri_G4 (i := 115) (by eq_refl) (by eq_refl)))
set_option maxRecDepth 100000 in
theorem ri_l10_242 : ri_lqr 10 242 (some (1, 160, 1, 16032)) = true := ri_lqm (ri_lk_a (k := 1002) (by eq_refl) ri_d160_1 (by eq_refl) (ri_G4 (i := 119) (by eq_refl) (by eq_refl)))
set_option maxRecDepth 100000 in
theorem ri_l10_247 : ri_lqr 10 247 (some (1, 27, 2, 14865)) = true := ri_lqm (ri_lk_b (k := 929) (by eq_refl) ri_d27_2 (by eq_refl) (ri_G4 (i := 46) (by eq_refl) (by eq_refl)))
set_option maxRecDepth 100000 in
theorem ri_l10_250 : ri_lqr 10 250 (some (1, 162, 1, 16240)) = true := ri_lqm (ri_lk_a (k := 1015) (by eq_refl) ri_d162_1 (by eq_refl) (ri_G4 (i := 132) (by eq_refl) (by eq_refl)))
set_option maxRecDepth 100000 in
theorem ri_l10_254 : ri_lqr 10 254 (some (1, 13, 2, 14433)) = true := ri_lqm (ri_lk_b (k := 902) (by eq_refl) ri_d13_2 (by eq_refl) (ri_G4 (i := 19) (by eq_refl) (by eq_refl)))
set_option maxRecDepth 100000 in
theorem ri_l10_257 : ri_lqr 10 257 (some (1, 145, 2, 15024)) = true := ri_lqm (ri_lk_a (k := 939) (by eq_refl) ri_d145_2 (by eq_refl) (ri_G4 (i := 56) (by eq_refl) (by eq_refl)))
set_option maxRecDepth 100000 in
theorem ri_l10_260 : ri_lqr 10 260 (some (1, 146, 2, 16304)) = true := ri_lqm (ri_lk_a (k := 1019) (by eq_refl) ri_d146_2 (by eq_refl) (ri_G4 (i := 136) (by eq_refl) (by eq_refl)))
set_option maxRecDepth 100000 in
theorem ri_l10_263 : ri_lqr 10 263 (some (1, 153, 2, 16512)) = true := ri_lqm (ri_lk_a (k := 1032) (by eq_refl) ri_d153_2 (by eq_refl) (ri_G4 (i := 149) (by eq_refl) (by eq_refl)))
set_option maxRecDepth 100000 in
theorem ri_l10_267 : ri_lqr 10 267 (some (1, 155, 1, 16656)) = true := ri_lqm (ri_lk_a (k := 1041) (by eq_refl) ri_d155_1 (by eq_refl) (ri_G4 (i := 158) (by eq_refl) (by eq_refl)))
set_option maxRecDepth 100000 in
theorem ri_l10_270 : ri_lqr 10 270 (some (1, 163, 1, 16768)) = true := ri_lqm (ri_lk_a (k := 1048) (by eq_refl) ri_d163_1 (by eq_refl) (ri_G4 (i := 165) (by eq_refl) (by eq_refl)))
set_option maxRecDepth 100000 in
theorem ri_l10_273 : ri_lqr 10 273 (some (1, 280, 1, 16352)) = true := ri_lqm (ri_lk_a (k := 1022) (by eq_refl) ri_d280_1 (by eq_refl) (ri_G4 (i := 139) (by eq_refl) (by eq_refl)))
set_option maxRecDepth 100000 in
theorem ri_l10_278 : ri_lqr 10 278 (some (1, 164, 3, 16832)) = true := ri_lqm (ri_lk_a (k := 1052) (by eq_refl) ri_d164_3 (by eq_refl) (ri_G4 (i := 169) (by eq_refl) (by eq_refl)))
set_option maxRecDepth 100000 in
theorem ri_l10_282 : ri_lqr 10 282 (some (1, 165, 2, 16960)) = true := ri_lqm (ri_lk_a (k := 1060) (by eq_refl) ri_d165_2 (by eq_refl) (ri_G4 (i := 177) (by eq_refl) (by eq_refl)))
set_option maxRecDepth 100000 in
theorem ri_l10_286 : ri_lqr 10 286 (some (1, 152, 2, 14496)) = true := ri_lqm (ri_lk_a (k := 906) (by eq_refl) ri_d152_2 (by eq_refl) (ri_G4 (i := 23) (by eq_refl) (by eq_refl)))
set_option maxRecDepth 100000 in
theorem ri_l10_289 : ri_lqr 10 289 (some (1, 78, 2, 17089)) = true := ri_lqm (ri_lk_b (k := 1068) (by eq_refl) ri_d78_2 (by eq_refl) (ri_G4 (i := 185) (by eq_refl) (by eq_refl)))
set_option maxRecDepth 100000 in
theorem ri_l10_292 : ri_lqr 10 292 (some (1, 279, 1, 17216)) = true := ri_lqm (ri_lk_a (k := 1076) (by eq_refl) ri_d279_1 (by eq_refl) (ri_G4 (i := 193) (by eq_refl) (by eq_refl)))
set_option maxRecDepth 100000 in
theorem ri_l10_295 : ri_lqr 10 295 (some (1, 159, 3, 15184)) = true := ri_lqm (ri_lk_a (k := 949) (by eq_refl) ri_d159_3 (by eq_refl) (ri_G4 (i := 66) (by eq_refl) (by eq_refl)))
set_option maxRecDepth 100000 in
theorem ri_l10_299 : ri_lqr 10 299 (some (1, 37, 3, 14561)) = true := ri_lqm (ri_lk_b (k := 910) (by eq_refl) ri_d37_3 (by eq_refl) (ri_G4 (i := 27) (by eq_refl) (by eq_refl)))
set_option maxRecDepth 100000 in
theorem ri_l10_303 : ri_lqr 10 303 (some (1, 166, 1, 17536)) = true := ri_lqm (ri_lk_a (k := 1096) (by eq_refl) ri_d166_1 (by eq_refl) (ri_G4 (i := 213) (by eq_refl) (by eq_refl)))
set_option maxRecDepth 100000 in
theorem ri_l10_306 : ri_lqr 10 306 (some (1, 148, 1, 17904)) = true := ri_lqm (ri_lk_a (k := 1119) (by eq_refl) ri_d148_1 (by eq_refl) (ri_G4 (i := 236) (by eq_refl) (by eq_refl)))
set_option maxRecDepth 100000 in
theorem ri_l10_309 : ri_lqr 10 309 (some (1, 66, 3, 18017)) = true := ri_lqm (ri_lk_b (k := 1126) (by eq_refl) ri_d66_3 (by eq_refl) (ri_G5 (i := 3) (by eq_refl) (by eq_refl)))
set_option maxRecDepth 100000 in
theorem ri_l10_313 : ri_lqr 10 313 (some (1, 61, 3, 17601)) = true := ri_lqm (ri_lk_b (k := 1100) (by eq_refl) ri_d61_3 (by eq_refl) (ri_G4 (i := 217) (by eq_refl) (by eq_refl)))
set_option maxRecDepth 100000 in
theorem ri_l10_316 : ri_lqr 10 316 (some (1, 62, 3, 17777)) = true := ri_lqm (ri_lk_b (k := 1111) (by eq_refl) ri_d62_3 (by eq_refl) (ri_G4 (i := 228) (by eq_refl) (by eq_refl)))
set_option maxRecDepth 100000 in
theorem ri_l10_327 : ri_lqr 10 327 (some (1, 67, 4, 18193)) = true := ri_lqm (ri_lk_b (k := 1137) (by eq_refl) ri_d67_4 (by eq_refl) (ri_G5 (i := 14) (by eq_refl) (by eq_refl)))
set_option maxRecDepth 100000 in
theorem ri_l10_330 : ri_lqr 10 330 (some (0, 5, 3, 685)) = true := ri_lqg (m := 342) ri_vc5 (by eq_refl) (by eq_refl) (ri_G1 (i := 179) (by eq_refl) (by eq_refl))
set_option maxRecDepth 100000 in
theorem ri_l10_333 : ri_lqr 10 333 (some (1, 69, 1, 18321)) = true := ri_lqm (ri_lk_b (k := 1145) (by eq_refl) ri_d69_1 (by eq_refl) (ri_G5 (i := 22) (by eq_refl) (by eq_refl)))
set_option maxRecDepth 100000 in
theorem ri_l10_336 : ri_lqr 10 336 (some (1, 70, 4, 18417)) = true := ri_lqm (ri_lk_b (k := 1151) (by eq_refl) ri_d70_4 (by eq_refl) (ri_G5 (i := 28) (by eq_refl) (by eq_refl)))
set_option maxRecDepth 100000 in
theorem ri_l10_340 : ri_lqr 10 340 (some (1, 71, 0, 18545)) = true := ri_lqm (ri_lk_b (k := 1159) (by eq_refl) ri_d71_0 (by eq_refl) (ri_G5 (i := 36) (by eq_refl) (by eq_refl)))
set_option maxRecDepth 100000 in
theorem ri_l10_343 : ri_lqr 10 343 (some (1, 65, 5, 18769)) = true := ri_lqm (ri_lk_b (k := 1173) (by eq_refl) ri_d65_5 (by eq_refl) (ri_G5 (i := 50) (by eq_refl) (by eq_refl)))
set_option maxRecDepth 100000 in
theorem ri_l10_347 : ri_lqr 10 347 (some (0, 2, 11, 605)) = true := ri_lqg (m := 302) ri_vc2 (by eq_refl) (by eq_refl) (ri_G1 (i := 139) (by eq_refl) (by eq_refl))
set_option maxRecDepth 100000 in
theorem ri_l10_350 : ri_lqr 10 350 (some (1, 147, 1, 19040)) = true := ri_lqm (ri_lk_a (k := 1190) (by eq_refl) ri_d147_1 (by eq_refl) (ri_G5 (i := 67) (by eq_refl) (by eq_refl)))
set_option maxRecDepth 100000 in
theorem ri_l10_354 : ri_lqr 10 354 (some (1, 167, 2, 19152)) = true := ri_lqm (ri_lk_a (k := 1197) (by eq_refl) ri_d167_2 (by eq_refl) (ri_G5 (i := 74) (by eq_refl) (by eq_refl)))
set_option maxRecDepth 100000 in
theorem ri_l10_357 : ri_lqr 10 357 (some (0, 2, 10, 601)) = true := ri_lqg (m := 300) ri_vc2 (by eq_refl) (by eq_refl) (ri_G1 (i := 137) (by eq_refl) (by eq_refl))
set_option maxRecDepth 100000 in
theorem ri_l10_360 : ri_lqr 10 360 (some (1, 30, 1, 19537)) = true := ri_lqm (ri_lk_b (k := 1221) (by eq_refl) ri_d30_1 (by eq_refl) (ri_G5 (i := 98) (by eq_refl) (by eq_refl)))
set_option maxRecDepth 100000 in
theorem ri_l10_363 : ri_lqr 10 363 (some (0, 2, 9, 597)) = true := ri_lqg (m := 298) ri_vc2 (by eq_refl) (by eq_refl) (ri_G1 (i := 135) (by eq_refl) (by eq_refl))
set_option maxRecDepth 100000 in
theorem ri_l10_366 : ri_lqr 10 366 (some (0, 2, 8, 593)) = true := ri_lqg (m := 296) ri_vc2 (by eq_refl) (by eq_refl) (ri_G1 (i := 133) (by eq_refl) (by eq_refl))
set_option maxRecDepth 100000 in
theorem ri_l10_369 : ri_lqr 10 369 (some (0, 2, 6, 585)) = true := ri_lqg (m := 292) ri_vc2 (by eq_refl) (by eq_refl) (ri_G1 (i := 129) (by eq_refl) (by eq_refl))
set_option maxRecDepth 100000 in
theorem ri_l10_372 : ri_lqr 10 372 (some (1, 28, 0, 19729)) = true := ri_lqm (ri_lk_b (k := 1233) (by eq_refl) ri_d28_0 (by eq_refl) (ri_G5 (i := 110) (by eq_refl) (by eq_refl)))
set_option maxRecDepth 100000 in
theorem ri_l10_375 : ri_lqr 10 375 (some (1, 29, 0, 19793)) = true := ri_lqm (ri_lk_b (k := 1237) (by eq_refl) ri_d29_0 (by eq_refl) (ri_G5 (i := 114) (by eq_refl) (by eq_refl)))
set_option maxRecDepth 100000 in
theorem ri_l10_378 : ri_lqr 10 378 (some (1, 20, 1, 19953)) = true := ri_lqm (ri_lk_b (k := 1247) (by eq_refl) ri_d20_1 (by eq_refl) (ri_G5 (i := 124) (by eq_refl) (by eq_refl)))
set_option maxRecDepth 100000 in
theorem ri_l10_388 : ri_lqr 10 388 (some (1, 57, 1, 11137)) = true := ri_lqm (ri_lk_b (k := 696) (by eq_refl) ri_d57_1 (by eq_refl) (ri_G3 (i := 53) (by eq_refl) (by eq_refl)))
set_option maxRecDepth 100000 in
theorem ri_l10_391 : ri_lqr 10 391 (some (0, 3, 12, 817)) = true := ri_lqg (m := 408) ri_vc3 (by eq_refl) (by eq_refl) (ri_G2 (i := 5) (by eq_refl) (by eq_refl))
set_option maxRecDepth 100000 in
theorem ri_l10_395 : ri_lqr 10 395 (some (1, 38, 1, 12593)) = true := ri_lqm (ri_lk_b (k := 787) (by eq_refl) ri_d38_1 (by eq_refl) (ri_G3 (i := 144) (by eq_refl) (by eq_refl)))
set_option maxRecDepth 100000 in
theorem ri_l10_398 : ri_lqr 10 398 (some (1, 12, 0, 16577)) = true := ri_lqm (ri_lk_b (k := 1036) (by eq_refl) ri_d12_0 (by eq_refl) (ri_G4 (i := 153) (by eq_refl) (by eq_refl)))
set_option maxRecDepth 100000 in
theorem ri_l10_401 : ri_lqr 10 401 (some (1, 158, 1, 14816)) = true := ri_lqm (ri_lk_a (k := 926) (by eq_refl) ri_d158_1 (by eq_refl) (ri_G4 (i := 43) (by eq_refl) (by eq_refl)))
set_option maxRecDepth 100000 in
theorem ri_l10_405 : ri_lqr 10 405 (some (1, 157, 2, 14960)) = true := ri_lqm (ri_lk_a (k := 935) (by eq_refl) ri_d157_2 (by eq_refl) (ri_G4 (i := 52) (by eq_refl) (by eq_refl)))
set_option maxRecDepth 100000 in
theorem ri_l10_408 : ri_lqr 10 408 (some (1, 144, 3, 15040)) = true := ri_lqm (ri_lk_a (k := 940) (by eq_refl) ri_d144_3 (by eq_refl) (ri_G4 (i := 57) (by eq_refl) (by eq_refl)))
set_option maxRecDepth 100000 in
theorem ri_l10_412 : ri_lqr 10 412 (some (1, 74, 0, 15249)) = true := ri_lqm (ri_lk_b (k := 953) (by eq_refl) ri_d74_0 (by eq_refl) (ri_G4 (i := 70) (by eq_refl) (by eq_refl)))
set_option maxRecDepth 100000 in
theorem ri_l10_414 : ri_lqr 10 414 (some (1, 75, 3, 15329)) = true := ri_lqm (ri_lk_b (k := 958) (by eq_refl) ri_d75_3 (by eq_refl) (ri_G4 (i := 75) (by eq_refl) (by eq_refl)))
set_option maxRecDepth 100000 in
theorem ri_l10_417 : ri_lqr 10 417 (some (1, 80, 1, 19217)) = true := ri_lqm (ri_lk_b (k := 1201) (by eq_refl) ri_d80_1 (by eq_refl) (ri_G5 (i := 78) (by eq_refl) (by eq_refl)))
set_option maxRecDepth 100000 in
theorem ri_l10_420 : ri_lqr 10 420 (some (1, 63, 3, 19297)) = true := ri_lqm (ri_lk_b (k := 1206) (by eq_refl) ri_d63_3 (by eq_refl) (ri_G5 (i := 83) (by eq_refl) (by eq_refl)))
set_option maxRecDepth 100000 in
theorem ri_l10_423 : ri_lqr 10 423 (some (0, 5, 0, 677)) = true := ri_lqg (m := 338) ri_vc5 (by eq_refl) (by eq_refl) (ri_G1 (i := 175) (by eq_refl) (by eq_refl))
set_option maxRecDepth 100000 in
theorem ri_l10_424 : ri_lqr 10 424 (some (1, 64, 4, 19361)) = true := ri_lqm (ri_lk_b (k := 1210) (by eq_refl) ri_d64_4 (by eq_refl) (ri_G5 (i := 87) (by eq_refl) (by eq_refl)))
set_option maxRecDepth 100000 in
theorem ri_l10_428 : ri_lqr 10 428 (some (1, 81, 2, 19377)) = true := ri_lqm (ri_lk_b (k := 1211) (by eq_refl) ri_d81_2 (by eq_refl) (ri_G5 (i := 88) (by eq_refl) (by eq_refl)))
theorem ri_lf10 : ∀ i, ri_lqr 10 i (ri_lt10 i) = true := fun i => ri_bt (ri_bt (ri_bt (ri_bt (ri_bt (ri_bt (ri_bl ri_l10_11) (ri_bt (ri_bl ri_l10_12) (ri_bl ri_l10_18))) (ri_bt (ri_bt (ri_bl ri_l10_19) (ri_bl ri_l10_25)) (ri_bt (ri_bl ri_l10_26) (ri_bl ri_l10_32)))) (ri_bt (ri_bt (ri_bl ri_l10_33) (ri_bt (ri_bl ri_l10_39) (ri_bl ri_l10_40))) (ri_bt (ri_bt (ri_bl ri_l10_46) (ri_bl ri_l10_52)) (ri_bt (ri_bl ri_l10_53) (ri_bl ri_l10_57))))) (ri_bt (ri_bt (ri_bt (ri_bl ri_l10_61) (ri_bt (ri_bl ri_l10_67) (ri_bl ri_l10_68))) (ri_bt (ri_bt (ri_bl ri_l10_72) (ri_bl ri_l10_76)) (ri_bt (ri_bl ri_l10_79) (ri_bl ri_l10_84)))) (ri_bt (ri_bt (ri_bt (ri_bl ri_l10_85) (ri_bl ri_l10_89)) (ri_bt (ri_bl ri_l10_92) (ri_bl ri_l10_97))) (ri_bt (ri_bt (ri_bl ri_l10_98) (ri_bl ri_l10_102)) (ri_bt (ri_bl ri_l10_103) (ri_bl ri_l10_107)))))) (ri_bt (ri_bt (ri_bt (ri_bt (ri_bl ri_l10_111) (ri_bt (ri_bl ri_l10_115) (ri_bl ri_l10_119))) (ri_bt (ri_bt (ri_bl ri_l10_122) (ri_bl ri_l10_126)) (ri_bt (ri_bl ri_l10_129) (ri_bl ri_l10_132)))) (ri_bt (ri_bt (ri_bt (ri_bl ri_l10_136) (ri_bl ri_l10_139)) (ri_bt (ri_bl ri_l10_142) (ri_bl ri_l10_146))) (ri_bt (ri_bt (ri_bl ri_l10_150) (ri_bl ri_l10_154)) (ri_bt (ri_bl ri_l10_157) (ri_bl ri_l10_161))))) (ri_bt (ri_bt (ri_bt (ri_bl ri_l10_164) (ri_bt (ri_bl ri_l10_170) (ri_bl ri_l10_174))) (ri_bt (ri_bt (ri_bl ri_l10_177) (ri_bl ri_l10_181)) (ri_bt (ri_bl ri_l10_185) (ri_bl ri_l10_188)))) (ri_bt (ri_bt (ri_bt (ri_bl ri_l10_192) (ri_bl ri_l10_195)) (ri_bt (ri_bl ri_l10_198) (ri_bl ri_l10_201))) (ri_bt (ri_bt (ri_bl ri_l10_204) (ri_bl ri_l10_208)) (ri_bt (ri_bl ri_l10_211) (ri_bl ri_l10_215))))))) (ri_bt (ri_bt (ri_bt (ri_bt (ri_bt (ri_bl ri_l10_218) (ri_bt (ri_bl ri_l10_222) (ri_bl ri_l10_226))) (ri_bt (ri_bt (ri_bl ri_l10_229) (ri_bl ri_l10_232)) (ri_bt (ri_bl ri_l10_235) (ri_bl ri_l10_238)))) (ri_bt (ri_bt (ri_bt (ri_bl ri_l10_242) (ri_bl ri_l10_247)) (ri_bt (ri_bl ri_l10_250) (ri_bl ri_l10_254))) (ri_bt (ri_bt (ri_bl ri_l10_257) (ri_bl ri_l10_260)) (ri_bt (ri_bl ri_l10_263) (ri_bl ri_l10_267))))) (ri_bt (ri_bt (ri_bt (ri_bl ri_l10_270) (ri_bt (ri_bl ri_l10_273) (ri_bl ri_l10_278))) (ri_bt (ri_bt (ri_bl ri_l10_282) (ri_bl ri_l10_286)) (ri_bt (ri_bl ri_l10_289) (ri_bl ri_l10_292)))) (ri_bt (ri_bt (ri_bt (ri_bl ri_l10_295) (ri_bl ri_l10_299)) (ri_bt (ri_bl ri_l10_303) (ri_bl ri_l10_306))) (ri_bt (ri_bt (ri_bl ri_l10_309) (ri_bl ri_l10_313)) (ri_bt (ri_bl ri_l10_316) (ri_bl ri_l10_327)))))) (ri_bt (ri_bt (ri_bt (ri_bt (ri_bl ri_l10_330) (ri_bt (ri_bl ri_l10_333) (ri_bl ri_l10_336))) (ri_bt (ri_bt (ri_bl ri_l10_340) (ri_bl ri_l10_343)) (ri_bt (ri_bl ri_l10_347) (ri_bl ri_l10_350)))) (ri_bt (ri_bt (ri_bt (ri_bl ri_l10_354) (ri_bl ri_l10_357)) (ri_bt (ri_bl ri_l10_360) (ri_bl ri_l10_363))) (ri_bt (ri_bt (ri_bl ri_l10_366) (ri_bl ri_l10_369)) (ri_bt (ri_bl ri_l10_372) (ri_bl ri_l10_375))))) (ri_bt (ri_bt (ri_bt (ri_bl ri_l10_378) (ri_bt (ri_bl ri_l10_388) (ri_bl ri_l10_391))) (ri_bt (ri_bt (ri_bl ri_l10_395) (ri_bl ri_l10_398)) (ri_bt (ri_bl ri_l10_401) (ri_bl ri_l10_405)))) (ri_bt (ri_bt (ri_bt (ri_bl ri_l10_408) (ri_bl ri_l10_412)) (ri_bt (ri_bl ri_l10_414) (ri_bl ri_l10_417))) (ri_bt (ri_bt (ri_bl ri_l10_420) (ri_bl ri_l10_423)) (ri_bt (ri_bl ri_l10_424) (ri_bl ri_l10_428)))))))
set_option maxRecDepth 100000 in
theorem ri_l11_7 : ri_lqr 11 7 (some (0, 11, 0, 2524)) = true := ri_lqf (m := 1262) ri_vc11 (by eq_refl) (by eq_refl) (ri_G5 (i := 139) (by eq_refl) (by eq_refl))
set_option maxRecDepth 100000 in
theorem ri_l11_13 : ri_lqr 11 13 (some (0, 11, 3, 2530)) = true := ri_lqf (m := 1265) ri_vc11 (by eq_refl) (by eq_refl) (ri_G5 (i := 142) (by eq_refl) (by eq_refl))
set_option maxRecDepth 100000 in
theorem ri_l11_17 : ri_lqr 11 17 (some (0, 11, 4, 2532)) = true := ri_lqf (m := 1266) ri_vc11 (by eq_refl) (by eq_refl) (ri_G5 (i := 143) (by eq_refl) (by eq_refl))
set_option maxRecDepth 100000 in
theorem ri_l11_20 : ri_lqr 11 20 (some (0, 11, 5, 2534)) = true := ri_lqf (m := 1267) ri_vc11 (by eq_refl) (by eq_refl) (ri_G5 (i := 144) (by eq_refl) (by eq_refl))
set_option maxRecDepth 100000 in
theorem ri_l11_23 : ri_lqr 11 23 (some (0, 11, 6, 2536)) = true := ri_lqf (m := 1268) ri_vc11 (by eq_refl) (by eq_refl) (ri_G5 (i := 145) (by eq_refl) (by eq_refl))
set_option maxRecDepth 100000 in
theorem ri_l11_26 : ri_lqr 11 26 (some (0, 11, 10, 2544)) = true := ri_lqf (m := 1272) ri_vc11 (by eq_refl) (by eq_refl) (ri_G5 (i := 149) (by eq_refl) (by eq_refl))
set_option maxRecDepth 100000 in
theorem ri_l11_29 : ri_lqr 11 29 (some (0, 11, 11, 2546)) = true := ri_lqf (m := 1273) ri_vc11 (by eq_refl) (by eq_refl) (ri_G5 (i := 150) (by eq_refl) (by eq_refl))
set_option maxRecDepth 100000 in
theorem ri_l11_32 : ri_lqr 11 32 (some (0, 11, 19, 2562)) = true := ri_lqf (m := 1281) ri_vc11 (by eq_refl) (by eq_refl) (ri_G5 (i := 158) (by eq_refl) (by eq_refl))
set_option maxRecDepth 100000 in
theorem ri_l11_35 : ri_lqr 11 35 (some (0, 11, 21, 2566)) = true := ri_lqf (m := 1283) ri_vc11 (by eq_refl) (by eq_refl) (ri_G5 (i := 160) (by eq_refl) (by eq_refl))
set_option maxRecDepth 100000 in
theorem ri_l11_39 : ri_lqr 11 39 (some (0, 11, 23, 2570)) = true := ri_lqf (m := 1285) ri_vc11 (by eq_refl) (by eq_refl) (ri_G5 (i := 162) (by eq_refl) (by eq_refl))
set_option maxRecDepth 100000 in
theorem ri_l11_42 : ri_lqr 11 42 (some (0, 11, 24, 2572)) = true := ri_lqf (m := 1286) ri_vc11 (by eq_refl) (by eq_refl) (ri_G5 (i := 163) (by eq_refl) (by eq_refl))
set_option maxRecDepth 100000 in
theorem ri_l11_45 : ri_lqr 11 45 (some (0, 11, 25, 2574)) = true := ri_lqf (m := 1287) ri_vc11 (by eq_refl) (by eq_refl) (ri_G5 (i := 164) (by eq_refl) (by eq_refl))
set_option maxRecDepth 100000 in
theorem ri_l11_48 : ri_lqr 11 48 (some (0, 11, 26, 2576)) = true := ri_lqf (m := 1288) ri_vc11 (by eq_refl) (by eq_refl) (ri_G5 (i := 165) (by eq_refl) (by eq_refl))
set_option maxRecDepth 100000 in
theorem ri_l11_52 : ri_lqr 11 52 (some (0, 11, 30, 2584)) = true := ri_lqf (m := 1292) ri_vc11 (by eq_refl) (by eq_refl) (ri_G5 (i := 169) (by eq_refl) (by eq_refl))
set_option maxRecDepth 100000 in
theorem ri_l11_55 : ri_lqr 11 55 (some (0, 11, 31, 2586)) = true := ri_lqf (m := 1293) ri_vc11 (by eq_refl) (by eq_refl) (ri_G5 (i := 170) (by eq_refl) (by eq_refl))
set_option maxRecDepth 100000 in
theorem ri_l11_58 : ri_lqr 11 58 (some (0, 11, 32, 2588)) = true := ri_lqf (m := 1294) ri_vc11 (by eq_refl) (by eq_refl) (ri_G5 (i := 171) (by eq_refl) (by eq_refl))
set_option maxRecDepth 100000 in
theorem ri_l11_61 : ri_lqr 11 61 (some (0, 11, 36, 2596)) = true := ri_lqf (m := 1298) ri_vc11 (by eq_refl) (by eq_refl) (ri_G5 (i := 175) (by eq_refl) (by eq_refl))
set_option maxRecDepth 100000 in
theorem ri_l11_64 : ri_lqr 11 64 (some (0, 11, 37, 2598)) = true := ri_lqf (m := 1299) ri_vc11 (by eq_refl) (by eq_refl) (ri_G5 (i := 176) (by eq_refl) (by eq_refl))
set_option maxRecDepth 100000 in
theorem ri_l11_67 : ri_lqr 11 67 (some (0, 11, 38, 2600)) = true := ri_lqf (m := 1300) ri_vc11 (by eq_refl) (by eq_refl) (ri_G5 (i := 177) (by eq_refl) (by eq_refl))
set_option maxRecDepth 100000 in
theorem ri_l11_70 : ri_lqr 11 70 (some (0, 11, 1, 2526)) = true := ri_lqf (m := 1263) ri_vc11 (by eq_refl) (by eq_refl) (ri_G5 (i := 140) (by eq_refl) (by eq_refl))
set_option maxRecDepth 100000 in
theorem ri_l11_74 : ri_lqr 11 74 (some (1, 171, 1, 22144)) = true := ri_lqm (ri_lk_a (k := 1384) (by eq_refl) ri_d171_1 (by eq_refl) (ri_G6 (i := 21) (by eq_refl) (by eq_refl)))
set_option maxRecDepth 100000 in
theorem ri_l11_78 : ri_lqr 11 78 (some (0, 11, 13, 2550)) = true := ri_lqf (m := 1275) ri_vc11 (by eq_refl) (by eq_refl) (ri_G5 (i := 152) (by eq_refl) (by eq_refl))
set_option maxRecDepth 100000 in
theorem ri_l11_81 : ri_lqr 11 81 (some (0, 11, 12, 2548)) = true := ri_lqf (m := 1274) ri_vc11 (by eq_refl) (by eq_refl) (ri_G5 (i := 151) (by eq_refl) (by eq_refl))
set_option maxRecDepth 100000 in
theorem ri_l11_84 : ri_lqr 11 84 (some (1, 175, 0, 22464)) = true := ri_lqm (ri_lk_a (k := 1404) (by eq_refl) ri_d175_0 (by eq_refl) (ri_G6 (i := 41) (by eq_refl) (by eq_refl)))
set_option maxRecDepth 100000 in
theorem ri_l11_88 : ri_lqr 11 88 (some (1, 177, 1, 22608)) = true := ri_lqm (ri_lk_a (k := 1413) (by eq_refl) ri_d177_1 (by eq_refl) (ri_G6 (i := 50) (by eq_refl) (by eq_refl)))
set_option maxRecDepth 100000 in
theorem ri_l11_92 : ri_lqr 11 92 (some (1, 178, 1, 22544)) = true := ri_lqm (ri_lk_a (k := 1409) (by eq_refl) ri_d178_1 (by eq_refl) (ri_G6 (i := 46) (by eq_refl) (by eq_refl)))
set_option maxRecDepth 100000 in
theorem ri_l11_96 : ri_lqr 11 96 (some (1, 179, 0, 22848)) = true := ri_lqm (ri_lk_a (k := 1428) (by eq_refl) ri_d179_0 (by eq_refl) (ri_G6 (i := 65) (by eq_refl) (by eq_refl)))
set_option maxRecDepth 100000 in
theorem ri_l11_99 : ri_lqr 11 99 (some (1, 176, 1, 22976)) = true := ri_lqm (ri_lk_a (k := 1436) (by eq_refl) ri_d176_1 (by eq_refl) (ri_G6 (i := 73) (by eq_refl) (by eq_refl)))
set_option maxRecDepth 100000 in
theorem ri_l11_102 : ri_lqr 11 102 (some (1, 174, 2, 22720)) = true := ri_lqm (ri_lk_a (k := 1420) (by eq_refl) ri_d174_2 (by eq_refl) (ri_G6 (i := 57) (by eq_refl) (by eq_refl)))
set_option maxRecDepth 100000 in
theorem ri_l11_106 : ri_lqr 11 106 (some (0, 11, 14, 2552)) = true := ri_lqf (m := 1276) ri_vc11 (by eq_refl) (by eq_refl) (ri_G5 (i := 153) (by eq_refl) (by eq_refl))
set_option maxRecDepth 100000 in
theorem ri_l11_109 : ri_lqr 11 109 (some (1, 169, 3, 23040)) = true := ri_lqm (ri_lk_a (k := 1440) (by eq_refl) ri_d169_3 (by eq_refl) (ri_G6 (i := 77) (by eq_refl) (by eq_refl)))
set_option maxRecDepth 100000 in
theorem ri_l11_129 : ri_lqr 11 129 (some (0, 11, 15, 2554)) = true := ri_lqf (m := 1277) ri_vc11 (by eq_refl) (by eq_refl) (ri_G5 (i := 154) (by eq_refl) (by eq_refl))
set_option maxRecDepth 100000 in
theorem ri_l11_132 : ri_lqr 11 132 (some (0, 11, 16, 2556)) = true := ri_lqf (m := 1278) ri_vc11 (by eq_refl) (by eq_refl) (ri_G5 (i := 155) (by eq_refl) (by eq_refl))
set_option maxRecDepth 100000 in
theorem ri_l11_135 : ri_lqr 11 135 (some (0, 11, 17, 2558)) = true := ri_lqf (m := 1279) ri_vc11 (by eq_refl) (by eq_refl) (ri_G5 (i := 156) (by eq_refl) (by eq_refl))
set_option maxRecDepth 100000 in
theorem ri_l11_138 : ri_lqr 11 138 (some (0, 11, 20, 2564)) = true := ri_lqf (m := 1282) ri_vc11 (by eq_refl) (by eq_refl) (ri_G5 (i := 159) (by eq_refl) (by eq_refl))
set_option maxRecDepth 100000 in
theorem ri_l11_141 : ri_lqr 11 141 (some (1, 186, 1, 24288)) = true := ri_lqm (ri_lk_a (k := 1518) (by eq_refl) ri_d186_1 (by eq_refl) (ri_G6 (i := 155) (by eq_refl) (by eq_refl)))
set_option maxRecDepth 100000 in
theorem ri_l11_145 : ri_lqr 11 145 (some (1, 183, 2, 23552)) = true := ri_lqm (ri_lk_a (k := 1472) (by eq_refl) ri_d183_2 (by eq_refl) (ri_G6 (i := 109) (by eq_refl) (by eq_refl)))
set_option maxRecDepth 100000 in
theorem ri_l11_150 : ri_lqr 11 150 (some (1, 181, 2, 22912)) = true := ri_lqm (ri_lk_a (k := 1432) (by eq_refl) ri_d181_2 (by eq_refl) (ri_G6 (i := 69) (by eq_refl) (by eq_refl)))
set_option maxRecDepth 100000 in
theorem ri_l11_153 : ri_lqr 11 153 (some (1, 184, 1, 23488)) = true := ri_lqm (ri_lk_a (k := 1468) (by eq_refl) ri_d184_1 (by eq_refl) (ri_G6 (i := 105) (by eq_refl) (by eq_refl)))
set_option maxRecDepth 100000 in
theorem ri_l11_156 : ri_lqr 11 156 (some (1, 182, 0, 23616)) = true := ri_lqm (ri_lk_a (k := 1476) (by eq_refl) ri_d182_0 (by eq_refl) (ri_G6 (i := 113) (by eq_refl) (by eq_refl)))
set_option maxRecDepth 100000 in
theorem ri_l11_159 : ri_lqr 11 159 (some (1, 188, 0, 23408)) = true := ri_lqm (ri_lk_a (k := 1463) (by eq_refl) ri_d188_0 (by eq_refl) (ri_G6 (i := 100) (by eq_refl) (by eq_refl)))
set_option maxRecDepth 100000 in
theorem ri_l11_163 : ri_lqr 11 163 (some (1, 189, 0, 23344)) = true := ri_lqm (ri_lk_a (k := 1459) (by eq_refl) ri_d189_0 (by eq_refl) (ri_G6 (i := 96) (by eq_refl) (by eq_refl)))
set_option maxRecDepth 100000 in
theorem ri_l11_166 : ri_lqr 11 166 (some (1, 190, 0, 23280)) = true := ri_lqm (ri_lk_a (k := 1455) (by eq_refl) ri_d190_0 (by eq_refl) (ri_G6 (i := 92) (by eq_refl) (by eq_refl)))
set_option maxRecDepth 100000 in
theorem ri_l11_171 : ri_lqr 11 171 (some (1, 185, 1, 24032)) = true := ri_lqm (ri_lk_a (k := 1502) (by eq_refl) ri_d185_1 (by eq_refl) (ri_G6 (i := 139) (by eq_refl) (by eq_refl)))
set_option maxRecDepth 100000 in
theorem ri_l11_174 : ri_lqr 11 174 (some (1, 191, 0, 24096)) = true := ri_lqm (ri_lk_a (k := 1506) (by eq_refl) ri_d191_0 (by eq_refl) (ri_G6 (i := 143) (by eq_refl) (by eq_refl)))
set_option maxRecDepth 100000 in
theorem ri_l11_177 : ri_lqr 11 177 (some (1, 187, 1, 24224)) = true := ri_lqm (ri_lk_a (k := 1514) (by eq_refl) ri_d187_1 (by eq_refl) (ri_G6 (i := 151) (by eq_refl) (by eq_refl)))
set_option maxRecDepth 100000 in
theorem ri_l11_180 : ri_lqr 11 180 (some (1, 193, 0, 24336)) = true := ri_lqm (ri_lk_a (k := 1521) (by eq_refl) ri_d193_0 (by eq_refl) (ri_G6 (i := 158) (by eq_refl) (by eq_refl)))
set_option maxRecDepth 100000 in
theorem ri_l11_183 : ri_lqr 11 183 (some (1, 192, 0, 23952)) = true := ri_lqm (ri_lk_a (k := 1497) (by eq_refl) ri_d192_0 (by eq_refl) (ri_G6 (i := 134) (by eq_refl) (by eq_refl)))
set_option maxRecDepth 100000 in
theorem ri_l11_186 : ri_lqr 11 186 (some (1, 194, 0, 24160)) = true := ri_lqm (ri_lk_a (k := 1510) (by eq_refl) ri_d194_0 (by eq_refl) (ri_G6 (i := 147) (by eq_refl) (by eq_refl)))
set_option maxRecDepth 100000 in
theorem ri_l11_195 : ri_lqr 11 195 (some (1, 180, 1, 23824)) = true := ri_lqm (ri_lk_a (k := 1489) (by eq_refl) ri_d180_1 (by eq_refl) (ri_G6 (i := 126) (by eq_refl) (by eq_refl)))
set_option maxRecDepth 100000 in
theorem ri_l11_198 : ri_lqr 11 198 (some (1, 195, 0, 23888)) = true := ri_lqm (ri_lk_a (k := 1493) (by eq_refl) ri_d195_0 (by eq_refl) (ri_G6 (i := 130) (by eq_refl) (by eq_refl)))
set_option maxRecDepth 100000 in
theorem ri_l11_201 : ri_lqr 11 201 (some (0, 11, 8, 2540)) = true := ri_lqf (m := 1270) ri_vc11 (by eq_refl) (by eq_refl) (ri_G5 (i := 147) (by eq_refl) (by eq_refl))
set_option maxRecDepth 100000 in
theorem ri_l11_204 : ri_lqr 11 204 (some (0, 11, 9, 2542)) = true := ri_lqf (m := 1271) ri_vc11 (by eq_refl) (by eq_refl) (ri_G5 (i := 148) (by eq_refl) (by eq_refl))
set_option maxRecDepth 100000 in
theorem ri_l11_209 : ri_lqr 11 209 (some (0, 11, 7, 2538)) = true := ri_lqf (m := 1269) ri_vc11 (by eq_refl) (by eq_refl) (ri_G5 (i := 146) (by eq_refl) (by eq_refl))
set_option maxRecDepth 100000 in
theorem ri_l11_214 : ri_lqr 11 214 (some (1, 197, 0, 23088)) = true := ri_lqm (ri_lk_a (k := 1443) (by eq_refl) ri_d197_0 (by eq_refl) (ri_G6 (i := 80) (by eq_refl) (by eq_refl)))
set_option maxRecDepth 100000 in
theorem ri_l11_217 : ri_lqr 11 217 (some (1, 198, 0, 23152)) = true := ri_lqm (ri_lk_a (k := 1447) (by eq_refl) ri_d198_0 (by eq_refl) (ri_G6 (i := 84) (by eq_refl) (by eq_refl)))
set_option maxRecDepth 100000 in
theorem ri_l11_224 : ri_lqr 11 224 (some (0, 11, 18, 2560)) = true := ri_lqf (m := 1280) ri_vc11 (by eq_refl) (by eq_refl) (ri_G5 (i := 157) (by eq_refl) (by eq_refl))
set_option maxRecDepth 100000 in
theorem ri_l11_227 : ri_lqr 11 227 (some (1, 199, 1, 22784)) = true := ri_lqm (ri_lk_a (k := 1424) (by eq_refl) ri_d199_1 (by eq_refl) (ri_G6 (i := 61) (by eq_refl) (by eq_refl)))
set_option maxRecDepth 100000 in
theorem ri_l11_230 : ri_lqr 11 230 (some (1, 196, 1, 23216)) = true := ri_lqm (ri_lk_a (k := 1451) (by eq_refl) ri_d196_1 (by eq_refl) (ri_G6 (i := 88) (by eq_refl) (by eq_refl)))
set_option maxRecDepth 100000 in
theorem ri_l11_233 : ri_lqr 11 233 (some (1, 200, 0, 22400)) = true := ri_lqm (ri_lk_a (k := 1400) (by eq_refl) ri_d200_0 (by eq_refl) (ri_G6 (i := 37) (by eq_refl) (by eq_refl)))
set_option maxRecDepth 100000 in
theorem ri_l11_236 : ri_lqr 11 236 (some (0, 11, 2, 2528)) = true := ri_lqf (m := 1264) ri_vc11 (by eq_refl) (by eq_refl) (ri_G5 (i := 141) (by eq_refl) (by eq_refl))
set_option maxRecDepth 100000 in
theorem ri_l11_239 : ri_lqr 11 239 (some (1, 201, 0, 22336)) = true := ri_lqm (ri_lk_a (k := 1396) (by eq_refl) ri_d201_0 (by eq_refl) (ri_G6 (i := 33) (by eq_refl) (by eq_refl)))
set_option maxRecDepth 100000 in
theorem ri_l11_242 : ri_lqr 11 242 (some (1, 210, 0, 24496)) = true := ri_lqm (ri_lk_a (k := 1531) (by eq_refl) ri_d210_0 (by eq_refl) (ri_G6 (i := 168) (by eq_refl) (by eq_refl)))
set_option maxRecDepth 100000 in
theorem ri_l11_245 : ri_lqr 11 245 (some (0, 11, 22, 2568)) = true := ri_lqf (m := 1284) ri_vc11 (by eq_refl) (by eq_refl) (ri_G5 (i := 161) (by eq_refl) (by eq_refl))
set_option maxRecDepth 100000 in
theorem ri_l11_248 : ri_lqr 11 248 (some (1, 205, 1, 25200)) = true := ri_lqm (ri_lk_a (k := 1575) (by eq_refl) ri_d205_1 (by eq_refl) (ri_G6 (i := 212) (by eq_refl) (by eq_refl)))
set_option maxRecDepth 100000 in
theorem ri_l11_252 : ri_lqr 11 252 (some (1, 206, 0, 25264)) = true := ri_lqm (ri_lk_a (k := 1579) (by eq_refl) ri_d206_0 (by eq_refl) (ri_G6 (i := 216) (by eq_refl) (by eq_refl)))
set_option maxRecDepth 100000 in
theorem ri_l11_256 : ri_lqr 11 256 (some (1, 207, 3, 25328)) = true := ri_lqm (ri_lk_a (k := 1583) (by eq_refl) ri_d207_3 (by eq_refl) (ri_G6 (i := 220) (by eq_refl) (by eq_refl)))
set_option maxRecDepth 100000 in
theorem ri_l11_260 : ri_lqr 11 260 (some (1, 209, 0, 24688)) = true := ri_lqm (ri_lk_a (k := 1543) (by eq_refl) ri_d209_0 (by eq_refl) (ri_G6 (i := 180) (by eq_refl) (by eq_refl)))
set_option maxRecDepth 100000 in
theorem ri_l11_265 : ri_lqr 11 265 (some (1, 211, 1, 24624)) = true := ri_lqm (ri_lk_a (k := 1539) (by eq_refl) ri_d211_1 (by eq_refl) (ri_G6 (i := 176) (by eq_refl) (by eq_refl)))
set_option maxRecDepth 100000 in
theorem ri_l11_268 : ri_lqr 11 268 (some (1, 212, 2, 24768)) = true := ri_lqm (ri_lk_a (k := 1548) (by eq_refl) ri_d212_2 (by eq_refl) (ri_G6 (i := 185) (by eq_refl) (by eq_refl)))
set_option maxRecDepth 100000 in
theorem ri_l11_271 : ri_lqr 11 271 (some (1, 219, 2, 25088)) = true := ri_lqm (ri_lk_a (k := 1568) (by eq_refl) ri_d219_2 (by eq_refl) (ri_G6 (i := 205) (by eq_refl) (by eq_refl)))
set_option maxRecDepth 100000 in
theorem ri_l11_275 : ri_lqr 11 275 (some (1, 220, 3, 25024)) = true := ri_lqm (ri_lk_a (k := 1564) (by eq_refl) ri_d220_3 (by eq_refl) (ri_G6 (i := 201) (by eq_refl) (by eq_refl)))
set_option maxRecDepth 100000 in
theorem ri_l11_279 : ri_lqr 11 279 (some (1, 208, 3, 25136)) = true := ri_lqm (ri_lk_a (k := 1571) (by eq_refl) ri_d208_3 (by eq_refl) (ri_G6 (i := 208) (by eq_refl) (by eq_refl)))
set_option maxRecDepth 100000 in
theorem ri_l11_283 : ri_lqr 11 283 (some (1, 204, 1, 24896)) = true := ri_lqm (ri_lk_a (k := 1556) (by eq_refl) ri_d204_1 (by eq_refl) (ri_G6 (i := 193) (by eq_refl) (by eq_refl)))
set_option maxRecDepth 100000 in
theorem ri_l11_286 : ri_lqr 11 286 (some (1, 221, 4, 24960)) = true := ri_lqm (ri_lk_a (k := 1560) (by eq_refl) ri_d221_4 (by eq_refl) (ri_G6 (i := 197) (by eq_refl) (by eq_refl)))
set_option maxRecDepth 100000 in
theorem ri_l11_292 : ri_lqr 11 292 (some (1, 216, 2, 25568)) = true := ri_lqm (ri_lk_a (k := 1598) (by eq_refl) ri_d216_2 (by eq_refl) (ri_G6 (i := 235) (by eq_refl) (by eq_refl)))
set_option maxRecDepth 100000 in
theorem ri_l11_295 : ri_lqr 11 295 (some (1, 214, 1, 25456)) = true := ri_lqm (ri_lk_a (k := 1591) (by eq_refl) ri_d214_1 (by eq_refl) (ri_G6 (i := 228) (by eq_refl) (by eq_refl)))
set_option maxRecDepth 100000 in
theorem ri_l11_298 : ri_lqr 11 298 (some (1, 223, 1, 25504)) = true := ri_lqm (ri_lk_a (k := 1594) (by eq_refl) ri_d223_1 (by eq_refl) (ri_G6 (i := 231) (by eq_refl) (by eq_refl)))
set_option maxRecDepth 100000 in
theorem ri_l11_301 : ri_lqr 11 301 (some (1, 215, 1, 25696)) = true := ri_lqm (ri_lk_a (k := 1606) (by eq_refl) ri_d215_1 (by eq_refl) (ri_G7 (i := 3) (by eq_refl) (by eq_refl)))
set_option maxRecDepth 100000 in
theorem ri_l11_310 : ri_lqr 11 310 (some (1, 217, 2, 26320)) = true := ri_lqm (ri_lk_a (k := 1645) (by eq_refl) ri_d217_2 (by eq_refl) (ri_G7 (i := 42) (by eq_refl) (by eq_refl)))
set_option maxRecDepth 100000 in
theorem ri_l11_313 : ri_lqr 11 313 (some (1, 230, 4, 26256)) = true := ri_lqm (ri_lk_a (k := 1641) (by eq_refl) ri_d230_4 (by eq_refl) (ri_G7 (i := 38) (by eq_refl) (by eq_refl)))
set_option maxRecDepth 100000 in
theorem ri_l11_317 : ri_lqr 11 317 (some (1, 228, 1, 26512)) = true := ri_lqm (ri_lk_a (k := 1657) (by eq_refl) ri_d228_1 (by eq_refl) (ri_G7 (i := 54) (by eq_refl) (by eq_refl)))
set_option maxRecDepth 100000 in
theorem ri_l11_320 : ri_lqr 11 320 (some (1, 231, 2, 26192)) = true := ri_lqm (ri_lk_a (k := 1637) (by eq_refl) ri_d231_2 (by eq_refl) (ri_G7 (i := 34) (by eq_refl) (by eq_refl)))
set_option maxRecDepth 100000 in
theorem ri_l11_323 : ri_lqr 11 323 (some (1, 229, 1, 26128)) = true := ri_lqm (ri_lk_a (k := 1633) (by eq_refl) ri_d229_1 (by eq_refl) (ri_G7 (i := 30) (by eq_refl) (by eq_refl)))
set_option maxRecDepth 100000 in
theorem ri_l11_326 : ri_lqr 11 326 (some (1, 232, 2, 26448)) = true := ri_lqm (ri_lk_a (k := 1653) (by eq_refl) ri_d232_2 (by eq_refl) (ri_G7 (i := 50) (by eq_refl) (by eq_refl)))
set_option maxRecDepth 100000 in
theorem ri_l11_329 : ri_lqr 11 329 (some (1, 233, 1, 26000)) = true := ri_lqm (ri_lk_a (k := 1625) (by eq_refl) ri_d233_1 (by eq_refl) (ri_G7 (i := 22) (by eq_refl) (by eq_refl)))
set_option maxRecDepth 100000 in
theorem ri_l11_332 : ri_lqr 11 332 (some (1, 213, 1, 26064)) = true := ri_lqm (ri_lk_a (k := 1629) (by eq_refl) ri_d213_1 (by eq_refl) (ri_G7 (i := 26) (by eq_refl) (by eq_refl)))
set_option maxRecDepth 100000 in
theorem ri_l11_335 : ri_lqr 11 335 (some (1, 234, 1, 26640)) = true := ri_lqm (ri_lk_a (k := 1665) (by eq_refl) ri_d234_1 (by eq_refl) (ri_G7 (i := 62) (by eq_refl) (by eq_refl)))
set_option maxRecDepth 100000 in
theorem ri_l11_338 : ri_lqr 11 338 (some (1, 235, 3, 26688)) = true := ri_lqm (ri_lk_a (k := 1668) (by eq_refl) ri_d235_3 (by eq_refl) (ri_G7 (i := 65) (by eq_refl) (by eq_refl)))
set_option maxRecDepth 100000 in
theorem ri_l11_342 : ri_lqr 11 342 (some (1, 240, 2, 26880)) = true := ri_lqm (ri_lk_a (k := 1680) (by eq_refl) ri_d240_2 (by eq_refl) (ri_G7 (i := 77) (by eq_refl) (by eq_refl)))
set_option maxRecDepth 100000 in
theorem ri_l11_345 : ri_lqr 11 345 (some (0, 11, 27, 2578)) = true := ri_lqf (m := 1289) ri_vc11 (by eq_refl) (by eq_refl) (ri_G5 (i := 166) (by eq_refl) (by eq_refl))
set_option maxRecDepth 100000 in
theorem ri_l11_348 : ri_lqr 11 348 (some (0, 11, 28, 2580)) = true := ri_lqf (m := 1290) ri_vc11 (by eq_refl) (by eq_refl) (ri_G5 (i := 167) (by eq_refl) (by eq_refl))
set_option maxRecDepth 100000 in
theorem ri_l11_351 : ri_lqr 11 351 (some (0, 11, 29, 2582)) = true := ri_lqf (m := 1291) ri_vc11 (by eq_refl) (by eq_refl) (ri_G5 (i := 168) (by eq_refl) (by eq_refl))
set_option maxRecDepth 100000 in
theorem ri_l11_354 : ri_lqr 11 354 (some (1, 243, 1, 27072)) = true := ri_lqm (ri_lk_a (k := 1692) (by eq_refl) ri_d243_1 (by eq_refl) (ri_G7 (i := 89) (by eq_refl) (by eq_refl)))
set_option maxRecDepth 100000 in
theorem ri_l11_357 : ri_lqr 11 357 (some (1, 170, 1, 27264)) = true := ri_lqm (ri_lk_a (k := 1704) (by eq_refl) ri_d170_1 (by eq_refl) (ri_G7 (i := 101) (by eq_refl) (by eq_refl)))
set_option maxRecDepth 100000 in
theorem ri_l11_361 : ri_lqr 11 361 (some (1, 247, 2, 27376)) = true := ri_lqm (ri_lk_a (k := 1711) (by eq_refl) ri_d247_2 (by eq_refl) (ri_G7 (i := 108) (by eq_refl) (by eq_refl)))
set_option maxRecDepth 100000 in
theorem ri_l11_364 : ri_lqr 11 364 (some (1, 249, 0, 27504)) = true := ri_lqm (ri_lk_a (k := 1719) (by eq_refl) ri_d249_0 (by eq_refl) (ri_G7 (i := 116) (by eq_refl) (by eq_refl)))
set_option maxRecDepth 100000 in
theorem ri_l11_367 : ri_lqr 11 367 (some (1, 250, 2, 27568)) = true := ri_lqm (ri_lk_a (k := 1723) (by eq_refl) ri_d250_2 (by eq_refl) (ri_G7 (i := 120) (by eq_refl) (by eq_refl)))
set_option maxRecDepth 100000 in
theorem ri_l11_370 : ri_lqr 11 370 (some (0, 11, 33, 2590)) = true := ri_lqf (m := 1295) ri_vc11 (by eq_refl) (by eq_refl) (ri_G5 (i := 172) (by eq_refl) (by eq_refl))
set_option maxRecDepth 100000 in
theorem ri_l11_373 : ri_lqr 11 373 (some (0, 11, 34, 2592)) = true := ri_lqf (m := 1296) ri_vc11 (by eq_refl) (by eq_refl) (ri_G5 (i := 173) (by eq_refl) (by eq_refl))
set_option maxRecDepth 100000 in
theorem ri_l11_376 : ri_lqr 11 376 (some (0, 11, 35, 2594)) = true := ri_lqf (m := 1297) ri_vc11 (by eq_refl) (by eq_refl) (ri_G5 (i := 174) (by eq_refl) (by eq_refl))
set_option maxRecDepth 100000 in
theorem ri_l11_379 : ri_lqr 11 379 (some (1, 258, 3, 28144)) = true := ri_lqm (ri_lk_a (k := 1759) (by eq_refl) ri_d258_3 (by eq_refl) (ri_G7 (i := 156) (by eq_refl) (by eq_refl)))
set_option maxRecDepth 100000 in
theorem ri_l11_383 : ri_lqr 11 383 (some (1, 257, 0, 28016)) = true := ri_lqm (ri_lk_a (k := 1751) (by eq_refl) ri_d257_0 (by eq_refl) (ri_G7 (i := 148) (by eq_refl) (by eq_refl)))
set_option maxRecDepth 100000 in
theorem ri_l11_386 : ri_lqr 11 386 (some (1, 259, 1, 28080)) = true := ri_lqm (ri_lk_a (k := 1755) (by eq_refl) ri_d259_1 (by eq_refl) (ri_G7 (i := 152) (by eq_refl) (by eq_refl)))
set_option maxRecDepth 100000 in
theorem ri_l11_389 : ri_lqr 11 389 (some (1, 260, 2, 28208)) = true := ri_lqm (ri_lk_a (k := 1763) (by eq_refl) ri_d260_2 (by eq_refl) (ri_G7 (i := 160) (by eq_refl) (by eq_refl)))
set_option maxRecDepth 100000 in
theorem ri_l11_392 : ri_lqr 11 392 (some (1, 261, 1, 28384)) = true := ri_lqm (ri_lk_a (k := 1774) (by eq_refl) ri_d261_1 (by eq_refl) (ri_G7 (i := 171) (by eq_refl) (by eq_refl)))
set_option maxRecDepth 100000 in
theorem ri_l11_396 : ri_lqr 11 396 (some (1, 265, 1, 28512)) = true := ri_lqm (ri_lk_a (k := 1782) (by eq_refl) ri_d265_1 (by eq_refl) (ri_G7 (i := 179) (by eq_refl) (by eq_refl)))
set_option maxRecDepth 100000 in
theorem ri_l11_399 : ri_lqr 11 399 (some (1, 266, 1, 28576)) = true := ri_lqm (ri_lk_a (k := 1786) (by eq_refl) ri_d266_1 (by eq_refl) (ri_G7 (i := 183) (by eq_refl) (by eq_refl)))
set_option maxRecDepth 100000 in
theorem ri_l11_402 : ri_lqr 11 402 (some (1, 267, 1, 28640)) = true := ri_lqm (ri_lk_a (k := 1790) (by eq_refl) ri_d267_1 (by eq_refl) (ri_G7 (i := 187) (by eq_refl) (by eq_refl)))
set_option maxRecDepth 100000 in
theorem ri_l11_405 : ri_lqr 11 405 (some (1, 268, 1, 28704)) = true := ri_lqm (ri_lk_a (k := 1794) (by eq_refl) ri_d268_1 (by eq_refl) (ri_G7 (i := 191) (by eq_refl) (by eq_refl)))
theorem ri_lf11 : ∀ i, ri_lqr 11 i (ri_lt11 i) = true := fun i => ri_bt (ri_bt (ri_bt (ri_bt (ri_bt (ri_bt (ri_bl ri_l11_7) (ri_bt (ri_bl ri_l11_13) (ri_bl ri_l11_17))) (ri_bt (ri_bl ri_l11_20) (ri_bt (ri_bl ri_l11_23) (ri_bl ri_l11_26)))) (ri_bt (ri_bt (ri_bl ri_l11_29) (ri_bt (ri_bl ri_l11_32) (ri_bl ri_l11_35))) (ri_bt (ri_bt (ri_bl ri_l11_39) (ri_bl ri_l11_42)) (ri_bt (ri_bl ri_l11_45) (ri_bl ri_l11_48))))) (ri_bt (ri_bt (ri_bt (ri_bl ri_l11_52) (ri_bt (ri_bl ri_l11_55) (ri_bl ri_l11_58))) (ri_bt (ri_bt (ri_bl ri_l11_61) (ri_bl ri_l11_64)) (ri_bt (ri_bl ri_l11_67) (ri_bl ri_l11_70)))) (ri_bt (ri_bt (ri_bl ri_l11_74) (ri_bt (ri_bl ri_l11_78) (ri_bl ri_l11_81))) (ri_bt (ri_bt (ri_bl ri_l11_84) (ri_bl ri_l11_88)) (ri_bt (ri_bl ri_l11_92) (ri_bl ri_l11_96)))))) (ri_bt (ri_bt (ri_bt (ri_bt (ri_bl ri_l11_99) (ri_bt (ri_bl ri_l11_102) (ri_bl ri_l11_106))) (ri_bt (ri_bt (ri_bl ri_l11_109) (ri_bl ri_l11_129)) (ri_bt (ri_bl ri_l11_132) (ri_bl ri_l11_135)))) (ri_bt (ri_bt (ri_bl ri_l11_138) (ri_bt (ri_bl ri_l11_141) (ri_bl ri_l11_145))) (ri_bt (ri_bt (ri_bl ri_l11_150) (ri_bl ri_l11_153)) (ri_bt (ri_bl ri_l11_156) (ri_bl ri_l11_159))))) (ri_bt (ri_bt (ri_bt (ri_bl ri_l11_163) (ri_bt (ri_bl ri_l11_166) (ri_bl ri_l11_171))) (ri_bt (ri_bt (ri_bl ri_l11_174) (ri_bl ri_l11_177)) (ri_bt (ri_bl ri_l11_180) (ri_bl ri_l11_183)))) (ri_bt (ri_bt (ri_bl ri_l11_186) (ri_bt (ri_bl ri_l11_195) (ri_bl ri_l11_198))) (ri_bt (ri_bt (ri_bl ri_l11_201) (ri_bl ri_l11_204)) (ri_bt (ri_bl ri_l11_209) (ri_bl ri_l11_214))))))) (ri_bt (ri_bt (ri_bt (ri_bt (ri_bt (ri_bl ri_l11_217) (ri_bt (ri_bl ri_l11_224) (ri_bl ri_l11_227))) (ri_bt (ri_bl ri_l11_230) (ri_bt (ri_bl ri_l11_233) (ri_bl ri_l11_236)))) (ri_bt (ri_bt (ri_bl ri_l11_239) (ri_bt (ri_bl ri_l11_242) (ri_bl ri_l11_245))) (ri_bt (ri_bt (ri_bl ri_l11_248) (ri_bl ri_l11_252)) (ri_bt (ri_bl ri_l11_256) (ri_bl ri_l11_260))))) (ri_bt (ri_bt (ri_bt (ri_bl ri_l11_265) (ri_bt (ri_bl ri_l11_268) (ri_bl ri_l11_271))) (ri_bt (ri_bt (ri_bl ri_l11_275) (ri_bl ri_l11_279)) (ri_bt (ri_bl ri_l11_283) (ri_bl ri_l11_286)))) (ri_bt (ri_bt (ri_bl ri_l11_292) (ri_bt (ri_bl ri_l11_295) (ri_bl ri_l11_298))) (ri_bt (ri_bt (ri_bl ri_l11_301) (ri_bl ri_l11_310)) (ri_bt (ri_bl ri_l11_313) (ri_bl ri_l11_317)))))) (ri_bt (ri_bt (ri_bt (ri_bt (ri_bl ri_l11_320) (ri_bt (ri_bl ri_l11_323) (ri_bl ri_l11_326))) (ri_bt (ri_bt (ri_bl ri_l11_329) (ri_bl ri_l11_332)) (ri_bt (ri_bl ri_l11_335) (ri_bl ri_l11_338)))) (ri_bt (ri_bt (ri_bl ri_l11_342) (ri_bt (ri_bl ri_l11_345) (ri_bl ri_l11_348))) (ri_bt (ri_bt (ri_bl ri_l11_351) (ri_bl ri_l11_354)) (ri_bt (ri_bl ri_l11_357) (ri_bl ri_l11_361))))) (ri_bt (ri_bt (ri_bt (ri_bl ri_l11_364) (ri_bt (ri_bl ri_l11_367) (ri_bl ri_l11_370))) (ri_bt (ri_bt (ri_bl ri_l11_373) (ri_bl ri_l11_376)) (ri_bt (ri_bl ri_l11_379) (ri_bl ri_l11_383)))) (ri_bt (ri_bt (ri_bl ri_l11_386) (ri_bt (ri_bl ri_l11_389) (ri_bl ri_l11_392))) (ri_bt (ri_bt (ri_bl ri_l11_396) (ri_bl ri_l11_399)) (ri_bt (ri_bl ri_l11_402) (ri_bl ri_l11_405)))))))
set_option maxRecDepth 100000 in
theorem ri_l12_9 : ri_lqr 12 9 (some (1, 102, 0, 2960)) = true := ri_lqm (ri_lk_a (k := 185) (by eq_refl) ri_d102_0 (by eq_refl) (ri_G1 (i := 22) (by eq_refl) (by eq_refl)))
set_option maxRecDepth 100000 in
theorem ri_l12_12 : ri_lqr 12 12 (some (1, 168, 0, 20128)) = true := ri_lqm (ri_lk_a (k := 1258) (by eq_refl) ri_d168_0 (by eq_refl) (ri_G5 (i := 135) (by eq_refl) (by eq_refl)))
set_option maxRecDepth 100000 in
theorem ri_l12_13 : ri_lqr 12 13 (some (1, 103, 5, 7872)) = true := ri_lqm (ri_lk_a (k := 492) (by eq_refl) ri_d103_5 (by eq_refl) (ri_G2 (i := 89) (by eq_refl) (by eq_refl)))
set_option maxRecDepth 100000 in
theorem ri_l12_17 : ri_lqr 12 17 (some (1, 172, 5, 22080)) = true := ri_lqm (ri_lk_a (k := 1380) (by eq_refl) ri_d172_5 (by eq_refl) (ri_G6 (i := 17) (by eq_refl) (by eq_refl)))
set_option maxRecDepth 100000 in
theorem ri_l12_18 : ri_lqr 12 18 (some (1, 104, 1, 8048)) = true := ri_lqm (ri_lk_a (k := 503) (by eq_refl) ri_d104_1 (by eq_refl) (ri_G2 (i := 100) (by eq_refl) (by eq_refl)))
set_option maxRecDepth 100000 in
theorem ri_l12_22 : ri_lqr 12 22 (some (1, 173, 1, 22208)) = true := ri_lqm (ri_lk_a (k := 1388) (by eq_refl) ri_d173_1 (by eq_refl) (ri_G6 (i := 25) (by eq_refl) (by eq_refl)))
set_option maxRecDepth 100000 in
theorem ri_l12_23 : ri_lqr 12 23 (some (1, 105, 0, 8112)) = true := ri_lqm (ri_lk_a (k := 507) (by eq_refl) ri_d105_0 (by eq_refl) (ri_G2 (i := 104) (by eq_refl) (by eq_refl)))
set_option maxRecDepth 100000 in
theorem ri_l12_27 : ri_lqr 12 27 (some (1, 203, 0, 24432)) = true := ri_lqm (ri_lk_a (k := 1527) (by eq_refl) ri_d203_0 (by eq_refl) (ri_G6 (i := 164) (by eq_refl) (by eq_refl)))
set_option maxRecDepth 100000 in
theorem ri_l12_28 : ri_lqr 12 28 (some (1, 106, 0, 11360)) = true := ri_lqm (ri_lk_a (k := 710) (by eq_refl) ri_d106_0 (by eq_refl) (ri_G3 (i := 67) (by eq_refl) (by eq_refl)))
set_option maxRecDepth 100000 in
theorem ri_l12_31 : ri_lqr 12 31 (some (1, 202, 0, 22272)) = true := ri_lqm (ri_lk_a (k := 1392) (by eq_refl) ri_d202_0 (by eq_refl) (ri_G6 (i := 29) (by eq_refl) (by eq_refl)))
set_option maxRecDepth 100000 in
theorem ri_l12_32 : ri_lqr 12 32 (some (1, 107, 3, 12160)) = true := ri_lqm (ri_lk_a (k := 760) (by eq_refl) ri_d107_3 (by eq_refl) (ri_G3 (i := 117) (by eq_refl) (by eq_refl)))
set_option maxRecDepth 100000 in
theorem ri_l12_36 : ri_lqr 12 36 (some (1, 218, 3, 24560)) = true := ri_lqm (ri_lk_a (k := 1535) (by eq_refl) ri_d218_3 (by eq_refl) (ri_G6 (i := 172) (by eq_refl) (by eq_refl)))
set_option maxRecDepth 100000 in
theorem ri_l12_37 : ri_lqr 12 37 (some (1, 108, 4, 12464)) = true := ri_lqm (ri_lk_a (k := 779) (by eq_refl) ri_d108_4 (by eq_refl) (ri_G3 (i := 136) (by eq_refl) (by eq_refl)))
set_option maxRecDepth 100000 in
theorem ri_l12_41 : ri_lqr 12 41 (some (1, 222, 4, 24832)) = true := ri_lqm (ri_lk_a (k := 1552) (by eq_refl) ri_d222_4 (by eq_refl) (ri_G6 (i := 189) (by eq_refl) (by eq_refl)))
set_option maxRecDepth 100000 in
theorem ri_l12_42 : ri_lqr 12 42 (some (1, 109, 4, 13568)) = true := ri_lqm (ri_lk_a (k := 848) (by eq_refl) ri_d109_4 (by eq_refl) (ri_G3 (i := 205) (by eq_refl) (by eq_refl)))
set_option maxRecDepth 100000 in
theorem ri_l12_46 : ri_lqr 12 46 (some (1, 224, 4, 25392)) = true := ri_lqm (ri_lk_a (k := 1587) (by eq_refl) ri_d224_4 (by eq_refl) (ri_G6 (i := 224) (by eq_refl) (by eq_refl)))
set_option maxRecDepth 100000 in
theorem ri_l12_47 : ri_lqr 12 47 (some (1, 110, 2, 13840)) = true := ri_lqm (ri_lk_a (k := 865) (by eq_refl) ri_d110_2 (by eq_refl) (ri_G3 (i := 222) (by eq_refl) (by eq_refl)))
set_option maxRecDepth 100000 in
theorem ri_l12_51 : ri_lqr 12 51 (some (1, 225, 2, 25632)) = true := ri_lqm (ri_lk_a (k := 1602) (by eq_refl) ri_d225_2 (by eq_refl) (ri_G6 (i := 239) (by eq_refl) (by eq_refl)))
set_option maxRecDepth 100000 in
theorem ri_l12_52 : ri_lqr 12 52 (some (1, 111, 2, 14048)) = true := ri_lqm (ri_lk_a (k := 878) (by eq_refl) ri_d111_2 (by eq_refl) (ri_G3 (i := 235) (by eq_refl) (by eq_refl)))
set_option maxRecDepth 100000 in
theorem ri_l12_56 : ri_lqr 12 56 (some (1, 226, 2, 25776)) = true := ri_lqm (ri_lk_a (k := 1611) (by eq_refl) ri_d226_2 (by eq_refl) (ri_G7 (i := 8) (by eq_refl) (by eq_refl)))
set_option maxRecDepth 100000 in
theorem ri_l12_57 : ri_lqr 12 57 (some (1, 112, 1, 14176)) = true := ri_lqm (ri_lk_a (k := 886) (by eq_refl) ri_d112_1 (by eq_refl) (ri_G4 (i := 3) (by eq_refl) (by eq_refl)))
set_option maxRecDepth 100000 in
theorem ri_l12_60 : ri_lqr 12 60 (some (1, 227, 1, 25840)) = true := ri_lqm (ri_lk_a (k := 1615) (by eq_refl) ri_d227_1 (by eq_refl) (ri_G7 (i := 12) (by eq_refl) (by eq_refl)))
set_option maxRecDepth 100000 in
theorem ri_l12_61 : ri_lqr 12 61 (some (1, 114, 3, 14304)) = true := ri_lqm (ri_lk_a (k := 894) (by eq_refl) ri_d114_3 (by eq_refl) (ri_G4 (i := 11) (by eq_refl) (by eq_refl)))
set_option maxRecDepth 100000 in
theorem ri_l12_64 : ri_lqr 12 64 (some (1, 236, 3, 25936)) = true := ri_lqm (ri_lk_a (k := 1621) (by eq_refl) ri_d236_3 (by eq_refl) (ri_G7 (i := 18) (by eq_refl) (by eq_refl)))
set_option maxRecDepth 100000 in
theorem ri_l12_65 : ri_lqr 12 65 (some (1, 115, 2, 14624)) = true := ri_lqm (ri_lk_a (k := 914) (by eq_refl) ri_d115_2 (by eq_refl) (ri_G4 (i := 31) (by eq_refl) (by eq_refl)))
set_option maxRecDepth 100000 in
theorem ri_l12_68 : ri_lqr 12 68 (some (1, 237, 2, 26384)) = true := ri_lqm (ri_lk_a (k := 1649) (by eq_refl) ri_d237_2 (by eq_refl) (ri_G7 (i := 46) (by eq_refl) (by eq_refl)))
set_option maxRecDepth 100000 in
theorem ri_l12_69 : ri_lqr 12 69 (some (1, 116, 2, 15056)) = true := ri_lqm (ri_lk_a (k := 941) (by eq_refl) ri_d116_2 (by eq_refl) (ri_G4 (i := 58) (by eq_refl) (by eq_refl)))
set_option maxRecDepth 100000 in
theorem ri_l12_72 : ri_lqr 12 72 (some (1, 238, 2, 26576)) = true := ri_lqm (ri_lk_a (k := 1661) (by eq_refl) ri_d238_2 (by eq_refl) (ri_G7 (i := 58) (by eq_refl) (by eq_refl)))
set_option maxRecDepth 100000 in
theorem ri_l12_73 : ri_lqr 12 73 (some (1, 117, 3, 15504)) = true := ri_lqm (ri_lk_a (k := 969) (by eq_refl) ri_d117_3 (by eq_refl) (ri_G4 (i := 86) (by eq_refl) (by eq_refl)))
set_option maxRecDepth 100000 in
theorem ri_l12_76 : ri_lqr 12 76 (some (1, 239, 3, 26752)) = true := ri_lqm (ri_lk_a (k := 1672) (by eq_refl) ri_d239_3 (by eq_refl) (ri_G7 (i := 69) (by eq_refl) (by eq_refl)))
set_option maxRecDepth 100000 in
theorem ri_l12_77 : ri_lqr 12 77 (some (1, 118, 4, 15568)) = true := ri_lqm (ri_lk_a (k := 973) (by eq_refl) ri_d118_4 (by eq_refl) (ri_G4 (i := 90) (by eq_refl) (by eq_refl)))
set_option maxRecDepth 100000 in
theorem ri_l12_80 : ri_lqr 12 80 (some (1, 241, 4, 26816)) = true := ri_lqm (ri_lk_a (k := 1676) (by eq_refl) ri_d241_4 (by eq_refl) (ri_G7 (i := 73) (by eq_refl) (by eq_refl)))
set_option maxRecDepth 100000 in
theorem ri_l12_81 : ri_lqr 12 81 (some (1, 119, 2, 15696)) = true := ri_lqm (ri_lk_a (k := 981) (by eq_refl) ri_d119_2 (by eq_refl) (ri_G4 (i := 98) (by eq_refl) (by eq_refl)))
set_option maxRecDepth 100000 in
theorem ri_l12_84 : ri_lqr 12 84 (some (1, 242, 2, 26944)) = true := ri_lqm (ri_lk_a (k := 1684) (by eq_refl) ri_d242_2 (by eq_refl) (ri_G7 (i := 81) (by eq_refl) (by eq_refl)))
set_option maxRecDepth 100000 in
theorem ri_l12_85 : ri_lqr 12 85 (some (1, 120, 2, 15904)) = true := ri_lqm (ri_lk_a (k := 994) (by eq_refl) ri_d120_2 (by eq_refl) (ri_G4 (i := 111) (by eq_refl) (by eq_refl)))
set_option maxRecDepth 100000 in
theorem ri_l12_88 : ri_lqr 12 88 (some (1, 244, 2, 27008)) = true := ri_lqm (ri_lk_a (k := 1688) (by eq_refl) ri_d244_2 (by eq_refl) (ri_G7 (i := 85) (by eq_refl) (by eq_refl)))
set_option maxRecDepth 100000 in
theorem ri_l12_89 : ri_lqr 12 89 (some (1, 121, 1, 16096)) = true := ri_lqm (ri_lk_a (k := 1006) (by eq_refl) ri_d121_1 (by eq_refl) (ri_G4 (i := 123) (by eq_refl) (by eq_refl)))
set_option maxRecDepth 100000 in
theorem ri_l12_93 : ri_lqr 12 93 (some (1, 245, 1, 27136)) = true := ri_lqm (ri_lk_a (k := 1696) (by eq_refl) ri_d245_1 (by eq_refl) (ri_G7 (i := 93) (by eq_refl) (by eq_refl)))
set_option maxRecDepth 100000 in
theorem ri_l12_94 : ri_lqr 12 94 (some (1, 122, 1, 16176)) = true := ri_lqm (ri_lk_a (k := 1011) (by eq_refl) ri_d122_1 (by eq_refl) (ri_G4 (i := 128) (by eq_refl) (by eq_refl)))
set_option maxRecDepth 100000 in
theorem ri_l12_97 : ri_lqr 12 97 (some (1, 246, 1, 27200)) = true := ri_lqm (ri_lk_a (k := 1700) (by eq_refl) ri_d246_1 (by eq_refl) (ri_G7 (i := 97) (by eq_refl) (by eq_refl)))
set_option maxRecDepth 100000 in
theorem ri_l12_98 : ri_lqr 12 98 (some (1, 123, 1, 16448)) = true := ri_lqm (ri_lk_a (k := 1028) (by eq_refl) ri_d123_1 (by eq_refl) (ri_G4 (i := 145) (by eq_refl) (by eq_refl)))
set_option maxRecDepth 100000 in
theorem ri_l12_101 : ri_lqr 12 101 (some (1, 248, 1, 27312)) = true := ri_lqm (ri_lk_a (k := 1707) (by eq_refl) ri_d248_1 (by eq_refl) (ri_G7 (i := 104) (by eq_refl) (by eq_refl)))
set_option maxRecDepth 100000 in
theorem ri_l12_102 : ri_lqr 12 102 (some (1, 124, 2, 16704)) = true := ri_lqm (ri_lk_a (k := 1044) (by eq_refl) ri_d124_2 (by eq_refl) (ri_G4 (i := 161) (by eq_refl) (by eq_refl)))
set_option maxRecDepth 100000 in
theorem ri_l12_105 : ri_lqr 12 105 (some (1, 251, 2, 27440)) = true := ri_lqm (ri_lk_a (k := 1715) (by eq_refl) ri_d251_2 (by eq_refl) (ri_G7 (i := 112) (by eq_refl) (by eq_refl)))
set_option maxRecDepth 100000 in
theorem ri_l12_106 : ri_lqr 12 106 (some (1, 125, 3, 16896)) = true := ri_lqm (ri_lk_a (k := 1056) (by eq_refl) ri_d125_3 (by eq_refl) (ri_G4 (i := 173) (by eq_refl) (by eq_refl)))
set_option maxRecDepth 100000 in
theorem ri_l12_109 : ri_lqr 12 109 (some (1, 252, 3, 27632)) = true := ri_lqm (ri_lk_a (k := 1727) (by eq_refl) ri_d252_3 (by eq_refl) (ri_G7 (i := 124) (by eq_refl) (by eq_refl)))
set_option maxRecDepth 100000 in
theorem ri_l12_110 : ri_lqr 12 110 (some (1, 126, 3, 17024)) = true := ri_lqm (ri_lk_a (k := 1064) (by eq_refl) ri_d126_3 (by eq_refl) (ri_G4 (i := 181) (by eq_refl) (by eq_refl)))
set_option maxRecDepth 100000 in
theorem ri_l12_113 : ri_lqr 12 113 (some (1, 253, 3, 27696)) = true := ri_lqm (ri_lk_a (k := 1731) (by eq_refl) ri_d253_3 (by eq_refl) (ri_G7 (i := 128) (by eq_refl) (by eq_refl)))
set_option maxRecDepth 100000 in
theorem ri_l12_114 : ri_lqr 12 114 (some (1, 127, 3, 17152)) = true := ri_lqm (ri_lk_a (k := 1072) (by eq_refl) ri_d127_3 (by eq_refl) (ri_G4 (i := 189) (by eq_refl) (by eq_refl)))
set_option maxRecDepth 100000 in
theorem ri_l12_117 : ri_lqr 12 117 (some (1, 254, 3, 27760)) = true := ri_lqm (ri_lk_a (k := 1735) (by eq_refl) ri_d254_3 (by eq_refl) (ri_G7 (i := 132) (by eq_refl) (by eq_refl)))
set_option maxRecDepth 100000 in
theorem ri_l12_118 : ri_lqr 12 118 (some (1, 128, 2, 17280)) = true := ri_lqm (ri_lk_a (k := 1080) (by eq_refl) ri_d128_2 (by eq_refl) (ri_G4 (i := 197) (by eq_refl) (by eq_refl)))
set_option maxRecDepth 100000 in
theorem ri_l12_121 : ri_lqr 12 121 (some (1, 255, 2, 27824)) = true := ri_lqm (ri_lk_a (k := 1739) (by eq_refl) ri_d255_2 (by eq_refl) (ri_G7 (i := 136) (by eq_refl) (by eq_refl)))
set_option maxRecDepth 100000 in
theorem ri_l12_122 : ri_lqr 12 122 (some (1, 129, 3, 17344)) = true := ri_lqm (ri_lk_a (k := 1084) (by eq_refl) ri_d129_3 (by eq_refl) (ri_G4 (i := 201) (by eq_refl) (by eq_refl)))
set_option maxRecDepth 100000 in
theorem ri_l12_125 : ri_lqr 12 125 (some (1, 256, 3, 27888)) = true := ri_lqm (ri_lk_a (k := 1743) (by eq_refl) ri_d256_3 (by eq_refl) (ri_G7 (i := 140) (by eq_refl) (by eq_refl)))
set_option maxRecDepth 100000 in
theorem ri_l12_126 : ri_lqr 12 126 (some (1, 131, 3, 17472)) = true := ri_lqm (ri_lk_a (k := 1092) (by eq_refl) ri_d131_3 (by eq_refl) (ri_G4 (i := 209) (by eq_refl) (by eq_refl)))
set_option maxRecDepth 100000 in
theorem ri_l12_129 : ri_lqr 12 129 (some (1, 262, 3, 27952)) = true := ri_lqm (ri_lk_a (k := 1747) (by eq_refl) ri_d262_3 (by eq_refl) (ri_G7 (i := 144) (by eq_refl) (by eq_refl)))
set_option maxRecDepth 100000 in
theorem ri_l12_130 : ri_lqr 12 130 (some (1, 130, 3, 17408)) = true := ri_lqm (ri_lk_a (k := 1088) (by eq_refl) ri_d130_3 (by eq_refl) (ri_G4 (i := 205) (by eq_refl) (by eq_refl)))
set_option maxRecDepth 100000 in
theorem ri_l12_133 : ri_lqr 12 133 (some (1, 263, 3, 28256)) = true := ri_lqm (ri_lk_a (k := 1766) (by eq_refl) ri_d263_3 (by eq_refl) (ri_G7 (i := 163) (by eq_refl) (by eq_refl)))
set_option maxRecDepth 100000 in
theorem ri_l12_134 : ri_lqr 12 134 (some (1, 132, 4, 17952)) = true := ri_lqm (ri_lk_a (k := 1122) (by eq_refl) ri_d132_4 (by eq_refl) (ri_G4 (i := 239) (by eq_refl) (by eq_refl)))
set_option maxRecDepth 100000 in
theorem ri_l12_137 : ri_lqr 12 137 (some (1, 264, 4, 28320)) = true := ri_lqm (ri_lk_a (k := 1770) (by eq_refl) ri_d264_4 (by eq_refl) (ri_G7 (i := 167) (by eq_refl) (by eq_refl)))
set_option maxRecDepth 100000 in
theorem ri_l12_138 : ri_lqr 12 138 (some (1, 133, 2, 18256)) = true := ri_lqm (ri_lk_a (k := 1141) (by eq_refl) ri_d133_2 (by eq_refl) (ri_G5 (i := 18) (by eq_refl) (by eq_refl)))
set_option maxRecDepth 100000 in
theorem ri_l12_141 : ri_lqr 12 141 (some (1, 269, 2, 28448)) = true := ri_lqm (ri_lk_a (k := 1778) (by eq_refl) ri_d269_2 (by eq_refl) (ri_G7 (i := 175) (by eq_refl) (by eq_refl)))
set_option maxRecDepth 100000 in
theorem ri_l12_142 : ri_lqr 12 142 (some (1, 134, 5, 18704)) = true := ri_lqm (ri_lk_a (k := 1169) (by eq_refl) ri_d134_5 (by eq_refl) (ri_G5 (i := 46) (by eq_refl) (by eq_refl)))
set_option maxRecDepth 100000 in
theorem ri_l12_145 : ri_lqr 12 145 (some (1, 270, 5, 28768)) = true := ri_lqm (ri_lk_a (k := 1798) (by eq_refl) ri_d270_5 (by eq_refl) (ri_G7 (i := 195) (by eq_refl) (by eq_refl)))
set_option maxRecDepth 100000 in
theorem ri_l12_146 : ri_lqr 12 146 (some (1, 113, 1, 14240)) = true := ri_lqm (ri_lk_a (k := 890) (by eq_refl) ri_d113_1 (by eq_refl) (ri_G4 (i := 7) (by eq_refl) (by eq_refl)))
set_option maxRecDepth 100000 in
theorem ri_l12_149 : ri_lqr 12 149 (some (1, 271, 1, 28832)) = true := ri_lqm (ri_lk_a (k := 1802) (by eq_refl) ri_d271_1 (by eq_refl) (ri_G7 (i := 199) (by eq_refl) (by eq_refl)))
set_option maxRecDepth 100000 in
theorem ri_l12_150 : ri_lqr 12 150 (some (1, 135, 1, 18912)) = true := ri_lqm (ri_lk_a (k := 1182) (by eq_refl) ri_d135_1 (by eq_refl) (ri_G5 (i := 59) (by eq_refl) (by eq_refl)))
set_option maxRecDepth 100000 in
theorem ri_l12_153 : ri_lqr 12 153 (some (1, 272, 1, 28896)) = true := ri_lqm (ri_lk_a (k := 1806) (by eq_refl) ri_d272_1 (by eq_refl) (ri_G7 (i := 203) (by eq_refl) (by eq_refl)))
set_option maxRecDepth 100000 in
theorem ri_l12_154 : ri_lqr 12 154 (some (1, 136, 3, 18976)) = true := ri_lqm (ri_lk_a (k := 1186) (by eq_refl) ri_d136_3 (by eq_refl) (ri_G5 (i := 63) (by eq_refl) (by eq_refl)))
set_option maxRecDepth 100000 in
theorem ri_l12_157 : ri_lqr 12 157 (some (1, 273, 3, 28960)) = true := ri_lqm (ri_lk_a (k := 1810) (by eq_refl) ri_d273_3 (by eq_refl) (ri_G7 (i := 207) (by eq_refl) (by eq_refl)))
set_option maxRecDepth 100000 in
theorem ri_l12_158 : ri_lqr 12 158 (some (1, 137, 1, 19472)) = true := ri_lqm (ri_lk_a (k := 1217) (by eq_refl) ri_d137_1 (by eq_refl) (ri_G5 (i := 94) (by eq_refl) (by eq_refl)))
set_option maxRecDepth 100000 in
theorem ri_l12_161 : ri_lqr 12 161 (some (1, 274, 1, 29104)) = true := ri_lqm (ri_lk_a (k := 1819) (by eq_refl) ri_d274_1 (by eq_refl) (ri_G7 (i := 216) (by eq_refl) (by eq_refl)))
set_option maxRecDepth 100000 in
theorem ri_l12_162 : ri_lqr 12 162 (some (1, 138, 4, 19600)) = true := ri_lqm (ri_lk_a (k := 1225) (by eq_refl) ri_d138_4 (by eq_refl) (ri_G5 (i := 102) (by eq_refl) (by eq_refl)))
set_option maxRecDepth 100000 in
theorem ri_l12_165 : ri_lqr 12 165 (some (1, 275, 4, 29168)) = true := ri_lqm (ri_lk_a (k := 1823) (by eq_refl) ri_d275_4 (by eq_refl) (ri_G7 (i := 220) (by eq_refl) (by eq_refl)))
set_option maxRecDepth 100000 in
theorem ri_l12_166 : ri_lqr 12 166 (some (1, 139, 1, 19664)) = true := ri_lqm (ri_lk_a (k := 1229) (by eq_refl) ri_d139_1 (by eq_refl) (ri_G5 (i := 106) (by eq_refl) (by eq_refl)))
set_option maxRecDepth 100000 in
theorem ri_l12_169 : ri_lqr 12 169 (some (1, 276, 1, 29232)) = true := ri_lqm (ri_lk_a (k := 1827) (by eq_refl) ri_d276_1 (by eq_refl) (ri_G7 (i := 224) (by eq_refl) (by eq_refl)))
set_option maxRecDepth 100000 in
theorem ri_l12_170 : ri_lqr 12 170 (some (1, 140, 1, 19888)) = true := ri_lqm (ri_lk_a (k := 1243) (by eq_refl) ri_d140_1 (by eq_refl) (ri_G5 (i := 120) (by eq_refl) (by eq_refl)))
set_option maxRecDepth 100000 in
theorem ri_l12_173 : ri_lqr 12 173 (some (1, 277, 1, 29296)) = true := ri_lqm (ri_lk_a (k := 1831) (by eq_refl) ri_d277_1 (by eq_refl) (ri_G7 (i := 228) (by eq_refl) (by eq_refl)))
set_option maxRecDepth 100000 in
theorem ri_l12_174 : ri_lqr 12 174 (some (1, 141, 1, 20032)) = true := ri_lqm (ri_lk_a (k := 1252) (by eq_refl) ri_d141_1 (by eq_refl) (ri_G5 (i := 129) (by eq_refl) (by eq_refl)))
set_option maxRecDepth 100000 in
theorem ri_l12_177 : ri_lqr 12 177 (some (1, 278, 1, 29376)) = true := ri_lqm (ri_lk_a (k := 1836) (by eq_refl) ri_d278_1 (by eq_refl) (ri_G7 (i := 233) (by eq_refl) (by eq_refl)))
theorem ri_lf12 : ∀ i, ri_lqr 12 i (ri_lt12 i) = true := fun i => ri_bt (ri_bt (ri_bt (ri_bt (ri_bt (ri_bt (ri_bl ri_l12_9) (ri_bl ri_l12_12)) (ri_bt (ri_bl ri_l12_13) (ri_bt (ri_bl ri_l12_17) (ri_bl ri_l12_18)))) (ri_bt (ri_bt (ri_bl ri_l12_22) (ri_bl ri_l12_23)) (ri_bt (ri_bl ri_l12_27) (ri_bt (ri_bl ri_l12_28) (ri_bl ri_l12_31))))) (ri_bt (ri_bt (ri_bt (ri_bl ri_l12_32) (ri_bl ri_l12_36)) (ri_bt (ri_bl ri_l12_37) (ri_bt (ri_bl ri_l12_41) (ri_bl ri_l12_42)))) (ri_bt (ri_bt (ri_bl ri_l12_46) (ri_bl ri_l12_47)) (ri_bt (ri_bl ri_l12_51) (ri_bt (ri_bl ri_l12_52) (ri_bl ri_l12_56)))))) (ri_bt (ri_bt (ri_bt (ri_bt (ri_bl ri_l12_57) (ri_bl ri_l12_60)) (ri_bt (ri_bl ri_l12_61) (ri_bt (ri_bl ri_l12_64) (ri_bl ri_l12_65)))) (ri_bt (ri_bt (ri_bl ri_l12_68) (ri_bl ri_l12_69)) (ri_bt (ri_bl ri_l12_72) (ri_bt (ri_bl ri_l12_73) (ri_bl ri_l12_76))))) (ri_bt (ri_bt (ri_bt (ri_bl ri_l12_77) (ri_bl ri_l12_80)) (ri_bt (ri_bl ri_l12_81) (ri_bt (ri_bl ri_l12_84) (ri_bl ri_l12_85)))) (ri_bt (ri_bt (ri_bl ri_l12_88) (ri_bl ri_l12_89)) (ri_bt (ri_bl ri_l12_93) (ri_bt (ri_bl ri_l12_94) (ri_bl ri_l12_97))))))) (ri_bt (ri_bt (ri_bt (ri_bt (ri_bt (ri_bl ri_l12_98) (ri_bl ri_l12_101)) (ri_bt (ri_bl ri_l12_102) (ri_bt (ri_bl ri_l12_105) (ri_bl ri_l12_106)))) (ri_bt (ri_bt (ri_bl ri_l12_109) (ri_bl ri_l12_110)) (ri_bt (ri_bl ri_l12_113) (ri_bt (ri_bl ri_l12_114) (ri_bl ri_l12_117))))) (ri_bt (ri_bt (ri_bt (ri_bl ri_l12_118) (ri_bl ri_l12_121)) (ri_bt (ri_bl ri_l12_122) (ri_bt (ri_bl ri_l12_125) (ri_bl ri_l12_126)))) (ri_bt (ri_bt (ri_bl ri_l12_129) (ri_bl ri_l12_130)) (ri_bt (ri_bl ri_l12_133) (ri_bt (ri_bl ri_l12_134) (ri_bl ri_l12_137)))))) (ri_bt (ri_bt (ri_bt (ri_bt (ri_bl ri_l12_138) (ri_bl ri_l12_141)) (ri_bt (ri_bl ri_l12_142) (ri_bt (ri_bl ri_l12_145) (ri_bl ri_l12_146)))) (ri_bt (ri_bt (ri_bl ri_l12_149) (ri_bl ri_l12_150)) (ri_bt (ri_bl ri_l12_153) (ri_bt (ri_bl ri_l12_154) (ri_bl ri_l12_157))))) (ri_bt (ri_bt (ri_bt (ri_bl ri_l12_158) (ri_bl ri_l12_161)) (ri_bt (ri_bl ri_l12_162) (ri_bt (ri_bl ri_l12_165) (ri_bl ri_l12_166)))) (ri_bt (ri_bt (ri_bl ri_l12_169) (ri_bl ri_l12_170)) (ri_bt (ri_bl ri_l12_173) (ri_bt (ri_bl ri_l12_174) (ri_bl ri_l12_177)))))))
theorem ri_lf13 : ∀ i, ri_lqr 13 i (ri_lt13 i) = true := fun i => rfl
theorem ri_lq_all : ∀ a i, a < 14 → i < 512 → ri_lq a i = true := by
  intro a i h hp
  rcases Nat.lt_or_ge a 7 with q7 | q7
  · rcases Nat.lt_or_ge a 3 with q3 | q3
    · rcases Nat.lt_or_ge a 1 with q1 | q1
      · obtain rfl : a = 0 := by omega
        exact ri_lf0 i
      · rcases Nat.lt_or_ge a 2 with q2 | q2
        · obtain rfl : a = 1 := by omega
          exact ri_lf1 i
        · obtain rfl : a = 2 := by omega
          exact ri_lf2 i
    · rcases Nat.lt_or_ge a 5 with q5 | q5
      · rcases Nat.lt_or_ge a 4 with q4 | q4
        · obtain rfl : a = 3 := by omega
          exact ri_lf3 i
        · obtain rfl : a = 4 := by omega
          exact ri_lf4 i
      · rcases Nat.lt_or_ge a 6 with q6 | q6
        · obtain rfl : a = 5 := by omega
          exact ri_lf5 i
        · obtain rfl : a = 6 := by omega
          exact ri_lf6 i
  · rcases Nat.lt_or_ge a 10 with q10 | q10
    · rcases Nat.lt_or_ge a 8 with q8 | q8
      · obtain rfl : a = 7 := by omega
        exact ri_lf7 i
      · rcases Nat.lt_or_ge a 9 with q9 | q9
        · obtain rfl : a = 8 := by omega
          exact ri_lf8 i
        · obtain rfl : a = 9 := by omega
          exact ri_lf9 i
    · rcases Nat.lt_or_ge a 12 with q12 | q12
      · rcases Nat.lt_or_ge a 11 with q11 | q11
        · obtain rfl : a = 10 := by omega
          exact ri_lf10 i
        · obtain rfl : a = 11 := by omega
          exact ri_lf11 i
      · rcases Nat.lt_or_ge a 13 with q13 | q13
        · obtain rfl : a = 12 := by omega
          exact ri_lf12 i
        · obtain rfl : a = 13 := by omega
          exact ri_lf13 i
noncomputable def ri_rs (o : Nat) (nm : String) (pc : Nat) (j : ri_J) : Bool := match j with
  | (.if_icmp _ off, _, _, _, _) => decide (0 ≤ (pc : Int) + off)
  | (.ifCond _ off, _, _, _, _) => decide (0 ≤ (pc : Int) + off)
  | (.getfield i, _, a, b, c) => decide (ri_lt o i = some (0, a, b, c))
  | (.putfield i, _, a, b, c) => decide (ri_lt o i = some (0, a, b, c)) && (match vwCl[a]? with
    | some q => (if (q.2.1 b).2.2.2 = true then decide (nm = "<init>") && (decide (c % 2 = 0) && decide ((q.2.1 b).1 = ri_on o)) else true)
    | none => false)
  | (.new i, _, a, _, c) => (match vwCl[a]? with
    | some q => ri_w c (.classLink (ri_on o) i q.1)
    | none => false)
  | (.anewarray i, _, a, b, c) => (match vwCl[a]? with
    | some q => ri_w c (.classLink (ri_on o) i q.1) && ri_w b (.arrayOver (.object q.1))
    | none => false)
  | (.newarray t, _, a, _, _) => ri_w a (.arrayClass (newarray.typeOf t))
  | (.ldc i, _, a, _, c) => ri_w c (.constant (ri_on o) i (Int32.ofNat a))
  | (.ldc_w i, _, a, _, c) => ri_w c (.constant (ri_on o) i (Int32.ofNat a))
  | (.ldc2_w i, _, a, _, c) => ri_w c (.constantLong (ri_on o) i (Int64.ofNat a))
  | (.invokespecial i, _, a, b, c) => if c % 16 = 6 then ri_w (c / 16) (.methodLink (ri_on o) i Lib.objectInit) else decide (ri_lt o i = some (1, a, b, c)) && decide (ri_kd a = 1)
  | (.invokevirtual i, _, a, b, c) => decide (ri_lt o i = some (1, a, b, c)) && decide (ri_kd a = 2)
  | (.invokestatic i, _, a, b, c) => (match c % 16 with
    | 0 => decide (ri_lt o i = some (1, a, b, c)) && decide (ri_kd a = 0)
    | 1 => decide (ri_lt o i = some (1, a, b, c)) && decide (ri_kd a = 0)
    | 7 => ri_w (c / 16) (.methodLink (ri_on o) i Lib.Math.min.name)
    | 8 => ri_w (c / 16) (.methodLink (ri_on o) i Lib.Math.max.name)
    | 9 => ri_w (c / 16) (.methodLink (ri_on o) i Lib.Math.abs.name)
    | 10 => ri_w (c / 16) (.methodLink (ri_on o) i arraycopyName)
    | _ => true)
  | _ => true
noncomputable def ri_ck2 (o : Nat) (nm : String) (bytes : ByteArray) (pc : Nat) (j : ri_J) : Bool := decide (decode bytes pc = .ok (j.1, ri_ln j.1 j.2.1)) && ri_rs o nm pc j
theorem ri_lt_ok {o i k a b c : Nat} (h : ri_lt o i = some (k, a, b, c)) : ri_lq o i = true ∧ ri_ltt o i = some (k, a, b, c) := by
  unfold ri_lt at h
  cases h1 : Nat.blt o 14 && Nat.blt i 512 with
  | false => rw [h1] at h; cases h
  | true =>
    rw [h1] at h
    rw [Bool.and_eq_true] at h1
    exact ⟨ri_lq_all o i (Nat.le_of_ble_eq_true h1.1) (Nat.le_of_ble_eq_true h1.2), h⟩
theorem ri_lt_f {o i a b c : Nat} (h : ri_lt o i = some (0, a, b, c)) : (match vwCl[a]? with
    | some q => Nat.blt b q.2.2 && ri_fk (ri_on o) i c (q.2.1 b)
    | none => false) = true := by
  obtain ⟨h1, h2⟩ := ri_lt_ok h
  unfold ri_lq at h1
  rw [h2] at h1
  exact h1
theorem ri_lt_m {o i a b c : Nat} (h : ri_lt o i = some (1, a, b, c)) : ri_lk (ri_on o) i a b c = true := by
  obtain ⟨h1, h2⟩ := ri_lt_ok h
  unfold ri_lq at h1
  rw [h2] at h1
  exact h1
theorem ri_ck2_ok {o : Nat} {nm : String} {bs : ByteArray} {pc : Nat} {j : ri_J} (h : ri_ck2 o nm bs pc j = true) : ri_ck (ri_on o) nm bs pc j = true := by
  obtain ⟨ins, len, a, b, c⟩ := j
  cases ins
  case getfield i =>
    unfold ri_ck2 ri_rs at h
    unfold ri_ck
    rw [Bool.and_eq_true] at h ⊢
    exact ⟨h.1, ri_lt_f (of_decide_eq_true h.2)⟩
  case putfield i =>
    unfold ri_ck2 ri_rs at h
    unfold ri_ck
    rw [Bool.and_eq_true] at h ⊢
    refine ⟨h.1, ?_⟩
    have h2 : (decide (ri_lt o i = some (0, a, b, c)) && (match vwCl[a]? with
      | some q => (if (q.2.1 b).2.2.2 = true then decide (nm = "<init>") && (decide (c % 2 = 0) && decide ((q.2.1 b).1 = ri_on o)) else true)
      | none => false)) = true := h.2
    rw [Bool.and_eq_true] at h2
    have h3 := ri_lt_f (of_decide_eq_true h2.1)
    have h4 := h2.2
    show (match vwCl[a]? with
      | some q => Nat.blt b q.2.2 && (ri_fk (ri_on o) i c (q.2.1 b) && (if (q.2.1 b).2.2.2 = true then decide (nm = "<init>") && (decide (c % 2 = 0) && decide ((q.2.1 b).1 = ri_on o)) else true))
      | none => false) = true
    cases hq : vwCl[a]? with
    | none => rw [hq] at h3; cases h3
    | some q =>
      rw [hq] at h3 h4
      dsimp only at h3 h4 ⊢
      rw [Bool.and_eq_true] at h3 ⊢
      rw [Bool.and_eq_true]
      exact ⟨h3.1, h3.2, h4⟩
  case invokespecial i =>
    unfold ri_ck2 ri_rs at h
    unfold ri_ck
    rw [Bool.and_eq_true] at h ⊢
    refine ⟨h.1, ?_⟩
    have h2 : (if c % 16 = 6 then ri_w (c / 16) (.methodLink (ri_on o) i Lib.objectInit) else decide (ri_lt o i = some (1, a, b, c)) && decide (ri_kd a = 1)) = true := h.2
    show (if c % 16 = 6 then ri_w (c / 16) (.methodLink (ri_on o) i Lib.objectInit) else ri_lk (ri_on o) i a b c && decide (ri_kd a = 1)) = true
    by_cases h6 : c % 16 = 6
    · rw [if_pos h6] at h2 ⊢
      exact h2
    · rw [if_neg h6] at h2 ⊢
      rw [Bool.and_eq_true] at h2 ⊢
      exact ⟨ri_lt_m (of_decide_eq_true h2.1), h2.2⟩
  case invokevirtual i =>
    unfold ri_ck2 ri_rs at h
    unfold ri_ck
    rw [Bool.and_eq_true] at h ⊢
    refine ⟨h.1, ?_⟩
    have h2 : (decide (ri_lt o i = some (1, a, b, c)) && decide (ri_kd a = 2)) = true := h.2
    show (ri_lk (ri_on o) i a b c && decide (ri_kd a = 2)) = true
    rw [Bool.and_eq_true] at h2 ⊢
    exact ⟨ri_lt_m (of_decide_eq_true h2.1), h2.2⟩
  case invokestatic i =>
    unfold ri_ck2 ri_rs at h
    unfold ri_ck
    rw [Bool.and_eq_true] at h ⊢
    refine ⟨h.1, ?_⟩
    have h2 := h.2
    dsimp only at h2 ⊢
    split at h2
    · next q =>
      rw [q]
      show (ri_lk (ri_on o) i a b c && decide (ri_kd a = 0)) = true
      rw [Bool.and_eq_true] at h2 ⊢
      exact ⟨ri_lt_m (of_decide_eq_true h2.1), h2.2⟩
    · next q =>
      rw [q]
      show (ri_lk (ri_on o) i a b c && decide (ri_kd a = 0)) = true
      rw [Bool.and_eq_true] at h2 ⊢
      exact ⟨ri_lt_m (of_decide_eq_true h2.1), h2.2⟩
    · next q => rw [q]; exact h2
    · next q => rw [q]; exact h2
    · next q => rw [q]; exact h2
    · next q => rw [q]; exact h2
    · split <;> first | rfl | contradiction
  all_goals exact h
noncomputable def ri_chk (a : Nat) : Bool := fe_go (ri_rs (ri_oc a) (ri_y a).name) (ri_code a) (ri_b a) (ri_len a) (ri_b a).data.toList 0
end
section
theorem ri_cz0 : ri_chk 0 = true := by decide +kernel
theorem ri_cz1 : ri_chk 1 = true := by decide +kernel
theorem ri_cz2 : ri_chk 2 = true := by decide +kernel
theorem ri_cz3 : ri_chk 3 = true := by decide +kernel
theorem ri_cz4 : ri_chk 4 = true := by decide +kernel
theorem ri_cz5 : ri_chk 5 = true := by decide +kernel
theorem ri_cz6 : ri_chk 6 = true := by decide +kernel
theorem ri_cz7 : ri_chk 7 = true := by decide +kernel
theorem ri_cz8 : ri_chk 8 = true := by decide +kernel
theorem ri_cz9 : ri_chk 9 = true := by decide +kernel
theorem ri_cz10 : ri_chk 10 = true := by decide +kernel
theorem ri_cz11 : ri_chk 11 = true := by decide +kernel
theorem ri_cz12 : ri_chk 12 = true := by decide +kernel
theorem ri_cz13 : ri_chk 13 = true := by decide +kernel
theorem ri_cz14 : ri_chk 14 = true := by decide +kernel
theorem ri_cz15 : ri_chk 15 = true := by decide +kernel
theorem ri_cz16 : ri_chk 16 = true := by decide +kernel
theorem ri_cz17 : ri_chk 17 = true := by decide +kernel
theorem ri_cz18 : ri_chk 18 = true := by decide +kernel
theorem ri_cz19 : ri_chk 19 = true := by decide +kernel
theorem ri_cz20 : ri_chk 20 = true := by decide +kernel
theorem ri_cz21 : ri_chk 21 = true := by decide +kernel
theorem ri_cz22 : ri_chk 22 = true := by decide +kernel
theorem ri_cz23 : ri_chk 23 = true := by decide +kernel
theorem ri_cz24 : ri_chk 24 = true := by decide +kernel
theorem ri_cz25 : ri_chk 25 = true := by decide +kernel
theorem ri_cz26 : ri_chk 26 = true := by decide +kernel
theorem ri_cz27 : ri_chk 27 = true := by decide +kernel
theorem ri_cz28 : ri_chk 28 = true := by decide +kernel
theorem ri_cz29 : ri_chk 29 = true := by decide +kernel
theorem ri_cz30 : ri_chk 30 = true := by decide +kernel
theorem ri_cz31 : ri_chk 31 = true := by decide +kernel
theorem ri_cz32 : ri_chk 32 = true := by decide +kernel
theorem ri_cz33 : ri_chk 33 = true := by decide +kernel
theorem ri_cz34 : ri_chk 34 = true := by decide +kernel
theorem ri_cz35 : ri_chk 35 = true := by decide +kernel
theorem ri_cz36 : ri_chk 36 = true := by decide +kernel
theorem ri_cz37 : ri_chk 37 = true := by decide +kernel
theorem ri_cz38 : ri_chk 38 = true := by decide +kernel
theorem ri_cz39 : ri_chk 39 = true := by decide +kernel
theorem ri_cz40 : ri_chk 40 = true := by decide +kernel
theorem ri_cz41 : ri_chk 41 = true := by decide +kernel
theorem ri_cz42 : ri_chk 42 = true := by decide +kernel
theorem ri_cz43 : ri_chk 43 = true := by decide +kernel
theorem ri_cz44 : ri_chk 44 = true := by decide +kernel
theorem ri_cz45 : ri_chk 45 = true := by decide +kernel
theorem ri_cz46 : ri_chk 46 = true := by decide +kernel
theorem ri_cz47 : ri_chk 47 = true := by decide +kernel
theorem ri_cz48 : ri_chk 48 = true := by decide +kernel
theorem ri_cz49 : ri_chk 49 = true := by decide +kernel
theorem ri_cz50 : ri_chk 50 = true := by decide +kernel
theorem ri_cz51 : ri_chk 51 = true := by decide +kernel
theorem ri_cz52 : ri_chk 52 = true := by decide +kernel
theorem ri_cz53 : ri_chk 53 = true := by decide +kernel
theorem ri_cz54 : ri_chk 54 = true := by decide +kernel
theorem ri_cz55 : ri_chk 55 = true := by decide +kernel
theorem ri_cz56 : ri_chk 56 = true := by decide +kernel
theorem ri_cz57 : ri_chk 57 = true := by decide +kernel
theorem ri_cz58 : ri_chk 58 = true := by decide +kernel
theorem ri_cz59 : ri_chk 59 = true := by decide +kernel
theorem ri_cz60 : ri_chk 60 = true := by decide +kernel
theorem ri_cz61 : ri_chk 61 = true := by decide +kernel
theorem ri_cz62 : ri_chk 62 = true := by decide +kernel
theorem ri_cz63 : ri_chk 63 = true := by decide +kernel
theorem ri_cz64 : ri_chk 64 = true := by decide +kernel
theorem ri_cz65 : ri_chk 65 = true := by decide +kernel
theorem ri_cz66 : ri_chk 66 = true := by decide +kernel
theorem ri_cz67 : ri_chk 67 = true := by decide +kernel
theorem ri_cz68 : ri_chk 68 = true := by decide +kernel
theorem ri_cz69 : ri_chk 69 = true := by decide +kernel
theorem ri_cz70 : ri_chk 70 = true := by decide +kernel
theorem ri_cz71 : ri_chk 71 = true := by decide +kernel
theorem ri_cz72 : ri_chk 72 = true := by decide +kernel
theorem ri_cz73 : ri_chk 73 = true := by decide +kernel
theorem ri_cz74 : ri_chk 74 = true := by decide +kernel
theorem ri_cz75 : ri_chk 75 = true := by decide +kernel
theorem ri_cz76 : ri_chk 76 = true := by decide +kernel
theorem ri_cz77 : ri_chk 77 = true := by decide +kernel
theorem ri_cz78 : ri_chk 78 = true := by decide +kernel
theorem ri_cz79 : ri_chk 79 = true := by decide +kernel
theorem ri_cz80 : ri_chk 80 = true := by decide +kernel
theorem ri_cz81 : ri_chk 81 = true := by decide +kernel
theorem ri_cz82 : ri_chk 82 = true := by decide +kernel
theorem ri_cz83 : ri_chk 83 = true := by decide +kernel
theorem ri_cz84 : ri_chk 84 = true := by decide +kernel
theorem ri_cz85 : ri_chk 85 = true := by decide +kernel
theorem ri_cz86 : ri_chk 86 = true := by decide +kernel
theorem ri_cz87 : ri_chk 87 = true := by decide +kernel
theorem ri_cz88 : ri_chk 88 = true := by decide +kernel
theorem ri_cz89 : ri_chk 89 = true := by decide +kernel
theorem ri_cz90 : ri_chk 90 = true := by decide +kernel
theorem ri_cz91 : ri_chk 91 = true := by decide +kernel
theorem ri_cz92 : ri_chk 92 = true := by decide +kernel
theorem ri_cz93 : ri_chk 93 = true := by decide +kernel
theorem ri_cz94 : ri_chk 94 = true := by decide +kernel
theorem ri_cz95 : ri_chk 95 = true := by decide +kernel
theorem ri_cz96 : ri_chk 96 = true := by decide +kernel
theorem ri_cz97 : ri_chk 97 = true := by decide +kernel
theorem ri_cz98 : ri_chk 98 = true := by decide +kernel
theorem ri_cz99 : ri_chk 99 = true := by decide +kernel
theorem ri_cz100 : ri_chk 100 = true := by decide +kernel
theorem ri_cz101 : ri_chk 101 = true := by decide +kernel
theorem ri_cz102 : ri_chk 102 = true := by decide +kernel
theorem ri_cz103 : ri_chk 103 = true := by decide +kernel
theorem ri_cz104 : ri_chk 104 = true := by decide +kernel
theorem ri_cz105 : ri_chk 105 = true := by decide +kernel
theorem ri_cz106 : ri_chk 106 = true := by decide +kernel
theorem ri_cz107 : ri_chk 107 = true := by decide +kernel
theorem ri_cz108 : ri_chk 108 = true := by decide +kernel
theorem ri_cz109 : ri_chk 109 = true := by decide +kernel
theorem ri_cz110 : ri_chk 110 = true := by decide +kernel
theorem ri_cz111 : ri_chk 111 = true := by decide +kernel
theorem ri_cz112 : ri_chk 112 = true := by decide +kernel
theorem ri_cz113 : ri_chk 113 = true := by decide +kernel
theorem ri_cz114 : ri_chk 114 = true := by decide +kernel
theorem ri_cz115 : ri_chk 115 = true := by decide +kernel
theorem ri_cz116 : ri_chk 116 = true := by decide +kernel
theorem ri_cz117 : ri_chk 117 = true := by decide +kernel
theorem ri_cz118 : ri_chk 118 = true := by decide +kernel
theorem ri_cz119 : ri_chk 119 = true := by decide +kernel
theorem ri_cz120 : ri_chk 120 = true := by decide +kernel
theorem ri_cz121 : ri_chk 121 = true := by decide +kernel
theorem ri_cz122 : ri_chk 122 = true := by decide +kernel
theorem ri_cz123 : ri_chk 123 = true := by decide +kernel
theorem ri_cz124 : ri_chk 124 = true := by decide +kernel
theorem ri_cz125 : ri_chk 125 = true := by decide +kernel
theorem ri_cz126 : ri_chk 126 = true := by decide +kernel
theorem ri_cz127 : ri_chk 127 = true := by decide +kernel
theorem ri_cz128 : ri_chk 128 = true := by decide +kernel
theorem ri_cz129 : ri_chk 129 = true := by decide +kernel
theorem ri_cz130 : ri_chk 130 = true := by decide +kernel
theorem ri_cz131 : ri_chk 131 = true := by decide +kernel
theorem ri_cz132 : ri_chk 132 = true := by decide +kernel
theorem ri_cz133 : ri_chk 133 = true := by decide +kernel
theorem ri_cz134 : ri_chk 134 = true := by decide +kernel
theorem ri_cz135 : ri_chk 135 = true := by decide +kernel
theorem ri_cz136 : ri_chk 136 = true := by decide +kernel
theorem ri_cz137 : ri_chk 137 = true := by decide +kernel
theorem ri_cz138 : ri_chk 138 = true := by decide +kernel
theorem ri_cz139 : ri_chk 139 = true := by decide +kernel
theorem ri_cz140 : ri_chk 140 = true := by decide +kernel
theorem ri_cz141 : ri_chk 141 = true := by decide +kernel
theorem ri_cz142 : ri_chk 142 = true := by decide +kernel
theorem ri_cz143 : ri_chk 143 = true := by decide +kernel
theorem ri_cz144 : ri_chk 144 = true := by decide +kernel
theorem ri_cz145 : ri_chk 145 = true := by decide +kernel
theorem ri_cz146 : ri_chk 146 = true := by decide +kernel
theorem ri_cz147 : ri_chk 147 = true := by decide +kernel
theorem ri_cz148 : ri_chk 148 = true := by decide +kernel
theorem ri_cz149 : ri_chk 149 = true := by decide +kernel
theorem ri_cz150 : ri_chk 150 = true := by decide +kernel
theorem ri_cz151 : ri_chk 151 = true := by decide +kernel
theorem ri_cz152 : ri_chk 152 = true := by decide +kernel
theorem ri_cz153 : ri_chk 153 = true := by decide +kernel
theorem ri_cz154 : ri_chk 154 = true := by decide +kernel
theorem ri_cz155 : ri_chk 155 = true := by decide +kernel
theorem ri_cz156 : ri_chk 156 = true := by decide +kernel
theorem ri_cz157 : ri_chk 157 = true := by decide +kernel
theorem ri_cz158 : ri_chk 158 = true := by decide +kernel
theorem ri_cz159 : ri_chk 159 = true := by decide +kernel
theorem ri_cz160 : ri_chk 160 = true := by decide +kernel
theorem ri_cz161 : ri_chk 161 = true := by decide +kernel
theorem ri_cz162 : ri_chk 162 = true := by decide +kernel
theorem ri_cz163 : ri_chk 163 = true := by decide +kernel
theorem ri_cz164 : ri_chk 164 = true := by decide +kernel
theorem ri_cz165 : ri_chk 165 = true := by decide +kernel
theorem ri_cz166 : ri_chk 166 = true := by decide +kernel
theorem ri_cz167 : ri_chk 167 = true := by decide +kernel
theorem ri_cz168 : ri_chk 168 = true := by decide +kernel
theorem ri_cz169 : ri_chk 169 = true := by decide +kernel
theorem ri_cz170 : ri_chk 170 = true := by decide +kernel
theorem ri_cz171 : ri_chk 171 = true := by decide +kernel
theorem ri_cz172 : ri_chk 172 = true := by decide +kernel
theorem ri_cz173 : ri_chk 173 = true := by decide +kernel
theorem ri_cz174 : ri_chk 174 = true := by decide +kernel
theorem ri_cz175 : ri_chk 175 = true := by decide +kernel
theorem ri_cz176 : ri_chk 176 = true := by decide +kernel
theorem ri_cz177 : ri_chk 177 = true := by decide +kernel
theorem ri_cz178 : ri_chk 178 = true := by decide +kernel
theorem ri_cz179 : ri_chk 179 = true := by decide +kernel
theorem ri_cz180 : ri_chk 180 = true := by decide +kernel
theorem ri_cz181 : ri_chk 181 = true := by decide +kernel
theorem ri_cz182 : ri_chk 182 = true := by decide +kernel
theorem ri_cz183 : ri_chk 183 = true := by decide +kernel
theorem ri_cz184 : ri_chk 184 = true := by decide +kernel
theorem ri_cz185 : ri_chk 185 = true := by decide +kernel
theorem ri_cz186 : ri_chk 186 = true := by decide +kernel
theorem ri_cz187 : ri_chk 187 = true := by decide +kernel
theorem ri_cz188 : ri_chk 188 = true := by decide +kernel
theorem ri_cz189 : ri_chk 189 = true := by decide +kernel
theorem ri_cz190 : ri_chk 190 = true := by decide +kernel
theorem ri_cz191 : ri_chk 191 = true := by decide +kernel
theorem ri_cz192 : ri_chk 192 = true := by decide +kernel
theorem ri_cz193 : ri_chk 193 = true := by decide +kernel
theorem ri_cz194 : ri_chk 194 = true := by decide +kernel
theorem ri_cz195 : ri_chk 195 = true := by decide +kernel
theorem ri_cz196 : ri_chk 196 = true := by decide +kernel
theorem ri_cz197 : ri_chk 197 = true := by decide +kernel
theorem ri_cz198 : ri_chk 198 = true := by decide +kernel
theorem ri_cz199 : ri_chk 199 = true := by decide +kernel
theorem ri_cz200 : ri_chk 200 = true := by decide +kernel
theorem ri_cz201 : ri_chk 201 = true := by decide +kernel
theorem ri_cz202 : ri_chk 202 = true := by decide +kernel
theorem ri_cz203 : ri_chk 203 = true := by decide +kernel
theorem ri_cz204 : ri_chk 204 = true := by decide +kernel
theorem ri_cz205 : ri_chk 205 = true := by decide +kernel
theorem ri_cz206 : ri_chk 206 = true := by decide +kernel
theorem ri_cz207 : ri_chk 207 = true := by decide +kernel
theorem ri_cz208 : ri_chk 208 = true := by decide +kernel
theorem ri_cz209 : ri_chk 209 = true := by decide +kernel
theorem ri_cz210 : ri_chk 210 = true := by decide +kernel
theorem ri_cz211 : ri_chk 211 = true := by decide +kernel
theorem ri_cz212 : ri_chk 212 = true := by decide +kernel
theorem ri_cz213 : ri_chk 213 = true := by decide +kernel
theorem ri_cz214 : ri_chk 214 = true := by decide +kernel
theorem ri_cz215 : ri_chk 215 = true := by decide +kernel
theorem ri_cz216 : ri_chk 216 = true := by decide +kernel
theorem ri_cz217 : ri_chk 217 = true := by decide +kernel
theorem ri_cz218 : ri_chk 218 = true := by decide +kernel
theorem ri_cz219 : ri_chk 219 = true := by decide +kernel
theorem ri_cz220 : ri_chk 220 = true := by decide +kernel
theorem ri_cz221 : ri_chk 221 = true := by decide +kernel
theorem ri_cz222 : ri_chk 222 = true := by decide +kernel
theorem ri_cz223 : ri_chk 223 = true := by decide +kernel
theorem ri_cz224 : ri_chk 224 = true := by decide +kernel
theorem ri_cz225 : ri_chk 225 = true := by decide +kernel
theorem ri_cz226 : ri_chk 226 = true := by decide +kernel
theorem ri_cz227 : ri_chk 227 = true := by decide +kernel
theorem ri_cz228 : ri_chk 228 = true := by decide +kernel
theorem ri_cz229 : ri_chk 229 = true := by decide +kernel
theorem ri_cz230 : ri_chk 230 = true := by decide +kernel
theorem ri_cz231 : ri_chk 231 = true := by decide +kernel
theorem ri_cz232 : ri_chk 232 = true := by decide +kernel
theorem ri_cz233 : ri_chk 233 = true := by decide +kernel
theorem ri_cz234 : ri_chk 234 = true := by decide +kernel
theorem ri_cz235 : ri_chk 235 = true := by decide +kernel
theorem ri_cz236 : ri_chk 236 = true := by decide +kernel
theorem ri_cz237 : ri_chk 237 = true := by decide +kernel
theorem ri_cz238 : ri_chk 238 = true := by decide +kernel
theorem ri_cz239 : ri_chk 239 = true := by decide +kernel
theorem ri_cz240 : ri_chk 240 = true := by decide +kernel
theorem ri_cz241 : ri_chk 241 = true := by decide +kernel
theorem ri_cz242 : ri_chk 242 = true := by decide +kernel
theorem ri_cz243 : ri_chk 243 = true := by decide +kernel
theorem ri_cz244 : ri_chk 244 = true := by decide +kernel
theorem ri_cz245 : ri_chk 245 = true := by decide +kernel
theorem ri_cz246 : ri_chk 246 = true := by decide +kernel
theorem ri_cz247 : ri_chk 247 = true := by decide +kernel
theorem ri_cz248 : ri_chk 248 = true := by decide +kernel
theorem ri_cz249 : ri_chk 249 = true := by decide +kernel
theorem ri_cz250 : ri_chk 250 = true := by decide +kernel
theorem ri_cz251 : ri_chk 251 = true := by decide +kernel
theorem ri_cz252 : ri_chk 252 = true := by decide +kernel
theorem ri_cz253 : ri_chk 253 = true := by decide +kernel
theorem ri_cz254 : ri_chk 254 = true := by decide +kernel
theorem ri_cz255 : ri_chk 255 = true := by decide +kernel
theorem ri_cz256 : ri_chk 256 = true := by decide +kernel
theorem ri_cz257 : ri_chk 257 = true := by decide +kernel
theorem ri_cz258 : ri_chk 258 = true := by decide +kernel
theorem ri_cz259 : ri_chk 259 = true := by decide +kernel
theorem ri_cz260 : ri_chk 260 = true := by decide +kernel
theorem ri_cz261 : ri_chk 261 = true := by decide +kernel
theorem ri_cz262 : ri_chk 262 = true := by decide +kernel
theorem ri_cz263 : ri_chk 263 = true := by decide +kernel
theorem ri_cz264 : ri_chk 264 = true := by decide +kernel
theorem ri_cz265 : ri_chk 265 = true := by decide +kernel
theorem ri_cz266 : ri_chk 266 = true := by decide +kernel
theorem ri_cz267 : ri_chk 267 = true := by decide +kernel
theorem ri_cz268 : ri_chk 268 = true := by decide +kernel
theorem ri_cz269 : ri_chk 269 = true := by decide +kernel
theorem ri_cz270 : ri_chk 270 = true := by decide +kernel
theorem ri_cz271 : ri_chk 271 = true := by decide +kernel
theorem ri_cz272 : ri_chk 272 = true := by decide +kernel
theorem ri_cz273 : ri_chk 273 = true := by decide +kernel
theorem ri_cz274 : ri_chk 274 = true := by decide +kernel
theorem ri_cz275 : ri_chk 275 = true := by decide +kernel
theorem ri_cz276 : ri_chk 276 = true := by decide +kernel
theorem ri_cz277 : ri_chk 277 = true := by decide +kernel
theorem ri_cz278 : ri_chk 278 = true := by decide +kernel
theorem ri_cz279 : ri_chk 279 = true := by decide +kernel
theorem ri_cz280 : ri_chk 280 = true := by decide +kernel
end
