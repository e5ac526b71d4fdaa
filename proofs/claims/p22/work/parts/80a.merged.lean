section
/-! Each row of the tables is as the machine has it. -/
noncomputable def ri_lt0 : Nat → Option (Nat × Nat × Nat × Nat) := fun p => bif Nat.blt p 25 then (bif Nat.blt p 18 then (bif Nat.blt p 15 then (bif Nat.beq p 9 then some (0, 0, 0, 520) else none) else (bif Nat.beq p 15 then some (0, 0, 1, 522) else none)) else (bif Nat.blt p 21 then (bif Nat.beq p 18 then some (0, 0, 2, 524) else none) else (bif Nat.beq p 21 then some (1, 142, 2, 10577) else none))) else (bif Nat.blt p 33 then (bif Nat.blt p 29 then (bif Nat.beq p 25 then some (1, 7, 1, 10656) else none) else (bif Nat.beq p 29 then some (1, 145, 2, 10673) else none)) else (bif Nat.blt p 43 then (bif Nat.beq p 33 then some (1, 144, 3, 10721) else none) else (bif Nat.blt p 47 then (bif Nat.beq p 43 then some (1, 143, 2, 10337) else none) else (bif Nat.beq p 47 then some (1, 11, 1, 16640) else none))))
noncomputable def ri_lt1 : Nat → Option (Nat × Nat × Nat × Nat) := fun p => bif Nat.blt p 38 then (bif Nat.blt p 24 then (bif Nat.blt p 14 then (bif Nat.beq p 9 then some (1, 1, 0, 9921) else none) else (bif Nat.blt p 20 then (bif Nat.beq p 14 then some (0, 1, 0, 480) else none) else (bif Nat.beq p 20 then some (1, 16, 2, 9984) else none))) else (bif Nat.blt p 30 then (bif Nat.beq p 24 then some (1, 99, 1, 10769) else none) else (bif Nat.blt p 34 then (bif Nat.beq p 30 then some (1, 96, 0, 10049) else none) else (bif Nat.beq p 34 then some (1, 5, 0, 10833) else none)))) else (bif Nat.blt p 49 then (bif Nat.blt p 42 then (bif Nat.beq p 38 then some (1, 100, 1, 10209) else none) else (bif Nat.blt p 46 then (bif Nat.beq p 42 then some (1, 17, 1, 10160) else none) else (bif Nat.beq p 46 then some (1, 7, 1, 10273) else none))) else (bif Nat.blt p 56 then (bif Nat.blt p 52 then (bif Nat.beq p 49 then some (1, 98, 0, 10353) else none) else (bif Nat.beq p 52 then some (1, 101, 2, 10417) else none)) else (bif Nat.blt p 59 then (bif Nat.beq p 56 then some (1, 2, 1, 10513) else none) else (bif Nat.beq p 59 then some (1, 3, 3, 10593) else none))))
noncomputable def ri_lt2 : Nat → Option (Nat × Nat × Nat × Nat) := fun p => bif Nat.blt p 45 then (bif Nat.blt p 28 then (bif Nat.blt p 18 then (bif Nat.blt p 12 then (bif Nat.beq p 11 then some (1, 0, 0, 4465) else none) else (bif Nat.beq p 12 then some (0, 2, 0, 560) else none)) else (bif Nat.blt p 22 then (bif Nat.beq p 18 then some (0, 2, 1, 564) else none) else (bif Nat.blt p 25 then (bif Nat.beq p 22 then some (0, 2, 2, 568) else none) else (bif Nat.beq p 25 then some (0, 2, 3, 572) else none)))) else (bif Nat.blt p 35 then (bif Nat.blt p 31 then (bif Nat.beq p 28 then some (0, 2, 4, 576) else none) else (bif Nat.beq p 31 then some (0, 2, 5, 580) else none)) else (bif Nat.blt p 39 then (bif Nat.beq p 35 then some (0, 2, 7, 586) else none) else (bif Nat.blt p 42 then (bif Nat.beq p 39 then some (0, 2, 8, 590) else none) else (bif Nat.beq p 42 then some (0, 2, 9, 594) else none))))) else (bif Nat.blt p 74 then (bif Nat.blt p 52 then (bif Nat.blt p 49 then (bif Nat.beq p 45 then some (1, 4, 1, 10961) else none) else (bif Nat.beq p 49 then some (0, 2, 6, 582) else none)) else (bif Nat.blt p 61 then (bif Nat.beq p 52 then some (0, 2, 10, 598) else none) else (bif Nat.blt p 64 then (bif Nat.beq p 61 then some (0, 2, 11, 602) else none) else (bif Nat.beq p 64 then some (1, 143, 2, 13697) else none)))) else (bif Nat.blt p 82 then (bif Nat.blt p 78 then (bif Nat.beq p 74 then some (1, 142, 2, 13825) else none) else (bif Nat.beq p 78 then some (1, 23, 1, 14928) else none)) else (bif Nat.blt p 85 then (bif Nat.beq p 82 then some (1, 24, 1, 14944) else none) else (bif Nat.blt p 89 then (bif Nat.beq p 85 then some (1, 26, 0, 19856) else none) else (bif Nat.beq p 89 then some (1, 27, 2, 19872) else none)))))
noncomputable def ri_lt3 : Nat → Option (Nat × Nat × Nat × Nat) := fun p => bif Nat.blt p 67 then (bif Nat.blt p 37 then (bif Nat.blt p 24 then (bif Nat.blt p 18 then (bif Nat.blt p 15 then (bif Nat.beq p 9 then some (0, 3, 0, 786) else none) else (bif Nat.beq p 15 then some (0, 3, 2, 792) else none)) else (bif Nat.blt p 21 then (bif Nat.beq p 18 then some (0, 3, 3, 794) else none) else (bif Nat.beq p 21 then some (0, 3, 4, 796) else none))) else (bif Nat.blt p 31 then (bif Nat.blt p 27 then (bif Nat.beq p 24 then some (0, 3, 5, 798) else none) else (bif Nat.beq p 27 then some (0, 3, 7, 804) else none)) else (bif Nat.blt p 34 then (bif Nat.beq p 31 then some (0, 3, 8, 806) else none) else (bif Nat.beq p 34 then some (0, 3, 10, 810) else none)))) else (bif Nat.blt p 51 then (bif Nat.blt p 44 then (bif Nat.blt p 40 then (bif Nat.beq p 37 then some (0, 3, 11, 812) else none) else (bif Nat.beq p 40 then some (0, 3, 1, 788) else none)) else (bif Nat.blt p 47 then (bif Nat.beq p 44 then some (0, 3, 6, 800) else none) else (bif Nat.beq p 47 then some (0, 3, 12, 814) else none))) else (bif Nat.blt p 59 then (bif Nat.blt p 55 then (bif Nat.beq p 51 then some (1, 142, 2, 12145) else none) else (bif Nat.beq p 55 then some (1, 145, 2, 12993) else none)) else (bif Nat.blt p 63 then (bif Nat.beq p 59 then some (1, 35, 3, 12944) else none) else (bif Nat.beq p 63 then some (1, 143, 2, 13137) else none))))) else (bif Nat.blt p 104 then (bif Nat.blt p 84 then (bif Nat.blt p 74 then (bif Nat.blt p 71 then (bif Nat.beq p 67 then some (1, 39, 2, 12656) else none) else (bif Nat.beq p 71 then some (1, 40, 2, 13392) else none)) else (bif Nat.blt p 80 then (bif Nat.beq p 74 then some (1, 7, 1, 12721) else none) else (bif Nat.beq p 80 then some (1, 41, 4, 12736) else none))) else (bif Nat.blt p 92 then (bif Nat.blt p 88 then (bif Nat.beq p 84 then some (1, 44, 1, 13008) else none) else (bif Nat.beq p 88 then some (1, 36, 3, 13456) else none)) else (bif Nat.blt p 96 then (bif Nat.beq p 92 then some (1, 144, 3, 13521) else none) else (bif Nat.beq p 96 then some (1, 9, 2, 12801) else none)))) else (bif Nat.blt p 118 then (bif Nat.blt p 111 then (bif Nat.blt p 107 then (bif Nat.beq p 104 then some (1, 10, 2, 12865) else none) else (bif Nat.beq p 107 then some (1, 42, 2, 12880) else none)) else (bif Nat.blt p 115 then (bif Nat.beq p 111 then some (1, 45, 2, 13072) else none) else (bif Nat.beq p 115 then some (1, 43, 1, 13216) else none))) else (bif Nat.blt p 125 then (bif Nat.blt p 121 then (bif Nat.beq p 118 then some (0, 3, 9, 808) else none) else (bif Nat.beq p 121 then some (1, 46, 1, 13152) else none)) else (bif Nat.blt p 129 then (bif Nat.beq p 125 then some (1, 47, 0, 13280) else none) else (bif Nat.beq p 129 then some (1, 48, 3, 13344) else none)))))
noncomputable def ri_lt4 : Nat → Option (Nat × Nat × Nat × Nat) := fun p => bif Nat.blt p 43 then (bif Nat.blt p 30 then (bif Nat.blt p 20 then (bif Nat.blt p 15 then (bif Nat.beq p 9 then some (0, 4, 0, 500) else none) else (bif Nat.beq p 15 then some (1, 32, 0, 11489) else none)) else (bif Nat.blt p 26 then (bif Nat.beq p 20 then some (1, 96, 0, 11553) else none) else (bif Nat.beq p 26 then some (1, 51, 1, 11568) else none))) else (bif Nat.blt p 37 then (bif Nat.blt p 34 then (bif Nat.beq p 30 then some (1, 100, 1, 11617) else none) else (bif Nat.beq p 34 then some (0, 3, 6, 803) else none)) else (bif Nat.blt p 40 then (bif Nat.beq p 37 then some (1, 98, 0, 11633) else none) else (bif Nat.beq p 40 then some (0, 3, 1, 791) else none)))) else (bif Nat.blt p 59 then (bif Nat.blt p 51 then (bif Nat.blt p 47 then (bif Nat.beq p 43 then some (1, 54, 2, 11648) else none) else (bif Nat.beq p 47 then some (1, 99, 1, 11937) else none)) else (bif Nat.blt p 55 then (bif Nat.beq p 51 then some (1, 52, 3, 11952) else none) else (bif Nat.beq p 55 then some (1, 34, 3, 12081) else none))) else (bif Nat.blt p 65 then (bif Nat.blt p 62 then (bif Nat.beq p 59 then some (1, 53, 3, 12016) else none) else (bif Nat.beq p 62 then some (1, 33, 1, 11873) else none)) else (bif Nat.blt p 68 then (bif Nat.beq p 65 then some (1, 55, 2, 11712) else none) else (bif Nat.blt p 72 then (bif Nat.beq p 68 then some (1, 97, 0, 11777) else none) else (bif Nat.beq p 72 then some (1, 142, 2, 11857) else none)))))
noncomputable def ri_lt5 : Nat → Option (Nat × Nat × Nat × Nat) := fun p => bif Nat.blt p 43 then (bif Nat.blt p 25 then (bif Nat.blt p 18 then (bif Nat.blt p 15 then (bif Nat.beq p 9 then some (0, 5, 0, 672) else none) else (bif Nat.beq p 15 then some (0, 5, 1, 678) else none)) else (bif Nat.blt p 21 then (bif Nat.beq p 18 then some (0, 5, 2, 680) else none) else (bif Nat.beq p 21 then some (0, 5, 3, 682) else none))) else (bif Nat.blt p 35 then (bif Nat.blt p 31 then (bif Nat.beq p 25 then some (1, 7, 1, 11201) else none) else (bif Nat.beq p 31 then some (1, 58, 3, 11216) else none)) else (bif Nat.blt p 39 then (bif Nat.beq p 35 then some (1, 142, 2, 11281) else none) else (bif Nat.beq p 39 then some (1, 143, 2, 17665) else none)))) else (bif Nat.blt p 62 then (bif Nat.blt p 53 then (bif Nat.blt p 49 then (bif Nat.beq p 43 then some (1, 37, 3, 17745) else none) else (bif Nat.beq p 49 then some (1, 59, 2, 17680) else none)) else (bif Nat.blt p 59 then (bif Nat.beq p 53 then some (1, 78, 2, 17761) else none) else (bif Nat.beq p 59 then some (1, 60, 2, 17840) else none))) else (bif Nat.blt p 74 then (bif Nat.blt p 66 then (bif Nat.beq p 62 then some (1, 61, 3, 18080) else none) else (bif Nat.beq p 66 then some (1, 62, 3, 18096) else none)) else (bif Nat.blt p 77 then (bif Nat.beq p 74 then some (1, 13, 2, 18897) else none) else (bif Nat.beq p 77 then some (1, 64, 4, 18832) else none))))
noncomputable def ri_lt6 : Nat → Option (Nat × Nat × Nat × Nat) := fun p => bif Nat.blt p 38 then (bif Nat.blt p 21 then (bif Nat.blt p 15 then (bif Nat.beq p 9 then some (0, 6, 0, 744) else none) else (bif Nat.blt p 18 then (bif Nat.beq p 15 then some (0, 6, 1, 746) else none) else (bif Nat.beq p 18 then some (0, 6, 2, 748) else none))) else (bif Nat.blt p 31 then (bif Nat.beq p 21 then some (1, 158, 1, 18385) else none) else (bif Nat.blt p 35 then (bif Nat.beq p 31 then some (0, 6, 3, 750) else none) else (bif Nat.beq p 35 then some (0, 6, 4, 752) else none)))) else (bif Nat.blt p 52 then (bif Nat.blt p 43 then (bif Nat.beq p 38 then some (0, 5, 0, 675) else none) else (bif Nat.blt p 47 then (bif Nat.beq p 43 then some (1, 143, 2, 18481) else none) else (bif Nat.beq p 47 then some (1, 13, 2, 18497) else none))) else (bif Nat.blt p 59 then (bif Nat.blt p 56 then (bif Nat.beq p 52 then some (1, 59, 2, 18513) else none) else (bif Nat.beq p 56 then some (1, 60, 2, 18529) else none)) else (bif Nat.blt p 63 then (bif Nat.beq p 59 then some (1, 72, 1, 18608) else none) else (bif Nat.beq p 63 then some (1, 280, 1, 18672) else none))))
noncomputable def ri_lt7 : Nat → Option (Nat × Nat × Nat × Nat) := fun p => bif Nat.blt p 31 then (bif Nat.blt p 19 then (bif Nat.blt p 15 then (bif Nat.beq p 9 then some (0, 7, 0, 716) else none) else (bif Nat.beq p 15 then some (1, 158, 1, 15313) else none)) else (bif Nat.blt p 23 then (bif Nat.beq p 19 then some (0, 7, 1, 718) else none) else (bif Nat.blt p 27 then (bif Nat.beq p 23 then some (1, 145, 2, 15393) else none) else (bif Nat.beq p 27 then some (1, 76, 1, 15408) else none)))) else (bif Nat.blt p 42 then (bif Nat.blt p 35 then (bif Nat.beq p 31 then some (1, 143, 2, 15473) else none) else (bif Nat.blt p 39 then (bif Nat.beq p 35 then some (1, 144, 3, 15489) else none) else (bif Nat.beq p 39 then some (1, 77, 2, 15888) else none))) else (bif Nat.blt p 48 then (bif Nat.beq p 42 then some (1, 280, 1, 19280) else none) else (bif Nat.blt p 51 then (bif Nat.beq p 48 then some (1, 79, 1, 19440) else none) else (bif Nat.beq p 51 then some (1, 80, 1, 19456) else none))))
noncomputable def ri_lt8 : Nat → Option (Nat × Nat × Nat × Nat) := fun p => bif Nat.blt p 19 then (bif Nat.blt p 15 then (bif Nat.beq p 9 then some (0, 8, 0, 394) else none) else (bif Nat.beq p 15 then some (0, 8, 1, 398) else none)) else (bif Nat.blt p 23 then (bif Nat.beq p 19 then some (1, 142, 2, 8001) else none) else (bif Nat.beq p 23 then some (1, 84, 1, 8432) else none))
noncomputable def ri_lt9 : Nat → Option (Nat × Nat × Nat × Nat) := fun p => bif Nat.blt p 46 then (bif Nat.blt p 28 then (bif Nat.blt p 18 then (bif Nat.blt p 15 then (bif Nat.beq p 9 then some (0, 9, 0, 426) else none) else (bif Nat.beq p 15 then some (0, 9, 1, 428) else none)) else (bif Nat.blt p 21 then (bif Nat.beq p 18 then some (0, 9, 2, 430) else none) else (bif Nat.blt p 25 then (bif Nat.beq p 21 then some (0, 9, 3, 432) else none) else (bif Nat.beq p 25 then some (0, 9, 4, 434) else none)))) else (bif Nat.blt p 34 then (bif Nat.blt p 31 then (bif Nat.beq p 28 then some (0, 9, 5, 436) else none) else (bif Nat.beq p 31 then some (0, 8, 1, 401) else none)) else (bif Nat.blt p 38 then (bif Nat.beq p 34 then some (1, 90, 2, 8240) else none) else (bif Nat.blt p 42 then (bif Nat.beq p 38 then some (1, 89, 3, 9680) else none) else (bif Nat.beq p 42 then some (1, 142, 2, 9745) else none))))) else (bif Nat.blt p 65 then (bif Nat.blt p 54 then (bif Nat.blt p 50 then (bif Nat.beq p 46 then some (1, 84, 1, 8305) else none) else (bif Nat.beq p 50 then some (1, 85, 3, 8369) else none)) else (bif Nat.blt p 58 then (bif Nat.beq p 54 then some (1, 91, 4, 8448) else none) else (bif Nat.blt p 62 then (bif Nat.beq p 58 then some (1, 94, 3, 8496) else none) else (bif Nat.beq p 62 then some (1, 92, 3, 9760) else none)))) else (bif Nat.blt p 108 then (bif Nat.blt p 71 then (bif Nat.beq p 65 then some (1, 93, 2, 9808) else none) else (bif Nat.blt p 89 then (bif Nat.beq p 71 then some (1, 86, 3, 8561) else none) else (bif Nat.beq p 89 then some (1, 95, 3, 9504) else none))) else (bif Nat.blt p 112 then (bif Nat.beq p 108 then some (1, 143, 2, 10113) else none) else (bif Nat.blt p 115 then (bif Nat.beq p 112 then some (1, 98, 0, 10496) else none) else (bif Nat.beq p 115 then some (1, 100, 1, 10480) else none)))))
noncomputable def ri_lt10 : Nat → Option (Nat × Nat × Nat × Nat) := fun p => bif Nat.blt p 218 then (bif Nat.blt p 111 then (bif Nat.blt p 61 then (bif Nat.blt p 33 then (bif Nat.blt p 19 then (bif Nat.blt p 12 then (bif Nat.beq p 11 then some (1, 82, 0, 3089) else none) else (bif Nat.blt p 18 then (bif Nat.beq p 12 then some (0, 10, 0, 874) else none) else (bif Nat.beq p 18 then some (1, 87, 0, 3345) else none))) else (bif Nat.blt p 26 then (bif Nat.blt p 25 then (bif Nat.beq p 19 then some (0, 10, 1, 876) else none) else (bif Nat.beq p 25 then some (1, 14, 0, 3777) else none)) else (bif Nat.blt p 32 then (bif Nat.beq p 26 then some (0, 10, 2, 878) else none) else (bif Nat.beq p 32 then some (1, 49, 0, 3937) else none)))) else (bif Nat.blt p 46 then (bif Nat.blt p 39 then (bif Nat.beq p 33 then some (0, 10, 3, 880) else none) else (bif Nat.blt p 40 then (bif Nat.beq p 39 then some (1, 0, 0, 4097) else none) else (bif Nat.beq p 40 then some (0, 10, 4, 882) else none))) else (bif Nat.blt p 53 then (bif Nat.blt p 52 then (bif Nat.beq p 46 then some (0, 10, 5, 884) else none) else (bif Nat.beq p 52 then some (1, 18, 0, 4385) else none)) else (bif Nat.blt p 57 then (bif Nat.beq p 53 then some (0, 10, 7, 888) else none) else (bif Nat.beq p 57 then some (0, 10, 8, 890) else none))))) else (bif Nat.blt p 85 then (bif Nat.blt p 72 then (bif Nat.blt p 67 then (bif Nat.beq p 61 then some (0, 10, 9, 892) else none) else (bif Nat.blt p 68 then (bif Nat.beq p 67 then some (1, 56, 0, 5313) else none) else (bif Nat.beq p 68 then some (0, 10, 10, 894) else none))) else (bif Nat.blt p 79 then (bif Nat.blt p 76 then (bif Nat.beq p 72 then some (0, 10, 11, 896) else none) else (bif Nat.beq p 76 then some (0, 10, 12, 898) else none)) else (bif Nat.blt p 84 then (bif Nat.beq p 79 then some (0, 10, 13, 900) else none) else (bif Nat.beq p 84 then some (1, 73, 0, 5665) else none)))) else (bif Nat.blt p 98 then (bif Nat.blt p 92 then (bif Nat.blt p 89 then (bif Nat.beq p 85 then some (0, 10, 14, 902) else none) else (bif Nat.beq p 89 then some (0, 10, 15, 904) else none)) else (bif Nat.blt p 97 then (bif Nat.beq p 92 then some (0, 10, 16, 906) else none) else (bif Nat.beq p 97 then some (1, 68, 0, 5889) else none))) else (bif Nat.blt p 103 then (bif Nat.blt p 102 then (bif Nat.beq p 98 then some (0, 10, 17, 908) else none) else (bif Nat.beq p 102 then some (1, 31, 0, 6225) else none)) else (bif Nat.blt p 107 then (bif Nat.beq p 103 then some (0, 8, 1, 397) else none) else (bif Nat.beq p 107 then some (1, 83, 1, 7937) else none)))))) else (bif Nat.blt p 164 then (bif Nat.blt p 136 then (bif Nat.blt p 122 then (bif Nat.blt p 115 then (bif Nat.beq p 111 then some (1, 88, 1, 8177) else none) else (bif Nat.blt p 119 then (bif Nat.beq p 115 then some (1, 15, 2, 9857) else none) else (bif Nat.beq p 119 then some (0, 9, 5, 439) else none))) else (bif Nat.blt p 129 then (bif Nat.blt p 126 then (bif Nat.beq p 122 then some (1, 19, 1, 10897) else none) else (bif Nat.beq p 126 then some (1, 149, 0, 11072) else none)) else (bif Nat.blt p 132 then (bif Nat.beq p 129 then some (0, 2, 0, 563) else none) else (bif Nat.beq p 132 then some (1, 6, 0, 11297) else none)))) else (bif Nat.blt p 150 then (bif Nat.blt p 142 then (bif Nat.blt p 139 then (bif Nat.beq p 136 then some (0, 10, 6, 886) else none) else (bif Nat.beq p 139 then some (1, 50, 2, 11425) else none)) else (bif Nat.blt p 146 then (bif Nat.beq p 142 then some (1, 142, 2, 12224) else none) else (bif Nat.beq p 146 then some (1, 5, 0, 12241) else none))) else (bif Nat.blt p 157 then (bif Nat.blt p 154 then (bif Nat.beq p 150 then some (1, 7, 1, 12257) else none) else (bif Nat.beq p 154 then some (1, 8, 2, 12273) else none)) else (bif Nat.blt p 161 then (bif Nat.beq p 157 then some (1, 9, 2, 12337) else none) else (bif Nat.beq p 161 then some (1, 10, 2, 12401) else none))))) else (bif Nat.blt p 192 then (bif Nat.blt p 177 then (bif Nat.blt p 170 then (bif Nat.beq p 164 then some (1, 150, 1, 12528) else none) else (bif Nat.blt p 174 then (bif Nat.beq p 170 then some (1, 36, 3, 13553) else none) else (bif Nat.beq p 174 then some (1, 21, 1, 13633) else none))) else (bif Nat.blt p 185 then (bif Nat.blt p 181 then (bif Nat.beq p 177 then some (1, 22, 4, 13761) else none) else (bif Nat.beq p 181 then some (1, 23, 1, 13905) else none)) else (bif Nat.blt p 188 then (bif Nat.beq p 185 then some (0, 2, 1, 567) else none) else (bif Nat.beq p 188 then some (1, 143, 2, 13968) else none)))) else (bif Nat.blt p 204 then (bif Nat.blt p 198 then (bif Nat.blt p 195 then (bif Nat.beq p 192 then some (0, 2, 2, 571) else none) else (bif Nat.beq p 195 then some (0, 2, 3, 575) else none)) else (bif Nat.blt p 201 then (bif Nat.beq p 198 then some (0, 2, 4, 579) else none) else (bif Nat.beq p 201 then some (1, 24, 1, 13985) else none))) else (bif Nat.blt p 211 then (bif Nat.blt p 208 then (bif Nat.beq p 204 then some (1, 25, 2, 14113) else none) else (bif Nat.beq p 208 then some (0, 2, 7, 589) else none)) else (bif Nat.blt p 215 then (bif Nat.beq p 211 then some (1, 154, 3, 14368) else none) else (bif Nat.beq p 215 then some (1, 26, 0, 14689) else none))))))) else (bif Nat.blt p 330 then (bif Nat.blt p 270 then (bif Nat.blt p 242 then (bif Nat.blt p 229 then (bif Nat.blt p 222 then (bif Nat.beq p 218 then some (1, 156, 4, 14752) else none) else (bif Nat.blt p 226 then (bif Nat.beq p 222 then some (1, 151, 2, 15120) else none) else (bif Nat.beq p 226 then some (0, 7, 1, 721) else none))) else (bif Nat.blt p 235 then (bif Nat.blt p 232 then (bif Nat.beq p 229 then some (1, 77, 2, 15633) else none) else (bif Nat.beq p 232 then some (1, 11, 1, 15761) else none)) else (bif Nat.blt p 238 then (bif Nat.beq p 235 then some (1, 79, 1, 15825) else none) else (bif Nat.beq p 238 then some (1, 161, 1, 15968) else none)))) else (bif Nat.blt p 257 then (bif Nat.blt p 250 then (bif Nat.blt p 247 then (bif Nat.beq p 242 then some (1, 160, 1, 16032) else none) else (bif Nat.beq p 247 then some (1, 27, 2, 14865) else none)) else (bif Nat.blt p 254 then (bif Nat.beq p 250 then some (1, 162, 1, 16240) else none) else (bif Nat.beq p 254 then some (1, 13, 2, 14433) else none))) else (bif Nat.blt p 263 then (bif Nat.blt p 260 then (bif Nat.beq p 257 then some (1, 145, 2, 15024) else none) else (bif Nat.beq p 260 then some (1, 146, 2, 16304) else none)) else (bif Nat.blt p 267 then (bif Nat.beq p 263 then some (1, 153, 2, 16512) else none) else (bif Nat.beq p 267 then some (1, 155, 1, 16656) else none))))) else (bif Nat.blt p 295 then (bif Nat.blt p 282 then (bif Nat.blt p 273 then (bif Nat.beq p 270 then some (1, 163, 1, 16768) else none) else (bif Nat.blt p 278 then (bif Nat.beq p 273 then some (1, 280, 1, 16352) else none) else (bif Nat.beq p 278 then some (1, 164, 3, 16832) else none))) else (bif Nat.blt p 289 then (bif Nat.blt p 286 then (bif Nat.beq p 282 then some (1, 165, 2, 16960) else none) else (bif Nat.beq p 286 then some (1, 152, 2, 14496) else none)) else (bif Nat.blt p 292 then (bif Nat.beq p 289 then some (1, 78, 2, 17089) else none) else (bif Nat.beq p 292 then some (1, 279, 1, 17216) else none)))) else (bif Nat.blt p 309 then (bif Nat.blt p 303 then (bif Nat.blt p 299 then (bif Nat.beq p 295 then some (1, 159, 3, 15184) else none) else (bif Nat.beq p 299 then some (1, 37, 3, 14561) else none)) else (bif Nat.blt p 306 then (bif Nat.beq p 303 then some (1, 166, 1, 17536) else none) else (bif Nat.beq p 306 then some (1, 148, 1, 17904) else none))) else (bif Nat.blt p 316 then (bif Nat.blt p 313 then (bif Nat.beq p 309 then some (1, 66, 3, 18017) else none) else (bif Nat.beq p 313 then some (1, 61, 3, 17601) else none)) else (bif Nat.blt p 327 then (bif Nat.beq p 316 then some (1, 62, 3, 17777) else none) else (bif Nat.beq p 327 then some (1, 67, 4, 18193) else none)))))) else (bif Nat.blt p 378 then (bif Nat.blt p 354 then (bif Nat.blt p 340 then (bif Nat.blt p 333 then (bif Nat.beq p 330 then some (0, 5, 3, 685) else none) else (bif Nat.blt p 336 then (bif Nat.beq p 333 then some (1, 69, 1, 18321) else none) else (bif Nat.beq p 336 then some (1, 70, 4, 18417) else none))) else (bif Nat.blt p 347 then (bif Nat.blt p 343 then (bif Nat.beq p 340 then some (1, 71, 0, 18545) else none) else (bif Nat.beq p 343 then some (1, 65, 5, 18769) else none)) else (bif Nat.blt p 350 then (bif Nat.beq p 347 then some (0, 2, 11, 605) else none) else (bif Nat.beq p 350 then some (1, 147, 1, 19040) else none)))) else (bif Nat.blt p 366 then (bif Nat.blt p 360 then (bif Nat.blt p 357 then (bif Nat.beq p 354 then some (1, 167, 2, 19152) else none) else (bif Nat.beq p 357 then some (0, 2, 10, 601) else none)) else (bif Nat.blt p 363 then (bif Nat.beq p 360 then some (1, 30, 1, 19537) else none) else (bif Nat.beq p 363 then some (0, 2, 9, 597) else none))) else (bif Nat.blt p 372 then (bif Nat.blt p 369 then (bif Nat.beq p 366 then some (0, 2, 8, 593) else none) else (bif Nat.beq p 369 then some (0, 2, 6, 585) else none)) else (bif Nat.blt p 375 then (bif Nat.beq p 372 then some (1, 28, 0, 19729) else none) else (bif Nat.beq p 375 then some (1, 29, 0, 19793) else none))))) else (bif Nat.blt p 408 then (bif Nat.blt p 395 then (bif Nat.blt p 388 then (bif Nat.beq p 378 then some (1, 20, 1, 19953) else none) else (bif Nat.blt p 391 then (bif Nat.beq p 388 then some (1, 57, 1, 11137) else none) else (bif Nat.beq p 391 then some (0, 3, 12, 817) else none))) else (bif Nat.blt p 401 then (bif Nat.blt p 398 then (bif Nat.beq p 395 then some (1, 38, 1, 12593) else none) else (bif Nat.beq p 398 then some (1, 12, 0, 16577) else none)) else (bif Nat.blt p 405 then (bif Nat.beq p 401 then some (1, 158, 1, 14816) else none) else (bif Nat.beq p 405 then some (1, 157, 2, 14960) else none)))) else (bif Nat.blt p 420 then (bif Nat.blt p 414 then (bif Nat.blt p 412 then (bif Nat.beq p 408 then some (1, 144, 3, 15040) else none) else (bif Nat.beq p 412 then some (1, 74, 0, 15249) else none)) else (bif Nat.blt p 417 then (bif Nat.beq p 414 then some (1, 75, 3, 15329) else none) else (bif Nat.beq p 417 then some (1, 80, 1, 19217) else none))) else (bif Nat.blt p 424 then (bif Nat.blt p 423 then (bif Nat.beq p 420 then some (1, 63, 3, 19297) else none) else (bif Nat.beq p 423 then some (0, 5, 0, 677) else none)) else (bif Nat.blt p 428 then (bif Nat.beq p 424 then some (1, 64, 4, 19361) else none) else (bif Nat.beq p 428 then some (1, 81, 2, 19377) else none)))))))
noncomputable def ri_lt11 : Nat → Option (Nat × Nat × Nat × Nat) := fun p => bif Nat.blt p 217 then (bif Nat.blt p 99 then (bif Nat.blt p 52 then (bif Nat.blt p 29 then (bif Nat.blt p 20 then (bif Nat.blt p 13 then (bif Nat.beq p 7 then some (0, 11, 0, 2524) else none) else (bif Nat.blt p 17 then (bif Nat.beq p 13 then some (0, 11, 3, 2530) else none) else (bif Nat.beq p 17 then some (0, 11, 4, 2532) else none))) else (bif Nat.blt p 23 then (bif Nat.beq p 20 then some (0, 11, 5, 2534) else none) else (bif Nat.blt p 26 then (bif Nat.beq p 23 then some (0, 11, 6, 2536) else none) else (bif Nat.beq p 26 then some (0, 11, 10, 2544) else none)))) else (bif Nat.blt p 39 then (bif Nat.blt p 32 then (bif Nat.beq p 29 then some (0, 11, 11, 2546) else none) else (bif Nat.blt p 35 then (bif Nat.beq p 32 then some (0, 11, 19, 2562) else none) else (bif Nat.beq p 35 then some (0, 11, 21, 2566) else none))) else (bif Nat.blt p 45 then (bif Nat.blt p 42 then (bif Nat.beq p 39 then some (0, 11, 23, 2570) else none) else (bif Nat.beq p 42 then some (0, 11, 24, 2572) else none)) else (bif Nat.blt p 48 then (bif Nat.beq p 45 then some (0, 11, 25, 2574) else none) else (bif Nat.beq p 48 then some (0, 11, 26, 2576) else none))))) else (bif Nat.blt p 74 then (bif Nat.blt p 61 then (bif Nat.blt p 55 then (bif Nat.beq p 52 then some (0, 11, 30, 2584) else none) else (bif Nat.blt p 58 then (bif Nat.beq p 55 then some (0, 11, 31, 2586) else none) else (bif Nat.beq p 58 then some (0, 11, 32, 2588) else none))) else (bif Nat.blt p 67 then (bif Nat.blt p 64 then (bif Nat.beq p 61 then some (0, 11, 36, 2596) else none) else (bif Nat.beq p 64 then some (0, 11, 37, 2598) else none)) else (bif Nat.blt p 70 then (bif Nat.beq p 67 then some (0, 11, 38, 2600) else none) else (bif Nat.beq p 70 then some (0, 11, 1, 2526) else none)))) else (bif Nat.blt p 84 then (bif Nat.blt p 78 then (bif Nat.beq p 74 then some (1, 171, 1, 22144) else none) else (bif Nat.blt p 81 then (bif Nat.beq p 78 then some (0, 11, 13, 2550) else none) else (bif Nat.beq p 81 then some (0, 11, 12, 2548) else none))) else (bif Nat.blt p 92 then (bif Nat.blt p 88 then (bif Nat.beq p 84 then some (1, 175, 0, 22464) else none) else (bif Nat.beq p 88 then some (1, 177, 1, 22608) else none)) else (bif Nat.blt p 96 then (bif Nat.beq p 92 then some (1, 178, 1, 22544) else none) else (bif Nat.beq p 96 then some (1, 179, 0, 22848) else none)))))) else (bif Nat.blt p 163 then (bif Nat.blt p 138 then (bif Nat.blt p 109 then (bif Nat.blt p 102 then (bif Nat.beq p 99 then some (1, 176, 1, 22976) else none) else (bif Nat.blt p 106 then (bif Nat.beq p 102 then some (1, 174, 2, 22720) else none) else (bif Nat.beq p 106 then some (0, 11, 14, 2552) else none))) else (bif Nat.blt p 132 then (bif Nat.blt p 129 then (bif Nat.beq p 109 then some (1, 169, 3, 23040) else none) else (bif Nat.beq p 129 then some (0, 11, 15, 2554) else none)) else (bif Nat.blt p 135 then (bif Nat.beq p 132 then some (0, 11, 16, 2556) else none) else (bif Nat.beq p 135 then some (0, 11, 17, 2558) else none)))) else (bif Nat.blt p 150 then (bif Nat.blt p 141 then (bif Nat.beq p 138 then some (0, 11, 20, 2564) else none) else (bif Nat.blt p 145 then (bif Nat.beq p 141 then some (1, 186, 1, 24288) else none) else (bif Nat.beq p 145 then some (1, 183, 2, 23552) else none))) else (bif Nat.blt p 156 then (bif Nat.blt p 153 then (bif Nat.beq p 150 then some (1, 181, 2, 22912) else none) else (bif Nat.beq p 153 then some (1, 184, 1, 23488) else none)) else (bif Nat.blt p 159 then (bif Nat.beq p 156 then some (1, 182, 0, 23616) else none) else (bif Nat.beq p 159 then some (1, 188, 0, 23408) else none))))) else (bif Nat.blt p 186 then (bif Nat.blt p 174 then (bif Nat.blt p 166 then (bif Nat.beq p 163 then some (1, 189, 0, 23344) else none) else (bif Nat.blt p 171 then (bif Nat.beq p 166 then some (1, 190, 0, 23280) else none) else (bif Nat.beq p 171 then some (1, 185, 1, 24032) else none))) else (bif Nat.blt p 180 then (bif Nat.blt p 177 then (bif Nat.beq p 174 then some (1, 191, 0, 24096) else none) else (bif Nat.beq p 177 then some (1, 187, 1, 24224) else none)) else (bif Nat.blt p 183 then (bif Nat.beq p 180 then some (1, 193, 0, 24336) else none) else (bif Nat.beq p 183 then some (1, 192, 0, 23952) else none)))) else (bif Nat.blt p 201 then (bif Nat.blt p 195 then (bif Nat.beq p 186 then some (1, 194, 0, 24160) else none) else (bif Nat.blt p 198 then (bif Nat.beq p 195 then some (1, 180, 1, 23824) else none) else (bif Nat.beq p 198 then some (1, 195, 0, 23888) else none))) else (bif Nat.blt p 209 then (bif Nat.blt p 204 then (bif Nat.beq p 201 then some (0, 11, 8, 2540) else none) else (bif Nat.beq p 204 then some (0, 11, 9, 2542) else none)) else (bif Nat.blt p 214 then (bif Nat.beq p 209 then some (0, 11, 7, 2538) else none) else (bif Nat.beq p 214 then some (1, 197, 0, 23088) else none))))))) else (bif Nat.blt p 320 then (bif Nat.blt p 265 then (bif Nat.blt p 239 then (bif Nat.blt p 230 then (bif Nat.blt p 224 then (bif Nat.beq p 217 then some (1, 198, 0, 23152) else none) else (bif Nat.blt p 227 then (bif Nat.beq p 224 then some (0, 11, 18, 2560) else none) else (bif Nat.beq p 227 then some (1, 199, 1, 22784) else none))) else (bif Nat.blt p 233 then (bif Nat.beq p 230 then some (1, 196, 1, 23216) else none) else (bif Nat.blt p 236 then (bif Nat.beq p 233 then some (1, 200, 0, 22400) else none) else (bif Nat.beq p 236 then some (0, 11, 2, 2528) else none)))) else (bif Nat.blt p 248 then (bif Nat.blt p 242 then (bif Nat.beq p 239 then some (1, 201, 0, 22336) else none) else (bif Nat.blt p 245 then (bif Nat.beq p 242 then some (1, 210, 0, 24496) else none) else (bif Nat.beq p 245 then some (0, 11, 22, 2568) else none))) else (bif Nat.blt p 256 then (bif Nat.blt p 252 then (bif Nat.beq p 248 then some (1, 205, 1, 25200) else none) else (bif Nat.beq p 252 then some (1, 206, 0, 25264) else none)) else (bif Nat.blt p 260 then (bif Nat.beq p 256 then some (1, 207, 3, 25328) else none) else (bif Nat.beq p 260 then some (1, 209, 0, 24688) else none))))) else (bif Nat.blt p 292 then (bif Nat.blt p 275 then (bif Nat.blt p 268 then (bif Nat.beq p 265 then some (1, 211, 1, 24624) else none) else (bif Nat.blt p 271 then (bif Nat.beq p 268 then some (1, 212, 2, 24768) else none) else (bif Nat.beq p 271 then some (1, 219, 2, 25088) else none))) else (bif Nat.blt p 283 then (bif Nat.blt p 279 then (bif Nat.beq p 275 then some (1, 220, 3, 25024) else none) else (bif Nat.beq p 279 then some (1, 208, 3, 25136) else none)) else (bif Nat.blt p 286 then (bif Nat.beq p 283 then some (1, 204, 1, 24896) else none) else (bif Nat.beq p 286 then some (1, 221, 4, 24960) else none)))) else (bif Nat.blt p 301 then (bif Nat.blt p 295 then (bif Nat.beq p 292 then some (1, 216, 2, 25568) else none) else (bif Nat.blt p 298 then (bif Nat.beq p 295 then some (1, 214, 1, 25456) else none) else (bif Nat.beq p 298 then some (1, 223, 1, 25504) else none))) else (bif Nat.blt p 313 then (bif Nat.blt p 310 then (bif Nat.beq p 301 then some (1, 215, 1, 25696) else none) else (bif Nat.beq p 310 then some (1, 217, 2, 26320) else none)) else (bif Nat.blt p 317 then (bif Nat.beq p 313 then some (1, 230, 4, 26256) else none) else (bif Nat.beq p 317 then some (1, 228, 1, 26512) else none)))))) else (bif Nat.blt p 364 then (bif Nat.blt p 342 then (bif Nat.blt p 329 then (bif Nat.blt p 323 then (bif Nat.beq p 320 then some (1, 231, 2, 26192) else none) else (bif Nat.blt p 326 then (bif Nat.beq p 323 then some (1, 229, 1, 26128) else none) else (bif Nat.beq p 326 then some (1, 232, 2, 26448) else none))) else (bif Nat.blt p 335 then (bif Nat.blt p 332 then (bif Nat.beq p 329 then some (1, 233, 1, 26000) else none) else (bif Nat.beq p 332 then some (1, 213, 1, 26064) else none)) else (bif Nat.blt p 338 then (bif Nat.beq p 335 then some (1, 234, 1, 26640) else none) else (bif Nat.beq p 338 then some (1, 235, 3, 26688) else none)))) else (bif Nat.blt p 351 then (bif Nat.blt p 345 then (bif Nat.beq p 342 then some (1, 240, 2, 26880) else none) else (bif Nat.blt p 348 then (bif Nat.beq p 345 then some (0, 11, 27, 2578) else none) else (bif Nat.beq p 348 then some (0, 11, 28, 2580) else none))) else (bif Nat.blt p 357 then (bif Nat.blt p 354 then (bif Nat.beq p 351 then some (0, 11, 29, 2582) else none) else (bif Nat.beq p 354 then some (1, 243, 1, 27072) else none)) else (bif Nat.blt p 361 then (bif Nat.beq p 357 then some (1, 170, 1, 27264) else none) else (bif Nat.beq p 361 then some (1, 247, 2, 27376) else none))))) else (bif Nat.blt p 386 then (bif Nat.blt p 373 then (bif Nat.blt p 367 then (bif Nat.beq p 364 then some (1, 249, 0, 27504) else none) else (bif Nat.blt p 370 then (bif Nat.beq p 367 then some (1, 250, 2, 27568) else none) else (bif Nat.beq p 370 then some (0, 11, 33, 2590) else none))) else (bif Nat.blt p 379 then (bif Nat.blt p 376 then (bif Nat.beq p 373 then some (0, 11, 34, 2592) else none) else (bif Nat.beq p 376 then some (0, 11, 35, 2594) else none)) else (bif Nat.blt p 383 then (bif Nat.beq p 379 then some (1, 258, 3, 28144) else none) else (bif Nat.beq p 383 then some (1, 257, 0, 28016) else none)))) else (bif Nat.blt p 396 then (bif Nat.blt p 389 then (bif Nat.beq p 386 then some (1, 259, 1, 28080) else none) else (bif Nat.blt p 392 then (bif Nat.beq p 389 then some (1, 260, 2, 28208) else none) else (bif Nat.beq p 392 then some (1, 261, 1, 28384) else none))) else (bif Nat.blt p 402 then (bif Nat.blt p 399 then (bif Nat.beq p 396 then some (1, 265, 1, 28512) else none) else (bif Nat.beq p 399 then some (1, 266, 1, 28576) else none)) else (bif Nat.blt p 405 then (bif Nat.beq p 402 then some (1, 267, 1, 28640) else none) else (bif Nat.beq p 405 then some (1, 268, 1, 28704) else none)))))))
noncomputable def ri_lt12 : Nat → Option (Nat × Nat × Nat × Nat) := fun p => bif Nat.blt p 98 then (bif Nat.blt p 57 then (bif Nat.blt p 32 then (bif Nat.blt p 22 then (bif Nat.blt p 13 then (bif Nat.blt p 12 then (bif Nat.beq p 9 then some (1, 102, 0, 2960) else none) else (bif Nat.beq p 12 then some (1, 168, 0, 20128) else none)) else (bif Nat.blt p 17 then (bif Nat.beq p 13 then some (1, 103, 5, 7872) else none) else (bif Nat.blt p 18 then (bif Nat.beq p 17 then some (1, 172, 5, 22080) else none) else (bif Nat.beq p 18 then some (1, 104, 1, 8048) else none)))) else (bif Nat.blt p 27 then (bif Nat.blt p 23 then (bif Nat.beq p 22 then some (1, 173, 1, 22208) else none) else (bif Nat.beq p 23 then some (1, 105, 0, 8112) else none)) else (bif Nat.blt p 28 then (bif Nat.beq p 27 then some (1, 203, 0, 24432) else none) else (bif Nat.blt p 31 then (bif Nat.beq p 28 then some (1, 106, 0, 11360) else none) else (bif Nat.beq p 31 then some (1, 202, 0, 22272) else none))))) else (bif Nat.blt p 46 then (bif Nat.blt p 37 then (bif Nat.blt p 36 then (bif Nat.beq p 32 then some (1, 107, 3, 12160) else none) else (bif Nat.beq p 36 then some (1, 218, 3, 24560) else none)) else (bif Nat.blt p 41 then (bif Nat.beq p 37 then some (1, 108, 4, 12464) else none) else (bif Nat.blt p 42 then (bif Nat.beq p 41 then some (1, 222, 4, 24832) else none) else (bif Nat.beq p 42 then some (1, 109, 4, 13568) else none)))) else (bif Nat.blt p 51 then (bif Nat.blt p 47 then (bif Nat.beq p 46 then some (1, 224, 4, 25392) else none) else (bif Nat.beq p 47 then some (1, 110, 2, 13840) else none)) else (bif Nat.blt p 52 then (bif Nat.beq p 51 then some (1, 225, 2, 25632) else none) else (bif Nat.blt p 56 then (bif Nat.beq p 52 then some (1, 111, 2, 14048) else none) else (bif Nat.beq p 56 then some (1, 226, 2, 25776) else none)))))) else (bif Nat.blt p 77 then (bif Nat.blt p 68 then (bif Nat.blt p 61 then (bif Nat.blt p 60 then (bif Nat.beq p 57 then some (1, 112, 1, 14176) else none) else (bif Nat.beq p 60 then some (1, 227, 1, 25840) else none)) else (bif Nat.blt p 64 then (bif Nat.beq p 61 then some (1, 114, 3, 14304) else none) else (bif Nat.blt p 65 then (bif Nat.beq p 64 then some (1, 236, 3, 25936) else none) else (bif Nat.beq p 65 then some (1, 115, 2, 14624) else none)))) else (bif Nat.blt p 72 then (bif Nat.blt p 69 then (bif Nat.beq p 68 then some (1, 237, 2, 26384) else none) else (bif Nat.beq p 69 then some (1, 116, 2, 15056) else none)) else (bif Nat.blt p 73 then (bif Nat.beq p 72 then some (1, 238, 2, 26576) else none) else (bif Nat.blt p 76 then (bif Nat.beq p 73 then some (1, 117, 3, 15504) else none) else (bif Nat.beq p 76 then some (1, 239, 3, 26752) else none))))) else (bif Nat.blt p 88 then (bif Nat.blt p 81 then (bif Nat.blt p 80 then (bif Nat.beq p 77 then some (1, 118, 4, 15568) else none) else (bif Nat.beq p 80 then some (1, 241, 4, 26816) else none)) else (bif Nat.blt p 84 then (bif Nat.beq p 81 then some (1, 119, 2, 15696) else none) else (bif Nat.blt p 85 then (bif Nat.beq p 84 then some (1, 242, 2, 26944) else none) else (bif Nat.beq p 85 then some (1, 120, 2, 15904) else none)))) else (bif Nat.blt p 93 then (bif Nat.blt p 89 then (bif Nat.beq p 88 then some (1, 244, 2, 27008) else none) else (bif Nat.beq p 89 then some (1, 121, 1, 16096) else none)) else (bif Nat.blt p 94 then (bif Nat.beq p 93 then some (1, 245, 1, 27136) else none) else (bif Nat.blt p 97 then (bif Nat.beq p 94 then some (1, 122, 1, 16176) else none) else (bif Nat.beq p 97 then some (1, 246, 1, 27200) else none))))))) else (bif Nat.blt p 138 then (bif Nat.blt p 118 then (bif Nat.blt p 109 then (bif Nat.blt p 102 then (bif Nat.blt p 101 then (bif Nat.beq p 98 then some (1, 123, 1, 16448) else none) else (bif Nat.beq p 101 then some (1, 248, 1, 27312) else none)) else (bif Nat.blt p 105 then (bif Nat.beq p 102 then some (1, 124, 2, 16704) else none) else (bif Nat.blt p 106 then (bif Nat.beq p 105 then some (1, 251, 2, 27440) else none) else (bif Nat.beq p 106 then some (1, 125, 3, 16896) else none)))) else (bif Nat.blt p 113 then (bif Nat.blt p 110 then (bif Nat.beq p 109 then some (1, 252, 3, 27632) else none) else (bif Nat.beq p 110 then some (1, 126, 3, 17024) else none)) else (bif Nat.blt p 114 then (bif Nat.beq p 113 then some (1, 253, 3, 27696) else none) else (bif Nat.blt p 117 then (bif Nat.beq p 114 then some (1, 127, 3, 17152) else none) else (bif Nat.beq p 117 then some (1, 254, 3, 27760) else none))))) else (bif Nat.blt p 129 then (bif Nat.blt p 122 then (bif Nat.blt p 121 then (bif Nat.beq p 118 then some (1, 128, 2, 17280) else none) else (bif Nat.beq p 121 then some (1, 255, 2, 27824) else none)) else (bif Nat.blt p 125 then (bif Nat.beq p 122 then some (1, 129, 3, 17344) else none) else (bif Nat.blt p 126 then (bif Nat.beq p 125 then some (1, 256, 3, 27888) else none) else (bif Nat.beq p 126 then some (1, 131, 3, 17472) else none)))) else (bif Nat.blt p 133 then (bif Nat.blt p 130 then (bif Nat.beq p 129 then some (1, 262, 3, 27952) else none) else (bif Nat.beq p 130 then some (1, 130, 3, 17408) else none)) else (bif Nat.blt p 134 then (bif Nat.beq p 133 then some (1, 263, 3, 28256) else none) else (bif Nat.blt p 137 then (bif Nat.beq p 134 then some (1, 132, 4, 17952) else none) else (bif Nat.beq p 137 then some (1, 264, 4, 28320) else none)))))) else (bif Nat.blt p 158 then (bif Nat.blt p 149 then (bif Nat.blt p 142 then (bif Nat.blt p 141 then (bif Nat.beq p 138 then some (1, 133, 2, 18256) else none) else (bif Nat.beq p 141 then some (1, 269, 2, 28448) else none)) else (bif Nat.blt p 145 then (bif Nat.beq p 142 then some (1, 134, 5, 18704) else none) else (bif Nat.blt p 146 then (bif Nat.beq p 145 then some (1, 270, 5, 28768) else none) else (bif Nat.beq p 146 then some (1, 113, 1, 14240) else none)))) else (bif Nat.blt p 153 then (bif Nat.blt p 150 then (bif Nat.beq p 149 then some (1, 271, 1, 28832) else none) else (bif Nat.beq p 150 then some (1, 135, 1, 18912) else none)) else (bif Nat.blt p 154 then (bif Nat.beq p 153 then some (1, 272, 1, 28896) else none) else (bif Nat.blt p 157 then (bif Nat.beq p 154 then some (1, 136, 3, 18976) else none) else (bif Nat.beq p 157 then some (1, 273, 3, 28960) else none))))) else (bif Nat.blt p 169 then (bif Nat.blt p 162 then (bif Nat.blt p 161 then (bif Nat.beq p 158 then some (1, 137, 1, 19472) else none) else (bif Nat.beq p 161 then some (1, 274, 1, 29104) else none)) else (bif Nat.blt p 165 then (bif Nat.beq p 162 then some (1, 138, 4, 19600) else none) else (bif Nat.blt p 166 then (bif Nat.beq p 165 then some (1, 275, 4, 29168) else none) else (bif Nat.beq p 166 then some (1, 139, 1, 19664) else none)))) else (bif Nat.blt p 173 then (bif Nat.blt p 170 then (bif Nat.beq p 169 then some (1, 276, 1, 29232) else none) else (bif Nat.beq p 170 then some (1, 140, 1, 19888) else none)) else (bif Nat.blt p 174 then (bif Nat.beq p 173 then some (1, 277, 1, 29296) else none) else (bif Nat.blt p 177 then (bif Nat.beq p 174 then some (1, 141, 1, 20032) else none) else (bif Nat.beq p 177 then some (1, 278, 1, 29376) else none)))))))
noncomputable def ri_lt13 : Nat → Option (Nat × Nat × Nat × Nat) := fun p => none
noncomputable def ri_ltt : Nat → Nat → Option (Nat × Nat × Nat × Nat) := fun p => bif Nat.blt p 7 then (bif Nat.blt p 3 then (bif Nat.blt p 1 then (ri_lt0) else (bif Nat.blt p 2 then (ri_lt1) else (ri_lt2))) else (bif Nat.blt p 5 then (bif Nat.blt p 4 then (ri_lt3) else (ri_lt4)) else (bif Nat.blt p 6 then (ri_lt5) else (ri_lt6)))) else (bif Nat.blt p 10 then (bif Nat.blt p 8 then (ri_lt7) else (bif Nat.blt p 9 then (ri_lt8) else (ri_lt9))) else (bif Nat.blt p 12 then (bif Nat.blt p 11 then (ri_lt10) else (ri_lt11)) else (bif Nat.blt p 13 then (ri_lt12) else (ri_lt13))))
noncomputable def ri_lt (o i : Nat) : Option (Nat × Nat × Nat × Nat) := bif Nat.blt o 14 && Nat.blt i 512 then ri_ltt o i else none
noncomputable def ri_on : Nat → String := fun p => bif Nat.blt p 7 then (bif Nat.blt p 3 then (bif Nat.blt p 1 then (RX0) else (bif Nat.blt p 2 then (RX1) else (RX2))) else (bif Nat.blt p 5 then (bif Nat.blt p 4 then (RX3) else (RX4)) else (bif Nat.blt p 6 then (RX5) else (RX6)))) else (bif Nat.blt p 10 then (bif Nat.blt p 8 then (RX7) else (bif Nat.blt p 9 then (RX8) else (RX9))) else (bif Nat.blt p 12 then (bif Nat.blt p 11 then (RX10) else (RX11)) else (bif Nat.blt p 13 then (RL) else (RJ6))))
noncomputable def ri_lqr (o i : Nat) (r : Option (Nat × Nat × Nat × Nat)) : Bool := match r with
  | some (0, a, b, c) => (match vwCl[a]? with
    | some q => Nat.blt b q.2.2 && ri_fk (ri_on o) i c (q.2.1 b)
    | none => false)
  | some (_, a, b, c) => ri_lk (ri_on o) i a b c
  | none => true
noncomputable def ri_lq (o i : Nat) : Bool := ri_lqr o i (ri_ltt o i)
theorem ri_wof {i : Nat} {w : Cond} (h : lw_tbl[i]? = some w) : ri_w i w = true := by
  unfold ri_w
  rw [h]
  exact decide_eq_true rfl
noncomputable def ri_oq (s : String) : Bool := plainName s && (decide (s ≠ "java/lang/invoke/MethodHandle") && decide (s ≠ "java/lang/invoke/VarHandle"))
theorem ri_oqp {s t : String} (h : s = t) (q : ri_oq s = true) : plainName t = true := by
  subst h
  unfold ri_oq at q
  rw [Bool.and_eq_true] at q
  exact q.1
theorem ri_nd_of {y : MethodName} {n : Nat} {s : String} (h : s = y.cls) (q : ri_oq s = true) (hd : (parseMethodDescriptor y.desc).map (fun d => d.parameters.length) = some n) : ri_nd y n = true := by
  subst h
  unfold ri_oq at q
  unfold ri_nd
  rw [Bool.and_eq_true] at q ⊢
  have q2 := q.2
  rw [Bool.and_eq_true] at q2 ⊢
  exact ⟨q2.1, q2.2, decide_eq_true hd⟩
theorem ri_lk_a {own : String} {i a b c k : Nat} (h1 : Nat.blt a ri_n = true) (h2 : ri_nd (ri_y a) b = true) (hc : Nat.beq c (16 * k) = true) (h3 : lw_tbl[k]? = some (.methodLink own i (ri_y a))) : ri_lk own i a b c = true := by
  obtain rfl : c = 16 * k := Nat.eq_of_beq_eq_true hc
  unfold ri_lk
  rw [Bool.and_eq_true, Bool.and_eq_true, if_pos (Nat.mul_mod_right 16 k), Nat.mul_div_cancel_left k (by decide)]
  exact ⟨h1, h2, ri_wof h3⟩
theorem ri_lk_b {own : String} {i a b c k : Nat} (h1 : Nat.blt a ri_n = true) (h2 : ri_nd (ri_y a) b = true) (hc : Nat.beq c (16 * k + 1) = true) (h3 : lw_tbl[k]? = some (.methodLinkNest own i (ri_y a) "WarmerColder")) : ri_lk own i a b c = true := by
  obtain rfl : c = 16 * k + 1 := Nat.eq_of_beq_eq_true hc
  unfold ri_lk
  rw [Bool.and_eq_true, Bool.and_eq_true, if_neg (by omega), show (16 * k + 1) / 16 = k by omega]
  exact ⟨h1, h2, ri_wof h3⟩
theorem ri_lqm {o k a b c : Nat} (h : ri_lk (ri_on o) k a b c = true) : ri_lqr o k (some (1, a, b, c)) = true := h
theorem ri_lqf {o k a b c m : Nat} {q : vw_C} (hq : vwCl[a]? = some q) (hb : Nat.blt b q.2.2 = true) (hc : Nat.beq c (2 * m) = true) (hw : lw_tbl[m]? = some (.fieldLink (ri_on o) k (q.2.1 b).1 (q.2.1 b).2.1 (q.2.1 b).2.2.1)) : ri_lqr o k (some (0, a, b, c)) = true := by
  obtain rfl : c = 2 * m := Nat.eq_of_beq_eq_true hc
  show (match vwCl[a]? with
    | some q => Nat.blt b q.2.2 && ri_fk (ri_on o) k (2 * m) (q.2.1 b)
    | none => false) = true
  rw [hq]
  show (Nat.blt b q.2.2 && ri_fk (ri_on o) k (2 * m) (q.2.1 b)) = true
  unfold ri_fk
  rw [Bool.and_eq_true, if_pos (Nat.mul_mod_right 2 m), Nat.mul_div_cancel_left m (by decide)]
  exact ⟨hb, ri_wof hw⟩
theorem ri_lqg {o k a b c m : Nat} {q : vw_C} (hq : vwCl[a]? = some q) (hb : Nat.blt b q.2.2 = true) (hc : Nat.beq c (2 * m + 1) = true) (hw : lw_tbl[m]? = some (.fieldLinkNest (ri_on o) k (q.2.1 b).1 (q.2.1 b).2.1 (q.2.1 b).2.2.1 "WarmerColder")) : ri_lqr o k (some (0, a, b, c)) = true := by
  obtain rfl : c = 2 * m + 1 := Nat.eq_of_beq_eq_true hc
  show (match vwCl[a]? with
    | some q => Nat.blt b q.2.2 && ri_fk (ri_on o) k (2 * m + 1) (q.2.1 b)
    | none => false) = true
  rw [hq]
  show (Nat.blt b q.2.2 && ri_fk (ri_on o) k (2 * m + 1) (q.2.1 b)) = true
  unfold ri_fk
  rw [Bool.and_eq_true, if_neg (by omega), show (2 * m + 1) / 2 = m by omega]
  exact ⟨hb, ri_wof hw⟩
theorem ri_bl {o k p : Nat} {e : Nat × Nat × Nat × Nat} (h : ri_lqr o k (some e) = true) : ri_lqr o p (bif Nat.beq p k then some e else none) = true := by
  cases q : Nat.beq p k with
  | true =>
    obtain rfl := Nat.eq_of_beq_eq_true q
    exact h
  | false => rfl
theorem ri_bt {o p m : Nat} {x y : Option (Nat × Nat × Nat × Nat)} (h1 : ri_lqr o p x = true) (h2 : ri_lqr o p y = true) : ri_lqr o p (bif Nat.blt p m then x else y) = true := by
  cases Nat.blt p m
  · exact h2
  · exact h1
theorem ri_mk0 {a : Nat} (hp : plainName (ri_y a).cls = true) (hc : lw_tbl[ri_wc a]? = some (.code (ri_y a) (ri_b a) (ri_ml a) (ri_rt a))) (hi : lw_tbl[ri_wi a]? = some (.initialized (ri_y a).cls)) (hm : Nat.ble (ri_ml a) 381 = true) (hk : ri_kd a = 0) (hw : lw_tbl[ri_wk a]? = some (.static (ri_y a))) : ri_mk a = true := by
  unfold ri_mk
  rw [hp, ri_wof hc, ri_wof hi, hm, hk]
  exact ri_wof hw
theorem ri_mk1 {a : Nat} (hp : plainName (ri_y a).cls = true) (hc : lw_tbl[ri_wc a]? = some (.code (ri_y a) (ri_b a) (ri_ml a) (ri_rt a))) (hi : lw_tbl[ri_wi a]? = some (.initialized (ri_y a).cls)) (hm : Nat.ble (ri_ml a) 381 = true) (hk : ri_kd a = 1) (hw : lw_tbl[ri_wk a]? = some (.instanceMethod (ri_y a))) (hn : (ri_y a).name = "<init>") (hr : ri_rt a = none) : ri_mk a = true := by
  unfold ri_mk
  rw [hp, ri_wof hc, ri_wof hi, hm, hk]
  show (ri_w (ri_wk a) (.instanceMethod (ri_y a)) && (decide ((ri_y a).name = "<init>") && decide (ri_rt a = none))) = true
  rw [ri_wof hw, decide_eq_true hn, decide_eq_true hr]
  rfl
theorem ri_mk2 {a : Nat} (hp : plainName (ri_y a).cls = true) (hc : lw_tbl[ri_wc a]? = some (.code (ri_y a) (ri_b a) (ri_ml a) (ri_rt a))) (hi : lw_tbl[ri_wi a]? = some (.initialized (ri_y a).cls)) (hm : Nat.ble (ri_ml a) 381 = true) (hk : ri_kd a = 2) (hw : lw_tbl[ri_wk a]? = some (.instanceMethod (ri_y a))) (hs : lw_tbl[ri_wv a]? = some (.selects (ri_y a).cls (ri_y a) (ri_y a))) {q : vw_C} (hq : vwCl[ri_rc a]? = some q) (hqc : q.1 = (ri_y a).cls) : ri_mk a = true := by
  unfold ri_mk
  rw [hp, ri_wof hc, ri_wof hi, hm, hk]
  show (ri_w (ri_wk a) (.instanceMethod (ri_y a)) && (ri_w (ri_wv a) (.selects (ri_y a).cls (ri_y a) (ri_y a)) && match vwCl[ri_rc a]? with
    | some q => decide (q.1 = (ri_y a).cls)
    | none => false)) = true
  rw [ri_wof hw, ri_wof hs, hq]
  exact decide_eq_true hqc
theorem ri_ls {P : Nat → Prop} {n : Nat} (h : ∀ a, a < n → P a) (hn : P n) : ∀ a, a < n + 1 → P a := by
  intro a ha
  rcases Nat.lt_or_eq_of_le (Nat.le_of_lt_succ ha) with q | q
  · exact h a q
  · rw [q]
    exact hn
theorem ri_g_app {l m : List Cond} {n i : Nat} {w : Cond} (hn : l.length = n) (h : m[i]? = some w) : (l ++ m)[n + i]? = some w := by
  rw [List.getElem?_append_right (by omega), show n + i - l.length = i by omega]
  exact h
theorem ri_g_left {l m : List Cond} {i : Nat} {w : Cond} (h : l[i]? = some w) : (l ++ m)[i]? = some w := by
  rw [List.getElem?_append_left (List.getElem?_eq_some_iff.1 h).1]
  exact h
theorem ri_gn0 : (k2_sels lw_privs).length = 163 := by decide +kernel
theorem ri_G0 {i : Nat} {w : Cond} (h : (k2_sels lw_privs)[i]? = some w) : lw_tbl[i]? = some w := ri_g_left h
theorem ri_gn1 : tables_1_1.length = 240 := by decide +kernel
theorem ri_G1 {k i : Nat} {w : Cond} (hk : Nat.beq k (163 + (i)) = true) (h : tables_1_1[i]? = some w) : lw_tbl[k]? = some w := by
  obtain rfl := Nat.eq_of_beq_eq_true hk
  exact ri_g_app ri_gn0 (ri_g_left h)
theorem ri_gn2 : tables_1_2.length = 240 := by decide +kernel
theorem ri_G2 {k i : Nat} {w : Cond} (hk : Nat.beq k (163 + (240 + (i))) = true) (h : tables_1_2[i]? = some w) : lw_tbl[k]? = some w := by
  obtain rfl := Nat.eq_of_beq_eq_true hk
  exact ri_g_app ri_gn0 (ri_g_app ri_gn1 (ri_g_left h))
theorem ri_gn3 : tables_1_3.length = 240 := by decide +kernel
theorem ri_G3 {k i : Nat} {w : Cond} (hk : Nat.beq k (163 + (240 + (240 + (i)))) = true) (h : tables_1_3[i]? = some w) : lw_tbl[k]? = some w := by
  obtain rfl := Nat.eq_of_beq_eq_true hk
  exact ri_g_app ri_gn0 (ri_g_app ri_gn1 (ri_g_app ri_gn2 (ri_g_left h)))
theorem ri_gn4 : tables_1_4.length = 240 := by decide +kernel
theorem ri_G4 {k i : Nat} {w : Cond} (hk : Nat.beq k (163 + (240 + (240 + (240 + (i))))) = true) (h : tables_1_4[i]? = some w) : lw_tbl[k]? = some w := by
  obtain rfl := Nat.eq_of_beq_eq_true hk
  exact ri_g_app ri_gn0 (ri_g_app ri_gn1 (ri_g_app ri_gn2 (ri_g_app ri_gn3 (ri_g_left h))))
theorem ri_gn5 : tables_1_5.length = 240 := by decide +kernel
theorem ri_G5 {k i : Nat} {w : Cond} (hk : Nat.beq k (163 + (240 + (240 + (240 + (240 + (i)))))) = true) (h : tables_1_5[i]? = some w) : lw_tbl[k]? = some w := by
  obtain rfl := Nat.eq_of_beq_eq_true hk
  exact ri_g_app ri_gn0 (ri_g_app ri_gn1 (ri_g_app ri_gn2 (ri_g_app ri_gn3 (ri_g_app ri_gn4 (ri_g_left h)))))
theorem ri_gn6 : tables_1_6.length = 240 := by decide +kernel
theorem ri_G6 {k i : Nat} {w : Cond} (hk : Nat.beq k (163 + (240 + (240 + (240 + (240 + (240 + (i))))))) = true) (h : tables_1_6[i]? = some w) : lw_tbl[k]? = some w := by
  obtain rfl := Nat.eq_of_beq_eq_true hk
  exact ri_g_app ri_gn0 (ri_g_app ri_gn1 (ri_g_app ri_gn2 (ri_g_app ri_gn3 (ri_g_app ri_gn4 (ri_g_app ri_gn5 (ri_g_left h))))))
theorem ri_gn7 : tables_1_7.length = 239 := by decide +kernel
theorem ri_G7 {k i : Nat} {w : Cond} (hk : Nat.beq k (163 + (240 + (240 + (240 + (240 + (240 + (240 + (i)))))))) = true) (h : tables_1_7[i]? = some w) : lw_tbl[k]? = some w := by
  obtain rfl := Nat.eq_of_beq_eq_true hk
  exact ri_g_app ri_gn0 (ri_g_app ri_gn1 (ri_g_app ri_gn2 (ri_g_app ri_gn3 (ri_g_app ri_gn4 (ri_g_app ri_gn5 (ri_g_app ri_gn6 (h)))))))
noncomputable def ri_oc : Nat → Nat := fun p => bif Nat.blt p 140 then (bif Nat.blt p 70 then (bif Nat.blt p 35 then (bif Nat.blt p 17 then (bif Nat.blt p 8 then (0) else (bif Nat.blt p 12 then (0) else (bif Nat.blt p 14 then (0) else (1)))) else (bif Nat.blt p 26 then (bif Nat.blt p 21 then (bif Nat.blt p 19 then (bif Nat.blt p 18 then (1) else (2)) else (2)) else (2)) else (bif Nat.blt p 30 then (2) else (bif Nat.blt p 32 then (bif Nat.blt p 31 then (2) else (3)) else (3))))) else (bif Nat.blt p 52 then (bif Nat.blt p 43 then (3) else (bif Nat.blt p 47 then (3) else (bif Nat.blt p 49 then (3) else (4)))) else (bif Nat.blt p 61 then (bif Nat.blt p 56 then (4) else (5)) else (bif Nat.blt p 65 then (5) else (bif Nat.blt p 67 then (5) else (bif Nat.blt p 68 then (5) else (6))))))) else (bif Nat.blt p 105 then (bif Nat.blt p 87 then (bif Nat.blt p 78 then (bif Nat.blt p 74 then (bif Nat.blt p 72 then (6) else (bif Nat.blt p 73 then (6) else (7))) else (7)) else (bif Nat.blt p 82 then (7) else (8))) else (bif Nat.blt p 96 then (9) else (bif Nat.blt p 100 then (9) else (bif Nat.blt p 102 then (9) else (10))))) else (10))) else (bif Nat.blt p 210 then (bif Nat.blt p 175 then (bif Nat.blt p 157 then (10) else (bif Nat.blt p 166 then (10) else (bif Nat.blt p 170 then (bif Nat.blt p 168 then (10) else (11)) else (11)))) else (11)) else (bif Nat.blt p 245 then (11) else (bif Nat.blt p 263 then (11) else (bif Nat.blt p 272 then (11) else (bif Nat.blt p 276 then (11) else (bif Nat.blt p 278 then (11) else (bif Nat.blt p 279 then (11) else (13))))))))
theorem ri_oq0 : ri_oq (ri_on 0) = true := by decide +kernel
theorem ri_oq1 : ri_oq (ri_on 1) = true := by decide +kernel
theorem ri_oq2 : ri_oq (ri_on 2) = true := by decide +kernel
theorem ri_oq3 : ri_oq (ri_on 3) = true := by decide +kernel
theorem ri_oq4 : ri_oq (ri_on 4) = true := by decide +kernel
theorem ri_oq5 : ri_oq (ri_on 5) = true := by decide +kernel
theorem ri_oq6 : ri_oq (ri_on 6) = true := by decide +kernel
theorem ri_oq7 : ri_oq (ri_on 7) = true := by decide +kernel
theorem ri_oq8 : ri_oq (ri_on 8) = true := by decide +kernel
theorem ri_oq9 : ri_oq (ri_on 9) = true := by decide +kernel
theorem ri_oq10 : ri_oq (ri_on 10) = true := by decide +kernel
theorem ri_oq11 : ri_oq (ri_on 11) = true := by decide +kernel
theorem ri_oq12 : ri_oq (ri_on 12) = true := by decide +kernel
theorem ri_oq13 : ri_oq (ri_on 13) = true := by decide +kernel
theorem ri_vc0 : vwCl[0]? = some (RX0, TX0, 3) := rfl
theorem ri_vc1 : vwCl[1]? = some (RX1, TX1, 1) := rfl
theorem ri_vc2 : vwCl[2]? = some (RX2, TX2, 12) := rfl
theorem ri_vc3 : vwCl[3]? = some (RX3, TX3, 13) := rfl
theorem ri_vc4 : vwCl[4]? = some (RX4, TX4, 1) := rfl
theorem ri_vc5 : vwCl[5]? = some (RX5, TX5, 4) := rfl
theorem ri_vc6 : vwCl[6]? = some (RX6, TX6, 5) := rfl
theorem ri_vc7 : vwCl[7]? = some (RX7, TX7, 2) := rfl
theorem ri_vc8 : vwCl[8]? = some (RX8, TX8, 2) := rfl
theorem ri_vc9 : vwCl[9]? = some (RX9, TX9, 6) := rfl
theorem ri_vc10 : vwCl[10]? = some (RX10, TX10, 18) := rfl
theorem ri_vc11 : vwCl[11]? = some (RX11, TX11, 39) := rfl
end
section
theorem ri_o0 : ri_on 0 = (ri_y 0).cls := by eq_refl
theorem ri_d0_0 : ri_nd (ri_y 0) 0 = true := ri_nd_of ri_o0 ri_oq0 (by eq_refl)
set_option maxRecDepth 100000 in
theorem ri_k0 : ri_mk 0 = true := ri_mk1 (ri_oqp ri_o0 ri_oq0) (ri_G1 (i := 95) (by eq_refl) (by eq_refl)) (ri_G1 (i := 6) (by eq_refl) (by eq_refl)) (by eq_refl) (by eq_refl) (ri_G1 (i := 94) (by eq_refl) (by eq_refl)) (by eq_refl) (by eq_refl)
theorem ri_o1 : ri_on 0 = (ri_y 1).cls := by eq_refl
theorem ri_d1_0 : ri_nd (ri_y 1) 0 = true := ri_nd_of ri_o1 ri_oq0 (by eq_refl)
set_option maxRecDepth 100000 in
theorem ri_k1 : ri_mk 1 = true := ri_mk2 (ri_oqp ri_o1 ri_oq0) (ri_G2 (i := 220) (by eq_refl) (by eq_refl)) (ri_G1 (i := 6) (by eq_refl) (by eq_refl)) (by eq_refl) (by eq_refl) (ri_G2 (i := 219) (by eq_refl) (by eq_refl)) (ri_G0 (by eq_refl)) (q := (RX0, TX0, 3)) (by eq_refl) (by eq_refl)
theorem ri_o2 : ri_on 0 = (ri_y 2).cls := by eq_refl
theorem ri_d2_1 : ri_nd (ri_y 2) 1 = true := ri_nd_of ri_o2 ri_oq0 (by eq_refl)
set_option maxRecDepth 100000 in
theorem ri_k2 : ri_mk 2 = true := ri_mk2 (ri_oqp ri_o2 ri_oq0) (ri_G3 (i := 17) (by eq_refl) (by eq_refl)) (ri_G1 (i := 6) (by eq_refl) (by eq_refl)) (by eq_refl) (by eq_refl) (ri_G3 (i := 16) (by eq_refl) (by eq_refl)) (ri_G0 (by eq_refl)) (q := (RX0, TX0, 3)) (by eq_refl) (by eq_refl)
theorem ri_o3 : ri_on 0 = (ri_y 3).cls := by eq_refl
theorem ri_d3_3 : ri_nd (ri_y 3) 3 = true := ri_nd_of ri_o3 ri_oq0 (by eq_refl)
set_option maxRecDepth 100000 in
theorem ri_k3 : ri_mk 3 = true := ri_mk2 (ri_oqp ri_o3 ri_oq0) (ri_G3 (i := 22) (by eq_refl) (by eq_refl)) (ri_G1 (i := 6) (by eq_refl) (by eq_refl)) (by eq_refl) (by eq_refl) (ri_G3 (i := 21) (by eq_refl) (by eq_refl)) (ri_G0 (by eq_refl)) (q := (RX0, TX0, 3)) (by eq_refl) (by eq_refl)
theorem ri_o4 : ri_on 0 = (ri_y 4).cls := by eq_refl
theorem ri_d4_1 : ri_nd (ri_y 4) 1 = true := ri_nd_of ri_o4 ri_oq0 (by eq_refl)
set_option maxRecDepth 100000 in
theorem ri_k4 : ri_mk 4 = true := ri_mk2 (ri_oqp ri_o4 ri_oq0) (ri_G3 (i := 45) (by eq_refl) (by eq_refl)) (ri_G1 (i := 6) (by eq_refl) (by eq_refl)) (by eq_refl) (by eq_refl) (ri_G3 (i := 44) (by eq_refl) (by eq_refl)) (ri_G0 (by eq_refl)) (q := (RX0, TX0, 3)) (by eq_refl) (by eq_refl)
theorem ri_o5 : ri_on 0 = (ri_y 5).cls := by eq_refl
theorem ri_d5_0 : ri_nd (ri_y 5) 0 = true := ri_nd_of ri_o5 ri_oq0 (by eq_refl)
set_option maxRecDepth 100000 in
theorem ri_k5 : ri_mk 5 = true := ri_mk2 (ri_oqp ri_o5 ri_oq0) (ri_G3 (i := 37) (by eq_refl) (by eq_refl)) (ri_G1 (i := 6) (by eq_refl) (by eq_refl)) (by eq_refl) (by eq_refl) (ri_G3 (i := 36) (by eq_refl) (by eq_refl)) (ri_G0 (by eq_refl)) (q := (RX0, TX0, 3)) (by eq_refl) (by eq_refl)
theorem ri_o6 : ri_on 0 = (ri_y 6).cls := by eq_refl
theorem ri_d6_0 : ri_nd (ri_y 6) 0 = true := ri_nd_of ri_o6 ri_oq0 (by eq_refl)
set_option maxRecDepth 100000 in
theorem ri_k6 : ri_mk 6 = true := ri_mk2 (ri_oqp ri_o6 ri_oq0) (ri_G3 (i := 66) (by eq_refl) (by eq_refl)) (ri_G1 (i := 6) (by eq_refl) (by eq_refl)) (by eq_refl) (by eq_refl) (ri_G3 (i := 65) (by eq_refl) (by eq_refl)) (ri_G0 (by eq_refl)) (q := (RX0, TX0, 3)) (by eq_refl) (by eq_refl)
theorem ri_o7 : ri_on 0 = (ri_y 7).cls := by eq_refl
theorem ri_d7_1 : ri_nd (ri_y 7) 1 = true := ri_nd_of ri_o7 ri_oq0 (by eq_refl)
set_option maxRecDepth 100000 in
theorem ri_k7 : ri_mk 7 = true := ri_mk2 (ri_oqp ri_o7 ri_oq0) (ri_G3 (i := 2) (by eq_refl) (by eq_refl)) (ri_G1 (i := 6) (by eq_refl) (by eq_refl)) (by eq_refl) (by eq_refl) (ri_G3 (i := 1) (by eq_refl) (by eq_refl)) (ri_G0 (by eq_refl)) (q := (RX0, TX0, 3)) (by eq_refl) (by eq_refl)
theorem ri_o8 : ri_on 0 = (ri_y 8).cls := by eq_refl
theorem ri_d8_2 : ri_nd (ri_y 8) 2 = true := ri_nd_of ri_o8 ri_oq0 (by eq_refl)
set_option maxRecDepth 100000 in
theorem ri_k8 : ri_mk 8 = true := ri_mk2 (ri_oqp ri_o8 ri_oq0) (ri_G3 (i := 127) (by eq_refl) (by eq_refl)) (ri_G1 (i := 6) (by eq_refl) (by eq_refl)) (by eq_refl) (by eq_refl) (ri_G3 (i := 126) (by eq_refl) (by eq_refl)) (ri_G0 (by eq_refl)) (q := (RX0, TX0, 3)) (by eq_refl) (by eq_refl)
theorem ri_o9 : ri_on 0 = (ri_y 9).cls := by eq_refl
theorem ri_d9_2 : ri_nd (ri_y 9) 2 = true := ri_nd_of ri_o9 ri_oq0 (by eq_refl)
set_option maxRecDepth 100000 in
theorem ri_k9 : ri_mk 9 = true := ri_mk2 (ri_oqp ri_o9 ri_oq0) (ri_G3 (i := 131) (by eq_refl) (by eq_refl)) (ri_G1 (i := 6) (by eq_refl) (by eq_refl)) (by eq_refl) (by eq_refl) (ri_G3 (i := 130) (by eq_refl) (by eq_refl)) (ri_G0 (by eq_refl)) (q := (RX0, TX0, 3)) (by eq_refl) (by eq_refl)
theorem ri_o10 : ri_on 0 = (ri_y 10).cls := by eq_refl
theorem ri_d10_2 : ri_nd (ri_y 10) 2 = true := ri_nd_of ri_o10 ri_oq0 (by eq_refl)
set_option maxRecDepth 100000 in
theorem ri_k10 : ri_mk 10 = true := ri_mk2 (ri_oqp ri_o10 ri_oq0) (ri_G3 (i := 135) (by eq_refl) (by eq_refl)) (ri_G1 (i := 6) (by eq_refl) (by eq_refl)) (by eq_refl) (by eq_refl) (ri_G3 (i := 134) (by eq_refl) (by eq_refl)) (ri_G0 (by eq_refl)) (q := (RX0, TX0, 3)) (by eq_refl) (by eq_refl)
theorem ri_o11 : ri_on 0 = (ri_y 11).cls := by eq_refl
theorem ri_d11_1 : ri_nd (ri_y 11) 1 = true := ri_nd_of ri_o11 ri_oq0 (by eq_refl)
set_option maxRecDepth 100000 in
theorem ri_k11 : ri_mk 11 = true := ri_mk2 (ri_oqp ri_o11 ri_oq0) (ri_G4 (i := 105) (by eq_refl) (by eq_refl)) (ri_G1 (i := 6) (by eq_refl) (by eq_refl)) (by eq_refl) (by eq_refl) (ri_G4 (i := 104) (by eq_refl) (by eq_refl)) (ri_G0 (by eq_refl)) (q := (RX0, TX0, 3)) (by eq_refl) (by eq_refl)
theorem ri_o12 : ri_on 0 = (ri_y 12).cls := by eq_refl
theorem ri_d12_0 : ri_nd (ri_y 12) 0 = true := ri_nd_of ri_o12 ri_oq0 (by eq_refl)
set_option maxRecDepth 100000 in
theorem ri_k12 : ri_mk 12 = true := ri_mk2 (ri_oqp ri_o12 ri_oq0) (ri_G4 (i := 156) (by eq_refl) (by eq_refl)) (ri_G1 (i := 6) (by eq_refl) (by eq_refl)) (by eq_refl) (by eq_refl) (ri_G4 (i := 155) (by eq_refl) (by eq_refl)) (ri_G0 (by eq_refl)) (q := (RX0, TX0, 3)) (by eq_refl) (by eq_refl)
theorem ri_o13 : ri_on 0 = (ri_y 13).cls := by eq_refl
theorem ri_d13_2 : ri_nd (ri_y 13) 2 = true := ri_nd_of ri_o13 ri_oq0 (by eq_refl)
set_option maxRecDepth 100000 in
theorem ri_k13 : ri_mk 13 = true := ri_mk2 (ri_oqp ri_o13 ri_oq0) (ri_G4 (i := 22) (by eq_refl) (by eq_refl)) (ri_G1 (i := 6) (by eq_refl) (by eq_refl)) (by eq_refl) (by eq_refl) (ri_G4 (i := 21) (by eq_refl) (by eq_refl)) (ri_G0 (by eq_refl)) (q := (RX0, TX0, 3)) (by eq_refl) (by eq_refl)
theorem ri_o14 : ri_on 1 = (ri_y 14).cls := by eq_refl
theorem ri_d14_0 : ri_nd (ri_y 14) 0 = true := ri_nd_of ri_o14 ri_oq1 (by eq_refl)
set_option maxRecDepth 100000 in
theorem ri_k14 : ri_mk 14 = true := ri_mk1 (ri_oqp ri_o14 ri_oq1) (ri_G1 (i := 75) (by eq_refl) (by eq_refl)) (ri_G1 (i := 4) (by eq_refl) (by eq_refl)) (by eq_refl) (by eq_refl) (ri_G1 (i := 74) (by eq_refl) (by eq_refl)) (by eq_refl) (by eq_refl)
theorem ri_o15 : ri_on 1 = (ri_y 15).cls := by eq_refl
theorem ri_d15_2 : ri_nd (ri_y 15) 2 = true := ri_nd_of ri_o15 ri_oq1 (by eq_refl)
set_option maxRecDepth 100000 in
theorem ri_k15 : ri_mk 15 = true := ri_mk2 (ri_oqp ri_o15 ri_oq1) (ri_G2 (i := 216) (by eq_refl) (by eq_refl)) (ri_G1 (i := 4) (by eq_refl) (by eq_refl)) (by eq_refl) (by eq_refl) (ri_G2 (i := 215) (by eq_refl) (by eq_refl)) (ri_G0 (by eq_refl)) (q := (RX1, TX1, 1)) (by eq_refl) (by eq_refl)
theorem ri_o16 : ri_on 1 = (ri_y 16).cls := by eq_refl
theorem ri_d16_2 : ri_nd (ri_y 16) 2 = true := ri_nd_of ri_o16 ri_oq1 (by eq_refl)
set_option maxRecDepth 100000 in
theorem ri_k16 : ri_mk 16 = true := ri_mk2 (ri_oqp ri_o16 ri_oq1) (ri_G2 (i := 224) (by eq_refl) (by eq_refl)) (ri_G1 (i := 4) (by eq_refl) (by eq_refl)) (by eq_refl) (by eq_refl) (ri_G2 (i := 223) (by eq_refl) (by eq_refl)) (ri_G0 (by eq_refl)) (q := (RX1, TX1, 1)) (by eq_refl) (by eq_refl)
theorem ri_o17 : ri_on 1 = (ri_y 17).cls := by eq_refl
theorem ri_d17_1 : ri_nd (ri_y 17) 1 = true := ri_nd_of ri_o17 ri_oq1 (by eq_refl)
set_option maxRecDepth 100000 in
theorem ri_k17 : ri_mk 17 = true := ri_mk0 (ri_oqp ri_o17 ri_oq1) (ri_G2 (i := 234) (by eq_refl) (by eq_refl)) (ri_G1 (i := 4) (by eq_refl) (by eq_refl)) (by eq_refl) (by eq_refl) (ri_G2 (i := 233) (by eq_refl) (by eq_refl))
theorem ri_o18 : ri_on 2 = (ri_y 18).cls := by eq_refl
theorem ri_d18_0 : ri_nd (ri_y 18) 0 = true := ri_nd_of ri_o18 ri_oq2 (by eq_refl)
set_option maxRecDepth 100000 in
theorem ri_k18 : ri_mk 18 = true := ri_mk1 (ri_oqp ri_o18 ri_oq2) (ri_G1 (i := 113) (by eq_refl) (by eq_refl)) (ri_G1 (i := 7) (by eq_refl) (by eq_refl)) (by eq_refl) (by eq_refl) (ri_G1 (i := 112) (by eq_refl) (by eq_refl)) (by eq_refl) (by eq_refl)
theorem ri_o19 : ri_on 2 = (ri_y 19).cls := by eq_refl
theorem ri_d19_1 : ri_nd (ri_y 19) 1 = true := ri_nd_of ri_o19 ri_oq2 (by eq_refl)
set_option maxRecDepth 100000 in
theorem ri_k19 : ri_mk 19 = true := ri_mk2 (ri_oqp ri_o19 ri_oq2) (ri_G3 (i := 41) (by eq_refl) (by eq_refl)) (ri_G1 (i := 7) (by eq_refl) (by eq_refl)) (by eq_refl) (by eq_refl) (ri_G3 (i := 40) (by eq_refl) (by eq_refl)) (ri_G0 (by eq_refl)) (q := (RX2, TX2, 12)) (by eq_refl) (by eq_refl)
theorem ri_o20 : ri_on 2 = (ri_y 20).cls := by eq_refl
theorem ri_d20_1 : ri_nd (ri_y 20) 1 = true := ri_nd_of ri_o20 ri_oq2 (by eq_refl)
set_option maxRecDepth 100000 in
theorem ri_k20 : ri_mk 20 = true := ri_mk2 (ri_oqp ri_o20 ri_oq2) (ri_G5 (i := 127) (by eq_refl) (by eq_refl)) (ri_G1 (i := 7) (by eq_refl) (by eq_refl)) (by eq_refl) (by eq_refl) (ri_G5 (i := 126) (by eq_refl) (by eq_refl)) (ri_G0 (by eq_refl)) (q := (RX2, TX2, 12)) (by eq_refl) (by eq_refl)
theorem ri_o21 : ri_on 2 = (ri_y 21).cls := by eq_refl
theorem ri_d21_1 : ri_nd (ri_y 21) 1 = true := ri_nd_of ri_o21 ri_oq2 (by eq_refl)
set_option maxRecDepth 100000 in
theorem ri_k21 : ri_mk 21 = true := ri_mk2 (ri_oqp ri_o21 ri_oq2) (ri_G3 (i := 212) (by eq_refl) (by eq_refl)) (ri_G1 (i := 7) (by eq_refl) (by eq_refl)) (by eq_refl) (by eq_refl) (ri_G3 (i := 211) (by eq_refl) (by eq_refl)) (ri_G0 (by eq_refl)) (q := (RX2, TX2, 12)) (by eq_refl) (by eq_refl)
theorem ri_o22 : ri_on 2 = (ri_y 22).cls := by eq_refl
theorem ri_d22_4 : ri_nd (ri_y 22) 4 = true := ri_nd_of ri_o22 ri_oq2 (by eq_refl)
set_option maxRecDepth 100000 in
theorem ri_k22 : ri_mk 22 = true := ri_mk2 (ri_oqp ri_o22 ri_oq2) (ri_G3 (i := 220) (by eq_refl) (by eq_refl)) (ri_G1 (i := 7) (by eq_refl) (by eq_refl)) (by eq_refl) (by eq_refl) (ri_G3 (i := 219) (by eq_refl) (by eq_refl)) (ri_G0 (by eq_refl)) (q := (RX2, TX2, 12)) (by eq_refl) (by eq_refl)
theorem ri_o23 : ri_on 2 = (ri_y 23).cls := by eq_refl
theorem ri_d23_1 : ri_nd (ri_y 23) 1 = true := ri_nd_of ri_o23 ri_oq2 (by eq_refl)
set_option maxRecDepth 100000 in
theorem ri_k23 : ri_mk 23 = true := ri_mk2 (ri_oqp ri_o23 ri_oq2) (ri_G3 (i := 229) (by eq_refl) (by eq_refl)) (ri_G1 (i := 7) (by eq_refl) (by eq_refl)) (by eq_refl) (by eq_refl) (ri_G3 (i := 228) (by eq_refl) (by eq_refl)) (ri_G0 (by eq_refl)) (q := (RX2, TX2, 12)) (by eq_refl) (by eq_refl)
theorem ri_o24 : ri_on 2 = (ri_y 24).cls := by eq_refl
theorem ri_d24_1 : ri_nd (ri_y 24) 1 = true := ri_nd_of ri_o24 ri_oq2 (by eq_refl)
set_option maxRecDepth 100000 in
theorem ri_k24 : ri_mk 24 = true := ri_mk2 (ri_oqp ri_o24 ri_oq2) (ri_G3 (i := 234) (by eq_refl) (by eq_refl)) (ri_G1 (i := 7) (by eq_refl) (by eq_refl)) (by eq_refl) (by eq_refl) (ri_G3 (i := 233) (by eq_refl) (by eq_refl)) (ri_G0 (by eq_refl)) (q := (RX2, TX2, 12)) (by eq_refl) (by eq_refl)
theorem ri_o25 : ri_on 2 = (ri_y 25).cls := by eq_refl
theorem ri_d25_2 : ri_nd (ri_y 25) 2 = true := ri_nd_of ri_o25 ri_oq2 (by eq_refl)
set_option maxRecDepth 100000 in
theorem ri_k25 : ri_mk 25 = true := ri_mk2 (ri_oqp ri_o25 ri_oq2) (ri_G4 (i := 2) (by eq_refl) (by eq_refl)) (ri_G1 (i := 7) (by eq_refl) (by eq_refl)) (by eq_refl) (by eq_refl) (ri_G4 (i := 1) (by eq_refl) (by eq_refl)) (ri_G0 (by eq_refl)) (q := (RX2, TX2, 12)) (by eq_refl) (by eq_refl)
theorem ri_o26 : ri_on 2 = (ri_y 26).cls := by eq_refl
theorem ri_d26_0 : ri_nd (ri_y 26) 0 = true := ri_nd_of ri_o26 ri_oq2 (by eq_refl)
set_option maxRecDepth 100000 in
theorem ri_k26 : ri_mk 26 = true := ri_mk2 (ri_oqp ri_o26 ri_oq2) (ri_G4 (i := 38) (by eq_refl) (by eq_refl)) (ri_G1 (i := 7) (by eq_refl) (by eq_refl)) (by eq_refl) (by eq_refl) (ri_G4 (i := 37) (by eq_refl) (by eq_refl)) (ri_G0 (by eq_refl)) (q := (RX2, TX2, 12)) (by eq_refl) (by eq_refl)
theorem ri_o27 : ri_on 2 = (ri_y 27).cls := by eq_refl
theorem ri_d27_2 : ri_nd (ri_y 27) 2 = true := ri_nd_of ri_o27 ri_oq2 (by eq_refl)
set_option maxRecDepth 100000 in
theorem ri_k27 : ri_mk 27 = true := ri_mk2 (ri_oqp ri_o27 ri_oq2) (ri_G4 (i := 49) (by eq_refl) (by eq_refl)) (ri_G1 (i := 7) (by eq_refl) (by eq_refl)) (by eq_refl) (by eq_refl) (ri_G4 (i := 48) (by eq_refl) (by eq_refl)) (ri_G0 (by eq_refl)) (q := (RX2, TX2, 12)) (by eq_refl) (by eq_refl)
theorem ri_o28 : ri_on 2 = (ri_y 28).cls := by eq_refl
theorem ri_d28_0 : ri_nd (ri_y 28) 0 = true := ri_nd_of ri_o28 ri_oq2 (by eq_refl)
set_option maxRecDepth 100000 in
theorem ri_k28 : ri_mk 28 = true := ri_mk2 (ri_oqp ri_o28 ri_oq2) (ri_G5 (i := 113) (by eq_refl) (by eq_refl)) (ri_G1 (i := 7) (by eq_refl) (by eq_refl)) (by eq_refl) (by eq_refl) (ri_G5 (i := 112) (by eq_refl) (by eq_refl)) (ri_G0 (by eq_refl)) (q := (RX2, TX2, 12)) (by eq_refl) (by eq_refl)
theorem ri_o29 : ri_on 2 = (ri_y 29).cls := by eq_refl
theorem ri_d29_0 : ri_nd (ri_y 29) 0 = true := ri_nd_of ri_o29 ri_oq2 (by eq_refl)
set_option maxRecDepth 100000 in
theorem ri_k29 : ri_mk 29 = true := ri_mk2 (ri_oqp ri_o29 ri_oq2) (ri_G5 (i := 117) (by eq_refl) (by eq_refl)) (ri_G1 (i := 7) (by eq_refl) (by eq_refl)) (by eq_refl) (by eq_refl) (ri_G5 (i := 116) (by eq_refl) (by eq_refl)) (ri_G0 (by eq_refl)) (q := (RX2, TX2, 12)) (by eq_refl) (by eq_refl)
theorem ri_o30 : ri_on 2 = (ri_y 30).cls := by eq_refl
theorem ri_d30_1 : ri_nd (ri_y 30) 1 = true := ri_nd_of ri_o30 ri_oq2 (by eq_refl)
set_option maxRecDepth 100000 in
theorem ri_k30 : ri_mk 30 = true := ri_mk2 (ri_oqp ri_o30 ri_oq2) (ri_G5 (i := 101) (by eq_refl) (by eq_refl)) (ri_G1 (i := 7) (by eq_refl) (by eq_refl)) (by eq_refl) (by eq_refl) (ri_G5 (i := 100) (by eq_refl) (by eq_refl)) (ri_G0 (by eq_refl)) (q := (RX2, TX2, 12)) (by eq_refl) (by eq_refl)
theorem ri_o31 : ri_on 3 = (ri_y 31).cls := by eq_refl
theorem ri_d31_0 : ri_nd (ri_y 31) 0 = true := ri_nd_of ri_o31 ri_oq3 (by eq_refl)
set_option maxRecDepth 100000 in
theorem ri_k31 : ri_mk 31 = true := ri_mk1 (ri_oqp ri_o31 ri_oq3) (ri_G1 (i := 228) (by eq_refl) (by eq_refl)) (ri_G1 (i := 11) (by eq_refl) (by eq_refl)) (by eq_refl) (by eq_refl) (ri_G1 (i := 227) (by eq_refl) (by eq_refl)) (by eq_refl) (by eq_refl)
theorem ri_o32 : ri_on 3 = (ri_y 32).cls := by eq_refl
theorem ri_d32_0 : ri_nd (ri_y 32) 0 = true := ri_nd_of ri_o32 ri_oq3 (by eq_refl)
set_option maxRecDepth 100000 in
theorem ri_k32 : ri_mk 32 = true := ri_mk2 (ri_oqp ri_o32 ri_oq3) (ri_G3 (i := 78) (by eq_refl) (by eq_refl)) (ri_G1 (i := 11) (by eq_refl) (by eq_refl)) (by eq_refl) (by eq_refl) (ri_G3 (i := 77) (by eq_refl) (by eq_refl)) (ri_G0 (by eq_refl)) (q := (RX3, TX3, 13)) (by eq_refl) (by eq_refl)
theorem ri_o33 : ri_on 3 = (ri_y 33).cls := by eq_refl
theorem ri_d33_1 : ri_nd (ri_y 33) 1 = true := ri_nd_of ri_o33 ri_oq3 (by eq_refl)
set_option maxRecDepth 100000 in
theorem ri_k33 : ri_mk 33 = true := ri_mk2 (ri_oqp ri_o33 ri_oq3) (ri_G3 (i := 102) (by eq_refl) (by eq_refl)) (ri_G1 (i := 11) (by eq_refl) (by eq_refl)) (by eq_refl) (by eq_refl) (ri_G3 (i := 101) (by eq_refl) (by eq_refl)) (ri_G0 (by eq_refl)) (q := (RX3, TX3, 13)) (by eq_refl) (by eq_refl)
theorem ri_o34 : ri_on 3 = (ri_y 34).cls := by eq_refl
theorem ri_d34_3 : ri_nd (ri_y 34) 3 = true := ri_nd_of ri_o34 ri_oq3 (by eq_refl)
set_option maxRecDepth 100000 in
theorem ri_k34 : ri_mk 34 = true := ri_mk2 (ri_oqp ri_o34 ri_oq3) (ri_G3 (i := 115) (by eq_refl) (by eq_refl)) (ri_G1 (i := 11) (by eq_refl) (by eq_refl)) (by eq_refl) (by eq_refl) (ri_G3 (i := 114) (by eq_refl) (by eq_refl)) (ri_G0 (by eq_refl)) (q := (RX3, TX3, 13)) (by eq_refl) (by eq_refl)
theorem ri_o35 : ri_on 3 = (ri_y 35).cls := by eq_refl
theorem ri_d35_3 : ri_nd (ri_y 35) 3 = true := ri_nd_of ri_o35 ri_oq3 (by eq_refl)
set_option maxRecDepth 100000 in
theorem ri_k35 : ri_mk 35 = true := ri_mk0 (ri_oqp ri_o35 ri_oq3) (ri_G3 (i := 168) (by eq_refl) (by eq_refl)) (ri_G1 (i := 11) (by eq_refl) (by eq_refl)) (by eq_refl) (by eq_refl) (ri_G3 (i := 167) (by eq_refl) (by eq_refl))
theorem ri_o36 : ri_on 3 = (ri_y 36).cls := by eq_refl
theorem ri_d36_3 : ri_nd (ri_y 36) 3 = true := ri_nd_of ri_o36 ri_oq3 (by eq_refl)
set_option maxRecDepth 100000 in
theorem ri_k36 : ri_mk 36 = true := ri_mk2 (ri_oqp ri_o36 ri_oq3) (ri_G3 (i := 201) (by eq_refl) (by eq_refl)) (ri_G1 (i := 11) (by eq_refl) (by eq_refl)) (by eq_refl) (by eq_refl) (ri_G3 (i := 200) (by eq_refl) (by eq_refl)) (ri_G0 (by eq_refl)) (q := (RX3, TX3, 13)) (by eq_refl) (by eq_refl)
theorem ri_o37 : ri_on 3 = (ri_y 37).cls := by eq_refl
theorem ri_d37_3 : ri_nd (ri_y 37) 3 = true := ri_nd_of ri_o37 ri_oq3 (by eq_refl)
set_option maxRecDepth 100000 in
theorem ri_k37 : ri_mk 37 = true := ri_mk2 (ri_oqp ri_o37 ri_oq3) (ri_G4 (i := 30) (by eq_refl) (by eq_refl)) (ri_G1 (i := 11) (by eq_refl) (by eq_refl)) (by eq_refl) (by eq_refl) (ri_G4 (i := 29) (by eq_refl) (by eq_refl)) (ri_G0 (by eq_refl)) (q := (RX3, TX3, 13)) (by eq_refl) (by eq_refl)
theorem ri_o38 : ri_on 3 = (ri_y 38).cls := by eq_refl
theorem ri_d38_1 : ri_nd (ri_y 38) 1 = true := ri_nd_of ri_o38 ri_oq3 (by eq_refl)
set_option maxRecDepth 100000 in
theorem ri_k38 : ri_mk 38 = true := ri_mk2 (ri_oqp ri_o38 ri_oq3) (ri_G3 (i := 147) (by eq_refl) (by eq_refl)) (ri_G1 (i := 11) (by eq_refl) (by eq_refl)) (by eq_refl) (by eq_refl) (ri_G3 (i := 146) (by eq_refl) (by eq_refl)) (ri_G0 (by eq_refl)) (q := (RX3, TX3, 13)) (by eq_refl) (by eq_refl)
theorem ri_o39 : ri_on 3 = (ri_y 39).cls := by eq_refl
theorem ri_d39_2 : ri_nd (ri_y 39) 2 = true := ri_nd_of ri_o39 ri_oq3 (by eq_refl)
set_option maxRecDepth 100000 in
theorem ri_k39 : ri_mk 39 = true := ri_mk2 (ri_oqp ri_o39 ri_oq3) (ri_G3 (i := 151) (by eq_refl) (by eq_refl)) (ri_G1 (i := 11) (by eq_refl) (by eq_refl)) (by eq_refl) (by eq_refl) (ri_G3 (i := 150) (by eq_refl) (by eq_refl)) (ri_G0 (by eq_refl)) (q := (RX3, TX3, 13)) (by eq_refl) (by eq_refl)
theorem ri_o40 : ri_on 3 = (ri_y 40).cls := by eq_refl
theorem ri_d40_2 : ri_nd (ri_y 40) 2 = true := ri_nd_of ri_o40 ri_oq3 (by eq_refl)
set_option maxRecDepth 100000 in
theorem ri_k40 : ri_mk 40 = true := ri_mk2 (ri_oqp ri_o40 ri_oq3) (ri_G3 (i := 197) (by eq_refl) (by eq_refl)) (ri_G1 (i := 11) (by eq_refl) (by eq_refl)) (by eq_refl) (by eq_refl) (ri_G3 (i := 196) (by eq_refl) (by eq_refl)) (ri_G0 (by eq_refl)) (q := (RX3, TX3, 13)) (by eq_refl) (by eq_refl)
theorem ri_o41 : ri_on 3 = (ri_y 41).cls := by eq_refl
theorem ri_d41_4 : ri_nd (ri_y 41) 4 = true := ri_nd_of ri_o41 ri_oq3 (by eq_refl)
set_option maxRecDepth 100000 in
theorem ri_k41 : ri_mk 41 = true := ri_mk2 (ri_oqp ri_o41 ri_oq3) (ri_G3 (i := 156) (by eq_refl) (by eq_refl)) (ri_G1 (i := 11) (by eq_refl) (by eq_refl)) (by eq_refl) (by eq_refl) (ri_G3 (i := 155) (by eq_refl) (by eq_refl)) (ri_G0 (by eq_refl)) (q := (RX3, TX3, 13)) (by eq_refl) (by eq_refl)
theorem ri_o42 : ri_on 3 = (ri_y 42).cls := by eq_refl
theorem ri_d42_2 : ri_nd (ri_y 42) 2 = true := ri_nd_of ri_o42 ri_oq3 (by eq_refl)
set_option maxRecDepth 100000 in
theorem ri_k42 : ri_mk 42 = true := ri_mk2 (ri_oqp ri_o42 ri_oq3) (ri_G3 (i := 165) (by eq_refl) (by eq_refl)) (ri_G1 (i := 11) (by eq_refl) (by eq_refl)) (by eq_refl) (by eq_refl) (ri_G3 (i := 164) (by eq_refl) (by eq_refl)) (ri_G0 (by eq_refl)) (q := (RX3, TX3, 13)) (by eq_refl) (by eq_refl)
theorem ri_o43 : ri_on 3 = (ri_y 43).cls := by eq_refl
theorem ri_d43_1 : ri_nd (ri_y 43) 1 = true := ri_nd_of ri_o43 ri_oq3 (by eq_refl)
set_option maxRecDepth 100000 in
theorem ri_k43 : ri_mk 43 = true := ri_mk2 (ri_oqp ri_o43 ri_oq3) (ri_G3 (i := 186) (by eq_refl) (by eq_refl)) (ri_G1 (i := 11) (by eq_refl) (by eq_refl)) (by eq_refl) (by eq_refl) (ri_G3 (i := 185) (by eq_refl) (by eq_refl)) (ri_G0 (by eq_refl)) (q := (RX3, TX3, 13)) (by eq_refl) (by eq_refl)
theorem ri_o44 : ri_on 3 = (ri_y 44).cls := by eq_refl
theorem ri_d44_1 : ri_nd (ri_y 44) 1 = true := ri_nd_of ri_o44 ri_oq3 (by eq_refl)
set_option maxRecDepth 100000 in
theorem ri_k44 : ri_mk 44 = true := ri_mk2 (ri_oqp ri_o44 ri_oq3) (ri_G3 (i := 173) (by eq_refl) (by eq_refl)) (ri_G1 (i := 11) (by eq_refl) (by eq_refl)) (by eq_refl) (by eq_refl) (ri_G3 (i := 172) (by eq_refl) (by eq_refl)) (ri_G0 (by eq_refl)) (q := (RX3, TX3, 13)) (by eq_refl) (by eq_refl)
theorem ri_o45 : ri_on 3 = (ri_y 45).cls := by eq_refl
theorem ri_d45_2 : ri_nd (ri_y 45) 2 = true := ri_nd_of ri_o45 ri_oq3 (by eq_refl)
set_option maxRecDepth 100000 in
theorem ri_k45 : ri_mk 45 = true := ri_mk2 (ri_oqp ri_o45 ri_oq3) (ri_G3 (i := 177) (by eq_refl) (by eq_refl)) (ri_G1 (i := 11) (by eq_refl) (by eq_refl)) (by eq_refl) (by eq_refl) (ri_G3 (i := 176) (by eq_refl) (by eq_refl)) (ri_G0 (by eq_refl)) (q := (RX3, TX3, 13)) (by eq_refl) (by eq_refl)
theorem ri_o46 : ri_on 3 = (ri_y 46).cls := by eq_refl
theorem ri_d46_1 : ri_nd (ri_y 46) 1 = true := ri_nd_of ri_o46 ri_oq3 (by eq_refl)
set_option maxRecDepth 100000 in
theorem ri_k46 : ri_mk 46 = true := ri_mk2 (ri_oqp ri_o46 ri_oq3) (ri_G3 (i := 182) (by eq_refl) (by eq_refl)) (ri_G1 (i := 11) (by eq_refl) (by eq_refl)) (by eq_refl) (by eq_refl) (ri_G3 (i := 181) (by eq_refl) (by eq_refl)) (ri_G0 (by eq_refl)) (q := (RX3, TX3, 13)) (by eq_refl) (by eq_refl)
theorem ri_o47 : ri_on 3 = (ri_y 47).cls := by eq_refl
theorem ri_d47_0 : ri_nd (ri_y 47) 0 = true := ri_nd_of ri_o47 ri_oq3 (by eq_refl)
set_option maxRecDepth 100000 in
theorem ri_k47 : ri_mk 47 = true := ri_mk2 (ri_oqp ri_o47 ri_oq3) (ri_G3 (i := 190) (by eq_refl) (by eq_refl)) (ri_G1 (i := 11) (by eq_refl) (by eq_refl)) (by eq_refl) (by eq_refl) (ri_G3 (i := 189) (by eq_refl) (by eq_refl)) (ri_G0 (by eq_refl)) (q := (RX3, TX3, 13)) (by eq_refl) (by eq_refl)
theorem ri_o48 : ri_on 3 = (ri_y 48).cls := by eq_refl
theorem ri_d48_3 : ri_nd (ri_y 48) 3 = true := ri_nd_of ri_o48 ri_oq3 (by eq_refl)
set_option maxRecDepth 100000 in
theorem ri_k48 : ri_mk 48 = true := ri_mk0 (ri_oqp ri_o48 ri_oq3) (ri_G3 (i := 193) (by eq_refl) (by eq_refl)) (ri_G1 (i := 11) (by eq_refl) (by eq_refl)) (by eq_refl) (by eq_refl) (ri_G3 (i := 192) (by eq_refl) (by eq_refl))
theorem ri_o49 : ri_on 4 = (ri_y 49).cls := by eq_refl
theorem ri_d49_0 : ri_nd (ri_y 49) 0 = true := ri_nd_of ri_o49 ri_oq4 (by eq_refl)
set_option maxRecDepth 100000 in
theorem ri_k49 : ri_mk 49 = true := ri_mk1 (ri_oqp ri_o49 ri_oq4) (ri_G1 (i := 85) (by eq_refl) (by eq_refl)) (ri_G1 (i := 5) (by eq_refl) (by eq_refl)) (by eq_refl) (by eq_refl) (ri_G1 (i := 84) (by eq_refl) (by eq_refl)) (by eq_refl) (by eq_refl)
theorem ri_o50 : ri_on 4 = (ri_y 50).cls := by eq_refl
theorem ri_d50_2 : ri_nd (ri_y 50) 2 = true := ri_nd_of ri_o50 ri_oq4 (by eq_refl)
set_option maxRecDepth 100000 in
theorem ri_k50 : ri_mk 50 = true := ri_mk2 (ri_oqp ri_o50 ri_oq4) (ri_G3 (i := 74) (by eq_refl) (by eq_refl)) (ri_G1 (i := 5) (by eq_refl) (by eq_refl)) (by eq_refl) (by eq_refl) (ri_G3 (i := 73) (by eq_refl) (by eq_refl)) (ri_G0 (by eq_refl)) (q := (RX4, TX4, 1)) (by eq_refl) (by eq_refl)
theorem ri_o51 : ri_on 4 = (ri_y 51).cls := by eq_refl
theorem ri_d51_1 : ri_nd (ri_y 51) 1 = true := ri_nd_of ri_o51 ri_oq4 (by eq_refl)
set_option maxRecDepth 100000 in
theorem ri_k51 : ri_mk 51 = true := ri_mk0 (ri_oqp ri_o51 ri_oq4) (ri_G3 (i := 82) (by eq_refl) (by eq_refl)) (ri_G1 (i := 5) (by eq_refl) (by eq_refl)) (by eq_refl) (by eq_refl) (ri_G3 (i := 81) (by eq_refl) (by eq_refl))
theorem ri_o52 : ri_on 4 = (ri_y 52).cls := by eq_refl
theorem ri_d52_3 : ri_nd (ri_y 52) 3 = true := ri_nd_of ri_o52 ri_oq4 (by eq_refl)
set_option maxRecDepth 100000 in
theorem ri_k52 : ri_mk 52 = true := ri_mk2 (ri_oqp ri_o52 ri_oq4) (ri_G3 (i := 107) (by eq_refl) (by eq_refl)) (ri_G1 (i := 5) (by eq_refl) (by eq_refl)) (by eq_refl) (by eq_refl) (ri_G3 (i := 106) (by eq_refl) (by eq_refl)) (ri_G0 (by eq_refl)) (q := (RX4, TX4, 1)) (by eq_refl) (by eq_refl)
theorem ri_o53 : ri_on 4 = (ri_y 53).cls := by eq_refl
theorem ri_d53_3 : ri_nd (ri_y 53) 3 = true := ri_nd_of ri_o53 ri_oq4 (by eq_refl)
set_option maxRecDepth 100000 in
theorem ri_k53 : ri_mk 53 = true := ri_mk2 (ri_oqp ri_o53 ri_oq4) (ri_G3 (i := 111) (by eq_refl) (by eq_refl)) (ri_G1 (i := 5) (by eq_refl) (by eq_refl)) (by eq_refl) (by eq_refl) (ri_G3 (i := 110) (by eq_refl) (by eq_refl)) (ri_G0 (by eq_refl)) (q := (RX4, TX4, 1)) (by eq_refl) (by eq_refl)
theorem ri_o54 : ri_on 4 = (ri_y 54).cls := by eq_refl
theorem ri_d54_2 : ri_nd (ri_y 54) 2 = true := ri_nd_of ri_o54 ri_oq4 (by eq_refl)
set_option maxRecDepth 100000 in
theorem ri_k54 : ri_mk 54 = true := ri_mk2 (ri_oqp ri_o54 ri_oq4) (ri_G3 (i := 88) (by eq_refl) (by eq_refl)) (ri_G1 (i := 5) (by eq_refl) (by eq_refl)) (by eq_refl) (by eq_refl) (ri_G3 (i := 87) (by eq_refl) (by eq_refl)) (ri_G0 (by eq_refl)) (q := (RX4, TX4, 1)) (by eq_refl) (by eq_refl)
theorem ri_o55 : ri_on 4 = (ri_y 55).cls := by eq_refl
theorem ri_d55_2 : ri_nd (ri_y 55) 2 = true := ri_nd_of ri_o55 ri_oq4 (by eq_refl)
set_option maxRecDepth 100000 in
theorem ri_k55 : ri_mk 55 = true := ri_mk2 (ri_oqp ri_o55 ri_oq4) (ri_G3 (i := 92) (by eq_refl) (by eq_refl)) (ri_G1 (i := 5) (by eq_refl) (by eq_refl)) (by eq_refl) (by eq_refl) (ri_G3 (i := 91) (by eq_refl) (by eq_refl)) (ri_G0 (by eq_refl)) (q := (RX4, TX4, 1)) (by eq_refl) (by eq_refl)
theorem ri_o56 : ri_on 5 = (ri_y 56).cls := by eq_refl
theorem ri_d56_0 : ri_nd (ri_y 56) 0 = true := ri_nd_of ri_o56 ri_oq5 (by eq_refl)
set_option maxRecDepth 100000 in
theorem ri_k56 : ri_mk 56 = true := ri_mk1 (ri_oqp ri_o56 ri_oq5) (ri_G1 (i := 171) (by eq_refl) (by eq_refl)) (ri_G1 (i := 8) (by eq_refl) (by eq_refl)) (by eq_refl) (by eq_refl) (ri_G1 (i := 170) (by eq_refl) (by eq_refl)) (by eq_refl) (by eq_refl)
theorem ri_o57 : ri_on 5 = (ri_y 57).cls := by eq_refl
theorem ri_d57_1 : ri_nd (ri_y 57) 1 = true := ri_nd_of ri_o57 ri_oq5 (by eq_refl)
set_option maxRecDepth 100000 in
theorem ri_k57 : ri_mk 57 = true := ri_mk2 (ri_oqp ri_o57 ri_oq5) (ri_G3 (i := 56) (by eq_refl) (by eq_refl)) (ri_G1 (i := 8) (by eq_refl) (by eq_refl)) (by eq_refl) (by eq_refl) (ri_G3 (i := 55) (by eq_refl) (by eq_refl)) (ri_G0 (by eq_refl)) (q := (RX5, TX5, 4)) (by eq_refl) (by eq_refl)
theorem ri_o58 : ri_on 5 = (ri_y 58).cls := by eq_refl
theorem ri_d58_3 : ri_nd (ri_y 58) 3 = true := ri_nd_of ri_o58 ri_oq5 (by eq_refl)
set_option maxRecDepth 100000 in
theorem ri_k58 : ri_mk 58 = true := ri_mk2 (ri_oqp ri_o58 ri_oq5) (ri_G3 (i := 61) (by eq_refl) (by eq_refl)) (ri_G1 (i := 8) (by eq_refl) (by eq_refl)) (by eq_refl) (by eq_refl) (ri_G3 (i := 60) (by eq_refl) (by eq_refl)) (ri_G0 (by eq_refl)) (q := (RX5, TX5, 4)) (by eq_refl) (by eq_refl)
theorem ri_o59 : ri_on 5 = (ri_y 59).cls := by eq_refl
theorem ri_d59_2 : ri_nd (ri_y 59) 2 = true := ri_nd_of ri_o59 ri_oq5 (by eq_refl)
set_option maxRecDepth 100000 in
theorem ri_k59 : ri_mk 59 = true := ri_mk2 (ri_oqp ri_o59 ri_oq5) (ri_G4 (i := 225) (by eq_refl) (by eq_refl)) (ri_G1 (i := 8) (by eq_refl) (by eq_refl)) (by eq_refl) (by eq_refl) (ri_G4 (i := 224) (by eq_refl) (by eq_refl)) (ri_G0 (by eq_refl)) (q := (RX5, TX5, 4)) (by eq_refl) (by eq_refl)
theorem ri_o60 : ri_on 5 = (ri_y 60).cls := by eq_refl
theorem ri_d60_2 : ri_nd (ri_y 60) 2 = true := ri_nd_of ri_o60 ri_oq5 (by eq_refl)
set_option maxRecDepth 100000 in
theorem ri_k60 : ri_mk 60 = true := ri_mk2 (ri_oqp ri_o60 ri_oq5) (ri_G4 (i := 235) (by eq_refl) (by eq_refl)) (ri_G1 (i := 8) (by eq_refl) (by eq_refl)) (by eq_refl) (by eq_refl) (ri_G4 (i := 234) (by eq_refl) (by eq_refl)) (ri_G0 (by eq_refl)) (q := (RX5, TX5, 4)) (by eq_refl) (by eq_refl)
theorem ri_o61 : ri_on 5 = (ri_y 61).cls := by eq_refl
theorem ri_d61_3 : ri_nd (ri_y 61) 3 = true := ri_nd_of ri_o61 ri_oq5 (by eq_refl)
set_option maxRecDepth 100000 in
theorem ri_k61 : ri_mk 61 = true := ri_mk2 (ri_oqp ri_o61 ri_oq5) (ri_G4 (i := 220) (by eq_refl) (by eq_refl)) (ri_G1 (i := 8) (by eq_refl) (by eq_refl)) (by eq_refl) (by eq_refl) (ri_G4 (i := 219) (by eq_refl) (by eq_refl)) (ri_G0 (by eq_refl)) (q := (RX5, TX5, 4)) (by eq_refl) (by eq_refl)
theorem ri_o62 : ri_on 5 = (ri_y 62).cls := by eq_refl
theorem ri_d62_3 : ri_nd (ri_y 62) 3 = true := ri_nd_of ri_o62 ri_oq5 (by eq_refl)
set_option maxRecDepth 100000 in
theorem ri_k62 : ri_mk 62 = true := ri_mk2 (ri_oqp ri_o62 ri_oq5) (ri_G4 (i := 231) (by eq_refl) (by eq_refl)) (ri_G1 (i := 8) (by eq_refl) (by eq_refl)) (by eq_refl) (by eq_refl) (ri_G4 (i := 230) (by eq_refl) (by eq_refl)) (ri_G0 (by eq_refl)) (q := (RX5, TX5, 4)) (by eq_refl) (by eq_refl)
theorem ri_o63 : ri_on 5 = (ri_y 63).cls := by eq_refl
theorem ri_d63_3 : ri_nd (ri_y 63) 3 = true := ri_nd_of ri_o63 ri_oq5 (by eq_refl)
set_option maxRecDepth 100000 in
theorem ri_k63 : ri_mk 63 = true := ri_mk2 (ri_oqp ri_o63 ri_oq5) (ri_G5 (i := 86) (by eq_refl) (by eq_refl)) (ri_G1 (i := 8) (by eq_refl) (by eq_refl)) (by eq_refl) (by eq_refl) (ri_G5 (i := 85) (by eq_refl) (by eq_refl)) (ri_G0 (by eq_refl)) (q := (RX5, TX5, 4)) (by eq_refl) (by eq_refl)
theorem ri_o64 : ri_on 5 = (ri_y 64).cls := by eq_refl
theorem ri_d64_4 : ri_nd (ri_y 64) 4 = true := ri_nd_of ri_o64 ri_oq5 (by eq_refl)
set_option maxRecDepth 100000 in
theorem ri_k64 : ri_mk 64 = true := ri_mk2 (ri_oqp ri_o64 ri_oq5) (ri_G5 (i := 57) (by eq_refl) (by eq_refl)) (ri_G1 (i := 8) (by eq_refl) (by eq_refl)) (by eq_refl) (by eq_refl) (ri_G5 (i := 56) (by eq_refl) (by eq_refl)) (ri_G0 (by eq_refl)) (q := (RX5, TX5, 4)) (by eq_refl) (by eq_refl)
theorem ri_o65 : ri_on 5 = (ri_y 65).cls := by eq_refl
theorem ri_d65_5 : ri_nd (ri_y 65) 5 = true := ri_nd_of ri_o65 ri_oq5 (by eq_refl)
set_option maxRecDepth 100000 in
theorem ri_k65 : ri_mk 65 = true := ri_mk2 (ri_oqp ri_o65 ri_oq5) (ri_G5 (i := 53) (by eq_refl) (by eq_refl)) (ri_G1 (i := 8) (by eq_refl) (by eq_refl)) (by eq_refl) (by eq_refl) (ri_G5 (i := 52) (by eq_refl) (by eq_refl)) (ri_G0 (by eq_refl)) (q := (RX5, TX5, 4)) (by eq_refl) (by eq_refl)
theorem ri_o66 : ri_on 5 = (ri_y 66).cls := by eq_refl
theorem ri_d66_3 : ri_nd (ri_y 66) 3 = true := ri_nd_of ri_o66 ri_oq5 (by eq_refl)
set_option maxRecDepth 100000 in
theorem ri_k66 : ri_mk 66 = true := ri_mk2 (ri_oqp ri_o66 ri_oq5) (ri_G5 (i := 6) (by eq_refl) (by eq_refl)) (ri_G1 (i := 8) (by eq_refl) (by eq_refl)) (by eq_refl) (by eq_refl) (ri_G5 (i := 5) (by eq_refl) (by eq_refl)) (ri_G0 (by eq_refl)) (q := (RX5, TX5, 4)) (by eq_refl) (by eq_refl)
theorem ri_o67 : ri_on 5 = (ri_y 67).cls := by eq_refl
theorem ri_d67_4 : ri_nd (ri_y 67) 4 = true := ri_nd_of ri_o67 ri_oq5 (by eq_refl)
set_option maxRecDepth 100000 in
theorem ri_k67 : ri_mk 67 = true := ri_mk2 (ri_oqp ri_o67 ri_oq5) (ri_G5 (i := 17) (by eq_refl) (by eq_refl)) (ri_G1 (i := 8) (by eq_refl) (by eq_refl)) (by eq_refl) (by eq_refl) (ri_G5 (i := 16) (by eq_refl) (by eq_refl)) (ri_G0 (by eq_refl)) (q := (RX5, TX5, 4)) (by eq_refl) (by eq_refl)
theorem ri_o68 : ri_on 6 = (ri_y 68).cls := by eq_refl
theorem ri_d68_0 : ri_nd (ri_y 68) 0 = true := ri_nd_of ri_o68 ri_oq6 (by eq_refl)
set_option maxRecDepth 100000 in
theorem ri_k68 : ri_mk 68 = true := ri_mk1 (ri_oqp ri_o68 ri_oq6) (ri_G1 (i := 207) (by eq_refl) (by eq_refl)) (ri_G1 (i := 10) (by eq_refl) (by eq_refl)) (by eq_refl) (by eq_refl) (ri_G1 (i := 206) (by eq_refl) (by eq_refl)) (by eq_refl) (by eq_refl)
theorem ri_o69 : ri_on 6 = (ri_y 69).cls := by eq_refl
theorem ri_d69_1 : ri_nd (ri_y 69) 1 = true := ri_nd_of ri_o69 ri_oq6 (by eq_refl)
set_option maxRecDepth 100000 in
theorem ri_k69 : ri_mk 69 = true := ri_mk2 (ri_oqp ri_o69 ri_oq6) (ri_G5 (i := 25) (by eq_refl) (by eq_refl)) (ri_G1 (i := 10) (by eq_refl) (by eq_refl)) (by eq_refl) (by eq_refl) (ri_G5 (i := 24) (by eq_refl) (by eq_refl)) (ri_G0 (by eq_refl)) (q := (RX6, TX6, 5)) (by eq_refl) (by eq_refl)
theorem ri_o70 : ri_on 6 = (ri_y 70).cls := by eq_refl
theorem ri_d70_4 : ri_nd (ri_y 70) 4 = true := ri_nd_of ri_o70 ri_oq6 (by eq_refl)
set_option maxRecDepth 100000 in
theorem ri_k70 : ri_mk 70 = true := ri_mk2 (ri_oqp ri_o70 ri_oq6) (ri_G5 (i := 31) (by eq_refl) (by eq_refl)) (ri_G1 (i := 10) (by eq_refl) (by eq_refl)) (by eq_refl) (by eq_refl) (ri_G5 (i := 30) (by eq_refl) (by eq_refl)) (ri_G0 (by eq_refl)) (q := (RX6, TX6, 5)) (by eq_refl) (by eq_refl)
theorem ri_o71 : ri_on 6 = (ri_y 71).cls := by eq_refl
theorem ri_d71_0 : ri_nd (ri_y 71) 0 = true := ri_nd_of ri_o71 ri_oq6 (by eq_refl)
set_option maxRecDepth 100000 in
theorem ri_k71 : ri_mk 71 = true := ri_mk2 (ri_oqp ri_o71 ri_oq6) (ri_G5 (i := 39) (by eq_refl) (by eq_refl)) (ri_G1 (i := 10) (by eq_refl) (by eq_refl)) (by eq_refl) (by eq_refl) (ri_G5 (i := 38) (by eq_refl) (by eq_refl)) (ri_G0 (by eq_refl)) (q := (RX6, TX6, 5)) (by eq_refl) (by eq_refl)
theorem ri_o72 : ri_on 6 = (ri_y 72).cls := by eq_refl
theorem ri_d72_1 : ri_nd (ri_y 72) 1 = true := ri_nd_of ri_o72 ri_oq6 (by eq_refl)
set_option maxRecDepth 100000 in
theorem ri_k72 : ri_mk 72 = true := ri_mk2 (ri_oqp ri_o72 ri_oq6) (ri_G5 (i := 43) (by eq_refl) (by eq_refl)) (ri_G1 (i := 10) (by eq_refl) (by eq_refl)) (by eq_refl) (by eq_refl) (ri_G5 (i := 42) (by eq_refl) (by eq_refl)) (ri_G0 (by eq_refl)) (q := (RX6, TX6, 5)) (by eq_refl) (by eq_refl)
theorem ri_o73 : ri_on 7 = (ri_y 73).cls := by eq_refl
theorem ri_d73_0 : ri_nd (ri_y 73) 0 = true := ri_nd_of ri_o73 ri_oq7 (by eq_refl)
set_option maxRecDepth 100000 in
theorem ri_k73 : ri_mk 73 = true := ri_mk1 (ri_oqp ri_o73 ri_oq7) (ri_G1 (i := 193) (by eq_refl) (by eq_refl)) (ri_G1 (i := 9) (by eq_refl) (by eq_refl)) (by eq_refl) (by eq_refl) (ri_G1 (i := 192) (by eq_refl) (by eq_refl)) (by eq_refl) (by eq_refl)
theorem ri_o74 : ri_on 7 = (ri_y 74).cls := by eq_refl
theorem ri_d74_0 : ri_nd (ri_y 74) 0 = true := ri_nd_of ri_o74 ri_oq7 (by eq_refl)
set_option maxRecDepth 100000 in
theorem ri_k74 : ri_mk 74 = true := ri_mk2 (ri_oqp ri_o74 ri_oq7) (ri_G4 (i := 73) (by eq_refl) (by eq_refl)) (ri_G1 (i := 9) (by eq_refl) (by eq_refl)) (by eq_refl) (by eq_refl) (ri_G4 (i := 72) (by eq_refl) (by eq_refl)) (ri_G0 (by eq_refl)) (q := (RX7, TX7, 2)) (by eq_refl) (by eq_refl)
theorem ri_o75 : ri_on 7 = (ri_y 75).cls := by eq_refl
theorem ri_d75_3 : ri_nd (ri_y 75) 3 = true := ri_nd_of ri_o75 ri_oq7 (by eq_refl)
set_option maxRecDepth 100000 in
theorem ri_k75 : ri_mk 75 = true := ri_mk2 (ri_oqp ri_o75 ri_oq7) (ri_G4 (i := 78) (by eq_refl) (by eq_refl)) (ri_G1 (i := 9) (by eq_refl) (by eq_refl)) (by eq_refl) (by eq_refl) (ri_G4 (i := 77) (by eq_refl) (by eq_refl)) (ri_G0 (by eq_refl)) (q := (RX7, TX7, 2)) (by eq_refl) (by eq_refl)
theorem ri_o76 : ri_on 7 = (ri_y 76).cls := by eq_refl
theorem ri_d76_1 : ri_nd (ri_y 76) 1 = true := ri_nd_of ri_o76 ri_oq7 (by eq_refl)
set_option maxRecDepth 100000 in
theorem ri_k76 : ri_mk 76 = true := ri_mk2 (ri_oqp ri_o76 ri_oq7) (ri_G4 (i := 83) (by eq_refl) (by eq_refl)) (ri_G1 (i := 9) (by eq_refl) (by eq_refl)) (by eq_refl) (by eq_refl) (ri_G4 (i := 82) (by eq_refl) (by eq_refl)) (ri_G0 (by eq_refl)) (q := (RX7, TX7, 2)) (by eq_refl) (by eq_refl)
theorem ri_o77 : ri_on 7 = (ri_y 77).cls := by eq_refl
theorem ri_d77_2 : ri_nd (ri_y 77) 2 = true := ri_nd_of ri_o77 ri_oq7 (by eq_refl)
set_option maxRecDepth 100000 in
theorem ri_k77 : ri_mk 77 = true := ri_mk2 (ri_oqp ri_o77 ri_oq7) (ri_G4 (i := 97) (by eq_refl) (by eq_refl)) (ri_G1 (i := 9) (by eq_refl) (by eq_refl)) (by eq_refl) (by eq_refl) (ri_G4 (i := 96) (by eq_refl) (by eq_refl)) (ri_G0 (by eq_refl)) (q := (RX7, TX7, 2)) (by eq_refl) (by eq_refl)
theorem ri_o78 : ri_on 7 = (ri_y 78).cls := by eq_refl
theorem ri_d78_2 : ri_nd (ri_y 78) 2 = true := ri_nd_of ri_o78 ri_oq7 (by eq_refl)
set_option maxRecDepth 100000 in
theorem ri_k78 : ri_mk 78 = true := ri_mk2 (ri_oqp ri_o78 ri_oq7) (ri_G4 (i := 188) (by eq_refl) (by eq_refl)) (ri_G1 (i := 9) (by eq_refl) (by eq_refl)) (by eq_refl) (by eq_refl) (ri_G4 (i := 187) (by eq_refl) (by eq_refl)) (ri_G0 (by eq_refl)) (q := (RX7, TX7, 2)) (by eq_refl) (by eq_refl)
theorem ri_o79 : ri_on 7 = (ri_y 79).cls := by eq_refl
theorem ri_d79_1 : ri_nd (ri_y 79) 1 = true := ri_nd_of ri_o79 ri_oq7 (by eq_refl)
set_option maxRecDepth 100000 in
theorem ri_k79 : ri_mk 79 = true := ri_mk2 (ri_oqp ri_o79 ri_oq7) (ri_G4 (i := 109) (by eq_refl) (by eq_refl)) (ri_G1 (i := 9) (by eq_refl) (by eq_refl)) (by eq_refl) (by eq_refl) (ri_G4 (i := 108) (by eq_refl) (by eq_refl)) (ri_G0 (by eq_refl)) (q := (RX7, TX7, 2)) (by eq_refl) (by eq_refl)
theorem ri_o80 : ri_on 7 = (ri_y 80).cls := by eq_refl
theorem ri_d80_1 : ri_nd (ri_y 80) 1 = true := ri_nd_of ri_o80 ri_oq7 (by eq_refl)
set_option maxRecDepth 100000 in
theorem ri_k80 : ri_mk 80 = true := ri_mk2 (ri_oqp ri_o80 ri_oq7) (ri_G5 (i := 81) (by eq_refl) (by eq_refl)) (ri_G1 (i := 9) (by eq_refl) (by eq_refl)) (by eq_refl) (by eq_refl) (ri_G5 (i := 80) (by eq_refl) (by eq_refl)) (ri_G0 (by eq_refl)) (q := (RX7, TX7, 2)) (by eq_refl) (by eq_refl)
theorem ri_o81 : ri_on 7 = (ri_y 81).cls := by eq_refl
theorem ri_d81_2 : ri_nd (ri_y 81) 2 = true := ri_nd_of ri_o81 ri_oq7 (by eq_refl)
set_option maxRecDepth 100000 in
theorem ri_k81 : ri_mk 81 = true := ri_mk2 (ri_oqp ri_o81 ri_oq7) (ri_G5 (i := 91) (by eq_refl) (by eq_refl)) (ri_G1 (i := 9) (by eq_refl) (by eq_refl)) (by eq_refl) (by eq_refl) (ri_G5 (i := 90) (by eq_refl) (by eq_refl)) (ri_G0 (by eq_refl)) (q := (RX7, TX7, 2)) (by eq_refl) (by eq_refl)
theorem ri_o82 : ri_on 8 = (ri_y 82).cls := by eq_refl
theorem ri_d82_0 : ri_nd (ri_y 82) 0 = true := ri_nd_of ri_o82 ri_oq8 (by eq_refl)
set_option maxRecDepth 100000 in
theorem ri_k82 : ri_mk 82 = true := ri_mk1 (ri_oqp ri_o82 ri_oq8) (ri_G1 (i := 32) (by eq_refl) (by eq_refl)) (ri_G1 (i := 2) (by eq_refl) (by eq_refl)) (by eq_refl) (by eq_refl) (ri_G1 (i := 31) (by eq_refl) (by eq_refl)) (by eq_refl) (by eq_refl)
theorem ri_o83 : ri_on 8 = (ri_y 83).cls := by eq_refl
theorem ri_d83_1 : ri_nd (ri_y 83) 1 = true := ri_nd_of ri_o83 ri_oq8 (by eq_refl)
set_option maxRecDepth 100000 in
theorem ri_k83 : ri_mk 83 = true := ri_mk2 (ri_oqp ri_o83 ri_oq8) (ri_G2 (i := 96) (by eq_refl) (by eq_refl)) (ri_G1 (i := 2) (by eq_refl) (by eq_refl)) (by eq_refl) (by eq_refl) (ri_G2 (i := 95) (by eq_refl) (by eq_refl)) (ri_G0 (by eq_refl)) (q := (RX8, TX8, 2)) (by eq_refl) (by eq_refl)
theorem ri_o84 : ri_on 8 = (ri_y 84).cls := by eq_refl
theorem ri_d84_1 : ri_nd (ri_y 84) 1 = true := ri_nd_of ri_o84 ri_oq8 (by eq_refl)
set_option maxRecDepth 100000 in
theorem ri_k84 : ri_mk 84 = true := ri_mk2 (ri_oqp ri_o84 ri_oq8) (ri_G2 (i := 119) (by eq_refl) (by eq_refl)) (ri_G1 (i := 2) (by eq_refl) (by eq_refl)) (by eq_refl) (by eq_refl) (ri_G2 (i := 118) (by eq_refl) (by eq_refl)) (ri_G0 (by eq_refl)) (q := (RX8, TX8, 2)) (by eq_refl) (by eq_refl)
theorem ri_o85 : ri_on 8 = (ri_y 85).cls := by eq_refl
theorem ri_d85_3 : ri_nd (ri_y 85) 3 = true := ri_nd_of ri_o85 ri_oq8 (by eq_refl)
set_option maxRecDepth 100000 in
theorem ri_k85 : ri_mk 85 = true := ri_mk2 (ri_oqp ri_o85 ri_oq8) (ri_G2 (i := 123) (by eq_refl) (by eq_refl)) (ri_G1 (i := 2) (by eq_refl) (by eq_refl)) (by eq_refl) (by eq_refl) (ri_G2 (i := 122) (by eq_refl) (by eq_refl)) (ri_G0 (by eq_refl)) (q := (RX8, TX8, 2)) (by eq_refl) (by eq_refl)
theorem ri_o86 : ri_on 8 = (ri_y 86).cls := by eq_refl
theorem ri_d86_3 : ri_nd (ri_y 86) 3 = true := ri_nd_of ri_o86 ri_oq8 (by eq_refl)
set_option maxRecDepth 100000 in
theorem ri_k86 : ri_mk 86 = true := ri_mk2 (ri_oqp ri_o86 ri_oq8) (ri_G2 (i := 135) (by eq_refl) (by eq_refl)) (ri_G1 (i := 2) (by eq_refl) (by eq_refl)) (by eq_refl) (by eq_refl) (ri_G2 (i := 134) (by eq_refl) (by eq_refl)) (ri_G0 (by eq_refl)) (q := (RX8, TX8, 2)) (by eq_refl) (by eq_refl)
theorem ri_o87 : ri_on 9 = (ri_y 87).cls := by eq_refl
theorem ri_d87_0 : ri_nd (ri_y 87) 0 = true := ri_nd_of ri_o87 ri_oq9 (by eq_refl)
set_option maxRecDepth 100000 in
theorem ri_k87 : ri_mk 87 = true := ri_mk1 (ri_oqp ri_o87 ri_oq9) (ri_G1 (i := 48) (by eq_refl) (by eq_refl)) (ri_G1 (i := 3) (by eq_refl) (by eq_refl)) (by eq_refl) (by eq_refl) (ri_G1 (i := 47) (by eq_refl) (by eq_refl)) (by eq_refl) (by eq_refl)
theorem ri_o88 : ri_on 9 = (ri_y 88).cls := by eq_refl
theorem ri_d88_1 : ri_nd (ri_y 88) 1 = true := ri_nd_of ri_o88 ri_oq9 (by eq_refl)
set_option maxRecDepth 100000 in
theorem ri_k88 : ri_mk 88 = true := ri_mk2 (ri_oqp ri_o88 ri_oq9) (ri_G2 (i := 111) (by eq_refl) (by eq_refl)) (ri_G1 (i := 3) (by eq_refl) (by eq_refl)) (by eq_refl) (by eq_refl) (ri_G2 (i := 110) (by eq_refl) (by eq_refl)) (ri_G0 (by eq_refl)) (q := (RX9, TX9, 6)) (by eq_refl) (by eq_refl)
theorem ri_o89 : ri_on 9 = (ri_y 89).cls := by eq_refl
theorem ri_d89_3 : ri_nd (ri_y 89) 3 = true := ri_nd_of ri_o89 ri_oq9 (by eq_refl)
set_option maxRecDepth 100000 in
theorem ri_k89 : ri_mk 89 = true := ri_mk2 (ri_oqp ri_o89 ri_oq9) (ri_G2 (i := 205) (by eq_refl) (by eq_refl)) (ri_G1 (i := 3) (by eq_refl) (by eq_refl)) (by eq_refl) (by eq_refl) (ri_G2 (i := 204) (by eq_refl) (by eq_refl)) (ri_G0 (by eq_refl)) (q := (RX9, TX9, 6)) (by eq_refl) (by eq_refl)
theorem ri_o90 : ri_on 9 = (ri_y 90).cls := by eq_refl
theorem ri_d90_2 : ri_nd (ri_y 90) 2 = true := ri_nd_of ri_o90 ri_oq9 (by eq_refl)
set_option maxRecDepth 100000 in
theorem ri_k90 : ri_mk 90 = true := ri_mk2 (ri_oqp ri_o90 ri_oq9) (ri_G2 (i := 115) (by eq_refl) (by eq_refl)) (ri_G1 (i := 3) (by eq_refl) (by eq_refl)) (by eq_refl) (by eq_refl) (ri_G2 (i := 114) (by eq_refl) (by eq_refl)) (ri_G0 (by eq_refl)) (q := (RX9, TX9, 6)) (by eq_refl) (by eq_refl)
theorem ri_o91 : ri_on 9 = (ri_y 91).cls := by eq_refl
theorem ri_d91_4 : ri_nd (ri_y 91) 4 = true := ri_nd_of ri_o91 ri_oq9 (by eq_refl)
set_option maxRecDepth 100000 in
theorem ri_k91 : ri_mk 91 = true := ri_mk0 (ri_oqp ri_o91 ri_oq9) (ri_G2 (i := 127) (by eq_refl) (by eq_refl)) (ri_G1 (i := 3) (by eq_refl) (by eq_refl)) (by eq_refl) (by eq_refl) (ri_G2 (i := 126) (by eq_refl) (by eq_refl))
theorem ri_o92 : ri_on 9 = (ri_y 92).cls := by eq_refl
theorem ri_d92_3 : ri_nd (ri_y 92) 3 = true := ri_nd_of ri_o92 ri_oq9 (by eq_refl)
set_option maxRecDepth 100000 in
theorem ri_k92 : ri_mk 92 = true := ri_mk0 (ri_oqp ri_o92 ri_oq9) (ri_G2 (i := 209) (by eq_refl) (by eq_refl)) (ri_G1 (i := 3) (by eq_refl) (by eq_refl)) (by eq_refl) (by eq_refl) (ri_G2 (i := 208) (by eq_refl) (by eq_refl))
theorem ri_o93 : ri_on 9 = (ri_y 93).cls := by eq_refl
theorem ri_d93_2 : ri_nd (ri_y 93) 2 = true := ri_nd_of ri_o93 ri_oq9 (by eq_refl)
set_option maxRecDepth 100000 in
theorem ri_k93 : ri_mk 93 = true := ri_mk0 (ri_oqp ri_o93 ri_oq9) (ri_G2 (i := 212) (by eq_refl) (by eq_refl)) (ri_G1 (i := 3) (by eq_refl) (by eq_refl)) (by eq_refl) (by eq_refl) (ri_G2 (i := 211) (by eq_refl) (by eq_refl))
theorem ri_o94 : ri_on 9 = (ri_y 94).cls := by eq_refl
theorem ri_d94_3 : ri_nd (ri_y 94) 3 = true := ri_nd_of ri_o94 ri_oq9 (by eq_refl)
set_option maxRecDepth 100000 in
theorem ri_k94 : ri_mk 94 = true := ri_mk0 (ri_oqp ri_o94 ri_oq9) (ri_G2 (i := 130) (by eq_refl) (by eq_refl)) (ri_G1 (i := 3) (by eq_refl) (by eq_refl)) (by eq_refl) (by eq_refl) (ri_G2 (i := 129) (by eq_refl) (by eq_refl))
theorem ri_o95 : ri_on 9 = (ri_y 95).cls := by eq_refl
theorem ri_d95_3 : ri_nd (ri_y 95) 3 = true := ri_nd_of ri_o95 ri_oq9 (by eq_refl)
set_option maxRecDepth 100000 in
theorem ri_k95 : ri_mk 95 = true := ri_mk0 (ri_oqp ri_o95 ri_oq9) (ri_G2 (i := 193) (by eq_refl) (by eq_refl)) (ri_G1 (i := 3) (by eq_refl) (by eq_refl)) (by eq_refl) (by eq_refl) (ri_G2 (i := 192) (by eq_refl) (by eq_refl))
theorem ri_o96 : ri_on 9 = (ri_y 96).cls := by eq_refl
theorem ri_d96_0 : ri_nd (ri_y 96) 0 = true := ri_nd_of ri_o96 ri_oq9 (by eq_refl)
set_option maxRecDepth 100000 in
theorem ri_k96 : ri_mk 96 = true := ri_mk2 (ri_oqp ri_o96 ri_oq9) (ri_G2 (i := 228) (by eq_refl) (by eq_refl)) (ri_G1 (i := 3) (by eq_refl) (by eq_refl)) (by eq_refl) (by eq_refl) (ri_G2 (i := 227) (by eq_refl) (by eq_refl)) (ri_G0 (by eq_refl)) (q := (RX9, TX9, 6)) (by eq_refl) (by eq_refl)
theorem ri_o97 : ri_on 9 = (ri_y 97).cls := by eq_refl
theorem ri_d97_0 : ri_nd (ri_y 97) 0 = true := ri_nd_of ri_o97 ri_oq9 (by eq_refl)
set_option maxRecDepth 100000 in
theorem ri_k97 : ri_mk 97 = true := ri_mk2 (ri_oqp ri_o97 ri_oq9) (ri_G3 (i := 96) (by eq_refl) (by eq_refl)) (ri_G1 (i := 3) (by eq_refl) (by eq_refl)) (by eq_refl) (by eq_refl) (ri_G3 (i := 95) (by eq_refl) (by eq_refl)) (ri_G0 (by eq_refl)) (q := (RX9, TX9, 6)) (by eq_refl) (by eq_refl)
theorem ri_o98 : ri_on 9 = (ri_y 98).cls := by eq_refl
theorem ri_d98_0 : ri_nd (ri_y 98) 0 = true := ri_nd_of ri_o98 ri_oq9 (by eq_refl)
set_option maxRecDepth 100000 in
theorem ri_k98 : ri_mk 98 = true := ri_mk2 (ri_oqp ri_o98 ri_oq9) (ri_G3 (i := 7) (by eq_refl) (by eq_refl)) (ri_G1 (i := 3) (by eq_refl) (by eq_refl)) (by eq_refl) (by eq_refl) (ri_G3 (i := 6) (by eq_refl) (by eq_refl)) (ri_G0 (by eq_refl)) (q := (RX9, TX9, 6)) (by eq_refl) (by eq_refl)
theorem ri_o99 : ri_on 9 = (ri_y 99).cls := by eq_refl
theorem ri_d99_1 : ri_nd (ri_y 99) 1 = true := ri_nd_of ri_o99 ri_oq9 (by eq_refl)
set_option maxRecDepth 100000 in
theorem ri_k99 : ri_mk 99 = true := ri_mk2 (ri_oqp ri_o99 ri_oq9) (ri_G3 (i := 33) (by eq_refl) (by eq_refl)) (ri_G1 (i := 3) (by eq_refl) (by eq_refl)) (by eq_refl) (by eq_refl) (ri_G3 (i := 32) (by eq_refl) (by eq_refl)) (ri_G0 (by eq_refl)) (q := (RX9, TX9, 6)) (by eq_refl) (by eq_refl)
theorem ri_o100 : ri_on 9 = (ri_y 100).cls := by eq_refl
theorem ri_d100_1 : ri_nd (ri_y 100) 1 = true := ri_nd_of ri_o100 ri_oq9 (by eq_refl)
set_option maxRecDepth 100000 in
theorem ri_k100 : ri_mk 100 = true := ri_mk2 (ri_oqp ri_o100 ri_oq9) (ri_G2 (i := 238) (by eq_refl) (by eq_refl)) (ri_G1 (i := 3) (by eq_refl) (by eq_refl)) (by eq_refl) (by eq_refl) (ri_G2 (i := 237) (by eq_refl) (by eq_refl)) (ri_G0 (by eq_refl)) (q := (RX9, TX9, 6)) (by eq_refl) (by eq_refl)
theorem ri_o101 : ri_on 9 = (ri_y 101).cls := by eq_refl
theorem ri_d101_2 : ri_nd (ri_y 101) 2 = true := ri_nd_of ri_o101 ri_oq9 (by eq_refl)
set_option maxRecDepth 100000 in
theorem ri_k101 : ri_mk 101 = true := ri_mk2 (ri_oqp ri_o101 ri_oq9) (ri_G3 (i := 11) (by eq_refl) (by eq_refl)) (ri_G1 (i := 3) (by eq_refl) (by eq_refl)) (by eq_refl) (by eq_refl) (ri_G3 (i := 10) (by eq_refl) (by eq_refl)) (ri_G0 (by eq_refl)) (q := (RX9, TX9, 6)) (by eq_refl) (by eq_refl)
theorem ri_o102 : ri_on 10 = (ri_y 102).cls := by eq_refl
theorem ri_d102_0 : ri_nd (ri_y 102) 0 = true := ri_nd_of ri_o102 ri_oq10 (by eq_refl)
set_option maxRecDepth 100000 in
theorem ri_k102 : ri_mk 102 = true := ri_mk1 (ri_oqp ri_o102 ri_oq10) (ri_G1 (i := 24) (by eq_refl) (by eq_refl)) (ri_G1 (i := 1) (by eq_refl) (by eq_refl)) (by eq_refl) (by eq_refl) (ri_G1 (i := 23) (by eq_refl) (by eq_refl)) (by eq_refl) (by eq_refl)
theorem ri_o103 : ri_on 10 = (ri_y 103).cls := by eq_refl
theorem ri_d103_5 : ri_nd (ri_y 103) 5 = true := ri_nd_of ri_o103 ri_oq10 (by eq_refl)
set_option maxRecDepth 100000 in
theorem ri_k103 : ri_mk 103 = true := ri_mk2 (ri_oqp ri_o103 ri_oq10) (ri_G2 (i := 92) (by eq_refl) (by eq_refl)) (ri_G1 (i := 1) (by eq_refl) (by eq_refl)) (by eq_refl) (by eq_refl) (ri_G2 (i := 90) (by eq_refl) (by eq_refl)) (ri_G2 (i := 91) (by eq_refl) (by eq_refl)) (q := (RX10, TX10, 18)) (by eq_refl) (by eq_refl)
theorem ri_o104 : ri_on 10 = (ri_y 104).cls := by eq_refl
theorem ri_d104_1 : ri_nd (ri_y 104) 1 = true := ri_nd_of ri_o104 ri_oq10 (by eq_refl)
set_option maxRecDepth 100000 in
theorem ri_k104 : ri_mk 104 = true := ri_mk2 (ri_oqp ri_o104 ri_oq10) (ri_G2 (i := 103) (by eq_refl) (by eq_refl)) (ri_G1 (i := 1) (by eq_refl) (by eq_refl)) (by eq_refl) (by eq_refl) (ri_G2 (i := 101) (by eq_refl) (by eq_refl)) (ri_G2 (i := 102) (by eq_refl) (by eq_refl)) (q := (RX10, TX10, 18)) (by eq_refl) (by eq_refl)
theorem ri_o105 : ri_on 10 = (ri_y 105).cls := by eq_refl
theorem ri_d105_0 : ri_nd (ri_y 105) 0 = true := ri_nd_of ri_o105 ri_oq10 (by eq_refl)
set_option maxRecDepth 100000 in
theorem ri_k105 : ri_mk 105 = true := ri_mk2 (ri_oqp ri_o105 ri_oq10) (ri_G2 (i := 107) (by eq_refl) (by eq_refl)) (ri_G1 (i := 1) (by eq_refl) (by eq_refl)) (by eq_refl) (by eq_refl) (ri_G2 (i := 105) (by eq_refl) (by eq_refl)) (ri_G2 (i := 106) (by eq_refl) (by eq_refl)) (q := (RX10, TX10, 18)) (by eq_refl) (by eq_refl)
theorem ri_o106 : ri_on 10 = (ri_y 106).cls := by eq_refl
theorem ri_d106_0 : ri_nd (ri_y 106) 0 = true := ri_nd_of ri_o106 ri_oq10 (by eq_refl)
set_option maxRecDepth 100000 in
theorem ri_k106 : ri_mk 106 = true := ri_mk2 (ri_oqp ri_o106 ri_oq10) (ri_G3 (i := 70) (by eq_refl) (by eq_refl)) (ri_G1 (i := 1) (by eq_refl) (by eq_refl)) (by eq_refl) (by eq_refl) (ri_G3 (i := 68) (by eq_refl) (by eq_refl)) (ri_G3 (i := 69) (by eq_refl) (by eq_refl)) (q := (RX10, TX10, 18)) (by eq_refl) (by eq_refl)
theorem ri_o107 : ri_on 10 = (ri_y 107).cls := by eq_refl
theorem ri_d107_3 : ri_nd (ri_y 107) 3 = true := ri_nd_of ri_o107 ri_oq10 (by eq_refl)
set_option maxRecDepth 100000 in
theorem ri_k107 : ri_mk 107 = true := ri_mk2 (ri_oqp ri_o107 ri_oq10) (ri_G3 (i := 120) (by eq_refl) (by eq_refl)) (ri_G1 (i := 1) (by eq_refl) (by eq_refl)) (by eq_refl) (by eq_refl) (ri_G3 (i := 118) (by eq_refl) (by eq_refl)) (ri_G3 (i := 119) (by eq_refl) (by eq_refl)) (q := (RX10, TX10, 18)) (by eq_refl) (by eq_refl)
theorem ri_o108 : ri_on 10 = (ri_y 108).cls := by eq_refl
theorem ri_d108_4 : ri_nd (ri_y 108) 4 = true := ri_nd_of ri_o108 ri_oq10 (by eq_refl)
set_option maxRecDepth 100000 in
theorem ri_k108 : ri_mk 108 = true := ri_mk2 (ri_oqp ri_o108 ri_oq10) (ri_G3 (i := 139) (by eq_refl) (by eq_refl)) (ri_G1 (i := 1) (by eq_refl) (by eq_refl)) (by eq_refl) (by eq_refl) (ri_G3 (i := 137) (by eq_refl) (by eq_refl)) (ri_G3 (i := 138) (by eq_refl) (by eq_refl)) (q := (RX10, TX10, 18)) (by eq_refl) (by eq_refl)
theorem ri_o109 : ri_on 10 = (ri_y 109).cls := by eq_refl
theorem ri_d109_4 : ri_nd (ri_y 109) 4 = true := ri_nd_of ri_o109 ri_oq10 (by eq_refl)
set_option maxRecDepth 100000 in
theorem ri_k109 : ri_mk 109 = true := ri_mk2 (ri_oqp ri_o109 ri_oq10) (ri_G3 (i := 208) (by eq_refl) (by eq_refl)) (ri_G1 (i := 1) (by eq_refl) (by eq_refl)) (by eq_refl) (by eq_refl) (ri_G3 (i := 206) (by eq_refl) (by eq_refl)) (ri_G3 (i := 207) (by eq_refl) (by eq_refl)) (q := (RX10, TX10, 18)) (by eq_refl) (by eq_refl)
theorem ri_o110 : ri_on 10 = (ri_y 110).cls := by eq_refl
theorem ri_d110_2 : ri_nd (ri_y 110) 2 = true := ri_nd_of ri_o110 ri_oq10 (by eq_refl)
set_option maxRecDepth 100000 in
theorem ri_k110 : ri_mk 110 = true := ri_mk2 (ri_oqp ri_o110 ri_oq10) (ri_G3 (i := 225) (by eq_refl) (by eq_refl)) (ri_G1 (i := 1) (by eq_refl) (by eq_refl)) (by eq_refl) (by eq_refl) (ri_G3 (i := 223) (by eq_refl) (by eq_refl)) (ri_G3 (i := 224) (by eq_refl) (by eq_refl)) (q := (RX10, TX10, 18)) (by eq_refl) (by eq_refl)
theorem ri_o111 : ri_on 10 = (ri_y 111).cls := by eq_refl
theorem ri_d111_2 : ri_nd (ri_y 111) 2 = true := ri_nd_of ri_o111 ri_oq10 (by eq_refl)
set_option maxRecDepth 100000 in
theorem ri_k111 : ri_mk 111 = true := ri_mk2 (ri_oqp ri_o111 ri_oq10) (ri_G3 (i := 238) (by eq_refl) (by eq_refl)) (ri_G1 (i := 1) (by eq_refl) (by eq_refl)) (by eq_refl) (by eq_refl) (ri_G3 (i := 236) (by eq_refl) (by eq_refl)) (ri_G3 (i := 237) (by eq_refl) (by eq_refl)) (q := (RX10, TX10, 18)) (by eq_refl) (by eq_refl)
theorem ri_o112 : ri_on 10 = (ri_y 112).cls := by eq_refl
theorem ri_d112_1 : ri_nd (ri_y 112) 1 = true := ri_nd_of ri_o112 ri_oq10 (by eq_refl)
set_option maxRecDepth 100000 in
theorem ri_k112 : ri_mk 112 = true := ri_mk2 (ri_oqp ri_o112 ri_oq10) (ri_G4 (i := 6) (by eq_refl) (by eq_refl)) (ri_G1 (i := 1) (by eq_refl) (by eq_refl)) (by eq_refl) (by eq_refl) (ri_G4 (i := 4) (by eq_refl) (by eq_refl)) (ri_G4 (i := 5) (by eq_refl) (by eq_refl)) (q := (RX10, TX10, 18)) (by eq_refl) (by eq_refl)
theorem ri_o113 : ri_on 10 = (ri_y 113).cls := by eq_refl
theorem ri_d113_1 : ri_nd (ri_y 113) 1 = true := ri_nd_of ri_o113 ri_oq10 (by eq_refl)
set_option maxRecDepth 100000 in
theorem ri_k113 : ri_mk 113 = true := ri_mk2 (ri_oqp ri_o113 ri_oq10) (ri_G4 (i := 10) (by eq_refl) (by eq_refl)) (ri_G1 (i := 1) (by eq_refl) (by eq_refl)) (by eq_refl) (by eq_refl) (ri_G4 (i := 8) (by eq_refl) (by eq_refl)) (ri_G4 (i := 9) (by eq_refl) (by eq_refl)) (q := (RX10, TX10, 18)) (by eq_refl) (by eq_refl)
theorem ri_o114 : ri_on 10 = (ri_y 114).cls := by eq_refl
theorem ri_d114_3 : ri_nd (ri_y 114) 3 = true := ri_nd_of ri_o114 ri_oq10 (by eq_refl)
set_option maxRecDepth 100000 in
theorem ri_k114 : ri_mk 114 = true := ri_mk2 (ri_oqp ri_o114 ri_oq10) (ri_G4 (i := 14) (by eq_refl) (by eq_refl)) (ri_G1 (i := 1) (by eq_refl) (by eq_refl)) (by eq_refl) (by eq_refl) (ri_G4 (i := 12) (by eq_refl) (by eq_refl)) (ri_G4 (i := 13) (by eq_refl) (by eq_refl)) (q := (RX10, TX10, 18)) (by eq_refl) (by eq_refl)
theorem ri_o115 : ri_on 10 = (ri_y 115).cls := by eq_refl
theorem ri_d115_2 : ri_nd (ri_y 115) 2 = true := ri_nd_of ri_o115 ri_oq10 (by eq_refl)
set_option maxRecDepth 100000 in
theorem ri_k115 : ri_mk 115 = true := ri_mk2 (ri_oqp ri_o115 ri_oq10) (ri_G4 (i := 34) (by eq_refl) (by eq_refl)) (ri_G1 (i := 1) (by eq_refl) (by eq_refl)) (by eq_refl) (by eq_refl) (ri_G4 (i := 32) (by eq_refl) (by eq_refl)) (ri_G4 (i := 33) (by eq_refl) (by eq_refl)) (q := (RX10, TX10, 18)) (by eq_refl) (by eq_refl)
theorem ri_o116 : ri_on 10 = (ri_y 116).cls := by eq_refl
theorem ri_d116_2 : ri_nd (ri_y 116) 2 = true := ri_nd_of ri_o116 ri_oq10 (by eq_refl)
set_option maxRecDepth 100000 in
theorem ri_k116 : ri_mk 116 = true := ri_mk2 (ri_oqp ri_o116 ri_oq10) (ri_G4 (i := 61) (by eq_refl) (by eq_refl)) (ri_G1 (i := 1) (by eq_refl) (by eq_refl)) (by eq_refl) (by eq_refl) (ri_G4 (i := 59) (by eq_refl) (by eq_refl)) (ri_G4 (i := 60) (by eq_refl) (by eq_refl)) (q := (RX10, TX10, 18)) (by eq_refl) (by eq_refl)
theorem ri_o117 : ri_on 10 = (ri_y 117).cls := by eq_refl
theorem ri_d117_3 : ri_nd (ri_y 117) 3 = true := ri_nd_of ri_o117 ri_oq10 (by eq_refl)
set_option maxRecDepth 100000 in
theorem ri_k117 : ri_mk 117 = true := ri_mk2 (ri_oqp ri_o117 ri_oq10) (ri_G4 (i := 89) (by eq_refl) (by eq_refl)) (ri_G1 (i := 1) (by eq_refl) (by eq_refl)) (by eq_refl) (by eq_refl) (ri_G4 (i := 87) (by eq_refl) (by eq_refl)) (ri_G4 (i := 88) (by eq_refl) (by eq_refl)) (q := (RX10, TX10, 18)) (by eq_refl) (by eq_refl)
theorem ri_o118 : ri_on 10 = (ri_y 118).cls := by eq_refl
theorem ri_d118_4 : ri_nd (ri_y 118) 4 = true := ri_nd_of ri_o118 ri_oq10 (by eq_refl)
set_option maxRecDepth 100000 in
theorem ri_k118 : ri_mk 118 = true := ri_mk2 (ri_oqp ri_o118 ri_oq10) (ri_G4 (i := 93) (by eq_refl) (by eq_refl)) (ri_G1 (i := 1) (by eq_refl) (by eq_refl)) (by eq_refl) (by eq_refl) (ri_G4 (i := 91) (by eq_refl) (by eq_refl)) (ri_G4 (i := 92) (by eq_refl) (by eq_refl)) (q := (RX10, TX10, 18)) (by eq_refl) (by eq_refl)
theorem ri_o119 : ri_on 10 = (ri_y 119).cls := by eq_refl
theorem ri_d119_2 : ri_nd (ri_y 119) 2 = true := ri_nd_of ri_o119 ri_oq10 (by eq_refl)
set_option maxRecDepth 100000 in
theorem ri_k119 : ri_mk 119 = true := ri_mk2 (ri_oqp ri_o119 ri_oq10) (ri_G4 (i := 101) (by eq_refl) (by eq_refl)) (ri_G1 (i := 1) (by eq_refl) (by eq_refl)) (by eq_refl) (by eq_refl) (ri_G4 (i := 99) (by eq_refl) (by eq_refl)) (ri_G4 (i := 100) (by eq_refl) (by eq_refl)) (q := (RX10, TX10, 18)) (by eq_refl) (by eq_refl)
theorem ri_o120 : ri_on 10 = (ri_y 120).cls := by eq_refl
theorem ri_d120_2 : ri_nd (ri_y 120) 2 = true := ri_nd_of ri_o120 ri_oq10 (by eq_refl)
set_option maxRecDepth 100000 in
theorem ri_k120 : ri_mk 120 = true := ri_mk2 (ri_oqp ri_o120 ri_oq10) (ri_G4 (i := 114) (by eq_refl) (by eq_refl)) (ri_G1 (i := 1) (by eq_refl) (by eq_refl)) (by eq_refl) (by eq_refl) (ri_G4 (i := 112) (by eq_refl) (by eq_refl)) (ri_G4 (i := 113) (by eq_refl) (by eq_refl)) (q := (RX10, TX10, 18)) (by eq_refl) (by eq_refl)
theorem ri_o121 : ri_on 10 = (ri_y 121).cls := by eq_refl
theorem ri_d121_1 : ri_nd (ri_y 121) 1 = true := ri_nd_of ri_o121 ri_oq10 (by eq_refl)
set_option maxRecDepth 100000 in
theorem ri_k121 : ri_mk 121 = true := ri_mk2 (ri_oqp ri_o121 ri_oq10) (ri_G4 (i := 126) (by eq_refl) (by eq_refl)) (ri_G1 (i := 1) (by eq_refl) (by eq_refl)) (by eq_refl) (by eq_refl) (ri_G4 (i := 124) (by eq_refl) (by eq_refl)) (ri_G4 (i := 125) (by eq_refl) (by eq_refl)) (q := (RX10, TX10, 18)) (by eq_refl) (by eq_refl)
theorem ri_o122 : ri_on 10 = (ri_y 122).cls := by eq_refl
theorem ri_d122_1 : ri_nd (ri_y 122) 1 = true := ri_nd_of ri_o122 ri_oq10 (by eq_refl)
set_option maxRecDepth 100000 in
theorem ri_k122 : ri_mk 122 = true := ri_mk2 (ri_oqp ri_o122 ri_oq10) (ri_G4 (i := 131) (by eq_refl) (by eq_refl)) (ri_G1 (i := 1) (by eq_refl) (by eq_refl)) (by eq_refl) (by eq_refl) (ri_G4 (i := 129) (by eq_refl) (by eq_refl)) (ri_G4 (i := 130) (by eq_refl) (by eq_refl)) (q := (RX10, TX10, 18)) (by eq_refl) (by eq_refl)
theorem ri_o123 : ri_on 10 = (ri_y 123).cls := by eq_refl
theorem ri_d123_1 : ri_nd (ri_y 123) 1 = true := ri_nd_of ri_o123 ri_oq10 (by eq_refl)
set_option maxRecDepth 100000 in
theorem ri_k123 : ri_mk 123 = true := ri_mk2 (ri_oqp ri_o123 ri_oq10) (ri_G4 (i := 148) (by eq_refl) (by eq_refl)) (ri_G1 (i := 1) (by eq_refl) (by eq_refl)) (by eq_refl) (by eq_refl) (ri_G4 (i := 146) (by eq_refl) (by eq_refl)) (ri_G4 (i := 147) (by eq_refl) (by eq_refl)) (q := (RX10, TX10, 18)) (by eq_refl) (by eq_refl)
theorem ri_o124 : ri_on 10 = (ri_y 124).cls := by eq_refl
theorem ri_d124_2 : ri_nd (ri_y 124) 2 = true := ri_nd_of ri_o124 ri_oq10 (by eq_refl)
set_option maxRecDepth 100000 in
theorem ri_k124 : ri_mk 124 = true := ri_mk2 (ri_oqp ri_o124 ri_oq10) (ri_G4 (i := 164) (by eq_refl) (by eq_refl)) (ri_G1 (i := 1) (by eq_refl) (by eq_refl)) (by eq_refl) (by eq_refl) (ri_G4 (i := 162) (by eq_refl) (by eq_refl)) (ri_G4 (i := 163) (by eq_refl) (by eq_refl)) (q := (RX10, TX10, 18)) (by eq_refl) (by eq_refl)
theorem ri_o125 : ri_on 10 = (ri_y 125).cls := by eq_refl
theorem ri_d125_3 : ri_nd (ri_y 125) 3 = true := ri_nd_of ri_o125 ri_oq10 (by eq_refl)
set_option maxRecDepth 100000 in
theorem ri_k125 : ri_mk 125 = true := ri_mk2 (ri_oqp ri_o125 ri_oq10) (ri_G4 (i := 176) (by eq_refl) (by eq_refl)) (ri_G1 (i := 1) (by eq_refl) (by eq_refl)) (by eq_refl) (by eq_refl) (ri_G4 (i := 174) (by eq_refl) (by eq_refl)) (ri_G4 (i := 175) (by eq_refl) (by eq_refl)) (q := (RX10, TX10, 18)) (by eq_refl) (by eq_refl)
theorem ri_o126 : ri_on 10 = (ri_y 126).cls := by eq_refl
theorem ri_d126_3 : ri_nd (ri_y 126) 3 = true := ri_nd_of ri_o126 ri_oq10 (by eq_refl)
set_option maxRecDepth 100000 in
theorem ri_k126 : ri_mk 126 = true := ri_mk2 (ri_oqp ri_o126 ri_oq10) (ri_G4 (i := 184) (by eq_refl) (by eq_refl)) (ri_G1 (i := 1) (by eq_refl) (by eq_refl)) (by eq_refl) (by eq_refl) (ri_G4 (i := 182) (by eq_refl) (by eq_refl)) (ri_G4 (i := 183) (by eq_refl) (by eq_refl)) (q := (RX10, TX10, 18)) (by eq_refl) (by eq_refl)
theorem ri_o127 : ri_on 10 = (ri_y 127).cls := by eq_refl
theorem ri_d127_3 : ri_nd (ri_y 127) 3 = true := ri_nd_of ri_o127 ri_oq10 (by eq_refl)
set_option maxRecDepth 100000 in
theorem ri_k127 : ri_mk 127 = true := ri_mk2 (ri_oqp ri_o127 ri_oq10) (ri_G4 (i := 192) (by eq_refl) (by eq_refl)) (ri_G1 (i := 1) (by eq_refl) (by eq_refl)) (by eq_refl) (by eq_refl) (ri_G4 (i := 190) (by eq_refl) (by eq_refl)) (ri_G4 (i := 191) (by eq_refl) (by eq_refl)) (q := (RX10, TX10, 18)) (by eq_refl) (by eq_refl)
theorem ri_o128 : ri_on 10 = (ri_y 128).cls := by eq_refl
theorem ri_d128_2 : ri_nd (ri_y 128) 2 = true := ri_nd_of ri_o128 ri_oq10 (by eq_refl)
set_option maxRecDepth 100000 in
theorem ri_k128 : ri_mk 128 = true := ri_mk2 (ri_oqp ri_o128 ri_oq10) (ri_G4 (i := 200) (by eq_refl) (by eq_refl)) (ri_G1 (i := 1) (by eq_refl) (by eq_refl)) (by eq_refl) (by eq_refl) (ri_G4 (i := 198) (by eq_refl) (by eq_refl)) (ri_G4 (i := 199) (by eq_refl) (by eq_refl)) (q := (RX10, TX10, 18)) (by eq_refl) (by eq_refl)
theorem ri_o129 : ri_on 10 = (ri_y 129).cls := by eq_refl
theorem ri_d129_3 : ri_nd (ri_y 129) 3 = true := ri_nd_of ri_o129 ri_oq10 (by eq_refl)
set_option maxRecDepth 100000 in
theorem ri_k129 : ri_mk 129 = true := ri_mk2 (ri_oqp ri_o129 ri_oq10) (ri_G4 (i := 204) (by eq_refl) (by eq_refl)) (ri_G1 (i := 1) (by eq_refl) (by eq_refl)) (by eq_refl) (by eq_refl) (ri_G4 (i := 202) (by eq_refl) (by eq_refl)) (ri_G4 (i := 203) (by eq_refl) (by eq_refl)) (q := (RX10, TX10, 18)) (by eq_refl) (by eq_refl)
theorem ri_o130 : ri_on 10 = (ri_y 130).cls := by eq_refl
theorem ri_d130_3 : ri_nd (ri_y 130) 3 = true := ri_nd_of ri_o130 ri_oq10 (by eq_refl)
set_option maxRecDepth 100000 in
theorem ri_k130 : ri_mk 130 = true := ri_mk2 (ri_oqp ri_o130 ri_oq10) (ri_G4 (i := 208) (by eq_refl) (by eq_refl)) (ri_G1 (i := 1) (by eq_refl) (by eq_refl)) (by eq_refl) (by eq_refl) (ri_G4 (i := 206) (by eq_refl) (by eq_refl)) (ri_G4 (i := 207) (by eq_refl) (by eq_refl)) (q := (RX10, TX10, 18)) (by eq_refl) (by eq_refl)
theorem ri_o131 : ri_on 10 = (ri_y 131).cls := by eq_refl
theorem ri_d131_3 : ri_nd (ri_y 131) 3 = true := ri_nd_of ri_o131 ri_oq10 (by eq_refl)
set_option maxRecDepth 100000 in
theorem ri_k131 : ri_mk 131 = true := ri_mk2 (ri_oqp ri_o131 ri_oq10) (ri_G4 (i := 212) (by eq_refl) (by eq_refl)) (ri_G1 (i := 1) (by eq_refl) (by eq_refl)) (by eq_refl) (by eq_refl) (ri_G4 (i := 210) (by eq_refl) (by eq_refl)) (ri_G4 (i := 211) (by eq_refl) (by eq_refl)) (q := (RX10, TX10, 18)) (by eq_refl) (by eq_refl)
theorem ri_o132 : ri_on 10 = (ri_y 132).cls := by eq_refl
theorem ri_d132_4 : ri_nd (ri_y 132) 4 = true := ri_nd_of ri_o132 ri_oq10 (by eq_refl)
set_option maxRecDepth 100000 in
theorem ri_k132 : ri_mk 132 = true := ri_mk2 (ri_oqp ri_o132 ri_oq10) (ri_G5 (i := 2) (by eq_refl) (by eq_refl)) (ri_G1 (i := 1) (by eq_refl) (by eq_refl)) (by eq_refl) (by eq_refl) (ri_G5 (i := 0) (by eq_refl) (by eq_refl)) (ri_G5 (i := 1) (by eq_refl) (by eq_refl)) (q := (RX10, TX10, 18)) (by eq_refl) (by eq_refl)
theorem ri_o133 : ri_on 10 = (ri_y 133).cls := by eq_refl
theorem ri_d133_2 : ri_nd (ri_y 133) 2 = true := ri_nd_of ri_o133 ri_oq10 (by eq_refl)
set_option maxRecDepth 100000 in
theorem ri_k133 : ri_mk 133 = true := ri_mk2 (ri_oqp ri_o133 ri_oq10) (ri_G5 (i := 21) (by eq_refl) (by eq_refl)) (ri_G1 (i := 1) (by eq_refl) (by eq_refl)) (by eq_refl) (by eq_refl) (ri_G5 (i := 19) (by eq_refl) (by eq_refl)) (ri_G5 (i := 20) (by eq_refl) (by eq_refl)) (q := (RX10, TX10, 18)) (by eq_refl) (by eq_refl)
theorem ri_o134 : ri_on 10 = (ri_y 134).cls := by eq_refl
theorem ri_d134_5 : ri_nd (ri_y 134) 5 = true := ri_nd_of ri_o134 ri_oq10 (by eq_refl)
set_option maxRecDepth 100000 in
theorem ri_k134 : ri_mk 134 = true := ri_mk2 (ri_oqp ri_o134 ri_oq10) (ri_G5 (i := 49) (by eq_refl) (by eq_refl)) (ri_G1 (i := 1) (by eq_refl) (by eq_refl)) (by eq_refl) (by eq_refl) (ri_G5 (i := 47) (by eq_refl) (by eq_refl)) (ri_G5 (i := 48) (by eq_refl) (by eq_refl)) (q := (RX10, TX10, 18)) (by eq_refl) (by eq_refl)
theorem ri_o135 : ri_on 10 = (ri_y 135).cls := by eq_refl
theorem ri_d135_1 : ri_nd (ri_y 135) 1 = true := ri_nd_of ri_o135 ri_oq10 (by eq_refl)
set_option maxRecDepth 100000 in
theorem ri_k135 : ri_mk 135 = true := ri_mk2 (ri_oqp ri_o135 ri_oq10) (ri_G5 (i := 62) (by eq_refl) (by eq_refl)) (ri_G1 (i := 1) (by eq_refl) (by eq_refl)) (by eq_refl) (by eq_refl) (ri_G5 (i := 60) (by eq_refl) (by eq_refl)) (ri_G5 (i := 61) (by eq_refl) (by eq_refl)) (q := (RX10, TX10, 18)) (by eq_refl) (by eq_refl)
theorem ri_o136 : ri_on 10 = (ri_y 136).cls := by eq_refl
theorem ri_d136_3 : ri_nd (ri_y 136) 3 = true := ri_nd_of ri_o136 ri_oq10 (by eq_refl)
set_option maxRecDepth 100000 in
theorem ri_k136 : ri_mk 136 = true := ri_mk2 (ri_oqp ri_o136 ri_oq10) (ri_G5 (i := 66) (by eq_refl) (by eq_refl)) (ri_G1 (i := 1) (by eq_refl) (by eq_refl)) (by eq_refl) (by eq_refl) (ri_G5 (i := 64) (by eq_refl) (by eq_refl)) (ri_G5 (i := 65) (by eq_refl) (by eq_refl)) (q := (RX10, TX10, 18)) (by eq_refl) (by eq_refl)
theorem ri_o137 : ri_on 10 = (ri_y 137).cls := by eq_refl
theorem ri_d137_1 : ri_nd (ri_y 137) 1 = true := ri_nd_of ri_o137 ri_oq10 (by eq_refl)
set_option maxRecDepth 100000 in
theorem ri_k137 : ri_mk 137 = true := ri_mk2 (ri_oqp ri_o137 ri_oq10) (ri_G5 (i := 97) (by eq_refl) (by eq_refl)) (ri_G1 (i := 1) (by eq_refl) (by eq_refl)) (by eq_refl) (by eq_refl) (ri_G5 (i := 95) (by eq_refl) (by eq_refl)) (ri_G5 (i := 96) (by eq_refl) (by eq_refl)) (q := (RX10, TX10, 18)) (by eq_refl) (by eq_refl)
theorem ri_o138 : ri_on 10 = (ri_y 138).cls := by eq_refl
theorem ri_d138_4 : ri_nd (ri_y 138) 4 = true := ri_nd_of ri_o138 ri_oq10 (by eq_refl)
set_option maxRecDepth 100000 in
theorem ri_k138 : ri_mk 138 = true := ri_mk2 (ri_oqp ri_o138 ri_oq10) (ri_G5 (i := 105) (by eq_refl) (by eq_refl)) (ri_G1 (i := 1) (by eq_refl) (by eq_refl)) (by eq_refl) (by eq_refl) (ri_G5 (i := 103) (by eq_refl) (by eq_refl)) (ri_G5 (i := 104) (by eq_refl) (by eq_refl)) (q := (RX10, TX10, 18)) (by eq_refl) (by eq_refl)
theorem ri_o139 : ri_on 10 = (ri_y 139).cls := by eq_refl
theorem ri_d139_1 : ri_nd (ri_y 139) 1 = true := ri_nd_of ri_o139 ri_oq10 (by eq_refl)
set_option maxRecDepth 100000 in
theorem ri_k139 : ri_mk 139 = true := ri_mk2 (ri_oqp ri_o139 ri_oq10) (ri_G5 (i := 109) (by eq_refl) (by eq_refl)) (ri_G1 (i := 1) (by eq_refl) (by eq_refl)) (by eq_refl) (by eq_refl) (ri_G5 (i := 107) (by eq_refl) (by eq_refl)) (ri_G5 (i := 108) (by eq_refl) (by eq_refl)) (q := (RX10, TX10, 18)) (by eq_refl) (by eq_refl)
theorem ri_o140 : ri_on 10 = (ri_y 140).cls := by eq_refl
theorem ri_d140_1 : ri_nd (ri_y 140) 1 = true := ri_nd_of ri_o140 ri_oq10 (by eq_refl)
set_option maxRecDepth 100000 in
theorem ri_k140 : ri_mk 140 = true := ri_mk2 (ri_oqp ri_o140 ri_oq10) (ri_G5 (i := 123) (by eq_refl) (by eq_refl)) (ri_G1 (i := 1) (by eq_refl) (by eq_refl)) (by eq_refl) (by eq_refl) (ri_G5 (i := 121) (by eq_refl) (by eq_refl)) (ri_G5 (i := 122) (by eq_refl) (by eq_refl)) (q := (RX10, TX10, 18)) (by eq_refl) (by eq_refl)
theorem ri_o141 : ri_on 10 = (ri_y 141).cls := by eq_refl
theorem ri_d141_1 : ri_nd (ri_y 141) 1 = true := ri_nd_of ri_o141 ri_oq10 (by eq_refl)
set_option maxRecDepth 100000 in
theorem ri_k141 : ri_mk 141 = true := ri_mk2 (ri_oqp ri_o141 ri_oq10) (ri_G5 (i := 132) (by eq_refl) (by eq_refl)) (ri_G1 (i := 1) (by eq_refl) (by eq_refl)) (by eq_refl) (by eq_refl) (ri_G5 (i := 130) (by eq_refl) (by eq_refl)) (ri_G5 (i := 131) (by eq_refl) (by eq_refl)) (q := (RX10, TX10, 18)) (by eq_refl) (by eq_refl)
theorem ri_o142 : ri_on 10 = (ri_y 142).cls := by eq_refl
theorem ri_d142_2 : ri_nd (ri_y 142) 2 = true := ri_nd_of ri_o142 ri_oq10 (by eq_refl)
set_option maxRecDepth 100000 in
theorem ri_k142 : ri_mk 142 = true := ri_mk0 (ri_oqp ri_o142 ri_oq10) (ri_G2 (i := 99) (by eq_refl) (by eq_refl)) (ri_G1 (i := 1) (by eq_refl) (by eq_refl)) (by eq_refl) (by eq_refl) (ri_G2 (i := 98) (by eq_refl) (by eq_refl))
theorem ri_o143 : ri_on 10 = (ri_y 143).cls := by eq_refl
theorem ri_d143_2 : ri_nd (ri_y 143) 2 = true := ri_nd_of ri_o143 ri_oq10 (by eq_refl)
set_option maxRecDepth 100000 in
theorem ri_k143 : ri_mk 143 = true := ri_mk0 (ri_oqp ri_o143 ri_oq10) (ri_G2 (i := 231) (by eq_refl) (by eq_refl)) (ri_G1 (i := 1) (by eq_refl) (by eq_refl)) (by eq_refl) (by eq_refl) (ri_G2 (i := 230) (by eq_refl) (by eq_refl))
theorem ri_o144 : ri_on 10 = (ri_y 144).cls := by eq_refl
theorem ri_d144_3 : ri_nd (ri_y 144) 3 = true := ri_nd_of ri_o144 ri_oq10 (by eq_refl)
set_option maxRecDepth 100000 in
theorem ri_k144 : ri_mk 144 = true := ri_mk0 (ri_oqp ri_o144 ri_oq10) (ri_G3 (i := 29) (by eq_refl) (by eq_refl)) (ri_G1 (i := 1) (by eq_refl) (by eq_refl)) (by eq_refl) (by eq_refl) (ri_G3 (i := 28) (by eq_refl) (by eq_refl))
theorem ri_o145 : ri_on 10 = (ri_y 145).cls := by eq_refl
theorem ri_d145_2 : ri_nd (ri_y 145) 2 = true := ri_nd_of ri_o145 ri_oq10 (by eq_refl)
set_option maxRecDepth 100000 in
theorem ri_k145 : ri_mk 145 = true := ri_mk0 (ri_oqp ri_o145 ri_oq10) (ri_G3 (i := 26) (by eq_refl) (by eq_refl)) (ri_G1 (i := 1) (by eq_refl) (by eq_refl)) (by eq_refl) (by eq_refl) (ri_G3 (i := 25) (by eq_refl) (by eq_refl))
theorem ri_o146 : ri_on 10 = (ri_y 146).cls := by eq_refl
theorem ri_d146_2 : ri_nd (ri_y 146) 2 = true := ri_nd_of ri_o146 ri_oq10 (by eq_refl)
set_option maxRecDepth 100000 in
theorem ri_k146 : ri_mk 146 = true := ri_mk0 (ri_oqp ri_o146 ri_oq10) (ri_G4 (i := 138) (by eq_refl) (by eq_refl)) (ri_G1 (i := 1) (by eq_refl) (by eq_refl)) (by eq_refl) (by eq_refl) (ri_G4 (i := 137) (by eq_refl) (by eq_refl))
theorem ri_o147 : ri_on 10 = (ri_y 147).cls := by eq_refl
theorem ri_d147_1 : ri_nd (ri_y 147) 1 = true := ri_nd_of ri_o147 ri_oq10 (by eq_refl)
set_option maxRecDepth 100000 in
theorem ri_k147 : ri_mk 147 = true := ri_mk0 (ri_oqp ri_o147 ri_oq10) (ri_G5 (i := 69) (by eq_refl) (by eq_refl)) (ri_G1 (i := 1) (by eq_refl) (by eq_refl)) (by eq_refl) (by eq_refl) (ri_G5 (i := 68) (by eq_refl) (by eq_refl))
theorem ri_o148 : ri_on 10 = (ri_y 148).cls := by eq_refl
theorem ri_d148_1 : ri_nd (ri_y 148) 1 = true := ri_nd_of ri_o148 ri_oq10 (by eq_refl)
set_option maxRecDepth 100000 in
theorem ri_k148 : ri_mk 148 = true := ri_mk0 (ri_oqp ri_o148 ri_oq10) (ri_G4 (i := 238) (by eq_refl) (by eq_refl)) (ri_G1 (i := 1) (by eq_refl) (by eq_refl)) (by eq_refl) (by eq_refl) (ri_G4 (i := 237) (by eq_refl) (by eq_refl))
theorem ri_o149 : ri_on 10 = (ri_y 149).cls := by eq_refl
theorem ri_d149_0 : ri_nd (ri_y 149) 0 = true := ri_nd_of ri_o149 ri_oq10 (by eq_refl)
set_option maxRecDepth 100000 in
theorem ri_k149 : ri_mk 149 = true := ri_mk2 (ri_oqp ri_o149 ri_oq10) (ri_G3 (i := 52) (by eq_refl) (by eq_refl)) (ri_G1 (i := 1) (by eq_refl) (by eq_refl)) (by eq_refl) (by eq_refl) (ri_G3 (i := 51) (by eq_refl) (by eq_refl)) (ri_G0 (by eq_refl)) (q := (RX10, TX10, 18)) (by eq_refl) (by eq_refl)
theorem ri_o150 : ri_on 10 = (ri_y 150).cls := by eq_refl
theorem ri_d150_1 : ri_nd (ri_y 150) 1 = true := ri_nd_of ri_o150 ri_oq10 (by eq_refl)
set_option maxRecDepth 100000 in
theorem ri_k150 : ri_mk 150 = true := ri_mk2 (ri_oqp ri_o150 ri_oq10) (ri_G3 (i := 143) (by eq_refl) (by eq_refl)) (ri_G1 (i := 1) (by eq_refl) (by eq_refl)) (by eq_refl) (by eq_refl) (ri_G3 (i := 142) (by eq_refl) (by eq_refl)) (ri_G0 (by eq_refl)) (q := (RX10, TX10, 18)) (by eq_refl) (by eq_refl)
theorem ri_o151 : ri_on 10 = (ri_y 151).cls := by eq_refl
theorem ri_d151_2 : ri_nd (ri_y 151) 2 = true := ri_nd_of ri_o151 ri_oq10 (by eq_refl)
set_option maxRecDepth 100000 in
theorem ri_k151 : ri_mk 151 = true := ri_mk2 (ri_oqp ri_o151 ri_oq10) (ri_G4 (i := 65) (by eq_refl) (by eq_refl)) (ri_G1 (i := 1) (by eq_refl) (by eq_refl)) (by eq_refl) (by eq_refl) (ri_G4 (i := 64) (by eq_refl) (by eq_refl)) (ri_G0 (by eq_refl)) (q := (RX10, TX10, 18)) (by eq_refl) (by eq_refl)
theorem ri_o152 : ri_on 10 = (ri_y 152).cls := by eq_refl
theorem ri_d152_2 : ri_nd (ri_y 152) 2 = true := ri_nd_of ri_o152 ri_oq10 (by eq_refl)
set_option maxRecDepth 100000 in
theorem ri_k152 : ri_mk 152 = true := ri_mk2 (ri_oqp ri_o152 ri_oq10) (ri_G4 (i := 26) (by eq_refl) (by eq_refl)) (ri_G1 (i := 1) (by eq_refl) (by eq_refl)) (by eq_refl) (by eq_refl) (ri_G4 (i := 25) (by eq_refl) (by eq_refl)) (ri_G0 (by eq_refl)) (q := (RX10, TX10, 18)) (by eq_refl) (by eq_refl)
theorem ri_o153 : ri_on 10 = (ri_y 153).cls := by eq_refl
theorem ri_d153_2 : ri_nd (ri_y 153) 2 = true := ri_nd_of ri_o153 ri_oq10 (by eq_refl)
set_option maxRecDepth 100000 in
theorem ri_k153 : ri_mk 153 = true := ri_mk2 (ri_oqp ri_o153 ri_oq10) (ri_G4 (i := 152) (by eq_refl) (by eq_refl)) (ri_G1 (i := 1) (by eq_refl) (by eq_refl)) (by eq_refl) (by eq_refl) (ri_G4 (i := 151) (by eq_refl) (by eq_refl)) (ri_G0 (by eq_refl)) (q := (RX10, TX10, 18)) (by eq_refl) (by eq_refl)
theorem ri_o154 : ri_on 10 = (ri_y 154).cls := by eq_refl
theorem ri_d154_3 : ri_nd (ri_y 154) 3 = true := ri_nd_of ri_o154 ri_oq10 (by eq_refl)
set_option maxRecDepth 100000 in
theorem ri_k154 : ri_mk 154 = true := ri_mk2 (ri_oqp ri_o154 ri_oq10) (ri_G4 (i := 18) (by eq_refl) (by eq_refl)) (ri_G1 (i := 1) (by eq_refl) (by eq_refl)) (by eq_refl) (by eq_refl) (ri_G4 (i := 17) (by eq_refl) (by eq_refl)) (ri_G0 (by eq_refl)) (q := (RX10, TX10, 18)) (by eq_refl) (by eq_refl)
theorem ri_o155 : ri_on 10 = (ri_y 155).cls := by eq_refl
theorem ri_d155_1 : ri_nd (ri_y 155) 1 = true := ri_nd_of ri_o155 ri_oq10 (by eq_refl)
set_option maxRecDepth 100000 in
theorem ri_k155 : ri_mk 155 = true := ri_mk0 (ri_oqp ri_o155 ri_oq10) (ri_G4 (i := 160) (by eq_refl) (by eq_refl)) (ri_G1 (i := 1) (by eq_refl) (by eq_refl)) (by eq_refl) (by eq_refl) (ri_G4 (i := 159) (by eq_refl) (by eq_refl))
theorem ri_o156 : ri_on 10 = (ri_y 156).cls := by eq_refl
theorem ri_d156_4 : ri_nd (ri_y 156) 4 = true := ri_nd_of ri_o156 ri_oq10 (by eq_refl)
set_option maxRecDepth 100000 in
theorem ri_k156 : ri_mk 156 = true := ri_mk2 (ri_oqp ri_o156 ri_oq10) (ri_G4 (i := 42) (by eq_refl) (by eq_refl)) (ri_G1 (i := 1) (by eq_refl) (by eq_refl)) (by eq_refl) (by eq_refl) (ri_G4 (i := 41) (by eq_refl) (by eq_refl)) (ri_G0 (by eq_refl)) (q := (RX10, TX10, 18)) (by eq_refl) (by eq_refl)
theorem ri_o157 : ri_on 10 = (ri_y 157).cls := by eq_refl
theorem ri_d157_2 : ri_nd (ri_y 157) 2 = true := ri_nd_of ri_o157 ri_oq10 (by eq_refl)
set_option maxRecDepth 100000 in
theorem ri_k157 : ri_mk 157 = true := ri_mk2 (ri_oqp ri_o157 ri_oq10) (ri_G4 (i := 55) (by eq_refl) (by eq_refl)) (ri_G1 (i := 1) (by eq_refl) (by eq_refl)) (by eq_refl) (by eq_refl) (ri_G4 (i := 54) (by eq_refl) (by eq_refl)) (ri_G0 (by eq_refl)) (q := (RX10, TX10, 18)) (by eq_refl) (by eq_refl)
theorem ri_o158 : ri_on 10 = (ri_y 158).cls := by eq_refl
theorem ri_d158_1 : ri_nd (ri_y 158) 1 = true := ri_nd_of ri_o158 ri_oq10 (by eq_refl)
set_option maxRecDepth 100000 in
theorem ri_k158 : ri_mk 158 = true := ri_mk0 (ri_oqp ri_o158 ri_oq10) (ri_G4 (i := 45) (by eq_refl) (by eq_refl)) (ri_G1 (i := 1) (by eq_refl) (by eq_refl)) (by eq_refl) (by eq_refl) (ri_G4 (i := 44) (by eq_refl) (by eq_refl))
theorem ri_o159 : ri_on 10 = (ri_y 159).cls := by eq_refl
theorem ri_d159_3 : ri_nd (ri_y 159) 3 = true := ri_nd_of ri_o159 ri_oq10 (by eq_refl)
set_option maxRecDepth 100000 in
theorem ri_k159 : ri_mk 159 = true := ri_mk2 (ri_oqp ri_o159 ri_oq10) (ri_G4 (i := 69) (by eq_refl) (by eq_refl)) (ri_G1 (i := 1) (by eq_refl) (by eq_refl)) (by eq_refl) (by eq_refl) (ri_G4 (i := 68) (by eq_refl) (by eq_refl)) (ri_G0 (by eq_refl)) (q := (RX10, TX10, 18)) (by eq_refl) (by eq_refl)
theorem ri_o160 : ri_on 10 = (ri_y 160).cls := by eq_refl
theorem ri_d160_1 : ri_nd (ri_y 160) 1 = true := ri_nd_of ri_o160 ri_oq10 (by eq_refl)
set_option maxRecDepth 100000 in
theorem ri_k160 : ri_mk 160 = true := ri_mk2 (ri_oqp ri_o160 ri_oq10) (ri_G4 (i := 122) (by eq_refl) (by eq_refl)) (ri_G1 (i := 1) (by eq_refl) (by eq_refl)) (by eq_refl) (by eq_refl) (ri_G4 (i := 121) (by eq_refl) (by eq_refl)) (ri_G0 (by eq_refl)) (q := (RX10, TX10, 18)) (by eq_refl) (by eq_refl)
theorem ri_o161 : ri_on 10 = (ri_y 161).cls := by eq_refl
theorem ri_d161_1 : ri_nd (ri_y 161) 1 = true := ri_nd_of ri_o161 ri_oq10 (by eq_refl)
set_option maxRecDepth 100000 in
theorem ri_k161 : ri_mk 161 = true := ri_mk2 (ri_oqp ri_o161 ri_oq10) (ri_G4 (i := 118) (by eq_refl) (by eq_refl)) (ri_G1 (i := 1) (by eq_refl) (by eq_refl)) (by eq_refl) (by eq_refl) (ri_G4 (i := 117) (by eq_refl) (by eq_refl)) (ri_G0 (by eq_refl)) (q := (RX10, TX10, 18)) (by eq_refl) (by eq_refl)
theorem ri_o162 : ri_on 10 = (ri_y 162).cls := by eq_refl
theorem ri_d162_1 : ri_nd (ri_y 162) 1 = true := ri_nd_of ri_o162 ri_oq10 (by eq_refl)
set_option maxRecDepth 100000 in
theorem ri_k162 : ri_mk 162 = true := ri_mk2 (ri_oqp ri_o162 ri_oq10) (ri_G4 (i := 135) (by eq_refl) (by eq_refl)) (ri_G1 (i := 1) (by eq_refl) (by eq_refl)) (by eq_refl) (by eq_refl) (ri_G4 (i := 134) (by eq_refl) (by eq_refl)) (ri_G0 (by eq_refl)) (q := (RX10, TX10, 18)) (by eq_refl) (by eq_refl)
theorem ri_o163 : ri_on 10 = (ri_y 163).cls := by eq_refl
theorem ri_d163_1 : ri_nd (ri_y 163) 1 = true := ri_nd_of ri_o163 ri_oq10 (by eq_refl)
set_option maxRecDepth 100000 in
theorem ri_k163 : ri_mk 163 = true := ri_mk2 (ri_oqp ri_o163 ri_oq10) (ri_G4 (i := 168) (by eq_refl) (by eq_refl)) (ri_G1 (i := 1) (by eq_refl) (by eq_refl)) (by eq_refl) (by eq_refl) (ri_G4 (i := 167) (by eq_refl) (by eq_refl)) (ri_G0 (by eq_refl)) (q := (RX10, TX10, 18)) (by eq_refl) (by eq_refl)
theorem ri_o164 : ri_on 10 = (ri_y 164).cls := by eq_refl
theorem ri_d164_3 : ri_nd (ri_y 164) 3 = true := ri_nd_of ri_o164 ri_oq10 (by eq_refl)
set_option maxRecDepth 100000 in
theorem ri_k164 : ri_mk 164 = true := ri_mk2 (ri_oqp ri_o164 ri_oq10) (ri_G4 (i := 172) (by eq_refl) (by eq_refl)) (ri_G1 (i := 1) (by eq_refl) (by eq_refl)) (by eq_refl) (by eq_refl) (ri_G4 (i := 171) (by eq_refl) (by eq_refl)) (ri_G0 (by eq_refl)) (q := (RX10, TX10, 18)) (by eq_refl) (by eq_refl)
theorem ri_o165 : ri_on 10 = (ri_y 165).cls := by eq_refl
theorem ri_d165_2 : ri_nd (ri_y 165) 2 = true := ri_nd_of ri_o165 ri_oq10 (by eq_refl)
set_option maxRecDepth 100000 in
theorem ri_k165 : ri_mk 165 = true := ri_mk2 (ri_oqp ri_o165 ri_oq10) (ri_G4 (i := 180) (by eq_refl) (by eq_refl)) (ri_G1 (i := 1) (by eq_refl) (by eq_refl)) (by eq_refl) (by eq_refl) (ri_G4 (i := 179) (by eq_refl) (by eq_refl)) (ri_G0 (by eq_refl)) (q := (RX10, TX10, 18)) (by eq_refl) (by eq_refl)
theorem ri_o166 : ri_on 10 = (ri_y 166).cls := by eq_refl
theorem ri_d166_1 : ri_nd (ri_y 166) 1 = true := ri_nd_of ri_o166 ri_oq10 (by eq_refl)
set_option maxRecDepth 100000 in
theorem ri_k166 : ri_mk 166 = true := ri_mk2 (ri_oqp ri_o166 ri_oq10) (ri_G4 (i := 216) (by eq_refl) (by eq_refl)) (ri_G1 (i := 1) (by eq_refl) (by eq_refl)) (by eq_refl) (by eq_refl) (ri_G4 (i := 215) (by eq_refl) (by eq_refl)) (ri_G0 (by eq_refl)) (q := (RX10, TX10, 18)) (by eq_refl) (by eq_refl)
theorem ri_o167 : ri_on 10 = (ri_y 167).cls := by eq_refl
theorem ri_d167_2 : ri_nd (ri_y 167) 2 = true := ri_nd_of ri_o167 ri_oq10 (by eq_refl)
set_option maxRecDepth 100000 in
theorem ri_k167 : ri_mk 167 = true := ri_mk2 (ri_oqp ri_o167 ri_oq10) (ri_G5 (i := 77) (by eq_refl) (by eq_refl)) (ri_G1 (i := 1) (by eq_refl) (by eq_refl)) (by eq_refl) (by eq_refl) (ri_G5 (i := 76) (by eq_refl) (by eq_refl)) (ri_G0 (by eq_refl)) (q := (RX10, TX10, 18)) (by eq_refl) (by eq_refl)
theorem ri_o168 : ri_on 11 = (ri_y 168).cls := by eq_refl
theorem ri_d168_0 : ri_nd (ri_y 168) 0 = true := ri_nd_of ri_o168 ri_oq11 (by eq_refl)
set_option maxRecDepth 100000 in
theorem ri_k168 : ri_mk 168 = true := ri_mk1 (ri_oqp ri_o168 ri_oq11) (ri_G5 (i := 137) (by eq_refl) (by eq_refl)) (ri_G1 (i := 12) (by eq_refl) (by eq_refl)) (by eq_refl) (by eq_refl) (ri_G5 (i := 136) (by eq_refl) (by eq_refl)) (by eq_refl) (by eq_refl)
theorem ri_o169 : ri_on 11 = (ri_y 169).cls := by eq_refl
theorem ri_d169_3 : ri_nd (ri_y 169) 3 = true := ri_nd_of ri_o169 ri_oq11 (by eq_refl)
set_option maxRecDepth 100000 in
theorem ri_k169 : ri_mk 169 = true := ri_mk0 (ri_oqp ri_o169 ri_oq11) (ri_G6 (i := 79) (by eq_refl) (by eq_refl)) (ri_G1 (i := 12) (by eq_refl) (by eq_refl)) (by eq_refl) (by eq_refl) (ri_G6 (i := 78) (by eq_refl) (by eq_refl))
theorem ri_o170 : ri_on 11 = (ri_y 170).cls := by eq_refl
theorem ri_d170_1 : ri_nd (ri_y 170) 1 = true := ri_nd_of ri_o170 ri_oq11 (by eq_refl)
set_option maxRecDepth 100000 in
theorem ri_k170 : ri_mk 170 = true := ri_mk0 (ri_oqp ri_o170 ri_oq11) (ri_G7 (i := 103) (by eq_refl) (by eq_refl)) (ri_G1 (i := 12) (by eq_refl) (by eq_refl)) (by eq_refl) (by eq_refl) (ri_G7 (i := 102) (by eq_refl) (by eq_refl))
theorem ri_o171 : ri_on 11 = (ri_y 171).cls := by eq_refl
theorem ri_d171_1 : ri_nd (ri_y 171) 1 = true := ri_nd_of ri_o171 ri_oq11 (by eq_refl)
set_option maxRecDepth 100000 in
theorem ri_k171 : ri_mk 171 = true := ri_mk2 (ri_oqp ri_o171 ri_oq11) (ri_G6 (i := 24) (by eq_refl) (by eq_refl)) (ri_G1 (i := 12) (by eq_refl) (by eq_refl)) (by eq_refl) (by eq_refl) (ri_G6 (i := 23) (by eq_refl) (by eq_refl)) (ri_G0 (by eq_refl)) (q := (RX11, TX11, 39)) (by eq_refl) (by eq_refl)
theorem ri_o172 : ri_on 11 = (ri_y 172).cls := by eq_refl
theorem ri_d172_5 : ri_nd (ri_y 172) 5 = true := ri_nd_of ri_o172 ri_oq11 (by eq_refl)
set_option maxRecDepth 100000 in
theorem ri_k172 : ri_mk 172 = true := ri_mk2 (ri_oqp ri_o172 ri_oq11) (ri_G6 (i := 20) (by eq_refl) (by eq_refl)) (ri_G1 (i := 12) (by eq_refl) (by eq_refl)) (by eq_refl) (by eq_refl) (ri_G6 (i := 18) (by eq_refl) (by eq_refl)) (ri_G6 (i := 19) (by eq_refl) (by eq_refl)) (q := (RX11, TX11, 39)) (by eq_refl) (by eq_refl)
theorem ri_o173 : ri_on 11 = (ri_y 173).cls := by eq_refl
theorem ri_d173_1 : ri_nd (ri_y 173) 1 = true := ri_nd_of ri_o173 ri_oq11 (by eq_refl)
set_option maxRecDepth 100000 in
theorem ri_k173 : ri_mk 173 = true := ri_mk2 (ri_oqp ri_o173 ri_oq11) (ri_G6 (i := 28) (by eq_refl) (by eq_refl)) (ri_G1 (i := 12) (by eq_refl) (by eq_refl)) (by eq_refl) (by eq_refl) (ri_G6 (i := 26) (by eq_refl) (by eq_refl)) (ri_G6 (i := 27) (by eq_refl) (by eq_refl)) (q := (RX11, TX11, 39)) (by eq_refl) (by eq_refl)
theorem ri_o174 : ri_on 11 = (ri_y 174).cls := by eq_refl
theorem ri_d174_2 : ri_nd (ri_y 174) 2 = true := ri_nd_of ri_o174 ri_oq11 (by eq_refl)
set_option maxRecDepth 100000 in
theorem ri_k174 : ri_mk 174 = true := ri_mk2 (ri_oqp ri_o174 ri_oq11) (ri_G6 (i := 60) (by eq_refl) (by eq_refl)) (ri_G1 (i := 12) (by eq_refl) (by eq_refl)) (by eq_refl) (by eq_refl) (ri_G6 (i := 59) (by eq_refl) (by eq_refl)) (ri_G0 (by eq_refl)) (q := (RX11, TX11, 39)) (by eq_refl) (by eq_refl)
theorem ri_o175 : ri_on 11 = (ri_y 175).cls := by eq_refl
theorem ri_d175_0 : ri_nd (ri_y 175) 0 = true := ri_nd_of ri_o175 ri_oq11 (by eq_refl)
set_option maxRecDepth 100000 in
theorem ri_k175 : ri_mk 175 = true := ri_mk2 (ri_oqp ri_o175 ri_oq11) (ri_G6 (i := 44) (by eq_refl) (by eq_refl)) (ri_G1 (i := 12) (by eq_refl) (by eq_refl)) (by eq_refl) (by eq_refl) (ri_G6 (i := 43) (by eq_refl) (by eq_refl)) (ri_G0 (by eq_refl)) (q := (RX11, TX11, 39)) (by eq_refl) (by eq_refl)
theorem ri_o176 : ri_on 11 = (ri_y 176).cls := by eq_refl
theorem ri_d176_1 : ri_nd (ri_y 176) 1 = true := ri_nd_of ri_o176 ri_oq11 (by eq_refl)
set_option maxRecDepth 100000 in
theorem ri_k176 : ri_mk 176 = true := ri_mk2 (ri_oqp ri_o176 ri_oq11) (ri_G6 (i := 76) (by eq_refl) (by eq_refl)) (ri_G1 (i := 12) (by eq_refl) (by eq_refl)) (by eq_refl) (by eq_refl) (ri_G6 (i := 75) (by eq_refl) (by eq_refl)) (ri_G0 (by eq_refl)) (q := (RX11, TX11, 39)) (by eq_refl) (by eq_refl)
theorem ri_o177 : ri_on 11 = (ri_y 177).cls := by eq_refl
theorem ri_d177_1 : ri_nd (ri_y 177) 1 = true := ri_nd_of ri_o177 ri_oq11 (by eq_refl)
set_option maxRecDepth 100000 in
theorem ri_k177 : ri_mk 177 = true := ri_mk2 (ri_oqp ri_o177 ri_oq11) (ri_G6 (i := 53) (by eq_refl) (by eq_refl)) (ri_G1 (i := 12) (by eq_refl) (by eq_refl)) (by eq_refl) (by eq_refl) (ri_G6 (i := 52) (by eq_refl) (by eq_refl)) (ri_G0 (by eq_refl)) (q := (RX11, TX11, 39)) (by eq_refl) (by eq_refl)
theorem ri_o178 : ri_on 11 = (ri_y 178).cls := by eq_refl
theorem ri_d178_1 : ri_nd (ri_y 178) 1 = true := ri_nd_of ri_o178 ri_oq11 (by eq_refl)
set_option maxRecDepth 100000 in
theorem ri_k178 : ri_mk 178 = true := ri_mk2 (ri_oqp ri_o178 ri_oq11) (ri_G6 (i := 49) (by eq_refl) (by eq_refl)) (ri_G1 (i := 12) (by eq_refl) (by eq_refl)) (by eq_refl) (by eq_refl) (ri_G6 (i := 48) (by eq_refl) (by eq_refl)) (ri_G0 (by eq_refl)) (q := (RX11, TX11, 39)) (by eq_refl) (by eq_refl)
theorem ri_o179 : ri_on 11 = (ri_y 179).cls := by eq_refl
theorem ri_d179_0 : ri_nd (ri_y 179) 0 = true := ri_nd_of ri_o179 ri_oq11 (by eq_refl)
set_option maxRecDepth 100000 in
theorem ri_k179 : ri_mk 179 = true := ri_mk2 (ri_oqp ri_o179 ri_oq11) (ri_G6 (i := 68) (by eq_refl) (by eq_refl)) (ri_G1 (i := 12) (by eq_refl) (by eq_refl)) (by eq_refl) (by eq_refl) (ri_G6 (i := 67) (by eq_refl) (by eq_refl)) (ri_G0 (by eq_refl)) (q := (RX11, TX11, 39)) (by eq_refl) (by eq_refl)
theorem ri_o180 : ri_on 11 = (ri_y 180).cls := by eq_refl
theorem ri_d180_1 : ri_nd (ri_y 180) 1 = true := ri_nd_of ri_o180 ri_oq11 (by eq_refl)
set_option maxRecDepth 100000 in
theorem ri_k180 : ri_mk 180 = true := ri_mk2 (ri_oqp ri_o180 ri_oq11) (ri_G6 (i := 129) (by eq_refl) (by eq_refl)) (ri_G1 (i := 12) (by eq_refl) (by eq_refl)) (by eq_refl) (by eq_refl) (ri_G6 (i := 128) (by eq_refl) (by eq_refl)) (ri_G0 (by eq_refl)) (q := (RX11, TX11, 39)) (by eq_refl) (by eq_refl)
theorem ri_o181 : ri_on 11 = (ri_y 181).cls := by eq_refl
theorem ri_d181_2 : ri_nd (ri_y 181) 2 = true := ri_nd_of ri_o181 ri_oq11 (by eq_refl)
set_option maxRecDepth 100000 in
theorem ri_k181 : ri_mk 181 = true := ri_mk2 (ri_oqp ri_o181 ri_oq11) (ri_G6 (i := 72) (by eq_refl) (by eq_refl)) (ri_G1 (i := 12) (by eq_refl) (by eq_refl)) (by eq_refl) (by eq_refl) (ri_G6 (i := 71) (by eq_refl) (by eq_refl)) (ri_G0 (by eq_refl)) (q := (RX11, TX11, 39)) (by eq_refl) (by eq_refl)
theorem ri_o182 : ri_on 11 = (ri_y 182).cls := by eq_refl
theorem ri_d182_0 : ri_nd (ri_y 182) 0 = true := ri_nd_of ri_o182 ri_oq11 (by eq_refl)
set_option maxRecDepth 100000 in
theorem ri_k182 : ri_mk 182 = true := ri_mk2 (ri_oqp ri_o182 ri_oq11) (ri_G6 (i := 116) (by eq_refl) (by eq_refl)) (ri_G1 (i := 12) (by eq_refl) (by eq_refl)) (by eq_refl) (by eq_refl) (ri_G6 (i := 115) (by eq_refl) (by eq_refl)) (ri_G0 (by eq_refl)) (q := (RX11, TX11, 39)) (by eq_refl) (by eq_refl)
theorem ri_o183 : ri_on 11 = (ri_y 183).cls := by eq_refl
theorem ri_d183_2 : ri_nd (ri_y 183) 2 = true := ri_nd_of ri_o183 ri_oq11 (by eq_refl)
set_option maxRecDepth 100000 in
theorem ri_k183 : ri_mk 183 = true := ri_mk2 (ri_oqp ri_o183 ri_oq11) (ri_G6 (i := 112) (by eq_refl) (by eq_refl)) (ri_G1 (i := 12) (by eq_refl) (by eq_refl)) (by eq_refl) (by eq_refl) (ri_G6 (i := 111) (by eq_refl) (by eq_refl)) (ri_G0 (by eq_refl)) (q := (RX11, TX11, 39)) (by eq_refl) (by eq_refl)
theorem ri_o184 : ri_on 11 = (ri_y 184).cls := by eq_refl
theorem ri_d184_1 : ri_nd (ri_y 184) 1 = true := ri_nd_of ri_o184 ri_oq11 (by eq_refl)
set_option maxRecDepth 100000 in
theorem ri_k184 : ri_mk 184 = true := ri_mk2 (ri_oqp ri_o184 ri_oq11) (ri_G6 (i := 108) (by eq_refl) (by eq_refl)) (ri_G1 (i := 12) (by eq_refl) (by eq_refl)) (by eq_refl) (by eq_refl) (ri_G6 (i := 107) (by eq_refl) (by eq_refl)) (ri_G0 (by eq_refl)) (q := (RX11, TX11, 39)) (by eq_refl) (by eq_refl)
theorem ri_o185 : ri_on 11 = (ri_y 185).cls := by eq_refl
theorem ri_d185_1 : ri_nd (ri_y 185) 1 = true := ri_nd_of ri_o185 ri_oq11 (by eq_refl)
set_option maxRecDepth 100000 in
theorem ri_k185 : ri_mk 185 = true := ri_mk2 (ri_oqp ri_o185 ri_oq11) (ri_G6 (i := 142) (by eq_refl) (by eq_refl)) (ri_G1 (i := 12) (by eq_refl) (by eq_refl)) (by eq_refl) (by eq_refl) (ri_G6 (i := 141) (by eq_refl) (by eq_refl)) (ri_G0 (by eq_refl)) (q := (RX11, TX11, 39)) (by eq_refl) (by eq_refl)
theorem ri_o186 : ri_on 11 = (ri_y 186).cls := by eq_refl
theorem ri_d186_1 : ri_nd (ri_y 186) 1 = true := ri_nd_of ri_o186 ri_oq11 (by eq_refl)
set_option maxRecDepth 100000 in
theorem ri_k186 : ri_mk 186 = true := ri_mk0 (ri_oqp ri_o186 ri_oq11) (ri_G6 (i := 157) (by eq_refl) (by eq_refl)) (ri_G1 (i := 12) (by eq_refl) (by eq_refl)) (by eq_refl) (by eq_refl) (ri_G6 (i := 156) (by eq_refl) (by eq_refl))
theorem ri_o187 : ri_on 11 = (ri_y 187).cls := by eq_refl
theorem ri_d187_1 : ri_nd (ri_y 187) 1 = true := ri_nd_of ri_o187 ri_oq11 (by eq_refl)
set_option maxRecDepth 100000 in
theorem ri_k187 : ri_mk 187 = true := ri_mk2 (ri_oqp ri_o187 ri_oq11) (ri_G6 (i := 154) (by eq_refl) (by eq_refl)) (ri_G1 (i := 12) (by eq_refl) (by eq_refl)) (by eq_refl) (by eq_refl) (ri_G6 (i := 153) (by eq_refl) (by eq_refl)) (ri_G0 (by eq_refl)) (q := (RX11, TX11, 39)) (by eq_refl) (by eq_refl)
theorem ri_o188 : ri_on 11 = (ri_y 188).cls := by eq_refl
theorem ri_d188_0 : ri_nd (ri_y 188) 0 = true := ri_nd_of ri_o188 ri_oq11 (by eq_refl)
set_option maxRecDepth 100000 in
theorem ri_k188 : ri_mk 188 = true := ri_mk2 (ri_oqp ri_o188 ri_oq11) (ri_G6 (i := 103) (by eq_refl) (by eq_refl)) (ri_G1 (i := 12) (by eq_refl) (by eq_refl)) (by eq_refl) (by eq_refl) (ri_G6 (i := 102) (by eq_refl) (by eq_refl)) (ri_G0 (by eq_refl)) (q := (RX11, TX11, 39)) (by eq_refl) (by eq_refl)
theorem ri_o189 : ri_on 11 = (ri_y 189).cls := by eq_refl
theorem ri_d189_0 : ri_nd (ri_y 189) 0 = true := ri_nd_of ri_o189 ri_oq11 (by eq_refl)
set_option maxRecDepth 100000 in
theorem ri_k189 : ri_mk 189 = true := ri_mk2 (ri_oqp ri_o189 ri_oq11) (ri_G6 (i := 99) (by eq_refl) (by eq_refl)) (ri_G1 (i := 12) (by eq_refl) (by eq_refl)) (by eq_refl) (by eq_refl) (ri_G6 (i := 98) (by eq_refl) (by eq_refl)) (ri_G0 (by eq_refl)) (q := (RX11, TX11, 39)) (by eq_refl) (by eq_refl)
theorem ri_o190 : ri_on 11 = (ri_y 190).cls := by eq_refl
theorem ri_d190_0 : ri_nd (ri_y 190) 0 = true := ri_nd_of ri_o190 ri_oq11 (by eq_refl)
set_option maxRecDepth 100000 in
theorem ri_k190 : ri_mk 190 = true := ri_mk2 (ri_oqp ri_o190 ri_oq11) (ri_G6 (i := 95) (by eq_refl) (by eq_refl)) (ri_G1 (i := 12) (by eq_refl) (by eq_refl)) (by eq_refl) (by eq_refl) (ri_G6 (i := 94) (by eq_refl) (by eq_refl)) (ri_G0 (by eq_refl)) (q := (RX11, TX11, 39)) (by eq_refl) (by eq_refl)
theorem ri_o191 : ri_on 11 = (ri_y 191).cls := by eq_refl
theorem ri_d191_0 : ri_nd (ri_y 191) 0 = true := ri_nd_of ri_o191 ri_oq11 (by eq_refl)
set_option maxRecDepth 100000 in
theorem ri_k191 : ri_mk 191 = true := ri_mk2 (ri_oqp ri_o191 ri_oq11) (ri_G6 (i := 146) (by eq_refl) (by eq_refl)) (ri_G1 (i := 12) (by eq_refl) (by eq_refl)) (by eq_refl) (by eq_refl) (ri_G6 (i := 145) (by eq_refl) (by eq_refl)) (ri_G0 (by eq_refl)) (q := (RX11, TX11, 39)) (by eq_refl) (by eq_refl)
theorem ri_o192 : ri_on 11 = (ri_y 192).cls := by eq_refl
theorem ri_d192_0 : ri_nd (ri_y 192) 0 = true := ri_nd_of ri_o192 ri_oq11 (by eq_refl)
set_option maxRecDepth 100000 in
theorem ri_k192 : ri_mk 192 = true := ri_mk2 (ri_oqp ri_o192 ri_oq11) (ri_G6 (i := 137) (by eq_refl) (by eq_refl)) (ri_G1 (i := 12) (by eq_refl) (by eq_refl)) (by eq_refl) (by eq_refl) (ri_G6 (i := 136) (by eq_refl) (by eq_refl)) (ri_G0 (by eq_refl)) (q := (RX11, TX11, 39)) (by eq_refl) (by eq_refl)
theorem ri_o193 : ri_on 11 = (ri_y 193).cls := by eq_refl
theorem ri_d193_0 : ri_nd (ri_y 193) 0 = true := ri_nd_of ri_o193 ri_oq11 (by eq_refl)
set_option maxRecDepth 100000 in
theorem ri_k193 : ri_mk 193 = true := ri_mk2 (ri_oqp ri_o193 ri_oq11) (ri_G6 (i := 161) (by eq_refl) (by eq_refl)) (ri_G1 (i := 12) (by eq_refl) (by eq_refl)) (by eq_refl) (by eq_refl) (ri_G6 (i := 160) (by eq_refl) (by eq_refl)) (ri_G0 (by eq_refl)) (q := (RX11, TX11, 39)) (by eq_refl) (by eq_refl)
theorem ri_o194 : ri_on 11 = (ri_y 194).cls := by eq_refl
theorem ri_d194_0 : ri_nd (ri_y 194) 0 = true := ri_nd_of ri_o194 ri_oq11 (by eq_refl)
set_option maxRecDepth 100000 in
theorem ri_k194 : ri_mk 194 = true := ri_mk2 (ri_oqp ri_o194 ri_oq11) (ri_G6 (i := 150) (by eq_refl) (by eq_refl)) (ri_G1 (i := 12) (by eq_refl) (by eq_refl)) (by eq_refl) (by eq_refl) (ri_G6 (i := 149) (by eq_refl) (by eq_refl)) (ri_G0 (by eq_refl)) (q := (RX11, TX11, 39)) (by eq_refl) (by eq_refl)
theorem ri_o195 : ri_on 11 = (ri_y 195).cls := by eq_refl
theorem ri_d195_0 : ri_nd (ri_y 195) 0 = true := ri_nd_of ri_o195 ri_oq11 (by eq_refl)
set_option maxRecDepth 100000 in
theorem ri_k195 : ri_mk 195 = true := ri_mk2 (ri_oqp ri_o195 ri_oq11) (ri_G6 (i := 133) (by eq_refl) (by eq_refl)) (ri_G1 (i := 12) (by eq_refl) (by eq_refl)) (by eq_refl) (by eq_refl) (ri_G6 (i := 132) (by eq_refl) (by eq_refl)) (ri_G0 (by eq_refl)) (q := (RX11, TX11, 39)) (by eq_refl) (by eq_refl)
theorem ri_o196 : ri_on 11 = (ri_y 196).cls := by eq_refl
theorem ri_d196_1 : ri_nd (ri_y 196) 1 = true := ri_nd_of ri_o196 ri_oq11 (by eq_refl)
set_option maxRecDepth 100000 in
theorem ri_k196 : ri_mk 196 = true := ri_mk2 (ri_oqp ri_o196 ri_oq11) (ri_G6 (i := 91) (by eq_refl) (by eq_refl)) (ri_G1 (i := 12) (by eq_refl) (by eq_refl)) (by eq_refl) (by eq_refl) (ri_G6 (i := 90) (by eq_refl) (by eq_refl)) (ri_G0 (by eq_refl)) (q := (RX11, TX11, 39)) (by eq_refl) (by eq_refl)
theorem ri_o197 : ri_on 11 = (ri_y 197).cls := by eq_refl
theorem ri_d197_0 : ri_nd (ri_y 197) 0 = true := ri_nd_of ri_o197 ri_oq11 (by eq_refl)
set_option maxRecDepth 100000 in
theorem ri_k197 : ri_mk 197 = true := ri_mk2 (ri_oqp ri_o197 ri_oq11) (ri_G6 (i := 83) (by eq_refl) (by eq_refl)) (ri_G1 (i := 12) (by eq_refl) (by eq_refl)) (by eq_refl) (by eq_refl) (ri_G6 (i := 82) (by eq_refl) (by eq_refl)) (ri_G0 (by eq_refl)) (q := (RX11, TX11, 39)) (by eq_refl) (by eq_refl)
theorem ri_o198 : ri_on 11 = (ri_y 198).cls := by eq_refl
theorem ri_d198_0 : ri_nd (ri_y 198) 0 = true := ri_nd_of ri_o198 ri_oq11 (by eq_refl)
set_option maxRecDepth 100000 in
theorem ri_k198 : ri_mk 198 = true := ri_mk2 (ri_oqp ri_o198 ri_oq11) (ri_G6 (i := 87) (by eq_refl) (by eq_refl)) (ri_G1 (i := 12) (by eq_refl) (by eq_refl)) (by eq_refl) (by eq_refl) (ri_G6 (i := 86) (by eq_refl) (by eq_refl)) (ri_G0 (by eq_refl)) (q := (RX11, TX11, 39)) (by eq_refl) (by eq_refl)
theorem ri_o199 : ri_on 11 = (ri_y 199).cls := by eq_refl
theorem ri_d199_1 : ri_nd (ri_y 199) 1 = true := ri_nd_of ri_o199 ri_oq11 (by eq_refl)
set_option maxRecDepth 100000 in
theorem ri_k199 : ri_mk 199 = true := ri_mk2 (ri_oqp ri_o199 ri_oq11) (ri_G6 (i := 64) (by eq_refl) (by eq_refl)) (ri_G1 (i := 12) (by eq_refl) (by eq_refl)) (by eq_refl) (by eq_refl) (ri_G6 (i := 63) (by eq_refl) (by eq_refl)) (ri_G0 (by eq_refl)) (q := (RX11, TX11, 39)) (by eq_refl) (by eq_refl)
theorem ri_o200 : ri_on 11 = (ri_y 200).cls := by eq_refl
theorem ri_d200_0 : ri_nd (ri_y 200) 0 = true := ri_nd_of ri_o200 ri_oq11 (by eq_refl)
set_option maxRecDepth 100000 in
theorem ri_k200 : ri_mk 200 = true := ri_mk2 (ri_oqp ri_o200 ri_oq11) (ri_G6 (i := 40) (by eq_refl) (by eq_refl)) (ri_G1 (i := 12) (by eq_refl) (by eq_refl)) (by eq_refl) (by eq_refl) (ri_G6 (i := 39) (by eq_refl) (by eq_refl)) (ri_G0 (by eq_refl)) (q := (RX11, TX11, 39)) (by eq_refl) (by eq_refl)
theorem ri_o201 : ri_on 11 = (ri_y 201).cls := by eq_refl
theorem ri_d201_0 : ri_nd (ri_y 201) 0 = true := ri_nd_of ri_o201 ri_oq11 (by eq_refl)
set_option maxRecDepth 100000 in
theorem ri_k201 : ri_mk 201 = true := ri_mk2 (ri_oqp ri_o201 ri_oq11) (ri_G6 (i := 36) (by eq_refl) (by eq_refl)) (ri_G1 (i := 12) (by eq_refl) (by eq_refl)) (by eq_refl) (by eq_refl) (ri_G6 (i := 35) (by eq_refl) (by eq_refl)) (ri_G0 (by eq_refl)) (q := (RX11, TX11, 39)) (by eq_refl) (by eq_refl)
theorem ri_o202 : ri_on 11 = (ri_y 202).cls := by eq_refl
theorem ri_d202_0 : ri_nd (ri_y 202) 0 = true := ri_nd_of ri_o202 ri_oq11 (by eq_refl)
set_option maxRecDepth 100000 in
theorem ri_k202 : ri_mk 202 = true := ri_mk2 (ri_oqp ri_o202 ri_oq11) (ri_G6 (i := 32) (by eq_refl) (by eq_refl)) (ri_G1 (i := 12) (by eq_refl) (by eq_refl)) (by eq_refl) (by eq_refl) (ri_G6 (i := 30) (by eq_refl) (by eq_refl)) (ri_G6 (i := 31) (by eq_refl) (by eq_refl)) (q := (RX11, TX11, 39)) (by eq_refl) (by eq_refl)
theorem ri_o203 : ri_on 11 = (ri_y 203).cls := by eq_refl
theorem ri_d203_0 : ri_nd (ri_y 203) 0 = true := ri_nd_of ri_o203 ri_oq11 (by eq_refl)
set_option maxRecDepth 100000 in
theorem ri_k203 : ri_mk 203 = true := ri_mk2 (ri_oqp ri_o203 ri_oq11) (ri_G6 (i := 167) (by eq_refl) (by eq_refl)) (ri_G1 (i := 12) (by eq_refl) (by eq_refl)) (by eq_refl) (by eq_refl) (ri_G6 (i := 165) (by eq_refl) (by eq_refl)) (ri_G6 (i := 166) (by eq_refl) (by eq_refl)) (q := (RX11, TX11, 39)) (by eq_refl) (by eq_refl)
theorem ri_o204 : ri_on 11 = (ri_y 204).cls := by eq_refl
theorem ri_d204_1 : ri_nd (ri_y 204) 1 = true := ri_nd_of ri_o204 ri_oq11 (by eq_refl)
set_option maxRecDepth 100000 in
theorem ri_k204 : ri_mk 204 = true := ri_mk2 (ri_oqp ri_o204 ri_oq11) (ri_G6 (i := 196) (by eq_refl) (by eq_refl)) (ri_G1 (i := 12) (by eq_refl) (by eq_refl)) (by eq_refl) (by eq_refl) (ri_G6 (i := 195) (by eq_refl) (by eq_refl)) (ri_G0 (by eq_refl)) (q := (RX11, TX11, 39)) (by eq_refl) (by eq_refl)
theorem ri_o205 : ri_on 11 = (ri_y 205).cls := by eq_refl
theorem ri_d205_1 : ri_nd (ri_y 205) 1 = true := ri_nd_of ri_o205 ri_oq11 (by eq_refl)
set_option maxRecDepth 100000 in
theorem ri_k205 : ri_mk 205 = true := ri_mk2 (ri_oqp ri_o205 ri_oq11) (ri_G6 (i := 215) (by eq_refl) (by eq_refl)) (ri_G1 (i := 12) (by eq_refl) (by eq_refl)) (by eq_refl) (by eq_refl) (ri_G6 (i := 214) (by eq_refl) (by eq_refl)) (ri_G0 (by eq_refl)) (q := (RX11, TX11, 39)) (by eq_refl) (by eq_refl)
theorem ri_o206 : ri_on 11 = (ri_y 206).cls := by eq_refl
theorem ri_d206_0 : ri_nd (ri_y 206) 0 = true := ri_nd_of ri_o206 ri_oq11 (by eq_refl)
set_option maxRecDepth 100000 in
theorem ri_k206 : ri_mk 206 = true := ri_mk2 (ri_oqp ri_o206 ri_oq11) (ri_G6 (i := 219) (by eq_refl) (by eq_refl)) (ri_G1 (i := 12) (by eq_refl) (by eq_refl)) (by eq_refl) (by eq_refl) (ri_G6 (i := 218) (by eq_refl) (by eq_refl)) (ri_G0 (by eq_refl)) (q := (RX11, TX11, 39)) (by eq_refl) (by eq_refl)
theorem ri_o207 : ri_on 11 = (ri_y 207).cls := by eq_refl
theorem ri_d207_3 : ri_nd (ri_y 207) 3 = true := ri_nd_of ri_o207 ri_oq11 (by eq_refl)
set_option maxRecDepth 100000 in
theorem ri_k207 : ri_mk 207 = true := ri_mk0 (ri_oqp ri_o207 ri_oq11) (ri_G6 (i := 222) (by eq_refl) (by eq_refl)) (ri_G1 (i := 12) (by eq_refl) (by eq_refl)) (by eq_refl) (by eq_refl) (ri_G6 (i := 221) (by eq_refl) (by eq_refl))
theorem ri_o208 : ri_on 11 = (ri_y 208).cls := by eq_refl
theorem ri_d208_3 : ri_nd (ri_y 208) 3 = true := ri_nd_of ri_o208 ri_oq11 (by eq_refl)
set_option maxRecDepth 100000 in
theorem ri_k208 : ri_mk 208 = true := ri_mk2 (ri_oqp ri_o208 ri_oq11) (ri_G6 (i := 211) (by eq_refl) (by eq_refl)) (ri_G1 (i := 12) (by eq_refl) (by eq_refl)) (by eq_refl) (by eq_refl) (ri_G6 (i := 210) (by eq_refl) (by eq_refl)) (ri_G0 (by eq_refl)) (q := (RX11, TX11, 39)) (by eq_refl) (by eq_refl)
theorem ri_o209 : ri_on 11 = (ri_y 209).cls := by eq_refl
theorem ri_d209_0 : ri_nd (ri_y 209) 0 = true := ri_nd_of ri_o209 ri_oq11 (by eq_refl)
set_option maxRecDepth 100000 in
theorem ri_k209 : ri_mk 209 = true := ri_mk2 (ri_oqp ri_o209 ri_oq11) (ri_G6 (i := 183) (by eq_refl) (by eq_refl)) (ri_G1 (i := 12) (by eq_refl) (by eq_refl)) (by eq_refl) (by eq_refl) (ri_G6 (i := 182) (by eq_refl) (by eq_refl)) (ri_G0 (by eq_refl)) (q := (RX11, TX11, 39)) (by eq_refl) (by eq_refl)
theorem ri_o210 : ri_on 11 = (ri_y 210).cls := by eq_refl
theorem ri_d210_0 : ri_nd (ri_y 210) 0 = true := ri_nd_of ri_o210 ri_oq11 (by eq_refl)
set_option maxRecDepth 100000 in
theorem ri_k210 : ri_mk 210 = true := ri_mk2 (ri_oqp ri_o210 ri_oq11) (ri_G6 (i := 171) (by eq_refl) (by eq_refl)) (ri_G1 (i := 12) (by eq_refl) (by eq_refl)) (by eq_refl) (by eq_refl) (ri_G6 (i := 170) (by eq_refl) (by eq_refl)) (ri_G0 (by eq_refl)) (q := (RX11, TX11, 39)) (by eq_refl) (by eq_refl)
theorem ri_o211 : ri_on 11 = (ri_y 211).cls := by eq_refl
theorem ri_d211_1 : ri_nd (ri_y 211) 1 = true := ri_nd_of ri_o211 ri_oq11 (by eq_refl)
set_option maxRecDepth 100000 in
theorem ri_k211 : ri_mk 211 = true := ri_mk2 (ri_oqp ri_o211 ri_oq11) (ri_G6 (i := 179) (by eq_refl) (by eq_refl)) (ri_G1 (i := 12) (by eq_refl) (by eq_refl)) (by eq_refl) (by eq_refl) (ri_G6 (i := 178) (by eq_refl) (by eq_refl)) (ri_G0 (by eq_refl)) (q := (RX11, TX11, 39)) (by eq_refl) (by eq_refl)
theorem ri_o212 : ri_on 11 = (ri_y 212).cls := by eq_refl
theorem ri_d212_2 : ri_nd (ri_y 212) 2 = true := ri_nd_of ri_o212 ri_oq11 (by eq_refl)
set_option maxRecDepth 100000 in
theorem ri_k212 : ri_mk 212 = true := ri_mk2 (ri_oqp ri_o212 ri_oq11) (ri_G6 (i := 188) (by eq_refl) (by eq_refl)) (ri_G1 (i := 12) (by eq_refl) (by eq_refl)) (by eq_refl) (by eq_refl) (ri_G6 (i := 187) (by eq_refl) (by eq_refl)) (ri_G0 (by eq_refl)) (q := (RX11, TX11, 39)) (by eq_refl) (by eq_refl)
theorem ri_o213 : ri_on 11 = (ri_y 213).cls := by eq_refl
theorem ri_d213_1 : ri_nd (ri_y 213) 1 = true := ri_nd_of ri_o213 ri_oq11 (by eq_refl)
set_option maxRecDepth 100000 in
theorem ri_k213 : ri_mk 213 = true := ri_mk2 (ri_oqp ri_o213 ri_oq11) (ri_G7 (i := 29) (by eq_refl) (by eq_refl)) (ri_G1 (i := 12) (by eq_refl) (by eq_refl)) (by eq_refl) (by eq_refl) (ri_G7 (i := 28) (by eq_refl) (by eq_refl)) (ri_G0 (by eq_refl)) (q := (RX11, TX11, 39)) (by eq_refl) (by eq_refl)
theorem ri_o214 : ri_on 11 = (ri_y 214).cls := by eq_refl
theorem ri_d214_1 : ri_nd (ri_y 214) 1 = true := ri_nd_of ri_o214 ri_oq11 (by eq_refl)
set_option maxRecDepth 100000 in
theorem ri_k214 : ri_mk 214 = true := ri_mk0 (ri_oqp ri_o214 ri_oq11) (ri_G6 (i := 230) (by eq_refl) (by eq_refl)) (ri_G1 (i := 12) (by eq_refl) (by eq_refl)) (by eq_refl) (by eq_refl) (ri_G6 (i := 229) (by eq_refl) (by eq_refl))
theorem ri_o215 : ri_on 11 = (ri_y 215).cls := by eq_refl
theorem ri_d215_1 : ri_nd (ri_y 215) 1 = true := ri_nd_of ri_o215 ri_oq11 (by eq_refl)
set_option maxRecDepth 100000 in
theorem ri_k215 : ri_mk 215 = true := ri_mk2 (ri_oqp ri_o215 ri_oq11) (ri_G7 (i := 6) (by eq_refl) (by eq_refl)) (ri_G1 (i := 12) (by eq_refl) (by eq_refl)) (by eq_refl) (by eq_refl) (ri_G7 (i := 5) (by eq_refl) (by eq_refl)) (ri_G0 (by eq_refl)) (q := (RX11, TX11, 39)) (by eq_refl) (by eq_refl)
theorem ri_o216 : ri_on 11 = (ri_y 216).cls := by eq_refl
theorem ri_d216_2 : ri_nd (ri_y 216) 2 = true := ri_nd_of ri_o216 ri_oq11 (by eq_refl)
set_option maxRecDepth 100000 in
theorem ri_k216 : ri_mk 216 = true := ri_mk2 (ri_oqp ri_o216 ri_oq11) (ri_G6 (i := 238) (by eq_refl) (by eq_refl)) (ri_G1 (i := 12) (by eq_refl) (by eq_refl)) (by eq_refl) (by eq_refl) (ri_G6 (i := 237) (by eq_refl) (by eq_refl)) (ri_G0 (by eq_refl)) (q := (RX11, TX11, 39)) (by eq_refl) (by eq_refl)
theorem ri_o217 : ri_on 11 = (ri_y 217).cls := by eq_refl
theorem ri_d217_2 : ri_nd (ri_y 217) 2 = true := ri_nd_of ri_o217 ri_oq11 (by eq_refl)
set_option maxRecDepth 100000 in
theorem ri_k217 : ri_mk 217 = true := ri_mk2 (ri_oqp ri_o217 ri_oq11) (ri_G7 (i := 45) (by eq_refl) (by eq_refl)) (ri_G1 (i := 12) (by eq_refl) (by eq_refl)) (by eq_refl) (by eq_refl) (ri_G7 (i := 44) (by eq_refl) (by eq_refl)) (ri_G0 (by eq_refl)) (q := (RX11, TX11, 39)) (by eq_refl) (by eq_refl)
theorem ri_o218 : ri_on 11 = (ri_y 218).cls := by eq_refl
theorem ri_d218_3 : ri_nd (ri_y 218) 3 = true := ri_nd_of ri_o218 ri_oq11 (by eq_refl)
set_option maxRecDepth 100000 in
theorem ri_k218 : ri_mk 218 = true := ri_mk2 (ri_oqp ri_o218 ri_oq11) (ri_G6 (i := 175) (by eq_refl) (by eq_refl)) (ri_G1 (i := 12) (by eq_refl) (by eq_refl)) (by eq_refl) (by eq_refl) (ri_G6 (i := 173) (by eq_refl) (by eq_refl)) (ri_G6 (i := 174) (by eq_refl) (by eq_refl)) (q := (RX11, TX11, 39)) (by eq_refl) (by eq_refl)
theorem ri_o219 : ri_on 11 = (ri_y 219).cls := by eq_refl
theorem ri_d219_2 : ri_nd (ri_y 219) 2 = true := ri_nd_of ri_o219 ri_oq11 (by eq_refl)
set_option maxRecDepth 100000 in
theorem ri_k219 : ri_mk 219 = true := ri_mk0 (ri_oqp ri_o219 ri_oq11) (ri_G6 (i := 207) (by eq_refl) (by eq_refl)) (ri_G1 (i := 12) (by eq_refl) (by eq_refl)) (by eq_refl) (by eq_refl) (ri_G6 (i := 206) (by eq_refl) (by eq_refl))
theorem ri_o220 : ri_on 11 = (ri_y 220).cls := by eq_refl
theorem ri_d220_3 : ri_nd (ri_y 220) 3 = true := ri_nd_of ri_o220 ri_oq11 (by eq_refl)
set_option maxRecDepth 100000 in
theorem ri_k220 : ri_mk 220 = true := ri_mk2 (ri_oqp ri_o220 ri_oq11) (ri_G6 (i := 204) (by eq_refl) (by eq_refl)) (ri_G1 (i := 12) (by eq_refl) (by eq_refl)) (by eq_refl) (by eq_refl) (ri_G6 (i := 203) (by eq_refl) (by eq_refl)) (ri_G0 (by eq_refl)) (q := (RX11, TX11, 39)) (by eq_refl) (by eq_refl)
theorem ri_o221 : ri_on 11 = (ri_y 221).cls := by eq_refl
theorem ri_d221_4 : ri_nd (ri_y 221) 4 = true := ri_nd_of ri_o221 ri_oq11 (by eq_refl)
set_option maxRecDepth 100000 in
theorem ri_k221 : ri_mk 221 = true := ri_mk2 (ri_oqp ri_o221 ri_oq11) (ri_G6 (i := 200) (by eq_refl) (by eq_refl)) (ri_G1 (i := 12) (by eq_refl) (by eq_refl)) (by eq_refl) (by eq_refl) (ri_G6 (i := 199) (by eq_refl) (by eq_refl)) (ri_G0 (by eq_refl)) (q := (RX11, TX11, 39)) (by eq_refl) (by eq_refl)
theorem ri_o222 : ri_on 11 = (ri_y 222).cls := by eq_refl
theorem ri_d222_4 : ri_nd (ri_y 222) 4 = true := ri_nd_of ri_o222 ri_oq11 (by eq_refl)
set_option maxRecDepth 100000 in
theorem ri_k222 : ri_mk 222 = true := ri_mk2 (ri_oqp ri_o222 ri_oq11) (ri_G6 (i := 192) (by eq_refl) (by eq_refl)) (ri_G1 (i := 12) (by eq_refl) (by eq_refl)) (by eq_refl) (by eq_refl) (ri_G6 (i := 190) (by eq_refl) (by eq_refl)) (ri_G6 (i := 191) (by eq_refl) (by eq_refl)) (q := (RX11, TX11, 39)) (by eq_refl) (by eq_refl)
theorem ri_o223 : ri_on 11 = (ri_y 223).cls := by eq_refl
theorem ri_d223_1 : ri_nd (ri_y 223) 1 = true := ri_nd_of ri_o223 ri_oq11 (by eq_refl)
set_option maxRecDepth 100000 in
theorem ri_k223 : ri_mk 223 = true := ri_mk2 (ri_oqp ri_o223 ri_oq11) (ri_G6 (i := 234) (by eq_refl) (by eq_refl)) (ri_G1 (i := 12) (by eq_refl) (by eq_refl)) (by eq_refl) (by eq_refl) (ri_G6 (i := 233) (by eq_refl) (by eq_refl)) (ri_G0 (by eq_refl)) (q := (RX11, TX11, 39)) (by eq_refl) (by eq_refl)
theorem ri_o224 : ri_on 11 = (ri_y 224).cls := by eq_refl
theorem ri_d224_4 : ri_nd (ri_y 224) 4 = true := ri_nd_of ri_o224 ri_oq11 (by eq_refl)
set_option maxRecDepth 100000 in
theorem ri_k224 : ri_mk 224 = true := ri_mk2 (ri_oqp ri_o224 ri_oq11) (ri_G6 (i := 227) (by eq_refl) (by eq_refl)) (ri_G1 (i := 12) (by eq_refl) (by eq_refl)) (by eq_refl) (by eq_refl) (ri_G6 (i := 225) (by eq_refl) (by eq_refl)) (ri_G6 (i := 226) (by eq_refl) (by eq_refl)) (q := (RX11, TX11, 39)) (by eq_refl) (by eq_refl)
theorem ri_o225 : ri_on 11 = (ri_y 225).cls := by eq_refl
theorem ri_d225_2 : ri_nd (ri_y 225) 2 = true := ri_nd_of ri_o225 ri_oq11 (by eq_refl)
set_option maxRecDepth 100000 in
theorem ri_k225 : ri_mk 225 = true := ri_mk2 (ri_oqp ri_o225 ri_oq11) (ri_G7 (i := 2) (by eq_refl) (by eq_refl)) (ri_G1 (i := 12) (by eq_refl) (by eq_refl)) (by eq_refl) (by eq_refl) (ri_G7 (i := 0) (by eq_refl) (by eq_refl)) (ri_G7 (i := 1) (by eq_refl) (by eq_refl)) (q := (RX11, TX11, 39)) (by eq_refl) (by eq_refl)
theorem ri_o226 : ri_on 11 = (ri_y 226).cls := by eq_refl
theorem ri_d226_2 : ri_nd (ri_y 226) 2 = true := ri_nd_of ri_o226 ri_oq11 (by eq_refl)
set_option maxRecDepth 100000 in
theorem ri_k226 : ri_mk 226 = true := ri_mk2 (ri_oqp ri_o226 ri_oq11) (ri_G7 (i := 11) (by eq_refl) (by eq_refl)) (ri_G1 (i := 12) (by eq_refl) (by eq_refl)) (by eq_refl) (by eq_refl) (ri_G7 (i := 9) (by eq_refl) (by eq_refl)) (ri_G7 (i := 10) (by eq_refl) (by eq_refl)) (q := (RX11, TX11, 39)) (by eq_refl) (by eq_refl)
theorem ri_o227 : ri_on 11 = (ri_y 227).cls := by eq_refl
theorem ri_d227_1 : ri_nd (ri_y 227) 1 = true := ri_nd_of ri_o227 ri_oq11 (by eq_refl)
set_option maxRecDepth 100000 in
theorem ri_k227 : ri_mk 227 = true := ri_mk2 (ri_oqp ri_o227 ri_oq11) (ri_G7 (i := 15) (by eq_refl) (by eq_refl)) (ri_G1 (i := 12) (by eq_refl) (by eq_refl)) (by eq_refl) (by eq_refl) (ri_G7 (i := 13) (by eq_refl) (by eq_refl)) (ri_G7 (i := 14) (by eq_refl) (by eq_refl)) (q := (RX11, TX11, 39)) (by eq_refl) (by eq_refl)
theorem ri_o228 : ri_on 11 = (ri_y 228).cls := by eq_refl
theorem ri_d228_1 : ri_nd (ri_y 228) 1 = true := ri_nd_of ri_o228 ri_oq11 (by eq_refl)
set_option maxRecDepth 100000 in
theorem ri_k228 : ri_mk 228 = true := ri_mk2 (ri_oqp ri_o228 ri_oq11) (ri_G7 (i := 57) (by eq_refl) (by eq_refl)) (ri_G1 (i := 12) (by eq_refl) (by eq_refl)) (by eq_refl) (by eq_refl) (ri_G7 (i := 56) (by eq_refl) (by eq_refl)) (ri_G0 (by eq_refl)) (q := (RX11, TX11, 39)) (by eq_refl) (by eq_refl)
theorem ri_o229 : ri_on 11 = (ri_y 229).cls := by eq_refl
theorem ri_d229_1 : ri_nd (ri_y 229) 1 = true := ri_nd_of ri_o229 ri_oq11 (by eq_refl)
set_option maxRecDepth 100000 in
theorem ri_k229 : ri_mk 229 = true := ri_mk2 (ri_oqp ri_o229 ri_oq11) (ri_G7 (i := 33) (by eq_refl) (by eq_refl)) (ri_G1 (i := 12) (by eq_refl) (by eq_refl)) (by eq_refl) (by eq_refl) (ri_G7 (i := 32) (by eq_refl) (by eq_refl)) (ri_G0 (by eq_refl)) (q := (RX11, TX11, 39)) (by eq_refl) (by eq_refl)
theorem ri_o230 : ri_on 11 = (ri_y 230).cls := by eq_refl
theorem ri_d230_4 : ri_nd (ri_y 230) 4 = true := ri_nd_of ri_o230 ri_oq11 (by eq_refl)
set_option maxRecDepth 100000 in
theorem ri_k230 : ri_mk 230 = true := ri_mk2 (ri_oqp ri_o230 ri_oq11) (ri_G7 (i := 41) (by eq_refl) (by eq_refl)) (ri_G1 (i := 12) (by eq_refl) (by eq_refl)) (by eq_refl) (by eq_refl) (ri_G7 (i := 40) (by eq_refl) (by eq_refl)) (ri_G0 (by eq_refl)) (q := (RX11, TX11, 39)) (by eq_refl) (by eq_refl)
theorem ri_o231 : ri_on 11 = (ri_y 231).cls := by eq_refl
theorem ri_d231_2 : ri_nd (ri_y 231) 2 = true := ri_nd_of ri_o231 ri_oq11 (by eq_refl)
set_option maxRecDepth 100000 in
theorem ri_k231 : ri_mk 231 = true := ri_mk2 (ri_oqp ri_o231 ri_oq11) (ri_G7 (i := 37) (by eq_refl) (by eq_refl)) (ri_G1 (i := 12) (by eq_refl) (by eq_refl)) (by eq_refl) (by eq_refl) (ri_G7 (i := 36) (by eq_refl) (by eq_refl)) (ri_G0 (by eq_refl)) (q := (RX11, TX11, 39)) (by eq_refl) (by eq_refl)
theorem ri_o232 : ri_on 11 = (ri_y 232).cls := by eq_refl
theorem ri_d232_2 : ri_nd (ri_y 232) 2 = true := ri_nd_of ri_o232 ri_oq11 (by eq_refl)
set_option maxRecDepth 100000 in
theorem ri_k232 : ri_mk 232 = true := ri_mk2 (ri_oqp ri_o232 ri_oq11) (ri_G7 (i := 53) (by eq_refl) (by eq_refl)) (ri_G1 (i := 12) (by eq_refl) (by eq_refl)) (by eq_refl) (by eq_refl) (ri_G7 (i := 52) (by eq_refl) (by eq_refl)) (ri_G0 (by eq_refl)) (q := (RX11, TX11, 39)) (by eq_refl) (by eq_refl)
theorem ri_o233 : ri_on 11 = (ri_y 233).cls := by eq_refl
theorem ri_d233_1 : ri_nd (ri_y 233) 1 = true := ri_nd_of ri_o233 ri_oq11 (by eq_refl)
set_option maxRecDepth 100000 in
theorem ri_k233 : ri_mk 233 = true := ri_mk2 (ri_oqp ri_o233 ri_oq11) (ri_G7 (i := 25) (by eq_refl) (by eq_refl)) (ri_G1 (i := 12) (by eq_refl) (by eq_refl)) (by eq_refl) (by eq_refl) (ri_G7 (i := 24) (by eq_refl) (by eq_refl)) (ri_G0 (by eq_refl)) (q := (RX11, TX11, 39)) (by eq_refl) (by eq_refl)
theorem ri_o234 : ri_on 11 = (ri_y 234).cls := by eq_refl
theorem ri_d234_1 : ri_nd (ri_y 234) 1 = true := ri_nd_of ri_o234 ri_oq11 (by eq_refl)
set_option maxRecDepth 100000 in
theorem ri_k234 : ri_mk 234 = true := ri_mk0 (ri_oqp ri_o234 ri_oq11) (ri_G7 (i := 64) (by eq_refl) (by eq_refl)) (ri_G1 (i := 12) (by eq_refl) (by eq_refl)) (by eq_refl) (by eq_refl) (ri_G7 (i := 63) (by eq_refl) (by eq_refl))
theorem ri_o235 : ri_on 11 = (ri_y 235).cls := by eq_refl
theorem ri_d235_3 : ri_nd (ri_y 235) 3 = true := ri_nd_of ri_o235 ri_oq11 (by eq_refl)
set_option maxRecDepth 100000 in
theorem ri_k235 : ri_mk 235 = true := ri_mk2 (ri_oqp ri_o235 ri_oq11) (ri_G7 (i := 68) (by eq_refl) (by eq_refl)) (ri_G1 (i := 12) (by eq_refl) (by eq_refl)) (by eq_refl) (by eq_refl) (ri_G7 (i := 67) (by eq_refl) (by eq_refl)) (ri_G0 (by eq_refl)) (q := (RX11, TX11, 39)) (by eq_refl) (by eq_refl)
theorem ri_o236 : ri_on 11 = (ri_y 236).cls := by eq_refl
theorem ri_d236_3 : ri_nd (ri_y 236) 3 = true := ri_nd_of ri_o236 ri_oq11 (by eq_refl)
set_option maxRecDepth 100000 in
theorem ri_k236 : ri_mk 236 = true := ri_mk2 (ri_oqp ri_o236 ri_oq11) (ri_G7 (i := 21) (by eq_refl) (by eq_refl)) (ri_G1 (i := 12) (by eq_refl) (by eq_refl)) (by eq_refl) (by eq_refl) (ri_G7 (i := 19) (by eq_refl) (by eq_refl)) (ri_G7 (i := 20) (by eq_refl) (by eq_refl)) (q := (RX11, TX11, 39)) (by eq_refl) (by eq_refl)
theorem ri_o237 : ri_on 11 = (ri_y 237).cls := by eq_refl
theorem ri_d237_2 : ri_nd (ri_y 237) 2 = true := ri_nd_of ri_o237 ri_oq11 (by eq_refl)
set_option maxRecDepth 100000 in
theorem ri_k237 : ri_mk 237 = true := ri_mk2 (ri_oqp ri_o237 ri_oq11) (ri_G7 (i := 49) (by eq_refl) (by eq_refl)) (ri_G1 (i := 12) (by eq_refl) (by eq_refl)) (by eq_refl) (by eq_refl) (ri_G7 (i := 47) (by eq_refl) (by eq_refl)) (ri_G7 (i := 48) (by eq_refl) (by eq_refl)) (q := (RX11, TX11, 39)) (by eq_refl) (by eq_refl)
theorem ri_o238 : ri_on 11 = (ri_y 238).cls := by eq_refl
theorem ri_d238_2 : ri_nd (ri_y 238) 2 = true := ri_nd_of ri_o238 ri_oq11 (by eq_refl)
set_option maxRecDepth 100000 in
theorem ri_k238 : ri_mk 238 = true := ri_mk2 (ri_oqp ri_o238 ri_oq11) (ri_G7 (i := 61) (by eq_refl) (by eq_refl)) (ri_G1 (i := 12) (by eq_refl) (by eq_refl)) (by eq_refl) (by eq_refl) (ri_G7 (i := 59) (by eq_refl) (by eq_refl)) (ri_G7 (i := 60) (by eq_refl) (by eq_refl)) (q := (RX11, TX11, 39)) (by eq_refl) (by eq_refl)
theorem ri_o239 : ri_on 11 = (ri_y 239).cls := by eq_refl
theorem ri_d239_3 : ri_nd (ri_y 239) 3 = true := ri_nd_of ri_o239 ri_oq11 (by eq_refl)
set_option maxRecDepth 100000 in
theorem ri_k239 : ri_mk 239 = true := ri_mk2 (ri_oqp ri_o239 ri_oq11) (ri_G7 (i := 72) (by eq_refl) (by eq_refl)) (ri_G1 (i := 12) (by eq_refl) (by eq_refl)) (by eq_refl) (by eq_refl) (ri_G7 (i := 70) (by eq_refl) (by eq_refl)) (ri_G7 (i := 71) (by eq_refl) (by eq_refl)) (q := (RX11, TX11, 39)) (by eq_refl) (by eq_refl)
theorem ri_o240 : ri_on 11 = (ri_y 240).cls := by eq_refl
theorem ri_d240_2 : ri_nd (ri_y 240) 2 = true := ri_nd_of ri_o240 ri_oq11 (by eq_refl)
set_option maxRecDepth 100000 in
theorem ri_k240 : ri_mk 240 = true := ri_mk2 (ri_oqp ri_o240 ri_oq11) (ri_G7 (i := 80) (by eq_refl) (by eq_refl)) (ri_G1 (i := 12) (by eq_refl) (by eq_refl)) (by eq_refl) (by eq_refl) (ri_G7 (i := 79) (by eq_refl) (by eq_refl)) (ri_G0 (by eq_refl)) (q := (RX11, TX11, 39)) (by eq_refl) (by eq_refl)
theorem ri_o241 : ri_on 11 = (ri_y 241).cls := by eq_refl
theorem ri_d241_4 : ri_nd (ri_y 241) 4 = true := ri_nd_of ri_o241 ri_oq11 (by eq_refl)
set_option maxRecDepth 100000 in
theorem ri_k241 : ri_mk 241 = true := ri_mk2 (ri_oqp ri_o241 ri_oq11) (ri_G7 (i := 76) (by eq_refl) (by eq_refl)) (ri_G1 (i := 12) (by eq_refl) (by eq_refl)) (by eq_refl) (by eq_refl) (ri_G7 (i := 74) (by eq_refl) (by eq_refl)) (ri_G7 (i := 75) (by eq_refl) (by eq_refl)) (q := (RX11, TX11, 39)) (by eq_refl) (by eq_refl)
theorem ri_o242 : ri_on 11 = (ri_y 242).cls := by eq_refl
theorem ri_d242_2 : ri_nd (ri_y 242) 2 = true := ri_nd_of ri_o242 ri_oq11 (by eq_refl)
set_option maxRecDepth 100000 in
theorem ri_k242 : ri_mk 242 = true := ri_mk2 (ri_oqp ri_o242 ri_oq11) (ri_G7 (i := 84) (by eq_refl) (by eq_refl)) (ri_G1 (i := 12) (by eq_refl) (by eq_refl)) (by eq_refl) (by eq_refl) (ri_G7 (i := 82) (by eq_refl) (by eq_refl)) (ri_G7 (i := 83) (by eq_refl) (by eq_refl)) (q := (RX11, TX11, 39)) (by eq_refl) (by eq_refl)
theorem ri_o243 : ri_on 11 = (ri_y 243).cls := by eq_refl
theorem ri_d243_1 : ri_nd (ri_y 243) 1 = true := ri_nd_of ri_o243 ri_oq11 (by eq_refl)
set_option maxRecDepth 100000 in
theorem ri_k243 : ri_mk 243 = true := ri_mk2 (ri_oqp ri_o243 ri_oq11) (ri_G7 (i := 92) (by eq_refl) (by eq_refl)) (ri_G1 (i := 12) (by eq_refl) (by eq_refl)) (by eq_refl) (by eq_refl) (ri_G7 (i := 91) (by eq_refl) (by eq_refl)) (ri_G0 (by eq_refl)) (q := (RX11, TX11, 39)) (by eq_refl) (by eq_refl)
theorem ri_o244 : ri_on 11 = (ri_y 244).cls := by eq_refl
theorem ri_d244_2 : ri_nd (ri_y 244) 2 = true := ri_nd_of ri_o244 ri_oq11 (by eq_refl)
set_option maxRecDepth 100000 in
theorem ri_k244 : ri_mk 244 = true := ri_mk2 (ri_oqp ri_o244 ri_oq11) (ri_G7 (i := 88) (by eq_refl) (by eq_refl)) (ri_G1 (i := 12) (by eq_refl) (by eq_refl)) (by eq_refl) (by eq_refl) (ri_G7 (i := 86) (by eq_refl) (by eq_refl)) (ri_G7 (i := 87) (by eq_refl) (by eq_refl)) (q := (RX11, TX11, 39)) (by eq_refl) (by eq_refl)
theorem ri_o245 : ri_on 11 = (ri_y 245).cls := by eq_refl
theorem ri_d245_1 : ri_nd (ri_y 245) 1 = true := ri_nd_of ri_o245 ri_oq11 (by eq_refl)
set_option maxRecDepth 100000 in
theorem ri_k245 : ri_mk 245 = true := ri_mk2 (ri_oqp ri_o245 ri_oq11) (ri_G7 (i := 96) (by eq_refl) (by eq_refl)) (ri_G1 (i := 12) (by eq_refl) (by eq_refl)) (by eq_refl) (by eq_refl) (ri_G7 (i := 94) (by eq_refl) (by eq_refl)) (ri_G7 (i := 95) (by eq_refl) (by eq_refl)) (q := (RX11, TX11, 39)) (by eq_refl) (by eq_refl)
theorem ri_o246 : ri_on 11 = (ri_y 246).cls := by eq_refl
theorem ri_d246_1 : ri_nd (ri_y 246) 1 = true := ri_nd_of ri_o246 ri_oq11 (by eq_refl)
set_option maxRecDepth 100000 in
theorem ri_k246 : ri_mk 246 = true := ri_mk2 (ri_oqp ri_o246 ri_oq11) (ri_G7 (i := 100) (by eq_refl) (by eq_refl)) (ri_G1 (i := 12) (by eq_refl) (by eq_refl)) (by eq_refl) (by eq_refl) (ri_G7 (i := 98) (by eq_refl) (by eq_refl)) (ri_G7 (i := 99) (by eq_refl) (by eq_refl)) (q := (RX11, TX11, 39)) (by eq_refl) (by eq_refl)
theorem ri_o247 : ri_on 11 = (ri_y 247).cls := by eq_refl
theorem ri_d247_2 : ri_nd (ri_y 247) 2 = true := ri_nd_of ri_o247 ri_oq11 (by eq_refl)
set_option maxRecDepth 100000 in
theorem ri_k247 : ri_mk 247 = true := ri_mk2 (ri_oqp ri_o247 ri_oq11) (ri_G7 (i := 111) (by eq_refl) (by eq_refl)) (ri_G1 (i := 12) (by eq_refl) (by eq_refl)) (by eq_refl) (by eq_refl) (ri_G7 (i := 110) (by eq_refl) (by eq_refl)) (ri_G0 (by eq_refl)) (q := (RX11, TX11, 39)) (by eq_refl) (by eq_refl)
theorem ri_o248 : ri_on 11 = (ri_y 248).cls := by eq_refl
theorem ri_d248_1 : ri_nd (ri_y 248) 1 = true := ri_nd_of ri_o248 ri_oq11 (by eq_refl)
set_option maxRecDepth 100000 in
theorem ri_k248 : ri_mk 248 = true := ri_mk2 (ri_oqp ri_o248 ri_oq11) (ri_G7 (i := 107) (by eq_refl) (by eq_refl)) (ri_G1 (i := 12) (by eq_refl) (by eq_refl)) (by eq_refl) (by eq_refl) (ri_G7 (i := 105) (by eq_refl) (by eq_refl)) (ri_G7 (i := 106) (by eq_refl) (by eq_refl)) (q := (RX11, TX11, 39)) (by eq_refl) (by eq_refl)
theorem ri_o249 : ri_on 11 = (ri_y 249).cls := by eq_refl
theorem ri_d249_0 : ri_nd (ri_y 249) 0 = true := ri_nd_of ri_o249 ri_oq11 (by eq_refl)
set_option maxRecDepth 100000 in
theorem ri_k249 : ri_mk 249 = true := ri_mk2 (ri_oqp ri_o249 ri_oq11) (ri_G7 (i := 119) (by eq_refl) (by eq_refl)) (ri_G1 (i := 12) (by eq_refl) (by eq_refl)) (by eq_refl) (by eq_refl) (ri_G7 (i := 118) (by eq_refl) (by eq_refl)) (ri_G0 (by eq_refl)) (q := (RX11, TX11, 39)) (by eq_refl) (by eq_refl)
theorem ri_o250 : ri_on 11 = (ri_y 250).cls := by eq_refl
theorem ri_d250_2 : ri_nd (ri_y 250) 2 = true := ri_nd_of ri_o250 ri_oq11 (by eq_refl)
set_option maxRecDepth 100000 in
theorem ri_k250 : ri_mk 250 = true := ri_mk2 (ri_oqp ri_o250 ri_oq11) (ri_G7 (i := 123) (by eq_refl) (by eq_refl)) (ri_G1 (i := 12) (by eq_refl) (by eq_refl)) (by eq_refl) (by eq_refl) (ri_G7 (i := 122) (by eq_refl) (by eq_refl)) (ri_G0 (by eq_refl)) (q := (RX11, TX11, 39)) (by eq_refl) (by eq_refl)
theorem ri_o251 : ri_on 11 = (ri_y 251).cls := by eq_refl
theorem ri_d251_2 : ri_nd (ri_y 251) 2 = true := ri_nd_of ri_o251 ri_oq11 (by eq_refl)
set_option maxRecDepth 100000 in
theorem ri_k251 : ri_mk 251 = true := ri_mk2 (ri_oqp ri_o251 ri_oq11) (ri_G7 (i := 115) (by eq_refl) (by eq_refl)) (ri_G1 (i := 12) (by eq_refl) (by eq_refl)) (by eq_refl) (by eq_refl) (ri_G7 (i := 113) (by eq_refl) (by eq_refl)) (ri_G7 (i := 114) (by eq_refl) (by eq_refl)) (q := (RX11, TX11, 39)) (by eq_refl) (by eq_refl)
theorem ri_o252 : ri_on 11 = (ri_y 252).cls := by eq_refl
theorem ri_d252_3 : ri_nd (ri_y 252) 3 = true := ri_nd_of ri_o252 ri_oq11 (by eq_refl)
set_option maxRecDepth 100000 in
theorem ri_k252 : ri_mk 252 = true := ri_mk2 (ri_oqp ri_o252 ri_oq11) (ri_G7 (i := 127) (by eq_refl) (by eq_refl)) (ri_G1 (i := 12) (by eq_refl) (by eq_refl)) (by eq_refl) (by eq_refl) (ri_G7 (i := 125) (by eq_refl) (by eq_refl)) (ri_G7 (i := 126) (by eq_refl) (by eq_refl)) (q := (RX11, TX11, 39)) (by eq_refl) (by eq_refl)
theorem ri_o253 : ri_on 11 = (ri_y 253).cls := by eq_refl
theorem ri_d253_3 : ri_nd (ri_y 253) 3 = true := ri_nd_of ri_o253 ri_oq11 (by eq_refl)
set_option maxRecDepth 100000 in
theorem ri_k253 : ri_mk 253 = true := ri_mk2 (ri_oqp ri_o253 ri_oq11) (ri_G7 (i := 131) (by eq_refl) (by eq_refl)) (ri_G1 (i := 12) (by eq_refl) (by eq_refl)) (by eq_refl) (by eq_refl) (ri_G7 (i := 129) (by eq_refl) (by eq_refl)) (ri_G7 (i := 130) (by eq_refl) (by eq_refl)) (q := (RX11, TX11, 39)) (by eq_refl) (by eq_refl)
theorem ri_o254 : ri_on 11 = (ri_y 254).cls := by eq_refl
theorem ri_d254_3 : ri_nd (ri_y 254) 3 = true := ri_nd_of ri_o254 ri_oq11 (by eq_refl)
set_option maxRecDepth 100000 in
theorem ri_k254 : ri_mk 254 = true := ri_mk2 (ri_oqp ri_o254 ri_oq11) (ri_G7 (i := 135) (by eq_refl) (by eq_refl)) (ri_G1 (i := 12) (by eq_refl) (by eq_refl)) (by eq_refl) (by eq_refl) (ri_G7 (i := 133) (by eq_refl) (by eq_refl)) (ri_G7 (i := 134) (by eq_refl) (by eq_refl)) (q := (RX11, TX11, 39)) (by eq_refl) (by eq_refl)
theorem ri_o255 : ri_on 11 = (ri_y 255).cls := by eq_refl
theorem ri_d255_2 : ri_nd (ri_y 255) 2 = true := ri_nd_of ri_o255 ri_oq11 (by eq_refl)
set_option maxRecDepth 100000 in
theorem ri_k255 : ri_mk 255 = true := ri_mk2 (ri_oqp ri_o255 ri_oq11) (ri_G7 (i := 139) (by eq_refl) (by eq_refl)) (ri_G1 (i := 12) (by eq_refl) (by eq_refl)) (by eq_refl) (by eq_refl) (ri_G7 (i := 137) (by eq_refl) (by eq_refl)) (ri_G7 (i := 138) (by eq_refl) (by eq_refl)) (q := (RX11, TX11, 39)) (by eq_refl) (by eq_refl)
theorem ri_o256 : ri_on 11 = (ri_y 256).cls := by eq_refl
theorem ri_d256_3 : ri_nd (ri_y 256) 3 = true := ri_nd_of ri_o256 ri_oq11 (by eq_refl)
set_option maxRecDepth 100000 in
theorem ri_k256 : ri_mk 256 = true := ri_mk2 (ri_oqp ri_o256 ri_oq11) (ri_G7 (i := 143) (by eq_refl) (by eq_refl)) (ri_G1 (i := 12) (by eq_refl) (by eq_refl)) (by eq_refl) (by eq_refl) (ri_G7 (i := 141) (by eq_refl) (by eq_refl)) (ri_G7 (i := 142) (by eq_refl) (by eq_refl)) (q := (RX11, TX11, 39)) (by eq_refl) (by eq_refl)
theorem ri_o257 : ri_on 11 = (ri_y 257).cls := by eq_refl
theorem ri_d257_0 : ri_nd (ri_y 257) 0 = true := ri_nd_of ri_o257 ri_oq11 (by eq_refl)
set_option maxRecDepth 100000 in
theorem ri_k257 : ri_mk 257 = true := ri_mk2 (ri_oqp ri_o257 ri_oq11) (ri_G7 (i := 151) (by eq_refl) (by eq_refl)) (ri_G1 (i := 12) (by eq_refl) (by eq_refl)) (by eq_refl) (by eq_refl) (ri_G7 (i := 150) (by eq_refl) (by eq_refl)) (ri_G0 (by eq_refl)) (q := (RX11, TX11, 39)) (by eq_refl) (by eq_refl)
theorem ri_o258 : ri_on 11 = (ri_y 258).cls := by eq_refl
theorem ri_d258_3 : ri_nd (ri_y 258) 3 = true := ri_nd_of ri_o258 ri_oq11 (by eq_refl)
set_option maxRecDepth 100000 in
theorem ri_k258 : ri_mk 258 = true := ri_mk2 (ri_oqp ri_o258 ri_oq11) (ri_G7 (i := 159) (by eq_refl) (by eq_refl)) (ri_G1 (i := 12) (by eq_refl) (by eq_refl)) (by eq_refl) (by eq_refl) (ri_G7 (i := 158) (by eq_refl) (by eq_refl)) (ri_G0 (by eq_refl)) (q := (RX11, TX11, 39)) (by eq_refl) (by eq_refl)
theorem ri_o259 : ri_on 11 = (ri_y 259).cls := by eq_refl
theorem ri_d259_1 : ri_nd (ri_y 259) 1 = true := ri_nd_of ri_o259 ri_oq11 (by eq_refl)
set_option maxRecDepth 100000 in
theorem ri_k259 : ri_mk 259 = true := ri_mk2 (ri_oqp ri_o259 ri_oq11) (ri_G7 (i := 155) (by eq_refl) (by eq_refl)) (ri_G1 (i := 12) (by eq_refl) (by eq_refl)) (by eq_refl) (by eq_refl) (ri_G7 (i := 154) (by eq_refl) (by eq_refl)) (ri_G0 (by eq_refl)) (q := (RX11, TX11, 39)) (by eq_refl) (by eq_refl)
theorem ri_o260 : ri_on 11 = (ri_y 260).cls := by eq_refl
theorem ri_d260_2 : ri_nd (ri_y 260) 2 = true := ri_nd_of ri_o260 ri_oq11 (by eq_refl)
set_option maxRecDepth 100000 in
theorem ri_k260 : ri_mk 260 = true := ri_mk0 (ri_oqp ri_o260 ri_oq11) (ri_G7 (i := 162) (by eq_refl) (by eq_refl)) (ri_G1 (i := 12) (by eq_refl) (by eq_refl)) (by eq_refl) (by eq_refl) (ri_G7 (i := 161) (by eq_refl) (by eq_refl))
theorem ri_o261 : ri_on 11 = (ri_y 261).cls := by eq_refl
theorem ri_d261_1 : ri_nd (ri_y 261) 1 = true := ri_nd_of ri_o261 ri_oq11 (by eq_refl)
set_option maxRecDepth 100000 in
theorem ri_k261 : ri_mk 261 = true := ri_mk2 (ri_oqp ri_o261 ri_oq11) (ri_G7 (i := 174) (by eq_refl) (by eq_refl)) (ri_G1 (i := 12) (by eq_refl) (by eq_refl)) (by eq_refl) (by eq_refl) (ri_G7 (i := 173) (by eq_refl) (by eq_refl)) (ri_G0 (by eq_refl)) (q := (RX11, TX11, 39)) (by eq_refl) (by eq_refl)
theorem ri_o262 : ri_on 11 = (ri_y 262).cls := by eq_refl
theorem ri_d262_3 : ri_nd (ri_y 262) 3 = true := ri_nd_of ri_o262 ri_oq11 (by eq_refl)
set_option maxRecDepth 100000 in
theorem ri_k262 : ri_mk 262 = true := ri_mk2 (ri_oqp ri_o262 ri_oq11) (ri_G7 (i := 147) (by eq_refl) (by eq_refl)) (ri_G1 (i := 12) (by eq_refl) (by eq_refl)) (by eq_refl) (by eq_refl) (ri_G7 (i := 145) (by eq_refl) (by eq_refl)) (ri_G7 (i := 146) (by eq_refl) (by eq_refl)) (q := (RX11, TX11, 39)) (by eq_refl) (by eq_refl)
theorem ri_o263 : ri_on 11 = (ri_y 263).cls := by eq_refl
theorem ri_d263_3 : ri_nd (ri_y 263) 3 = true := ri_nd_of ri_o263 ri_oq11 (by eq_refl)
set_option maxRecDepth 100000 in
theorem ri_k263 : ri_mk 263 = true := ri_mk2 (ri_oqp ri_o263 ri_oq11) (ri_G7 (i := 166) (by eq_refl) (by eq_refl)) (ri_G1 (i := 12) (by eq_refl) (by eq_refl)) (by eq_refl) (by eq_refl) (ri_G7 (i := 164) (by eq_refl) (by eq_refl)) (ri_G7 (i := 165) (by eq_refl) (by eq_refl)) (q := (RX11, TX11, 39)) (by eq_refl) (by eq_refl)
theorem ri_o264 : ri_on 11 = (ri_y 264).cls := by eq_refl
theorem ri_d264_4 : ri_nd (ri_y 264) 4 = true := ri_nd_of ri_o264 ri_oq11 (by eq_refl)
set_option maxRecDepth 100000 in
theorem ri_k264 : ri_mk 264 = true := ri_mk2 (ri_oqp ri_o264 ri_oq11) (ri_G7 (i := 170) (by eq_refl) (by eq_refl)) (ri_G1 (i := 12) (by eq_refl) (by eq_refl)) (by eq_refl) (by eq_refl) (ri_G7 (i := 168) (by eq_refl) (by eq_refl)) (ri_G7 (i := 169) (by eq_refl) (by eq_refl)) (q := (RX11, TX11, 39)) (by eq_refl) (by eq_refl)
theorem ri_o265 : ri_on 11 = (ri_y 265).cls := by eq_refl
theorem ri_d265_1 : ri_nd (ri_y 265) 1 = true := ri_nd_of ri_o265 ri_oq11 (by eq_refl)
set_option maxRecDepth 100000 in
theorem ri_k265 : ri_mk 265 = true := ri_mk2 (ri_oqp ri_o265 ri_oq11) (ri_G7 (i := 182) (by eq_refl) (by eq_refl)) (ri_G1 (i := 12) (by eq_refl) (by eq_refl)) (by eq_refl) (by eq_refl) (ri_G7 (i := 181) (by eq_refl) (by eq_refl)) (ri_G0 (by eq_refl)) (q := (RX11, TX11, 39)) (by eq_refl) (by eq_refl)
theorem ri_o266 : ri_on 11 = (ri_y 266).cls := by eq_refl
theorem ri_d266_1 : ri_nd (ri_y 266) 1 = true := ri_nd_of ri_o266 ri_oq11 (by eq_refl)
set_option maxRecDepth 100000 in
theorem ri_k266 : ri_mk 266 = true := ri_mk2 (ri_oqp ri_o266 ri_oq11) (ri_G7 (i := 186) (by eq_refl) (by eq_refl)) (ri_G1 (i := 12) (by eq_refl) (by eq_refl)) (by eq_refl) (by eq_refl) (ri_G7 (i := 185) (by eq_refl) (by eq_refl)) (ri_G0 (by eq_refl)) (q := (RX11, TX11, 39)) (by eq_refl) (by eq_refl)
theorem ri_o267 : ri_on 11 = (ri_y 267).cls := by eq_refl
theorem ri_d267_1 : ri_nd (ri_y 267) 1 = true := ri_nd_of ri_o267 ri_oq11 (by eq_refl)
set_option maxRecDepth 100000 in
theorem ri_k267 : ri_mk 267 = true := ri_mk2 (ri_oqp ri_o267 ri_oq11) (ri_G7 (i := 190) (by eq_refl) (by eq_refl)) (ri_G1 (i := 12) (by eq_refl) (by eq_refl)) (by eq_refl) (by eq_refl) (ri_G7 (i := 189) (by eq_refl) (by eq_refl)) (ri_G0 (by eq_refl)) (q := (RX11, TX11, 39)) (by eq_refl) (by eq_refl)
theorem ri_o268 : ri_on 11 = (ri_y 268).cls := by eq_refl
theorem ri_d268_1 : ri_nd (ri_y 268) 1 = true := ri_nd_of ri_o268 ri_oq11 (by eq_refl)
set_option maxRecDepth 100000 in
theorem ri_k268 : ri_mk 268 = true := ri_mk2 (ri_oqp ri_o268 ri_oq11) (ri_G7 (i := 194) (by eq_refl) (by eq_refl)) (ri_G1 (i := 12) (by eq_refl) (by eq_refl)) (by eq_refl) (by eq_refl) (ri_G7 (i := 193) (by eq_refl) (by eq_refl)) (ri_G0 (by eq_refl)) (q := (RX11, TX11, 39)) (by eq_refl) (by eq_refl)
theorem ri_o269 : ri_on 11 = (ri_y 269).cls := by eq_refl
theorem ri_d269_2 : ri_nd (ri_y 269) 2 = true := ri_nd_of ri_o269 ri_oq11 (by eq_refl)
set_option maxRecDepth 100000 in
theorem ri_k269 : ri_mk 269 = true := ri_mk2 (ri_oqp ri_o269 ri_oq11) (ri_G7 (i := 178) (by eq_refl) (by eq_refl)) (ri_G1 (i := 12) (by eq_refl) (by eq_refl)) (by eq_refl) (by eq_refl) (ri_G7 (i := 176) (by eq_refl) (by eq_refl)) (ri_G7 (i := 177) (by eq_refl) (by eq_refl)) (q := (RX11, TX11, 39)) (by eq_refl) (by eq_refl)
theorem ri_o270 : ri_on 11 = (ri_y 270).cls := by eq_refl
theorem ri_d270_5 : ri_nd (ri_y 270) 5 = true := ri_nd_of ri_o270 ri_oq11 (by eq_refl)
set_option maxRecDepth 100000 in
theorem ri_k270 : ri_mk 270 = true := ri_mk2 (ri_oqp ri_o270 ri_oq11) (ri_G7 (i := 198) (by eq_refl) (by eq_refl)) (ri_G1 (i := 12) (by eq_refl) (by eq_refl)) (by eq_refl) (by eq_refl) (ri_G7 (i := 196) (by eq_refl) (by eq_refl)) (ri_G7 (i := 197) (by eq_refl) (by eq_refl)) (q := (RX11, TX11, 39)) (by eq_refl) (by eq_refl)
theorem ri_o271 : ri_on 11 = (ri_y 271).cls := by eq_refl
theorem ri_d271_1 : ri_nd (ri_y 271) 1 = true := ri_nd_of ri_o271 ri_oq11 (by eq_refl)
set_option maxRecDepth 100000 in
theorem ri_k271 : ri_mk 271 = true := ri_mk2 (ri_oqp ri_o271 ri_oq11) (ri_G7 (i := 202) (by eq_refl) (by eq_refl)) (ri_G1 (i := 12) (by eq_refl) (by eq_refl)) (by eq_refl) (by eq_refl) (ri_G7 (i := 200) (by eq_refl) (by eq_refl)) (ri_G7 (i := 201) (by eq_refl) (by eq_refl)) (q := (RX11, TX11, 39)) (by eq_refl) (by eq_refl)
theorem ri_o272 : ri_on 11 = (ri_y 272).cls := by eq_refl
theorem ri_d272_1 : ri_nd (ri_y 272) 1 = true := ri_nd_of ri_o272 ri_oq11 (by eq_refl)
set_option maxRecDepth 100000 in
theorem ri_k272 : ri_mk 272 = true := ri_mk2 (ri_oqp ri_o272 ri_oq11) (ri_G7 (i := 206) (by eq_refl) (by eq_refl)) (ri_G1 (i := 12) (by eq_refl) (by eq_refl)) (by eq_refl) (by eq_refl) (ri_G7 (i := 204) (by eq_refl) (by eq_refl)) (ri_G7 (i := 205) (by eq_refl) (by eq_refl)) (q := (RX11, TX11, 39)) (by eq_refl) (by eq_refl)
theorem ri_o273 : ri_on 11 = (ri_y 273).cls := by eq_refl
theorem ri_d273_3 : ri_nd (ri_y 273) 3 = true := ri_nd_of ri_o273 ri_oq11 (by eq_refl)
set_option maxRecDepth 100000 in
theorem ri_k273 : ri_mk 273 = true := ri_mk2 (ri_oqp ri_o273 ri_oq11) (ri_G7 (i := 210) (by eq_refl) (by eq_refl)) (ri_G1 (i := 12) (by eq_refl) (by eq_refl)) (by eq_refl) (by eq_refl) (ri_G7 (i := 208) (by eq_refl) (by eq_refl)) (ri_G7 (i := 209) (by eq_refl) (by eq_refl)) (q := (RX11, TX11, 39)) (by eq_refl) (by eq_refl)
theorem ri_o274 : ri_on 11 = (ri_y 274).cls := by eq_refl
theorem ri_d274_1 : ri_nd (ri_y 274) 1 = true := ri_nd_of ri_o274 ri_oq11 (by eq_refl)
set_option maxRecDepth 100000 in
theorem ri_k274 : ri_mk 274 = true := ri_mk2 (ri_oqp ri_o274 ri_oq11) (ri_G7 (i := 219) (by eq_refl) (by eq_refl)) (ri_G1 (i := 12) (by eq_refl) (by eq_refl)) (by eq_refl) (by eq_refl) (ri_G7 (i := 217) (by eq_refl) (by eq_refl)) (ri_G7 (i := 218) (by eq_refl) (by eq_refl)) (q := (RX11, TX11, 39)) (by eq_refl) (by eq_refl)
theorem ri_o275 : ri_on 11 = (ri_y 275).cls := by eq_refl
theorem ri_d275_4 : ri_nd (ri_y 275) 4 = true := ri_nd_of ri_o275 ri_oq11 (by eq_refl)
set_option maxRecDepth 100000 in
theorem ri_k275 : ri_mk 275 = true := ri_mk2 (ri_oqp ri_o275 ri_oq11) (ri_G7 (i := 223) (by eq_refl) (by eq_refl)) (ri_G1 (i := 12) (by eq_refl) (by eq_refl)) (by eq_refl) (by eq_refl) (ri_G7 (i := 221) (by eq_refl) (by eq_refl)) (ri_G7 (i := 222) (by eq_refl) (by eq_refl)) (q := (RX11, TX11, 39)) (by eq_refl) (by eq_refl)
theorem ri_o276 : ri_on 11 = (ri_y 276).cls := by eq_refl
theorem ri_d276_1 : ri_nd (ri_y 276) 1 = true := ri_nd_of ri_o276 ri_oq11 (by eq_refl)
set_option maxRecDepth 100000 in
theorem ri_k276 : ri_mk 276 = true := ri_mk2 (ri_oqp ri_o276 ri_oq11) (ri_G7 (i := 227) (by eq_refl) (by eq_refl)) (ri_G1 (i := 12) (by eq_refl) (by eq_refl)) (by eq_refl) (by eq_refl) (ri_G7 (i := 225) (by eq_refl) (by eq_refl)) (ri_G7 (i := 226) (by eq_refl) (by eq_refl)) (q := (RX11, TX11, 39)) (by eq_refl) (by eq_refl)
theorem ri_o277 : ri_on 11 = (ri_y 277).cls := by eq_refl
theorem ri_d277_1 : ri_nd (ri_y 277) 1 = true := ri_nd_of ri_o277 ri_oq11 (by eq_refl)
set_option maxRecDepth 100000 in
theorem ri_k277 : ri_mk 277 = true := ri_mk2 (ri_oqp ri_o277 ri_oq11) (ri_G7 (i := 231) (by eq_refl) (by eq_refl)) (ri_G1 (i := 12) (by eq_refl) (by eq_refl)) (by eq_refl) (by eq_refl) (ri_G7 (i := 229) (by eq_refl) (by eq_refl)) (ri_G7 (i := 230) (by eq_refl) (by eq_refl)) (q := (RX11, TX11, 39)) (by eq_refl) (by eq_refl)
theorem ri_o278 : ri_on 11 = (ri_y 278).cls := by eq_refl
theorem ri_d278_1 : ri_nd (ri_y 278) 1 = true := ri_nd_of ri_o278 ri_oq11 (by eq_refl)
set_option maxRecDepth 100000 in
theorem ri_k278 : ri_mk 278 = true := ri_mk2 (ri_oqp ri_o278 ri_oq11) (ri_G7 (i := 236) (by eq_refl) (by eq_refl)) (ri_G1 (i := 12) (by eq_refl) (by eq_refl)) (by eq_refl) (by eq_refl) (ri_G7 (i := 234) (by eq_refl) (by eq_refl)) (ri_G7 (i := 235) (by eq_refl) (by eq_refl)) (q := (RX11, TX11, 39)) (by eq_refl) (by eq_refl)
theorem ri_o279 : ri_on 13 = (ri_y 279).cls := by eq_refl
theorem ri_d279_1 : ri_nd (ri_y 279) 1 = true := ri_nd_of ri_o279 ri_oq13 (by eq_refl)
set_option maxRecDepth 100000 in
theorem ri_k279 : ri_mk 279 = true := ri_mk0 (ri_oqp ri_o279 ri_oq13) (ri_G4 (i := 195) (by eq_refl) (by eq_refl)) (ri_G1 (i := 19) (by eq_refl) (by eq_refl)) (by eq_refl) (by eq_refl) (ri_G4 (i := 194) (by eq_refl) (by eq_refl))
theorem ri_o280 : ri_on 13 = (ri_y 280).cls := by eq_refl
theorem ri_d280_1 : ri_nd (ri_y 280) 1 = true := ri_nd_of ri_o280 ri_oq13 (by eq_refl)
set_option maxRecDepth 100000 in
theorem ri_k280 : ri_mk 280 = true := ri_mk0 (ri_oqp ri_o280 ri_oq13) (ri_G4 (i := 141) (by eq_refl) (by eq_refl)) (ri_G1 (i := 19) (by eq_refl) (by eq_refl)) (by eq_refl) (by eq_refl) (ri_G4 (i := 140) (by eq_refl) (by eq_refl))
end
