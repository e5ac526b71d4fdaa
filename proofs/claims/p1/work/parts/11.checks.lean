/-! Each row of the tables is as the machine has it. -/
def ri_lt0 : Nat → Option (Nat × Nat × Nat × Nat) := fun p => bif Nat.blt p 25 then (bif Nat.blt p 18 then (bif Nat.blt p 15 then (bif Nat.beq p 9 then some (0, 0, 0, 520) else none) else (bif Nat.beq p 15 then some (0, 0, 1, 522) else none)) else (bif Nat.blt p 21 then (bif Nat.beq p 18 then some (0, 0, 2, 524) else none) else (bif Nat.beq p 21 then some (1, 142, 2, 10577) else none))) else (bif Nat.blt p 33 then (bif Nat.blt p 29 then (bif Nat.beq p 25 then some (1, 7, 1, 10656) else none) else (bif Nat.beq p 29 then some (1, 145, 2, 10673) else none)) else (bif Nat.blt p 43 then (bif Nat.beq p 33 then some (1, 144, 3, 10721) else none) else (bif Nat.blt p 47 then (bif Nat.beq p 43 then some (1, 143, 2, 10337) else none) else (bif Nat.beq p 47 then some (1, 11, 1, 16640) else none))))
def ri_lt1 : Nat → Option (Nat × Nat × Nat × Nat) := fun p => bif Nat.blt p 38 then (bif Nat.blt p 24 then (bif Nat.blt p 14 then (bif Nat.beq p 9 then some (1, 1, 0, 9921) else none) else (bif Nat.blt p 20 then (bif Nat.beq p 14 then some (0, 1, 0, 480) else none) else (bif Nat.beq p 20 then some (1, 16, 2, 9984) else none))) else (bif Nat.blt p 30 then (bif Nat.beq p 24 then some (1, 99, 1, 10769) else none) else (bif Nat.blt p 34 then (bif Nat.beq p 30 then some (1, 96, 0, 10049) else none) else (bif Nat.beq p 34 then some (1, 5, 0, 10833) else none)))) else (bif Nat.blt p 49 then (bif Nat.blt p 42 then (bif Nat.beq p 38 then some (1, 100, 1, 10209) else none) else (bif Nat.blt p 46 then (bif Nat.beq p 42 then some (1, 17, 1, 10160) else none) else (bif Nat.beq p 46 then some (1, 7, 1, 10273) else none))) else (bif Nat.blt p 56 then (bif Nat.blt p 52 then (bif Nat.beq p 49 then some (1, 98, 0, 10353) else none) else (bif Nat.beq p 52 then some (1, 101, 2, 10417) else none)) else (bif Nat.blt p 59 then (bif Nat.beq p 56 then some (1, 2, 1, 10513) else none) else (bif Nat.beq p 59 then some (1, 3, 3, 10593) else none))))
def ri_lt2 : Nat → Option (Nat × Nat × Nat × Nat) := fun p => bif Nat.blt p 45 then (bif Nat.blt p 28 then (bif Nat.blt p 18 then (bif Nat.blt p 12 then (bif Nat.beq p 11 then some (1, 0, 0, 4465) else none) else (bif Nat.beq p 12 then some (0, 2, 0, 560) else none)) else (bif Nat.blt p 22 then (bif Nat.beq p 18 then some (0, 2, 1, 564) else none) else (bif Nat.blt p 25 then (bif Nat.beq p 22 then some (0, 2, 2, 568) else none) else (bif Nat.beq p 25 then some (0, 2, 3, 572) else none)))) else (bif Nat.blt p 35 then (bif Nat.blt p 31 then (bif Nat.beq p 28 then some (0, 2, 4, 576) else none) else (bif Nat.beq p 31 then some (0, 2, 5, 580) else none)) else (bif Nat.blt p 39 then (bif Nat.beq p 35 then some (0, 2, 7, 586) else none) else (bif Nat.blt p 42 then (bif Nat.beq p 39 then some (0, 2, 8, 590) else none) else (bif Nat.beq p 42 then some (0, 2, 9, 594) else none))))) else (bif Nat.blt p 74 then (bif Nat.blt p 52 then (bif Nat.blt p 49 then (bif Nat.beq p 45 then some (1, 4, 1, 10961) else none) else (bif Nat.beq p 49 then some (0, 2, 6, 582) else none)) else (bif Nat.blt p 61 then (bif Nat.beq p 52 then some (0, 2, 10, 598) else none) else (bif Nat.blt p 64 then (bif Nat.beq p 61 then some (0, 2, 11, 602) else none) else (bif Nat.beq p 64 then some (1, 143, 2, 13697) else none)))) else (bif Nat.blt p 82 then (bif Nat.blt p 78 then (bif Nat.beq p 74 then some (1, 142, 2, 13825) else none) else (bif Nat.beq p 78 then some (1, 23, 1, 14928) else none)) else (bif Nat.blt p 85 then (bif Nat.beq p 82 then some (1, 24, 1, 14944) else none) else (bif Nat.blt p 89 then (bif Nat.beq p 85 then some (1, 26, 0, 19856) else none) else (bif Nat.beq p 89 then some (1, 27, 2, 19872) else none)))))
def ri_lt3 : Nat → Option (Nat × Nat × Nat × Nat) := fun p => bif Nat.blt p 67 then (bif Nat.blt p 37 then (bif Nat.blt p 24 then (bif Nat.blt p 18 then (bif Nat.blt p 15 then (bif Nat.beq p 9 then some (0, 3, 0, 786) else none) else (bif Nat.beq p 15 then some (0, 3, 2, 792) else none)) else (bif Nat.blt p 21 then (bif Nat.beq p 18 then some (0, 3, 3, 794) else none) else (bif Nat.beq p 21 then some (0, 3, 4, 796) else none))) else (bif Nat.blt p 31 then (bif Nat.blt p 27 then (bif Nat.beq p 24 then some (0, 3, 5, 798) else none) else (bif Nat.beq p 27 then some (0, 3, 7, 804) else none)) else (bif Nat.blt p 34 then (bif Nat.beq p 31 then some (0, 3, 8, 806) else none) else (bif Nat.beq p 34 then some (0, 3, 10, 810) else none)))) else (bif Nat.blt p 51 then (bif Nat.blt p 44 then (bif Nat.blt p 40 then (bif Nat.beq p 37 then some (0, 3, 11, 812) else none) else (bif Nat.beq p 40 then some (0, 3, 1, 788) else none)) else (bif Nat.blt p 47 then (bif Nat.beq p 44 then some (0, 3, 6, 800) else none) else (bif Nat.beq p 47 then some (0, 3, 12, 814) else none))) else (bif Nat.blt p 59 then (bif Nat.blt p 55 then (bif Nat.beq p 51 then some (1, 142, 2, 12145) else none) else (bif Nat.beq p 55 then some (1, 145, 2, 12993) else none)) else (bif Nat.blt p 63 then (bif Nat.beq p 59 then some (1, 35, 3, 12944) else none) else (bif Nat.beq p 63 then some (1, 143, 2, 13137) else none))))) else (bif Nat.blt p 104 then (bif Nat.blt p 84 then (bif Nat.blt p 74 then (bif Nat.blt p 71 then (bif Nat.beq p 67 then some (1, 39, 2, 12656) else none) else (bif Nat.beq p 71 then some (1, 40, 2, 13392) else none)) else (bif Nat.blt p 80 then (bif Nat.beq p 74 then some (1, 7, 1, 12721) else none) else (bif Nat.beq p 80 then some (1, 41, 4, 12736) else none))) else (bif Nat.blt p 92 then (bif Nat.blt p 88 then (bif Nat.beq p 84 then some (1, 44, 1, 13008) else none) else (bif Nat.beq p 88 then some (1, 36, 3, 13456) else none)) else (bif Nat.blt p 96 then (bif Nat.beq p 92 then some (1, 144, 3, 13521) else none) else (bif Nat.beq p 96 then some (1, 9, 2, 12801) else none)))) else (bif Nat.blt p 118 then (bif Nat.blt p 111 then (bif Nat.blt p 107 then (bif Nat.beq p 104 then some (1, 10, 2, 12865) else none) else (bif Nat.beq p 107 then some (1, 42, 2, 12880) else none)) else (bif Nat.blt p 115 then (bif Nat.beq p 111 then some (1, 45, 2, 13072) else none) else (bif Nat.beq p 115 then some (1, 43, 1, 13216) else none))) else (bif Nat.blt p 125 then (bif Nat.blt p 121 then (bif Nat.beq p 118 then some (0, 3, 9, 808) else none) else (bif Nat.beq p 121 then some (1, 46, 1, 13152) else none)) else (bif Nat.blt p 129 then (bif Nat.beq p 125 then some (1, 47, 0, 13280) else none) else (bif Nat.beq p 129 then some (1, 48, 3, 13344) else none)))))
def ri_lt4 : Nat → Option (Nat × Nat × Nat × Nat) := fun p => bif Nat.blt p 43 then (bif Nat.blt p 30 then (bif Nat.blt p 20 then (bif Nat.blt p 15 then (bif Nat.beq p 9 then some (0, 4, 0, 500) else none) else (bif Nat.beq p 15 then some (1, 32, 0, 11489) else none)) else (bif Nat.blt p 26 then (bif Nat.beq p 20 then some (1, 96, 0, 11553) else none) else (bif Nat.beq p 26 then some (1, 51, 1, 11568) else none))) else (bif Nat.blt p 37 then (bif Nat.blt p 34 then (bif Nat.beq p 30 then some (1, 100, 1, 11617) else none) else (bif Nat.beq p 34 then some (0, 3, 6, 803) else none)) else (bif Nat.blt p 40 then (bif Nat.beq p 37 then some (1, 98, 0, 11633) else none) else (bif Nat.beq p 40 then some (0, 3, 1, 791) else none)))) else (bif Nat.blt p 59 then (bif Nat.blt p 51 then (bif Nat.blt p 47 then (bif Nat.beq p 43 then some (1, 54, 2, 11648) else none) else (bif Nat.beq p 47 then some (1, 99, 1, 11937) else none)) else (bif Nat.blt p 55 then (bif Nat.beq p 51 then some (1, 52, 3, 11952) else none) else (bif Nat.beq p 55 then some (1, 34, 3, 12081) else none))) else (bif Nat.blt p 65 then (bif Nat.blt p 62 then (bif Nat.beq p 59 then some (1, 53, 3, 12016) else none) else (bif Nat.beq p 62 then some (1, 33, 1, 11873) else none)) else (bif Nat.blt p 68 then (bif Nat.beq p 65 then some (1, 55, 2, 11712) else none) else (bif Nat.blt p 72 then (bif Nat.beq p 68 then some (1, 97, 0, 11777) else none) else (bif Nat.beq p 72 then some (1, 142, 2, 11857) else none)))))
def ri_lt5 : Nat → Option (Nat × Nat × Nat × Nat) := fun p => bif Nat.blt p 43 then (bif Nat.blt p 25 then (bif Nat.blt p 18 then (bif Nat.blt p 15 then (bif Nat.beq p 9 then some (0, 5, 0, 672) else none) else (bif Nat.beq p 15 then some (0, 5, 1, 678) else none)) else (bif Nat.blt p 21 then (bif Nat.beq p 18 then some (0, 5, 2, 680) else none) else (bif Nat.beq p 21 then some (0, 5, 3, 682) else none))) else (bif Nat.blt p 35 then (bif Nat.blt p 31 then (bif Nat.beq p 25 then some (1, 7, 1, 11201) else none) else (bif Nat.beq p 31 then some (1, 58, 3, 11216) else none)) else (bif Nat.blt p 39 then (bif Nat.beq p 35 then some (1, 142, 2, 11281) else none) else (bif Nat.beq p 39 then some (1, 143, 2, 17665) else none)))) else (bif Nat.blt p 62 then (bif Nat.blt p 53 then (bif Nat.blt p 49 then (bif Nat.beq p 43 then some (1, 37, 3, 17745) else none) else (bif Nat.beq p 49 then some (1, 59, 2, 17680) else none)) else (bif Nat.blt p 59 then (bif Nat.beq p 53 then some (1, 78, 2, 17761) else none) else (bif Nat.beq p 59 then some (1, 60, 2, 17840) else none))) else (bif Nat.blt p 74 then (bif Nat.blt p 66 then (bif Nat.beq p 62 then some (1, 61, 3, 18080) else none) else (bif Nat.beq p 66 then some (1, 62, 3, 18096) else none)) else (bif Nat.blt p 77 then (bif Nat.beq p 74 then some (1, 13, 2, 18897) else none) else (bif Nat.beq p 77 then some (1, 64, 4, 18832) else none))))
def ri_lt6 : Nat → Option (Nat × Nat × Nat × Nat) := fun p => bif Nat.blt p 38 then (bif Nat.blt p 21 then (bif Nat.blt p 15 then (bif Nat.beq p 9 then some (0, 6, 0, 744) else none) else (bif Nat.blt p 18 then (bif Nat.beq p 15 then some (0, 6, 1, 746) else none) else (bif Nat.beq p 18 then some (0, 6, 2, 748) else none))) else (bif Nat.blt p 31 then (bif Nat.beq p 21 then some (1, 158, 1, 18385) else none) else (bif Nat.blt p 35 then (bif Nat.beq p 31 then some (0, 6, 3, 750) else none) else (bif Nat.beq p 35 then some (0, 6, 4, 752) else none)))) else (bif Nat.blt p 52 then (bif Nat.blt p 43 then (bif Nat.beq p 38 then some (0, 5, 0, 675) else none) else (bif Nat.blt p 47 then (bif Nat.beq p 43 then some (1, 143, 2, 18481) else none) else (bif Nat.beq p 47 then some (1, 13, 2, 18497) else none))) else (bif Nat.blt p 59 then (bif Nat.blt p 56 then (bif Nat.beq p 52 then some (1, 59, 2, 18513) else none) else (bif Nat.beq p 56 then some (1, 60, 2, 18529) else none)) else (bif Nat.blt p 63 then (bif Nat.beq p 59 then some (1, 72, 1, 18608) else none) else (bif Nat.beq p 63 then some (1, 280, 1, 18672) else none))))
def ri_lt7 : Nat → Option (Nat × Nat × Nat × Nat) := fun p => bif Nat.blt p 31 then (bif Nat.blt p 19 then (bif Nat.blt p 15 then (bif Nat.beq p 9 then some (0, 7, 0, 716) else none) else (bif Nat.beq p 15 then some (1, 158, 1, 15313) else none)) else (bif Nat.blt p 23 then (bif Nat.beq p 19 then some (0, 7, 1, 718) else none) else (bif Nat.blt p 27 then (bif Nat.beq p 23 then some (1, 145, 2, 15393) else none) else (bif Nat.beq p 27 then some (1, 76, 1, 15408) else none)))) else (bif Nat.blt p 42 then (bif Nat.blt p 35 then (bif Nat.beq p 31 then some (1, 143, 2, 15473) else none) else (bif Nat.blt p 39 then (bif Nat.beq p 35 then some (1, 144, 3, 15489) else none) else (bif Nat.beq p 39 then some (1, 77, 2, 15888) else none))) else (bif Nat.blt p 48 then (bif Nat.beq p 42 then some (1, 280, 1, 19280) else none) else (bif Nat.blt p 51 then (bif Nat.beq p 48 then some (1, 79, 1, 19440) else none) else (bif Nat.beq p 51 then some (1, 80, 1, 19456) else none))))
def ri_lt8 : Nat → Option (Nat × Nat × Nat × Nat) := fun p => bif Nat.blt p 19 then (bif Nat.blt p 15 then (bif Nat.beq p 9 then some (0, 8, 0, 394) else none) else (bif Nat.beq p 15 then some (0, 8, 1, 398) else none)) else (bif Nat.blt p 23 then (bif Nat.beq p 19 then some (1, 142, 2, 8001) else none) else (bif Nat.beq p 23 then some (1, 84, 1, 8432) else none))
def ri_lt9 : Nat → Option (Nat × Nat × Nat × Nat) := fun p => bif Nat.blt p 46 then (bif Nat.blt p 28 then (bif Nat.blt p 18 then (bif Nat.blt p 15 then (bif Nat.beq p 9 then some (0, 9, 0, 426) else none) else (bif Nat.beq p 15 then some (0, 9, 1, 428) else none)) else (bif Nat.blt p 21 then (bif Nat.beq p 18 then some (0, 9, 2, 430) else none) else (bif Nat.blt p 25 then (bif Nat.beq p 21 then some (0, 9, 3, 432) else none) else (bif Nat.beq p 25 then some (0, 9, 4, 434) else none)))) else (bif Nat.blt p 34 then (bif Nat.blt p 31 then (bif Nat.beq p 28 then some (0, 9, 5, 436) else none) else (bif Nat.beq p 31 then some (0, 8, 1, 401) else none)) else (bif Nat.blt p 38 then (bif Nat.beq p 34 then some (1, 90, 2, 8240) else none) else (bif Nat.blt p 42 then (bif Nat.beq p 38 then some (1, 89, 3, 9680) else none) else (bif Nat.beq p 42 then some (1, 142, 2, 9745) else none))))) else (bif Nat.blt p 65 then (bif Nat.blt p 54 then (bif Nat.blt p 50 then (bif Nat.beq p 46 then some (1, 84, 1, 8305) else none) else (bif Nat.beq p 50 then some (1, 85, 3, 8369) else none)) else (bif Nat.blt p 58 then (bif Nat.beq p 54 then some (1, 91, 4, 8448) else none) else (bif Nat.blt p 62 then (bif Nat.beq p 58 then some (1, 94, 3, 8496) else none) else (bif Nat.beq p 62 then some (1, 92, 3, 9760) else none)))) else (bif Nat.blt p 108 then (bif Nat.blt p 71 then (bif Nat.beq p 65 then some (1, 93, 2, 9808) else none) else (bif Nat.blt p 89 then (bif Nat.beq p 71 then some (1, 86, 3, 8561) else none) else (bif Nat.beq p 89 then some (1, 95, 3, 9504) else none))) else (bif Nat.blt p 112 then (bif Nat.beq p 108 then some (1, 143, 2, 10113) else none) else (bif Nat.blt p 115 then (bif Nat.beq p 112 then some (1, 98, 0, 10496) else none) else (bif Nat.beq p 115 then some (1, 100, 1, 10480) else none)))))
def ri_lt10 : Nat → Option (Nat × Nat × Nat × Nat) := fun p => bif Nat.blt p 218 then (bif Nat.blt p 111 then (bif Nat.blt p 61 then (bif Nat.blt p 33 then (bif Nat.blt p 19 then (bif Nat.blt p 12 then (bif Nat.beq p 11 then some (1, 82, 0, 3089) else none) else (bif Nat.blt p 18 then (bif Nat.beq p 12 then some (0, 10, 0, 874) else none) else (bif Nat.beq p 18 then some (1, 87, 0, 3345) else none))) else (bif Nat.blt p 26 then (bif Nat.blt p 25 then (bif Nat.beq p 19 then some (0, 10, 1, 876) else none) else (bif Nat.beq p 25 then some (1, 14, 0, 3777) else none)) else (bif Nat.blt p 32 then (bif Nat.beq p 26 then some (0, 10, 2, 878) else none) else (bif Nat.beq p 32 then some (1, 49, 0, 3937) else none)))) else (bif Nat.blt p 46 then (bif Nat.blt p 39 then (bif Nat.beq p 33 then some (0, 10, 3, 880) else none) else (bif Nat.blt p 40 then (bif Nat.beq p 39 then some (1, 0, 0, 4097) else none) else (bif Nat.beq p 40 then some (0, 10, 4, 882) else none))) else (bif Nat.blt p 53 then (bif Nat.blt p 52 then (bif Nat.beq p 46 then some (0, 10, 5, 884) else none) else (bif Nat.beq p 52 then some (1, 18, 0, 4385) else none)) else (bif Nat.blt p 57 then (bif Nat.beq p 53 then some (0, 10, 7, 888) else none) else (bif Nat.beq p 57 then some (0, 10, 8, 890) else none))))) else (bif Nat.blt p 85 then (bif Nat.blt p 72 then (bif Nat.blt p 67 then (bif Nat.beq p 61 then some (0, 10, 9, 892) else none) else (bif Nat.blt p 68 then (bif Nat.beq p 67 then some (1, 56, 0, 5313) else none) else (bif Nat.beq p 68 then some (0, 10, 10, 894) else none))) else (bif Nat.blt p 79 then (bif Nat.blt p 76 then (bif Nat.beq p 72 then some (0, 10, 11, 896) else none) else (bif Nat.beq p 76 then some (0, 10, 12, 898) else none)) else (bif Nat.blt p 84 then (bif Nat.beq p 79 then some (0, 10, 13, 900) else none) else (bif Nat.beq p 84 then some (1, 73, 0, 5665) else none)))) else (bif Nat.blt p 98 then (bif Nat.blt p 92 then (bif Nat.blt p 89 then (bif Nat.beq p 85 then some (0, 10, 14, 902) else none) else (bif Nat.beq p 89 then some (0, 10, 15, 904) else none)) else (bif Nat.blt p 97 then (bif Nat.beq p 92 then some (0, 10, 16, 906) else none) else (bif Nat.beq p 97 then some (1, 68, 0, 5889) else none))) else (bif Nat.blt p 103 then (bif Nat.blt p 102 then (bif Nat.beq p 98 then some (0, 10, 17, 908) else none) else (bif Nat.beq p 102 then some (1, 31, 0, 6225) else none)) else (bif Nat.blt p 107 then (bif Nat.beq p 103 then some (0, 8, 1, 397) else none) else (bif Nat.beq p 107 then some (1, 83, 1, 7937) else none)))))) else (bif Nat.blt p 164 then (bif Nat.blt p 136 then (bif Nat.blt p 122 then (bif Nat.blt p 115 then (bif Nat.beq p 111 then some (1, 88, 1, 8177) else none) else (bif Nat.blt p 119 then (bif Nat.beq p 115 then some (1, 15, 2, 9857) else none) else (bif Nat.beq p 119 then some (0, 9, 5, 439) else none))) else (bif Nat.blt p 129 then (bif Nat.blt p 126 then (bif Nat.beq p 122 then some (1, 19, 1, 10897) else none) else (bif Nat.beq p 126 then some (1, 149, 0, 11072) else none)) else (bif Nat.blt p 132 then (bif Nat.beq p 129 then some (0, 2, 0, 563) else none) else (bif Nat.beq p 132 then some (1, 6, 0, 11297) else none)))) else (bif Nat.blt p 150 then (bif Nat.blt p 142 then (bif Nat.blt p 139 then (bif Nat.beq p 136 then some (0, 10, 6, 886) else none) else (bif Nat.beq p 139 then some (1, 50, 2, 11425) else none)) else (bif Nat.blt p 146 then (bif Nat.beq p 142 then some (1, 142, 2, 12224) else none) else (bif Nat.beq p 146 then some (1, 5, 0, 12241) else none))) else (bif Nat.blt p 157 then (bif Nat.blt p 154 then (bif Nat.beq p 150 then some (1, 7, 1, 12257) else none) else (bif Nat.beq p 154 then some (1, 8, 2, 12273) else none)) else (bif Nat.blt p 161 then (bif Nat.beq p 157 then some (1, 9, 2, 12337) else none) else (bif Nat.beq p 161 then some (1, 10, 2, 12401) else none))))) else (bif Nat.blt p 192 then (bif Nat.blt p 177 then (bif Nat.blt p 170 then (bif Nat.beq p 164 then some (1, 150, 1, 12528) else none) else (bif Nat.blt p 174 then (bif Nat.beq p 170 then some (1, 36, 3, 13553) else none) else (bif Nat.beq p 174 then some (1, 21, 1, 13633) else none))) else (bif Nat.blt p 185 then (bif Nat.blt p 181 then (bif Nat.beq p 177 then some (1, 22, 4, 13761) else none) else (bif Nat.beq p 181 then some (1, 23, 1, 13905) else none)) else (bif Nat.blt p 188 then (bif Nat.beq p 185 then some (0, 2, 1, 567) else none) else (bif Nat.beq p 188 then some (1, 143, 2, 13968) else none)))) else (bif Nat.blt p 204 then (bif Nat.blt p 198 then (bif Nat.blt p 195 then (bif Nat.beq p 192 then some (0, 2, 2, 571) else none) else (bif Nat.beq p 195 then some (0, 2, 3, 575) else none)) else (bif Nat.blt p 201 then (bif Nat.beq p 198 then some (0, 2, 4, 579) else none) else (bif Nat.beq p 201 then some (1, 24, 1, 13985) else none))) else (bif Nat.blt p 211 then (bif Nat.blt p 208 then (bif Nat.beq p 204 then some (1, 25, 2, 14113) else none) else (bif Nat.beq p 208 then some (0, 2, 7, 589) else none)) else (bif Nat.blt p 215 then (bif Nat.beq p 211 then some (1, 154, 3, 14368) else none) else (bif Nat.beq p 215 then some (1, 26, 0, 14689) else none))))))) else (bif Nat.blt p 330 then (bif Nat.blt p 270 then (bif Nat.blt p 242 then (bif Nat.blt p 229 then (bif Nat.blt p 222 then (bif Nat.beq p 218 then some (1, 156, 4, 14752) else none) else (bif Nat.blt p 226 then (bif Nat.beq p 222 then some (1, 151, 2, 15120) else none) else (bif Nat.beq p 226 then some (0, 7, 1, 721) else none))) else (bif Nat.blt p 235 then (bif Nat.blt p 232 then (bif Nat.beq p 229 then some (1, 77, 2, 15633) else none) else (bif Nat.beq p 232 then some (1, 11, 1, 15761) else none)) else (bif Nat.blt p 238 then (bif Nat.beq p 235 then some (1, 79, 1, 15825) else none) else (bif Nat.beq p 238 then some (1, 161, 1, 15968) else none)))) else (bif Nat.blt p 257 then (bif Nat.blt p 250 then (bif Nat.blt p 247 then (bif Nat.beq p 242 then some (1, 160, 1, 16032) else none) else (bif Nat.beq p 247 then some (1, 27, 2, 14865) else none)) else (bif Nat.blt p 254 then (bif Nat.beq p 250 then some (1, 162, 1, 16240) else none) else (bif Nat.beq p 254 then some (1, 13, 2, 14433) else none))) else (bif Nat.blt p 263 then (bif Nat.blt p 260 then (bif Nat.beq p 257 then some (1, 145, 2, 15024) else none) else (bif Nat.beq p 260 then some (1, 146, 2, 16304) else none)) else (bif Nat.blt p 267 then (bif Nat.beq p 263 then some (1, 153, 2, 16512) else none) else (bif Nat.beq p 267 then some (1, 155, 1, 16656) else none))))) else (bif Nat.blt p 295 then (bif Nat.blt p 282 then (bif Nat.blt p 273 then (bif Nat.beq p 270 then some (1, 163, 1, 16768) else none) else (bif Nat.blt p 278 then (bif Nat.beq p 273 then some (1, 280, 1, 16352) else none) else (bif Nat.beq p 278 then some (1, 164, 3, 16832) else none))) else (bif Nat.blt p 289 then (bif Nat.blt p 286 then (bif Nat.beq p 282 then some (1, 165, 2, 16960) else none) else (bif Nat.beq p 286 then some (1, 152, 2, 14496) else none)) else (bif Nat.blt p 292 then (bif Nat.beq p 289 then some (1, 78, 2, 17089) else none) else (bif Nat.beq p 292 then some (1, 279, 1, 17216) else none)))) else (bif Nat.blt p 309 then (bif Nat.blt p 303 then (bif Nat.blt p 299 then (bif Nat.beq p 295 then some (1, 159, 3, 15184) else none) else (bif Nat.beq p 299 then some (1, 37, 3, 14561) else none)) else (bif Nat.blt p 306 then (bif Nat.beq p 303 then some (1, 166, 1, 17536) else none) else (bif Nat.beq p 306 then some (1, 148, 1, 17904) else none))) else (bif Nat.blt p 316 then (bif Nat.blt p 313 then (bif Nat.beq p 309 then some (1, 66, 3, 18017) else none) else (bif Nat.beq p 313 then some (1, 61, 3, 17601) else none)) else (bif Nat.blt p 327 then (bif Nat.beq p 316 then some (1, 62, 3, 17777) else none) else (bif Nat.beq p 327 then some (1, 67, 4, 18193) else none)))))) else (bif Nat.blt p 378 then (bif Nat.blt p 354 then (bif Nat.blt p 340 then (bif Nat.blt p 333 then (bif Nat.beq p 330 then some (0, 5, 3, 685) else none) else (bif Nat.blt p 336 then (bif Nat.beq p 333 then some (1, 69, 1, 18321) else none) else (bif Nat.beq p 336 then some (1, 70, 4, 18417) else none))) else (bif Nat.blt p 347 then (bif Nat.blt p 343 then (bif Nat.beq p 340 then some (1, 71, 0, 18545) else none) else (bif Nat.beq p 343 then some (1, 65, 5, 18769) else none)) else (bif Nat.blt p 350 then (bif Nat.beq p 347 then some (0, 2, 11, 605) else none) else (bif Nat.beq p 350 then some (1, 147, 1, 19040) else none)))) else (bif Nat.blt p 366 then (bif Nat.blt p 360 then (bif Nat.blt p 357 then (bif Nat.beq p 354 then some (1, 167, 2, 19152) else none) else (bif Nat.beq p 357 then some (0, 2, 10, 601) else none)) else (bif Nat.blt p 363 then (bif Nat.beq p 360 then some (1, 30, 1, 19537) else none) else (bif Nat.beq p 363 then some (0, 2, 9, 597) else none))) else (bif Nat.blt p 372 then (bif Nat.blt p 369 then (bif Nat.beq p 366 then some (0, 2, 8, 593) else none) else (bif Nat.beq p 369 then some (0, 2, 6, 585) else none)) else (bif Nat.blt p 375 then (bif Nat.beq p 372 then some (1, 28, 0, 19729) else none) else (bif Nat.beq p 375 then some (1, 29, 0, 19793) else none))))) else (bif Nat.blt p 408 then (bif Nat.blt p 395 then (bif Nat.blt p 388 then (bif Nat.beq p 378 then some (1, 20, 1, 19953) else none) else (bif Nat.blt p 391 then (bif Nat.beq p 388 then some (1, 57, 1, 11137) else none) else (bif Nat.beq p 391 then some (0, 3, 12, 817) else none))) else (bif Nat.blt p 401 then (bif Nat.blt p 398 then (bif Nat.beq p 395 then some (1, 38, 1, 12593) else none) else (bif Nat.beq p 398 then some (1, 12, 0, 16577) else none)) else (bif Nat.blt p 405 then (bif Nat.beq p 401 then some (1, 158, 1, 14816) else none) else (bif Nat.beq p 405 then some (1, 157, 2, 14960) else none)))) else (bif Nat.blt p 420 then (bif Nat.blt p 414 then (bif Nat.blt p 412 then (bif Nat.beq p 408 then some (1, 144, 3, 15040) else none) else (bif Nat.beq p 412 then some (1, 74, 0, 15249) else none)) else (bif Nat.blt p 417 then (bif Nat.beq p 414 then some (1, 75, 3, 15329) else none) else (bif Nat.beq p 417 then some (1, 80, 1, 19217) else none))) else (bif Nat.blt p 424 then (bif Nat.blt p 423 then (bif Nat.beq p 420 then some (1, 63, 3, 19297) else none) else (bif Nat.beq p 423 then some (0, 5, 0, 677) else none)) else (bif Nat.blt p 428 then (bif Nat.beq p 424 then some (1, 64, 4, 19361) else none) else (bif Nat.beq p 428 then some (1, 81, 2, 19377) else none)))))))
def ri_lt11 : Nat → Option (Nat × Nat × Nat × Nat) := fun p => bif Nat.blt p 217 then (bif Nat.blt p 99 then (bif Nat.blt p 52 then (bif Nat.blt p 29 then (bif Nat.blt p 20 then (bif Nat.blt p 13 then (bif Nat.beq p 7 then some (0, 11, 0, 2524) else none) else (bif Nat.blt p 17 then (bif Nat.beq p 13 then some (0, 11, 3, 2530) else none) else (bif Nat.beq p 17 then some (0, 11, 4, 2532) else none))) else (bif Nat.blt p 23 then (bif Nat.beq p 20 then some (0, 11, 5, 2534) else none) else (bif Nat.blt p 26 then (bif Nat.beq p 23 then some (0, 11, 6, 2536) else none) else (bif Nat.beq p 26 then some (0, 11, 10, 2544) else none)))) else (bif Nat.blt p 39 then (bif Nat.blt p 32 then (bif Nat.beq p 29 then some (0, 11, 11, 2546) else none) else (bif Nat.blt p 35 then (bif Nat.beq p 32 then some (0, 11, 19, 2562) else none) else (bif Nat.beq p 35 then some (0, 11, 21, 2566) else none))) else (bif Nat.blt p 45 then (bif Nat.blt p 42 then (bif Nat.beq p 39 then some (0, 11, 23, 2570) else none) else (bif Nat.beq p 42 then some (0, 11, 24, 2572) else none)) else (bif Nat.blt p 48 then (bif Nat.beq p 45 then some (0, 11, 25, 2574) else none) else (bif Nat.beq p 48 then some (0, 11, 26, 2576) else none))))) else (bif Nat.blt p 74 then (bif Nat.blt p 61 then (bif Nat.blt p 55 then (bif Nat.beq p 52 then some (0, 11, 30, 2584) else none) else (bif Nat.blt p 58 then (bif Nat.beq p 55 then some (0, 11, 31, 2586) else none) else (bif Nat.beq p 58 then some (0, 11, 32, 2588) else none))) else (bif Nat.blt p 67 then (bif Nat.blt p 64 then (bif Nat.beq p 61 then some (0, 11, 36, 2596) else none) else (bif Nat.beq p 64 then some (0, 11, 37, 2598) else none)) else (bif Nat.blt p 70 then (bif Nat.beq p 67 then some (0, 11, 38, 2600) else none) else (bif Nat.beq p 70 then some (0, 11, 1, 2526) else none)))) else (bif Nat.blt p 84 then (bif Nat.blt p 78 then (bif Nat.beq p 74 then some (1, 171, 1, 22144) else none) else (bif Nat.blt p 81 then (bif Nat.beq p 78 then some (0, 11, 13, 2550) else none) else (bif Nat.beq p 81 then some (0, 11, 12, 2548) else none))) else (bif Nat.blt p 92 then (bif Nat.blt p 88 then (bif Nat.beq p 84 then some (1, 175, 0, 22464) else none) else (bif Nat.beq p 88 then some (1, 177, 1, 22608) else none)) else (bif Nat.blt p 96 then (bif Nat.beq p 92 then some (1, 178, 1, 22544) else none) else (bif Nat.beq p 96 then some (1, 179, 0, 22848) else none)))))) else (bif Nat.blt p 163 then (bif Nat.blt p 138 then (bif Nat.blt p 109 then (bif Nat.blt p 102 then (bif Nat.beq p 99 then some (1, 176, 1, 22976) else none) else (bif Nat.blt p 106 then (bif Nat.beq p 102 then some (1, 174, 2, 22720) else none) else (bif Nat.beq p 106 then some (0, 11, 14, 2552) else none))) else (bif Nat.blt p 132 then (bif Nat.blt p 129 then (bif Nat.beq p 109 then some (1, 169, 3, 23040) else none) else (bif Nat.beq p 129 then some (0, 11, 15, 2554) else none)) else (bif Nat.blt p 135 then (bif Nat.beq p 132 then some (0, 11, 16, 2556) else none) else (bif Nat.beq p 135 then some (0, 11, 17, 2558) else none)))) else (bif Nat.blt p 150 then (bif Nat.blt p 141 then (bif Nat.beq p 138 then some (0, 11, 20, 2564) else none) else (bif Nat.blt p 145 then (bif Nat.beq p 141 then some (1, 186, 1, 24288) else none) else (bif Nat.beq p 145 then some (1, 183, 2, 23552) else none))) else (bif Nat.blt p 156 then (bif Nat.blt p 153 then (bif Nat.beq p 150 then some (1, 181, 2, 22912) else none) else (bif Nat.beq p 153 then some (1, 184, 1, 23488) else none)) else (bif Nat.blt p 159 then (bif Nat.beq p 156 then some (1, 182, 0, 23616) else none) else (bif Nat.beq p 159 then some (1, 188, 0, 23408) else none))))) else (bif Nat.blt p 186 then (bif Nat.blt p 174 then (bif Nat.blt p 166 then (bif Nat.beq p 163 then some (1, 189, 0, 23344) else none) else (bif Nat.blt p 171 then (bif Nat.beq p 166 then some (1, 190, 0, 23280) else none) else (bif Nat.beq p 171 then some (1, 185, 1, 24032) else none))) else (bif Nat.blt p 180 then (bif Nat.blt p 177 then (bif Nat.beq p 174 then some (1, 191, 0, 24096) else none) else (bif Nat.beq p 177 then some (1, 187, 1, 24224) else none)) else (bif Nat.blt p 183 then (bif Nat.beq p 180 then some (1, 193, 0, 24336) else none) else (bif Nat.beq p 183 then some (1, 192, 0, 23952) else none)))) else (bif Nat.blt p 201 then (bif Nat.blt p 195 then (bif Nat.beq p 186 then some (1, 194, 0, 24160) else none) else (bif Nat.blt p 198 then (bif Nat.beq p 195 then some (1, 180, 1, 23824) else none) else (bif Nat.beq p 198 then some (1, 195, 0, 23888) else none))) else (bif Nat.blt p 209 then (bif Nat.blt p 204 then (bif Nat.beq p 201 then some (0, 11, 8, 2540) else none) else (bif Nat.beq p 204 then some (0, 11, 9, 2542) else none)) else (bif Nat.blt p 214 then (bif Nat.beq p 209 then some (0, 11, 7, 2538) else none) else (bif Nat.beq p 214 then some (1, 197, 0, 23088) else none))))))) else (bif Nat.blt p 320 then (bif Nat.blt p 265 then (bif Nat.blt p 239 then (bif Nat.blt p 230 then (bif Nat.blt p 224 then (bif Nat.beq p 217 then some (1, 198, 0, 23152) else none) else (bif Nat.blt p 227 then (bif Nat.beq p 224 then some (0, 11, 18, 2560) else none) else (bif Nat.beq p 227 then some (1, 199, 1, 22784) else none))) else (bif Nat.blt p 233 then (bif Nat.beq p 230 then some (1, 196, 1, 23216) else none) else (bif Nat.blt p 236 then (bif Nat.beq p 233 then some (1, 200, 0, 22400) else none) else (bif Nat.beq p 236 then some (0, 11, 2, 2528) else none)))) else (bif Nat.blt p 248 then (bif Nat.blt p 242 then (bif Nat.beq p 239 then some (1, 201, 0, 22336) else none) else (bif Nat.blt p 245 then (bif Nat.beq p 242 then some (1, 210, 0, 24496) else none) else (bif Nat.beq p 245 then some (0, 11, 22, 2568) else none))) else (bif Nat.blt p 256 then (bif Nat.blt p 252 then (bif Nat.beq p 248 then some (1, 205, 1, 25200) else none) else (bif Nat.beq p 252 then some (1, 206, 0, 25264) else none)) else (bif Nat.blt p 260 then (bif Nat.beq p 256 then some (1, 207, 3, 25328) else none) else (bif Nat.beq p 260 then some (1, 209, 0, 24688) else none))))) else (bif Nat.blt p 292 then (bif Nat.blt p 275 then (bif Nat.blt p 268 then (bif Nat.beq p 265 then some (1, 211, 1, 24624) else none) else (bif Nat.blt p 271 then (bif Nat.beq p 268 then some (1, 212, 2, 24768) else none) else (bif Nat.beq p 271 then some (1, 219, 2, 25088) else none))) else (bif Nat.blt p 283 then (bif Nat.blt p 279 then (bif Nat.beq p 275 then some (1, 220, 3, 25024) else none) else (bif Nat.beq p 279 then some (1, 208, 3, 25136) else none)) else (bif Nat.blt p 286 then (bif Nat.beq p 283 then some (1, 204, 1, 24896) else none) else (bif Nat.beq p 286 then some (1, 221, 4, 24960) else none)))) else (bif Nat.blt p 301 then (bif Nat.blt p 295 then (bif Nat.beq p 292 then some (1, 216, 2, 25568) else none) else (bif Nat.blt p 298 then (bif Nat.beq p 295 then some (1, 214, 1, 25456) else none) else (bif Nat.beq p 298 then some (1, 223, 1, 25504) else none))) else (bif Nat.blt p 313 then (bif Nat.blt p 310 then (bif Nat.beq p 301 then some (1, 215, 1, 25696) else none) else (bif Nat.beq p 310 then some (1, 217, 2, 26320) else none)) else (bif Nat.blt p 317 then (bif Nat.beq p 313 then some (1, 230, 4, 26256) else none) else (bif Nat.beq p 317 then some (1, 228, 1, 26512) else none)))))) else (bif Nat.blt p 364 then (bif Nat.blt p 342 then (bif Nat.blt p 329 then (bif Nat.blt p 323 then (bif Nat.beq p 320 then some (1, 231, 2, 26192) else none) else (bif Nat.blt p 326 then (bif Nat.beq p 323 then some (1, 229, 1, 26128) else none) else (bif Nat.beq p 326 then some (1, 232, 2, 26448) else none))) else (bif Nat.blt p 335 then (bif Nat.blt p 332 then (bif Nat.beq p 329 then some (1, 233, 1, 26000) else none) else (bif Nat.beq p 332 then some (1, 213, 1, 26064) else none)) else (bif Nat.blt p 338 then (bif Nat.beq p 335 then some (1, 234, 1, 26640) else none) else (bif Nat.beq p 338 then some (1, 235, 3, 26688) else none)))) else (bif Nat.blt p 351 then (bif Nat.blt p 345 then (bif Nat.beq p 342 then some (1, 240, 2, 26880) else none) else (bif Nat.blt p 348 then (bif Nat.beq p 345 then some (0, 11, 27, 2578) else none) else (bif Nat.beq p 348 then some (0, 11, 28, 2580) else none))) else (bif Nat.blt p 357 then (bif Nat.blt p 354 then (bif Nat.beq p 351 then some (0, 11, 29, 2582) else none) else (bif Nat.beq p 354 then some (1, 243, 1, 27072) else none)) else (bif Nat.blt p 361 then (bif Nat.beq p 357 then some (1, 170, 1, 27264) else none) else (bif Nat.beq p 361 then some (1, 247, 2, 27376) else none))))) else (bif Nat.blt p 386 then (bif Nat.blt p 373 then (bif Nat.blt p 367 then (bif Nat.beq p 364 then some (1, 249, 0, 27504) else none) else (bif Nat.blt p 370 then (bif Nat.beq p 367 then some (1, 250, 2, 27568) else none) else (bif Nat.beq p 370 then some (0, 11, 33, 2590) else none))) else (bif Nat.blt p 379 then (bif Nat.blt p 376 then (bif Nat.beq p 373 then some (0, 11, 34, 2592) else none) else (bif Nat.beq p 376 then some (0, 11, 35, 2594) else none)) else (bif Nat.blt p 383 then (bif Nat.beq p 379 then some (1, 258, 3, 28144) else none) else (bif Nat.beq p 383 then some (1, 257, 0, 28016) else none)))) else (bif Nat.blt p 396 then (bif Nat.blt p 389 then (bif Nat.beq p 386 then some (1, 259, 1, 28080) else none) else (bif Nat.blt p 392 then (bif Nat.beq p 389 then some (1, 260, 2, 28208) else none) else (bif Nat.beq p 392 then some (1, 261, 1, 28384) else none))) else (bif Nat.blt p 402 then (bif Nat.blt p 399 then (bif Nat.beq p 396 then some (1, 265, 1, 28512) else none) else (bif Nat.beq p 399 then some (1, 266, 1, 28576) else none)) else (bif Nat.blt p 405 then (bif Nat.beq p 402 then some (1, 267, 1, 28640) else none) else (bif Nat.beq p 405 then some (1, 268, 1, 28704) else none)))))))
def ri_lt12 : Nat → Option (Nat × Nat × Nat × Nat) := fun p => bif Nat.blt p 98 then (bif Nat.blt p 57 then (bif Nat.blt p 32 then (bif Nat.blt p 22 then (bif Nat.blt p 13 then (bif Nat.blt p 12 then (bif Nat.beq p 9 then some (1, 102, 0, 2960) else none) else (bif Nat.beq p 12 then some (1, 168, 0, 20128) else none)) else (bif Nat.blt p 17 then (bif Nat.beq p 13 then some (1, 103, 5, 7872) else none) else (bif Nat.blt p 18 then (bif Nat.beq p 17 then some (1, 172, 5, 22080) else none) else (bif Nat.beq p 18 then some (1, 104, 1, 8048) else none)))) else (bif Nat.blt p 27 then (bif Nat.blt p 23 then (bif Nat.beq p 22 then some (1, 173, 1, 22208) else none) else (bif Nat.beq p 23 then some (1, 105, 0, 8112) else none)) else (bif Nat.blt p 28 then (bif Nat.beq p 27 then some (1, 203, 0, 24432) else none) else (bif Nat.blt p 31 then (bif Nat.beq p 28 then some (1, 106, 0, 11360) else none) else (bif Nat.beq p 31 then some (1, 202, 0, 22272) else none))))) else (bif Nat.blt p 46 then (bif Nat.blt p 37 then (bif Nat.blt p 36 then (bif Nat.beq p 32 then some (1, 107, 3, 12160) else none) else (bif Nat.beq p 36 then some (1, 218, 3, 24560) else none)) else (bif Nat.blt p 41 then (bif Nat.beq p 37 then some (1, 108, 4, 12464) else none) else (bif Nat.blt p 42 then (bif Nat.beq p 41 then some (1, 222, 4, 24832) else none) else (bif Nat.beq p 42 then some (1, 109, 4, 13568) else none)))) else (bif Nat.blt p 51 then (bif Nat.blt p 47 then (bif Nat.beq p 46 then some (1, 224, 4, 25392) else none) else (bif Nat.beq p 47 then some (1, 110, 2, 13840) else none)) else (bif Nat.blt p 52 then (bif Nat.beq p 51 then some (1, 225, 2, 25632) else none) else (bif Nat.blt p 56 then (bif Nat.beq p 52 then some (1, 111, 2, 14048) else none) else (bif Nat.beq p 56 then some (1, 226, 2, 25776) else none)))))) else (bif Nat.blt p 77 then (bif Nat.blt p 68 then (bif Nat.blt p 61 then (bif Nat.blt p 60 then (bif Nat.beq p 57 then some (1, 112, 1, 14176) else none) else (bif Nat.beq p 60 then some (1, 227, 1, 25840) else none)) else (bif Nat.blt p 64 then (bif Nat.beq p 61 then some (1, 114, 3, 14304) else none) else (bif Nat.blt p 65 then (bif Nat.beq p 64 then some (1, 236, 3, 25936) else none) else (bif Nat.beq p 65 then some (1, 115, 2, 14624) else none)))) else (bif Nat.blt p 72 then (bif Nat.blt p 69 then (bif Nat.beq p 68 then some (1, 237, 2, 26384) else none) else (bif Nat.beq p 69 then some (1, 116, 2, 15056) else none)) else (bif Nat.blt p 73 then (bif Nat.beq p 72 then some (1, 238, 2, 26576) else none) else (bif Nat.blt p 76 then (bif Nat.beq p 73 then some (1, 117, 3, 15504) else none) else (bif Nat.beq p 76 then some (1, 239, 3, 26752) else none))))) else (bif Nat.blt p 88 then (bif Nat.blt p 81 then (bif Nat.blt p 80 then (bif Nat.beq p 77 then some (1, 118, 4, 15568) else none) else (bif Nat.beq p 80 then some (1, 241, 4, 26816) else none)) else (bif Nat.blt p 84 then (bif Nat.beq p 81 then some (1, 119, 2, 15696) else none) else (bif Nat.blt p 85 then (bif Nat.beq p 84 then some (1, 242, 2, 26944) else none) else (bif Nat.beq p 85 then some (1, 120, 2, 15904) else none)))) else (bif Nat.blt p 93 then (bif Nat.blt p 89 then (bif Nat.beq p 88 then some (1, 244, 2, 27008) else none) else (bif Nat.beq p 89 then some (1, 121, 1, 16096) else none)) else (bif Nat.blt p 94 then (bif Nat.beq p 93 then some (1, 245, 1, 27136) else none) else (bif Nat.blt p 97 then (bif Nat.beq p 94 then some (1, 122, 1, 16176) else none) else (bif Nat.beq p 97 then some (1, 246, 1, 27200) else none))))))) else (bif Nat.blt p 138 then (bif Nat.blt p 118 then (bif Nat.blt p 109 then (bif Nat.blt p 102 then (bif Nat.blt p 101 then (bif Nat.beq p 98 then some (1, 123, 1, 16448) else none) else (bif Nat.beq p 101 then some (1, 248, 1, 27312) else none)) else (bif Nat.blt p 105 then (bif Nat.beq p 102 then some (1, 124, 2, 16704) else none) else (bif Nat.blt p 106 then (bif Nat.beq p 105 then some (1, 251, 2, 27440) else none) else (bif Nat.beq p 106 then some (1, 125, 3, 16896) else none)))) else (bif Nat.blt p 113 then (bif Nat.blt p 110 then (bif Nat.beq p 109 then some (1, 252, 3, 27632) else none) else (bif Nat.beq p 110 then some (1, 126, 3, 17024) else none)) else (bif Nat.blt p 114 then (bif Nat.beq p 113 then some (1, 253, 3, 27696) else none) else (bif Nat.blt p 117 then (bif Nat.beq p 114 then some (1, 127, 3, 17152) else none) else (bif Nat.beq p 117 then some (1, 254, 3, 27760) else none))))) else (bif Nat.blt p 129 then (bif Nat.blt p 122 then (bif Nat.blt p 121 then (bif Nat.beq p 118 then some (1, 128, 2, 17280) else none) else (bif Nat.beq p 121 then some (1, 255, 2, 27824) else none)) else (bif Nat.blt p 125 then (bif Nat.beq p 122 then some (1, 129, 3, 17344) else none) else (bif Nat.blt p 126 then (bif Nat.beq p 125 then some (1, 256, 3, 27888) else none) else (bif Nat.beq p 126 then some (1, 131, 3, 17472) else none)))) else (bif Nat.blt p 133 then (bif Nat.blt p 130 then (bif Nat.beq p 129 then some (1, 262, 3, 27952) else none) else (bif Nat.beq p 130 then some (1, 130, 3, 17408) else none)) else (bif Nat.blt p 134 then (bif Nat.beq p 133 then some (1, 263, 3, 28256) else none) else (bif Nat.blt p 137 then (bif Nat.beq p 134 then some (1, 132, 4, 17952) else none) else (bif Nat.beq p 137 then some (1, 264, 4, 28320) else none)))))) else (bif Nat.blt p 158 then (bif Nat.blt p 149 then (bif Nat.blt p 142 then (bif Nat.blt p 141 then (bif Nat.beq p 138 then some (1, 133, 2, 18256) else none) else (bif Nat.beq p 141 then some (1, 269, 2, 28448) else none)) else (bif Nat.blt p 145 then (bif Nat.beq p 142 then some (1, 134, 5, 18704) else none) else (bif Nat.blt p 146 then (bif Nat.beq p 145 then some (1, 270, 5, 28768) else none) else (bif Nat.beq p 146 then some (1, 113, 1, 14240) else none)))) else (bif Nat.blt p 153 then (bif Nat.blt p 150 then (bif Nat.beq p 149 then some (1, 271, 1, 28832) else none) else (bif Nat.beq p 150 then some (1, 135, 1, 18912) else none)) else (bif Nat.blt p 154 then (bif Nat.beq p 153 then some (1, 272, 1, 28896) else none) else (bif Nat.blt p 157 then (bif Nat.beq p 154 then some (1, 136, 3, 18976) else none) else (bif Nat.beq p 157 then some (1, 273, 3, 28960) else none))))) else (bif Nat.blt p 169 then (bif Nat.blt p 162 then (bif Nat.blt p 161 then (bif Nat.beq p 158 then some (1, 137, 1, 19472) else none) else (bif Nat.beq p 161 then some (1, 274, 1, 29104) else none)) else (bif Nat.blt p 165 then (bif Nat.beq p 162 then some (1, 138, 4, 19600) else none) else (bif Nat.blt p 166 then (bif Nat.beq p 165 then some (1, 275, 4, 29168) else none) else (bif Nat.beq p 166 then some (1, 139, 1, 19664) else none)))) else (bif Nat.blt p 173 then (bif Nat.blt p 170 then (bif Nat.beq p 169 then some (1, 276, 1, 29232) else none) else (bif Nat.beq p 170 then some (1, 140, 1, 19888) else none)) else (bif Nat.blt p 174 then (bif Nat.beq p 173 then some (1, 277, 1, 29296) else none) else (bif Nat.blt p 177 then (bif Nat.beq p 174 then some (1, 141, 1, 20032) else none) else (bif Nat.beq p 177 then some (1, 278, 1, 29376) else none)))))))
def ri_lt13 : Nat → Option (Nat × Nat × Nat × Nat) := fun p => none
def ri_ltt : Nat → Nat → Option (Nat × Nat × Nat × Nat) := fun p => bif Nat.blt p 7 then (bif Nat.blt p 3 then (bif Nat.blt p 1 then (ri_lt0) else (bif Nat.blt p 2 then (ri_lt1) else (ri_lt2))) else (bif Nat.blt p 5 then (bif Nat.blt p 4 then (ri_lt3) else (ri_lt4)) else (bif Nat.blt p 6 then (ri_lt5) else (ri_lt6)))) else (bif Nat.blt p 10 then (bif Nat.blt p 8 then (ri_lt7) else (bif Nat.blt p 9 then (ri_lt8) else (ri_lt9))) else (bif Nat.blt p 12 then (bif Nat.blt p 11 then (ri_lt10) else (ri_lt11)) else (bif Nat.blt p 13 then (ri_lt12) else (ri_lt13))))
def ri_lt (o i : Nat) : Option (Nat × Nat × Nat × Nat) := bif Nat.blt o 14 && Nat.blt i 512 then ri_ltt o i else none
def ri_on : Nat → String := fun p => bif Nat.blt p 7 then (bif Nat.blt p 3 then (bif Nat.blt p 1 then (RX0) else (bif Nat.blt p 2 then (RX1) else (RX2))) else (bif Nat.blt p 5 then (bif Nat.blt p 4 then (RX3) else (RX4)) else (bif Nat.blt p 6 then (RX5) else (RX6)))) else (bif Nat.blt p 10 then (bif Nat.blt p 8 then (RX7) else (bif Nat.blt p 9 then (RX8) else (RX9))) else (bif Nat.blt p 12 then (bif Nat.blt p 11 then (RX10) else (RX11)) else (bif Nat.blt p 13 then (RL) else (RJ6))))
def ri_lq (o i : Nat) : Bool := match ri_ltt o i with
  | some (0, a, b, c) => (match vwCl[a]? with
    | some q => Nat.blt b q.2.2 && ri_fk (ri_on o) i c (q.2.1 b)
    | none => false)
  | some (_, a, b, c) => ri_lk (ri_on o) i a b c
  | none => true
def ri_ck2 (o : Nat) (nm : String) (bytes : ByteArray) (pc : Nat) (j : ri_J) : Bool := decide (decode bytes pc = .ok (j.1, ri_ln j.1 j.2.1)) && match j with
  | (.if_icmp _ off, _, _, _, _) => decide (0 ≤ (pc : Int) + off)
  | (.ifCond _ off, _, _, _, _) => decide (0 ≤ (pc : Int) + off)
  | (.getfield i, _, a, b, c) => decide (ri_lt o i = some (0, a, b, c))
  | (.putfield i, _, a, b, c) => decide (ri_lt o i = some (0, a, b, c)) && (match vwCl[a]? with
    | some q => (if (q.2.1 b).2.2.2 = true then decide (nm = "<init>") && (decide (c % 2 = 0) && decide ((q.2.1 b).1 = ri_on o)) else true)
    | none => false)
  | (.new i, _, a, _, c) => (match vwCl[a]? with
    | some q => ri_w c (.classLink (ri_on o) i q.1)
    | none => false)
  | (.anewarray i, _, a, b, c) => (match vwCl[a]? with
    | some q => ri_w c (.classLink (ri_on o) i q.1) && ri_w b (.arrayOver (.object q.1))
    | none => false)
  | (.newarray t, _, a, _, _) => ri_w a (.arrayClass (newarray.typeOf t))
  | (.ldc i, _, a, _, c) => ri_w c (.constant (ri_on o) i (Int32.ofNat a))
  | (.ldc_w i, _, a, _, c) => ri_w c (.constant (ri_on o) i (Int32.ofNat a))
  | (.ldc2_w i, _, a, _, c) => ri_w c (.constantLong (ri_on o) i (Int64.ofNat a))
  | (.invokespecial i, _, a, b, c) => if c % 16 = 6 then ri_w (c / 16) (.methodLink (ri_on o) i Lib.objectInit) else decide (ri_lt o i = some (1, a, b, c)) && decide (ri_kd a = 1)
  | (.invokevirtual i, _, a, b, c) => decide (ri_lt o i = some (1, a, b, c)) && decide (ri_kd a = 2)
  | (.invokestatic i, _, a, b, c) => (match c % 16 with
    | 0 => decide (ri_lt o i = some (1, a, b, c)) && decide (ri_kd a = 0)
    | 1 => decide (ri_lt o i = some (1, a, b, c)) && decide (ri_kd a = 0)
    | 7 => ri_w (c / 16) (.methodLink (ri_on o) i Lib.Math.min.name)
    | 8 => ri_w (c / 16) (.methodLink (ri_on o) i Lib.Math.max.name)
    | 9 => ri_w (c / 16) (.methodLink (ri_on o) i Lib.Math.abs.name)
    | 10 => ri_w (c / 16) (.methodLink (ri_on o) i arraycopyName)
    | _ => true)
  | _ => true
theorem ri_le0_0 : (List.range' 0 512).all (ri_lq 0) = true := by decide +kernel
theorem ri_le1_0 : (List.range' 0 59).all (ri_lq 1) = true := by decide +kernel
theorem ri_le1_59 : (List.range' 59 453).all (ri_lq 1) = true := by decide +kernel
theorem ri_le2_0 : (List.range' 0 52).all (ri_lq 2) = true := by decide +kernel
theorem ri_le2_52 : (List.range' 52 460).all (ri_lq 2) = true := by decide +kernel
theorem ri_le3_0 : (List.range' 0 51).all (ri_lq 3) = true := by decide +kernel
theorem ri_le3_51 : (List.range' 51 53).all (ri_lq 3) = true := by decide +kernel
theorem ri_le3_104 : (List.range' 104 408).all (ri_lq 3) = true := by decide +kernel
theorem ri_le4_0 : (List.range' 0 59).all (ri_lq 4) = true := by decide +kernel
theorem ri_le4_59 : (List.range' 59 453).all (ri_lq 4) = true := by decide +kernel
theorem ri_le5_0 : (List.range' 0 62).all (ri_lq 5) = true := by decide +kernel
theorem ri_le5_62 : (List.range' 62 450).all (ri_lq 5) = true := by decide +kernel
theorem ri_le6_0 : (List.range' 0 63).all (ri_lq 6) = true := by decide +kernel
theorem ri_le6_63 : (List.range' 63 449).all (ri_lq 6) = true := by decide +kernel
theorem ri_le7_0 : (List.range' 0 512).all (ri_lq 7) = true := by decide +kernel
theorem ri_le8_0 : (List.range' 0 512).all (ri_lq 8) = true := by decide +kernel
theorem ri_le9_0 : (List.range' 0 54).all (ri_lq 9) = true := by decide +kernel
theorem ri_le9_54 : (List.range' 54 458).all (ri_lq 9) = true := by decide +kernel
theorem ri_le10_0 : (List.range' 0 53).all (ri_lq 10) = true := by decide +kernel
theorem ri_le10_53 : (List.range' 53 44).all (ri_lq 10) = true := by decide +kernel
theorem ri_le10_97 : (List.range' 97 39).all (ri_lq 10) = true := by decide +kernel
theorem ri_le10_136 : (List.range' 136 45).all (ri_lq 10) = true := by decide +kernel
theorem ri_le10_181 : (List.range' 181 41).all (ri_lq 10) = true := by decide +kernel
theorem ri_le10_222 : (List.range' 222 41).all (ri_lq 10) = true := by decide +kernel
theorem ri_le10_263 : (List.range' 263 43).all (ri_lq 10) = true := by decide +kernel
theorem ri_le10_306 : (List.range' 306 48).all (ri_lq 10) = true := by decide +kernel
theorem ri_le10_354 : (List.range' 354 44).all (ri_lq 10) = true := by decide +kernel
theorem ri_le10_398 : (List.range' 398 114).all (ri_lq 10) = true := by decide +kernel
theorem ri_le11_0 : (List.range' 0 48).all (ri_lq 11) = true := by decide +kernel
theorem ri_le11_48 : (List.range' 48 40).all (ri_lq 11) = true := by decide +kernel
theorem ri_le11_88 : (List.range' 88 57).all (ri_lq 11) = true := by decide +kernel
theorem ri_le11_145 : (List.range' 145 41).all (ri_lq 11) = true := by decide +kernel
theorem ri_le11_186 : (List.range' 186 50).all (ri_lq 11) = true := by decide +kernel
theorem ri_le11_236 : (List.range' 236 43).all (ri_lq 11) = true := by decide +kernel
theorem ri_le11_279 : (List.range' 279 47).all (ri_lq 11) = true := by decide +kernel
theorem ri_le11_326 : (List.range' 326 38).all (ri_lq 11) = true := by decide +kernel
theorem ri_le11_364 : (List.range' 364 38).all (ri_lq 11) = true := by decide +kernel
theorem ri_le11_402 : (List.range' 402 110).all (ri_lq 11) = true := by decide +kernel
theorem ri_le12_0 : (List.range' 0 37).all (ri_lq 12) = true := by decide +kernel
theorem ri_le12_37 : (List.range' 37 28).all (ri_lq 12) = true := by decide +kernel
theorem ri_le12_65 : (List.range' 65 24).all (ri_lq 12) = true := by decide +kernel
theorem ri_le12_89 : (List.range' 89 25).all (ri_lq 12) = true := by decide +kernel
theorem ri_le12_114 : (List.range' 114 24).all (ri_lq 12) = true := by decide +kernel
theorem ri_le12_138 : (List.range' 138 24).all (ri_lq 12) = true := by decide +kernel
theorem ri_le12_162 : (List.range' 162 350).all (ri_lq 12) = true := by decide +kernel
theorem ri_le13_0 : (List.range' 0 512).all (ri_lq 13) = true := by decide +kernel
theorem ri_lf0 : ∀ pc, pc < 512 → ri_lq 0 pc = true := by
  intro pc h
  exact List.all_eq_true.mp ri_le0_0 pc (List.mem_range'_1.mpr ⟨by omega, by omega⟩)
theorem ri_lf1 : ∀ pc, pc < 512 → ri_lq 1 pc = true := by
  intro pc h
  rcases Nat.lt_or_ge pc 59 with q | q
  · exact List.all_eq_true.mp ri_le1_0 pc (List.mem_range'_1.mpr ⟨by omega, by omega⟩)
  exact List.all_eq_true.mp ri_le1_59 pc (List.mem_range'_1.mpr ⟨by omega, by omega⟩)
theorem ri_lf2 : ∀ pc, pc < 512 → ri_lq 2 pc = true := by
  intro pc h
  rcases Nat.lt_or_ge pc 52 with q | q
  · exact List.all_eq_true.mp ri_le2_0 pc (List.mem_range'_1.mpr ⟨by omega, by omega⟩)
  exact List.all_eq_true.mp ri_le2_52 pc (List.mem_range'_1.mpr ⟨by omega, by omega⟩)
theorem ri_lf3 : ∀ pc, pc < 512 → ri_lq 3 pc = true := by
  intro pc h
  rcases Nat.lt_or_ge pc 51 with q | q
  · exact List.all_eq_true.mp ri_le3_0 pc (List.mem_range'_1.mpr ⟨by omega, by omega⟩)
  rcases Nat.lt_or_ge pc 104 with q | q
  · exact List.all_eq_true.mp ri_le3_51 pc (List.mem_range'_1.mpr ⟨by omega, by omega⟩)
  exact List.all_eq_true.mp ri_le3_104 pc (List.mem_range'_1.mpr ⟨by omega, by omega⟩)
theorem ri_lf4 : ∀ pc, pc < 512 → ri_lq 4 pc = true := by
  intro pc h
  rcases Nat.lt_or_ge pc 59 with q | q
  · exact List.all_eq_true.mp ri_le4_0 pc (List.mem_range'_1.mpr ⟨by omega, by omega⟩)
  exact List.all_eq_true.mp ri_le4_59 pc (List.mem_range'_1.mpr ⟨by omega, by omega⟩)
theorem ri_lf5 : ∀ pc, pc < 512 → ri_lq 5 pc = true := by
  intro pc h
  rcases Nat.lt_or_ge pc 62 with q | q
  · exact List.all_eq_true.mp ri_le5_0 pc (List.mem_range'_1.mpr ⟨by omega, by omega⟩)
  exact List.all_eq_true.mp ri_le5_62 pc (List.mem_range'_1.mpr ⟨by omega, by omega⟩)
theorem ri_lf6 : ∀ pc, pc < 512 → ri_lq 6 pc = true := by
  intro pc h
  rcases Nat.lt_or_ge pc 63 with q | q
  · exact List.all_eq_true.mp ri_le6_0 pc (List.mem_range'_1.mpr ⟨by omega, by omega⟩)
  exact List.all_eq_true.mp ri_le6_63 pc (List.mem_range'_1.mpr ⟨by omega, by omega⟩)
theorem ri_lf7 : ∀ pc, pc < 512 → ri_lq 7 pc = true := by
  intro pc h
  exact List.all_eq_true.mp ri_le7_0 pc (List.mem_range'_1.mpr ⟨by omega, by omega⟩)
theorem ri_lf8 : ∀ pc, pc < 512 → ri_lq 8 pc = true := by
  intro pc h
  exact List.all_eq_true.mp ri_le8_0 pc (List.mem_range'_1.mpr ⟨by omega, by omega⟩)
theorem ri_lf9 : ∀ pc, pc < 512 → ri_lq 9 pc = true := by
  intro pc h
  rcases Nat.lt_or_ge pc 54 with q | q
  · exact List.all_eq_true.mp ri_le9_0 pc (List.mem_range'_1.mpr ⟨by omega, by omega⟩)
  exact List.all_eq_true.mp ri_le9_54 pc (List.mem_range'_1.mpr ⟨by omega, by omega⟩)
theorem ri_lf10 : ∀ pc, pc < 512 → ri_lq 10 pc = true := by
  intro pc h
  rcases Nat.lt_or_ge pc 53 with q | q
  · exact List.all_eq_true.mp ri_le10_0 pc (List.mem_range'_1.mpr ⟨by omega, by omega⟩)
  rcases Nat.lt_or_ge pc 97 with q | q
  · exact List.all_eq_true.mp ri_le10_53 pc (List.mem_range'_1.mpr ⟨by omega, by omega⟩)
  rcases Nat.lt_or_ge pc 136 with q | q
  · exact List.all_eq_true.mp ri_le10_97 pc (List.mem_range'_1.mpr ⟨by omega, by omega⟩)
  rcases Nat.lt_or_ge pc 181 with q | q
  · exact List.all_eq_true.mp ri_le10_136 pc (List.mem_range'_1.mpr ⟨by omega, by omega⟩)
  rcases Nat.lt_or_ge pc 222 with q | q
  · exact List.all_eq_true.mp ri_le10_181 pc (List.mem_range'_1.mpr ⟨by omega, by omega⟩)
  rcases Nat.lt_or_ge pc 263 with q | q
  · exact List.all_eq_true.mp ri_le10_222 pc (List.mem_range'_1.mpr ⟨by omega, by omega⟩)
  rcases Nat.lt_or_ge pc 306 with q | q
  · exact List.all_eq_true.mp ri_le10_263 pc (List.mem_range'_1.mpr ⟨by omega, by omega⟩)
  rcases Nat.lt_or_ge pc 354 with q | q
  · exact List.all_eq_true.mp ri_le10_306 pc (List.mem_range'_1.mpr ⟨by omega, by omega⟩)
  rcases Nat.lt_or_ge pc 398 with q | q
  · exact List.all_eq_true.mp ri_le10_354 pc (List.mem_range'_1.mpr ⟨by omega, by omega⟩)
  exact List.all_eq_true.mp ri_le10_398 pc (List.mem_range'_1.mpr ⟨by omega, by omega⟩)
theorem ri_lf11 : ∀ pc, pc < 512 → ri_lq 11 pc = true := by
  intro pc h
  rcases Nat.lt_or_ge pc 48 with q | q
  · exact List.all_eq_true.mp ri_le11_0 pc (List.mem_range'_1.mpr ⟨by omega, by omega⟩)
  rcases Nat.lt_or_ge pc 88 with q | q
  · exact List.all_eq_true.mp ri_le11_48 pc (List.mem_range'_1.mpr ⟨by omega, by omega⟩)
  rcases Nat.lt_or_ge pc 145 with q | q
  · exact List.all_eq_true.mp ri_le11_88 pc (List.mem_range'_1.mpr ⟨by omega, by omega⟩)
  rcases Nat.lt_or_ge pc 186 with q | q
  · exact List.all_eq_true.mp ri_le11_145 pc (List.mem_range'_1.mpr ⟨by omega, by omega⟩)
  rcases Nat.lt_or_ge pc 236 with q | q
  · exact List.all_eq_true.mp ri_le11_186 pc (List.mem_range'_1.mpr ⟨by omega, by omega⟩)
  rcases Nat.lt_or_ge pc 279 with q | q
  · exact List.all_eq_true.mp ri_le11_236 pc (List.mem_range'_1.mpr ⟨by omega, by omega⟩)
  rcases Nat.lt_or_ge pc 326 with q | q
  · exact List.all_eq_true.mp ri_le11_279 pc (List.mem_range'_1.mpr ⟨by omega, by omega⟩)
  rcases Nat.lt_or_ge pc 364 with q | q
  · exact List.all_eq_true.mp ri_le11_326 pc (List.mem_range'_1.mpr ⟨by omega, by omega⟩)
  rcases Nat.lt_or_ge pc 402 with q | q
  · exact List.all_eq_true.mp ri_le11_364 pc (List.mem_range'_1.mpr ⟨by omega, by omega⟩)
  exact List.all_eq_true.mp ri_le11_402 pc (List.mem_range'_1.mpr ⟨by omega, by omega⟩)
theorem ri_lf12 : ∀ pc, pc < 512 → ri_lq 12 pc = true := by
  intro pc h
  rcases Nat.lt_or_ge pc 37 with q | q
  · exact List.all_eq_true.mp ri_le12_0 pc (List.mem_range'_1.mpr ⟨by omega, by omega⟩)
  rcases Nat.lt_or_ge pc 65 with q | q
  · exact List.all_eq_true.mp ri_le12_37 pc (List.mem_range'_1.mpr ⟨by omega, by omega⟩)
  rcases Nat.lt_or_ge pc 89 with q | q
  · exact List.all_eq_true.mp ri_le12_65 pc (List.mem_range'_1.mpr ⟨by omega, by omega⟩)
  rcases Nat.lt_or_ge pc 114 with q | q
  · exact List.all_eq_true.mp ri_le12_89 pc (List.mem_range'_1.mpr ⟨by omega, by omega⟩)
  rcases Nat.lt_or_ge pc 138 with q | q
  · exact List.all_eq_true.mp ri_le12_114 pc (List.mem_range'_1.mpr ⟨by omega, by omega⟩)
  rcases Nat.lt_or_ge pc 162 with q | q
  · exact List.all_eq_true.mp ri_le12_138 pc (List.mem_range'_1.mpr ⟨by omega, by omega⟩)
  exact List.all_eq_true.mp ri_le12_162 pc (List.mem_range'_1.mpr ⟨by omega, by omega⟩)
theorem ri_lf13 : ∀ pc, pc < 512 → ri_lq 13 pc = true := by
  intro pc h
  exact List.all_eq_true.mp ri_le13_0 pc (List.mem_range'_1.mpr ⟨by omega, by omega⟩)
set_option maxRecDepth 100000 in
theorem ri_lq_all : ∀ a i, a < 14 → i < 512 → ri_lq a i = true := by
  intro a i h hp
  rcases Nat.lt_or_ge a 7 with q7 | q7
  · rcases Nat.lt_or_ge a 3 with q3 | q3
    · rcases Nat.lt_or_ge a 1 with q1 | q1
      · obtain rfl : a = 0 := by omega
        exact ri_lf0 i hp
      · rcases Nat.lt_or_ge a 2 with q2 | q2
        · obtain rfl : a = 1 := by omega
          exact ri_lf1 i hp
        · obtain rfl : a = 2 := by omega
          exact ri_lf2 i hp
    · rcases Nat.lt_or_ge a 5 with q5 | q5
      · rcases Nat.lt_or_ge a 4 with q4 | q4
        · obtain rfl : a = 3 := by omega
          exact ri_lf3 i hp
        · obtain rfl : a = 4 := by omega
          exact ri_lf4 i hp
      · rcases Nat.lt_or_ge a 6 with q6 | q6
        · obtain rfl : a = 5 := by omega
          exact ri_lf5 i hp
        · obtain rfl : a = 6 := by omega
          exact ri_lf6 i hp
  · rcases Nat.lt_or_ge a 10 with q10 | q10
    · rcases Nat.lt_or_ge a 8 with q8 | q8
      · obtain rfl : a = 7 := by omega
        exact ri_lf7 i hp
      · rcases Nat.lt_or_ge a 9 with q9 | q9
        · obtain rfl : a = 8 := by omega
          exact ri_lf8 i hp
        · obtain rfl : a = 9 := by omega
          exact ri_lf9 i hp
    · rcases Nat.lt_or_ge a 12 with q12 | q12
      · rcases Nat.lt_or_ge a 11 with q11 | q11
        · obtain rfl : a = 10 := by omega
          exact ri_lf10 i hp
        · obtain rfl : a = 11 := by omega
          exact ri_lf11 i hp
      · rcases Nat.lt_or_ge a 13 with q13 | q13
        · obtain rfl : a = 12 := by omega
          exact ri_lf12 i hp
        · obtain rfl : a = 13 := by omega
          exact ri_lf13 i hp
theorem ri_lt_ok {o i k a b c : Nat} (h : ri_lt o i = some (k, a, b, c)) : ri_lq o i = true ∧ ri_ltt o i = some (k, a, b, c) := by
  unfold ri_lt at h
  cases h1 : Nat.blt o 14 && Nat.blt i 512 with
  | false => rw [h1] at h; cases h
  | true =>
    rw [h1] at h
    rw [Bool.and_eq_true] at h1
    exact ⟨ri_lq_all o i (Nat.le_of_ble_eq_true h1.1) (Nat.le_of_ble_eq_true h1.2), h⟩
theorem ri_lt_f {o i a b c : Nat} (h : ri_lt o i = some (0, a, b, c)) : (match vwCl[a]? with
    | some q => Nat.blt b q.2.2 && ri_fk (ri_on o) i c (q.2.1 b)
    | none => false) = true := by
  obtain ⟨h1, h2⟩ := ri_lt_ok h
  unfold ri_lq at h1
  rw [h2] at h1
  exact h1
theorem ri_lt_m {o i a b c : Nat} (h : ri_lt o i = some (1, a, b, c)) : ri_lk (ri_on o) i a b c = true := by
  obtain ⟨h1, h2⟩ := ri_lt_ok h
  unfold ri_lq at h1
  rw [h2] at h1
  exact h1
theorem ri_ck2_ok {o : Nat} {nm : String} {bs : ByteArray} {pc : Nat} {j : ri_J} (h : ri_ck2 o nm bs pc j = true) : ri_ck (ri_on o) nm bs pc j = true := by
  obtain ⟨ins, len, a, b, c⟩ := j
  cases ins
  case getfield i =>
    unfold ri_ck2 at h
    unfold ri_ck
    rw [Bool.and_eq_true] at h ⊢
    exact ⟨h.1, ri_lt_f (of_decide_eq_true h.2)⟩
  case putfield i =>
    unfold ri_ck2 at h
    unfold ri_ck
    rw [Bool.and_eq_true] at h ⊢
    refine ⟨h.1, ?_⟩
    have h2 : (decide (ri_lt o i = some (0, a, b, c)) && (match vwCl[a]? with
      | some q => (if (q.2.1 b).2.2.2 = true then decide (nm = "<init>") && (decide (c % 2 = 0) && decide ((q.2.1 b).1 = ri_on o)) else true)
      | none => false)) = true := h.2
    rw [Bool.and_eq_true] at h2
    have h3 := ri_lt_f (of_decide_eq_true h2.1)
    have h4 := h2.2
    show (match vwCl[a]? with
      | some q => Nat.blt b q.2.2 && (ri_fk (ri_on o) i c (q.2.1 b) && (if (q.2.1 b).2.2.2 = true then decide (nm = "<init>") && (decide (c % 2 = 0) && decide ((q.2.1 b).1 = ri_on o)) else true))
      | none => false) = true
    cases hq : vwCl[a]? with
    | none => rw [hq] at h3; cases h3
    | some q =>
      rw [hq] at h3 h4
      dsimp only at h3 h4 ⊢
      rw [Bool.and_eq_true] at h3 ⊢
      rw [Bool.and_eq_true]
      exact ⟨h3.1, h3.2, h4⟩
  case invokespecial i =>
    unfold ri_ck2 at h
    unfold ri_ck
    rw [Bool.and_eq_true] at h ⊢
    refine ⟨h.1, ?_⟩
    have h2 : (if c % 16 = 6 then ri_w (c / 16) (.methodLink (ri_on o) i Lib.objectInit) else decide (ri_lt o i = some (1, a, b, c)) && decide (ri_kd a = 1)) = true := h.2
    show (if c % 16 = 6 then ri_w (c / 16) (.methodLink (ri_on o) i Lib.objectInit) else ri_lk (ri_on o) i a b c && decide (ri_kd a = 1)) = true
    by_cases h6 : c % 16 = 6
    · rw [if_pos h6] at h2 ⊢
      exact h2
    · rw [if_neg h6] at h2 ⊢
      rw [Bool.and_eq_true] at h2 ⊢
      exact ⟨ri_lt_m (of_decide_eq_true h2.1), h2.2⟩
  case invokevirtual i =>
    unfold ri_ck2 at h
    unfold ri_ck
    rw [Bool.and_eq_true] at h ⊢
    refine ⟨h.1, ?_⟩
    have h2 : (decide (ri_lt o i = some (1, a, b, c)) && decide (ri_kd a = 2)) = true := h.2
    show (ri_lk (ri_on o) i a b c && decide (ri_kd a = 2)) = true
    rw [Bool.and_eq_true] at h2 ⊢
    exact ⟨ri_lt_m (of_decide_eq_true h2.1), h2.2⟩
  case invokestatic i =>
    unfold ri_ck2 at h
    unfold ri_ck
    rw [Bool.and_eq_true] at h ⊢
    refine ⟨h.1, ?_⟩
    have h2 := h.2
    dsimp only at h2 ⊢
    split at h2
    · next q =>
      rw [q]
      show (ri_lk (ri_on o) i a b c && decide (ri_kd a = 0)) = true
      rw [Bool.and_eq_true] at h2 ⊢
      exact ⟨ri_lt_m (of_decide_eq_true h2.1), h2.2⟩
    · next q =>
      rw [q]
      show (ri_lk (ri_on o) i a b c && decide (ri_kd a = 0)) = true
      rw [Bool.and_eq_true] at h2 ⊢
      exact ⟨ri_lt_m (of_decide_eq_true h2.1), h2.2⟩
    · next q => rw [q]; exact h2
    · next q => rw [q]; exact h2
    · next q => rw [q]; exact h2
    · next q => rw [q]; exact h2
    · split <;> first | rfl | contradiction
  all_goals exact h
def ri_one2 (o : Nat) (nm : String) (bytes : ByteArray) (k : Nat → Option ri_J) (pc : Nat) : Bool := match k pc with
  | some j => ri_ck2 o nm bytes pc j
  | none => true
theorem ri_one2_ok {o : Nat} {nm : String} {bs : ByteArray} {k : Nat → Option ri_J} {pc : Nat} (h : ri_one2 o nm bs k pc = true) : ri_one (ri_on o) nm bs k pc = true := by
  unfold ri_one2 at h
  unfold ri_one
  split at h
  · next j hj =>
    rw [hj]
    exact ri_ck2_ok h
  · next hj => rw [hj]
theorem ri_k0 : ri_mk 0 = true := by decide +kernel
theorem ri_c0_0 : (List.range' 0 28).all (ri_one2 0 "<init>" cX0_init kX0_init) = true := by decide +kernel
theorem ri_k1 : ri_mk 1 = true := by decide +kernel
theorem ri_c1_0 : (List.range' 0 22).all (ri_one2 0 "clear" cX0_clear kX0_clear) = true := by decide +kernel
theorem ri_k2 : ri_mk 2 = true := by decide +kernel
theorem ri_c2_0 : (List.range' 0 21).all (ri_one2 0 "setHours" cX0_setHours kX0_setHours) = true := by decide +kernel
theorem ri_k3 : ri_mk 3 = true := by decide +kernel
theorem ri_c3_0 : (List.range' 0 55).all (ri_one2 0 "add" cX0_add kX0_add) = true := by decide +kernel
theorem ri_k4 : ri_mk 4 = true := by decide +kernel
theorem ri_c4_0 : (List.range' 0 45).all (ri_one2 0 "becomes" cX0_becomes kX0_becomes) = true := by decide +kernel
theorem ri_k5 : ri_mk 5 = true := by decide +kernel
theorem ri_c5_0 : (List.range' 0 24).all (ri_one2 0 "isTold" cX0_isTold kX0_isTold) = true := by decide +kernel
theorem ri_k6 : ri_mk 6 = true := by decide +kernel
theorem ri_c6_0 : (List.range' 0 21).all (ri_one2 0 "worlds" cX0_worlds kX0_worlds) = true := by decide +kernel
theorem ri_k7 : ri_mk 7 = true := by decide +kernel
theorem ri_c7_0 : (List.range' 0 9).all (ri_one2 0 "manyOf" cX0_manyOf kX0_manyOf) = true := by decide +kernel
theorem ri_k8 : ri_mk 8 = true := by decide +kernel
theorem ri_c8_0 : (List.range' 0 27).all (ri_one2 0 "has" cX0_has kX0_has) = true := by decide +kernel
theorem ri_k9 : ri_mk 9 = true := by decide +kernel
theorem ri_c9_0 : (List.range' 0 13).all (ri_one2 0 "firstOf" cX0_firstOf kX0_firstOf) = true := by decide +kernel
theorem ri_k10 : ri_mk 10 = true := by decide +kernel
theorem ri_c10_0 : (List.range' 0 13).all (ri_one2 0 "secondOf" cX0_secondOf kX0_secondOf) = true := by decide +kernel
theorem ri_k11 : ri_mk 11 = true := by decide +kernel
theorem ri_c11_0 : (List.range' 0 10).all (ri_one2 0 "bitsOf" cX0_bitsOf kX0_bitsOf) = true := by decide +kernel
theorem ri_k12 : ri_mk 12 = true := by decide +kernel
theorem ri_c12_0 : (List.range' 0 30).all (ri_one2 0 "bitsOfAll" cX0_bitsOfAll kX0_bitsOfAll) = true := by decide +kernel
theorem ri_k13 : ri_mk 13 = true := by decide +kernel
theorem ri_c13_0 : (List.range' 0 70).all (ri_one2 0 "thingIn" cX0_thingIn kX0_thingIn) = true := by decide +kernel
theorem ri_k14 : ri_mk 14 = true := by decide +kernel
theorem ri_c14_0 : (List.range' 0 5).all (ri_one2 1 "<init>" cX1_init kX1_init) = true := by decide +kernel
theorem ri_k15 : ri_mk 15 = true := by decide +kernel
theorem ri_c15_0 : (List.range' 0 64).all (ri_one2 1 "read" cX1_read kX1_read) = true := by decide +kernel
theorem ri_k16 : ri_mk 16 = true := by decide +kernel
theorem ri_c16_0 : (List.range' 0 128).all (ri_one2 1 "readClause" cX1_readClause kX1_readClause) = true := by decide +kernel
theorem ri_k17 : ri_mk 17 = true := by decide +kernel
theorem ri_c17_0 : (List.range' 0 40).all (ri_one2 1 "kindOf" cX1_kindOf kX1_kindOf) = true := by decide +kernel
theorem ri_k18 : ri_mk 18 = true := by decide +kernel
theorem ri_c18_0 : (List.range' 0 77).all (ri_one2 2 "<init>" cX2_init kX2_init) = true := by decide +kernel
theorem ri_k19 : ri_mk 19 = true := by decide +kernel
theorem ri_c19_0 : (List.range' 0 24).all (ri_one2 2 "open" cX2_open kX2_open) = true := by decide +kernel
theorem ri_k20 : ri_mk 20 = true := by decide +kernel
theorem ri_c20_0 : (List.range' 0 160).all (ri_one2 2 "becomes" cX2_becomes kX2_becomes) = true := by decide +kernel
theorem ri_k21 : ri_mk 21 = true := by decide +kernel
theorem ri_c21_0 : (List.range' 0 48).all (ri_one2 2 "mayStillGive" cX2_mayStillGive kX2_mayStillGive) = true := by decide +kernel
theorem ri_k22 : ri_mk 22 = true := by decide +kernel
theorem ri_c22_0 : (List.range' 0 82).all (ri_one2 2 "takeDown" cX2_takeDown kX2_takeDown) = true := by decide +kernel
theorem ri_k23 : ri_mk 23 = true := by decide +kernel
theorem ri_c23_0 : (List.range' 0 17).all (ri_one2 2 "hasAnswer" cX2_hasAnswer kX2_hasAnswer) = true := by decide +kernel
theorem ri_k24 : ri_mk 24 = true := by decide +kernel
theorem ri_c24_0 : (List.range' 0 24).all (ri_one2 2 "isStruck" cX2_isStruck kX2_isStruck) = true := by decide +kernel
theorem ri_k25 : ri_mk 25 = true := by decide +kernel
theorem ri_c25_0 : (List.range' 0 17).all (ri_one2 2 "setStruck" cX2_setStruck kX2_setStruck) = true := by decide +kernel
theorem ri_k26 : ri_mk 26 = true := by decide +kernel
theorem ri_c26_0 : (List.range' 0 27).all (ri_one2 2 "first" cX2_first kX2_first) = true := by decide +kernel
theorem ri_k27 : ri_mk 27 = true := by decide +kernel
theorem ri_c27_0 : (List.range' 0 27).all (ri_one2 2 "isLookedAt" cX2_isLookedAt kX2_isLookedAt) = true := by decide +kernel
theorem ri_k28 : ri_mk 28 = true := by decide +kernel
theorem ri_c28_0 : (List.range' 0 31).all (ri_one2 2 "struckOnes" cX2_struckOnes kX2_struckOnes) = true := by decide +kernel
theorem ri_k29 : ri_mk 29 = true := by decide +kernel
theorem ri_c29_0 : (List.range' 0 35).all (ri_one2 2 "lookedAtOnes" cX2_lookedAtOnes kX2_lookedAtOnes) = true := by decide +kernel
theorem ri_k30 : ri_mk 30 = true := by decide +kernel
theorem ri_c30_0 : (List.range' 0 46).all (ri_one2 2 "judge" cX2_judge kX2_judge) = true := by decide +kernel
theorem ri_k31 : ri_mk 31 = true := by decide +kernel
theorem ri_c31_0 : (List.range' 0 80).all (ri_one2 3 "<init>" cX3_init kX3_init) = true := by decide +kernel
theorem ri_k32 : ri_mk 32 = true := by decide +kernel
theorem ri_c32_0 : (List.range' 0 16).all (ri_one2 3 "clear" cX3_clear kX3_clear) = true := by decide +kernel
theorem ri_k33 : ri_mk 33 = true := by decide +kernel
theorem ri_c33_0 : (List.range' 0 44).all (ri_one2 3 "put" cX3_put kX3_put) = true := by decide +kernel
theorem ri_k34 : ri_mk 34 = true := by decide +kernel
theorem ri_c34_0 : (List.range' 0 66).all (ri_one2 3 "addClause" cX3_addClause kX3_addClause) = true := by decide +kernel
theorem ri_k35 : ri_mk 35 = true := by decide +kernel
theorem ri_c35_0 : (List.range' 0 11).all (ri_one2 3 "cell" cX3_cell kX3_cell) = true := by decide +kernel
theorem ri_k36 : ri_mk 36 = true := by decide +kernel
theorem ri_c36_0 : (List.range' 0 33).all (ri_one2 3 "farOf" cX3_farOf kX3_farOf) = true := by decide +kernel
theorem ri_k37 : ri_mk 37 = true := by decide +kernel
theorem ri_c37_0 : (List.range' 0 14).all (ri_one2 3 "nearOf" cX3_nearOf kX3_nearOf) = true := by decide +kernel
theorem ri_k38 : ri_mk 38 = true := by decide +kernel
theorem ri_c38_0 : (List.range' 0 31).all (ri_one2 3 "measure" cX3_measure kX3_measure) = true := by decide +kernel
theorem ri_k39 : ri_mk 39 = true := by decide +kernel
theorem ri_c39_0 : (List.range' 0 80).all (ri_one2 3 "measureFar" cX3_measureFar kX3_measureFar) = true := by decide +kernel
theorem ri_k40 : ri_mk 40 = true := by decide +kernel
theorem ri_c40_0 : (List.range' 0 103).all (ri_one2 3 "measureNear" cX3_measureNear kX3_measureNear) = true := by decide +kernel
theorem ri_k41 : ri_mk 41 = true := by decide +kernel
theorem ri_c41_0 : (List.range' 0 184).all (ri_one2 3 "setWords" cX3_setWords kX3_setWords) = true := by decide +kernel
theorem ri_k42 : ri_mk 42 = true := by decide +kernel
theorem ri_c42_0 : (List.range' 0 27).all (ri_one2 3 "setWord" cX3_setWord kX3_setWord) = true := by decide +kernel
theorem ri_k43 : ri_mk 43 = true := by decide +kernel
theorem ri_c43_0 : (List.range' 0 29).all (ri_one2 3 "wordOf" cX3_wordOf kX3_wordOf) = true := by decide +kernel
theorem ri_k44 : ri_mk 44 = true := by decide +kernel
theorem ri_c44_0 : (List.range' 0 102).all (ri_one2 3 "farByClauses" cX3_farByClauses kX3_farByClauses) = true := by decide +kernel
theorem ri_k45 : ri_mk 45 = true := by decide +kernel
theorem ri_c45_0 : (List.range' 0 114).all (ri_one2 3 "run" cX3_run kX3_run) = true := by decide +kernel
theorem ri_k46 : ri_mk 46 = true := by decide +kernel
theorem ri_c46_0 : (List.range' 0 40).all (ri_one2 3 "push" cX3_push kX3_push) = true := by decide +kernel
theorem ri_k47 : ri_mk 47 = true := by decide +kernel
theorem ri_c47_0 : (List.range' 0 42).all (ri_one2 3 "pop" cX3_pop kX3_pop) = true := by decide +kernel
theorem ri_k48 : ri_mk 48 = true := by decide +kernel
theorem ri_c48_0 : (List.range' 0 174).all (ri_one2 3 "joined" cX3_joined kX3_joined) = true := by decide +kernel
theorem ri_k49 : ri_mk 49 = true := by decide +kernel
theorem ri_c49_0 : (List.range' 0 5).all (ri_one2 4 "<init>" cX4_init kX4_init) = true := by decide +kernel
theorem ri_k50 : ri_mk 50 = true := by decide +kernel
theorem ri_c50_0 : (List.range' 0 136).all (ri_one2 4 "read" cX4_read kX4_read) = true := by decide +kernel
theorem ri_k51 : ri_mk 51 = true := by decide +kernel
theorem ri_c51_0 : (List.range' 0 36).all (ri_one2 4 "kindOf" cX4_kindOf kX4_kindOf) = true := by decide +kernel
theorem ri_k52 : ri_mk 52 = true := by decide +kernel
theorem ri_c52_0 : (List.range' 0 94).all (ri_one2 4 "readTest" cX4_readTest kX4_readTest) = true := by decide +kernel
theorem ri_k53 : ri_mk 53 = true := by decide +kernel
theorem ri_c53_0 : (List.range' 0 180).all (ri_one2 4 "readFact" cX4_readFact kX4_readFact) = true := by decide +kernel
theorem ri_k54 : ri_mk 54 = true := by decide +kernel
theorem ri_c54_0 : (List.range' 0 101).all (ri_one2 4 "readSum" cX4_readSum kX4_readSum) = true := by decide +kernel
theorem ri_k55 : ri_mk 55 = true := by decide +kernel
theorem ri_c55_0 : (List.range' 0 119).all (ri_one2 4 "readValue" cX4_readValue kX4_readValue) = true := by decide +kernel
theorem ri_k56 : ri_mk 56 = true := by decide +kernel
theorem ri_c56_0 : (List.range' 0 29).all (ri_one2 5 "<init>" cX5_init kX5_init) = true := by decide +kernel
theorem ri_k57 : ri_mk 57 = true := by decide +kernel
theorem ri_c57_0 : (List.range' 0 65).all (ri_one2 5 "fill" cX5_fill kX5_fill) = true := by decide +kernel
theorem ri_k58 : ri_mk 58 = true := by decide +kernel
theorem ri_c58_0 : (List.range' 0 53).all (ri_one2 5 "add" cX5_add kX5_add) = true := by decide +kernel
theorem ri_k59 : ri_mk 59 = true := by decide +kernel
theorem ri_c59_0 : (List.range' 0 29).all (ri_one2 5 "nearForFirst" cX5_nearForFirst kX5_nearForFirst) = true := by decide +kernel
theorem ri_k60 : ri_mk 60 = true := by decide +kernel
theorem ri_c60_0 : (List.range' 0 29).all (ri_one2 5 "nearForSecond" cX5_nearForSecond kX5_nearForSecond) = true := by decide +kernel
theorem ri_k61 : ri_mk 61 = true := by decide +kernel
theorem ri_c61_0 : (List.range' 0 19).all (ri_one2 5 "leftForFirst" cX5_leftForFirst kX5_leftForFirst) = true := by decide +kernel
theorem ri_k62 : ri_mk 62 = true := by decide +kernel
theorem ri_c62_0 : (List.range' 0 19).all (ri_one2 5 "leftForSecond" cX5_leftForSecond kX5_leftForSecond) = true := by decide +kernel
theorem ri_k63 : ri_mk 63 = true := by decide +kernel
theorem ri_c63_0 : (List.range' 0 18).all (ri_one2 5 "greaterLeft" cX5_greaterLeft kX5_greaterLeft) = true := by decide +kernel
theorem ri_k64 : ri_mk 64 = true := by decide +kernel
theorem ri_c64_0 : (List.range' 0 47).all (ri_one2 5 "nearAsIn" cX5_nearAsIn kX5_nearAsIn) = true := by decide +kernel
theorem ri_k65 : ri_mk 65 = true := by decide +kernel
theorem ri_c65_0 : (List.range' 0 23).all (ri_one2 5 "leftAsIn" cX5_leftAsIn kX5_leftAsIn) = true := by decide +kernel
theorem ri_k66 : ri_mk 66 = true := by decide +kernel
theorem ri_c66_0 : (List.range' 0 95).all (ri_one2 5 "best" cX5_best kX5_best) = true := by decide +kernel
theorem ri_k67 : ri_mk 67 = true := by decide +kernel
theorem ri_c67_0 : (List.range' 0 64).all (ri_one2 5 "told" cX5_told kX5_told) = true := by decide +kernel
theorem ri_k68 : ri_mk 68 = true := by decide +kernel
theorem ri_c68_0 : (List.range' 0 30).all (ri_one2 6 "<init>" cX6_init kX6_init) = true := by decide +kernel
theorem ri_k69 : ri_mk 69 = true := by decide +kernel
theorem ri_c69_0 : (List.range' 0 30).all (ri_one2 6 "clear" cX6_clear kX6_clear) = true := by decide +kernel
theorem ri_k70 : ri_mk 70 = true := by decide +kernel
theorem ri_c70_0 : (List.range' 0 119).all (ri_one2 6 "add" cX6_add kX6_add) = true := by decide +kernel
theorem ri_k71 : ri_mk 71 = true := by decide +kernel
theorem ri_c71_0 : (List.range' 0 51).all (ri_one2 6 "pairsForAll" cX6_pairsForAll kX6_pairsForAll) = true := by decide +kernel
theorem ri_k72 : ri_mk 72 = true := by decide +kernel
theorem ri_c72_0 : (List.range' 0 96).all (ri_one2 6 "fewestFor" cX6_fewestFor kX6_fewestFor) = true := by decide +kernel
theorem ri_k73 : ri_mk 73 = true := by decide +kernel
theorem ri_c73_0 : (List.range' 0 13).all (ri_one2 7 "<init>" cX7_init kX7_init) = true := by decide +kernel
theorem ri_k74 : ri_mk 74 = true := by decide +kernel
theorem ri_c74_0 : (List.range' 0 13).all (ri_one2 7 "clear" cX7_clear kX7_clear) = true := by decide +kernel
theorem ri_k75 : ri_mk 75 = true := by decide +kernel
theorem ri_c75_0 : (List.range' 0 38).all (ri_one2 7 "add" cX7_add kX7_add) = true := by decide +kernel
theorem ri_k76 : ri_mk 76 = true := by decide +kernel
theorem ri_c76_0 : (List.range' 0 19).all (ri_one2 7 "addOne" cX7_addOne kX7_addOne) = true := by decide +kernel
theorem ri_k77 : ri_mk 77 = true := by decide +kernel
theorem ri_c77_0 : (List.range' 0 13).all (ri_one2 7 "with" cX7_with kX7_with) = true := by decide +kernel
theorem ri_k78 : ri_mk 78 = true := by decide +kernel
theorem ri_c78_0 : (List.range' 0 40).all (ri_one2 7 "withAny" cX7_withAny kX7_withAny) = true := by decide +kernel
theorem ri_k79 : ri_mk 79 = true := by decide +kernel
theorem ri_c79_0 : (List.range' 0 33).all (ri_one2 7 "thingsOf" cX7_thingsOf kX7_thingsOf) = true := by decide +kernel
theorem ri_k80 : ri_mk 80 = true := by decide +kernel
theorem ri_c80_0 : (List.range' 0 140).all (ri_one2 7 "fillWith" cX7_fillWith kX7_fillWith) = true := by decide +kernel
theorem ri_k81 : ri_mk 81 = true := by decide +kernel
theorem ri_c81_0 : (List.range' 0 60).all (ri_one2 7 "keepOnly" cX7_keepOnly kX7_keepOnly) = true := by decide +kernel
theorem ri_k82 : ri_mk 82 = true := by decide +kernel
theorem ri_c82_0 : (List.range' 0 14).all (ri_one2 8 "<init>" cX8_init kX8_init) = true := by decide +kernel
theorem ri_k83 : ri_mk 83 = true := by decide +kernel
theorem ri_c83_0 : (List.range' 0 52).all (ri_one2 8 "putNumber" cX8_putNumber kX8_putNumber) = true := by decide +kernel
theorem ri_k84 : ri_mk 84 = true := by decide +kernel
theorem ri_c84_0 : (List.range' 0 38).all (ri_one2 8 "byteAt" cX8_byteAt kX8_byteAt) = true := by decide +kernel
theorem ri_k85 : ri_mk 85 = true := by decide +kernel
theorem ri_c85_0 : (List.range' 0 25).all (ri_one2 8 "isBetween" cX8_isBetween kX8_isBetween) = true := by decide +kernel
theorem ri_k86 : ri_mk 86 = true := by decide +kernel
theorem ri_c86_0 : (List.range' 0 51).all (ri_one2 8 "spells" cX8_spells kX8_spells) = true := by decide +kernel
theorem ri_k87 : ri_mk 87 = true := by decide +kernel
theorem ri_c87_0 : (List.range' 0 32).all (ri_one2 9 "<init>" cX9_init kX9_init) = true := by decide +kernel
theorem ri_k88 : ri_mk 88 = true := by decide +kernel
theorem ri_c88_0 : (List.range' 0 58).all (ri_one2 9 "cut" cX9_cut kX9_cut) = true := by decide +kernel
theorem ri_k89 : ri_mk 89 = true := by decide +kernel
theorem ri_c89_0 : (List.range' 0 54).all (ri_one2 9 "put" cX9_put kX9_put) = true := by decide +kernel
theorem ri_k90 : ri_mk 90 = true := by decide +kernel
theorem ri_c90_0 : (List.range' 0 141).all (ri_one2 9 "cutOne" cX9_cutOne kX9_cutOne) = true := by decide +kernel
theorem ri_k91 : ri_mk 91 = true := by decide +kernel
theorem ri_c91_0 : (List.range' 0 33).all (ri_one2 9 "endOf" cX9_endOf kX9_endOf) = true := by decide +kernel
theorem ri_k92 : ri_mk 92 = true := by decide +kernel
theorem ri_c92_0 : (List.range' 0 43).all (ri_one2 9 "numberAt" cX9_numberAt kX9_numberAt) = true := by decide +kernel
theorem ri_k93 : ri_mk 93 = true := by decide +kernel
theorem ri_c93_0 : (List.range' 0 139).all (ri_one2 9 "byteSign" cX9_byteSign kX9_byteSign) = true := by decide +kernel
theorem ri_k94 : ri_mk 94 = true := by decide +kernel
theorem ri_c94_0 : (List.range' 0 119).all (ri_one2 9 "wordSign" cX9_wordSign kX9_wordSign) = true := by decide +kernel
theorem ri_k95 : ri_mk 95 = true := by decide +kernel
theorem ri_c95_0 : (List.range' 0 114).all (ri_one2 9 "valueWordSign" cX9_valueWordSign kX9_valueWordSign) = true := by decide +kernel
theorem ri_k96 : ri_mk 96 = true := by decide +kernel
theorem ri_c96_0 : (List.range' 0 12).all (ri_one2 9 "sign" cX9_sign kX9_sign) = true := by decide +kernel
theorem ri_k97 : ri_mk 97 = true := by decide +kernel
theorem ri_c97_0 : (List.range' 0 12).all (ri_one2 9 "number" cX9_number kX9_number) = true := by decide +kernel
theorem ri_k98 : ri_mk 98 = true := by decide +kernel
theorem ri_c98_0 : (List.range' 0 24).all (ri_one2 9 "skip" cX9_skip kX9_skip) = true := by decide +kernel
theorem ri_k99 : ri_mk 99 = true := by decide +kernel
theorem ri_c99_0 : (List.range' 0 23).all (ri_one2 9 "take" cX9_take kX9_take) = true := by decide +kernel
theorem ri_k100 : ri_mk 100 = true := by decide +kernel
theorem ri_c100_0 : (List.range' 0 40).all (ri_one2 9 "fail" cX9_fail kX9_fail) = true := by decide +kernel
theorem ri_k101 : ri_mk 101 = true := by decide +kernel
theorem ri_c101_0 : (List.range' 0 59).all (ri_one2 9 "takeNumber" cX9_takeNumber kX9_takeNumber) = true := by decide +kernel
theorem ri_k102 : ri_mk 102 = true := by decide +kernel
theorem ri_c102_0 : (List.range' 0 206).all (ri_one2 10 "<init>" cX10_init kX10_init) = true := by decide +kernel
theorem ri_c102_206 : (List.range' 206 27).all (ri_one2 10 "<init>" cX10_init kX10_init) = true := by decide +kernel
theorem ri_k103 : ri_mk 103 = true := by decide +kernel
theorem ri_c103_0 : (List.range' 0 68).all (ri_one2 10 "feed" cX10_feed kX10_feed) = true := by decide +kernel
theorem ri_k104 : ri_mk 104 = true := by decide +kernel
theorem ri_c104_0 : (List.range' 0 27).all (ri_one2 10 "end" cX10_end kX10_end) = true := by decide +kernel
theorem ri_k105 : ri_mk 105 = true := by decide +kernel
theorem ri_c105_0 : (List.range' 0 81).all (ri_one2 10 "court" cX10_court kX10_court) = true := by decide +kernel
theorem ri_k106 : ri_mk 106 = true := by decide +kernel
theorem ri_c106_0 : (List.range' 0 96).all (ri_one2 10 "law" cX10_law kX10_law) = true := by decide +kernel
theorem ri_k107 : ri_mk 107 = true := by decide +kernel
theorem ri_c107_0 : (List.range' 0 101).all (ri_one2 10 "thing" cX10_thing kX10_thing) = true := by decide +kernel
theorem ri_k108 : ri_mk 108 = true := by decide +kernel
theorem ri_c108_0 : (List.range' 0 57).all (ri_one2 10 "far" cX10_far kX10_far) = true := by decide +kernel
theorem ri_k109 : ri_mk 109 = true := by decide +kernel
theorem ri_c109_0 : (List.range' 0 74).all (ri_one2 10 "answer" cX10_answer kX10_answer) = true := by decide +kernel
theorem ri_k110 : ri_mk 110 = true := by decide +kernel
theorem ri_c110_0 : (List.range' 0 115).all (ri_one2 10 "answers" cX10_answers kX10_answers) = true := by decide +kernel
theorem ri_k111 : ri_mk 111 = true := by decide +kernel
theorem ri_c111_0 : (List.range' 0 36).all (ri_one2 10 "strike" cX10_strike kX10_strike) = true := by decide +kernel
theorem ri_k112 : ri_mk 112 = true := by decide +kernel
theorem ri_c112_0 : (List.range' 0 32).all (ri_one2 10 "only" cX10_only kX10_only) = true := by decide +kernel
theorem ri_k113 : ri_mk 113 = true := by decide +kernel
theorem ri_c113_0 : (List.range' 0 22).all (ri_one2 10 "spare" cX10_spare kX10_spare) = true := by decide +kernel
theorem ri_k114 : ri_mk 114 = true := by decide +kernel
theorem ri_c114_0 : (List.range' 0 59).all (ri_one2 10 "holds" cX10_holds kX10_holds) = true := by decide +kernel
theorem ri_k115 : ri_mk 115 = true := by decide +kernel
theorem ri_c115_0 : (List.range' 0 52).all (ri_one2 10 "wrong" cX10_wrong kX10_wrong) = true := by decide +kernel
theorem ri_k116 : ri_mk 116 = true := by decide +kernel
theorem ri_c116_0 : (List.range' 0 23).all (ri_one2 10 "kept" cX10_kept kX10_kept) = true := by decide +kernel
theorem ri_k117 : ri_mk 117 = true := by decide +kernel
theorem ri_c117_0 : (List.range' 0 70).all (ri_one2 10 "world" cX10_world kX10_world) = true := by decide +kernel
theorem ri_k118 : ri_mk 118 = true := by decide +kernel
theorem ri_c118_0 : (List.range' 0 42).all (ri_one2 10 "may" cX10_may kX10_may) = true := by decide +kernel
theorem ri_k119 : ri_mk 119 = true := by decide +kernel
theorem ri_c119_0 : (List.range' 0 36).all (ri_one2 10 "cleared" cX10_cleared kX10_cleared) = true := by decide +kernel
theorem ri_k120 : ri_mk 120 = true := by decide +kernel
theorem ri_c120_0 : (List.range' 0 77).all (ri_one2 10 "fewest" cX10_fewest kX10_fewest) = true := by decide +kernel
theorem ri_k121 : ri_mk 121 = true := by decide +kernel
theorem ri_c121_0 : (List.range' 0 81).all (ri_one2 10 "falseOnes" cX10_falseOnes kX10_falseOnes) = true := by decide +kernel
theorem ri_k122 : ri_mk 122 = true := by decide +kernel
theorem ri_c122_0 : (List.range' 0 111).all (ri_one2 10 "liars" cX10_liars kX10_liars) = true := by decide +kernel
theorem ri_k123 : ri_mk 123 = true := by decide +kernel
theorem ri_c123_0 : (List.range' 0 124).all (ri_one2 10 "quarrel" cX10_quarrel kX10_quarrel) = true := by decide +kernel
theorem ri_k124 : ri_mk 124 = true := by decide +kernel
theorem ri_c124_0 : (List.range' 0 107).all (ri_one2 10 "proof" cX10_proof kX10_proof) = true := by decide +kernel
theorem ri_k125 : ri_mk 125 = true := by decide +kernel
theorem ri_c125_0 : (List.range' 0 126).all (ri_one2 10 "byLaws" cX10_byLaws kX10_byLaws) = true := by decide +kernel
theorem ri_k126 : ri_mk 126 = true := by decide +kernel
theorem ri_c126_0 : (List.range' 0 60).all (ri_one2 10 "looks" cX10_looks kX10_looks) = true := by decide +kernel
theorem ri_k127 : ri_mk 127 = true := by decide +kernel
theorem ri_c127_0 : (List.range' 0 53).all (ri_one2 10 "sure" cX10_sure kX10_sure) = true := by decide +kernel
theorem ri_k128 : ri_mk 128 = true := by decide +kernel
theorem ri_c128_0 : (List.range' 0 41).all (ri_one2 10 "alone" cX10_alone kX10_alone) = true := by decide +kernel
theorem ri_k129 : ri_mk 129 = true := by decide +kernel
theorem ri_c129_0 : (List.range' 0 128).all (ri_one2 10 "mean" cX10_mean kX10_mean) = true := by decide +kernel
theorem ri_k130 : ri_mk 130 = true := by decide +kernel
theorem ri_c130_0 : (List.range' 0 162).all (ri_one2 10 "filled" cX10_filled kX10_filled) = true := by decide +kernel
theorem ri_k131 : ri_mk 131 = true := by decide +kernel
theorem ri_c131_0 : (List.range' 0 47).all (ri_one2 10 "useful" cX10_useful kX10_useful) = true := by decide +kernel
theorem ri_k132 : ri_mk 132 = true := by decide +kernel
theorem ri_c132_0 : (List.range' 0 119).all (ri_one2 10 "next" cX10_next kX10_next) = true := by decide +kernel
theorem ri_k133 : ri_mk 133 = true := by decide +kernel
theorem ri_c133_0 : (List.range' 0 135).all (ri_one2 10 "needed" cX10_needed kX10_needed) = true := by decide +kernel
theorem ri_k134 : ri_mk 134 = true := by decide +kernel
theorem ri_c134_0 : (List.range' 0 205).all (ri_one2 10 "steered" cX10_steered kX10_steered) = true := by decide +kernel
theorem ri_c134_205 : (List.range' 205 6).all (ri_one2 10 "steered" cX10_steered kX10_steered) = true := by decide +kernel
theorem ri_k135 : ri_mk 135 = true := by decide +kernel
theorem ri_c135_0 : (List.range' 0 24).all (ri_one2 10 "seed" cX10_seed kX10_seed) = true := by decide +kernel
theorem ri_k136 : ri_mk 136 = true := by decide +kernel
theorem ri_c136_0 : (List.range' 0 173).all (ri_one2 10 "trials" cX10_trials kX10_trials) = true := by decide +kernel
theorem ri_k137 : ri_mk 137 = true := by decide +kernel
theorem ri_c137_0 : (List.range' 0 63).all (ri_one2 10 "verdict" cX10_verdict kX10_verdict) = true := by decide +kernel
theorem ri_k138 : ri_mk 138 = true := by decide +kernel
theorem ri_c138_0 : (List.range' 0 143).all (ri_one2 10 "old" cX10_old kX10_old) = true := by decide +kernel
theorem ri_k139 : ri_mk 139 = true := by decide +kernel
theorem ri_c139_0 : (List.range' 0 123).all (ri_one2 10 "count" cX10_count kX10_count) = true := by decide +kernel
theorem ri_k140 : ri_mk 140 = true := by decide +kernel
theorem ri_c140_0 : (List.range' 0 47).all (ri_one2 10 "image" cX10_image kX10_image) = true := by decide +kernel
theorem ri_k141 : ri_mk 141 = true := by decide +kernel
theorem ri_c141_0 : (List.range' 0 53).all (ri_one2 10 "back" cX10_back kX10_back) = true := by decide +kernel
theorem ri_k142 : ri_mk 142 = true := by decide +kernel
theorem ri_c142_0 : (List.range' 0 15).all (ri_one2 10 "isOutside" cX10_isOutside kX10_isOutside) = true := by decide +kernel
theorem ri_k143 : ri_mk 143 = true := by decide +kernel
theorem ri_c143_0 : (List.range' 0 18).all (ri_one2 10 "at" cX10_at kX10_at) = true := by decide +kernel
theorem ri_k144 : ri_mk 144 = true := by decide +kernel
theorem ri_c144_0 : (List.range' 0 15).all (ri_one2 10 "set" cX10_set kX10_set) = true := by decide +kernel
theorem ri_k145 : ri_mk 145 = true := by decide +kernel
theorem ri_c145_0 : (List.range' 0 7).all (ri_one2 10 "slot" cX10_slot kX10_slot) = true := by decide +kernel
theorem ri_k146 : ri_mk 146 = true := by decide +kernel
theorem ri_c146_0 : (List.range' 0 29).all (ri_one2 10 "isLesserSet" cX10_isLesserSet kX10_isLesserSet) = true := by decide +kernel
theorem ri_k147 : ri_mk 147 = true := by decide +kernel
theorem ri_c147_0 : (List.range' 0 16).all (ri_one2 10 "drawn" cX10_drawn kX10_drawn) = true := by decide +kernel
theorem ri_k148 : ri_mk 148 = true := by decide +kernel
theorem ri_c148_0 : (List.range' 0 23).all (ri_one2 10 "lowerBound" cX10_lowerBound kX10_lowerBound) = true := by decide +kernel
theorem ri_k149 : ri_mk 149 = true := by decide +kernel
theorem ri_c149_0 : (List.range' 0 51).all (ri_one2 10 "courtIsAnother" cX10_courtIsAnother kX10_courtIsAnother) = true := by decide +kernel
theorem ri_k150 : ri_mk 150 = true := by decide +kernel
theorem ri_c150_0 : (List.range' 0 66).all (ri_one2 10 "lawInUse" cX10_lawInUse kX10_lawInUse) = true := by decide +kernel
theorem ri_k151 : ri_mk 151 = true := by decide +kernel
theorem ri_c151_0 : (List.range' 0 47).all (ri_one2 10 "lawWithKept" cX10_lawWithKept kX10_lawWithKept) = true := by decide +kernel
theorem ri_k152 : ri_mk 152 = true := by decide +kernel
theorem ri_c152_0 : (List.range' 0 38).all (ri_one2 10 "nearThings" cX10_nearThings kX10_nearThings) = true := by decide +kernel
theorem ri_k153 : ri_mk 153 = true := by decide +kernel
theorem ri_c153_0 : (List.range' 0 44).all (ri_one2 10 "trueThings" cX10_trueThings kX10_trueThings) = true := by decide +kernel
theorem ri_k154 : ri_mk 154 = true := by decide +kernel
theorem ri_c154_0 : (List.range' 0 45).all (ri_one2 10 "isTrue" cX10_isTrue kX10_isTrue) = true := by decide +kernel
theorem ri_k155 : ri_mk 155 = true := by decide +kernel
theorem ri_c155_0 : (List.range' 0 42).all (ri_one2 10 "hasWorld" cX10_hasWorld kX10_hasWorld) = true := by decide +kernel
theorem ri_k156 : ri_mk 156 = true := by decide +kernel
theorem ri_c156_0 : (List.range' 0 210).all (ri_one2 10 "countFalse" cX10_countFalse kX10_countFalse) = true := by decide +kernel
theorem ri_c156_210 : (List.range' 210 25).all (ri_one2 10 "countFalse" cX10_countFalse kX10_countFalse) = true := by decide +kernel
theorem ri_k157 : ri_mk 157 = true := by decide +kernel
theorem ri_c157_0 : (List.range' 0 58).all (ri_one2 10 "addFalse" cX10_addFalse kX10_addFalse) = true := by decide +kernel
theorem ri_k158 : ri_mk 158 = true := by decide +kernel
theorem ri_c158_0 : (List.range' 0 19).all (ri_one2 10 "empty" cX10_empty kX10_empty) = true := by decide +kernel
theorem ri_k159 : ri_mk 159 = true := by decide +kernel
theorem ri_c159_0 : (List.range' 0 120).all (ri_one2 10 "fillKept" cX10_fillKept kX10_fillKept) = true := by decide +kernel
theorem ri_k160 : ri_mk 160 = true := by decide +kernel
theorem ri_c160_0 : (List.range' 0 41).all (ri_one2 10 "worldsWithAtMost" cX10_worldsWithAtMost kX10_worldsWithAtMost) = true := by decide +kernel
theorem ri_k161 : ri_mk 161 = true := by decide +kernel
theorem ri_c161_0 : (List.range' 0 61).all (ri_one2 10 "bestWorld" cX10_bestWorld kX10_bestWorld) = true := by decide +kernel
theorem ri_k162 : ri_mk 162 = true := by decide +kernel
theorem ri_c162_0 : (List.range' 0 139).all (ri_one2 10 "markLiars" cX10_markLiars kX10_markLiars) = true := by decide +kernel
theorem ri_k163 : ri_mk 163 = true := by decide +kernel
theorem ri_c163_0 : (List.range' 0 59).all (ri_one2 10 "gatherProof" cX10_gatherProof kX10_gatherProof) = true := by decide +kernel
theorem ri_k164 : ri_mk 164 = true := by decide +kernel
theorem ri_c164_0 : (List.range' 0 79).all (ri_one2 10 "provesMan" cX10_provesMan kX10_provesMan) = true := by decide +kernel
theorem ri_k165 : ri_mk 165 = true := by decide +kernel
theorem ri_c165_0 : (List.range' 0 125).all (ri_one2 10 "countKeptBy" cX10_countKeptBy kX10_countKeptBy) = true := by decide +kernel
theorem ri_k166 : ri_mk 166 = true := by decide +kernel
theorem ri_c166_0 : (List.range' 0 72).all (ri_one2 10 "usefulPairs" cX10_usefulPairs kX10_usefulPairs) = true := by decide +kernel
theorem ri_k167 : ri_mk 167 = true := by decide +kernel
theorem ri_c167_0 : (List.range' 0 132).all (ri_one2 10 "trial" cX10_trial kX10_trial) = true := by decide +kernel
theorem ri_k168 : ri_mk 168 = true := by decide +kernel
theorem ri_c168_0 : (List.range' 0 175).all (ri_one2 11 "<init>" cX11_init kX11_init) = true := by decide +kernel
theorem ri_k169 : ri_mk 169 = true := by decide +kernel
theorem ri_c169_0 : (List.range' 0 19).all (ri_one2 11 "in" cX11_in kX11_in) = true := by decide +kernel
theorem ri_k170 : ri_mk 170 = true := by decide +kernel
theorem ri_c170_0 : (List.range' 0 24).all (ri_one2 11 "bits" cX11_bits kX11_bits) = true := by decide +kernel
theorem ri_k171 : ri_mk 171 = true := by decide +kernel
theorem ri_c171_0 : (List.range' 0 37).all (ri_one2 11 "four" cX11_four kX11_four) = true := by decide +kernel
theorem ri_k172 : ri_mk 172 = true := by decide +kernel
theorem ri_c172_0 : (List.range' 0 47).all (ri_one2 11 "feed" cX11_feed kX11_feed) = true := by decide +kernel
theorem ri_k173 : ri_mk 173 = true := by decide +kernel
theorem ri_c173_0 : (List.range' 0 21).all (ri_one2 11 "end" cX11_end kX11_end) = true := by decide +kernel
theorem ri_k174 : ri_mk 174 = true := by decide +kernel
theorem ri_c174_0 : (List.range' 0 21).all (ri_one2 11 "fails" cX11_fails kX11_fails) = true := by decide +kernel
theorem ri_k175 : ri_mk 175 = true := by decide +kernel
theorem ri_c175_0 : (List.range' 0 67).all (ri_one2 11 "see" cX11_see kX11_see) = true := by decide +kernel
theorem ri_k176 : ri_mk 176 = true := by decide +kernel
theorem ri_c176_0 : (List.range' 0 36).all (ri_one2 11 "isDigit" cX11_isDigit kX11_isDigit) = true := by decide +kernel
theorem ri_k177 : ri_mk 177 = true := by decide +kernel
theorem ri_c177_0 : (List.range' 0 36).all (ri_one2 11 "isLetter" cX11_isLetter kX11_isLetter) = true := by decide +kernel
theorem ri_k178 : ri_mk 178 = true := by decide +kernel
theorem ri_c178_0 : (List.range' 0 80).all (ri_one2 11 "isWord" cX11_isWord kX11_isWord) = true := by decide +kernel
theorem ri_k179 : ri_mk 179 = true := by decide +kernel
theorem ri_c179_0 : (List.range' 0 25).all (ri_one2 11 "passWord" cX11_passWord kX11_passWord) = true := by decide +kernel
theorem ri_k180 : ri_mk 180 = true := by decide +kernel
theorem ri_c180_0 : (List.range' 0 16).all (ri_one2 11 "takesWord" cX11_takesWord kX11_takesWord) = true := by decide +kernel
theorem ri_k181 : ri_mk 181 = true := by decide +kernel
theorem ri_c181_0 : (List.range' 0 132).all (ri_one2 11 "numberHere" cX11_numberHere kX11_numberHere) = true := by decide +kernel
theorem ri_k182 : ri_mk 182 = true := by decide +kernel
theorem ri_c182_0 : (List.range' 0 104).all (ri_one2 11 "wordHere" cX11_wordHere kX11_wordHere) = true := by decide +kernel
theorem ri_k183 : ri_mk 183 = true := by decide +kernel
theorem ri_c183_0 : (List.range' 0 43).all (ri_one2 11 "puts" cX11_puts kX11_puts) = true := by decide +kernel
theorem ri_k184 : ri_mk 184 = true := by decide +kernel
theorem ri_c184_0 : (List.range' 0 28).all (ri_one2 11 "makes" cX11_makes kX11_makes) = true := by decide +kernel
theorem ri_k185 : ri_mk 185 = true := by decide +kernel
theorem ri_c185_0 : (List.range' 0 51).all (ri_one2 11 "opens" cX11_opens kX11_opens) = true := by decide +kernel
theorem ri_k186 : ri_mk 186 = true := by decide +kernel
theorem ri_c186_0 : (List.range' 0 32).all (ri_one2 11 "strength" cX11_strength kX11_strength) = true := by decide +kernel
theorem ri_k187 : ri_mk 187 = true := by decide +kernel
theorem ri_c187_0 : (List.range' 0 77).all (ri_one2 11 "settles" cX11_settles kX11_settles) = true := by decide +kernel
theorem ri_k188 : ri_mk 188 = true := by decide +kernel
theorem ri_c188_0 : (List.range' 0 90).all (ri_one2 11 "value" cX11_value kX11_value) = true := by decide +kernel
theorem ri_k189 : ri_mk 189 = true := by decide +kernel
theorem ri_c189_0 : (List.range' 0 77).all (ri_one2 11 "term" cX11_term kX11_term) = true := by decide +kernel
theorem ri_k190 : ri_mk 190 = true := by decide +kernel
theorem ri_c190_0 : (List.range' 0 77).all (ri_one2 11 "sum" cX11_sum kX11_sum) = true := by decide +kernel
theorem ri_k191 : ri_mk 191 = true := by decide +kernel
theorem ri_c191_0 : (List.range' 0 175).all (ri_one2 11 "compare" cX11_compare kX11_compare) = true := by decide +kernel
theorem ri_k192 : ri_mk 192 = true := by decide +kernel
theorem ri_c192_0 : (List.range' 0 80).all (ri_one2 11 "fact" cX11_fact kX11_fact) = true := by decide +kernel
theorem ri_k193 : ri_mk 193 = true := by decide +kernel
theorem ri_c193_0 : (List.range' 0 31).all (ri_one2 11 "isInside" cX11_isInside kX11_isInside) = true := by decide +kernel
theorem ri_k194 : ri_mk 194 = true := by decide +kernel
theorem ri_c194_0 : (List.range' 0 65).all (ri_one2 11 "closes" cX11_closes kX11_closes) = true := by decide +kernel
theorem ri_k195 : ri_mk 195 = true := by decide +kernel
theorem ri_c195_0 : (List.range' 0 141).all (ri_one2 11 "tested" cX11_tested kX11_tested) = true := by decide +kernel
theorem ri_k196 : ri_mk 196 = true := by decide +kernel
theorem ri_c196_0 : (List.range' 0 151).all (ri_one2 11 "clauseOf" cX11_clauseOf kX11_clauseOf) = true := by decide +kernel
theorem ri_k197 : ri_mk 197 = true := by decide +kernel
theorem ri_c197_0 : (List.range' 0 54).all (ri_one2 11 "isRoadHere" cX11_isRoadHere kX11_isRoadHere) = true := by decide +kernel
theorem ri_k198 : ri_mk 198 = true := by decide +kernel
theorem ri_c198_0 : (List.range' 0 63).all (ri_one2 11 "isManHere" cX11_isManHere kX11_isManHere) = true := by decide +kernel
theorem ri_k199 : ri_mk 199 = true := by decide +kernel
theorem ri_c199_0 : (List.range' 0 105).all (ri_one2 11 "courtLineHere" cX11_courtLineHere kX11_courtLineHere) = true := by decide +kernel
theorem ri_k200 : ri_mk 200 = true := by decide +kernel
theorem ri_c200_0 : (List.range' 0 161).all (ri_one2 11 "clauseHere" cX11_clauseHere kX11_clauseHere) = true := by decide +kernel
theorem ri_k201 : ri_mk 201 = true := by decide +kernel
theorem ri_c201_0 : (List.range' 0 143).all (ri_one2 11 "readsAll" cX11_readsAll kX11_readsAll) = true := by decide +kernel
theorem ri_k202 : ri_mk 202 = true := by decide +kernel
theorem ri_c202_0 : (List.range' 0 61).all (ri_one2 11 "law" cX11_law kX11_law) = true := by decide +kernel
theorem ri_k203 : ri_mk 203 = true := by decide +kernel
theorem ri_c203_0 : (List.range' 0 168).all (ri_one2 11 "court" cX11_court kX11_court) = true := by decide +kernel
theorem ri_c203_168 : (List.range' 168 1).all (ri_one2 11 "court" cX11_court kX11_court) = true := by decide +kernel
theorem ri_k204 : ri_mk 204 = true := by decide +kernel
theorem ri_c204_0 : (List.range' 0 18).all (ri_one2 11 "isLaw" cX11_isLaw kX11_isLaw) = true := by decide +kernel
theorem ri_k205 : ri_mk 205 = true := by decide +kernel
theorem ri_c205_0 : (List.range' 0 21).all (ri_one2 11 "push" cX11_push kX11_push) = true := by decide +kernel
theorem ri_k206 : ri_mk 206 = true := by decide +kernel
theorem ri_c206_0 : (List.range' 0 20).all (ri_one2 11 "pop" cX11_pop kX11_pop) = true := by decide +kernel
theorem ri_k207 : ri_mk 207 = true := by decide +kernel
theorem ri_c207_0 : (List.range' 0 154).all (ri_one2 11 "one" cX11_one kX11_one) = true := by decide +kernel
theorem ri_k208 : ri_mk 208 = true := by decide +kernel
theorem ri_c208_0 : (List.range' 0 140).all (ri_one2 11 "reckons" cX11_reckons kX11_reckons) = true := by decide +kernel
theorem ri_k209 : ri_mk 209 = true := by decide +kernel
theorem ri_c209_0 : (List.range' 0 15).all (ri_one2 11 "isCourt" cX11_isCourt kX11_isCourt) = true := by decide +kernel
theorem ri_k210 : ri_mk 210 = true := by decide +kernel
theorem ri_c210_0 : (List.range' 0 21).all (ri_one2 11 "worlds" cX11_worlds kX11_worlds) = true := by decide +kernel
theorem ri_k211 : ri_mk 211 = true := by decide +kernel
theorem ri_c211_0 : (List.range' 0 25).all (ri_one2 11 "isKind" cX11_isKind kX11_isKind) = true := by decide +kernel
theorem ri_k212 : ri_mk 212 = true := by decide +kernel
theorem ri_c212_0 : (List.range' 0 28).all (ri_one2 11 "isThing" cX11_isThing kX11_isThing) = true := by decide +kernel
theorem ri_k213 : ri_mk 213 = true := by decide +kernel
theorem ri_c213_0 : (List.range' 0 18).all (ri_one2 11 "isWorld" cX11_isWorld kX11_isWorld) = true := by decide +kernel
theorem ri_k214 : ri_mk 214 = true := by decide +kernel
theorem ri_c214_0 : (List.range' 0 16).all (ri_one2 11 "isWitness" cX11_isWitness kX11_isWitness) = true := by decide +kernel
theorem ri_k215 : ri_mk 215 = true := by decide +kernel
theorem ri_c215_0 : (List.range' 0 20).all (ri_one2 11 "isAnswer" cX11_isAnswer kX11_isAnswer) = true := by decide +kernel
theorem ri_k216 : ri_mk 216 = true := by decide +kernel
theorem ri_c216_0 : (List.range' 0 14).all (ri_one2 11 "answerOf" cX11_answerOf kX11_answerOf) = true := by decide +kernel
theorem ri_k217 : ri_mk 217 = true := by decide +kernel
theorem ri_c217_0 : (List.range' 0 55).all (ri_one2 11 "thingOf" cX11_thingOf kX11_thingOf) = true := by decide +kernel
theorem ri_k218 : ri_mk 218 = true := by decide +kernel
theorem ri_c218_0 : (List.range' 0 73).all (ri_one2 11 "thing" cX11_thing kX11_thing) = true := by decide +kernel
theorem ri_k219 : ri_mk 219 = true := by decide +kernel
theorem ri_c219_0 : (List.range' 0 15).all (ri_one2 11 "apart" cX11_apart kX11_apart) = true := by decide +kernel
theorem ri_k220 : ri_mk 220 = true := by decide +kernel
theorem ri_c220_0 : (List.range' 0 149).all (ri_one2 11 "words" cX11_words kX11_words) = true := by decide +kernel
theorem ri_c220_149 : (List.range' 149 74).all (ri_one2 11 "words" cX11_words kX11_words) = true := by decide +kernel
theorem ri_k221 : ri_mk 221 = true := by decide +kernel
theorem ri_c221_0 : (List.range' 0 124).all (ri_one2 11 "farBy" cX11_farBy kX11_farBy) = true := by decide +kernel
theorem ri_k222 : ri_mk 222 = true := by decide +kernel
theorem ri_c222_0 : (List.range' 0 43).all (ri_one2 11 "far" cX11_far kX11_far) = true := by decide +kernel
theorem ri_k223 : ri_mk 223 = true := by decide +kernel
theorem ri_c223_0 : (List.range' 0 40).all (ri_one2 11 "answersBy" cX11_answersBy kX11_answersBy) = true := by decide +kernel
theorem ri_k224 : ri_mk 224 = true := by decide +kernel
theorem ri_c224_0 : (List.range' 0 136).all (ri_one2 11 "answer" cX11_answer kX11_answer) = true := by decide +kernel
theorem ri_k225 : ri_mk 225 = true := by decide +kernel
theorem ri_c225_0 : (List.range' 0 31).all (ri_one2 11 "answers" cX11_answers kX11_answers) = true := by decide +kernel
theorem ri_k226 : ri_mk 226 = true := by decide +kernel
theorem ri_c226_0 : (List.range' 0 53).all (ri_one2 11 "strike" cX11_strike kX11_strike) = true := by decide +kernel
theorem ri_k227 : ri_mk 227 = true := by decide +kernel
theorem ri_c227_0 : (List.range' 0 33).all (ri_one2 11 "only" cX11_only kX11_only) = true := by decide +kernel
theorem ri_k228 : ri_mk 228 = true := by decide +kernel
theorem ri_c228_0 : (List.range' 0 35).all (ri_one2 11 "isLookedAt" cX11_isLookedAt kX11_isLookedAt) = true := by decide +kernel
theorem ri_k229 : ri_mk 229 = true := by decide +kernel
theorem ri_c229_0 : (List.range' 0 78).all (ri_one2 11 "reaches" cX11_reaches kX11_reaches) = true := by decide +kernel
theorem ri_k230 : ri_mk 230 = true := by decide +kernel
theorem ri_c230_0 : (List.range' 0 53).all (ri_one2 11 "isNearer" cX11_isNearer kX11_isNearer) = true := by decide +kernel
theorem ri_k231 : ri_mk 231 = true := by decide +kernel
theorem ri_c231_0 : (List.range' 0 24).all (ri_one2 11 "isTrue" cX11_isTrue kX11_isTrue) = true := by decide +kernel
theorem ri_k232 : ri_mk 232 = true := by decide +kernel
theorem ri_c232_0 : (List.range' 0 57).all (ri_one2 11 "wrongIn" cX11_wrongIn kX11_wrongIn) = true := by decide +kernel
theorem ri_k233 : ri_mk 233 = true := by decide +kernel
theorem ri_c233_0 : (List.range' 0 21).all (ri_one2 11 "canAsk" cX11_canAsk kX11_canAsk) = true := by decide +kernel
theorem ri_k234 : ri_mk 234 = true := by decide +kernel
theorem ri_c234_0 : (List.range' 0 10).all (ri_one2 11 "isMany" cX11_isMany kX11_isMany) = true := by decide +kernel
theorem ri_k235 : ri_mk 235 = true := by decide +kernel
theorem ri_c235_0 : (List.range' 0 72).all (ri_one2 11 "keeps" cX11_keeps kX11_keeps) = true := by decide +kernel
theorem ri_k236 : ri_mk 236 = true := by decide +kernel
theorem ri_c236_0 : (List.range' 0 46).all (ri_one2 11 "holds" cX11_holds kX11_holds) = true := by decide +kernel
theorem ri_k237 : ri_mk 237 = true := by decide +kernel
theorem ri_c237_0 : (List.range' 0 30).all (ri_one2 11 "wrong" cX11_wrong kX11_wrong) = true := by decide +kernel
theorem ri_k238 : ri_mk 238 = true := by decide +kernel
theorem ri_c238_0 : (List.range' 0 27).all (ri_one2 11 "kept" cX11_kept kX11_kept) = true := by decide +kernel
theorem ri_k239 : ri_mk 239 = true := by decide +kernel
theorem ri_c239_0 : (List.range' 0 78).all (ri_one2 11 "world" cX11_world kX11_world) = true := by decide +kernel
theorem ri_k240 : ri_mk 240 = true := by decide +kernel
theorem ri_c240_0 : (List.range' 0 51).all (ri_one2 11 "keptWith" cX11_keptWith kX11_keptWith) = true := by decide +kernel
theorem ri_k241 : ri_mk 241 = true := by decide +kernel
theorem ri_c241_0 : (List.range' 0 43).all (ri_one2 11 "may" cX11_may kX11_may) = true := by decide +kernel
theorem ri_k242 : ri_mk 242 = true := by decide +kernel
theorem ri_c242_0 : (List.range' 0 70).all (ri_one2 11 "cleared" cX11_cleared kX11_cleared) = true := by decide +kernel
theorem ri_k243 : ri_mk 243 = true := by decide +kernel
theorem ri_c243_0 : (List.range' 0 96).all (ri_one2 11 "finds" cX11_finds kX11_finds) = true := by decide +kernel
theorem ri_k244 : ri_mk 244 = true := by decide +kernel
theorem ri_c244_0 : (List.range' 0 55).all (ri_one2 11 "fewest" cX11_fewest kX11_fewest) = true := by decide +kernel
theorem ri_k245 : ri_mk 245 = true := by decide +kernel
theorem ri_c245_0 : (List.range' 0 74).all (ri_one2 11 "falseOnes" cX11_falseOnes kX11_falseOnes) = true := by decide +kernel
theorem ri_k246 : ri_mk 246 = true := by decide +kernel
theorem ri_c246_0 : (List.range' 0 136).all (ri_one2 11 "liars" cX11_liars kX11_liars) = true := by decide +kernel
theorem ri_k247 : ri_mk 247 = true := by decide +kernel
theorem ri_c247_0 : (List.range' 0 38).all (ri_one2 11 "areTrueTogether" cX11_areTrueTogether kX11_areTrueTogether) = true := by decide +kernel
theorem ri_k248 : ri_mk 248 = true := by decide +kernel
theorem ri_c248_0 : (List.range' 0 88).all (ri_one2 11 "quarrel" cX11_quarrel kX11_quarrel) = true := by decide +kernel
theorem ri_k249 : ri_mk 249 = true := by decide +kernel
theorem ri_c249_0 : (List.range' 0 106).all (ri_one2 11 "twelve" cX11_twelve kX11_twelve) = true := by decide +kernel
theorem ri_k250 : ri_mk 250 = true := by decide +kernel
theorem ri_c250_0 : (List.range' 0 53).all (ri_one2 11 "proves" cX11_proves kX11_proves) = true := by decide +kernel
theorem ri_k251 : ri_mk 251 = true := by decide +kernel
theorem ri_c251_0 : (List.range' 0 87).all (ri_one2 11 "proof" cX11_proof kX11_proof) = true := by decide +kernel
theorem ri_k252 : ri_mk 252 = true := by decide +kernel
theorem ri_c252_0 : (List.range' 0 182).all (ri_one2 11 "byLaws" cX11_byLaws kX11_byLaws) = true := by decide +kernel
theorem ri_c252_182 : (List.range' 182 27).all (ri_one2 11 "byLaws" cX11_byLaws kX11_byLaws) = true := by decide +kernel
theorem ri_k253 : ri_mk 253 = true := by decide +kernel
theorem ri_c253_0 : (List.range' 0 87).all (ri_one2 11 "looks" cX11_looks kX11_looks) = true := by decide +kernel
theorem ri_k254 : ri_mk 254 = true := by decide +kernel
theorem ri_c254_0 : (List.range' 0 77).all (ri_one2 11 "sure" cX11_sure kX11_sure) = true := by decide +kernel
theorem ri_k255 : ri_mk 255 = true := by decide +kernel
theorem ri_c255_0 : (List.range' 0 123).all (ri_one2 11 "alone" cX11_alone kX11_alone) = true := by decide +kernel
theorem ri_k256 : ri_mk 256 = true := by decide +kernel
theorem ri_c256_0 : (List.range' 0 111).all (ri_one2 11 "mean" cX11_mean kX11_mean) = true := by decide +kernel
theorem ri_k257 : ri_mk 257 = true := by decide +kernel
theorem ri_c257_0 : (List.range' 0 107).all (ri_one2 11 "gathers" cX11_gathers kX11_gathers) = true := by decide +kernel
theorem ri_k258 : ri_mk 258 = true := by decide +kernel
theorem ri_c258_0 : (List.range' 0 38).all (ri_one2 11 "leaves" cX11_leaves kX11_leaves) = true := by decide +kernel
theorem ri_k259 : ri_mk 259 = true := by decide +kernel
theorem ri_c259_0 : (List.range' 0 87).all (ri_one2 11 "asks" cX11_asks kX11_asks) = true := by decide +kernel
theorem ri_k260 : ri_mk 260 = true := by decide +kernel
theorem ri_c260_0 : (List.range' 0 11).all (ri_one2 11 "greater" cX11_greater kX11_greater) = true := by decide +kernel
theorem ri_k261 : ri_mk 261 = true := by decide +kernel
theorem ri_c261_0 : (List.range' 0 107).all (ri_one2 11 "asksNext" cX11_asksNext kX11_asksNext) = true := by decide +kernel
theorem ri_k262 : ri_mk 262 = true := by decide +kernel
theorem ri_c262_0 : (List.range' 0 124).all (ri_one2 11 "useful" cX11_useful kX11_useful) = true := by decide +kernel
theorem ri_k263 : ri_mk 263 = true := by decide +kernel
theorem ri_c263_0 : (List.range' 0 169).all (ri_one2 11 "filled" cX11_filled kX11_filled) = true := by decide +kernel
theorem ri_k264 : ri_mk 264 = true := by decide +kernel
theorem ri_c264_0 : (List.range' 0 128).all (ri_one2 11 "next" cX11_next kX11_next) = true := by decide +kernel
theorem ri_k265 : ri_mk 265 = true := by decide +kernel
theorem ri_c265_0 : (List.range' 0 16).all (ri_one2 11 "isOne" cX11_isOne kX11_isOne) = true := by decide +kernel
theorem ri_k266 : ri_mk 266 = true := by decide +kernel
theorem ri_c266_0 : (List.range' 0 66).all (ri_one2 11 "doesOne" cX11_doesOne kX11_doesOne) = true := by decide +kernel
theorem ri_k267 : ri_mk 267 = true := by decide +kernel
theorem ri_c267_0 : (List.range' 0 66).all (ri_one2 11 "doesTwo" cX11_doesTwo kX11_doesTwo) = true := by decide +kernel
theorem ri_k268 : ri_mk 268 = true := by decide +kernel
theorem ri_c268_0 : (List.range' 0 56).all (ri_one2 11 "doesThree" cX11_doesThree kX11_doesThree) = true := by decide +kernel
theorem ri_k269 : ri_mk 269 = true := by decide +kernel
theorem ri_c269_0 : (List.range' 0 181).all (ri_one2 11 "needed" cX11_needed kX11_needed) = true := by decide +kernel
theorem ri_c269_181 : (List.range' 181 28).all (ri_one2 11 "needed" cX11_needed kX11_needed) = true := by decide +kernel
theorem ri_k270 : ri_mk 270 = true := by decide +kernel
theorem ri_c270_0 : (List.range' 0 194).all (ri_one2 11 "steered" cX11_steered kX11_steered) = true := by decide +kernel
theorem ri_c270_194 : (List.range' 194 68).all (ri_one2 11 "steered" cX11_steered kX11_steered) = true := by decide +kernel
theorem ri_k271 : ri_mk 271 = true := by decide +kernel
theorem ri_c271_0 : (List.range' 0 20).all (ri_one2 11 "spare" cX11_spare kX11_spare) = true := by decide +kernel
theorem ri_k272 : ri_mk 272 = true := by decide +kernel
theorem ri_c272_0 : (List.range' 0 24).all (ri_one2 11 "seed" cX11_seed kX11_seed) = true := by decide +kernel
theorem ri_k273 : ri_mk 273 = true := by decide +kernel
theorem ri_c273_0 : (List.range' 0 189).all (ri_one2 11 "trials" cX11_trials kX11_trials) = true := by decide +kernel
theorem ri_c273_189 : (List.range' 189 147).all (ri_one2 11 "trials" cX11_trials kX11_trials) = true := by decide +kernel
theorem ri_k274 : ri_mk 274 = true := by decide +kernel
theorem ri_c274_0 : (List.range' 0 96).all (ri_one2 11 "verdict" cX11_verdict kX11_verdict) = true := by decide +kernel
theorem ri_k275 : ri_mk 275 = true := by decide +kernel
theorem ri_c275_0 : (List.range' 0 182).all (ri_one2 11 "old" cX11_old kX11_old) = true := by decide +kernel
theorem ri_c275_182 : (List.range' 182 40).all (ri_one2 11 "old" cX11_old kX11_old) = true := by decide +kernel
theorem ri_k276 : ri_mk 276 = true := by decide +kernel
theorem ri_c276_0 : (List.range' 0 162).all (ri_one2 11 "count" cX11_count kX11_count) = true := by decide +kernel
theorem ri_k277 : ri_mk 277 = true := by decide +kernel
theorem ri_c277_0 : (List.range' 0 61).all (ri_one2 11 "image" cX11_image kX11_image) = true := by decide +kernel
theorem ri_k278 : ri_mk 278 = true := by decide +kernel
theorem ri_c278_0 : (List.range' 0 63).all (ri_one2 11 "back" cX11_back kX11_back) = true := by decide +kernel
theorem ri_k279 : ri_mk 279 = true := by decide +kernel
theorem ri_c279_0 : (List.range' 0 80).all (ri_one2 13 "numberOfTrailingZeros" cJ6_numberOfTrailingZeros_0f7a4 kJ6_numberOfTrailingZeros_0f7a4) = true := by decide +kernel
theorem ri_k280 : ri_mk 280 = true := by decide +kernel
theorem ri_c280_0 : (List.range' 0 53).all (ri_one2 13 "bitCount" cJ6_bitCount_0f7a4 kJ6_bitCount_0f7a4) = true := by decide +kernel
theorem ri_dd0 : ∀ pc, pc < 28 → ri_one2 0 "<init>" cX0_init kX0_init pc = true := by
  intro pc h
  exact List.all_eq_true.mp ri_c0_0 pc (List.mem_range'_1.mpr ⟨by omega, by omega⟩)
theorem ri_dd1 : ∀ pc, pc < 22 → ri_one2 0 "clear" cX0_clear kX0_clear pc = true := by
  intro pc h
  exact List.all_eq_true.mp ri_c1_0 pc (List.mem_range'_1.mpr ⟨by omega, by omega⟩)
theorem ri_dd2 : ∀ pc, pc < 21 → ri_one2 0 "setHours" cX0_setHours kX0_setHours pc = true := by
  intro pc h
  exact List.all_eq_true.mp ri_c2_0 pc (List.mem_range'_1.mpr ⟨by omega, by omega⟩)
theorem ri_dd3 : ∀ pc, pc < 55 → ri_one2 0 "add" cX0_add kX0_add pc = true := by
  intro pc h
  exact List.all_eq_true.mp ri_c3_0 pc (List.mem_range'_1.mpr ⟨by omega, by omega⟩)
theorem ri_dd4 : ∀ pc, pc < 45 → ri_one2 0 "becomes" cX0_becomes kX0_becomes pc = true := by
  intro pc h
  exact List.all_eq_true.mp ri_c4_0 pc (List.mem_range'_1.mpr ⟨by omega, by omega⟩)
theorem ri_dd5 : ∀ pc, pc < 24 → ri_one2 0 "isTold" cX0_isTold kX0_isTold pc = true := by
  intro pc h
  exact List.all_eq_true.mp ri_c5_0 pc (List.mem_range'_1.mpr ⟨by omega, by omega⟩)
theorem ri_dd6 : ∀ pc, pc < 21 → ri_one2 0 "worlds" cX0_worlds kX0_worlds pc = true := by
  intro pc h
  exact List.all_eq_true.mp ri_c6_0 pc (List.mem_range'_1.mpr ⟨by omega, by omega⟩)
theorem ri_dd7 : ∀ pc, pc < 9 → ri_one2 0 "manyOf" cX0_manyOf kX0_manyOf pc = true := by
  intro pc h
  exact List.all_eq_true.mp ri_c7_0 pc (List.mem_range'_1.mpr ⟨by omega, by omega⟩)
theorem ri_dd8 : ∀ pc, pc < 27 → ri_one2 0 "has" cX0_has kX0_has pc = true := by
  intro pc h
  exact List.all_eq_true.mp ri_c8_0 pc (List.mem_range'_1.mpr ⟨by omega, by omega⟩)
theorem ri_dd9 : ∀ pc, pc < 13 → ri_one2 0 "firstOf" cX0_firstOf kX0_firstOf pc = true := by
  intro pc h
  exact List.all_eq_true.mp ri_c9_0 pc (List.mem_range'_1.mpr ⟨by omega, by omega⟩)
theorem ri_dd10 : ∀ pc, pc < 13 → ri_one2 0 "secondOf" cX0_secondOf kX0_secondOf pc = true := by
  intro pc h
  exact List.all_eq_true.mp ri_c10_0 pc (List.mem_range'_1.mpr ⟨by omega, by omega⟩)
theorem ri_dd11 : ∀ pc, pc < 10 → ri_one2 0 "bitsOf" cX0_bitsOf kX0_bitsOf pc = true := by
  intro pc h
  exact List.all_eq_true.mp ri_c11_0 pc (List.mem_range'_1.mpr ⟨by omega, by omega⟩)
theorem ri_dd12 : ∀ pc, pc < 30 → ri_one2 0 "bitsOfAll" cX0_bitsOfAll kX0_bitsOfAll pc = true := by
  intro pc h
  exact List.all_eq_true.mp ri_c12_0 pc (List.mem_range'_1.mpr ⟨by omega, by omega⟩)
theorem ri_dd13 : ∀ pc, pc < 70 → ri_one2 0 "thingIn" cX0_thingIn kX0_thingIn pc = true := by
  intro pc h
  exact List.all_eq_true.mp ri_c13_0 pc (List.mem_range'_1.mpr ⟨by omega, by omega⟩)
theorem ri_dd14 : ∀ pc, pc < 5 → ri_one2 1 "<init>" cX1_init kX1_init pc = true := by
  intro pc h
  exact List.all_eq_true.mp ri_c14_0 pc (List.mem_range'_1.mpr ⟨by omega, by omega⟩)
theorem ri_dd15 : ∀ pc, pc < 64 → ri_one2 1 "read" cX1_read kX1_read pc = true := by
  intro pc h
  exact List.all_eq_true.mp ri_c15_0 pc (List.mem_range'_1.mpr ⟨by omega, by omega⟩)
theorem ri_dd16 : ∀ pc, pc < 128 → ri_one2 1 "readClause" cX1_readClause kX1_readClause pc = true := by
  intro pc h
  exact List.all_eq_true.mp ri_c16_0 pc (List.mem_range'_1.mpr ⟨by omega, by omega⟩)
theorem ri_dd17 : ∀ pc, pc < 40 → ri_one2 1 "kindOf" cX1_kindOf kX1_kindOf pc = true := by
  intro pc h
  exact List.all_eq_true.mp ri_c17_0 pc (List.mem_range'_1.mpr ⟨by omega, by omega⟩)
theorem ri_dd18 : ∀ pc, pc < 77 → ri_one2 2 "<init>" cX2_init kX2_init pc = true := by
  intro pc h
  exact List.all_eq_true.mp ri_c18_0 pc (List.mem_range'_1.mpr ⟨by omega, by omega⟩)
theorem ri_dd19 : ∀ pc, pc < 24 → ri_one2 2 "open" cX2_open kX2_open pc = true := by
  intro pc h
  exact List.all_eq_true.mp ri_c19_0 pc (List.mem_range'_1.mpr ⟨by omega, by omega⟩)
theorem ri_dd20 : ∀ pc, pc < 160 → ri_one2 2 "becomes" cX2_becomes kX2_becomes pc = true := by
  intro pc h
  exact List.all_eq_true.mp ri_c20_0 pc (List.mem_range'_1.mpr ⟨by omega, by omega⟩)
theorem ri_dd21 : ∀ pc, pc < 48 → ri_one2 2 "mayStillGive" cX2_mayStillGive kX2_mayStillGive pc = true := by
  intro pc h
  exact List.all_eq_true.mp ri_c21_0 pc (List.mem_range'_1.mpr ⟨by omega, by omega⟩)
theorem ri_dd22 : ∀ pc, pc < 82 → ri_one2 2 "takeDown" cX2_takeDown kX2_takeDown pc = true := by
  intro pc h
  exact List.all_eq_true.mp ri_c22_0 pc (List.mem_range'_1.mpr ⟨by omega, by omega⟩)
theorem ri_dd23 : ∀ pc, pc < 17 → ri_one2 2 "hasAnswer" cX2_hasAnswer kX2_hasAnswer pc = true := by
  intro pc h
  exact List.all_eq_true.mp ri_c23_0 pc (List.mem_range'_1.mpr ⟨by omega, by omega⟩)
theorem ri_dd24 : ∀ pc, pc < 24 → ri_one2 2 "isStruck" cX2_isStruck kX2_isStruck pc = true := by
  intro pc h
  exact List.all_eq_true.mp ri_c24_0 pc (List.mem_range'_1.mpr ⟨by omega, by omega⟩)
theorem ri_dd25 : ∀ pc, pc < 17 → ri_one2 2 "setStruck" cX2_setStruck kX2_setStruck pc = true := by
  intro pc h
  exact List.all_eq_true.mp ri_c25_0 pc (List.mem_range'_1.mpr ⟨by omega, by omega⟩)
theorem ri_dd26 : ∀ pc, pc < 27 → ri_one2 2 "first" cX2_first kX2_first pc = true := by
  intro pc h
  exact List.all_eq_true.mp ri_c26_0 pc (List.mem_range'_1.mpr ⟨by omega, by omega⟩)
theorem ri_dd27 : ∀ pc, pc < 27 → ri_one2 2 "isLookedAt" cX2_isLookedAt kX2_isLookedAt pc = true := by
  intro pc h
  exact List.all_eq_true.mp ri_c27_0 pc (List.mem_range'_1.mpr ⟨by omega, by omega⟩)
theorem ri_dd28 : ∀ pc, pc < 31 → ri_one2 2 "struckOnes" cX2_struckOnes kX2_struckOnes pc = true := by
  intro pc h
  exact List.all_eq_true.mp ri_c28_0 pc (List.mem_range'_1.mpr ⟨by omega, by omega⟩)
theorem ri_dd29 : ∀ pc, pc < 35 → ri_one2 2 "lookedAtOnes" cX2_lookedAtOnes kX2_lookedAtOnes pc = true := by
  intro pc h
  exact List.all_eq_true.mp ri_c29_0 pc (List.mem_range'_1.mpr ⟨by omega, by omega⟩)
theorem ri_dd30 : ∀ pc, pc < 46 → ri_one2 2 "judge" cX2_judge kX2_judge pc = true := by
  intro pc h
  exact List.all_eq_true.mp ri_c30_0 pc (List.mem_range'_1.mpr ⟨by omega, by omega⟩)
theorem ri_dd31 : ∀ pc, pc < 80 → ri_one2 3 "<init>" cX3_init kX3_init pc = true := by
  intro pc h
  exact List.all_eq_true.mp ri_c31_0 pc (List.mem_range'_1.mpr ⟨by omega, by omega⟩)
theorem ri_dd32 : ∀ pc, pc < 16 → ri_one2 3 "clear" cX3_clear kX3_clear pc = true := by
  intro pc h
  exact List.all_eq_true.mp ri_c32_0 pc (List.mem_range'_1.mpr ⟨by omega, by omega⟩)
theorem ri_dd33 : ∀ pc, pc < 44 → ri_one2 3 "put" cX3_put kX3_put pc = true := by
  intro pc h
  exact List.all_eq_true.mp ri_c33_0 pc (List.mem_range'_1.mpr ⟨by omega, by omega⟩)
theorem ri_dd34 : ∀ pc, pc < 66 → ri_one2 3 "addClause" cX3_addClause kX3_addClause pc = true := by
  intro pc h
  exact List.all_eq_true.mp ri_c34_0 pc (List.mem_range'_1.mpr ⟨by omega, by omega⟩)
theorem ri_dd35 : ∀ pc, pc < 11 → ri_one2 3 "cell" cX3_cell kX3_cell pc = true := by
  intro pc h
  exact List.all_eq_true.mp ri_c35_0 pc (List.mem_range'_1.mpr ⟨by omega, by omega⟩)
theorem ri_dd36 : ∀ pc, pc < 33 → ri_one2 3 "farOf" cX3_farOf kX3_farOf pc = true := by
  intro pc h
  exact List.all_eq_true.mp ri_c36_0 pc (List.mem_range'_1.mpr ⟨by omega, by omega⟩)
theorem ri_dd37 : ∀ pc, pc < 14 → ri_one2 3 "nearOf" cX3_nearOf kX3_nearOf pc = true := by
  intro pc h
  exact List.all_eq_true.mp ri_c37_0 pc (List.mem_range'_1.mpr ⟨by omega, by omega⟩)
theorem ri_dd38 : ∀ pc, pc < 31 → ri_one2 3 "measure" cX3_measure kX3_measure pc = true := by
  intro pc h
  exact List.all_eq_true.mp ri_c38_0 pc (List.mem_range'_1.mpr ⟨by omega, by omega⟩)
theorem ri_dd39 : ∀ pc, pc < 80 → ri_one2 3 "measureFar" cX3_measureFar kX3_measureFar pc = true := by
  intro pc h
  exact List.all_eq_true.mp ri_c39_0 pc (List.mem_range'_1.mpr ⟨by omega, by omega⟩)
theorem ri_dd40 : ∀ pc, pc < 103 → ri_one2 3 "measureNear" cX3_measureNear kX3_measureNear pc = true := by
  intro pc h
  exact List.all_eq_true.mp ri_c40_0 pc (List.mem_range'_1.mpr ⟨by omega, by omega⟩)
theorem ri_dd41 : ∀ pc, pc < 184 → ri_one2 3 "setWords" cX3_setWords kX3_setWords pc = true := by
  intro pc h
  exact List.all_eq_true.mp ri_c41_0 pc (List.mem_range'_1.mpr ⟨by omega, by omega⟩)
theorem ri_dd42 : ∀ pc, pc < 27 → ri_one2 3 "setWord" cX3_setWord kX3_setWord pc = true := by
  intro pc h
  exact List.all_eq_true.mp ri_c42_0 pc (List.mem_range'_1.mpr ⟨by omega, by omega⟩)
theorem ri_dd43 : ∀ pc, pc < 29 → ri_one2 3 "wordOf" cX3_wordOf kX3_wordOf pc = true := by
  intro pc h
  exact List.all_eq_true.mp ri_c43_0 pc (List.mem_range'_1.mpr ⟨by omega, by omega⟩)
theorem ri_dd44 : ∀ pc, pc < 102 → ri_one2 3 "farByClauses" cX3_farByClauses kX3_farByClauses pc = true := by
  intro pc h
  exact List.all_eq_true.mp ri_c44_0 pc (List.mem_range'_1.mpr ⟨by omega, by omega⟩)
theorem ri_dd45 : ∀ pc, pc < 114 → ri_one2 3 "run" cX3_run kX3_run pc = true := by
  intro pc h
  exact List.all_eq_true.mp ri_c45_0 pc (List.mem_range'_1.mpr ⟨by omega, by omega⟩)
theorem ri_dd46 : ∀ pc, pc < 40 → ri_one2 3 "push" cX3_push kX3_push pc = true := by
  intro pc h
  exact List.all_eq_true.mp ri_c46_0 pc (List.mem_range'_1.mpr ⟨by omega, by omega⟩)
theorem ri_dd47 : ∀ pc, pc < 42 → ri_one2 3 "pop" cX3_pop kX3_pop pc = true := by
  intro pc h
  exact List.all_eq_true.mp ri_c47_0 pc (List.mem_range'_1.mpr ⟨by omega, by omega⟩)
theorem ri_dd48 : ∀ pc, pc < 174 → ri_one2 3 "joined" cX3_joined kX3_joined pc = true := by
  intro pc h
  exact List.all_eq_true.mp ri_c48_0 pc (List.mem_range'_1.mpr ⟨by omega, by omega⟩)
theorem ri_dd49 : ∀ pc, pc < 5 → ri_one2 4 "<init>" cX4_init kX4_init pc = true := by
  intro pc h
  exact List.all_eq_true.mp ri_c49_0 pc (List.mem_range'_1.mpr ⟨by omega, by omega⟩)
theorem ri_dd50 : ∀ pc, pc < 136 → ri_one2 4 "read" cX4_read kX4_read pc = true := by
  intro pc h
  exact List.all_eq_true.mp ri_c50_0 pc (List.mem_range'_1.mpr ⟨by omega, by omega⟩)
theorem ri_dd51 : ∀ pc, pc < 36 → ri_one2 4 "kindOf" cX4_kindOf kX4_kindOf pc = true := by
  intro pc h
  exact List.all_eq_true.mp ri_c51_0 pc (List.mem_range'_1.mpr ⟨by omega, by omega⟩)
theorem ri_dd52 : ∀ pc, pc < 94 → ri_one2 4 "readTest" cX4_readTest kX4_readTest pc = true := by
  intro pc h
  exact List.all_eq_true.mp ri_c52_0 pc (List.mem_range'_1.mpr ⟨by omega, by omega⟩)
theorem ri_dd53 : ∀ pc, pc < 180 → ri_one2 4 "readFact" cX4_readFact kX4_readFact pc = true := by
  intro pc h
  exact List.all_eq_true.mp ri_c53_0 pc (List.mem_range'_1.mpr ⟨by omega, by omega⟩)
theorem ri_dd54 : ∀ pc, pc < 101 → ri_one2 4 "readSum" cX4_readSum kX4_readSum pc = true := by
  intro pc h
  exact List.all_eq_true.mp ri_c54_0 pc (List.mem_range'_1.mpr ⟨by omega, by omega⟩)
theorem ri_dd55 : ∀ pc, pc < 119 → ri_one2 4 "readValue" cX4_readValue kX4_readValue pc = true := by
  intro pc h
  exact List.all_eq_true.mp ri_c55_0 pc (List.mem_range'_1.mpr ⟨by omega, by omega⟩)
theorem ri_dd56 : ∀ pc, pc < 29 → ri_one2 5 "<init>" cX5_init kX5_init pc = true := by
  intro pc h
  exact List.all_eq_true.mp ri_c56_0 pc (List.mem_range'_1.mpr ⟨by omega, by omega⟩)
theorem ri_dd57 : ∀ pc, pc < 65 → ri_one2 5 "fill" cX5_fill kX5_fill pc = true := by
  intro pc h
  exact List.all_eq_true.mp ri_c57_0 pc (List.mem_range'_1.mpr ⟨by omega, by omega⟩)
theorem ri_dd58 : ∀ pc, pc < 53 → ri_one2 5 "add" cX5_add kX5_add pc = true := by
  intro pc h
  exact List.all_eq_true.mp ri_c58_0 pc (List.mem_range'_1.mpr ⟨by omega, by omega⟩)
theorem ri_dd59 : ∀ pc, pc < 29 → ri_one2 5 "nearForFirst" cX5_nearForFirst kX5_nearForFirst pc = true := by
  intro pc h
  exact List.all_eq_true.mp ri_c59_0 pc (List.mem_range'_1.mpr ⟨by omega, by omega⟩)
theorem ri_dd60 : ∀ pc, pc < 29 → ri_one2 5 "nearForSecond" cX5_nearForSecond kX5_nearForSecond pc = true := by
  intro pc h
  exact List.all_eq_true.mp ri_c60_0 pc (List.mem_range'_1.mpr ⟨by omega, by omega⟩)
theorem ri_dd61 : ∀ pc, pc < 19 → ri_one2 5 "leftForFirst" cX5_leftForFirst kX5_leftForFirst pc = true := by
  intro pc h
  exact List.all_eq_true.mp ri_c61_0 pc (List.mem_range'_1.mpr ⟨by omega, by omega⟩)
theorem ri_dd62 : ∀ pc, pc < 19 → ri_one2 5 "leftForSecond" cX5_leftForSecond kX5_leftForSecond pc = true := by
  intro pc h
  exact List.all_eq_true.mp ri_c62_0 pc (List.mem_range'_1.mpr ⟨by omega, by omega⟩)
theorem ri_dd63 : ∀ pc, pc < 18 → ri_one2 5 "greaterLeft" cX5_greaterLeft kX5_greaterLeft pc = true := by
  intro pc h
  exact List.all_eq_true.mp ri_c63_0 pc (List.mem_range'_1.mpr ⟨by omega, by omega⟩)
theorem ri_dd64 : ∀ pc, pc < 47 → ri_one2 5 "nearAsIn" cX5_nearAsIn kX5_nearAsIn pc = true := by
  intro pc h
  exact List.all_eq_true.mp ri_c64_0 pc (List.mem_range'_1.mpr ⟨by omega, by omega⟩)
theorem ri_dd65 : ∀ pc, pc < 23 → ri_one2 5 "leftAsIn" cX5_leftAsIn kX5_leftAsIn pc = true := by
  intro pc h
  exact List.all_eq_true.mp ri_c65_0 pc (List.mem_range'_1.mpr ⟨by omega, by omega⟩)
theorem ri_dd66 : ∀ pc, pc < 95 → ri_one2 5 "best" cX5_best kX5_best pc = true := by
  intro pc h
  exact List.all_eq_true.mp ri_c66_0 pc (List.mem_range'_1.mpr ⟨by omega, by omega⟩)
theorem ri_dd67 : ∀ pc, pc < 64 → ri_one2 5 "told" cX5_told kX5_told pc = true := by
  intro pc h
  exact List.all_eq_true.mp ri_c67_0 pc (List.mem_range'_1.mpr ⟨by omega, by omega⟩)
theorem ri_dd68 : ∀ pc, pc < 30 → ri_one2 6 "<init>" cX6_init kX6_init pc = true := by
  intro pc h
  exact List.all_eq_true.mp ri_c68_0 pc (List.mem_range'_1.mpr ⟨by omega, by omega⟩)
theorem ri_dd69 : ∀ pc, pc < 30 → ri_one2 6 "clear" cX6_clear kX6_clear pc = true := by
  intro pc h
  exact List.all_eq_true.mp ri_c69_0 pc (List.mem_range'_1.mpr ⟨by omega, by omega⟩)
theorem ri_dd70 : ∀ pc, pc < 119 → ri_one2 6 "add" cX6_add kX6_add pc = true := by
  intro pc h
  exact List.all_eq_true.mp ri_c70_0 pc (List.mem_range'_1.mpr ⟨by omega, by omega⟩)
theorem ri_dd71 : ∀ pc, pc < 51 → ri_one2 6 "pairsForAll" cX6_pairsForAll kX6_pairsForAll pc = true := by
  intro pc h
  exact List.all_eq_true.mp ri_c71_0 pc (List.mem_range'_1.mpr ⟨by omega, by omega⟩)
theorem ri_dd72 : ∀ pc, pc < 96 → ri_one2 6 "fewestFor" cX6_fewestFor kX6_fewestFor pc = true := by
  intro pc h
  exact List.all_eq_true.mp ri_c72_0 pc (List.mem_range'_1.mpr ⟨by omega, by omega⟩)
theorem ri_dd73 : ∀ pc, pc < 13 → ri_one2 7 "<init>" cX7_init kX7_init pc = true := by
  intro pc h
  exact List.all_eq_true.mp ri_c73_0 pc (List.mem_range'_1.mpr ⟨by omega, by omega⟩)
theorem ri_dd74 : ∀ pc, pc < 13 → ri_one2 7 "clear" cX7_clear kX7_clear pc = true := by
  intro pc h
  exact List.all_eq_true.mp ri_c74_0 pc (List.mem_range'_1.mpr ⟨by omega, by omega⟩)
theorem ri_dd75 : ∀ pc, pc < 38 → ri_one2 7 "add" cX7_add kX7_add pc = true := by
  intro pc h
  exact List.all_eq_true.mp ri_c75_0 pc (List.mem_range'_1.mpr ⟨by omega, by omega⟩)
theorem ri_dd76 : ∀ pc, pc < 19 → ri_one2 7 "addOne" cX7_addOne kX7_addOne pc = true := by
  intro pc h
  exact List.all_eq_true.mp ri_c76_0 pc (List.mem_range'_1.mpr ⟨by omega, by omega⟩)
theorem ri_dd77 : ∀ pc, pc < 13 → ri_one2 7 "with" cX7_with kX7_with pc = true := by
  intro pc h
  exact List.all_eq_true.mp ri_c77_0 pc (List.mem_range'_1.mpr ⟨by omega, by omega⟩)
theorem ri_dd78 : ∀ pc, pc < 40 → ri_one2 7 "withAny" cX7_withAny kX7_withAny pc = true := by
  intro pc h
  exact List.all_eq_true.mp ri_c78_0 pc (List.mem_range'_1.mpr ⟨by omega, by omega⟩)
theorem ri_dd79 : ∀ pc, pc < 33 → ri_one2 7 "thingsOf" cX7_thingsOf kX7_thingsOf pc = true := by
  intro pc h
  exact List.all_eq_true.mp ri_c79_0 pc (List.mem_range'_1.mpr ⟨by omega, by omega⟩)
theorem ri_dd80 : ∀ pc, pc < 140 → ri_one2 7 "fillWith" cX7_fillWith kX7_fillWith pc = true := by
  intro pc h
  exact List.all_eq_true.mp ri_c80_0 pc (List.mem_range'_1.mpr ⟨by omega, by omega⟩)
theorem ri_dd81 : ∀ pc, pc < 60 → ri_one2 7 "keepOnly" cX7_keepOnly kX7_keepOnly pc = true := by
  intro pc h
  exact List.all_eq_true.mp ri_c81_0 pc (List.mem_range'_1.mpr ⟨by omega, by omega⟩)
theorem ri_dd82 : ∀ pc, pc < 14 → ri_one2 8 "<init>" cX8_init kX8_init pc = true := by
  intro pc h
  exact List.all_eq_true.mp ri_c82_0 pc (List.mem_range'_1.mpr ⟨by omega, by omega⟩)
theorem ri_dd83 : ∀ pc, pc < 52 → ri_one2 8 "putNumber" cX8_putNumber kX8_putNumber pc = true := by
  intro pc h
  exact List.all_eq_true.mp ri_c83_0 pc (List.mem_range'_1.mpr ⟨by omega, by omega⟩)
theorem ri_dd84 : ∀ pc, pc < 38 → ri_one2 8 "byteAt" cX8_byteAt kX8_byteAt pc = true := by
  intro pc h
  exact List.all_eq_true.mp ri_c84_0 pc (List.mem_range'_1.mpr ⟨by omega, by omega⟩)
theorem ri_dd85 : ∀ pc, pc < 25 → ri_one2 8 "isBetween" cX8_isBetween kX8_isBetween pc = true := by
  intro pc h
  exact List.all_eq_true.mp ri_c85_0 pc (List.mem_range'_1.mpr ⟨by omega, by omega⟩)
theorem ri_dd86 : ∀ pc, pc < 51 → ri_one2 8 "spells" cX8_spells kX8_spells pc = true := by
  intro pc h
  exact List.all_eq_true.mp ri_c86_0 pc (List.mem_range'_1.mpr ⟨by omega, by omega⟩)
theorem ri_dd87 : ∀ pc, pc < 32 → ri_one2 9 "<init>" cX9_init kX9_init pc = true := by
  intro pc h
  exact List.all_eq_true.mp ri_c87_0 pc (List.mem_range'_1.mpr ⟨by omega, by omega⟩)
theorem ri_dd88 : ∀ pc, pc < 58 → ri_one2 9 "cut" cX9_cut kX9_cut pc = true := by
  intro pc h
  exact List.all_eq_true.mp ri_c88_0 pc (List.mem_range'_1.mpr ⟨by omega, by omega⟩)
theorem ri_dd89 : ∀ pc, pc < 54 → ri_one2 9 "put" cX9_put kX9_put pc = true := by
  intro pc h
  exact List.all_eq_true.mp ri_c89_0 pc (List.mem_range'_1.mpr ⟨by omega, by omega⟩)
theorem ri_dd90 : ∀ pc, pc < 141 → ri_one2 9 "cutOne" cX9_cutOne kX9_cutOne pc = true := by
  intro pc h
  exact List.all_eq_true.mp ri_c90_0 pc (List.mem_range'_1.mpr ⟨by omega, by omega⟩)
theorem ri_dd91 : ∀ pc, pc < 33 → ri_one2 9 "endOf" cX9_endOf kX9_endOf pc = true := by
  intro pc h
  exact List.all_eq_true.mp ri_c91_0 pc (List.mem_range'_1.mpr ⟨by omega, by omega⟩)
theorem ri_dd92 : ∀ pc, pc < 43 → ri_one2 9 "numberAt" cX9_numberAt kX9_numberAt pc = true := by
  intro pc h
  exact List.all_eq_true.mp ri_c92_0 pc (List.mem_range'_1.mpr ⟨by omega, by omega⟩)
theorem ri_dd93 : ∀ pc, pc < 139 → ri_one2 9 "byteSign" cX9_byteSign kX9_byteSign pc = true := by
  intro pc h
  exact List.all_eq_true.mp ri_c93_0 pc (List.mem_range'_1.mpr ⟨by omega, by omega⟩)
theorem ri_dd94 : ∀ pc, pc < 119 → ri_one2 9 "wordSign" cX9_wordSign kX9_wordSign pc = true := by
  intro pc h
  exact List.all_eq_true.mp ri_c94_0 pc (List.mem_range'_1.mpr ⟨by omega, by omega⟩)
theorem ri_dd95 : ∀ pc, pc < 114 → ri_one2 9 "valueWordSign" cX9_valueWordSign kX9_valueWordSign pc = true := by
  intro pc h
  exact List.all_eq_true.mp ri_c95_0 pc (List.mem_range'_1.mpr ⟨by omega, by omega⟩)
theorem ri_dd96 : ∀ pc, pc < 12 → ri_one2 9 "sign" cX9_sign kX9_sign pc = true := by
  intro pc h
  exact List.all_eq_true.mp ri_c96_0 pc (List.mem_range'_1.mpr ⟨by omega, by omega⟩)
theorem ri_dd97 : ∀ pc, pc < 12 → ri_one2 9 "number" cX9_number kX9_number pc = true := by
  intro pc h
  exact List.all_eq_true.mp ri_c97_0 pc (List.mem_range'_1.mpr ⟨by omega, by omega⟩)
theorem ri_dd98 : ∀ pc, pc < 24 → ri_one2 9 "skip" cX9_skip kX9_skip pc = true := by
  intro pc h
  exact List.all_eq_true.mp ri_c98_0 pc (List.mem_range'_1.mpr ⟨by omega, by omega⟩)
theorem ri_dd99 : ∀ pc, pc < 23 → ri_one2 9 "take" cX9_take kX9_take pc = true := by
  intro pc h
  exact List.all_eq_true.mp ri_c99_0 pc (List.mem_range'_1.mpr ⟨by omega, by omega⟩)
theorem ri_dd100 : ∀ pc, pc < 40 → ri_one2 9 "fail" cX9_fail kX9_fail pc = true := by
  intro pc h
  exact List.all_eq_true.mp ri_c100_0 pc (List.mem_range'_1.mpr ⟨by omega, by omega⟩)
theorem ri_dd101 : ∀ pc, pc < 59 → ri_one2 9 "takeNumber" cX9_takeNumber kX9_takeNumber pc = true := by
  intro pc h
  exact List.all_eq_true.mp ri_c101_0 pc (List.mem_range'_1.mpr ⟨by omega, by omega⟩)
theorem ri_dd102 : ∀ pc, pc < 233 → ri_one2 10 "<init>" cX10_init kX10_init pc = true := by
  intro pc h
  rcases Nat.lt_or_ge pc 206 with q | q
  · exact List.all_eq_true.mp ri_c102_0 pc (List.mem_range'_1.mpr ⟨by omega, by omega⟩)
  exact List.all_eq_true.mp ri_c102_206 pc (List.mem_range'_1.mpr ⟨by omega, by omega⟩)
theorem ri_dd103 : ∀ pc, pc < 68 → ri_one2 10 "feed" cX10_feed kX10_feed pc = true := by
  intro pc h
  exact List.all_eq_true.mp ri_c103_0 pc (List.mem_range'_1.mpr ⟨by omega, by omega⟩)
theorem ri_dd104 : ∀ pc, pc < 27 → ri_one2 10 "end" cX10_end kX10_end pc = true := by
  intro pc h
  exact List.all_eq_true.mp ri_c104_0 pc (List.mem_range'_1.mpr ⟨by omega, by omega⟩)
theorem ri_dd105 : ∀ pc, pc < 81 → ri_one2 10 "court" cX10_court kX10_court pc = true := by
  intro pc h
  exact List.all_eq_true.mp ri_c105_0 pc (List.mem_range'_1.mpr ⟨by omega, by omega⟩)
theorem ri_dd106 : ∀ pc, pc < 96 → ri_one2 10 "law" cX10_law kX10_law pc = true := by
  intro pc h
  exact List.all_eq_true.mp ri_c106_0 pc (List.mem_range'_1.mpr ⟨by omega, by omega⟩)
theorem ri_dd107 : ∀ pc, pc < 101 → ri_one2 10 "thing" cX10_thing kX10_thing pc = true := by
  intro pc h
  exact List.all_eq_true.mp ri_c107_0 pc (List.mem_range'_1.mpr ⟨by omega, by omega⟩)
theorem ri_dd108 : ∀ pc, pc < 57 → ri_one2 10 "far" cX10_far kX10_far pc = true := by
  intro pc h
  exact List.all_eq_true.mp ri_c108_0 pc (List.mem_range'_1.mpr ⟨by omega, by omega⟩)
theorem ri_dd109 : ∀ pc, pc < 74 → ri_one2 10 "answer" cX10_answer kX10_answer pc = true := by
  intro pc h
  exact List.all_eq_true.mp ri_c109_0 pc (List.mem_range'_1.mpr ⟨by omega, by omega⟩)
theorem ri_dd110 : ∀ pc, pc < 115 → ri_one2 10 "answers" cX10_answers kX10_answers pc = true := by
  intro pc h
  exact List.all_eq_true.mp ri_c110_0 pc (List.mem_range'_1.mpr ⟨by omega, by omega⟩)
theorem ri_dd111 : ∀ pc, pc < 36 → ri_one2 10 "strike" cX10_strike kX10_strike pc = true := by
  intro pc h
  exact List.all_eq_true.mp ri_c111_0 pc (List.mem_range'_1.mpr ⟨by omega, by omega⟩)
theorem ri_dd112 : ∀ pc, pc < 32 → ri_one2 10 "only" cX10_only kX10_only pc = true := by
  intro pc h
  exact List.all_eq_true.mp ri_c112_0 pc (List.mem_range'_1.mpr ⟨by omega, by omega⟩)
theorem ri_dd113 : ∀ pc, pc < 22 → ri_one2 10 "spare" cX10_spare kX10_spare pc = true := by
  intro pc h
  exact List.all_eq_true.mp ri_c113_0 pc (List.mem_range'_1.mpr ⟨by omega, by omega⟩)
theorem ri_dd114 : ∀ pc, pc < 59 → ri_one2 10 "holds" cX10_holds kX10_holds pc = true := by
  intro pc h
  exact List.all_eq_true.mp ri_c114_0 pc (List.mem_range'_1.mpr ⟨by omega, by omega⟩)
theorem ri_dd115 : ∀ pc, pc < 52 → ri_one2 10 "wrong" cX10_wrong kX10_wrong pc = true := by
  intro pc h
  exact List.all_eq_true.mp ri_c115_0 pc (List.mem_range'_1.mpr ⟨by omega, by omega⟩)
theorem ri_dd116 : ∀ pc, pc < 23 → ri_one2 10 "kept" cX10_kept kX10_kept pc = true := by
  intro pc h
  exact List.all_eq_true.mp ri_c116_0 pc (List.mem_range'_1.mpr ⟨by omega, by omega⟩)
theorem ri_dd117 : ∀ pc, pc < 70 → ri_one2 10 "world" cX10_world kX10_world pc = true := by
  intro pc h
  exact List.all_eq_true.mp ri_c117_0 pc (List.mem_range'_1.mpr ⟨by omega, by omega⟩)
theorem ri_dd118 : ∀ pc, pc < 42 → ri_one2 10 "may" cX10_may kX10_may pc = true := by
  intro pc h
  exact List.all_eq_true.mp ri_c118_0 pc (List.mem_range'_1.mpr ⟨by omega, by omega⟩)
theorem ri_dd119 : ∀ pc, pc < 36 → ri_one2 10 "cleared" cX10_cleared kX10_cleared pc = true := by
  intro pc h
  exact List.all_eq_true.mp ri_c119_0 pc (List.mem_range'_1.mpr ⟨by omega, by omega⟩)
theorem ri_dd120 : ∀ pc, pc < 77 → ri_one2 10 "fewest" cX10_fewest kX10_fewest pc = true := by
  intro pc h
  exact List.all_eq_true.mp ri_c120_0 pc (List.mem_range'_1.mpr ⟨by omega, by omega⟩)
theorem ri_dd121 : ∀ pc, pc < 81 → ri_one2 10 "falseOnes" cX10_falseOnes kX10_falseOnes pc = true := by
  intro pc h
  exact List.all_eq_true.mp ri_c121_0 pc (List.mem_range'_1.mpr ⟨by omega, by omega⟩)
theorem ri_dd122 : ∀ pc, pc < 111 → ri_one2 10 "liars" cX10_liars kX10_liars pc = true := by
  intro pc h
  exact List.all_eq_true.mp ri_c122_0 pc (List.mem_range'_1.mpr ⟨by omega, by omega⟩)
theorem ri_dd123 : ∀ pc, pc < 124 → ri_one2 10 "quarrel" cX10_quarrel kX10_quarrel pc = true := by
  intro pc h
  exact List.all_eq_true.mp ri_c123_0 pc (List.mem_range'_1.mpr ⟨by omega, by omega⟩)
theorem ri_dd124 : ∀ pc, pc < 107 → ri_one2 10 "proof" cX10_proof kX10_proof pc = true := by
  intro pc h
  exact List.all_eq_true.mp ri_c124_0 pc (List.mem_range'_1.mpr ⟨by omega, by omega⟩)
theorem ri_dd125 : ∀ pc, pc < 126 → ri_one2 10 "byLaws" cX10_byLaws kX10_byLaws pc = true := by
  intro pc h
  exact List.all_eq_true.mp ri_c125_0 pc (List.mem_range'_1.mpr ⟨by omega, by omega⟩)
theorem ri_dd126 : ∀ pc, pc < 60 → ri_one2 10 "looks" cX10_looks kX10_looks pc = true := by
  intro pc h
  exact List.all_eq_true.mp ri_c126_0 pc (List.mem_range'_1.mpr ⟨by omega, by omega⟩)
theorem ri_dd127 : ∀ pc, pc < 53 → ri_one2 10 "sure" cX10_sure kX10_sure pc = true := by
  intro pc h
  exact List.all_eq_true.mp ri_c127_0 pc (List.mem_range'_1.mpr ⟨by omega, by omega⟩)
theorem ri_dd128 : ∀ pc, pc < 41 → ri_one2 10 "alone" cX10_alone kX10_alone pc = true := by
  intro pc h
  exact List.all_eq_true.mp ri_c128_0 pc (List.mem_range'_1.mpr ⟨by omega, by omega⟩)
theorem ri_dd129 : ∀ pc, pc < 128 → ri_one2 10 "mean" cX10_mean kX10_mean pc = true := by
  intro pc h
  exact List.all_eq_true.mp ri_c129_0 pc (List.mem_range'_1.mpr ⟨by omega, by omega⟩)
theorem ri_dd130 : ∀ pc, pc < 162 → ri_one2 10 "filled" cX10_filled kX10_filled pc = true := by
  intro pc h
  exact List.all_eq_true.mp ri_c130_0 pc (List.mem_range'_1.mpr ⟨by omega, by omega⟩)
theorem ri_dd131 : ∀ pc, pc < 47 → ri_one2 10 "useful" cX10_useful kX10_useful pc = true := by
  intro pc h
  exact List.all_eq_true.mp ri_c131_0 pc (List.mem_range'_1.mpr ⟨by omega, by omega⟩)
theorem ri_dd132 : ∀ pc, pc < 119 → ri_one2 10 "next" cX10_next kX10_next pc = true := by
  intro pc h
  exact List.all_eq_true.mp ri_c132_0 pc (List.mem_range'_1.mpr ⟨by omega, by omega⟩)
theorem ri_dd133 : ∀ pc, pc < 135 → ri_one2 10 "needed" cX10_needed kX10_needed pc = true := by
  intro pc h
  exact List.all_eq_true.mp ri_c133_0 pc (List.mem_range'_1.mpr ⟨by omega, by omega⟩)
theorem ri_dd134 : ∀ pc, pc < 211 → ri_one2 10 "steered" cX10_steered kX10_steered pc = true := by
  intro pc h
  rcases Nat.lt_or_ge pc 205 with q | q
  · exact List.all_eq_true.mp ri_c134_0 pc (List.mem_range'_1.mpr ⟨by omega, by omega⟩)
  exact List.all_eq_true.mp ri_c134_205 pc (List.mem_range'_1.mpr ⟨by omega, by omega⟩)
theorem ri_dd135 : ∀ pc, pc < 24 → ri_one2 10 "seed" cX10_seed kX10_seed pc = true := by
  intro pc h
  exact List.all_eq_true.mp ri_c135_0 pc (List.mem_range'_1.mpr ⟨by omega, by omega⟩)
theorem ri_dd136 : ∀ pc, pc < 173 → ri_one2 10 "trials" cX10_trials kX10_trials pc = true := by
  intro pc h
  exact List.all_eq_true.mp ri_c136_0 pc (List.mem_range'_1.mpr ⟨by omega, by omega⟩)
theorem ri_dd137 : ∀ pc, pc < 63 → ri_one2 10 "verdict" cX10_verdict kX10_verdict pc = true := by
  intro pc h
  exact List.all_eq_true.mp ri_c137_0 pc (List.mem_range'_1.mpr ⟨by omega, by omega⟩)
theorem ri_dd138 : ∀ pc, pc < 143 → ri_one2 10 "old" cX10_old kX10_old pc = true := by
  intro pc h
  exact List.all_eq_true.mp ri_c138_0 pc (List.mem_range'_1.mpr ⟨by omega, by omega⟩)
theorem ri_dd139 : ∀ pc, pc < 123 → ri_one2 10 "count" cX10_count kX10_count pc = true := by
  intro pc h
  exact List.all_eq_true.mp ri_c139_0 pc (List.mem_range'_1.mpr ⟨by omega, by omega⟩)
theorem ri_dd140 : ∀ pc, pc < 47 → ri_one2 10 "image" cX10_image kX10_image pc = true := by
  intro pc h
  exact List.all_eq_true.mp ri_c140_0 pc (List.mem_range'_1.mpr ⟨by omega, by omega⟩)
theorem ri_dd141 : ∀ pc, pc < 53 → ri_one2 10 "back" cX10_back kX10_back pc = true := by
  intro pc h
  exact List.all_eq_true.mp ri_c141_0 pc (List.mem_range'_1.mpr ⟨by omega, by omega⟩)
theorem ri_dd142 : ∀ pc, pc < 15 → ri_one2 10 "isOutside" cX10_isOutside kX10_isOutside pc = true := by
  intro pc h
  exact List.all_eq_true.mp ri_c142_0 pc (List.mem_range'_1.mpr ⟨by omega, by omega⟩)
theorem ri_dd143 : ∀ pc, pc < 18 → ri_one2 10 "at" cX10_at kX10_at pc = true := by
  intro pc h
  exact List.all_eq_true.mp ri_c143_0 pc (List.mem_range'_1.mpr ⟨by omega, by omega⟩)
theorem ri_dd144 : ∀ pc, pc < 15 → ri_one2 10 "set" cX10_set kX10_set pc = true := by
  intro pc h
  exact List.all_eq_true.mp ri_c144_0 pc (List.mem_range'_1.mpr ⟨by omega, by omega⟩)
theorem ri_dd145 : ∀ pc, pc < 7 → ri_one2 10 "slot" cX10_slot kX10_slot pc = true := by
  intro pc h
  exact List.all_eq_true.mp ri_c145_0 pc (List.mem_range'_1.mpr ⟨by omega, by omega⟩)
theorem ri_dd146 : ∀ pc, pc < 29 → ri_one2 10 "isLesserSet" cX10_isLesserSet kX10_isLesserSet pc = true := by
  intro pc h
  exact List.all_eq_true.mp ri_c146_0 pc (List.mem_range'_1.mpr ⟨by omega, by omega⟩)
theorem ri_dd147 : ∀ pc, pc < 16 → ri_one2 10 "drawn" cX10_drawn kX10_drawn pc = true := by
  intro pc h
  exact List.all_eq_true.mp ri_c147_0 pc (List.mem_range'_1.mpr ⟨by omega, by omega⟩)
theorem ri_dd148 : ∀ pc, pc < 23 → ri_one2 10 "lowerBound" cX10_lowerBound kX10_lowerBound pc = true := by
  intro pc h
  exact List.all_eq_true.mp ri_c148_0 pc (List.mem_range'_1.mpr ⟨by omega, by omega⟩)
theorem ri_dd149 : ∀ pc, pc < 51 → ri_one2 10 "courtIsAnother" cX10_courtIsAnother kX10_courtIsAnother pc = true := by
  intro pc h
  exact List.all_eq_true.mp ri_c149_0 pc (List.mem_range'_1.mpr ⟨by omega, by omega⟩)
theorem ri_dd150 : ∀ pc, pc < 66 → ri_one2 10 "lawInUse" cX10_lawInUse kX10_lawInUse pc = true := by
  intro pc h
  exact List.all_eq_true.mp ri_c150_0 pc (List.mem_range'_1.mpr ⟨by omega, by omega⟩)
theorem ri_dd151 : ∀ pc, pc < 47 → ri_one2 10 "lawWithKept" cX10_lawWithKept kX10_lawWithKept pc = true := by
  intro pc h
  exact List.all_eq_true.mp ri_c151_0 pc (List.mem_range'_1.mpr ⟨by omega, by omega⟩)
theorem ri_dd152 : ∀ pc, pc < 38 → ri_one2 10 "nearThings" cX10_nearThings kX10_nearThings pc = true := by
  intro pc h
  exact List.all_eq_true.mp ri_c152_0 pc (List.mem_range'_1.mpr ⟨by omega, by omega⟩)
theorem ri_dd153 : ∀ pc, pc < 44 → ri_one2 10 "trueThings" cX10_trueThings kX10_trueThings pc = true := by
  intro pc h
  exact List.all_eq_true.mp ri_c153_0 pc (List.mem_range'_1.mpr ⟨by omega, by omega⟩)
theorem ri_dd154 : ∀ pc, pc < 45 → ri_one2 10 "isTrue" cX10_isTrue kX10_isTrue pc = true := by
  intro pc h
  exact List.all_eq_true.mp ri_c154_0 pc (List.mem_range'_1.mpr ⟨by omega, by omega⟩)
theorem ri_dd155 : ∀ pc, pc < 42 → ri_one2 10 "hasWorld" cX10_hasWorld kX10_hasWorld pc = true := by
  intro pc h
  exact List.all_eq_true.mp ri_c155_0 pc (List.mem_range'_1.mpr ⟨by omega, by omega⟩)
theorem ri_dd156 : ∀ pc, pc < 235 → ri_one2 10 "countFalse" cX10_countFalse kX10_countFalse pc = true := by
  intro pc h
  rcases Nat.lt_or_ge pc 210 with q | q
  · exact List.all_eq_true.mp ri_c156_0 pc (List.mem_range'_1.mpr ⟨by omega, by omega⟩)
  exact List.all_eq_true.mp ri_c156_210 pc (List.mem_range'_1.mpr ⟨by omega, by omega⟩)
theorem ri_dd157 : ∀ pc, pc < 58 → ri_one2 10 "addFalse" cX10_addFalse kX10_addFalse pc = true := by
  intro pc h
  exact List.all_eq_true.mp ri_c157_0 pc (List.mem_range'_1.mpr ⟨by omega, by omega⟩)
theorem ri_dd158 : ∀ pc, pc < 19 → ri_one2 10 "empty" cX10_empty kX10_empty pc = true := by
  intro pc h
  exact List.all_eq_true.mp ri_c158_0 pc (List.mem_range'_1.mpr ⟨by omega, by omega⟩)
theorem ri_dd159 : ∀ pc, pc < 120 → ri_one2 10 "fillKept" cX10_fillKept kX10_fillKept pc = true := by
  intro pc h
  exact List.all_eq_true.mp ri_c159_0 pc (List.mem_range'_1.mpr ⟨by omega, by omega⟩)
theorem ri_dd160 : ∀ pc, pc < 41 → ri_one2 10 "worldsWithAtMost" cX10_worldsWithAtMost kX10_worldsWithAtMost pc = true := by
  intro pc h
  exact List.all_eq_true.mp ri_c160_0 pc (List.mem_range'_1.mpr ⟨by omega, by omega⟩)
theorem ri_dd161 : ∀ pc, pc < 61 → ri_one2 10 "bestWorld" cX10_bestWorld kX10_bestWorld pc = true := by
  intro pc h
  exact List.all_eq_true.mp ri_c161_0 pc (List.mem_range'_1.mpr ⟨by omega, by omega⟩)
theorem ri_dd162 : ∀ pc, pc < 139 → ri_one2 10 "markLiars" cX10_markLiars kX10_markLiars pc = true := by
  intro pc h
  exact List.all_eq_true.mp ri_c162_0 pc (List.mem_range'_1.mpr ⟨by omega, by omega⟩)
theorem ri_dd163 : ∀ pc, pc < 59 → ri_one2 10 "gatherProof" cX10_gatherProof kX10_gatherProof pc = true := by
  intro pc h
  exact List.all_eq_true.mp ri_c163_0 pc (List.mem_range'_1.mpr ⟨by omega, by omega⟩)
theorem ri_dd164 : ∀ pc, pc < 79 → ri_one2 10 "provesMan" cX10_provesMan kX10_provesMan pc = true := by
  intro pc h
  exact List.all_eq_true.mp ri_c164_0 pc (List.mem_range'_1.mpr ⟨by omega, by omega⟩)
theorem ri_dd165 : ∀ pc, pc < 125 → ri_one2 10 "countKeptBy" cX10_countKeptBy kX10_countKeptBy pc = true := by
  intro pc h
  exact List.all_eq_true.mp ri_c165_0 pc (List.mem_range'_1.mpr ⟨by omega, by omega⟩)
theorem ri_dd166 : ∀ pc, pc < 72 → ri_one2 10 "usefulPairs" cX10_usefulPairs kX10_usefulPairs pc = true := by
  intro pc h
  exact List.all_eq_true.mp ri_c166_0 pc (List.mem_range'_1.mpr ⟨by omega, by omega⟩)
theorem ri_dd167 : ∀ pc, pc < 132 → ri_one2 10 "trial" cX10_trial kX10_trial pc = true := by
  intro pc h
  exact List.all_eq_true.mp ri_c167_0 pc (List.mem_range'_1.mpr ⟨by omega, by omega⟩)
theorem ri_dd168 : ∀ pc, pc < 175 → ri_one2 11 "<init>" cX11_init kX11_init pc = true := by
  intro pc h
  exact List.all_eq_true.mp ri_c168_0 pc (List.mem_range'_1.mpr ⟨by omega, by omega⟩)
theorem ri_dd169 : ∀ pc, pc < 19 → ri_one2 11 "in" cX11_in kX11_in pc = true := by
  intro pc h
  exact List.all_eq_true.mp ri_c169_0 pc (List.mem_range'_1.mpr ⟨by omega, by omega⟩)
theorem ri_dd170 : ∀ pc, pc < 24 → ri_one2 11 "bits" cX11_bits kX11_bits pc = true := by
  intro pc h
  exact List.all_eq_true.mp ri_c170_0 pc (List.mem_range'_1.mpr ⟨by omega, by omega⟩)
theorem ri_dd171 : ∀ pc, pc < 37 → ri_one2 11 "four" cX11_four kX11_four pc = true := by
  intro pc h
  exact List.all_eq_true.mp ri_c171_0 pc (List.mem_range'_1.mpr ⟨by omega, by omega⟩)
theorem ri_dd172 : ∀ pc, pc < 47 → ri_one2 11 "feed" cX11_feed kX11_feed pc = true := by
  intro pc h
  exact List.all_eq_true.mp ri_c172_0 pc (List.mem_range'_1.mpr ⟨by omega, by omega⟩)
theorem ri_dd173 : ∀ pc, pc < 21 → ri_one2 11 "end" cX11_end kX11_end pc = true := by
  intro pc h
  exact List.all_eq_true.mp ri_c173_0 pc (List.mem_range'_1.mpr ⟨by omega, by omega⟩)
theorem ri_dd174 : ∀ pc, pc < 21 → ri_one2 11 "fails" cX11_fails kX11_fails pc = true := by
  intro pc h
  exact List.all_eq_true.mp ri_c174_0 pc (List.mem_range'_1.mpr ⟨by omega, by omega⟩)
theorem ri_dd175 : ∀ pc, pc < 67 → ri_one2 11 "see" cX11_see kX11_see pc = true := by
  intro pc h
  exact List.all_eq_true.mp ri_c175_0 pc (List.mem_range'_1.mpr ⟨by omega, by omega⟩)
theorem ri_dd176 : ∀ pc, pc < 36 → ri_one2 11 "isDigit" cX11_isDigit kX11_isDigit pc = true := by
  intro pc h
  exact List.all_eq_true.mp ri_c176_0 pc (List.mem_range'_1.mpr ⟨by omega, by omega⟩)
theorem ri_dd177 : ∀ pc, pc < 36 → ri_one2 11 "isLetter" cX11_isLetter kX11_isLetter pc = true := by
  intro pc h
  exact List.all_eq_true.mp ri_c177_0 pc (List.mem_range'_1.mpr ⟨by omega, by omega⟩)
theorem ri_dd178 : ∀ pc, pc < 80 → ri_one2 11 "isWord" cX11_isWord kX11_isWord pc = true := by
  intro pc h
  exact List.all_eq_true.mp ri_c178_0 pc (List.mem_range'_1.mpr ⟨by omega, by omega⟩)
theorem ri_dd179 : ∀ pc, pc < 25 → ri_one2 11 "passWord" cX11_passWord kX11_passWord pc = true := by
  intro pc h
  exact List.all_eq_true.mp ri_c179_0 pc (List.mem_range'_1.mpr ⟨by omega, by omega⟩)
theorem ri_dd180 : ∀ pc, pc < 16 → ri_one2 11 "takesWord" cX11_takesWord kX11_takesWord pc = true := by
  intro pc h
  exact List.all_eq_true.mp ri_c180_0 pc (List.mem_range'_1.mpr ⟨by omega, by omega⟩)
theorem ri_dd181 : ∀ pc, pc < 132 → ri_one2 11 "numberHere" cX11_numberHere kX11_numberHere pc = true := by
  intro pc h
  exact List.all_eq_true.mp ri_c181_0 pc (List.mem_range'_1.mpr ⟨by omega, by omega⟩)
theorem ri_dd182 : ∀ pc, pc < 104 → ri_one2 11 "wordHere" cX11_wordHere kX11_wordHere pc = true := by
  intro pc h
  exact List.all_eq_true.mp ri_c182_0 pc (List.mem_range'_1.mpr ⟨by omega, by omega⟩)
theorem ri_dd183 : ∀ pc, pc < 43 → ri_one2 11 "puts" cX11_puts kX11_puts pc = true := by
  intro pc h
  exact List.all_eq_true.mp ri_c183_0 pc (List.mem_range'_1.mpr ⟨by omega, by omega⟩)
theorem ri_dd184 : ∀ pc, pc < 28 → ri_one2 11 "makes" cX11_makes kX11_makes pc = true := by
  intro pc h
  exact List.all_eq_true.mp ri_c184_0 pc (List.mem_range'_1.mpr ⟨by omega, by omega⟩)
theorem ri_dd185 : ∀ pc, pc < 51 → ri_one2 11 "opens" cX11_opens kX11_opens pc = true := by
  intro pc h
  exact List.all_eq_true.mp ri_c185_0 pc (List.mem_range'_1.mpr ⟨by omega, by omega⟩)
theorem ri_dd186 : ∀ pc, pc < 32 → ri_one2 11 "strength" cX11_strength kX11_strength pc = true := by
  intro pc h
  exact List.all_eq_true.mp ri_c186_0 pc (List.mem_range'_1.mpr ⟨by omega, by omega⟩)
theorem ri_dd187 : ∀ pc, pc < 77 → ri_one2 11 "settles" cX11_settles kX11_settles pc = true := by
  intro pc h
  exact List.all_eq_true.mp ri_c187_0 pc (List.mem_range'_1.mpr ⟨by omega, by omega⟩)
theorem ri_dd188 : ∀ pc, pc < 90 → ri_one2 11 "value" cX11_value kX11_value pc = true := by
  intro pc h
  exact List.all_eq_true.mp ri_c188_0 pc (List.mem_range'_1.mpr ⟨by omega, by omega⟩)
theorem ri_dd189 : ∀ pc, pc < 77 → ri_one2 11 "term" cX11_term kX11_term pc = true := by
  intro pc h
  exact List.all_eq_true.mp ri_c189_0 pc (List.mem_range'_1.mpr ⟨by omega, by omega⟩)
theorem ri_dd190 : ∀ pc, pc < 77 → ri_one2 11 "sum" cX11_sum kX11_sum pc = true := by
  intro pc h
  exact List.all_eq_true.mp ri_c190_0 pc (List.mem_range'_1.mpr ⟨by omega, by omega⟩)
theorem ri_dd191 : ∀ pc, pc < 175 → ri_one2 11 "compare" cX11_compare kX11_compare pc = true := by
  intro pc h
  exact List.all_eq_true.mp ri_c191_0 pc (List.mem_range'_1.mpr ⟨by omega, by omega⟩)
theorem ri_dd192 : ∀ pc, pc < 80 → ri_one2 11 "fact" cX11_fact kX11_fact pc = true := by
  intro pc h
  exact List.all_eq_true.mp ri_c192_0 pc (List.mem_range'_1.mpr ⟨by omega, by omega⟩)
theorem ri_dd193 : ∀ pc, pc < 31 → ri_one2 11 "isInside" cX11_isInside kX11_isInside pc = true := by
  intro pc h
  exact List.all_eq_true.mp ri_c193_0 pc (List.mem_range'_1.mpr ⟨by omega, by omega⟩)
theorem ri_dd194 : ∀ pc, pc < 65 → ri_one2 11 "closes" cX11_closes kX11_closes pc = true := by
  intro pc h
  exact List.all_eq_true.mp ri_c194_0 pc (List.mem_range'_1.mpr ⟨by omega, by omega⟩)
theorem ri_dd195 : ∀ pc, pc < 141 → ri_one2 11 "tested" cX11_tested kX11_tested pc = true := by
  intro pc h
  exact List.all_eq_true.mp ri_c195_0 pc (List.mem_range'_1.mpr ⟨by omega, by omega⟩)
theorem ri_dd196 : ∀ pc, pc < 151 → ri_one2 11 "clauseOf" cX11_clauseOf kX11_clauseOf pc = true := by
  intro pc h
  exact List.all_eq_true.mp ri_c196_0 pc (List.mem_range'_1.mpr ⟨by omega, by omega⟩)
theorem ri_dd197 : ∀ pc, pc < 54 → ri_one2 11 "isRoadHere" cX11_isRoadHere kX11_isRoadHere pc = true := by
  intro pc h
  exact List.all_eq_true.mp ri_c197_0 pc (List.mem_range'_1.mpr ⟨by omega, by omega⟩)
theorem ri_dd198 : ∀ pc, pc < 63 → ri_one2 11 "isManHere" cX11_isManHere kX11_isManHere pc = true := by
  intro pc h
  exact List.all_eq_true.mp ri_c198_0 pc (List.mem_range'_1.mpr ⟨by omega, by omega⟩)
theorem ri_dd199 : ∀ pc, pc < 105 → ri_one2 11 "courtLineHere" cX11_courtLineHere kX11_courtLineHere pc = true := by
  intro pc h
  exact List.all_eq_true.mp ri_c199_0 pc (List.mem_range'_1.mpr ⟨by omega, by omega⟩)
theorem ri_dd200 : ∀ pc, pc < 161 → ri_one2 11 "clauseHere" cX11_clauseHere kX11_clauseHere pc = true := by
  intro pc h
  exact List.all_eq_true.mp ri_c200_0 pc (List.mem_range'_1.mpr ⟨by omega, by omega⟩)
theorem ri_dd201 : ∀ pc, pc < 143 → ri_one2 11 "readsAll" cX11_readsAll kX11_readsAll pc = true := by
  intro pc h
  exact List.all_eq_true.mp ri_c201_0 pc (List.mem_range'_1.mpr ⟨by omega, by omega⟩)
theorem ri_dd202 : ∀ pc, pc < 61 → ri_one2 11 "law" cX11_law kX11_law pc = true := by
  intro pc h
  exact List.all_eq_true.mp ri_c202_0 pc (List.mem_range'_1.mpr ⟨by omega, by omega⟩)
theorem ri_dd203 : ∀ pc, pc < 169 → ri_one2 11 "court" cX11_court kX11_court pc = true := by
  intro pc h
  rcases Nat.lt_or_ge pc 168 with q | q
  · exact List.all_eq_true.mp ri_c203_0 pc (List.mem_range'_1.mpr ⟨by omega, by omega⟩)
  exact List.all_eq_true.mp ri_c203_168 pc (List.mem_range'_1.mpr ⟨by omega, by omega⟩)
theorem ri_dd204 : ∀ pc, pc < 18 → ri_one2 11 "isLaw" cX11_isLaw kX11_isLaw pc = true := by
  intro pc h
  exact List.all_eq_true.mp ri_c204_0 pc (List.mem_range'_1.mpr ⟨by omega, by omega⟩)
theorem ri_dd205 : ∀ pc, pc < 21 → ri_one2 11 "push" cX11_push kX11_push pc = true := by
  intro pc h
  exact List.all_eq_true.mp ri_c205_0 pc (List.mem_range'_1.mpr ⟨by omega, by omega⟩)
theorem ri_dd206 : ∀ pc, pc < 20 → ri_one2 11 "pop" cX11_pop kX11_pop pc = true := by
  intro pc h
  exact List.all_eq_true.mp ri_c206_0 pc (List.mem_range'_1.mpr ⟨by omega, by omega⟩)
theorem ri_dd207 : ∀ pc, pc < 154 → ri_one2 11 "one" cX11_one kX11_one pc = true := by
  intro pc h
  exact List.all_eq_true.mp ri_c207_0 pc (List.mem_range'_1.mpr ⟨by omega, by omega⟩)
theorem ri_dd208 : ∀ pc, pc < 140 → ri_one2 11 "reckons" cX11_reckons kX11_reckons pc = true := by
  intro pc h
  exact List.all_eq_true.mp ri_c208_0 pc (List.mem_range'_1.mpr ⟨by omega, by omega⟩)
theorem ri_dd209 : ∀ pc, pc < 15 → ri_one2 11 "isCourt" cX11_isCourt kX11_isCourt pc = true := by
  intro pc h
  exact List.all_eq_true.mp ri_c209_0 pc (List.mem_range'_1.mpr ⟨by omega, by omega⟩)
theorem ri_dd210 : ∀ pc, pc < 21 → ri_one2 11 "worlds" cX11_worlds kX11_worlds pc = true := by
  intro pc h
  exact List.all_eq_true.mp ri_c210_0 pc (List.mem_range'_1.mpr ⟨by omega, by omega⟩)
theorem ri_dd211 : ∀ pc, pc < 25 → ri_one2 11 "isKind" cX11_isKind kX11_isKind pc = true := by
  intro pc h
  exact List.all_eq_true.mp ri_c211_0 pc (List.mem_range'_1.mpr ⟨by omega, by omega⟩)
theorem ri_dd212 : ∀ pc, pc < 28 → ri_one2 11 "isThing" cX11_isThing kX11_isThing pc = true := by
  intro pc h
  exact List.all_eq_true.mp ri_c212_0 pc (List.mem_range'_1.mpr ⟨by omega, by omega⟩)
theorem ri_dd213 : ∀ pc, pc < 18 → ri_one2 11 "isWorld" cX11_isWorld kX11_isWorld pc = true := by
  intro pc h
  exact List.all_eq_true.mp ri_c213_0 pc (List.mem_range'_1.mpr ⟨by omega, by omega⟩)
theorem ri_dd214 : ∀ pc, pc < 16 → ri_one2 11 "isWitness" cX11_isWitness kX11_isWitness pc = true := by
  intro pc h
  exact List.all_eq_true.mp ri_c214_0 pc (List.mem_range'_1.mpr ⟨by omega, by omega⟩)
theorem ri_dd215 : ∀ pc, pc < 20 → ri_one2 11 "isAnswer" cX11_isAnswer kX11_isAnswer pc = true := by
  intro pc h
  exact List.all_eq_true.mp ri_c215_0 pc (List.mem_range'_1.mpr ⟨by omega, by omega⟩)
theorem ri_dd216 : ∀ pc, pc < 14 → ri_one2 11 "answerOf" cX11_answerOf kX11_answerOf pc = true := by
  intro pc h
  exact List.all_eq_true.mp ri_c216_0 pc (List.mem_range'_1.mpr ⟨by omega, by omega⟩)
theorem ri_dd217 : ∀ pc, pc < 55 → ri_one2 11 "thingOf" cX11_thingOf kX11_thingOf pc = true := by
  intro pc h
  exact List.all_eq_true.mp ri_c217_0 pc (List.mem_range'_1.mpr ⟨by omega, by omega⟩)
theorem ri_dd218 : ∀ pc, pc < 73 → ri_one2 11 "thing" cX11_thing kX11_thing pc = true := by
  intro pc h
  exact List.all_eq_true.mp ri_c218_0 pc (List.mem_range'_1.mpr ⟨by omega, by omega⟩)
theorem ri_dd219 : ∀ pc, pc < 15 → ri_one2 11 "apart" cX11_apart kX11_apart pc = true := by
  intro pc h
  exact List.all_eq_true.mp ri_c219_0 pc (List.mem_range'_1.mpr ⟨by omega, by omega⟩)
theorem ri_dd220 : ∀ pc, pc < 223 → ri_one2 11 "words" cX11_words kX11_words pc = true := by
  intro pc h
  rcases Nat.lt_or_ge pc 149 with q | q
  · exact List.all_eq_true.mp ri_c220_0 pc (List.mem_range'_1.mpr ⟨by omega, by omega⟩)
  exact List.all_eq_true.mp ri_c220_149 pc (List.mem_range'_1.mpr ⟨by omega, by omega⟩)
theorem ri_dd221 : ∀ pc, pc < 124 → ri_one2 11 "farBy" cX11_farBy kX11_farBy pc = true := by
  intro pc h
  exact List.all_eq_true.mp ri_c221_0 pc (List.mem_range'_1.mpr ⟨by omega, by omega⟩)
theorem ri_dd222 : ∀ pc, pc < 43 → ri_one2 11 "far" cX11_far kX11_far pc = true := by
  intro pc h
  exact List.all_eq_true.mp ri_c222_0 pc (List.mem_range'_1.mpr ⟨by omega, by omega⟩)
theorem ri_dd223 : ∀ pc, pc < 40 → ri_one2 11 "answersBy" cX11_answersBy kX11_answersBy pc = true := by
  intro pc h
  exact List.all_eq_true.mp ri_c223_0 pc (List.mem_range'_1.mpr ⟨by omega, by omega⟩)
theorem ri_dd224 : ∀ pc, pc < 136 → ri_one2 11 "answer" cX11_answer kX11_answer pc = true := by
  intro pc h
  exact List.all_eq_true.mp ri_c224_0 pc (List.mem_range'_1.mpr ⟨by omega, by omega⟩)
theorem ri_dd225 : ∀ pc, pc < 31 → ri_one2 11 "answers" cX11_answers kX11_answers pc = true := by
  intro pc h
  exact List.all_eq_true.mp ri_c225_0 pc (List.mem_range'_1.mpr ⟨by omega, by omega⟩)
theorem ri_dd226 : ∀ pc, pc < 53 → ri_one2 11 "strike" cX11_strike kX11_strike pc = true := by
  intro pc h
  exact List.all_eq_true.mp ri_c226_0 pc (List.mem_range'_1.mpr ⟨by omega, by omega⟩)
theorem ri_dd227 : ∀ pc, pc < 33 → ri_one2 11 "only" cX11_only kX11_only pc = true := by
  intro pc h
  exact List.all_eq_true.mp ri_c227_0 pc (List.mem_range'_1.mpr ⟨by omega, by omega⟩)
theorem ri_dd228 : ∀ pc, pc < 35 → ri_one2 11 "isLookedAt" cX11_isLookedAt kX11_isLookedAt pc = true := by
  intro pc h
  exact List.all_eq_true.mp ri_c228_0 pc (List.mem_range'_1.mpr ⟨by omega, by omega⟩)
theorem ri_dd229 : ∀ pc, pc < 78 → ri_one2 11 "reaches" cX11_reaches kX11_reaches pc = true := by
  intro pc h
  exact List.all_eq_true.mp ri_c229_0 pc (List.mem_range'_1.mpr ⟨by omega, by omega⟩)
theorem ri_dd230 : ∀ pc, pc < 53 → ri_one2 11 "isNearer" cX11_isNearer kX11_isNearer pc = true := by
  intro pc h
  exact List.all_eq_true.mp ri_c230_0 pc (List.mem_range'_1.mpr ⟨by omega, by omega⟩)
theorem ri_dd231 : ∀ pc, pc < 24 → ri_one2 11 "isTrue" cX11_isTrue kX11_isTrue pc = true := by
  intro pc h
  exact List.all_eq_true.mp ri_c231_0 pc (List.mem_range'_1.mpr ⟨by omega, by omega⟩)
theorem ri_dd232 : ∀ pc, pc < 57 → ri_one2 11 "wrongIn" cX11_wrongIn kX11_wrongIn pc = true := by
  intro pc h
  exact List.all_eq_true.mp ri_c232_0 pc (List.mem_range'_1.mpr ⟨by omega, by omega⟩)
theorem ri_dd233 : ∀ pc, pc < 21 → ri_one2 11 "canAsk" cX11_canAsk kX11_canAsk pc = true := by
  intro pc h
  exact List.all_eq_true.mp ri_c233_0 pc (List.mem_range'_1.mpr ⟨by omega, by omega⟩)
theorem ri_dd234 : ∀ pc, pc < 10 → ri_one2 11 "isMany" cX11_isMany kX11_isMany pc = true := by
  intro pc h
  exact List.all_eq_true.mp ri_c234_0 pc (List.mem_range'_1.mpr ⟨by omega, by omega⟩)
theorem ri_dd235 : ∀ pc, pc < 72 → ri_one2 11 "keeps" cX11_keeps kX11_keeps pc = true := by
  intro pc h
  exact List.all_eq_true.mp ri_c235_0 pc (List.mem_range'_1.mpr ⟨by omega, by omega⟩)
theorem ri_dd236 : ∀ pc, pc < 46 → ri_one2 11 "holds" cX11_holds kX11_holds pc = true := by
  intro pc h
  exact List.all_eq_true.mp ri_c236_0 pc (List.mem_range'_1.mpr ⟨by omega, by omega⟩)
theorem ri_dd237 : ∀ pc, pc < 30 → ri_one2 11 "wrong" cX11_wrong kX11_wrong pc = true := by
  intro pc h
  exact List.all_eq_true.mp ri_c237_0 pc (List.mem_range'_1.mpr ⟨by omega, by omega⟩)
theorem ri_dd238 : ∀ pc, pc < 27 → ri_one2 11 "kept" cX11_kept kX11_kept pc = true := by
  intro pc h
  exact List.all_eq_true.mp ri_c238_0 pc (List.mem_range'_1.mpr ⟨by omega, by omega⟩)
theorem ri_dd239 : ∀ pc, pc < 78 → ri_one2 11 "world" cX11_world kX11_world pc = true := by
  intro pc h
  exact List.all_eq_true.mp ri_c239_0 pc (List.mem_range'_1.mpr ⟨by omega, by omega⟩)
theorem ri_dd240 : ∀ pc, pc < 51 → ri_one2 11 "keptWith" cX11_keptWith kX11_keptWith pc = true := by
  intro pc h
  exact List.all_eq_true.mp ri_c240_0 pc (List.mem_range'_1.mpr ⟨by omega, by omega⟩)
theorem ri_dd241 : ∀ pc, pc < 43 → ri_one2 11 "may" cX11_may kX11_may pc = true := by
  intro pc h
  exact List.all_eq_true.mp ri_c241_0 pc (List.mem_range'_1.mpr ⟨by omega, by omega⟩)
theorem ri_dd242 : ∀ pc, pc < 70 → ri_one2 11 "cleared" cX11_cleared kX11_cleared pc = true := by
  intro pc h
  exact List.all_eq_true.mp ri_c242_0 pc (List.mem_range'_1.mpr ⟨by omega, by omega⟩)
theorem ri_dd243 : ∀ pc, pc < 96 → ri_one2 11 "finds" cX11_finds kX11_finds pc = true := by
  intro pc h
  exact List.all_eq_true.mp ri_c243_0 pc (List.mem_range'_1.mpr ⟨by omega, by omega⟩)
theorem ri_dd244 : ∀ pc, pc < 55 → ri_one2 11 "fewest" cX11_fewest kX11_fewest pc = true := by
  intro pc h
  exact List.all_eq_true.mp ri_c244_0 pc (List.mem_range'_1.mpr ⟨by omega, by omega⟩)
theorem ri_dd245 : ∀ pc, pc < 74 → ri_one2 11 "falseOnes" cX11_falseOnes kX11_falseOnes pc = true := by
  intro pc h
  exact List.all_eq_true.mp ri_c245_0 pc (List.mem_range'_1.mpr ⟨by omega, by omega⟩)
theorem ri_dd246 : ∀ pc, pc < 136 → ri_one2 11 "liars" cX11_liars kX11_liars pc = true := by
  intro pc h
  exact List.all_eq_true.mp ri_c246_0 pc (List.mem_range'_1.mpr ⟨by omega, by omega⟩)
theorem ri_dd247 : ∀ pc, pc < 38 → ri_one2 11 "areTrueTogether" cX11_areTrueTogether kX11_areTrueTogether pc = true := by
  intro pc h
  exact List.all_eq_true.mp ri_c247_0 pc (List.mem_range'_1.mpr ⟨by omega, by omega⟩)
theorem ri_dd248 : ∀ pc, pc < 88 → ri_one2 11 "quarrel" cX11_quarrel kX11_quarrel pc = true := by
  intro pc h
  exact List.all_eq_true.mp ri_c248_0 pc (List.mem_range'_1.mpr ⟨by omega, by omega⟩)
theorem ri_dd249 : ∀ pc, pc < 106 → ri_one2 11 "twelve" cX11_twelve kX11_twelve pc = true := by
  intro pc h
  exact List.all_eq_true.mp ri_c249_0 pc (List.mem_range'_1.mpr ⟨by omega, by omega⟩)
theorem ri_dd250 : ∀ pc, pc < 53 → ri_one2 11 "proves" cX11_proves kX11_proves pc = true := by
  intro pc h
  exact List.all_eq_true.mp ri_c250_0 pc (List.mem_range'_1.mpr ⟨by omega, by omega⟩)
theorem ri_dd251 : ∀ pc, pc < 87 → ri_one2 11 "proof" cX11_proof kX11_proof pc = true := by
  intro pc h
  exact List.all_eq_true.mp ri_c251_0 pc (List.mem_range'_1.mpr ⟨by omega, by omega⟩)
theorem ri_dd252 : ∀ pc, pc < 209 → ri_one2 11 "byLaws" cX11_byLaws kX11_byLaws pc = true := by
  intro pc h
  rcases Nat.lt_or_ge pc 182 with q | q
  · exact List.all_eq_true.mp ri_c252_0 pc (List.mem_range'_1.mpr ⟨by omega, by omega⟩)
  exact List.all_eq_true.mp ri_c252_182 pc (List.mem_range'_1.mpr ⟨by omega, by omega⟩)
theorem ri_dd253 : ∀ pc, pc < 87 → ri_one2 11 "looks" cX11_looks kX11_looks pc = true := by
  intro pc h
  exact List.all_eq_true.mp ri_c253_0 pc (List.mem_range'_1.mpr ⟨by omega, by omega⟩)
theorem ri_dd254 : ∀ pc, pc < 77 → ri_one2 11 "sure" cX11_sure kX11_sure pc = true := by
  intro pc h
  exact List.all_eq_true.mp ri_c254_0 pc (List.mem_range'_1.mpr ⟨by omega, by omega⟩)
theorem ri_dd255 : ∀ pc, pc < 123 → ri_one2 11 "alone" cX11_alone kX11_alone pc = true := by
  intro pc h
  exact List.all_eq_true.mp ri_c255_0 pc (List.mem_range'_1.mpr ⟨by omega, by omega⟩)
theorem ri_dd256 : ∀ pc, pc < 111 → ri_one2 11 "mean" cX11_mean kX11_mean pc = true := by
  intro pc h
  exact List.all_eq_true.mp ri_c256_0 pc (List.mem_range'_1.mpr ⟨by omega, by omega⟩)
theorem ri_dd257 : ∀ pc, pc < 107 → ri_one2 11 "gathers" cX11_gathers kX11_gathers pc = true := by
  intro pc h
  exact List.all_eq_true.mp ri_c257_0 pc (List.mem_range'_1.mpr ⟨by omega, by omega⟩)
theorem ri_dd258 : ∀ pc, pc < 38 → ri_one2 11 "leaves" cX11_leaves kX11_leaves pc = true := by
  intro pc h
  exact List.all_eq_true.mp ri_c258_0 pc (List.mem_range'_1.mpr ⟨by omega, by omega⟩)
theorem ri_dd259 : ∀ pc, pc < 87 → ri_one2 11 "asks" cX11_asks kX11_asks pc = true := by
  intro pc h
  exact List.all_eq_true.mp ri_c259_0 pc (List.mem_range'_1.mpr ⟨by omega, by omega⟩)
theorem ri_dd260 : ∀ pc, pc < 11 → ri_one2 11 "greater" cX11_greater kX11_greater pc = true := by
  intro pc h
  exact List.all_eq_true.mp ri_c260_0 pc (List.mem_range'_1.mpr ⟨by omega, by omega⟩)
theorem ri_dd261 : ∀ pc, pc < 107 → ri_one2 11 "asksNext" cX11_asksNext kX11_asksNext pc = true := by
  intro pc h
  exact List.all_eq_true.mp ri_c261_0 pc (List.mem_range'_1.mpr ⟨by omega, by omega⟩)
theorem ri_dd262 : ∀ pc, pc < 124 → ri_one2 11 "useful" cX11_useful kX11_useful pc = true := by
  intro pc h
  exact List.all_eq_true.mp ri_c262_0 pc (List.mem_range'_1.mpr ⟨by omega, by omega⟩)
theorem ri_dd263 : ∀ pc, pc < 169 → ri_one2 11 "filled" cX11_filled kX11_filled pc = true := by
  intro pc h
  exact List.all_eq_true.mp ri_c263_0 pc (List.mem_range'_1.mpr ⟨by omega, by omega⟩)
theorem ri_dd264 : ∀ pc, pc < 128 → ri_one2 11 "next" cX11_next kX11_next pc = true := by
  intro pc h
  exact List.all_eq_true.mp ri_c264_0 pc (List.mem_range'_1.mpr ⟨by omega, by omega⟩)
theorem ri_dd265 : ∀ pc, pc < 16 → ri_one2 11 "isOne" cX11_isOne kX11_isOne pc = true := by
  intro pc h
  exact List.all_eq_true.mp ri_c265_0 pc (List.mem_range'_1.mpr ⟨by omega, by omega⟩)
theorem ri_dd266 : ∀ pc, pc < 66 → ri_one2 11 "doesOne" cX11_doesOne kX11_doesOne pc = true := by
  intro pc h
  exact List.all_eq_true.mp ri_c266_0 pc (List.mem_range'_1.mpr ⟨by omega, by omega⟩)
theorem ri_dd267 : ∀ pc, pc < 66 → ri_one2 11 "doesTwo" cX11_doesTwo kX11_doesTwo pc = true := by
  intro pc h
  exact List.all_eq_true.mp ri_c267_0 pc (List.mem_range'_1.mpr ⟨by omega, by omega⟩)
theorem ri_dd268 : ∀ pc, pc < 56 → ri_one2 11 "doesThree" cX11_doesThree kX11_doesThree pc = true := by
  intro pc h
  exact List.all_eq_true.mp ri_c268_0 pc (List.mem_range'_1.mpr ⟨by omega, by omega⟩)
theorem ri_dd269 : ∀ pc, pc < 209 → ri_one2 11 "needed" cX11_needed kX11_needed pc = true := by
  intro pc h
  rcases Nat.lt_or_ge pc 181 with q | q
  · exact List.all_eq_true.mp ri_c269_0 pc (List.mem_range'_1.mpr ⟨by omega, by omega⟩)
  exact List.all_eq_true.mp ri_c269_181 pc (List.mem_range'_1.mpr ⟨by omega, by omega⟩)
theorem ri_dd270 : ∀ pc, pc < 262 → ri_one2 11 "steered" cX11_steered kX11_steered pc = true := by
  intro pc h
  rcases Nat.lt_or_ge pc 194 with q | q
  · exact List.all_eq_true.mp ri_c270_0 pc (List.mem_range'_1.mpr ⟨by omega, by omega⟩)
  exact List.all_eq_true.mp ri_c270_194 pc (List.mem_range'_1.mpr ⟨by omega, by omega⟩)
theorem ri_dd271 : ∀ pc, pc < 20 → ri_one2 11 "spare" cX11_spare kX11_spare pc = true := by
  intro pc h
  exact List.all_eq_true.mp ri_c271_0 pc (List.mem_range'_1.mpr ⟨by omega, by omega⟩)
theorem ri_dd272 : ∀ pc, pc < 24 → ri_one2 11 "seed" cX11_seed kX11_seed pc = true := by
  intro pc h
  exact List.all_eq_true.mp ri_c272_0 pc (List.mem_range'_1.mpr ⟨by omega, by omega⟩)
theorem ri_dd273 : ∀ pc, pc < 336 → ri_one2 11 "trials" cX11_trials kX11_trials pc = true := by
  intro pc h
  rcases Nat.lt_or_ge pc 189 with q | q
  · exact List.all_eq_true.mp ri_c273_0 pc (List.mem_range'_1.mpr ⟨by omega, by omega⟩)
  exact List.all_eq_true.mp ri_c273_189 pc (List.mem_range'_1.mpr ⟨by omega, by omega⟩)
theorem ri_dd274 : ∀ pc, pc < 96 → ri_one2 11 "verdict" cX11_verdict kX11_verdict pc = true := by
  intro pc h
  exact List.all_eq_true.mp ri_c274_0 pc (List.mem_range'_1.mpr ⟨by omega, by omega⟩)
theorem ri_dd275 : ∀ pc, pc < 222 → ri_one2 11 "old" cX11_old kX11_old pc = true := by
  intro pc h
  rcases Nat.lt_or_ge pc 182 with q | q
  · exact List.all_eq_true.mp ri_c275_0 pc (List.mem_range'_1.mpr ⟨by omega, by omega⟩)
  exact List.all_eq_true.mp ri_c275_182 pc (List.mem_range'_1.mpr ⟨by omega, by omega⟩)
theorem ri_dd276 : ∀ pc, pc < 162 → ri_one2 11 "count" cX11_count kX11_count pc = true := by
  intro pc h
  exact List.all_eq_true.mp ri_c276_0 pc (List.mem_range'_1.mpr ⟨by omega, by omega⟩)
theorem ri_dd277 : ∀ pc, pc < 61 → ri_one2 11 "image" cX11_image kX11_image pc = true := by
  intro pc h
  exact List.all_eq_true.mp ri_c277_0 pc (List.mem_range'_1.mpr ⟨by omega, by omega⟩)
theorem ri_dd278 : ∀ pc, pc < 63 → ri_one2 11 "back" cX11_back kX11_back pc = true := by
  intro pc h
  exact List.all_eq_true.mp ri_c278_0 pc (List.mem_range'_1.mpr ⟨by omega, by omega⟩)
theorem ri_dd279 : ∀ pc, pc < 80 → ri_one2 13 "numberOfTrailingZeros" cJ6_numberOfTrailingZeros_0f7a4 kJ6_numberOfTrailingZeros_0f7a4 pc = true := by
  intro pc h
  exact List.all_eq_true.mp ri_c279_0 pc (List.mem_range'_1.mpr ⟨by omega, by omega⟩)
theorem ri_dd280 : ∀ pc, pc < 53 → ri_one2 13 "bitCount" cJ6_bitCount_0f7a4 kJ6_bitCount_0f7a4 pc = true := by
  intro pc h
  exact List.all_eq_true.mp ri_c280_0 pc (List.mem_range'_1.mpr ⟨by omega, by omega⟩)
set_option maxRecDepth 100000 in
theorem ri_mk_all : ∀ a, a < ri_n → ri_mk a = true := by
  intro a h
  have h : a < 281 := h
  rcases Nat.lt_or_ge a 140 with q140 | q140
  · rcases Nat.lt_or_ge a 70 with q70 | q70
    · rcases Nat.lt_or_ge a 35 with q35 | q35
      · rcases Nat.lt_or_ge a 17 with q17 | q17
        · rcases Nat.lt_or_ge a 8 with q8 | q8
          · rcases Nat.lt_or_ge a 4 with q4 | q4
            · rcases Nat.lt_or_ge a 2 with q2 | q2
              · rcases Nat.lt_or_ge a 1 with q1 | q1
                · obtain rfl : a = 0 := by omega
                  exact ri_k0
                · obtain rfl : a = 1 := by omega
                  exact ri_k1
              · rcases Nat.lt_or_ge a 3 with q3 | q3
                · obtain rfl : a = 2 := by omega
                  exact ri_k2
                · obtain rfl : a = 3 := by omega
                  exact ri_k3
            · rcases Nat.lt_or_ge a 6 with q6 | q6
              · rcases Nat.lt_or_ge a 5 with q5 | q5
                · obtain rfl : a = 4 := by omega
                  exact ri_k4
                · obtain rfl : a = 5 := by omega
                  exact ri_k5
              · rcases Nat.lt_or_ge a 7 with q7 | q7
                · obtain rfl : a = 6 := by omega
                  exact ri_k6
                · obtain rfl : a = 7 := by omega
                  exact ri_k7
          · rcases Nat.lt_or_ge a 12 with q12 | q12
            · rcases Nat.lt_or_ge a 10 with q10 | q10
              · rcases Nat.lt_or_ge a 9 with q9 | q9
                · obtain rfl : a = 8 := by omega
                  exact ri_k8
                · obtain rfl : a = 9 := by omega
                  exact ri_k9
              · rcases Nat.lt_or_ge a 11 with q11 | q11
                · obtain rfl : a = 10 := by omega
                  exact ri_k10
                · obtain rfl : a = 11 := by omega
                  exact ri_k11
            · rcases Nat.lt_or_ge a 14 with q14 | q14
              · rcases Nat.lt_or_ge a 13 with q13 | q13
                · obtain rfl : a = 12 := by omega
                  exact ri_k12
                · obtain rfl : a = 13 := by omega
                  exact ri_k13
              · rcases Nat.lt_or_ge a 15 with q15 | q15
                · obtain rfl : a = 14 := by omega
                  exact ri_k14
                · rcases Nat.lt_or_ge a 16 with q16 | q16
                  · obtain rfl : a = 15 := by omega
                    exact ri_k15
                  · obtain rfl : a = 16 := by omega
                    exact ri_k16
        · rcases Nat.lt_or_ge a 26 with q26 | q26
          · rcases Nat.lt_or_ge a 21 with q21 | q21
            · rcases Nat.lt_or_ge a 19 with q19 | q19
              · rcases Nat.lt_or_ge a 18 with q18 | q18
                · obtain rfl : a = 17 := by omega
                  exact ri_k17
                · obtain rfl : a = 18 := by omega
                  exact ri_k18
              · rcases Nat.lt_or_ge a 20 with q20 | q20
                · obtain rfl : a = 19 := by omega
                  exact ri_k19
                · obtain rfl : a = 20 := by omega
                  exact ri_k20
            · rcases Nat.lt_or_ge a 23 with q23 | q23
              · rcases Nat.lt_or_ge a 22 with q22 | q22
                · obtain rfl : a = 21 := by omega
                  exact ri_k21
                · obtain rfl : a = 22 := by omega
                  exact ri_k22
              · rcases Nat.lt_or_ge a 24 with q24 | q24
                · obtain rfl : a = 23 := by omega
                  exact ri_k23
                · rcases Nat.lt_or_ge a 25 with q25 | q25
                  · obtain rfl : a = 24 := by omega
                    exact ri_k24
                  · obtain rfl : a = 25 := by omega
                    exact ri_k25
          · rcases Nat.lt_or_ge a 30 with q30 | q30
            · rcases Nat.lt_or_ge a 28 with q28 | q28
              · rcases Nat.lt_or_ge a 27 with q27 | q27
                · obtain rfl : a = 26 := by omega
                  exact ri_k26
                · obtain rfl : a = 27 := by omega
                  exact ri_k27
              · rcases Nat.lt_or_ge a 29 with q29 | q29
                · obtain rfl : a = 28 := by omega
                  exact ri_k28
                · obtain rfl : a = 29 := by omega
                  exact ri_k29
            · rcases Nat.lt_or_ge a 32 with q32 | q32
              · rcases Nat.lt_or_ge a 31 with q31 | q31
                · obtain rfl : a = 30 := by omega
                  exact ri_k30
                · obtain rfl : a = 31 := by omega
                  exact ri_k31
              · rcases Nat.lt_or_ge a 33 with q33 | q33
                · obtain rfl : a = 32 := by omega
                  exact ri_k32
                · rcases Nat.lt_or_ge a 34 with q34 | q34
                  · obtain rfl : a = 33 := by omega
                    exact ri_k33
                  · obtain rfl : a = 34 := by omega
                    exact ri_k34
      · rcases Nat.lt_or_ge a 52 with q52 | q52
        · rcases Nat.lt_or_ge a 43 with q43 | q43
          · rcases Nat.lt_or_ge a 39 with q39 | q39
            · rcases Nat.lt_or_ge a 37 with q37 | q37
              · rcases Nat.lt_or_ge a 36 with q36 | q36
                · obtain rfl : a = 35 := by omega
                  exact ri_k35
                · obtain rfl : a = 36 := by omega
                  exact ri_k36
              · rcases Nat.lt_or_ge a 38 with q38 | q38
                · obtain rfl : a = 37 := by omega
                  exact ri_k37
                · obtain rfl : a = 38 := by omega
                  exact ri_k38
            · rcases Nat.lt_or_ge a 41 with q41 | q41
              · rcases Nat.lt_or_ge a 40 with q40 | q40
                · obtain rfl : a = 39 := by omega
                  exact ri_k39
                · obtain rfl : a = 40 := by omega
                  exact ri_k40
              · rcases Nat.lt_or_ge a 42 with q42 | q42
                · obtain rfl : a = 41 := by omega
                  exact ri_k41
                · obtain rfl : a = 42 := by omega
                  exact ri_k42
          · rcases Nat.lt_or_ge a 47 with q47 | q47
            · rcases Nat.lt_or_ge a 45 with q45 | q45
              · rcases Nat.lt_or_ge a 44 with q44 | q44
                · obtain rfl : a = 43 := by omega
                  exact ri_k43
                · obtain rfl : a = 44 := by omega
                  exact ri_k44
              · rcases Nat.lt_or_ge a 46 with q46 | q46
                · obtain rfl : a = 45 := by omega
                  exact ri_k45
                · obtain rfl : a = 46 := by omega
                  exact ri_k46
            · rcases Nat.lt_or_ge a 49 with q49 | q49
              · rcases Nat.lt_or_ge a 48 with q48 | q48
                · obtain rfl : a = 47 := by omega
                  exact ri_k47
                · obtain rfl : a = 48 := by omega
                  exact ri_k48
              · rcases Nat.lt_or_ge a 50 with q50 | q50
                · obtain rfl : a = 49 := by omega
                  exact ri_k49
                · rcases Nat.lt_or_ge a 51 with q51 | q51
                  · obtain rfl : a = 50 := by omega
                    exact ri_k50
                  · obtain rfl : a = 51 := by omega
                    exact ri_k51
        · rcases Nat.lt_or_ge a 61 with q61 | q61
          · rcases Nat.lt_or_ge a 56 with q56 | q56
            · rcases Nat.lt_or_ge a 54 with q54 | q54
              · rcases Nat.lt_or_ge a 53 with q53 | q53
                · obtain rfl : a = 52 := by omega
                  exact ri_k52
                · obtain rfl : a = 53 := by omega
                  exact ri_k53
              · rcases Nat.lt_or_ge a 55 with q55 | q55
                · obtain rfl : a = 54 := by omega
                  exact ri_k54
                · obtain rfl : a = 55 := by omega
                  exact ri_k55
            · rcases Nat.lt_or_ge a 58 with q58 | q58
              · rcases Nat.lt_or_ge a 57 with q57 | q57
                · obtain rfl : a = 56 := by omega
                  exact ri_k56
                · obtain rfl : a = 57 := by omega
                  exact ri_k57
              · rcases Nat.lt_or_ge a 59 with q59 | q59
                · obtain rfl : a = 58 := by omega
                  exact ri_k58
                · rcases Nat.lt_or_ge a 60 with q60 | q60
                  · obtain rfl : a = 59 := by omega
                    exact ri_k59
                  · obtain rfl : a = 60 := by omega
                    exact ri_k60
          · rcases Nat.lt_or_ge a 65 with q65 | q65
            · rcases Nat.lt_or_ge a 63 with q63 | q63
              · rcases Nat.lt_or_ge a 62 with q62 | q62
                · obtain rfl : a = 61 := by omega
                  exact ri_k61
                · obtain rfl : a = 62 := by omega
                  exact ri_k62
              · rcases Nat.lt_or_ge a 64 with q64 | q64
                · obtain rfl : a = 63 := by omega
                  exact ri_k63
                · obtain rfl : a = 64 := by omega
                  exact ri_k64
            · rcases Nat.lt_or_ge a 67 with q67 | q67
              · rcases Nat.lt_or_ge a 66 with q66 | q66
                · obtain rfl : a = 65 := by omega
                  exact ri_k65
                · obtain rfl : a = 66 := by omega
                  exact ri_k66
              · rcases Nat.lt_or_ge a 68 with q68 | q68
                · obtain rfl : a = 67 := by omega
                  exact ri_k67
                · rcases Nat.lt_or_ge a 69 with q69 | q69
                  · obtain rfl : a = 68 := by omega
                    exact ri_k68
                  · obtain rfl : a = 69 := by omega
                    exact ri_k69
    · rcases Nat.lt_or_ge a 105 with q105 | q105
      · rcases Nat.lt_or_ge a 87 with q87 | q87
        · rcases Nat.lt_or_ge a 78 with q78 | q78
          · rcases Nat.lt_or_ge a 74 with q74 | q74
            · rcases Nat.lt_or_ge a 72 with q72 | q72
              · rcases Nat.lt_or_ge a 71 with q71 | q71
                · obtain rfl : a = 70 := by omega
                  exact ri_k70
                · obtain rfl : a = 71 := by omega
                  exact ri_k71
              · rcases Nat.lt_or_ge a 73 with q73 | q73
                · obtain rfl : a = 72 := by omega
                  exact ri_k72
                · obtain rfl : a = 73 := by omega
                  exact ri_k73
            · rcases Nat.lt_or_ge a 76 with q76 | q76
              · rcases Nat.lt_or_ge a 75 with q75 | q75
                · obtain rfl : a = 74 := by omega
                  exact ri_k74
                · obtain rfl : a = 75 := by omega
                  exact ri_k75
              · rcases Nat.lt_or_ge a 77 with q77 | q77
                · obtain rfl : a = 76 := by omega
                  exact ri_k76
                · obtain rfl : a = 77 := by omega
                  exact ri_k77
          · rcases Nat.lt_or_ge a 82 with q82 | q82
            · rcases Nat.lt_or_ge a 80 with q80 | q80
              · rcases Nat.lt_or_ge a 79 with q79 | q79
                · obtain rfl : a = 78 := by omega
                  exact ri_k78
                · obtain rfl : a = 79 := by omega
                  exact ri_k79
              · rcases Nat.lt_or_ge a 81 with q81 | q81
                · obtain rfl : a = 80 := by omega
                  exact ri_k80
                · obtain rfl : a = 81 := by omega
                  exact ri_k81
            · rcases Nat.lt_or_ge a 84 with q84 | q84
              · rcases Nat.lt_or_ge a 83 with q83 | q83
                · obtain rfl : a = 82 := by omega
                  exact ri_k82
                · obtain rfl : a = 83 := by omega
                  exact ri_k83
              · rcases Nat.lt_or_ge a 85 with q85 | q85
                · obtain rfl : a = 84 := by omega
                  exact ri_k84
                · rcases Nat.lt_or_ge a 86 with q86 | q86
                  · obtain rfl : a = 85 := by omega
                    exact ri_k85
                  · obtain rfl : a = 86 := by omega
                    exact ri_k86
        · rcases Nat.lt_or_ge a 96 with q96 | q96
          · rcases Nat.lt_or_ge a 91 with q91 | q91
            · rcases Nat.lt_or_ge a 89 with q89 | q89
              · rcases Nat.lt_or_ge a 88 with q88 | q88
                · obtain rfl : a = 87 := by omega
                  exact ri_k87
                · obtain rfl : a = 88 := by omega
                  exact ri_k88
              · rcases Nat.lt_or_ge a 90 with q90 | q90
                · obtain rfl : a = 89 := by omega
                  exact ri_k89
                · obtain rfl : a = 90 := by omega
                  exact ri_k90
            · rcases Nat.lt_or_ge a 93 with q93 | q93
              · rcases Nat.lt_or_ge a 92 with q92 | q92
                · obtain rfl : a = 91 := by omega
                  exact ri_k91
                · obtain rfl : a = 92 := by omega
                  exact ri_k92
              · rcases Nat.lt_or_ge a 94 with q94 | q94
                · obtain rfl : a = 93 := by omega
                  exact ri_k93
                · rcases Nat.lt_or_ge a 95 with q95 | q95
                  · obtain rfl : a = 94 := by omega
                    exact ri_k94
                  · obtain rfl : a = 95 := by omega
                    exact ri_k95
          · rcases Nat.lt_or_ge a 100 with q100 | q100
            · rcases Nat.lt_or_ge a 98 with q98 | q98
              · rcases Nat.lt_or_ge a 97 with q97 | q97
                · obtain rfl : a = 96 := by omega
                  exact ri_k96
                · obtain rfl : a = 97 := by omega
                  exact ri_k97
              · rcases Nat.lt_or_ge a 99 with q99 | q99
                · obtain rfl : a = 98 := by omega
                  exact ri_k98
                · obtain rfl : a = 99 := by omega
                  exact ri_k99
            · rcases Nat.lt_or_ge a 102 with q102 | q102
              · rcases Nat.lt_or_ge a 101 with q101 | q101
                · obtain rfl : a = 100 := by omega
                  exact ri_k100
                · obtain rfl : a = 101 := by omega
                  exact ri_k101
              · rcases Nat.lt_or_ge a 103 with q103 | q103
                · obtain rfl : a = 102 := by omega
                  exact ri_k102
                · rcases Nat.lt_or_ge a 104 with q104 | q104
                  · obtain rfl : a = 103 := by omega
                    exact ri_k103
                  · obtain rfl : a = 104 := by omega
                    exact ri_k104
      · rcases Nat.lt_or_ge a 122 with q122 | q122
        · rcases Nat.lt_or_ge a 113 with q113 | q113
          · rcases Nat.lt_or_ge a 109 with q109 | q109
            · rcases Nat.lt_or_ge a 107 with q107 | q107
              · rcases Nat.lt_or_ge a 106 with q106 | q106
                · obtain rfl : a = 105 := by omega
                  exact ri_k105
                · obtain rfl : a = 106 := by omega
                  exact ri_k106
              · rcases Nat.lt_or_ge a 108 with q108 | q108
                · obtain rfl : a = 107 := by omega
                  exact ri_k107
                · obtain rfl : a = 108 := by omega
                  exact ri_k108
            · rcases Nat.lt_or_ge a 111 with q111 | q111
              · rcases Nat.lt_or_ge a 110 with q110 | q110
                · obtain rfl : a = 109 := by omega
                  exact ri_k109
                · obtain rfl : a = 110 := by omega
                  exact ri_k110
              · rcases Nat.lt_or_ge a 112 with q112 | q112
                · obtain rfl : a = 111 := by omega
                  exact ri_k111
                · obtain rfl : a = 112 := by omega
                  exact ri_k112
          · rcases Nat.lt_or_ge a 117 with q117 | q117
            · rcases Nat.lt_or_ge a 115 with q115 | q115
              · rcases Nat.lt_or_ge a 114 with q114 | q114
                · obtain rfl : a = 113 := by omega
                  exact ri_k113
                · obtain rfl : a = 114 := by omega
                  exact ri_k114
              · rcases Nat.lt_or_ge a 116 with q116 | q116
                · obtain rfl : a = 115 := by omega
                  exact ri_k115
                · obtain rfl : a = 116 := by omega
                  exact ri_k116
            · rcases Nat.lt_or_ge a 119 with q119 | q119
              · rcases Nat.lt_or_ge a 118 with q118 | q118
                · obtain rfl : a = 117 := by omega
                  exact ri_k117
                · obtain rfl : a = 118 := by omega
                  exact ri_k118
              · rcases Nat.lt_or_ge a 120 with q120 | q120
                · obtain rfl : a = 119 := by omega
                  exact ri_k119
                · rcases Nat.lt_or_ge a 121 with q121 | q121
                  · obtain rfl : a = 120 := by omega
                    exact ri_k120
                  · obtain rfl : a = 121 := by omega
                    exact ri_k121
        · rcases Nat.lt_or_ge a 131 with q131 | q131
          · rcases Nat.lt_or_ge a 126 with q126 | q126
            · rcases Nat.lt_or_ge a 124 with q124 | q124
              · rcases Nat.lt_or_ge a 123 with q123 | q123
                · obtain rfl : a = 122 := by omega
                  exact ri_k122
                · obtain rfl : a = 123 := by omega
                  exact ri_k123
              · rcases Nat.lt_or_ge a 125 with q125 | q125
                · obtain rfl : a = 124 := by omega
                  exact ri_k124
                · obtain rfl : a = 125 := by omega
                  exact ri_k125
            · rcases Nat.lt_or_ge a 128 with q128 | q128
              · rcases Nat.lt_or_ge a 127 with q127 | q127
                · obtain rfl : a = 126 := by omega
                  exact ri_k126
                · obtain rfl : a = 127 := by omega
                  exact ri_k127
              · rcases Nat.lt_or_ge a 129 with q129 | q129
                · obtain rfl : a = 128 := by omega
                  exact ri_k128
                · rcases Nat.lt_or_ge a 130 with q130 | q130
                  · obtain rfl : a = 129 := by omega
                    exact ri_k129
                  · obtain rfl : a = 130 := by omega
                    exact ri_k130
          · rcases Nat.lt_or_ge a 135 with q135 | q135
            · rcases Nat.lt_or_ge a 133 with q133 | q133
              · rcases Nat.lt_or_ge a 132 with q132 | q132
                · obtain rfl : a = 131 := by omega
                  exact ri_k131
                · obtain rfl : a = 132 := by omega
                  exact ri_k132
              · rcases Nat.lt_or_ge a 134 with q134 | q134
                · obtain rfl : a = 133 := by omega
                  exact ri_k133
                · obtain rfl : a = 134 := by omega
                  exact ri_k134
            · rcases Nat.lt_or_ge a 137 with q137 | q137
              · rcases Nat.lt_or_ge a 136 with q136 | q136
                · obtain rfl : a = 135 := by omega
                  exact ri_k135
                · obtain rfl : a = 136 := by omega
                  exact ri_k136
              · rcases Nat.lt_or_ge a 138 with q138 | q138
                · obtain rfl : a = 137 := by omega
                  exact ri_k137
                · rcases Nat.lt_or_ge a 139 with q139 | q139
                  · obtain rfl : a = 138 := by omega
                    exact ri_k138
                  · obtain rfl : a = 139 := by omega
                    exact ri_k139
  · rcases Nat.lt_or_ge a 210 with q210 | q210
    · rcases Nat.lt_or_ge a 175 with q175 | q175
      · rcases Nat.lt_or_ge a 157 with q157 | q157
        · rcases Nat.lt_or_ge a 148 with q148 | q148
          · rcases Nat.lt_or_ge a 144 with q144 | q144
            · rcases Nat.lt_or_ge a 142 with q142 | q142
              · rcases Nat.lt_or_ge a 141 with q141 | q141
                · obtain rfl : a = 140 := by omega
                  exact ri_k140
                · obtain rfl : a = 141 := by omega
                  exact ri_k141
              · rcases Nat.lt_or_ge a 143 with q143 | q143
                · obtain rfl : a = 142 := by omega
                  exact ri_k142
                · obtain rfl : a = 143 := by omega
                  exact ri_k143
            · rcases Nat.lt_or_ge a 146 with q146 | q146
              · rcases Nat.lt_or_ge a 145 with q145 | q145
                · obtain rfl : a = 144 := by omega
                  exact ri_k144
                · obtain rfl : a = 145 := by omega
                  exact ri_k145
              · rcases Nat.lt_or_ge a 147 with q147 | q147
                · obtain rfl : a = 146 := by omega
                  exact ri_k146
                · obtain rfl : a = 147 := by omega
                  exact ri_k147
          · rcases Nat.lt_or_ge a 152 with q152 | q152
            · rcases Nat.lt_or_ge a 150 with q150 | q150
              · rcases Nat.lt_or_ge a 149 with q149 | q149
                · obtain rfl : a = 148 := by omega
                  exact ri_k148
                · obtain rfl : a = 149 := by omega
                  exact ri_k149
              · rcases Nat.lt_or_ge a 151 with q151 | q151
                · obtain rfl : a = 150 := by omega
                  exact ri_k150
                · obtain rfl : a = 151 := by omega
                  exact ri_k151
            · rcases Nat.lt_or_ge a 154 with q154 | q154
              · rcases Nat.lt_or_ge a 153 with q153 | q153
                · obtain rfl : a = 152 := by omega
                  exact ri_k152
                · obtain rfl : a = 153 := by omega
                  exact ri_k153
              · rcases Nat.lt_or_ge a 155 with q155 | q155
                · obtain rfl : a = 154 := by omega
                  exact ri_k154
                · rcases Nat.lt_or_ge a 156 with q156 | q156
                  · obtain rfl : a = 155 := by omega
                    exact ri_k155
                  · obtain rfl : a = 156 := by omega
                    exact ri_k156
        · rcases Nat.lt_or_ge a 166 with q166 | q166
          · rcases Nat.lt_or_ge a 161 with q161 | q161
            · rcases Nat.lt_or_ge a 159 with q159 | q159
              · rcases Nat.lt_or_ge a 158 with q158 | q158
                · obtain rfl : a = 157 := by omega
                  exact ri_k157
                · obtain rfl : a = 158 := by omega
                  exact ri_k158
              · rcases Nat.lt_or_ge a 160 with q160 | q160
                · obtain rfl : a = 159 := by omega
                  exact ri_k159
                · obtain rfl : a = 160 := by omega
                  exact ri_k160
            · rcases Nat.lt_or_ge a 163 with q163 | q163
              · rcases Nat.lt_or_ge a 162 with q162 | q162
                · obtain rfl : a = 161 := by omega
                  exact ri_k161
                · obtain rfl : a = 162 := by omega
                  exact ri_k162
              · rcases Nat.lt_or_ge a 164 with q164 | q164
                · obtain rfl : a = 163 := by omega
                  exact ri_k163
                · rcases Nat.lt_or_ge a 165 with q165 | q165
                  · obtain rfl : a = 164 := by omega
                    exact ri_k164
                  · obtain rfl : a = 165 := by omega
                    exact ri_k165
          · rcases Nat.lt_or_ge a 170 with q170 | q170
            · rcases Nat.lt_or_ge a 168 with q168 | q168
              · rcases Nat.lt_or_ge a 167 with q167 | q167
                · obtain rfl : a = 166 := by omega
                  exact ri_k166
                · obtain rfl : a = 167 := by omega
                  exact ri_k167
              · rcases Nat.lt_or_ge a 169 with q169 | q169
                · obtain rfl : a = 168 := by omega
                  exact ri_k168
                · obtain rfl : a = 169 := by omega
                  exact ri_k169
            · rcases Nat.lt_or_ge a 172 with q172 | q172
              · rcases Nat.lt_or_ge a 171 with q171 | q171
                · obtain rfl : a = 170 := by omega
                  exact ri_k170
                · obtain rfl : a = 171 := by omega
                  exact ri_k171
              · rcases Nat.lt_or_ge a 173 with q173 | q173
                · obtain rfl : a = 172 := by omega
                  exact ri_k172
                · rcases Nat.lt_or_ge a 174 with q174 | q174
                  · obtain rfl : a = 173 := by omega
                    exact ri_k173
                  · obtain rfl : a = 174 := by omega
                    exact ri_k174
      · rcases Nat.lt_or_ge a 192 with q192 | q192
        · rcases Nat.lt_or_ge a 183 with q183 | q183
          · rcases Nat.lt_or_ge a 179 with q179 | q179
            · rcases Nat.lt_or_ge a 177 with q177 | q177
              · rcases Nat.lt_or_ge a 176 with q176 | q176
                · obtain rfl : a = 175 := by omega
                  exact ri_k175
                · obtain rfl : a = 176 := by omega
                  exact ri_k176
              · rcases Nat.lt_or_ge a 178 with q178 | q178
                · obtain rfl : a = 177 := by omega
                  exact ri_k177
                · obtain rfl : a = 178 := by omega
                  exact ri_k178
            · rcases Nat.lt_or_ge a 181 with q181 | q181
              · rcases Nat.lt_or_ge a 180 with q180 | q180
                · obtain rfl : a = 179 := by omega
                  exact ri_k179
                · obtain rfl : a = 180 := by omega
                  exact ri_k180
              · rcases Nat.lt_or_ge a 182 with q182 | q182
                · obtain rfl : a = 181 := by omega
                  exact ri_k181
                · obtain rfl : a = 182 := by omega
                  exact ri_k182
          · rcases Nat.lt_or_ge a 187 with q187 | q187
            · rcases Nat.lt_or_ge a 185 with q185 | q185
              · rcases Nat.lt_or_ge a 184 with q184 | q184
                · obtain rfl : a = 183 := by omega
                  exact ri_k183
                · obtain rfl : a = 184 := by omega
                  exact ri_k184
              · rcases Nat.lt_or_ge a 186 with q186 | q186
                · obtain rfl : a = 185 := by omega
                  exact ri_k185
                · obtain rfl : a = 186 := by omega
                  exact ri_k186
            · rcases Nat.lt_or_ge a 189 with q189 | q189
              · rcases Nat.lt_or_ge a 188 with q188 | q188
                · obtain rfl : a = 187 := by omega
                  exact ri_k187
                · obtain rfl : a = 188 := by omega
                  exact ri_k188
              · rcases Nat.lt_or_ge a 190 with q190 | q190
                · obtain rfl : a = 189 := by omega
                  exact ri_k189
                · rcases Nat.lt_or_ge a 191 with q191 | q191
                  · obtain rfl : a = 190 := by omega
                    exact ri_k190
                  · obtain rfl : a = 191 := by omega
                    exact ri_k191
        · rcases Nat.lt_or_ge a 201 with q201 | q201
          · rcases Nat.lt_or_ge a 196 with q196 | q196
            · rcases Nat.lt_or_ge a 194 with q194 | q194
              · rcases Nat.lt_or_ge a 193 with q193 | q193
                · obtain rfl : a = 192 := by omega
                  exact ri_k192
                · obtain rfl : a = 193 := by omega
                  exact ri_k193
              · rcases Nat.lt_or_ge a 195 with q195 | q195
                · obtain rfl : a = 194 := by omega
                  exact ri_k194
                · obtain rfl : a = 195 := by omega
                  exact ri_k195
            · rcases Nat.lt_or_ge a 198 with q198 | q198
              · rcases Nat.lt_or_ge a 197 with q197 | q197
                · obtain rfl : a = 196 := by omega
                  exact ri_k196
                · obtain rfl : a = 197 := by omega
                  exact ri_k197
              · rcases Nat.lt_or_ge a 199 with q199 | q199
                · obtain rfl : a = 198 := by omega
                  exact ri_k198
                · rcases Nat.lt_or_ge a 200 with q200 | q200
                  · obtain rfl : a = 199 := by omega
                    exact ri_k199
                  · obtain rfl : a = 200 := by omega
                    exact ri_k200
          · rcases Nat.lt_or_ge a 205 with q205 | q205
            · rcases Nat.lt_or_ge a 203 with q203 | q203
              · rcases Nat.lt_or_ge a 202 with q202 | q202
                · obtain rfl : a = 201 := by omega
                  exact ri_k201
                · obtain rfl : a = 202 := by omega
                  exact ri_k202
              · rcases Nat.lt_or_ge a 204 with q204 | q204
                · obtain rfl : a = 203 := by omega
                  exact ri_k203
                · obtain rfl : a = 204 := by omega
                  exact ri_k204
            · rcases Nat.lt_or_ge a 207 with q207 | q207
              · rcases Nat.lt_or_ge a 206 with q206 | q206
                · obtain rfl : a = 205 := by omega
                  exact ri_k205
                · obtain rfl : a = 206 := by omega
                  exact ri_k206
              · rcases Nat.lt_or_ge a 208 with q208 | q208
                · obtain rfl : a = 207 := by omega
                  exact ri_k207
                · rcases Nat.lt_or_ge a 209 with q209 | q209
                  · obtain rfl : a = 208 := by omega
                    exact ri_k208
                  · obtain rfl : a = 209 := by omega
                    exact ri_k209
    · rcases Nat.lt_or_ge a 245 with q245 | q245
      · rcases Nat.lt_or_ge a 227 with q227 | q227
        · rcases Nat.lt_or_ge a 218 with q218 | q218
          · rcases Nat.lt_or_ge a 214 with q214 | q214
            · rcases Nat.lt_or_ge a 212 with q212 | q212
              · rcases Nat.lt_or_ge a 211 with q211 | q211
                · obtain rfl : a = 210 := by omega
                  exact ri_k210
                · obtain rfl : a = 211 := by omega
                  exact ri_k211
              · rcases Nat.lt_or_ge a 213 with q213 | q213
                · obtain rfl : a = 212 := by omega
                  exact ri_k212
                · obtain rfl : a = 213 := by omega
                  exact ri_k213
            · rcases Nat.lt_or_ge a 216 with q216 | q216
              · rcases Nat.lt_or_ge a 215 with q215 | q215
                · obtain rfl : a = 214 := by omega
                  exact ri_k214
                · obtain rfl : a = 215 := by omega
                  exact ri_k215
              · rcases Nat.lt_or_ge a 217 with q217 | q217
                · obtain rfl : a = 216 := by omega
                  exact ri_k216
                · obtain rfl : a = 217 := by omega
                  exact ri_k217
          · rcases Nat.lt_or_ge a 222 with q222 | q222
            · rcases Nat.lt_or_ge a 220 with q220 | q220
              · rcases Nat.lt_or_ge a 219 with q219 | q219
                · obtain rfl : a = 218 := by omega
                  exact ri_k218
                · obtain rfl : a = 219 := by omega
                  exact ri_k219
              · rcases Nat.lt_or_ge a 221 with q221 | q221
                · obtain rfl : a = 220 := by omega
                  exact ri_k220
                · obtain rfl : a = 221 := by omega
                  exact ri_k221
            · rcases Nat.lt_or_ge a 224 with q224 | q224
              · rcases Nat.lt_or_ge a 223 with q223 | q223
                · obtain rfl : a = 222 := by omega
                  exact ri_k222
                · obtain rfl : a = 223 := by omega
                  exact ri_k223
              · rcases Nat.lt_or_ge a 225 with q225 | q225
                · obtain rfl : a = 224 := by omega
                  exact ri_k224
                · rcases Nat.lt_or_ge a 226 with q226 | q226
                  · obtain rfl : a = 225 := by omega
                    exact ri_k225
                  · obtain rfl : a = 226 := by omega
                    exact ri_k226
        · rcases Nat.lt_or_ge a 236 with q236 | q236
          · rcases Nat.lt_or_ge a 231 with q231 | q231
            · rcases Nat.lt_or_ge a 229 with q229 | q229
              · rcases Nat.lt_or_ge a 228 with q228 | q228
                · obtain rfl : a = 227 := by omega
                  exact ri_k227
                · obtain rfl : a = 228 := by omega
                  exact ri_k228
              · rcases Nat.lt_or_ge a 230 with q230 | q230
                · obtain rfl : a = 229 := by omega
                  exact ri_k229
                · obtain rfl : a = 230 := by omega
                  exact ri_k230
            · rcases Nat.lt_or_ge a 233 with q233 | q233
              · rcases Nat.lt_or_ge a 232 with q232 | q232
                · obtain rfl : a = 231 := by omega
                  exact ri_k231
                · obtain rfl : a = 232 := by omega
                  exact ri_k232
              · rcases Nat.lt_or_ge a 234 with q234 | q234
                · obtain rfl : a = 233 := by omega
                  exact ri_k233
                · rcases Nat.lt_or_ge a 235 with q235 | q235
                  · obtain rfl : a = 234 := by omega
                    exact ri_k234
                  · obtain rfl : a = 235 := by omega
                    exact ri_k235
          · rcases Nat.lt_or_ge a 240 with q240 | q240
            · rcases Nat.lt_or_ge a 238 with q238 | q238
              · rcases Nat.lt_or_ge a 237 with q237 | q237
                · obtain rfl : a = 236 := by omega
                  exact ri_k236
                · obtain rfl : a = 237 := by omega
                  exact ri_k237
              · rcases Nat.lt_or_ge a 239 with q239 | q239
                · obtain rfl : a = 238 := by omega
                  exact ri_k238
                · obtain rfl : a = 239 := by omega
                  exact ri_k239
            · rcases Nat.lt_or_ge a 242 with q242 | q242
              · rcases Nat.lt_or_ge a 241 with q241 | q241
                · obtain rfl : a = 240 := by omega
                  exact ri_k240
                · obtain rfl : a = 241 := by omega
                  exact ri_k241
              · rcases Nat.lt_or_ge a 243 with q243 | q243
                · obtain rfl : a = 242 := by omega
                  exact ri_k242
                · rcases Nat.lt_or_ge a 244 with q244 | q244
                  · obtain rfl : a = 243 := by omega
                    exact ri_k243
                  · obtain rfl : a = 244 := by omega
                    exact ri_k244
      · rcases Nat.lt_or_ge a 263 with q263 | q263
        · rcases Nat.lt_or_ge a 254 with q254 | q254
          · rcases Nat.lt_or_ge a 249 with q249 | q249
            · rcases Nat.lt_or_ge a 247 with q247 | q247
              · rcases Nat.lt_or_ge a 246 with q246 | q246
                · obtain rfl : a = 245 := by omega
                  exact ri_k245
                · obtain rfl : a = 246 := by omega
                  exact ri_k246
              · rcases Nat.lt_or_ge a 248 with q248 | q248
                · obtain rfl : a = 247 := by omega
                  exact ri_k247
                · obtain rfl : a = 248 := by omega
                  exact ri_k248
            · rcases Nat.lt_or_ge a 251 with q251 | q251
              · rcases Nat.lt_or_ge a 250 with q250 | q250
                · obtain rfl : a = 249 := by omega
                  exact ri_k249
                · obtain rfl : a = 250 := by omega
                  exact ri_k250
              · rcases Nat.lt_or_ge a 252 with q252 | q252
                · obtain rfl : a = 251 := by omega
                  exact ri_k251
                · rcases Nat.lt_or_ge a 253 with q253 | q253
                  · obtain rfl : a = 252 := by omega
                    exact ri_k252
                  · obtain rfl : a = 253 := by omega
                    exact ri_k253
          · rcases Nat.lt_or_ge a 258 with q258 | q258
            · rcases Nat.lt_or_ge a 256 with q256 | q256
              · rcases Nat.lt_or_ge a 255 with q255 | q255
                · obtain rfl : a = 254 := by omega
                  exact ri_k254
                · obtain rfl : a = 255 := by omega
                  exact ri_k255
              · rcases Nat.lt_or_ge a 257 with q257 | q257
                · obtain rfl : a = 256 := by omega
                  exact ri_k256
                · obtain rfl : a = 257 := by omega
                  exact ri_k257
            · rcases Nat.lt_or_ge a 260 with q260 | q260
              · rcases Nat.lt_or_ge a 259 with q259 | q259
                · obtain rfl : a = 258 := by omega
                  exact ri_k258
                · obtain rfl : a = 259 := by omega
                  exact ri_k259
              · rcases Nat.lt_or_ge a 261 with q261 | q261
                · obtain rfl : a = 260 := by omega
                  exact ri_k260
                · rcases Nat.lt_or_ge a 262 with q262 | q262
                  · obtain rfl : a = 261 := by omega
                    exact ri_k261
                  · obtain rfl : a = 262 := by omega
                    exact ri_k262
        · rcases Nat.lt_or_ge a 272 with q272 | q272
          · rcases Nat.lt_or_ge a 267 with q267 | q267
            · rcases Nat.lt_or_ge a 265 with q265 | q265
              · rcases Nat.lt_or_ge a 264 with q264 | q264
                · obtain rfl : a = 263 := by omega
                  exact ri_k263
                · obtain rfl : a = 264 := by omega
                  exact ri_k264
              · rcases Nat.lt_or_ge a 266 with q266 | q266
                · obtain rfl : a = 265 := by omega
                  exact ri_k265
                · obtain rfl : a = 266 := by omega
                  exact ri_k266
            · rcases Nat.lt_or_ge a 269 with q269 | q269
              · rcases Nat.lt_or_ge a 268 with q268 | q268
                · obtain rfl : a = 267 := by omega
                  exact ri_k267
                · obtain rfl : a = 268 := by omega
                  exact ri_k268
              · rcases Nat.lt_or_ge a 270 with q270 | q270
                · obtain rfl : a = 269 := by omega
                  exact ri_k269
                · rcases Nat.lt_or_ge a 271 with q271 | q271
                  · obtain rfl : a = 270 := by omega
                    exact ri_k270
                  · obtain rfl : a = 271 := by omega
                    exact ri_k271
          · rcases Nat.lt_or_ge a 276 with q276 | q276
            · rcases Nat.lt_or_ge a 274 with q274 | q274
              · rcases Nat.lt_or_ge a 273 with q273 | q273
                · obtain rfl : a = 272 := by omega
                  exact ri_k272
                · obtain rfl : a = 273 := by omega
                  exact ri_k273
              · rcases Nat.lt_or_ge a 275 with q275 | q275
                · obtain rfl : a = 274 := by omega
                  exact ri_k274
                · obtain rfl : a = 275 := by omega
                  exact ri_k275
            · rcases Nat.lt_or_ge a 278 with q278 | q278
              · rcases Nat.lt_or_ge a 277 with q277 | q277
                · obtain rfl : a = 276 := by omega
                  exact ri_k276
                · obtain rfl : a = 277 := by omega
                  exact ri_k277
              · rcases Nat.lt_or_ge a 279 with q279 | q279
                · obtain rfl : a = 278 := by omega
                  exact ri_k278
                · rcases Nat.lt_or_ge a 280 with q280 | q280
                  · obtain rfl : a = 279 := by omega
                    exact ri_k279
                  · obtain rfl : a = 280 := by omega
                    exact ri_k280
set_option maxRecDepth 100000 in
theorem ri_ck_all : ∀ a pc, a < ri_n → pc < ri_len a → ri_one (ri_y a).cls (ri_y a).name (ri_b a) (ri_code a) pc = true := by
  intro a pc h hp
  have h : a < 281 := h
  rcases Nat.lt_or_ge a 140 with q140 | q140
  · rcases Nat.lt_or_ge a 70 with q70 | q70
    · rcases Nat.lt_or_ge a 35 with q35 | q35
      · rcases Nat.lt_or_ge a 17 with q17 | q17
        · rcases Nat.lt_or_ge a 8 with q8 | q8
          · rcases Nat.lt_or_ge a 4 with q4 | q4
            · rcases Nat.lt_or_ge a 2 with q2 | q2
              · rcases Nat.lt_or_ge a 1 with q1 | q1
                · obtain rfl : a = 0 := by omega
                  exact ri_one2_ok (ri_dd0 pc hp)
                · obtain rfl : a = 1 := by omega
                  exact ri_one2_ok (ri_dd1 pc hp)
              · rcases Nat.lt_or_ge a 3 with q3 | q3
                · obtain rfl : a = 2 := by omega
                  exact ri_one2_ok (ri_dd2 pc hp)
                · obtain rfl : a = 3 := by omega
                  exact ri_one2_ok (ri_dd3 pc hp)
            · rcases Nat.lt_or_ge a 6 with q6 | q6
              · rcases Nat.lt_or_ge a 5 with q5 | q5
                · obtain rfl : a = 4 := by omega
                  exact ri_one2_ok (ri_dd4 pc hp)
                · obtain rfl : a = 5 := by omega
                  exact ri_one2_ok (ri_dd5 pc hp)
              · rcases Nat.lt_or_ge a 7 with q7 | q7
                · obtain rfl : a = 6 := by omega
                  exact ri_one2_ok (ri_dd6 pc hp)
                · obtain rfl : a = 7 := by omega
                  exact ri_one2_ok (ri_dd7 pc hp)
          · rcases Nat.lt_or_ge a 12 with q12 | q12
            · rcases Nat.lt_or_ge a 10 with q10 | q10
              · rcases Nat.lt_or_ge a 9 with q9 | q9
                · obtain rfl : a = 8 := by omega
                  exact ri_one2_ok (ri_dd8 pc hp)
                · obtain rfl : a = 9 := by omega
                  exact ri_one2_ok (ri_dd9 pc hp)
              · rcases Nat.lt_or_ge a 11 with q11 | q11
                · obtain rfl : a = 10 := by omega
                  exact ri_one2_ok (ri_dd10 pc hp)
                · obtain rfl : a = 11 := by omega
                  exact ri_one2_ok (ri_dd11 pc hp)
            · rcases Nat.lt_or_ge a 14 with q14 | q14
              · rcases Nat.lt_or_ge a 13 with q13 | q13
                · obtain rfl : a = 12 := by omega
                  exact ri_one2_ok (ri_dd12 pc hp)
                · obtain rfl : a = 13 := by omega
                  exact ri_one2_ok (ri_dd13 pc hp)
              · rcases Nat.lt_or_ge a 15 with q15 | q15
                · obtain rfl : a = 14 := by omega
                  exact ri_one2_ok (ri_dd14 pc hp)
                · rcases Nat.lt_or_ge a 16 with q16 | q16
                  · obtain rfl : a = 15 := by omega
                    exact ri_one2_ok (ri_dd15 pc hp)
                  · obtain rfl : a = 16 := by omega
                    exact ri_one2_ok (ri_dd16 pc hp)
        · rcases Nat.lt_or_ge a 26 with q26 | q26
          · rcases Nat.lt_or_ge a 21 with q21 | q21
            · rcases Nat.lt_or_ge a 19 with q19 | q19
              · rcases Nat.lt_or_ge a 18 with q18 | q18
                · obtain rfl : a = 17 := by omega
                  exact ri_one2_ok (ri_dd17 pc hp)
                · obtain rfl : a = 18 := by omega
                  exact ri_one2_ok (ri_dd18 pc hp)
              · rcases Nat.lt_or_ge a 20 with q20 | q20
                · obtain rfl : a = 19 := by omega
                  exact ri_one2_ok (ri_dd19 pc hp)
                · obtain rfl : a = 20 := by omega
                  exact ri_one2_ok (ri_dd20 pc hp)
            · rcases Nat.lt_or_ge a 23 with q23 | q23
              · rcases Nat.lt_or_ge a 22 with q22 | q22
                · obtain rfl : a = 21 := by omega
                  exact ri_one2_ok (ri_dd21 pc hp)
                · obtain rfl : a = 22 := by omega
                  exact ri_one2_ok (ri_dd22 pc hp)
              · rcases Nat.lt_or_ge a 24 with q24 | q24
                · obtain rfl : a = 23 := by omega
                  exact ri_one2_ok (ri_dd23 pc hp)
                · rcases Nat.lt_or_ge a 25 with q25 | q25
                  · obtain rfl : a = 24 := by omega
                    exact ri_one2_ok (ri_dd24 pc hp)
                  · obtain rfl : a = 25 := by omega
                    exact ri_one2_ok (ri_dd25 pc hp)
          · rcases Nat.lt_or_ge a 30 with q30 | q30
            · rcases Nat.lt_or_ge a 28 with q28 | q28
              · rcases Nat.lt_or_ge a 27 with q27 | q27
                · obtain rfl : a = 26 := by omega
                  exact ri_one2_ok (ri_dd26 pc hp)
                · obtain rfl : a = 27 := by omega
                  exact ri_one2_ok (ri_dd27 pc hp)
              · rcases Nat.lt_or_ge a 29 with q29 | q29
                · obtain rfl : a = 28 := by omega
                  exact ri_one2_ok (ri_dd28 pc hp)
                · obtain rfl : a = 29 := by omega
                  exact ri_one2_ok (ri_dd29 pc hp)
            · rcases Nat.lt_or_ge a 32 with q32 | q32
              · rcases Nat.lt_or_ge a 31 with q31 | q31
                · obtain rfl : a = 30 := by omega
                  exact ri_one2_ok (ri_dd30 pc hp)
                · obtain rfl : a = 31 := by omega
                  exact ri_one2_ok (ri_dd31 pc hp)
              · rcases Nat.lt_or_ge a 33 with q33 | q33
                · obtain rfl : a = 32 := by omega
                  exact ri_one2_ok (ri_dd32 pc hp)
                · rcases Nat.lt_or_ge a 34 with q34 | q34
                  · obtain rfl : a = 33 := by omega
                    exact ri_one2_ok (ri_dd33 pc hp)
                  · obtain rfl : a = 34 := by omega
                    exact ri_one2_ok (ri_dd34 pc hp)
      · rcases Nat.lt_or_ge a 52 with q52 | q52
        · rcases Nat.lt_or_ge a 43 with q43 | q43
          · rcases Nat.lt_or_ge a 39 with q39 | q39
            · rcases Nat.lt_or_ge a 37 with q37 | q37
              · rcases Nat.lt_or_ge a 36 with q36 | q36
                · obtain rfl : a = 35 := by omega
                  exact ri_one2_ok (ri_dd35 pc hp)
                · obtain rfl : a = 36 := by omega
                  exact ri_one2_ok (ri_dd36 pc hp)
              · rcases Nat.lt_or_ge a 38 with q38 | q38
                · obtain rfl : a = 37 := by omega
                  exact ri_one2_ok (ri_dd37 pc hp)
                · obtain rfl : a = 38 := by omega
                  exact ri_one2_ok (ri_dd38 pc hp)
            · rcases Nat.lt_or_ge a 41 with q41 | q41
              · rcases Nat.lt_or_ge a 40 with q40 | q40
                · obtain rfl : a = 39 := by omega
                  exact ri_one2_ok (ri_dd39 pc hp)
                · obtain rfl : a = 40 := by omega
                  exact ri_one2_ok (ri_dd40 pc hp)
              · rcases Nat.lt_or_ge a 42 with q42 | q42
                · obtain rfl : a = 41 := by omega
                  exact ri_one2_ok (ri_dd41 pc hp)
                · obtain rfl : a = 42 := by omega
                  exact ri_one2_ok (ri_dd42 pc hp)
          · rcases Nat.lt_or_ge a 47 with q47 | q47
            · rcases Nat.lt_or_ge a 45 with q45 | q45
              · rcases Nat.lt_or_ge a 44 with q44 | q44
                · obtain rfl : a = 43 := by omega
                  exact ri_one2_ok (ri_dd43 pc hp)
                · obtain rfl : a = 44 := by omega
                  exact ri_one2_ok (ri_dd44 pc hp)
              · rcases Nat.lt_or_ge a 46 with q46 | q46
                · obtain rfl : a = 45 := by omega
                  exact ri_one2_ok (ri_dd45 pc hp)
                · obtain rfl : a = 46 := by omega
                  exact ri_one2_ok (ri_dd46 pc hp)
            · rcases Nat.lt_or_ge a 49 with q49 | q49
              · rcases Nat.lt_or_ge a 48 with q48 | q48
                · obtain rfl : a = 47 := by omega
                  exact ri_one2_ok (ri_dd47 pc hp)
                · obtain rfl : a = 48 := by omega
                  exact ri_one2_ok (ri_dd48 pc hp)
              · rcases Nat.lt_or_ge a 50 with q50 | q50
                · obtain rfl : a = 49 := by omega
                  exact ri_one2_ok (ri_dd49 pc hp)
                · rcases Nat.lt_or_ge a 51 with q51 | q51
                  · obtain rfl : a = 50 := by omega
                    exact ri_one2_ok (ri_dd50 pc hp)
                  · obtain rfl : a = 51 := by omega
                    exact ri_one2_ok (ri_dd51 pc hp)
        · rcases Nat.lt_or_ge a 61 with q61 | q61
          · rcases Nat.lt_or_ge a 56 with q56 | q56
            · rcases Nat.lt_or_ge a 54 with q54 | q54
              · rcases Nat.lt_or_ge a 53 with q53 | q53
                · obtain rfl : a = 52 := by omega
                  exact ri_one2_ok (ri_dd52 pc hp)
                · obtain rfl : a = 53 := by omega
                  exact ri_one2_ok (ri_dd53 pc hp)
              · rcases Nat.lt_or_ge a 55 with q55 | q55
                · obtain rfl : a = 54 := by omega
                  exact ri_one2_ok (ri_dd54 pc hp)
                · obtain rfl : a = 55 := by omega
                  exact ri_one2_ok (ri_dd55 pc hp)
            · rcases Nat.lt_or_ge a 58 with q58 | q58
              · rcases Nat.lt_or_ge a 57 with q57 | q57
                · obtain rfl : a = 56 := by omega
                  exact ri_one2_ok (ri_dd56 pc hp)
                · obtain rfl : a = 57 := by omega
                  exact ri_one2_ok (ri_dd57 pc hp)
              · rcases Nat.lt_or_ge a 59 with q59 | q59
                · obtain rfl : a = 58 := by omega
                  exact ri_one2_ok (ri_dd58 pc hp)
                · rcases Nat.lt_or_ge a 60 with q60 | q60
                  · obtain rfl : a = 59 := by omega
                    exact ri_one2_ok (ri_dd59 pc hp)
                  · obtain rfl : a = 60 := by omega
                    exact ri_one2_ok (ri_dd60 pc hp)
          · rcases Nat.lt_or_ge a 65 with q65 | q65
            · rcases Nat.lt_or_ge a 63 with q63 | q63
              · rcases Nat.lt_or_ge a 62 with q62 | q62
                · obtain rfl : a = 61 := by omega
                  exact ri_one2_ok (ri_dd61 pc hp)
                · obtain rfl : a = 62 := by omega
                  exact ri_one2_ok (ri_dd62 pc hp)
              · rcases Nat.lt_or_ge a 64 with q64 | q64
                · obtain rfl : a = 63 := by omega
                  exact ri_one2_ok (ri_dd63 pc hp)
                · obtain rfl : a = 64 := by omega
                  exact ri_one2_ok (ri_dd64 pc hp)
            · rcases Nat.lt_or_ge a 67 with q67 | q67
              · rcases Nat.lt_or_ge a 66 with q66 | q66
                · obtain rfl : a = 65 := by omega
                  exact ri_one2_ok (ri_dd65 pc hp)
                · obtain rfl : a = 66 := by omega
                  exact ri_one2_ok (ri_dd66 pc hp)
              · rcases Nat.lt_or_ge a 68 with q68 | q68
                · obtain rfl : a = 67 := by omega
                  exact ri_one2_ok (ri_dd67 pc hp)
                · rcases Nat.lt_or_ge a 69 with q69 | q69
                  · obtain rfl : a = 68 := by omega
                    exact ri_one2_ok (ri_dd68 pc hp)
                  · obtain rfl : a = 69 := by omega
                    exact ri_one2_ok (ri_dd69 pc hp)
    · rcases Nat.lt_or_ge a 105 with q105 | q105
      · rcases Nat.lt_or_ge a 87 with q87 | q87
        · rcases Nat.lt_or_ge a 78 with q78 | q78
          · rcases Nat.lt_or_ge a 74 with q74 | q74
            · rcases Nat.lt_or_ge a 72 with q72 | q72
              · rcases Nat.lt_or_ge a 71 with q71 | q71
                · obtain rfl : a = 70 := by omega
                  exact ri_one2_ok (ri_dd70 pc hp)
                · obtain rfl : a = 71 := by omega
                  exact ri_one2_ok (ri_dd71 pc hp)
              · rcases Nat.lt_or_ge a 73 with q73 | q73
                · obtain rfl : a = 72 := by omega
                  exact ri_one2_ok (ri_dd72 pc hp)
                · obtain rfl : a = 73 := by omega
                  exact ri_one2_ok (ri_dd73 pc hp)
            · rcases Nat.lt_or_ge a 76 with q76 | q76
              · rcases Nat.lt_or_ge a 75 with q75 | q75
                · obtain rfl : a = 74 := by omega
                  exact ri_one2_ok (ri_dd74 pc hp)
                · obtain rfl : a = 75 := by omega
                  exact ri_one2_ok (ri_dd75 pc hp)
              · rcases Nat.lt_or_ge a 77 with q77 | q77
                · obtain rfl : a = 76 := by omega
                  exact ri_one2_ok (ri_dd76 pc hp)
                · obtain rfl : a = 77 := by omega
                  exact ri_one2_ok (ri_dd77 pc hp)
          · rcases Nat.lt_or_ge a 82 with q82 | q82
            · rcases Nat.lt_or_ge a 80 with q80 | q80
              · rcases Nat.lt_or_ge a 79 with q79 | q79
                · obtain rfl : a = 78 := by omega
                  exact ri_one2_ok (ri_dd78 pc hp)
                · obtain rfl : a = 79 := by omega
                  exact ri_one2_ok (ri_dd79 pc hp)
              · rcases Nat.lt_or_ge a 81 with q81 | q81
                · obtain rfl : a = 80 := by omega
                  exact ri_one2_ok (ri_dd80 pc hp)
                · obtain rfl : a = 81 := by omega
                  exact ri_one2_ok (ri_dd81 pc hp)
            · rcases Nat.lt_or_ge a 84 with q84 | q84
              · rcases Nat.lt_or_ge a 83 with q83 | q83
                · obtain rfl : a = 82 := by omega
                  exact ri_one2_ok (ri_dd82 pc hp)
                · obtain rfl : a = 83 := by omega
                  exact ri_one2_ok (ri_dd83 pc hp)
              · rcases Nat.lt_or_ge a 85 with q85 | q85
                · obtain rfl : a = 84 := by omega
                  exact ri_one2_ok (ri_dd84 pc hp)
                · rcases Nat.lt_or_ge a 86 with q86 | q86
                  · obtain rfl : a = 85 := by omega
                    exact ri_one2_ok (ri_dd85 pc hp)
                  · obtain rfl : a = 86 := by omega
                    exact ri_one2_ok (ri_dd86 pc hp)
        · rcases Nat.lt_or_ge a 96 with q96 | q96
          · rcases Nat.lt_or_ge a 91 with q91 | q91
            · rcases Nat.lt_or_ge a 89 with q89 | q89
              · rcases Nat.lt_or_ge a 88 with q88 | q88
                · obtain rfl : a = 87 := by omega
                  exact ri_one2_ok (ri_dd87 pc hp)
                · obtain rfl : a = 88 := by omega
                  exact ri_one2_ok (ri_dd88 pc hp)
              · rcases Nat.lt_or_ge a 90 with q90 | q90
                · obtain rfl : a = 89 := by omega
                  exact ri_one2_ok (ri_dd89 pc hp)
                · obtain rfl : a = 90 := by omega
                  exact ri_one2_ok (ri_dd90 pc hp)
            · rcases Nat.lt_or_ge a 93 with q93 | q93
              · rcases Nat.lt_or_ge a 92 with q92 | q92
                · obtain rfl : a = 91 := by omega
                  exact ri_one2_ok (ri_dd91 pc hp)
                · obtain rfl : a = 92 := by omega
                  exact ri_one2_ok (ri_dd92 pc hp)
              · rcases Nat.lt_or_ge a 94 with q94 | q94
                · obtain rfl : a = 93 := by omega
                  exact ri_one2_ok (ri_dd93 pc hp)
                · rcases Nat.lt_or_ge a 95 with q95 | q95
                  · obtain rfl : a = 94 := by omega
                    exact ri_one2_ok (ri_dd94 pc hp)
                  · obtain rfl : a = 95 := by omega
                    exact ri_one2_ok (ri_dd95 pc hp)
          · rcases Nat.lt_or_ge a 100 with q100 | q100
            · rcases Nat.lt_or_ge a 98 with q98 | q98
              · rcases Nat.lt_or_ge a 97 with q97 | q97
                · obtain rfl : a = 96 := by omega
                  exact ri_one2_ok (ri_dd96 pc hp)
                · obtain rfl : a = 97 := by omega
                  exact ri_one2_ok (ri_dd97 pc hp)
              · rcases Nat.lt_or_ge a 99 with q99 | q99
                · obtain rfl : a = 98 := by omega
                  exact ri_one2_ok (ri_dd98 pc hp)
                · obtain rfl : a = 99 := by omega
                  exact ri_one2_ok (ri_dd99 pc hp)
            · rcases Nat.lt_or_ge a 102 with q102 | q102
              · rcases Nat.lt_or_ge a 101 with q101 | q101
                · obtain rfl : a = 100 := by omega
                  exact ri_one2_ok (ri_dd100 pc hp)
                · obtain rfl : a = 101 := by omega
                  exact ri_one2_ok (ri_dd101 pc hp)
              · rcases Nat.lt_or_ge a 103 with q103 | q103
                · obtain rfl : a = 102 := by omega
                  exact ri_one2_ok (ri_dd102 pc hp)
                · rcases Nat.lt_or_ge a 104 with q104 | q104
                  · obtain rfl : a = 103 := by omega
                    exact ri_one2_ok (ri_dd103 pc hp)
                  · obtain rfl : a = 104 := by omega
                    exact ri_one2_ok (ri_dd104 pc hp)
      · rcases Nat.lt_or_ge a 122 with q122 | q122
        · rcases Nat.lt_or_ge a 113 with q113 | q113
          · rcases Nat.lt_or_ge a 109 with q109 | q109
            · rcases Nat.lt_or_ge a 107 with q107 | q107
              · rcases Nat.lt_or_ge a 106 with q106 | q106
                · obtain rfl : a = 105 := by omega
                  exact ri_one2_ok (ri_dd105 pc hp)
                · obtain rfl : a = 106 := by omega
                  exact ri_one2_ok (ri_dd106 pc hp)
              · rcases Nat.lt_or_ge a 108 with q108 | q108
                · obtain rfl : a = 107 := by omega
                  exact ri_one2_ok (ri_dd107 pc hp)
                · obtain rfl : a = 108 := by omega
                  exact ri_one2_ok (ri_dd108 pc hp)
            · rcases Nat.lt_or_ge a 111 with q111 | q111
              · rcases Nat.lt_or_ge a 110 with q110 | q110
                · obtain rfl : a = 109 := by omega
                  exact ri_one2_ok (ri_dd109 pc hp)
                · obtain rfl : a = 110 := by omega
                  exact ri_one2_ok (ri_dd110 pc hp)
              · rcases Nat.lt_or_ge a 112 with q112 | q112
                · obtain rfl : a = 111 := by omega
                  exact ri_one2_ok (ri_dd111 pc hp)
                · obtain rfl : a = 112 := by omega
                  exact ri_one2_ok (ri_dd112 pc hp)
          · rcases Nat.lt_or_ge a 117 with q117 | q117
            · rcases Nat.lt_or_ge a 115 with q115 | q115
              · rcases Nat.lt_or_ge a 114 with q114 | q114
                · obtain rfl : a = 113 := by omega
                  exact ri_one2_ok (ri_dd113 pc hp)
                · obtain rfl : a = 114 := by omega
                  exact ri_one2_ok (ri_dd114 pc hp)
              · rcases Nat.lt_or_ge a 116 with q116 | q116
                · obtain rfl : a = 115 := by omega
                  exact ri_one2_ok (ri_dd115 pc hp)
                · obtain rfl : a = 116 := by omega
                  exact ri_one2_ok (ri_dd116 pc hp)
            · rcases Nat.lt_or_ge a 119 with q119 | q119
              · rcases Nat.lt_or_ge a 118 with q118 | q118
                · obtain rfl : a = 117 := by omega
                  exact ri_one2_ok (ri_dd117 pc hp)
                · obtain rfl : a = 118 := by omega
                  exact ri_one2_ok (ri_dd118 pc hp)
              · rcases Nat.lt_or_ge a 120 with q120 | q120
                · obtain rfl : a = 119 := by omega
                  exact ri_one2_ok (ri_dd119 pc hp)
                · rcases Nat.lt_or_ge a 121 with q121 | q121
                  · obtain rfl : a = 120 := by omega
                    exact ri_one2_ok (ri_dd120 pc hp)
                  · obtain rfl : a = 121 := by omega
                    exact ri_one2_ok (ri_dd121 pc hp)
        · rcases Nat.lt_or_ge a 131 with q131 | q131
          · rcases Nat.lt_or_ge a 126 with q126 | q126
            · rcases Nat.lt_or_ge a 124 with q124 | q124
              · rcases Nat.lt_or_ge a 123 with q123 | q123
                · obtain rfl : a = 122 := by omega
                  exact ri_one2_ok (ri_dd122 pc hp)
                · obtain rfl : a = 123 := by omega
                  exact ri_one2_ok (ri_dd123 pc hp)
              · rcases Nat.lt_or_ge a 125 with q125 | q125
                · obtain rfl : a = 124 := by omega
                  exact ri_one2_ok (ri_dd124 pc hp)
                · obtain rfl : a = 125 := by omega
                  exact ri_one2_ok (ri_dd125 pc hp)
            · rcases Nat.lt_or_ge a 128 with q128 | q128
              · rcases Nat.lt_or_ge a 127 with q127 | q127
                · obtain rfl : a = 126 := by omega
                  exact ri_one2_ok (ri_dd126 pc hp)
                · obtain rfl : a = 127 := by omega
                  exact ri_one2_ok (ri_dd127 pc hp)
              · rcases Nat.lt_or_ge a 129 with q129 | q129
                · obtain rfl : a = 128 := by omega
                  exact ri_one2_ok (ri_dd128 pc hp)
                · rcases Nat.lt_or_ge a 130 with q130 | q130
                  · obtain rfl : a = 129 := by omega
                    exact ri_one2_ok (ri_dd129 pc hp)
                  · obtain rfl : a = 130 := by omega
                    exact ri_one2_ok (ri_dd130 pc hp)
          · rcases Nat.lt_or_ge a 135 with q135 | q135
            · rcases Nat.lt_or_ge a 133 with q133 | q133
              · rcases Nat.lt_or_ge a 132 with q132 | q132
                · obtain rfl : a = 131 := by omega
                  exact ri_one2_ok (ri_dd131 pc hp)
                · obtain rfl : a = 132 := by omega
                  exact ri_one2_ok (ri_dd132 pc hp)
              · rcases Nat.lt_or_ge a 134 with q134 | q134
                · obtain rfl : a = 133 := by omega
                  exact ri_one2_ok (ri_dd133 pc hp)
                · obtain rfl : a = 134 := by omega
                  exact ri_one2_ok (ri_dd134 pc hp)
            · rcases Nat.lt_or_ge a 137 with q137 | q137
              · rcases Nat.lt_or_ge a 136 with q136 | q136
                · obtain rfl : a = 135 := by omega
                  exact ri_one2_ok (ri_dd135 pc hp)
                · obtain rfl : a = 136 := by omega
                  exact ri_one2_ok (ri_dd136 pc hp)
              · rcases Nat.lt_or_ge a 138 with q138 | q138
                · obtain rfl : a = 137 := by omega
                  exact ri_one2_ok (ri_dd137 pc hp)
                · rcases Nat.lt_or_ge a 139 with q139 | q139
                  · obtain rfl : a = 138 := by omega
                    exact ri_one2_ok (ri_dd138 pc hp)
                  · obtain rfl : a = 139 := by omega
                    exact ri_one2_ok (ri_dd139 pc hp)
  · rcases Nat.lt_or_ge a 210 with q210 | q210
    · rcases Nat.lt_or_ge a 175 with q175 | q175
      · rcases Nat.lt_or_ge a 157 with q157 | q157
        · rcases Nat.lt_or_ge a 148 with q148 | q148
          · rcases Nat.lt_or_ge a 144 with q144 | q144
            · rcases Nat.lt_or_ge a 142 with q142 | q142
              · rcases Nat.lt_or_ge a 141 with q141 | q141
                · obtain rfl : a = 140 := by omega
                  exact ri_one2_ok (ri_dd140 pc hp)
                · obtain rfl : a = 141 := by omega
                  exact ri_one2_ok (ri_dd141 pc hp)
              · rcases Nat.lt_or_ge a 143 with q143 | q143
                · obtain rfl : a = 142 := by omega
                  exact ri_one2_ok (ri_dd142 pc hp)
                · obtain rfl : a = 143 := by omega
                  exact ri_one2_ok (ri_dd143 pc hp)
            · rcases Nat.lt_or_ge a 146 with q146 | q146
              · rcases Nat.lt_or_ge a 145 with q145 | q145
                · obtain rfl : a = 144 := by omega
                  exact ri_one2_ok (ri_dd144 pc hp)
                · obtain rfl : a = 145 := by omega
                  exact ri_one2_ok (ri_dd145 pc hp)
              · rcases Nat.lt_or_ge a 147 with q147 | q147
                · obtain rfl : a = 146 := by omega
                  exact ri_one2_ok (ri_dd146 pc hp)
                · obtain rfl : a = 147 := by omega
                  exact ri_one2_ok (ri_dd147 pc hp)
          · rcases Nat.lt_or_ge a 152 with q152 | q152
            · rcases Nat.lt_or_ge a 150 with q150 | q150
              · rcases Nat.lt_or_ge a 149 with q149 | q149
                · obtain rfl : a = 148 := by omega
                  exact ri_one2_ok (ri_dd148 pc hp)
                · obtain rfl : a = 149 := by omega
                  exact ri_one2_ok (ri_dd149 pc hp)
              · rcases Nat.lt_or_ge a 151 with q151 | q151
                · obtain rfl : a = 150 := by omega
                  exact ri_one2_ok (ri_dd150 pc hp)
                · obtain rfl : a = 151 := by omega
                  exact ri_one2_ok (ri_dd151 pc hp)
            · rcases Nat.lt_or_ge a 154 with q154 | q154
              · rcases Nat.lt_or_ge a 153 with q153 | q153
                · obtain rfl : a = 152 := by omega
                  exact ri_one2_ok (ri_dd152 pc hp)
                · obtain rfl : a = 153 := by omega
                  exact ri_one2_ok (ri_dd153 pc hp)
              · rcases Nat.lt_or_ge a 155 with q155 | q155
                · obtain rfl : a = 154 := by omega
                  exact ri_one2_ok (ri_dd154 pc hp)
                · rcases Nat.lt_or_ge a 156 with q156 | q156
                  · obtain rfl : a = 155 := by omega
                    exact ri_one2_ok (ri_dd155 pc hp)
                  · obtain rfl : a = 156 := by omega
                    exact ri_one2_ok (ri_dd156 pc hp)
        · rcases Nat.lt_or_ge a 166 with q166 | q166
          · rcases Nat.lt_or_ge a 161 with q161 | q161
            · rcases Nat.lt_or_ge a 159 with q159 | q159
              · rcases Nat.lt_or_ge a 158 with q158 | q158
                · obtain rfl : a = 157 := by omega
                  exact ri_one2_ok (ri_dd157 pc hp)
                · obtain rfl : a = 158 := by omega
                  exact ri_one2_ok (ri_dd158 pc hp)
              · rcases Nat.lt_or_ge a 160 with q160 | q160
                · obtain rfl : a = 159 := by omega
                  exact ri_one2_ok (ri_dd159 pc hp)
                · obtain rfl : a = 160 := by omega
                  exact ri_one2_ok (ri_dd160 pc hp)
            · rcases Nat.lt_or_ge a 163 with q163 | q163
              · rcases Nat.lt_or_ge a 162 with q162 | q162
                · obtain rfl : a = 161 := by omega
                  exact ri_one2_ok (ri_dd161 pc hp)
                · obtain rfl : a = 162 := by omega
                  exact ri_one2_ok (ri_dd162 pc hp)
              · rcases Nat.lt_or_ge a 164 with q164 | q164
                · obtain rfl : a = 163 := by omega
                  exact ri_one2_ok (ri_dd163 pc hp)
                · rcases Nat.lt_or_ge a 165 with q165 | q165
                  · obtain rfl : a = 164 := by omega
                    exact ri_one2_ok (ri_dd164 pc hp)
                  · obtain rfl : a = 165 := by omega
                    exact ri_one2_ok (ri_dd165 pc hp)
          · rcases Nat.lt_or_ge a 170 with q170 | q170
            · rcases Nat.lt_or_ge a 168 with q168 | q168
              · rcases Nat.lt_or_ge a 167 with q167 | q167
                · obtain rfl : a = 166 := by omega
                  exact ri_one2_ok (ri_dd166 pc hp)
                · obtain rfl : a = 167 := by omega
                  exact ri_one2_ok (ri_dd167 pc hp)
              · rcases Nat.lt_or_ge a 169 with q169 | q169
                · obtain rfl : a = 168 := by omega
                  exact ri_one2_ok (ri_dd168 pc hp)
                · obtain rfl : a = 169 := by omega
                  exact ri_one2_ok (ri_dd169 pc hp)
            · rcases Nat.lt_or_ge a 172 with q172 | q172
              · rcases Nat.lt_or_ge a 171 with q171 | q171
                · obtain rfl : a = 170 := by omega
                  exact ri_one2_ok (ri_dd170 pc hp)
                · obtain rfl : a = 171 := by omega
                  exact ri_one2_ok (ri_dd171 pc hp)
              · rcases Nat.lt_or_ge a 173 with q173 | q173
                · obtain rfl : a = 172 := by omega
                  exact ri_one2_ok (ri_dd172 pc hp)
                · rcases Nat.lt_or_ge a 174 with q174 | q174
                  · obtain rfl : a = 173 := by omega
                    exact ri_one2_ok (ri_dd173 pc hp)
                  · obtain rfl : a = 174 := by omega
                    exact ri_one2_ok (ri_dd174 pc hp)
      · rcases Nat.lt_or_ge a 192 with q192 | q192
        · rcases Nat.lt_or_ge a 183 with q183 | q183
          · rcases Nat.lt_or_ge a 179 with q179 | q179
            · rcases Nat.lt_or_ge a 177 with q177 | q177
              · rcases Nat.lt_or_ge a 176 with q176 | q176
                · obtain rfl : a = 175 := by omega
                  exact ri_one2_ok (ri_dd175 pc hp)
                · obtain rfl : a = 176 := by omega
                  exact ri_one2_ok (ri_dd176 pc hp)
              · rcases Nat.lt_or_ge a 178 with q178 | q178
                · obtain rfl : a = 177 := by omega
                  exact ri_one2_ok (ri_dd177 pc hp)
                · obtain rfl : a = 178 := by omega
                  exact ri_one2_ok (ri_dd178 pc hp)
            · rcases Nat.lt_or_ge a 181 with q181 | q181
              · rcases Nat.lt_or_ge a 180 with q180 | q180
                · obtain rfl : a = 179 := by omega
                  exact ri_one2_ok (ri_dd179 pc hp)
                · obtain rfl : a = 180 := by omega
                  exact ri_one2_ok (ri_dd180 pc hp)
              · rcases Nat.lt_or_ge a 182 with q182 | q182
                · obtain rfl : a = 181 := by omega
                  exact ri_one2_ok (ri_dd181 pc hp)
                · obtain rfl : a = 182 := by omega
                  exact ri_one2_ok (ri_dd182 pc hp)
          · rcases Nat.lt_or_ge a 187 with q187 | q187
            · rcases Nat.lt_or_ge a 185 with q185 | q185
              · rcases Nat.lt_or_ge a 184 with q184 | q184
                · obtain rfl : a = 183 := by omega
                  exact ri_one2_ok (ri_dd183 pc hp)
                · obtain rfl : a = 184 := by omega
                  exact ri_one2_ok (ri_dd184 pc hp)
              · rcases Nat.lt_or_ge a 186 with q186 | q186
                · obtain rfl : a = 185 := by omega
                  exact ri_one2_ok (ri_dd185 pc hp)
                · obtain rfl : a = 186 := by omega
                  exact ri_one2_ok (ri_dd186 pc hp)
            · rcases Nat.lt_or_ge a 189 with q189 | q189
              · rcases Nat.lt_or_ge a 188 with q188 | q188
                · obtain rfl : a = 187 := by omega
                  exact ri_one2_ok (ri_dd187 pc hp)
                · obtain rfl : a = 188 := by omega
                  exact ri_one2_ok (ri_dd188 pc hp)
              · rcases Nat.lt_or_ge a 190 with q190 | q190
                · obtain rfl : a = 189 := by omega
                  exact ri_one2_ok (ri_dd189 pc hp)
                · rcases Nat.lt_or_ge a 191 with q191 | q191
                  · obtain rfl : a = 190 := by omega
                    exact ri_one2_ok (ri_dd190 pc hp)
                  · obtain rfl : a = 191 := by omega
                    exact ri_one2_ok (ri_dd191 pc hp)
        · rcases Nat.lt_or_ge a 201 with q201 | q201
          · rcases Nat.lt_or_ge a 196 with q196 | q196
            · rcases Nat.lt_or_ge a 194 with q194 | q194
              · rcases Nat.lt_or_ge a 193 with q193 | q193
                · obtain rfl : a = 192 := by omega
                  exact ri_one2_ok (ri_dd192 pc hp)
                · obtain rfl : a = 193 := by omega
                  exact ri_one2_ok (ri_dd193 pc hp)
              · rcases Nat.lt_or_ge a 195 with q195 | q195
                · obtain rfl : a = 194 := by omega
                  exact ri_one2_ok (ri_dd194 pc hp)
                · obtain rfl : a = 195 := by omega
                  exact ri_one2_ok (ri_dd195 pc hp)
            · rcases Nat.lt_or_ge a 198 with q198 | q198
              · rcases Nat.lt_or_ge a 197 with q197 | q197
                · obtain rfl : a = 196 := by omega
                  exact ri_one2_ok (ri_dd196 pc hp)
                · obtain rfl : a = 197 := by omega
                  exact ri_one2_ok (ri_dd197 pc hp)
              · rcases Nat.lt_or_ge a 199 with q199 | q199
                · obtain rfl : a = 198 := by omega
                  exact ri_one2_ok (ri_dd198 pc hp)
                · rcases Nat.lt_or_ge a 200 with q200 | q200
                  · obtain rfl : a = 199 := by omega
                    exact ri_one2_ok (ri_dd199 pc hp)
                  · obtain rfl : a = 200 := by omega
                    exact ri_one2_ok (ri_dd200 pc hp)
          · rcases Nat.lt_or_ge a 205 with q205 | q205
            · rcases Nat.lt_or_ge a 203 with q203 | q203
              · rcases Nat.lt_or_ge a 202 with q202 | q202
                · obtain rfl : a = 201 := by omega
                  exact ri_one2_ok (ri_dd201 pc hp)
                · obtain rfl : a = 202 := by omega
                  exact ri_one2_ok (ri_dd202 pc hp)
              · rcases Nat.lt_or_ge a 204 with q204 | q204
                · obtain rfl : a = 203 := by omega
                  exact ri_one2_ok (ri_dd203 pc hp)
                · obtain rfl : a = 204 := by omega
                  exact ri_one2_ok (ri_dd204 pc hp)
            · rcases Nat.lt_or_ge a 207 with q207 | q207
              · rcases Nat.lt_or_ge a 206 with q206 | q206
                · obtain rfl : a = 205 := by omega
                  exact ri_one2_ok (ri_dd205 pc hp)
                · obtain rfl : a = 206 := by omega
                  exact ri_one2_ok (ri_dd206 pc hp)
              · rcases Nat.lt_or_ge a 208 with q208 | q208
                · obtain rfl : a = 207 := by omega
                  exact ri_one2_ok (ri_dd207 pc hp)
                · rcases Nat.lt_or_ge a 209 with q209 | q209
                  · obtain rfl : a = 208 := by omega
                    exact ri_one2_ok (ri_dd208 pc hp)
                  · obtain rfl : a = 209 := by omega
                    exact ri_one2_ok (ri_dd209 pc hp)
    · rcases Nat.lt_or_ge a 245 with q245 | q245
      · rcases Nat.lt_or_ge a 227 with q227 | q227
        · rcases Nat.lt_or_ge a 218 with q218 | q218
          · rcases Nat.lt_or_ge a 214 with q214 | q214
            · rcases Nat.lt_or_ge a 212 with q212 | q212
              · rcases Nat.lt_or_ge a 211 with q211 | q211
                · obtain rfl : a = 210 := by omega
                  exact ri_one2_ok (ri_dd210 pc hp)
                · obtain rfl : a = 211 := by omega
                  exact ri_one2_ok (ri_dd211 pc hp)
              · rcases Nat.lt_or_ge a 213 with q213 | q213
                · obtain rfl : a = 212 := by omega
                  exact ri_one2_ok (ri_dd212 pc hp)
                · obtain rfl : a = 213 := by omega
                  exact ri_one2_ok (ri_dd213 pc hp)
            · rcases Nat.lt_or_ge a 216 with q216 | q216
              · rcases Nat.lt_or_ge a 215 with q215 | q215
                · obtain rfl : a = 214 := by omega
                  exact ri_one2_ok (ri_dd214 pc hp)
                · obtain rfl : a = 215 := by omega
                  exact ri_one2_ok (ri_dd215 pc hp)
              · rcases Nat.lt_or_ge a 217 with q217 | q217
                · obtain rfl : a = 216 := by omega
                  exact ri_one2_ok (ri_dd216 pc hp)
                · obtain rfl : a = 217 := by omega
                  exact ri_one2_ok (ri_dd217 pc hp)
          · rcases Nat.lt_or_ge a 222 with q222 | q222
            · rcases Nat.lt_or_ge a 220 with q220 | q220
              · rcases Nat.lt_or_ge a 219 with q219 | q219
                · obtain rfl : a = 218 := by omega
                  exact ri_one2_ok (ri_dd218 pc hp)
                · obtain rfl : a = 219 := by omega
                  exact ri_one2_ok (ri_dd219 pc hp)
              · rcases Nat.lt_or_ge a 221 with q221 | q221
                · obtain rfl : a = 220 := by omega
                  exact ri_one2_ok (ri_dd220 pc hp)
                · obtain rfl : a = 221 := by omega
                  exact ri_one2_ok (ri_dd221 pc hp)
            · rcases Nat.lt_or_ge a 224 with q224 | q224
              · rcases Nat.lt_or_ge a 223 with q223 | q223
                · obtain rfl : a = 222 := by omega
                  exact ri_one2_ok (ri_dd222 pc hp)
                · obtain rfl : a = 223 := by omega
                  exact ri_one2_ok (ri_dd223 pc hp)
              · rcases Nat.lt_or_ge a 225 with q225 | q225
                · obtain rfl : a = 224 := by omega
                  exact ri_one2_ok (ri_dd224 pc hp)
                · rcases Nat.lt_or_ge a 226 with q226 | q226
                  · obtain rfl : a = 225 := by omega
                    exact ri_one2_ok (ri_dd225 pc hp)
                  · obtain rfl : a = 226 := by omega
                    exact ri_one2_ok (ri_dd226 pc hp)
        · rcases Nat.lt_or_ge a 236 with q236 | q236
          · rcases Nat.lt_or_ge a 231 with q231 | q231
            · rcases Nat.lt_or_ge a 229 with q229 | q229
              · rcases Nat.lt_or_ge a 228 with q228 | q228
                · obtain rfl : a = 227 := by omega
                  exact ri_one2_ok (ri_dd227 pc hp)
                · obtain rfl : a = 228 := by omega
                  exact ri_one2_ok (ri_dd228 pc hp)
              · rcases Nat.lt_or_ge a 230 with q230 | q230
                · obtain rfl : a = 229 := by omega
                  exact ri_one2_ok (ri_dd229 pc hp)
                · obtain rfl : a = 230 := by omega
                  exact ri_one2_ok (ri_dd230 pc hp)
            · rcases Nat.lt_or_ge a 233 with q233 | q233
              · rcases Nat.lt_or_ge a 232 with q232 | q232
                · obtain rfl : a = 231 := by omega
                  exact ri_one2_ok (ri_dd231 pc hp)
                · obtain rfl : a = 232 := by omega
                  exact ri_one2_ok (ri_dd232 pc hp)
              · rcases Nat.lt_or_ge a 234 with q234 | q234
                · obtain rfl : a = 233 := by omega
                  exact ri_one2_ok (ri_dd233 pc hp)
                · rcases Nat.lt_or_ge a 235 with q235 | q235
                  · obtain rfl : a = 234 := by omega
                    exact ri_one2_ok (ri_dd234 pc hp)
                  · obtain rfl : a = 235 := by omega
                    exact ri_one2_ok (ri_dd235 pc hp)
          · rcases Nat.lt_or_ge a 240 with q240 | q240
            · rcases Nat.lt_or_ge a 238 with q238 | q238
              · rcases Nat.lt_or_ge a 237 with q237 | q237
                · obtain rfl : a = 236 := by omega
                  exact ri_one2_ok (ri_dd236 pc hp)
                · obtain rfl : a = 237 := by omega
                  exact ri_one2_ok (ri_dd237 pc hp)
              · rcases Nat.lt_or_ge a 239 with q239 | q239
                · obtain rfl : a = 238 := by omega
                  exact ri_one2_ok (ri_dd238 pc hp)
                · obtain rfl : a = 239 := by omega
                  exact ri_one2_ok (ri_dd239 pc hp)
            · rcases Nat.lt_or_ge a 242 with q242 | q242
              · rcases Nat.lt_or_ge a 241 with q241 | q241
                · obtain rfl : a = 240 := by omega
                  exact ri_one2_ok (ri_dd240 pc hp)
                · obtain rfl : a = 241 := by omega
                  exact ri_one2_ok (ri_dd241 pc hp)
              · rcases Nat.lt_or_ge a 243 with q243 | q243
                · obtain rfl : a = 242 := by omega
                  exact ri_one2_ok (ri_dd242 pc hp)
                · rcases Nat.lt_or_ge a 244 with q244 | q244
                  · obtain rfl : a = 243 := by omega
                    exact ri_one2_ok (ri_dd243 pc hp)
                  · obtain rfl : a = 244 := by omega
                    exact ri_one2_ok (ri_dd244 pc hp)
      · rcases Nat.lt_or_ge a 263 with q263 | q263
        · rcases Nat.lt_or_ge a 254 with q254 | q254
          · rcases Nat.lt_or_ge a 249 with q249 | q249
            · rcases Nat.lt_or_ge a 247 with q247 | q247
              · rcases Nat.lt_or_ge a 246 with q246 | q246
                · obtain rfl : a = 245 := by omega
                  exact ri_one2_ok (ri_dd245 pc hp)
                · obtain rfl : a = 246 := by omega
                  exact ri_one2_ok (ri_dd246 pc hp)
              · rcases Nat.lt_or_ge a 248 with q248 | q248
                · obtain rfl : a = 247 := by omega
                  exact ri_one2_ok (ri_dd247 pc hp)
                · obtain rfl : a = 248 := by omega
                  exact ri_one2_ok (ri_dd248 pc hp)
            · rcases Nat.lt_or_ge a 251 with q251 | q251
              · rcases Nat.lt_or_ge a 250 with q250 | q250
                · obtain rfl : a = 249 := by omega
                  exact ri_one2_ok (ri_dd249 pc hp)
                · obtain rfl : a = 250 := by omega
                  exact ri_one2_ok (ri_dd250 pc hp)
              · rcases Nat.lt_or_ge a 252 with q252 | q252
                · obtain rfl : a = 251 := by omega
                  exact ri_one2_ok (ri_dd251 pc hp)
                · rcases Nat.lt_or_ge a 253 with q253 | q253
                  · obtain rfl : a = 252 := by omega
                    exact ri_one2_ok (ri_dd252 pc hp)
                  · obtain rfl : a = 253 := by omega
                    exact ri_one2_ok (ri_dd253 pc hp)
          · rcases Nat.lt_or_ge a 258 with q258 | q258
            · rcases Nat.lt_or_ge a 256 with q256 | q256
              · rcases Nat.lt_or_ge a 255 with q255 | q255
                · obtain rfl : a = 254 := by omega
                  exact ri_one2_ok (ri_dd254 pc hp)
                · obtain rfl : a = 255 := by omega
                  exact ri_one2_ok (ri_dd255 pc hp)
              · rcases Nat.lt_or_ge a 257 with q257 | q257
                · obtain rfl : a = 256 := by omega
                  exact ri_one2_ok (ri_dd256 pc hp)
                · obtain rfl : a = 257 := by omega
                  exact ri_one2_ok (ri_dd257 pc hp)
            · rcases Nat.lt_or_ge a 260 with q260 | q260
              · rcases Nat.lt_or_ge a 259 with q259 | q259
                · obtain rfl : a = 258 := by omega
                  exact ri_one2_ok (ri_dd258 pc hp)
                · obtain rfl : a = 259 := by omega
                  exact ri_one2_ok (ri_dd259 pc hp)
              · rcases Nat.lt_or_ge a 261 with q261 | q261
                · obtain rfl : a = 260 := by omega
                  exact ri_one2_ok (ri_dd260 pc hp)
                · rcases Nat.lt_or_ge a 262 with q262 | q262
                  · obtain rfl : a = 261 := by omega
                    exact ri_one2_ok (ri_dd261 pc hp)
                  · obtain rfl : a = 262 := by omega
                    exact ri_one2_ok (ri_dd262 pc hp)
        · rcases Nat.lt_or_ge a 272 with q272 | q272
          · rcases Nat.lt_or_ge a 267 with q267 | q267
            · rcases Nat.lt_or_ge a 265 with q265 | q265
              · rcases Nat.lt_or_ge a 264 with q264 | q264
                · obtain rfl : a = 263 := by omega
                  exact ri_one2_ok (ri_dd263 pc hp)
                · obtain rfl : a = 264 := by omega
                  exact ri_one2_ok (ri_dd264 pc hp)
              · rcases Nat.lt_or_ge a 266 with q266 | q266
                · obtain rfl : a = 265 := by omega
                  exact ri_one2_ok (ri_dd265 pc hp)
                · obtain rfl : a = 266 := by omega
                  exact ri_one2_ok (ri_dd266 pc hp)
            · rcases Nat.lt_or_ge a 269 with q269 | q269
              · rcases Nat.lt_or_ge a 268 with q268 | q268
                · obtain rfl : a = 267 := by omega
                  exact ri_one2_ok (ri_dd267 pc hp)
                · obtain rfl : a = 268 := by omega
                  exact ri_one2_ok (ri_dd268 pc hp)
              · rcases Nat.lt_or_ge a 270 with q270 | q270
                · obtain rfl : a = 269 := by omega
                  exact ri_one2_ok (ri_dd269 pc hp)
                · rcases Nat.lt_or_ge a 271 with q271 | q271
                  · obtain rfl : a = 270 := by omega
                    exact ri_one2_ok (ri_dd270 pc hp)
                  · obtain rfl : a = 271 := by omega
                    exact ri_one2_ok (ri_dd271 pc hp)
          · rcases Nat.lt_or_ge a 276 with q276 | q276
            · rcases Nat.lt_or_ge a 274 with q274 | q274
              · rcases Nat.lt_or_ge a 273 with q273 | q273
                · obtain rfl : a = 272 := by omega
                  exact ri_one2_ok (ri_dd272 pc hp)
                · obtain rfl : a = 273 := by omega
                  exact ri_one2_ok (ri_dd273 pc hp)
              · rcases Nat.lt_or_ge a 275 with q275 | q275
                · obtain rfl : a = 274 := by omega
                  exact ri_one2_ok (ri_dd274 pc hp)
                · obtain rfl : a = 275 := by omega
                  exact ri_one2_ok (ri_dd275 pc hp)
            · rcases Nat.lt_or_ge a 278 with q278 | q278
              · rcases Nat.lt_or_ge a 277 with q277 | q277
                · obtain rfl : a = 276 := by omega
                  exact ri_one2_ok (ri_dd276 pc hp)
                · obtain rfl : a = 277 := by omega
                  exact ri_one2_ok (ri_dd277 pc hp)
              · rcases Nat.lt_or_ge a 279 with q279 | q279
                · obtain rfl : a = 278 := by omega
                  exact ri_one2_ok (ri_dd278 pc hp)
                · rcases Nat.lt_or_ge a 280 with q280 | q280
                  · obtain rfl : a = 279 := by omega
                    exact ri_one2_ok (ri_dd279 pc hp)
                  · obtain rfl : a = 280 := by omega
                    exact ri_one2_ok (ri_dd280 pc hp)
theorem ri_hck : ∀ a pc j, ri_tc a pc = some j → ri_ck (ri_y a).cls (ri_y a).name (ri_b a) pc j = true := by
  intro a pc j h
  obtain ⟨h1, h2, h3⟩ := ri_tc_lt h
  have h4 := ri_ck_all a pc h1 h2
  unfold ri_one at h4
  rw [h3] at h4
  exact h4
def ri_npf : ri_J → Bool
  | (.putfield _, _, _, _, _) => false
  | _ => true
def ri_onel (pc : Nat) : Bool := match kL_law pc with
  | some j => ri_ck2 12 "law" code pc j && ri_npf j
  | none => true
theorem ri_lawc_0 : (List.range' 0 298).all ri_onel = true := by decide +kernel
theorem ri_lawc_298 : (List.range' 298 120).all ri_onel = true := by decide +kernel
theorem ri_lawc_418 : (List.range' 418 122).all ri_onel = true := by decide +kernel
theorem ri_lawc_540 : (List.range' 540 124).all ri_onel = true := by decide +kernel
theorem ri_lawc_664 : (List.range' 664 116).all ri_onel = true := by decide +kernel
theorem ri_lawc_780 : (List.range' 780 130).all ri_onel = true := by decide +kernel
theorem ri_lawc_910 : (List.range' 910 116).all ri_onel = true := by decide +kernel
theorem ri_lawc_1026 : (List.range' 1026 116).all ri_onel = true := by decide +kernel
theorem ri_lawc_1142 : (List.range' 1142 118).all ri_onel = true := by decide +kernel
theorem ri_lawc_1260 : (List.range' 1260 112).all ri_onel = true := by decide +kernel
theorem ri_lawc_1372 : (List.range' 1372 128).all ri_onel = true := by decide +kernel
theorem ri_lawc_1500 : (List.range' 1500 127).all ri_onel = true := by decide +kernel
theorem ri_lawd : ∀ pc, pc < 1627 → ri_onel pc = true := by
  intro pc h
  rcases Nat.lt_or_ge pc 298 with q | q
  · exact List.all_eq_true.mp ri_lawc_0 pc (List.mem_range'_1.mpr ⟨by omega, by omega⟩)
  rcases Nat.lt_or_ge pc 418 with q | q
  · exact List.all_eq_true.mp ri_lawc_298 pc (List.mem_range'_1.mpr ⟨by omega, by omega⟩)
  rcases Nat.lt_or_ge pc 540 with q | q
  · exact List.all_eq_true.mp ri_lawc_418 pc (List.mem_range'_1.mpr ⟨by omega, by omega⟩)
  rcases Nat.lt_or_ge pc 664 with q | q
  · exact List.all_eq_true.mp ri_lawc_540 pc (List.mem_range'_1.mpr ⟨by omega, by omega⟩)
  rcases Nat.lt_or_ge pc 780 with q | q
  · exact List.all_eq_true.mp ri_lawc_664 pc (List.mem_range'_1.mpr ⟨by omega, by omega⟩)
  rcases Nat.lt_or_ge pc 910 with q | q
  · exact List.all_eq_true.mp ri_lawc_780 pc (List.mem_range'_1.mpr ⟨by omega, by omega⟩)
  rcases Nat.lt_or_ge pc 1026 with q | q
  · exact List.all_eq_true.mp ri_lawc_910 pc (List.mem_range'_1.mpr ⟨by omega, by omega⟩)
  rcases Nat.lt_or_ge pc 1142 with q | q
  · exact List.all_eq_true.mp ri_lawc_1026 pc (List.mem_range'_1.mpr ⟨by omega, by omega⟩)
  rcases Nat.lt_or_ge pc 1260 with q | q
  · exact List.all_eq_true.mp ri_lawc_1142 pc (List.mem_range'_1.mpr ⟨by omega, by omega⟩)
  rcases Nat.lt_or_ge pc 1372 with q | q
  · exact List.all_eq_true.mp ri_lawc_1260 pc (List.mem_range'_1.mpr ⟨by omega, by omega⟩)
  rcases Nat.lt_or_ge pc 1500 with q | q
  · exact List.all_eq_true.mp ri_lawc_1372 pc (List.mem_range'_1.mpr ⟨by omega, by omega⟩)
  exact List.all_eq_true.mp ri_lawc_1500 pc (List.mem_range'_1.mpr ⟨by omega, by omega⟩)
theorem ri_ck_nm {own n1 n2 : String} {bs : ByteArray} {pc : Nat} {j : ri_J} (h : ri_ck own n1 bs pc j = true) (hp : ri_npf j = true) : ri_ck own n2 bs pc j = true := by
  obtain ⟨ins, len, a, b, c0⟩ := j
  cases ins <;> first | exact h | cases hp
theorem ri_lawck (nm : String) : ∀ pc j, ri_law pc = some j → ri_ck RL nm code pc j = true := by
  intro pc j h
  unfold ri_law at h
  cases h1 : Nat.blt pc 1627 with
  | false => rw [h1] at h; cases h
  | true =>
    rw [h1] at h
    have h2 := ri_lawd pc (Nat.le_of_ble_eq_true h1)
    unfold ri_onel at h2
    have h3 : kL_law pc = some j := h
    rw [h3] at h2
    dsimp only at h2
    rw [Bool.and_eq_true] at h2
    exact ri_ck_nm (ri_ck2_ok h2.1) h2.2
theorem ri_zip : ∀ {ws : List Cond} {ps : List Nat}, (ws.zip ps).all (fun q => ri_w q.2 q.1 && ri_us q.1) = true → ws.length ≤ ps.length → ∀ w ∈ ws, w ∈ ri_tb
  | [], _, _, _ => fun w h => by cases h
  | _ :: _, [], _, h => by simp at h
  | a :: ws, b :: ps, h, hl => by
    simp only [List.zip_cons_cons, List.all_cons, Bool.and_eq_true] at h
    intro w hw
    rcases List.mem_cons.mp hw with rfl | hw
    · exact ri_w_mem h.1.1 h.1.2
    · exact ri_zip (by simpa using h.2) (by simpa using hl) w hw
theorem ri_in0 : ((u_ws RX0 TX0 3).zip [263, 265, 267]).all (fun q => ri_w q.2 q.1 && ri_us q.1) = true ∧ (u_ws RX0 TX0 3).length = 3 := by decide +kernel
theorem ri_cw0 : ri_w 255 (.instantiable RX0 3) = true ∧ ri_w 169 (.initialized RX0) = true := by decide +kernel
theorem ri_in1 : ((u_ws RX1 TX1 1).zip [241]).all (fun q => ri_w q.2 q.1 && ri_us q.1) = true ∧ (u_ws RX1 TX1 1).length = 1 := by decide +kernel
theorem ri_cw1 : ri_w 235 (.instantiable RX1 1) = true ∧ ri_w 167 (.initialized RX1) = true := by decide +kernel
theorem ri_in2 : ((u_ws RX2 TX2 12).zip [303, 305, 307, 309, 311, 313, 315, 317, 319, 321, 323, 325]).all (fun q => ri_w q.2 q.1 && ri_us q.1) = true ∧ (u_ws RX2 TX2 12).length = 12 := by decide +kernel
theorem ri_cw2 : ri_w 273 (.instantiable RX2 12) = true ∧ ri_w 170 (.initialized RX2) = true := by decide +kernel
theorem ri_in3 : ((u_ws RX3 TX3 13).zip [409, 411, 413, 415, 417, 419, 421, 423, 425, 427, 429, 431, 433]).all (fun q => ri_w q.2 q.1 && ri_us q.1) = true ∧ (u_ws RX3 TX3 13).length = 13 := by decide +kernel
theorem ri_cw3 : ri_w 388 (.instantiable RX3 13) = true ∧ ri_w 174 (.initialized RX3) = true := by decide +kernel
theorem ri_in4 : ((u_ws RX4 TX4 1).zip [251]).all (fun q => ri_w q.2 q.1 && ri_us q.1) = true ∧ (u_ws RX4 TX4 1).length = 1 := by decide +kernel
theorem ri_cw4 : ri_w 245 (.instantiable RX4 1) = true ∧ ri_w 168 (.initialized RX4) = true := by decide +kernel
theorem ri_in5 : ((u_ws RX5 TX5 4).zip [343, 345, 347, 349]).all (fun q => ri_w q.2 q.1 && ri_us q.1) = true ∧ (u_ws RX5 TX5 4).length = 4 := by decide +kernel
theorem ri_cw5 : ri_w 331 (.instantiable RX5 4) = true ∧ ri_w 171 (.initialized RX5) = true := by decide +kernel
theorem ri_in6 : ((u_ws RX6 TX6 5).zip [377, 379, 381, 383, 385]).all (fun q => ri_w q.2 q.1 && ri_us q.1) = true ∧ (u_ws RX6 TX6 5).length = 5 := by decide +kernel
theorem ri_cw6 : ri_w 367 (.instantiable RX6 5) = true ∧ ri_w 173 (.initialized RX6) = true := by decide +kernel
theorem ri_in7 : ((u_ws RX7 TX7 2).zip [361, 363]).all (fun q => ri_w q.2 q.1 && ri_us q.1) = true ∧ (u_ws RX7 TX7 2).length = 2 := by decide +kernel
theorem ri_cw7 : ri_w 353 (.instantiable RX7 2) = true ∧ ri_w 172 (.initialized RX7) = true := by decide +kernel
theorem ri_in8 : ((u_ws RX8 TX8 2).zip [201, 203]).all (fun q => ri_w q.2 q.1 && ri_us q.1) = true ∧ (u_ws RX8 TX8 2).length = 2 := by decide +kernel
theorem ri_cw8 : ri_w 192 (.instantiable RX8 2) = true ∧ ri_w 165 (.initialized RX8) = true := by decide +kernel
theorem ri_in9 : ((u_ws RX9 TX9 6).zip [220, 222, 224, 226, 228, 230]).all (fun q => ri_w q.2 q.1 && ri_us q.1) = true ∧ (u_ws RX9 TX9 6).length = 6 := by decide +kernel
theorem ri_cw9 : ri_w 208 (.instantiable RX9 6) = true ∧ ri_w 166 (.initialized RX9) = true := by decide +kernel
theorem ri_in10 : ((u_ws RX10 TX10 18).zip [455, 457, 459, 461, 463, 465, 467, 469, 471, 473, 475, 477, 479, 481, 483, 485, 487, 489]).all (fun q => ri_w q.2 q.1 && ri_us q.1) = true ∧ (u_ws RX10 TX10 18).length = 18 := by decide +kernel
theorem ri_cw10 : ri_w 184 (.instantiable RX10 18) = true ∧ ri_w 164 (.initialized RX10) = true := by decide +kernel
theorem ri_in11 : ((u_ws RX11 TX11 39).zip [1301, 1303, 1305, 1307, 1309, 1311, 1313, 1315, 1317, 1319, 1321, 1323, 1325, 1327, 1329, 1331, 1333, 1335, 1337, 1339, 1341, 1343, 1345, 1347, 1349, 1351, 1353, 1355, 1357, 1359, 1361, 1363, 1365, 1367, 1369, 1371, 1373, 1375, 1377]).all (fun q => ri_w q.2 q.1 && ri_us q.1) = true ∧ (u_ws RX11 TX11 39).length = 39 := by decide +kernel
theorem ri_cw11 : ri_w 1257 (.instantiable RX11 39) = true ∧ ri_w 175 (.initialized RX11) = true := by decide +kernel
theorem ri_obj : ri_w 189 (.instanceMethod Lib.objectInit) = true ∧ ri_w 190 (.code Lib.objectInit ⟨#[0xb1]⟩ 1 none) = true := by decide +kernel
theorem ri_min : ri_w 858 (.static Lib.Math.min.name) = true ∧ ri_w 181 (.initialized "java/lang/Math") = true ∧ ri_w 859 (.code Lib.Math.min.name Lib.Math.min.code 2 (some .int)) = true := by decide +kernel
theorem ri_max : ri_w 1133 (.static Lib.Math.max.name) = true ∧ ri_w 181 (.initialized "java/lang/Math") = true ∧ ri_w 1134 (.code Lib.Math.max.name Lib.Math.max.code 2 (some .int)) = true := by decide +kernel
theorem ri_abs : ri_w 802 (.static Lib.Math.abs.name) = true ∧ ri_w 181 (.initialized "java/lang/Math") = true ∧ ri_w 803 (.code Lib.Math.abs.name Lib.Math.abs.code 1 (some .int)) = true := by decide +kernel
theorem ri_cpy : ri_w 691 (.native arraycopyName) = true ∧ ri_w 690 (.static arraycopyName) = true ∧ ri_w 180 (.initialized "java/lang/System") = true := by decide +kernel
theorem ri_ac_byte : ri_w 206 (.arrayClass .byte) = true := by decide +kernel
theorem ri_ac_boolean : ri_w 328 (.arrayClass .boolean) = true := by decide +kernel
theorem ri_ac_int : ri_w 233 (.arrayClass .int) = true := by decide +kernel
theorem ri_ac_long : ri_w 436 (.arrayClass .long) = true := by decide +kernel
theorem ri_cls_ok : ∀ (ci : Nat) (q : vw_C), vwCl[ci]? = some q → (∀ w ∈ u_ws q.1 q.2.1 q.2.2, w ∈ ri_tb) ∧ Cond.instantiable q.1 q.2.2 ∈ ri_tb ∧ Cond.initialized q.1 ∈ ri_tb ∧ (∀ k, k < q.2.2 → parseFieldDescriptor (q.2.1 k).2.2.1 = some (ri_ft ci k)) ∧ (∀ a, a < q.2.2 → ∀ b, b < q.2.2 → a ≠ b → (q.2.1 a).2.1 ≠ (q.2.1 b).2.1) ∧ ri_fn ci = q.2.2 ∧ ∀ d : Nat → Nat, (ri_new ci).map (ri_cv d) = ri_new ci := by
  intro ci q h
  match ci, h with
  | 0, h =>
    cases h
    exact ⟨ri_zip ri_in0.1 (by rw [ri_in0.2]; exact Nat.le_refl _), ri_w_mem ri_cw0.1, ri_w_mem ri_cw0.2, tyX0_ok, nmX0, rfl, fun d => rfl⟩
  | 1, h =>
    cases h
    exact ⟨ri_zip ri_in1.1 (by rw [ri_in1.2]; exact Nat.le_refl _), ri_w_mem ri_cw1.1, ri_w_mem ri_cw1.2, tyX1_ok, nmX1, rfl, fun d => rfl⟩
  | 2, h =>
    cases h
    exact ⟨ri_zip ri_in2.1 (by rw [ri_in2.2]; exact Nat.le_refl _), ri_w_mem ri_cw2.1, ri_w_mem ri_cw2.2, tyX2_ok, nmX2, rfl, fun d => rfl⟩
  | 3, h =>
    cases h
    exact ⟨ri_zip ri_in3.1 (by rw [ri_in3.2]; exact Nat.le_refl _), ri_w_mem ri_cw3.1, ri_w_mem ri_cw3.2, tyX3_ok, nmX3, rfl, fun d => rfl⟩
  | 4, h =>
    cases h
    exact ⟨ri_zip ri_in4.1 (by rw [ri_in4.2]; exact Nat.le_refl _), ri_w_mem ri_cw4.1, ri_w_mem ri_cw4.2, tyX4_ok, nmX4, rfl, fun d => rfl⟩
  | 5, h =>
    cases h
    exact ⟨ri_zip ri_in5.1 (by rw [ri_in5.2]; exact Nat.le_refl _), ri_w_mem ri_cw5.1, ri_w_mem ri_cw5.2, tyX5_ok, nmX5, rfl, fun d => rfl⟩
  | 6, h =>
    cases h
    exact ⟨ri_zip ri_in6.1 (by rw [ri_in6.2]; exact Nat.le_refl _), ri_w_mem ri_cw6.1, ri_w_mem ri_cw6.2, tyX6_ok, nmX6, rfl, fun d => rfl⟩
  | 7, h =>
    cases h
    exact ⟨ri_zip ri_in7.1 (by rw [ri_in7.2]; exact Nat.le_refl _), ri_w_mem ri_cw7.1, ri_w_mem ri_cw7.2, tyX7_ok, nmX7, rfl, fun d => rfl⟩
  | 8, h =>
    cases h
    exact ⟨ri_zip ri_in8.1 (by rw [ri_in8.2]; exact Nat.le_refl _), ri_w_mem ri_cw8.1, ri_w_mem ri_cw8.2, tyX8_ok, nmX8, rfl, fun d => rfl⟩
  | 9, h =>
    cases h
    exact ⟨ri_zip ri_in9.1 (by rw [ri_in9.2]; exact Nat.le_refl _), ri_w_mem ri_cw9.1, ri_w_mem ri_cw9.2, tyX9_ok, nmX9, rfl, fun d => rfl⟩
  | 10, h =>
    cases h
    exact ⟨ri_zip ri_in10.1 (by rw [ri_in10.2]; exact Nat.le_refl _), ri_w_mem ri_cw10.1, ri_w_mem ri_cw10.2, tyX10_ok, nmX10, rfl, fun d => rfl⟩
  | 11, h =>
    cases h
    exact ⟨ri_zip ri_in11.1 (by rw [ri_in11.2]; exact Nat.le_refl _), ri_w_mem ri_cw11.1, ri_w_mem ri_cw11.2, tyX11_ok, nmX11, rfl, fun d => rfl⟩
  | k + 12, h => cases h
theorem ri_tab : ri_Tab := ⟨ri_mk_all, trivial, trivial, ri_cls_ok, ⟨ri_w_mem ri_obj.1, ri_w_mem ri_obj.2⟩, ri_w_mem ri_min.2.1, ⟨ri_w_mem ri_min.1, ri_w_mem ri_min.2.2⟩, ⟨ri_w_mem ri_max.1, ri_w_mem ri_max.2.2⟩, ⟨ri_w_mem ri_abs.1, ri_w_mem ri_abs.2.2⟩, ⟨ri_w_mem ri_cpy.1, ri_w_mem ri_cpy.2.1, ri_w_mem ri_cpy.2.2⟩, fun w hw => by
  simp only [ri_ac, List.mem_cons, List.not_mem_nil, or_false] at hw
  rcases hw with rfl | rfl | rfl | rfl
  · exact ri_w_mem ri_ac_byte
  · exact ri_w_mem ri_ac_boolean
  · exact ri_w_mem ri_ac_int
  · exact ri_w_mem ri_ac_long⟩
