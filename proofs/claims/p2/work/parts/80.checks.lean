/-! Each row of the tables is as the machine has it. -/
def ri_lt0 : Nat → Option (Nat × Nat × Nat × Nat) := fun p => bif Nat.blt p 25 then (bif Nat.blt p 18 then (bif Nat.blt p 15 then (bif Nat.beq p 9 then some (0, 0, 0, 520) else none) else (bif Nat.beq p 15 then some (0, 0, 1, 522) else none)) else (bif Nat.blt p 21 then (bif Nat.beq p 18 then some (0, 0, 2, 524) else none) else (bif Nat.beq p 21 then some (1, 142, 2, 10577) else none))) else (bif Nat.blt p 33 then (bif Nat.blt p 29 then (bif Nat.beq p 25 then some (1, 7, 1, 10656) else none) else (bif Nat.beq p 29 then some (1, 145, 2, 10673) else none)) else (bif Nat.blt p 43 then (bif Nat.beq p 33 then some (1, 144, 3, 10721) else none) else (bif Nat.blt p 47 then (bif Nat.beq p 43 then some (1, 143, 2, 10337) else none) else (bif Nat.beq p 47 then some (1, 11, 1, 16640) else none))))
def ri_lt1 : Nat → Option (Nat × Nat × Nat × Nat) := fun p => bif Nat.blt p 38 then (bif Nat.blt p 24 then (bif Nat.blt p 14 then (bif Nat.beq p 9 then some (1, 1, 0, 9921) else none) else (bif Nat.blt p 20 then (bif Nat.beq p 14 then some (0, 1, 0, 480) else none) else (bif Nat.beq p 20 then some (1, 16, 2, 9984) else none))) else (bif Nat.blt p 30 then (bif Nat.beq p 24 then some (1, 99, 1, 10769) else none) else (bif Nat.blt p 34 then (bif Nat.beq p 30 then some (1, 96, 0, 10049) else none) else (bif Nat.beq p 34 then some (1, 5, 0, 10833) else none)))) else (bif Nat.blt p 49 then (bif Nat.blt p 42 then (bif Nat.beq p 38 then some (1, 100, 1, 10209) else none) else (bif Nat.blt p 46 then (bif Nat.beq p 42 then some (1, 17, 1, 10160) else none) else (bif Nat.beq p 46 then some (1, 7, 1, 10273) else none))) else (bif Nat.blt p 56 then (bif Nat.blt p 52 then (bif Nat.beq p 49 then some (1, 98, 0, 10353) else none) else (bif Nat.beq p 52 then some (1, 101, 2, 10417) else none)) else (bif Nat.blt p 59 then (bif Nat.beq p 56 then some (1, 2, 1, 10513) else none) else (bif Nat.beq p 59 then some (1, 3, 3, 10593) else none))))
def ri_lt2 : Nat → Option (Nat × Nat × Nat × Nat) := fun p => bif Nat.blt p 45 then (bif Nat.blt p 28 then (bif Nat.blt p 18 then (bif Nat.blt p 12 then (bif Nat.beq p 11 then some (1, 0, 0, 4465) else none) else (bif Nat.beq p 12 then some (0, 2, 0, 560) else none)) else (bif Nat.blt p 22 then (bif Nat.beq p 18 then some (0, 2, 1, 564) else none) else (bif Nat.blt p 25 then (bif Nat.beq p 22 then some (0, 2, 2, 568) else none) else (bif Nat.beq p 25 then some (0, 2, 3, 572) else none)))) else (bif Nat.blt p 35 then (bif Nat.blt p 31 then (bif Nat.beq p 28 then some (0, 2, 4, 576) else none) else (bif Nat.beq p 31 then some (0, 2, 5, 580) else none)) else (bif Nat.blt p 39 then (bif Nat.beq p 35 then some (0, 2, 7, 586) else none) else (bif Nat.blt p 42 then (bif Nat.beq p 39 then some (0, 2, 8, 590) else none) else (bif Nat.beq p 42 then some (0, 2, 9, 594) else none))))) else (bif Nat.blt p 74 then (bif Nat.blt p 52 then (bif Nat.blt p 49 then (bif Nat.beq p 45 then some (1, 4, 1, 10961) else none) else (bif Nat.beq p 49 then some (0, 2, 6, 582) else none)) else (bif Nat.blt p 61 then (bif Nat.beq p 52 then some (0, 2, 10, 598) else none) else (bif Nat.blt p 64 then (bif Nat.beq p 61 then some (0, 2, 11, 602) else none) else (bif Nat.beq p 64 then some (1, 143, 2, 13697) else none)))) else (bif Nat.blt p 82 then (bif Nat.blt p 78 then (bif Nat.beq p 74 then some (1, 142, 2, 13825) else none) else (bif Nat.beq p 78 then some (1, 23, 1, 14928) else none)) else (bif Nat.blt p 85 then (bif Nat.beq p 82 then some (1, 24, 1, 14944) else none) else (bif Nat.blt p 89 then (bif Nat.beq p 85 then some (1, 26, 0, 19856) else none) else (bif Nat.beq p 89 then some (1, 27, 2, 19872) else none)))))
def ri_lt3 : Nat → Option (Nat × Nat × Nat × Nat) := fun p => bif Nat.blt p 67 then (bif Nat.blt p 37 then (bif Nat.blt p 24 then (bif Nat.blt p 18 then (bif Nat.blt p 15 then (bif Nat.beq p 9 then some (0, 3, 0, 786) else none) else (bif Nat.beq p 15 then some (0, 3, 2, 792) else none)) else (bif Nat.blt p 21 then (bif Nat.beq p 18 then some (0, 3, 3, 794) else none) else (bif Nat.beq p 21 then some (0, 3, 4, 796) else none))) else (bif Nat.blt p 31 then (bif Nat.blt p 27 then (bif Nat.beq p 24 then some (0, 3, 5, 798) else none) else (bif Nat.beq p 27 then some (0, 3, 7, 804) else none)) else (bif Nat.blt p 34 then (bif Nat.beq p 31 then some (0, 3, 8, 806) else none) else (bif Nat.beq p 34 then some (0, 3, 10, 810) else none)))) else (bif Nat.blt p 51 then (bif Nat.blt p 44 then (bif Nat.blt p 40 then (bif Nat.beq p 37 then some (0, 3, 11, 812) else none) else (bif Nat.beq p 40 then some (0, 3, 1, 788) else none)) else (bif Nat.blt p 47 then (bif Nat.beq p 44 then some (0, 3, 6, 800) else none) else (bif Nat.beq p 47 then some (0, 3, 12, 814) else none))) else (bif Nat.blt p 59 then (bif Nat.blt p 55 then (bif Nat.beq p 51 then some (1, 142, 2, 12145) else none) else (bif Nat.beq p 55 then some (1, 145, 2, 12993) else none)) else (bif Nat.blt p 63 then (bif Nat.beq p 59 then some (1, 35, 3, 12944) else none) else (bif Nat.beq p 63 then some (1, 143, 2, 13137) else none))))) else (bif Nat.blt p 104 then (bif Nat.blt p 84 then (bif Nat.blt p 74 then (bif Nat.blt p 71 then (bif Nat.beq p 67 then some (1, 39, 2, 12656) else none) else (bif Nat.beq p 71 then some (1, 40, 2, 13392) else none)) else (bif Nat.blt p 80 then (bif Nat.beq p 74 then some (1, 7, 1, 12721) else none) else (bif Nat.beq p 80 then some (1, 41, 4, 12736) else none))) else (bif Nat.blt p 92 then (bif Nat.blt p 88 then (bif Nat.beq p 84 then some (1, 44, 1, 13008) else none) else (bif Nat.beq p 88 then some (1, 36, 3, 13456) else none)) else (bif Nat.blt p 96 then (bif Nat.beq p 92 then some (1, 144, 3, 13521) else none) else (bif Nat.beq p 96 then some (1, 9, 2, 12801) else none)))) else (bif Nat.blt p 118 then (bif Nat.blt p 111 then (bif Nat.blt p 107 then (bif Nat.beq p 104 then some (1, 10, 2, 12865) else none) else (bif Nat.beq p 107 then some (1, 42, 2, 12880) else none)) else (bif Nat.blt p 115 then (bif Nat.beq p 111 then some (1, 45, 2, 13072) else none) else (bif Nat.beq p 115 then some (1, 43, 1, 13216) else none))) else (bif Nat.blt p 125 then (bif Nat.blt p 121 then (bif Nat.beq p 118 then some (0, 3, 9, 808) else none) else (bif Nat.beq p 121 then some (1, 46, 1, 13152) else none)) else (bif Nat.blt p 129 then (bif Nat.beq p 125 then some (1, 47, 0, 13280) else none) else (bif Nat.beq p 129 then some (1, 48, 3, 13344) else none)))))
def ri_lt4 : Nat → Option (Nat × Nat × Nat × Nat) := fun p => bif Nat.blt p 43 then (bif Nat.blt p 30 then (bif Nat.blt p 20 then (bif Nat.blt p 15 then (bif Nat.beq p 9 then some (0, 4, 0, 500) else none) else (bif Nat.beq p 15 then some (1, 32, 0, 11489) else none)) else (bif Nat.blt p 26 then (bif Nat.beq p 20 then some (1, 96, 0, 11553) else none) else (bif Nat.beq p 26 then some (1, 51, 1, 11568) else none))) else (bif Nat.blt p 37 then (bif Nat.blt p 34 then (bif Nat.beq p 30 then some (1, 100, 1, 11617) else none) else (bif Nat.beq p 34 then some (0, 3, 6, 803) else none)) else (bif Nat.blt p 40 then (bif Nat.beq p 37 then some (1, 98, 0, 11633) else none) else (bif Nat.beq p 40 then some (0, 3, 1, 791) else none)))) else (bif Nat.blt p 59 then (bif Nat.blt p 51 then (bif Nat.blt p 47 then (bif Nat.beq p 43 then some (1, 54, 2, 11648) else none) else (bif Nat.beq p 47 then some (1, 99, 1, 11937) else none)) else (bif Nat.blt p 55 then (bif Nat.beq p 51 then some (1, 52, 3, 11952) else none) else (bif Nat.beq p 55 then some (1, 34, 3, 12081) else none))) else (bif Nat.blt p 65 then (bif Nat.blt p 62 then (bif Nat.beq p 59 then some (1, 53, 3, 12016) else none) else (bif Nat.beq p 62 then some (1, 33, 1, 11873) else none)) else (bif Nat.blt p 68 then (bif Nat.beq p 65 then some (1, 55, 2, 11712) else none) else (bif Nat.blt p 72 then (bif Nat.beq p 68 then some (1, 97, 0, 11777) else none) else (bif Nat.beq p 72 then some (1, 142, 2, 11857) else none)))))
def ri_lt5 : Nat → Option (Nat × Nat × Nat × Nat) := fun p => bif Nat.blt p 43 then (bif Nat.blt p 25 then (bif Nat.blt p 18 then (bif Nat.blt p 15 then (bif Nat.beq p 9 then some (0, 5, 0, 672) else none) else (bif Nat.beq p 15 then some (0, 5, 1, 678) else none)) else (bif Nat.blt p 21 then (bif Nat.beq p 18 then some (0, 5, 2, 680) else none) else (bif Nat.beq p 21 then some (0, 5, 3, 682) else none))) else (bif Nat.blt p 35 then (bif Nat.blt p 31 then (bif Nat.beq p 25 then some (1, 7, 1, 11201) else none) else (bif Nat.beq p 31 then some (1, 58, 3, 11216) else none)) else (bif Nat.blt p 39 then (bif Nat.beq p 35 then some (1, 142, 2, 11281) else none) else (bif Nat.beq p 39 then some (1, 143, 2, 17665) else none)))) else (bif Nat.blt p 62 then (bif Nat.blt p 53 then (bif Nat.blt p 49 then (bif Nat.beq p 43 then some (1, 37, 3, 17745) else none) else (bif Nat.beq p 49 then some (1, 59, 2, 17680) else none)) else (bif Nat.blt p 59 then (bif Nat.beq p 53 then some (1, 78, 2, 17761) else none) else (bif Nat.beq p 59 then some (1, 60, 2, 17840) else none))) else (bif Nat.blt p 74 then (bif Nat.blt p 66 then (bif Nat.beq p 62 then some (1, 61, 3, 18080) else none) else (bif Nat.beq p 66 then some (1, 62, 3, 18096) else none)) else (bif Nat.blt p 77 then (bif Nat.beq p 74 then some (1, 13, 2, 18897) else none) else (bif Nat.beq p 77 then some (1, 64, 4, 18832) else none))))
def ri_lt6 : Nat → Option (Nat × Nat × Nat × Nat) := fun p => bif Nat.blt p 38 then (bif Nat.blt p 21 then (bif Nat.blt p 15 then (bif Nat.beq p 9 then some (0, 6, 0, 744) else none) else (bif Nat.blt p 18 then (bif Nat.beq p 15 then some (0, 6, 1, 746) else none) else (bif Nat.beq p 18 then some (0, 6, 2, 748) else none))) else (bif Nat.blt p 31 then (bif Nat.beq p 21 then some (1, 158, 1, 18385) else none) else (bif Nat.blt p 35 then (bif Nat.beq p 31 then some (0, 6, 3, 750) else none) else (bif Nat.beq p 35 then some (0, 6, 4, 752) else none)))) else (bif Nat.blt p 52 then (bif Nat.blt p 43 then (bif Nat.beq p 38 then some (0, 5, 0, 675) else none) else (bif Nat.blt p 47 then (bif Nat.beq p 43 then some (1, 143, 2, 18481) else none) else (bif Nat.beq p 47 then some (1, 13, 2, 18497) else none))) else (bif Nat.blt p 59 then (bif Nat.blt p 56 then (bif Nat.beq p 52 then some (1, 59, 2, 18513) else none) else (bif Nat.beq p 56 then some (1, 60, 2, 18529) else none)) else (bif Nat.blt p 63 then (bif Nat.beq p 59 then some (1, 72, 1, 18608) else none) else (bif Nat.beq p 63 then some (1, 280, 1, 18672) else none))))
def ri_lt7 : Nat → Option (Nat × Nat × Nat × Nat) := fun p => bif Nat.blt p 31 then (bif Nat.blt p 19 then (bif Nat.blt p 15 then (bif Nat.beq p 9 then some (0, 7, 0, 716) else none) else (bif Nat.beq p 15 then some (1, 158, 1, 15313) else none)) else (bif Nat.blt p 23 then (bif Nat.beq p 19 then some (0, 7, 1, 718) else none) else (bif Nat.blt p 27 then (bif Nat.beq p 23 then some (1, 145, 2, 15393) else none) else (bif Nat.beq p 27 then some (1, 76, 1, 15408) else none)))) else (bif Nat.blt p 42 then (bif Nat.blt p 35 then (bif Nat.beq p 31 then some (1, 143, 2, 15473) else none) else (bif Nat.blt p 39 then (bif Nat.beq p 35 then some (1, 144, 3, 15489) else none) else (bif Nat.beq p 39 then some (1, 77, 2, 15888) else none))) else (bif Nat.blt p 48 then (bif Nat.beq p 42 then some (1, 280, 1, 19280) else none) else (bif Nat.blt p 51 then (bif Nat.beq p 48 then some (1, 79, 1, 19440) else none) else (bif Nat.beq p 51 then some (1, 80, 1, 19456) else none))))
def ri_lt8 : Nat → Option (Nat × Nat × Nat × Nat) := fun p => bif Nat.blt p 19 then (bif Nat.blt p 15 then (bif Nat.beq p 9 then some (0, 8, 0, 394) else none) else (bif Nat.beq p 15 then some (0, 8, 1, 398) else none)) else (bif Nat.blt p 23 then (bif Nat.beq p 19 then some (1, 142, 2, 8001) else none) else (bif Nat.beq p 23 then some (1, 84, 1, 8432) else none))
def ri_lt9 : Nat → Option (Nat × Nat × Nat × Nat) := fun p => bif Nat.blt p 46 then (bif Nat.blt p 28 then (bif Nat.blt p 18 then (bif Nat.blt p 15 then (bif Nat.beq p 9 then some (0, 9, 0, 426) else none) else (bif Nat.beq p 15 then some (0, 9, 1, 428) else none)) else (bif Nat.blt p 21 then (bif Nat.beq p 18 then some (0, 9, 2, 430) else none) else (bif Nat.blt p 25 then (bif Nat.beq p 21 then some (0, 9, 3, 432) else none) else (bif Nat.beq p 25 then some (0, 9, 4, 434) else none)))) else (bif Nat.blt p 34 then (bif Nat.blt p 31 then (bif Nat.beq p 28 then some (0, 9, 5, 436) else none) else (bif Nat.beq p 31 then some (0, 8, 1, 401) else none)) else (bif Nat.blt p 38 then (bif Nat.beq p 34 then some (1, 90, 2, 8240) else none) else (bif Nat.blt p 42 then (bif Nat.beq p 38 then some (1, 89, 3, 9680) else none) else (bif Nat.beq p 42 then some (1, 142, 2, 9745) else none))))) else (bif Nat.blt p 65 then (bif Nat.blt p 54 then (bif Nat.blt p 50 then (bif Nat.beq p 46 then some (1, 84, 1, 8305) else none) else (bif Nat.beq p 50 then some (1, 85, 3, 8369) else none)) else (bif Nat.blt p 58 then (bif Nat.beq p 54 then some (1, 91, 4, 8448) else none) else (bif Nat.blt p 62 then (bif Nat.beq p 58 then some (1, 94, 3, 8496) else none) else (bif Nat.beq p 62 then some (1, 92, 3, 9760) else none)))) else (bif Nat.blt p 108 then (bif Nat.blt p 71 then (bif Nat.beq p 65 then some (1, 93, 2, 9808) else none) else (bif Nat.blt p 89 then (bif Nat.beq p 71 then some (1, 86, 3, 8561) else none) else (bif Nat.beq p 89 then some (1, 95, 3, 9504) else none))) else (bif Nat.blt p 112 then (bif Nat.beq p 108 then some (1, 143, 2, 10113) else none) else (bif Nat.blt p 115 then (bif Nat.beq p 112 then some (1, 98, 0, 10496) else none) else (bif Nat.beq p 115 then some (1, 100, 1, 10480) else none)))))
def ri_lt10 : Nat → Option (Nat × Nat × Nat × Nat) := fun p => bif Nat.blt p 218 then (bif Nat.blt p 111 then (bif Nat.blt p 61 then (bif Nat.blt p 33 then (bif Nat.blt p 19 then (bif Nat.blt p 12 then (bif Nat.beq p 11 then some (1, 82, 0, 3089) else none) else (bif Nat.blt p 18 then (bif Nat.beq p 12 then some (0, 10, 0, 874) else none) else (bif Nat.beq p 18 then some (1, 87, 0, 3345) else none))) else (bif Nat.blt p 26 then (bif Nat.blt p 25 then (bif Nat.beq p 19 then some (0, 10, 1, 876) else none) else (bif Nat.beq p 25 then some (1, 14, 0, 3777) else none)) else (bif Nat.blt p 32 then (bif Nat.beq p 26 then some (0, 10, 2, 878) else none) else (bif Nat.beq p 32 then some (1, 49, 0, 3937) else none)))) else (bif Nat.blt p 46 then (bif Nat.blt p 39 then (bif Nat.beq p 33 then some (0, 10, 3, 880) else none) else (bif Nat.blt p 40 then (bif Nat.beq p 39 then some (1, 0, 0, 4097) else none) else (bif Nat.beq p 40 then some (0, 10, 4, 882) else none))) else (bif Nat.blt p 53 then (bif Nat.blt p 52 then (bif Nat.beq p 46 then some (0, 10, 5, 884) else none) else (bif Nat.beq p 52 then some (1, 18, 0, 4385) else none)) else (bif Nat.blt p 57 then (bif Nat.beq p 53 then some (0, 10, 7, 888) else none) else (bif Nat.beq p 57 then some (0, 10, 8, 890) else none))))) else (bif Nat.blt p 85 then (bif Nat.blt p 72 then (bif Nat.blt p 67 then (bif Nat.beq p 61 then some (0, 10, 9, 892) else none) else (bif Nat.blt p 68 then (bif Nat.beq p 67 then some (1, 56, 0, 5313) else none) else (bif Nat.beq p 68 then some (0, 10, 10, 894) else none))) else (bif Nat.blt p 79 then (bif Nat.blt p 76 then (bif Nat.beq p 72 then some (0, 10, 11, 896) else none) else (bif Nat.beq p 76 then some (0, 10, 12, 898) else none)) else (bif Nat.blt p 84 then (bif Nat.beq p 79 then some (0, 10, 13, 900) else none) else (bif Nat.beq p 84 then some (1, 73, 0, 5665) else none)))) else (bif Nat.blt p 98 then (bif Nat.blt p 92 then (bif Nat.blt p 89 then (bif Nat.beq p 85 then some (0, 10, 14, 902) else none) else (bif Nat.beq p 89 then some (0, 10, 15, 904) else none)) else (bif Nat.blt p 97 then (bif Nat.beq p 92 then some (0, 10, 16, 906) else none) else (bif Nat.beq p 97 then some (1, 68, 0, 5889) else none))) else (bif Nat.blt p 103 then (bif Nat.blt p 102 then (bif Nat.beq p 98 then some (0, 10, 17, 908) else none) else (bif Nat.beq p 102 then some (1, 31, 0, 6225) else none)) else (bif Nat.blt p 107 then (bif Nat.beq p 103 then some (0, 8, 1, 397) else none) else (bif Nat.beq p 107 then some (1, 83, 1, 7937) else none)))))) else (bif Nat.blt p 164 then (bif Nat.blt p 136 then (bif Nat.blt p 122 then (bif Nat.blt p 115 then (bif Nat.beq p 111 then some (1, 88, 1, 8177) else none) else (bif Nat.blt p 119 then (bif Nat.beq p 115 then some (1, 15, 2, 9857) else none) else (bif Nat.beq p 119 then some (0, 9, 5, 439) else none))) else (bif Nat.blt p 129 then (bif Nat.blt p 126 then (bif Nat.beq p 122 then some (1, 19, 1, 10897) else none) else (bif Nat.beq p 126 then some (1, 149, 0, 11072) else none)) else (bif Nat.blt p 132 then (bif Nat.beq p 129 then some (0, 2, 0, 563) else none) else (bif Nat.beq p 132 then some (1, 6, 0, 11297) else none)))) else (bif Nat.blt p 150 then (bif Nat.blt p 142 then (bif Nat.blt p 139 then (bif Nat.beq p 136 then some (0, 10, 6, 886) else none) else (bif Nat.beq p 139 then some (1, 50, 2, 11425) else none)) else (bif Nat.blt p 146 then (bif Nat.beq p 142 then some (1, 142, 2, 12224) else none) else (bif Nat.beq p 146 then some (1, 5, 0, 12241) else none))) else (bif Nat.blt p 157 then (bif Nat.blt p 154 then (bif Nat.beq p 150 then some (1, 7, 1, 12257) else none) else (bif Nat.beq p 154 then some (1, 8, 2, 12273) else none)) else (bif Nat.blt p 161 then (bif Nat.beq p 157 then some (1, 9, 2, 12337) else none) else (bif Nat.beq p 161 then some (1, 10, 2, 12401) else none))))) else (bif Nat.blt p 192 then (bif Nat.blt p 177 then (bif Nat.blt p 170 then (bif Nat.beq p 164 then some (1, 150, 1, 12528) else none) else (bif Nat.blt p 174 then (bif Nat.beq p 170 then some (1, 36, 3, 13553) else none) else (bif Nat.beq p 174 then some (1, 21, 1, 13633) else none))) else (bif Nat.blt p 185 then (bif Nat.blt p 181 then (bif Nat.beq p 177 then some (1, 22, 4, 13761) else none) else (bif Nat.beq p 181 then some (1, 23, 1, 13905) else none)) else (bif Nat.blt p 188 then (bif Nat.beq p 185 then some (0, 2, 1, 567) else none) else (bif Nat.beq p 188 then some (1, 143, 2, 13968) else none)))) else (bif Nat.blt p 204 then (bif Nat.blt p 198 then (bif Nat.blt p 195 then (bif Nat.beq p 192 then some (0, 2, 2, 571) else none) else (bif Nat.beq p 195 then some (0, 2, 3, 575) else none)) else (bif Nat.blt p 201 then (bif Nat.beq p 198 then some (0, 2, 4, 579) else none) else (bif Nat.beq p 201 then some (1, 24, 1, 13985) else none))) else (bif Nat.blt p 211 then (bif Nat.blt p 208 then (bif Nat.beq p 204 then some (1, 25, 2, 14113) else none) else (bif Nat.beq p 208 then some (0, 2, 7, 589) else none)) else (bif Nat.blt p 215 then (bif Nat.beq p 211 then some (1, 154, 3, 14368) else none) else (bif Nat.beq p 215 then some (1, 26, 0, 14689) else none))))))) else (bif Nat.blt p 330 then (bif Nat.blt p 270 then (bif Nat.blt p 242 then (bif Nat.blt p 229 then (bif Nat.blt p 222 then (bif Nat.beq p 218 then some (1, 156, 4, 14752) else none) else (bif Nat.blt p 226 then (bif Nat.beq p 222 then some (1, 151, 2, 15120) else none) else (bif Nat.beq p 226 then some (0, 7, 1, 721) else none))) else (bif Nat.blt p 235 then (bif Nat.blt p 232 then (bif Nat.beq p 229 then some (1, 77, 2, 15633) else none) else (bif Nat.beq p 232 then some (1, 11, 1, 15761) else none)) else (bif Nat.blt p 238 then (bif Nat.beq p 235 then some (1, 79, 1, 15825) else none) else (bif Nat.beq p 238 then some (1, 161, 1, 15968) else none)))) else (bif Nat.blt p 257 then (bif Nat.blt p 250 then (bif Nat.blt p 247 then (bif Nat.beq p 242 then some (1, 160, 1, 16032) else none) else (bif Nat.beq p 247 then some (1, 27, 2, 14865) else none)) else (bif Nat.blt p 254 then (bif Nat.beq p 250 then some (1, 162, 1, 16240) else none) else (bif Nat.beq p 254 then some (1, 13, 2, 14433) else none))) else (bif Nat.blt p 263 then (bif Nat.blt p 260 then (bif Nat.beq p 257 then some (1, 145, 2, 15024) else none) else (bif Nat.beq p 260 then some (1, 146, 2, 16304) else none)) else (bif Nat.blt p 267 then (bif Nat.beq p 263 then some (1, 153, 2, 16512) else none) else (bif Nat.beq p 267 then some (1, 155, 1, 16656) else none))))) else (bif Nat.blt p 295 then (bif Nat.blt p 282 then (bif Nat.blt p 273 then (bif Nat.beq p 270 then some (1, 163, 1, 16768) else none) else (bif Nat.blt p 278 then (bif Nat.beq p 273 then some (1, 280, 1, 16352) else none) else (bif Nat.beq p 278 then some (1, 164, 3, 16832) else none))) else (bif Nat.blt p 289 then (bif Nat.blt p 286 then (bif Nat.beq p 282 then some (1, 165, 2, 16960) else none) else (bif Nat.beq p 286 then some (1, 152, 2, 14496) else none)) else (bif Nat.blt p 292 then (bif Nat.beq p 289 then some (1, 78, 2, 17089) else none) else (bif Nat.beq p 292 then some (1, 279, 1, 17216) else none)))) else (bif Nat.blt p 309 then (bif Nat.blt p 303 then (bif Nat.blt p 299 then (bif Nat.beq p 295 then some (1, 159, 3, 15184) else none) else (bif Nat.beq p 299 then some (1, 37, 3, 14561) else none)) else (bif Nat.blt p 306 then (bif Nat.beq p 303 then some (1, 166, 1, 17536) else none) else (bif Nat.beq p 306 then some (1, 148, 1, 17904) else none))) else (bif Nat.blt p 316 then (bif Nat.blt p 313 then (bif Nat.beq p 309 then some (1, 66, 3, 18017) else none) else (bif Nat.beq p 313 then some (1, 61, 3, 17601) else none)) else (bif Nat.blt p 327 then (bif Nat.beq p 316 then some (1, 62, 3, 17777) else none) else (bif Nat.beq p 327 then some (1, 67, 4, 18193) else none)))))) else (bif Nat.blt p 378 then (bif Nat.blt p 354 then (bif Nat.blt p 340 then (bif Nat.blt p 333 then (bif Nat.beq p 330 then some (0, 5, 3, 685) else none) else (bif Nat.blt p 336 then (bif Nat.beq p 333 then some (1, 69, 1, 18321) else none) else (bif Nat.beq p 336 then some (1, 70, 4, 18417) else none))) else (bif Nat.blt p 347 then (bif Nat.blt p 343 then (bif Nat.beq p 340 then some (1, 71, 0, 18545) else none) else (bif Nat.beq p 343 then some (1, 65, 5, 18769) else none)) else (bif Nat.blt p 350 then (bif Nat.beq p 347 then some (0, 2, 11, 605) else none) else (bif Nat.beq p 350 then some (1, 147, 1, 19040) else none)))) else (bif Nat.blt p 366 then (bif Nat.blt p 360 then (bif Nat.blt p 357 then (bif Nat.beq p 354 then some (1, 167, 2, 19152) else none) else (bif Nat.beq p 357 then some (0, 2, 10, 601) else none)) else (bif Nat.blt p 363 then (bif Nat.beq p 360 then some (1, 30, 1, 19537) else none) else (bif Nat.beq p 363 then some (0, 2, 9, 597) else none))) else (bif Nat.blt p 372 then (bif Nat.blt p 369 then (bif Nat.beq p 366 then some (0, 2, 8, 593) else none) else (bif Nat.beq p 369 then some (0, 2, 6, 585) else none)) else (bif Nat.blt p 375 then (bif Nat.beq p 372 then some (1, 28, 0, 19729) else none) else (bif Nat.beq p 375 then some (1, 29, 0, 19793) else none))))) else (bif Nat.blt p 408 then (bif Nat.blt p 395 then (bif Nat.blt p 388 then (bif Nat.beq p 378 then some (1, 20, 1, 19953) else none) else (bif Nat.blt p 391 then (bif Nat.beq p 388 then some (1, 57, 1, 11137) else none) else (bif Nat.beq p 391 then some (0, 3, 12, 817) else none))) else (bif Nat.blt p 401 then (bif Nat.blt p 398 then (bif Nat.beq p 395 then some (1, 38, 1, 12593) else none) else (bif Nat.beq p 398 then some (1, 12, 0, 16577) else none)) else (bif Nat.blt p 405 then (bif Nat.beq p 401 then some (1, 158, 1, 14816) else none) else (bif Nat.beq p 405 then some (1, 157, 2, 14960) else none)))) else (bif Nat.blt p 420 then (bif Nat.blt p 414 then (bif Nat.blt p 412 then (bif Nat.beq p 408 then some (1, 144, 3, 15040) else none) else (bif Nat.beq p 412 then some (1, 74, 0, 15249) else none)) else (bif Nat.blt p 417 then (bif Nat.beq p 414 then some (1, 75, 3, 15329) else none) else (bif Nat.beq p 417 then some (1, 80, 1, 19217) else none))) else (bif Nat.blt p 424 then (bif Nat.blt p 423 then (bif Nat.beq p 420 then some (1, 63, 3, 19297) else none) else (bif Nat.beq p 423 then some (0, 5, 0, 677) else none)) else (bif Nat.blt p 428 then (bif Nat.beq p 424 then some (1, 64, 4, 19361) else none) else (bif Nat.beq p 428 then some (1, 81, 2, 19377) else none)))))))
def ri_lt11 : Nat → Option (Nat × Nat × Nat × Nat) := fun p => bif Nat.blt p 217 then (bif Nat.blt p 99 then (bif Nat.blt p 52 then (bif Nat.blt p 29 then (bif Nat.blt p 20 then (bif Nat.blt p 13 then (bif Nat.beq p 7 then some (0, 11, 0, 2524) else none) else (bif Nat.blt p 17 then (bif Nat.beq p 13 then some (0, 11, 3, 2530) else none) else (bif Nat.beq p 17 then some (0, 11, 4, 2532) else none))) else (bif Nat.blt p 23 then (bif Nat.beq p 20 then some (0, 11, 5, 2534) else none) else (bif Nat.blt p 26 then (bif Nat.beq p 23 then some (0, 11, 6, 2536) else none) else (bif Nat.beq p 26 then some (0, 11, 10, 2544) else none)))) else (bif Nat.blt p 39 then (bif Nat.blt p 32 then (bif Nat.beq p 29 then some (0, 11, 11, 2546) else none) else (bif Nat.blt p 35 then (bif Nat.beq p 32 then some (0, 11, 19, 2562) else none) else (bif Nat.beq p 35 then some (0, 11, 21, 2566) else none))) else (bif Nat.blt p 45 then (bif Nat.blt p 42 then (bif Nat.beq p 39 then some (0, 11, 23, 2570) else none) else (bif Nat.beq p 42 then some (0, 11, 24, 2572) else none)) else (bif Nat.blt p 48 then (bif Nat.beq p 45 then some (0, 11, 25, 2574) else none) else (bif Nat.beq p 48 then some (0, 11, 26, 2576) else none))))) else (bif Nat.blt p 74 then (bif Nat.blt p 61 then (bif Nat.blt p 55 then (bif Nat.beq p 52 then some (0, 11, 30, 2584) else none) else (bif Nat.blt p 58 then (bif Nat.beq p 55 then some (0, 11, 31, 2586) else none) else (bif Nat.beq p 58 then some (0, 11, 32, 2588) else none))) else (bif Nat.blt p 67 then (bif Nat.blt p 64 then (bif Nat.beq p 61 then some (0, 11, 36, 2596) else none) else (bif Nat.beq p 64 then some (0, 11, 37, 2598) else none)) else (bif Nat.blt p 70 then (bif Nat.beq p 67 then some (0, 11, 38, 2600) else none) else (bif Nat.beq p 70 then some (0, 11, 1, 2526) else none)))) else (bif Nat.blt p 84 then (bif Nat.blt p 78 then (bif Nat.beq p 74 then some (1, 171, 1, 22144) else none) else (bif Nat.blt p 81 then (bif Nat.beq p 78 then some (0, 11, 13, 2550) else none) else (bif Nat.beq p 81 then some (0, 11, 12, 2548) else none))) else (bif Nat.blt p 92 then (bif Nat.blt p 88 then (bif Nat.beq p 84 then some (1, 175, 0, 22464) else none) else (bif Nat.beq p 88 then some (1, 177, 1, 22608) else none)) else (bif Nat.blt p 96 then (bif Nat.beq p 92 then some (1, 178, 1, 22544) else none) else (bif Nat.beq p 96 then some (1, 179, 0, 22848) else none)))))) else (bif Nat.blt p 163 then (bif Nat.blt p 138 then (bif Nat.blt p 109 then (bif Nat.blt p 102 then (bif Nat.beq p 99 then some (1, 176, 1, 22976) else none) else (bif Nat.blt p 106 then (bif Nat.beq p 102 then some (1, 174, 2, 22720) else none) else (bif Nat.beq p 106 then some (0, 11, 14, 2552) else none))) else (bif Nat.blt p 132 then (bif Nat.blt p 129 then (bif Nat.beq p 109 then some (1, 169, 3, 23040) else none) else (bif Nat.beq p 129 then some (0, 11, 15, 2554) else none)) else (bif Nat.blt p 135 then (bif Nat.beq p 132 then some (0, 11, 16, 2556) else none) else (bif Nat.beq p 135 then some (0, 11, 17, 2558) else none)))) else (bif Nat.blt p 150 then (bif Nat.blt p 141 then (bif Nat.beq p 138 then some (0, 11, 20, 2564) else none) else (bif Nat.blt p 145 then (bif Nat.beq p 141 then some (1, 186, 1, 24288) else none) else (bif Nat.beq p 145 then some (1, 183, 2, 23552) else none))) else (bif Nat.blt p 156 then (bif Nat.blt p 153 then (bif Nat.beq p 150 then some (1, 181, 2, 22912) else none) else (bif Nat.beq p 153 then some (1, 184, 1, 23488) else none)) else (bif Nat.blt p 159 then (bif Nat.beq p 156 then some (1, 182, 0, 23616) else none) else (bif Nat.beq p 159 then some (1, 188, 0, 23408) else none))))) else (bif Nat.blt p 186 then (bif Nat.blt p 174 then (bif Nat.blt p 166 then (bif Nat.beq p 163 then some (1, 189, 0, 23344) else none) else (bif Nat.blt p 171 then (bif Nat.beq p 166 then some (1, 190, 0, 23280) else none) else (bif Nat.beq p 171 then some (1, 185, 1, 24032) else none))) else (bif Nat.blt p 180 then (bif Nat.blt p 177 then (bif Nat.beq p 174 then some (1, 191, 0, 24096) else none) else (bif Nat.beq p 177 then some (1, 187, 1, 24224) else none)) else (bif Nat.blt p 183 then (bif Nat.beq p 180 then some (1, 193, 0, 24336) else none) else (bif Nat.beq p 183 then some (1, 192, 0, 23952) else none)))) else (bif Nat.blt p 201 then (bif Nat.blt p 195 then (bif Nat.beq p 186 then some (1, 194, 0, 24160) else none) else (bif Nat.blt p 198 then (bif Nat.beq p 195 then some (1, 180, 1, 23824) else none) else (bif Nat.beq p 198 then some (1, 195, 0, 23888) else none))) else (bif Nat.blt p 209 then (bif Nat.blt p 204 then (bif Nat.beq p 201 then some (0, 11, 8, 2540) else none) else (bif Nat.beq p 204 then some (0, 11, 9, 2542) else none)) else (bif Nat.blt p 214 then (bif Nat.beq p 209 then some (0, 11, 7, 2538) else none) else (bif Nat.beq p 214 then some (1, 197, 0, 23088) else none))))))) else (bif Nat.blt p 320 then (bif Nat.blt p 265 then (bif Nat.blt p 239 then (bif Nat.blt p 230 then (bif Nat.blt p 224 then (bif Nat.beq p 217 then some (1, 198, 0, 23152) else none) else (bif Nat.blt p 227 then (bif Nat.beq p 224 then some (0, 11, 18, 2560) else none) else (bif Nat.beq p 227 then some (1, 199, 1, 22784) else none))) else (bif Nat.blt p 233 then (bif Nat.beq p 230 then some (1, 196, 1, 23216) else none) else (bif Nat.blt p 236 then (bif Nat.beq p 233 then some (1, 200, 0, 22400) else none) else (bif Nat.beq p 236 then some (0, 11, 2, 2528) else none)))) else (bif Nat.blt p 248 then (bif Nat.blt p 242 then (bif Nat.beq p 239 then some (1, 201, 0, 22336) else none) else (bif Nat.blt p 245 then (bif Nat.beq p 242 then some (1, 210, 0, 24496) else none) else (bif Nat.beq p 245 then some (0, 11, 22, 2568) else none))) else (bif Nat.blt p 256 then (bif Nat.blt p 252 then (bif Nat.beq p 248 then some (1, 205, 1, 25200) else none) else (bif Nat.beq p 252 then some (1, 206, 0, 25264) else none)) else (bif Nat.blt p 260 then (bif Nat.beq p 256 then some (1, 207, 3, 25328) else none) else (bif Nat.beq p 260 then some (1, 209, 0, 24688) else none))))) else (bif Nat.blt p 292 then (bif Nat.blt p 275 then (bif Nat.blt p 268 then (bif Nat.beq p 265 then some (1, 211, 1, 24624) else none) else (bif Nat.blt p 271 then (bif Nat.beq p 268 then some (1, 212, 2, 24768) else none) else (bif Nat.beq p 271 then some (1, 219, 2, 25088) else none))) else (bif Nat.blt p 283 then (bif Nat.blt p 279 then (bif Nat.beq p 275 then some (1, 220, 3, 25024) else none) else (bif Nat.beq p 279 then some (1, 208, 3, 25136) else none)) else (bif Nat.blt p 286 then (bif Nat.beq p 283 then some (1, 204, 1, 24896) else none) else (bif Nat.beq p 286 then some (1, 221, 4, 24960) else none)))) else (bif Nat.blt p 301 then (bif Nat.blt p 295 then (bif Nat.beq p 292 then some (1, 216, 2, 25568) else none) else (bif Nat.blt p 298 then (bif Nat.beq p 295 then some (1, 214, 1, 25456) else none) else (bif Nat.beq p 298 then some (1, 223, 1, 25504) else none))) else (bif Nat.blt p 313 then (bif Nat.blt p 310 then (bif Nat.beq p 301 then some (1, 215, 1, 25696) else none) else (bif Nat.beq p 310 then some (1, 217, 2, 26320) else none)) else (bif Nat.blt p 317 then (bif Nat.beq p 313 then some (1, 230, 4, 26256) else none) else (bif Nat.beq p 317 then some (1, 228, 1, 26512) else none)))))) else (bif Nat.blt p 364 then (bif Nat.blt p 342 then (bif Nat.blt p 329 then (bif Nat.blt p 323 then (bif Nat.beq p 320 then some (1, 231, 2, 26192) else none) else (bif Nat.blt p 326 then (bif Nat.beq p 323 then some (1, 229, 1, 26128) else none) else (bif Nat.beq p 326 then some (1, 232, 2, 26448) else none))) else (bif Nat.blt p 335 then (bif Nat.blt p 332 then (bif Nat.beq p 329 then some (1, 233, 1, 26000) else none) else (bif Nat.beq p 332 then some (1, 213, 1, 26064) else none)) else (bif Nat.blt p 338 then (bif Nat.beq p 335 then some (1, 234, 1, 26640) else none) else (bif Nat.beq p 338 then some (1, 235, 3, 26688) else none)))) else (bif Nat.blt p 351 then (bif Nat.blt p 345 then (bif Nat.beq p 342 then some (1, 240, 2, 26880) else none) else (bif Nat.blt p 348 then (bif Nat.beq p 345 then some (0, 11, 27, 2578) else none) else (bif Nat.beq p 348 then some (0, 11, 28, 2580) else none))) else (bif Nat.blt p 357 then (bif Nat.blt p 354 then (bif Nat.beq p 351 then some (0, 11, 29, 2582) else none) else (bif Nat.beq p 354 then some (1, 243, 1, 27072) else none)) else (bif Nat.blt p 361 then (bif Nat.beq p 357 then some (1, 170, 1, 27264) else none) else (bif Nat.beq p 361 then some (1, 247, 2, 27376) else none))))) else (bif Nat.blt p 386 then (bif Nat.blt p 373 then (bif Nat.blt p 367 then (bif Nat.beq p 364 then some (1, 249, 0, 27504) else none) else (bif Nat.blt p 370 then (bif Nat.beq p 367 then some (1, 250, 2, 27568) else none) else (bif Nat.beq p 370 then some (0, 11, 33, 2590) else none))) else (bif Nat.blt p 379 then (bif Nat.blt p 376 then (bif Nat.beq p 373 then some (0, 11, 34, 2592) else none) else (bif Nat.beq p 376 then some (0, 11, 35, 2594) else none)) else (bif Nat.blt p 383 then (bif Nat.beq p 379 then some (1, 258, 3, 28144) else none) else (bif Nat.beq p 383 then some (1, 257, 0, 28016) else none)))) else (bif Nat.blt p 396 then (bif Nat.blt p 389 then (bif Nat.beq p 386 then some (1, 259, 1, 28080) else none) else (bif Nat.blt p 392 then (bif Nat.beq p 389 then some (1, 260, 2, 28208) else none) else (bif Nat.beq p 392 then some (1, 261, 1, 28384) else none))) else (bif Nat.blt p 402 then (bif Nat.blt p 399 then (bif Nat.beq p 396 then some (1, 265, 1, 28512) else none) else (bif Nat.beq p 399 then some (1, 266, 1, 28576) else none)) else (bif Nat.blt p 405 then (bif Nat.beq p 402 then some (1, 267, 1, 28640) else none) else (bif Nat.beq p 405 then some (1, 268, 1, 28704) else none)))))))
def ri_lt12 : Nat → Option (Nat × Nat × Nat × Nat) := fun p => bif Nat.blt p 98 then (bif Nat.blt p 57 then (bif Nat.blt p 32 then (bif Nat.blt p 22 then (bif Nat.blt p 13 then (bif Nat.blt p 12 then (bif Nat.beq p 9 then some (1, 102, 0, 2960) else none) else (bif Nat.beq p 12 then some (1, 168, 0, 20128) else none)) else (bif Nat.blt p 17 then (bif Nat.beq p 13 then some (1, 103, 5, 7872) else none) else (bif Nat.blt p 18 then (bif Nat.beq p 17 then some (1, 172, 5, 22080) else none) else (bif Nat.beq p 18 then some (1, 104, 1, 8048) else none)))) else (bif Nat.blt p 27 then (bif Nat.blt p 23 then (bif Nat.beq p 22 then some (1, 173, 1, 22208) else none) else (bif Nat.beq p 23 then some (1, 105, 0, 8112) else none)) else (bif Nat.blt p 28 then (bif Nat.beq p 27 then some (1, 203, 0, 24432) else none) else (bif Nat.blt p 31 then (bif Nat.beq p 28 then some (1, 106, 0, 11360) else none) else (bif Nat.beq p 31 then some (1, 202, 0, 22272) else none))))) else (bif Nat.blt p 46 then (bif Nat.blt p 37 then (bif Nat.blt p 36 then (bif Nat.beq p 32 then some (1, 107, 3, 12160) else none) else (bif Nat.beq p 36 then some (1, 218, 3, 24560) else none)) else (bif Nat.blt p 41 then (bif Nat.beq p 37 then some (1, 108, 4, 12464) else none) else (bif Nat.blt p 42 then (bif Nat.beq p 41 then some (1, 222, 4, 24832) else none) else (bif Nat.beq p 42 then some (1, 109, 4, 13568) else none)))) else (bif Nat.blt p 51 then (bif Nat.blt p 47 then (bif Nat.beq p 46 then some (1, 224, 4, 25392) else none) else (bif Nat.beq p 47 then some (1, 110, 2, 13840) else none)) else (bif Nat.blt p 52 then (bif Nat.beq p 51 then some (1, 225, 2, 25632) else none) else (bif Nat.blt p 56 then (bif Nat.beq p 52 then some (1, 111, 2, 14048) else none) else (bif Nat.beq p 56 then some (1, 226, 2, 25776) else none)))))) else (bif Nat.blt p 77 then (bif Nat.blt p 68 then (bif Nat.blt p 61 then (bif Nat.blt p 60 then (bif Nat.beq p 57 then some (1, 112, 1, 14176) else none) else (bif Nat.beq p 60 then some (1, 227, 1, 25840) else none)) else (bif Nat.blt p 64 then (bif Nat.beq p 61 then some (1, 114, 3, 14304) else none) else (bif Nat.blt p 65 then (bif Nat.beq p 64 then some (1, 236, 3, 25936) else none) else (bif Nat.beq p 65 then some (1, 115, 2, 14624) else none)))) else (bif Nat.blt p 72 then (bif Nat.blt p 69 then (bif Nat.beq p 68 then some (1, 237, 2, 26384) else none) else (bif Nat.beq p 69 then some (1, 116, 2, 15056) else none)) else (bif Nat.blt p 73 then (bif Nat.beq p 72 then some (1, 238, 2, 26576) else none) else (bif Nat.blt p 76 then (bif Nat.beq p 73 then some (1, 117, 3, 15504) else none) else (bif Nat.beq p 76 then some (1, 239, 3, 26752) else none))))) else (bif Nat.blt p 88 then (bif Nat.blt p 81 then (bif Nat.blt p 80 then (bif Nat.beq p 77 then some (1, 118, 4, 15568) else none) else (bif Nat.beq p 80 then some (1, 241, 4, 26816) else none)) else (bif Nat.blt p 84 then (bif Nat.beq p 81 then some (1, 119, 2, 15696) else none) else (bif Nat.blt p 85 then (bif Nat.beq p 84 then some (1, 242, 2, 26944) else none) else (bif Nat.beq p 85 then some (1, 120, 2, 15904) else none)))) else (bif Nat.blt p 93 then (bif Nat.blt p 89 then (bif Nat.beq p 88 then some (1, 244, 2, 27008) else none) else (bif Nat.beq p 89 then some (1, 121, 1, 16096) else none)) else (bif Nat.blt p 94 then (bif Nat.beq p 93 then some (1, 245, 1, 27136) else none) else (bif Nat.blt p 97 then (bif Nat.beq p 94 then some (1, 122, 1, 16176) else none) else (bif Nat.beq p 97 then some (1, 246, 1, 27200) else none))))))) else (bif Nat.blt p 138 then (bif Nat.blt p 118 then (bif Nat.blt p 109 then (bif Nat.blt p 102 then (bif Nat.blt p 101 then (bif Nat.beq p 98 then some (1, 123, 1, 16448) else none) else (bif Nat.beq p 101 then some (1, 248, 1, 27312) else none)) else (bif Nat.blt p 105 then (bif Nat.beq p 102 then some (1, 124, 2, 16704) else none) else (bif Nat.blt p 106 then (bif Nat.beq p 105 then some (1, 251, 2, 27440) else none) else (bif Nat.beq p 106 then some (1, 125, 3, 16896) else none)))) else (bif Nat.blt p 113 then (bif Nat.blt p 110 then (bif Nat.beq p 109 then some (1, 252, 3, 27632) else none) else (bif Nat.beq p 110 then some (1, 126, 3, 17024) else none)) else (bif Nat.blt p 114 then (bif Nat.beq p 113 then some (1, 253, 3, 27696) else none) else (bif Nat.blt p 117 then (bif Nat.beq p 114 then some (1, 127, 3, 17152) else none) else (bif Nat.beq p 117 then some (1, 254, 3, 27760) else none))))) else (bif Nat.blt p 129 then (bif Nat.blt p 122 then (bif Nat.blt p 121 then (bif Nat.beq p 118 then some (1, 128, 2, 17280) else none) else (bif Nat.beq p 121 then some (1, 255, 2, 27824) else none)) else (bif Nat.blt p 125 then (bif Nat.beq p 122 then some (1, 129, 3, 17344) else none) else (bif Nat.blt p 126 then (bif Nat.beq p 125 then some (1, 256, 3, 27888) else none) else (bif Nat.beq p 126 then some (1, 131, 3, 17472) else none)))) else (bif Nat.blt p 133 then (bif Nat.blt p 130 then (bif Nat.beq p 129 then some (1, 262, 3, 27952) else none) else (bif Nat.beq p 130 then some (1, 130, 3, 17408) else none)) else (bif Nat.blt p 134 then (bif Nat.beq p 133 then some (1, 263, 3, 28256) else none) else (bif Nat.blt p 137 then (bif Nat.beq p 134 then some (1, 132, 4, 17952) else none) else (bif Nat.beq p 137 then some (1, 264, 4, 28320) else none)))))) else (bif Nat.blt p 158 then (bif Nat.blt p 149 then (bif Nat.blt p 142 then (bif Nat.blt p 141 then (bif Nat.beq p 138 then some (1, 133, 2, 18256) else none) else (bif Nat.beq p 141 then some (1, 269, 2, 28448) else none)) else (bif Nat.blt p 145 then (bif Nat.beq p 142 then some (1, 134, 5, 18704) else none) else (bif Nat.blt p 146 then (bif Nat.beq p 145 then some (1, 270, 5, 28768) else none) else (bif Nat.beq p 146 then some (1, 113, 1, 14240) else none)))) else (bif Nat.blt p 153 then (bif Nat.blt p 150 then (bif Nat.beq p 149 then some (1, 271, 1, 28832) else none) else (bif Nat.beq p 150 then some (1, 135, 1, 18912) else none)) else (bif Nat.blt p 154 then (bif Nat.beq p 153 then some (1, 272, 1, 28896) else none) else (bif Nat.blt p 157 then (bif Nat.beq p 154 then some (1, 136, 3, 18976) else none) else (bif Nat.beq p 157 then some (1, 273, 3, 28960) else none))))) else (bif Nat.blt p 169 then (bif Nat.blt p 162 then (bif Nat.blt p 161 then (bif Nat.beq p 158 then some (1, 137, 1, 19472) else none) else (bif Nat.beq p 161 then some (1, 274, 1, 29104) else none)) else (bif Nat.blt p 165 then (bif Nat.beq p 162 then some (1, 138, 4, 19600) else none) else (bif Nat.blt p 166 then (bif Nat.beq p 165 then some (1, 275, 4, 29168) else none) else (bif Nat.beq p 166 then some (1, 139, 1, 19664) else none)))) else (bif Nat.blt p 173 then (bif Nat.blt p 170 then (bif Nat.beq p 169 then some (1, 276, 1, 29232) else none) else (bif Nat.beq p 170 then some (1, 140, 1, 19888) else none)) else (bif Nat.blt p 174 then (bif Nat.beq p 173 then some (1, 277, 1, 29296) else none) else (bif Nat.blt p 177 then (bif Nat.beq p 174 then some (1, 141, 1, 20032) else none) else (bif Nat.beq p 177 then some (1, 278, 1, 29376) else none)))))))
def ri_lt13 : Nat → Option (Nat × Nat × Nat × Nat) := fun p => none
def ri_ltt : Nat → Nat → Option (Nat × Nat × Nat × Nat) := fun p => bif Nat.blt p 7 then (bif Nat.blt p 3 then (bif Nat.blt p 1 then (ri_lt0) else (bif Nat.blt p 2 then (ri_lt1) else (ri_lt2))) else (bif Nat.blt p 5 then (bif Nat.blt p 4 then (ri_lt3) else (ri_lt4)) else (bif Nat.blt p 6 then (ri_lt5) else (ri_lt6)))) else (bif Nat.blt p 10 then (bif Nat.blt p 8 then (ri_lt7) else (bif Nat.blt p 9 then (ri_lt8) else (ri_lt9))) else (bif Nat.blt p 12 then (bif Nat.blt p 11 then (ri_lt10) else (ri_lt11)) else (bif Nat.blt p 13 then (ri_lt12) else (ri_lt13))))
def ri_lt (o i : Nat) : Option (Nat × Nat × Nat × Nat) := bif Nat.blt o 14 && Nat.blt i 512 then ri_ltt o i else none
def ri_on : Nat → String := fun p => bif Nat.blt p 7 then (bif Nat.blt p 3 then (bif Nat.blt p 1 then (RX0) else (bif Nat.blt p 2 then (RX1) else (RX2))) else (bif Nat.blt p 5 then (bif Nat.blt p 4 then (RX3) else (RX4)) else (bif Nat.blt p 6 then (RX5) else (RX6)))) else (bif Nat.blt p 10 then (bif Nat.blt p 8 then (RX7) else (bif Nat.blt p 9 then (RX8) else (RX9))) else (bif Nat.blt p 12 then (bif Nat.blt p 11 then (RX10) else (RX11)) else (bif Nat.blt p 13 then (RL) else (RJ6))))
def ri_lq (o i : Nat) : Bool := match ri_ltt o i with
  | some (0, a, b, c) => (match vwCl[a]? with
    | some q => Nat.blt b q.2.2 && ri_fk (ri_on o) i c (q.2.1 b)
    | none => false)
  | some (_, a, b, c) => ri_lk (ri_on o) i a b c
  | none => true
def ri_ck2 (o : Nat) (nm : String) (bytes : ByteArray) (pc : Nat) (j : ri_J) : Bool := decide (decode bytes pc = .ok (j.1, ri_ln j.1 j.2.1)) && match j with
  | (.if_icmp _ off, _, _, _, _) => decide (0 ≤ (pc : Int) + off)
  | (.ifCond _ off, _, _, _, _) => decide (0 ≤ (pc : Int) + off)
  | (.getfield i, _, a, b, c) => decide (ri_lt o i = some (0, a, b, c))
  | (.putfield i, _, a, b, c) => decide (ri_lt o i = some (0, a, b, c)) && (match vwCl[a]? with
    | some q => (if (q.2.1 b).2.2.2 = true then decide (nm = "<init>") && (decide (c % 2 = 0) && decide ((q.2.1 b).1 = ri_on o)) else true)
    | none => false)
  | (.new i, _, a, _, c) => (match vwCl[a]? with
    | some q => ri_w c (.classLink (ri_on o) i q.1)
    | none => false)
  | (.anewarray i, _, a, b, c) => (match vwCl[a]? with
    | some q => ri_w c (.classLink (ri_on o) i q.1) && ri_w b (.arrayOver (.object q.1))
    | none => false)
  | (.newarray t, _, a, _, _) => ri_w a (.arrayClass (newarray.typeOf t))
  | (.ldc i, _, a, _, c) => ri_w c (.constant (ri_on o) i (Int32.ofNat a))
  | (.ldc_w i, _, a, _, c) => ri_w c (.constant (ri_on o) i (Int32.ofNat a))
  | (.ldc2_w i, _, a, _, c) => ri_w c (.constantLong (ri_on o) i (Int64.ofNat a))
  | (.invokespecial i, _, a, b, c) => if c % 16 = 6 then ri_w (c / 16) (.methodLink (ri_on o) i Lib.objectInit) else decide (ri_lt o i = some (1, a, b, c)) && decide (ri_kd a = 1)
  | (.invokevirtual i, _, a, b, c) => decide (ri_lt o i = some (1, a, b, c)) && decide (ri_kd a = 2)
  | (.invokestatic i, _, a, b, c) => (match c % 16 with
    | 0 => decide (ri_lt o i = some (1, a, b, c)) && decide (ri_kd a = 0)
    | 1 => decide (ri_lt o i = some (1, a, b, c)) && decide (ri_kd a = 0)
    | 7 => ri_w (c / 16) (.methodLink (ri_on o) i Lib.Math.min.name)
    | 8 => ri_w (c / 16) (.methodLink (ri_on o) i Lib.Math.max.name)
    | 9 => ri_w (c / 16) (.methodLink (ri_on o) i Lib.Math.abs.name)
    | 10 => ri_w (c / 16) (.methodLink (ri_on o) i arraycopyName)
    | _ => true)
  | _ => true
theorem ri_le0_0 : (List.range' 0 512).all (ri_lq 0) = true := by decide +kernel
theorem ri_le1_0 : (List.range' 0 59).all (ri_lq 1) = true := by decide +kernel
theorem ri_le1_59 : (List.range' 59 453).all (ri_lq 1) = true := by decide +kernel
theorem ri_le2_0 : (List.range' 0 52).all (ri_lq 2) = true := by decide +kernel
theorem ri_le2_52 : (List.range' 52 460).all (ri_lq 2) = true := by decide +kernel
theorem ri_le3_0 : (List.range' 0 51).all (ri_lq 3) = true := by decide +kernel
theorem ri_le3_51 : (List.range' 51 53).all (ri_lq 3) = true := by decide +kernel
theorem ri_le3_104 : (List.range' 104 408).all (ri_lq 3) = true := by decide +kernel
theorem ri_le4_0 : (List.range' 0 59).all (ri_lq 4) = true := by decide +kernel
theorem ri_le4_59 : (List.range' 59 453).all (ri_lq 4) = true := by decide +kernel
theorem ri_le5_0 : (List.range' 0 62).all (ri_lq 5) = true := by decide +kernel
theorem ri_le5_62 : (List.range' 62 450).all (ri_lq 5) = true := by decide +kernel
theorem ri_le6_0 : (List.range' 0 63).all (ri_lq 6) = true := by decide +kernel
theorem ri_le6_63 : (List.range' 63 449).all (ri_lq 6) = true := by decide +kernel
theorem ri_le7_0 : (List.range' 0 512).all (ri_lq 7) = true := by decide +kernel
theorem ri_le8_0 : (List.range' 0 512).all (ri_lq 8) = true := by decide +kernel
theorem ri_le9_0 : (List.range' 0 54).all (ri_lq 9) = true := by decide +kernel
theorem ri_le9_54 : (List.range' 54 458).all (ri_lq 9) = true := by decide +kernel
theorem ri_le10_0 : (List.range' 0 53).all (ri_lq 10) = true := by decide +kernel
theorem ri_le10_53 : (List.range' 53 44).all (ri_lq 10) = true := by decide +kernel
theorem ri_le10_97 : (List.range' 97 39).all (ri_lq 10) = true := by decide +kernel
theorem ri_le10_136 : (List.range' 136 45).all (ri_lq 10) = true := by decide +kernel
theorem ri_le10_181 : (List.range' 181 41).all (ri_lq 10) = true := by decide +kernel
theorem ri_le10_222 : (List.range' 222 41).all (ri_lq 10) = true := by decide +kernel
theorem ri_le10_263 : (List.range' 263 43).all (ri_lq 10) = true := by decide +kernel
theorem ri_le10_306 : (List.range' 306 48).all (ri_lq 10) = true := by decide +kernel
theorem ri_le10_354 : (List.range' 354 44).all (ri_lq 10) = true := by decide +kernel
theorem ri_le10_398 : (List.range' 398 114).all (ri_lq 10) = true := by decide +kernel
theorem ri_le11_0 : (List.range' 0 48).all (ri_lq 11) = true := by decide +kernel
theorem ri_le11_48 : (List.range' 48 40).all (ri_lq 11) = true := by decide +kernel
theorem ri_le11_88 : (List.range' 88 57).all (ri_lq 11) = true := by decide +kernel
theorem ri_le11_145 : (List.range' 145 41).all (ri_lq 11) = true := by decide +kernel
theorem ri_le11_186 : (List.range' 186 50).all (ri_lq 11) = true := by decide +kernel
theorem ri_le11_236 : (List.range' 236 43).all (ri_lq 11) = true := by decide +kernel
theorem ri_le11_279 : (List.range' 279 47).all (ri_lq 11) = true := by decide +kernel
theorem ri_le11_326 : (List.range' 326 38).all (ri_lq 11) = true := by decide +kernel
theorem ri_le11_364 : (List.range' 364 38).all (ri_lq 11) = true := by decide +kernel
theorem ri_le11_402 : (List.range' 402 110).all (ri_lq 11) = true := by decide +kernel
theorem ri_le12_0 : (List.range' 0 37).all (ri_lq 12) = true := by decide +kernel
theorem ri_le12_37 : (List.range' 37 28).all (ri_lq 12) = true := by decide +kernel
theorem ri_le12_65 : (List.range' 65 24).all (ri_lq 12) = true := by decide +kernel
theorem ri_le12_89 : (List.range' 89 25).all (ri_lq 12) = true := by decide +kernel
theorem ri_le12_114 : (List.range' 114 24).all (ri_lq 12) = true := by decide +kernel
theorem ri_le12_138 : (List.range' 138 24).all (ri_lq 12) = true := by decide +kernel
theorem ri_le12_162 : (List.range' 162 350).all (ri_lq 12) = true := by decide +kernel
theorem ri_le13_0 : (List.range' 0 512).all (ri_lq 13) = true := by decide +kernel
theorem ri_lf0 : ∀ pc, pc < 512 → ri_lq 0 pc = true := by
  intro pc h
  exact List.all_eq_true.mp ri_le0_0 pc (List.mem_range'_1.mpr ⟨by omega, by omega⟩)
theorem ri_lf1 : ∀ pc, pc < 512 → ri_lq 1 pc = true := by
  intro pc h
  rcases Nat.lt_or_ge pc 59 with q | q
  · exact List.all_eq_true.mp ri_le1_0 pc (List.mem_range'_1.mpr ⟨by omega, by omega⟩)
  exact List.all_eq_true.mp ri_le1_59 pc (List.mem_range'_1.mpr ⟨by omega, by omega⟩)
theorem ri_lf2 : ∀ pc, pc < 512 → ri_lq 2 pc = true := by
  intro pc h
  rcases Nat.lt_or_ge pc 52 with q | q
  · exact List.all_eq_true.mp ri_le2_0 pc (List.mem_range'_1.mpr ⟨by omega, by omega⟩)
  exact List.all_eq_true.mp ri_le2_52 pc (List.mem_range'_1.mpr ⟨by omega, by omega⟩)
theorem ri_lf3 : ∀ pc, pc < 512 → ri_lq 3 pc = true := by
  intro pc h
  rcases Nat.lt_or_ge pc 51 with q | q
  · exact List.all_eq_true.mp ri_le3_0 pc (List.mem_range'_1.mpr ⟨by omega, by omega⟩)
  rcases Nat.lt_or_ge pc 104 with q | q
  · exact List.all_eq_true.mp ri_le3_51 pc (List.mem_range'_1.mpr ⟨by omega, by omega⟩)
  exact List.all_eq_true.mp ri_le3_104 pc (List.mem_range'_1.mpr ⟨by omega, by omega⟩)
theorem ri_lf4 : ∀ pc, pc < 512 → ri_lq 4 pc = true := by
  intro pc h
  rcases Nat.lt_or_ge pc 59 with q | q
  · exact List.all_eq_true.mp ri_le4_0 pc (List.mem_range'_1.mpr ⟨by omega, by omega⟩)
  exact List.all_eq_true.mp ri_le4_59 pc (List.mem_range'_1.mpr ⟨by omega, by omega⟩)
theorem ri_lf5 : ∀ pc, pc < 512 → ri_lq 5 pc = true := by
  intro pc h
  rcases Nat.lt_or_ge pc 62 with q | q
  · exact List.all_eq_true.mp ri_le5_0 pc (List.mem_range'_1.mpr ⟨by omega, by omega⟩)
  exact List.all_eq_true.mp ri_le5_62 pc (List.mem_range'_1.mpr ⟨by omega, by omega⟩)
theorem ri_lf6 : ∀ pc, pc < 512 → ri_lq 6 pc = true := by
  intro pc h
  rcases Nat.lt_or_ge pc 63 with q | q
  · exact List.all_eq_true.mp ri_le6_0 pc (List.mem_range'_1.mpr ⟨by omega, by omega⟩)
  exact List.all_eq_true.mp ri_le6_63 pc (List.mem_range'_1.mpr ⟨by omega, by omega⟩)
theorem ri_lf7 : ∀ pc, pc < 512 → ri_lq 7 pc = true := by
  intro pc h
  exact List.all_eq_true.mp ri_le7_0 pc (List.mem_range'_1.mpr ⟨by omega, by omega⟩)
theorem ri_lf8 : ∀ pc, pc < 512 → ri_lq 8 pc = true := by
  intro pc h
  exact List.all_eq_true.mp ri_le8_0 pc (List.mem_range'_1.mpr ⟨by omega, by omega⟩)
theorem ri_lf9 : ∀ pc, pc < 512 → ri_lq 9 pc = true := by
  intro pc h
  rcases Nat.lt_or_ge pc 54 with q | q
  · exact List.all_eq_true.mp ri_le9_0 pc (List.mem_range'_1.mpr ⟨by omega, by omega⟩)
  exact List.all_eq_true.mp ri_le9_54 pc (List.mem_range'_1.mpr ⟨by omega, by omega⟩)
theorem ri_lf10 : ∀ pc, pc < 512 → ri_lq 10 pc = true := by
  intro pc h
  rcases Nat.lt_or_ge pc 53 with q | q
  · exact List.all_eq_true.mp ri_le10_0 pc (List.mem_range'_1.mpr ⟨by omega, by omega⟩)
  rcases Nat.lt_or_ge pc 97 with q | q
  · exact List.all_eq_true.mp ri_le10_53 pc (List.mem_range'_1.mpr ⟨by omega, by omega⟩)
  rcases Nat.lt_or_ge pc 136 with q | q
  · exact List.all_eq_true.mp ri_le10_97 pc (List.mem_range'_1.mpr ⟨by omega, by omega⟩)
  rcases Nat.lt_or_ge pc 181 with q | q
  · exact List.all_eq_true.mp ri_le10_136 pc (List.mem_range'_1.mpr ⟨by omega, by omega⟩)
  rcases Nat.lt_or_ge pc 222 with q | q
  · exact List.all_eq_true.mp ri_le10_181 pc (List.mem_range'_1.mpr ⟨by omega, by omega⟩)
  rcases Nat.lt_or_ge pc 263 with q | q
  · exact List.all_eq_true.mp ri_le10_222 pc (List.mem_range'_1.mpr ⟨by omega, by omega⟩)
  rcases Nat.lt_or_ge pc 306 with q | q
  · exact List.all_eq_true.mp ri_le10_263 pc (List.mem_range'_1.mpr ⟨by omega, by omega⟩)
  rcases Nat.lt_or_ge pc 354 with q | q
  · exact List.all_eq_true.mp ri_le10_306 pc (List.mem_range'_1.mpr ⟨by omega, by omega⟩)
  rcases Nat.lt_or_ge pc 398 with q | q
  · exact List.all_eq_true.mp ri_le10_354 pc (List.mem_range'_1.mpr ⟨by omega, by omega⟩)
  exact List.all_eq_true.mp ri_le10_398 pc (List.mem_range'_1.mpr ⟨by omega, by omega⟩)
theorem ri_lf11 : ∀ pc, pc < 512 → ri_lq 11 pc = true := by
  intro pc h
  rcases Nat.lt_or_ge pc 48 with q | q
  · exact List.all_eq_true.mp ri_le11_0 pc (List.mem_range'_1.mpr ⟨by omega, by omega⟩)
  rcases Nat.lt_or_ge pc 88 with q | q
  · exact List.all_eq_true.mp ri_le11_48 pc (List.mem_range'_1.mpr ⟨by omega, by omega⟩)
  rcases Nat.lt_or_ge pc 145 with q | q
  · exact List.all_eq_true.mp ri_le11_88 pc (List.mem_range'_1.mpr ⟨by omega, by omega⟩)
  rcases Nat.lt_or_ge pc 186 with q | q
  · exact List.all_eq_true.mp ri_le11_145 pc (List.mem_range'_1.mpr ⟨by omega, by omega⟩)
  rcases Nat.lt_or_ge pc 236 with q | q
  · exact List.all_eq_true.mp ri_le11_186 pc (List.mem_range'_1.mpr ⟨by omega, by omega⟩)
  rcases Nat.lt_or_ge pc 279 with q | q
  · exact List.all_eq_true.mp ri_le11_236 pc (List.mem_range'_1.mpr ⟨by omega, by omega⟩)
  rcases Nat.lt_or_ge pc 326 with q | q
  · exact List.all_eq_true.mp ri_le11_279 pc (List.mem_range'_1.mpr ⟨by omega, by omega⟩)
  rcases Nat.lt_or_ge pc 364 with q | q
  · exact List.all_eq_true.mp ri_le11_326 pc (List.mem_range'_1.mpr ⟨by omega, by omega⟩)
  rcases Nat.lt_or_ge pc 402 with q | q
  · exact List.all_eq_true.mp ri_le11_364 pc (List.mem_range'_1.mpr ⟨by omega, by omega⟩)
  exact List.all_eq_true.mp ri_le11_402 pc (List.mem_range'_1.mpr ⟨by omega, by omega⟩)
theorem ri_lf12 : ∀ pc, pc < 512 → ri_lq 12 pc = true := by
  intro pc h
  rcases Nat.lt_or_ge pc 37 with q | q
  · exact List.all_eq_true.mp ri_le12_0 pc (List.mem_range'_1.mpr ⟨by omega, by omega⟩)
  rcases Nat.lt_or_ge pc 65 with q | q
  · exact List.all_eq_true.mp ri_le12_37 pc (List.mem_range'_1.mpr ⟨by omega, by omega⟩)
  rcases Nat.lt_or_ge pc 89 with q | q
  · exact List.all_eq_true.mp ri_le12_65 pc (List.mem_range'_1.mpr ⟨by omega, by omega⟩)
  rcases Nat.lt_or_ge pc 114 with q | q
  · exact List.all_eq_true.mp ri_le12_89 pc (List.mem_range'_1.mpr ⟨by omega, by omega⟩)
  rcases Nat.lt_or_ge pc 138 with q | q
  · exact List.all_eq_true.mp ri_le12_114 pc (List.mem_range'_1.mpr ⟨by omega, by omega⟩)
  rcases Nat.lt_or_ge pc 162 with q | q
  · exact List.all_eq_true.mp ri_le12_138 pc (List.mem_range'_1.mpr ⟨by omega, by omega⟩)
  exact List.all_eq_true.mp ri_le12_162 pc (List.mem_range'_1.mpr ⟨by omega, by omega⟩)
theorem ri_lf13 : ∀ pc, pc < 512 → ri_lq 13 pc = true := by
  intro pc h
  exact List.all_eq_true.mp ri_le13_0 pc (List.mem_range'_1.mpr ⟨by omega, by omega⟩)
set_option maxRecDepth 100000 in
theorem ri_lq_all : ∀ a i, a < 14 → i < 512 → ri_lq a i = true := by
  intro a i h hp
  rcases Nat.lt_or_ge a 7 with q7 | q7
  · rcases Nat.lt_or_ge a 3 with q3 | q3
    · rcases Nat.lt_or_ge a 1 with q1 | q1
      · obtain rfl : a = 0 := by omega
        exact ri_lf0 i hp
      · rcases Nat.lt_or_ge a 2 with q2 | q2
        · obtain rfl : a = 1 := by omega
          exact ri_lf1 i hp
        · obtain rfl : a = 2 := by omega
          exact ri_lf2 i hp
    · rcases Nat.lt_or_ge a 5 with q5 | q5
      · rcases Nat.lt_or_ge a 4 with q4 | q4
        · obtain rfl : a = 3 := by omega
          exact ri_lf3 i hp
        · obtain rfl : a = 4 := by omega
          exact ri_lf4 i hp
      · rcases Nat.lt_or_ge a 6 with q6 | q6
        · obtain rfl : a = 5 := by omega
          exact ri_lf5 i hp
        · obtain rfl : a = 6 := by omega
          exact ri_lf6 i hp
  · rcases Nat.lt_or_ge a 10 with q10 | q10
    · rcases Nat.lt_or_ge a 8 with q8 | q8
      · obtain rfl : a = 7 := by omega
        exact ri_lf7 i hp
      · rcases Nat.lt_or_ge a 9 with q9 | q9
        · obtain rfl : a = 8 := by omega
          exact ri_lf8 i hp
        · obtain rfl : a = 9 := by omega
          exact ri_lf9 i hp
    · rcases Nat.lt_or_ge a 12 with q12 | q12
      · rcases Nat.lt_or_ge a 11 with q11 | q11
        · obtain rfl : a = 10 := by omega
          exact ri_lf10 i hp
        · obtain rfl : a = 11 := by omega
          exact ri_lf11 i hp
      · rcases Nat.lt_or_ge a 13 with q13 | q13
        · obtain rfl : a = 12 := by omega
          exact ri_lf12 i hp
        · obtain rfl : a = 13 := by omega
          exact ri_lf13 i hp
theorem ri_lt_ok {o i k a b c : Nat} (h : ri_lt o i = some (k, a, b, c)) : ri_lq o i = true ∧ ri_ltt o i = some (k, a, b, c) := by
  unfold ri_lt at h
  cases h1 : Nat.blt o 14 && Nat.blt i 512 with
  | false => rw [h1] at h; cases h
  | true =>
    rw [h1] at h
    rw [Bool.and_eq_true] at h1
    exact ⟨ri_lq_all o i (Nat.le_of_ble_eq_true h1.1) (Nat.le_of_ble_eq_true h1.2), h⟩
theorem ri_lt_f {o i a b c : Nat} (h : ri_lt o i = some (0, a, b, c)) : (match vwCl[a]? with
    | some q => Nat.blt b q.2.2 && ri_fk (ri_on o) i c (q.2.1 b)
    | none => false) = true := by
  obtain ⟨h1, h2⟩ := ri_lt_ok h
  unfold ri_lq at h1
  rw [h2] at h1
  exact h1
theorem ri_lt_m {o i a b c : Nat} (h : ri_lt o i = some (1, a, b, c)) : ri_lk (ri_on o) i a b c = true := by
  obtain ⟨h1, h2⟩ := ri_lt_ok h
  unfold ri_lq at h1
  rw [h2] at h1
  exact h1
theorem ri_ck2_ok {o : Nat} {nm : String} {bs : ByteArray} {pc : Nat} {j : ri_J} (h : ri_ck2 o nm bs pc j = true) : ri_ck (ri_on o) nm bs pc j = true := by
  obtain ⟨ins, len, a, b, c⟩ := j
  cases ins
  case getfield i =>
    unfold ri_ck2 at h
    unfold ri_ck
    rw [Bool.and_eq_true] at h ⊢
    exact ⟨h.1, ri_lt_f (of_decide_eq_true h.2)⟩
  case putfield i =>
    unfold ri_ck2 at h
    unfold ri_ck
    rw [Bool.and_eq_true] at h ⊢
    refine ⟨h.1, ?_⟩
    have h2 : (decide (ri_lt o i = some (0, a, b, c)) && (match vwCl[a]? with
      | some q => (if (q.2.1 b).2.2.2 = true then decide (nm = "<init>") && (decide (c % 2 = 0) && decide ((q.2.1 b).1 = ri_on o)) else true)
      | none => false)) = true := h.2
    rw [Bool.and_eq_true] at h2
    have h3 := ri_lt_f (of_decide_eq_true h2.1)
    have h4 := h2.2
    show (match vwCl[a]? with
      | some q => Nat.blt b q.2.2 && (ri_fk (ri_on o) i c (q.2.1 b) && (if (q.2.1 b).2.2.2 = true then decide (nm = "<init>") && (decide (c % 2 = 0) && decide ((q.2.1 b).1 = ri_on o)) else true))
      | none => false) = true
    cases hq : vwCl[a]? with
    | none => rw [hq] at h3; cases h3
    | some q =>
      rw [hq] at h3 h4
      dsimp only at h3 h4 ⊢
      rw [Bool.and_eq_true] at h3 ⊢
      rw [Bool.and_eq_true]
      exact ⟨h3.1, h3.2, h4⟩
  case invokespecial i =>
    unfold ri_ck2 at h
    unfold ri_ck
    rw [Bool.and_eq_true] at h ⊢
    refine ⟨h.1, ?_⟩
    have h2 : (if c % 16 = 6 then ri_w (c / 16) (.methodLink (ri_on o) i Lib.objectInit) else decide (ri_lt o i = some (1, a, b, c)) && decide (ri_kd a = 1)) = true := h.2
    show (if c % 16 = 6 then ri_w (c / 16) (.methodLink (ri_on o) i Lib.objectInit) else ri_lk (ri_on o) i a b c && decide (ri_kd a = 1)) = true
    by_cases h6 : c % 16 = 6
    · rw [if_pos h6] at h2 ⊢
      exact h2
    · rw [if_neg h6] at h2 ⊢
      rw [Bool.and_eq_true] at h2 ⊢
      exact ⟨ri_lt_m (of_decide_eq_true h2.1), h2.2⟩
  case invokevirtual i =>
    unfold ri_ck2 at h
    unfold ri_ck
    rw [Bool.and_eq_true] at h ⊢
    refine ⟨h.1, ?_⟩
    have h2 : (decide (ri_lt o i = some (1, a, b, c)) && decide (ri_kd a = 2)) = true := h.2
    show (ri_lk (ri_on o) i a b c && decide (ri_kd a = 2)) = true
    rw [Bool.and_eq_true] at h2 ⊢
    exact ⟨ri_lt_m (of_decide_eq_true h2.1), h2.2⟩
  case invokestatic i =>
    unfold ri_ck2 at h
    unfold ri_ck
    rw [Bool.and_eq_true] at h ⊢
    refine ⟨h.1, ?_⟩
    have h2 := h.2
    dsimp only at h2 ⊢
    split at h2
    · next q =>
      rw [q]
      show (ri_lk (ri_on o) i a b c && decide (ri_kd a = 0)) = true
      rw [Bool.and_eq_true] at h2 ⊢
      exact ⟨ri_lt_m (of_decide_eq_true h2.1), h2.2⟩
    · next q =>
      rw [q]
      show (ri_lk (ri_on o) i a b c && decide (ri_kd a = 0)) = true
      rw [Bool.and_eq_true] at h2 ⊢
      exact ⟨ri_lt_m (of_decide_eq_true h2.1), h2.2⟩
    · next q => rw [q]; exact h2
    · next q => rw [q]; exact h2
    · next q => rw [q]; exact h2
    · next q => rw [q]; exact h2
    · split <;> first | rfl | contradiction
  all_goals exact h
def ri_one2 (o : Nat) (nm : String) (bytes : ByteArray) (k : Nat → Option ri_J) (pc : Nat) : Bool := match k pc with
  | some j => ri_ck2 o nm bytes pc j
  | none => true
theorem ri_one2_ok {o : Nat} {nm : String} {bs : ByteArray} {k : Nat → Option ri_J} {pc : Nat} (h : ri_one2 o nm bs k pc = true) : ri_one (ri_on o) nm bs k pc = true := by
  unfold ri_one2 at h
  unfold ri_one
  split at h
  · next j hj =>
    rw [hj]
    exact ri_ck2_ok h
  · next hj => rw [hj]
def ri_oc : Nat → Nat := fun p => bif Nat.blt p 140 then (bif Nat.blt p 70 then (bif Nat.blt p 35 then (bif Nat.blt p 17 then (bif Nat.blt p 8 then (0) else (bif Nat.blt p 12 then (0) else (bif Nat.blt p 14 then (0) else (1)))) else (bif Nat.blt p 26 then (bif Nat.blt p 21 then (bif Nat.blt p 19 then (bif Nat.blt p 18 then (1) else (2)) else (2)) else (2)) else (bif Nat.blt p 30 then (2) else (bif Nat.blt p 32 then (bif Nat.blt p 31 then (2) else (3)) else (3))))) else (bif Nat.blt p 52 then (bif Nat.blt p 43 then (3) else (bif Nat.blt p 47 then (3) else (bif Nat.blt p 49 then (3) else (4)))) else (bif Nat.blt p 61 then (bif Nat.blt p 56 then (4) else (5)) else (bif Nat.blt p 65 then (5) else (bif Nat.blt p 67 then (5) else (bif Nat.blt p 68 then (5) else (6))))))) else (bif Nat.blt p 105 then (bif Nat.blt p 87 then (bif Nat.blt p 78 then (bif Nat.blt p 74 then (bif Nat.blt p 72 then (6) else (bif Nat.blt p 73 then (6) else (7))) else (7)) else (bif Nat.blt p 82 then (7) else (8))) else (bif Nat.blt p 96 then (9) else (bif Nat.blt p 100 then (9) else (bif Nat.blt p 102 then (9) else (10))))) else (10))) else (bif Nat.blt p 210 then (bif Nat.blt p 175 then (bif Nat.blt p 157 then (10) else (bif Nat.blt p 166 then (10) else (bif Nat.blt p 170 then (bif Nat.blt p 168 then (10) else (11)) else (11)))) else (11)) else (bif Nat.blt p 245 then (11) else (bif Nat.blt p 263 then (11) else (bif Nat.blt p 272 then (11) else (bif Nat.blt p 276 then (11) else (bif Nat.blt p 278 then (11) else (bif Nat.blt p 279 then (11) else (13))))))))
def ri_chk (a : Nat) : Bool := (List.range (ri_len a)).all (ri_one2 (ri_oc a) (ri_y a).name (ri_b a) (ri_code a))
theorem ri_k0 : ri_mk 0 = true := by decide +kernel
theorem ri_cz0 : ri_chk 0 = true := by decide +kernel
theorem ri_k1 : ri_mk 1 = true := by decide +kernel
theorem ri_cz1 : ri_chk 1 = true := by decide +kernel
theorem ri_k2 : ri_mk 2 = true := by decide +kernel
theorem ri_cz2 : ri_chk 2 = true := by decide +kernel
theorem ri_k3 : ri_mk 3 = true := by decide +kernel
theorem ri_cz3 : ri_chk 3 = true := by decide +kernel
theorem ri_k4 : ri_mk 4 = true := by decide +kernel
theorem ri_cz4 : ri_chk 4 = true := by decide +kernel
theorem ri_k5 : ri_mk 5 = true := by decide +kernel
theorem ri_cz5 : ri_chk 5 = true := by decide +kernel
theorem ri_k6 : ri_mk 6 = true := by decide +kernel
theorem ri_cz6 : ri_chk 6 = true := by decide +kernel
theorem ri_k7 : ri_mk 7 = true := by decide +kernel
theorem ri_cz7 : ri_chk 7 = true := by decide +kernel
theorem ri_k8 : ri_mk 8 = true := by decide +kernel
theorem ri_cz8 : ri_chk 8 = true := by decide +kernel
theorem ri_k9 : ri_mk 9 = true := by decide +kernel
theorem ri_cz9 : ri_chk 9 = true := by decide +kernel
theorem ri_k10 : ri_mk 10 = true := by decide +kernel
theorem ri_cz10 : ri_chk 10 = true := by decide +kernel
theorem ri_k11 : ri_mk 11 = true := by decide +kernel
theorem ri_cz11 : ri_chk 11 = true := by decide +kernel
theorem ri_k12 : ri_mk 12 = true := by decide +kernel
theorem ri_cz12 : ri_chk 12 = true := by decide +kernel
theorem ri_k13 : ri_mk 13 = true := by decide +kernel
theorem ri_cz13 : ri_chk 13 = true := by decide +kernel
theorem ri_k14 : ri_mk 14 = true := by decide +kernel
theorem ri_cz14 : ri_chk 14 = true := by decide +kernel
theorem ri_k15 : ri_mk 15 = true := by decide +kernel
theorem ri_cz15 : ri_chk 15 = true := by decide +kernel
theorem ri_k16 : ri_mk 16 = true := by decide +kernel
theorem ri_cz16 : ri_chk 16 = true := by decide +kernel
theorem ri_k17 : ri_mk 17 = true := by decide +kernel
theorem ri_cz17 : ri_chk 17 = true := by decide +kernel
theorem ri_k18 : ri_mk 18 = true := by decide +kernel
theorem ri_cz18 : ri_chk 18 = true := by decide +kernel
theorem ri_k19 : ri_mk 19 = true := by decide +kernel
theorem ri_cz19 : ri_chk 19 = true := by decide +kernel
theorem ri_k20 : ri_mk 20 = true := by decide +kernel
theorem ri_cz20 : ri_chk 20 = true := by decide +kernel
theorem ri_k21 : ri_mk 21 = true := by decide +kernel
theorem ri_cz21 : ri_chk 21 = true := by decide +kernel
theorem ri_k22 : ri_mk 22 = true := by decide +kernel
theorem ri_cz22 : ri_chk 22 = true := by decide +kernel
theorem ri_k23 : ri_mk 23 = true := by decide +kernel
theorem ri_cz23 : ri_chk 23 = true := by decide +kernel
theorem ri_k24 : ri_mk 24 = true := by decide +kernel
theorem ri_cz24 : ri_chk 24 = true := by decide +kernel
theorem ri_k25 : ri_mk 25 = true := by decide +kernel
theorem ri_cz25 : ri_chk 25 = true := by decide +kernel
theorem ri_k26 : ri_mk 26 = true := by decide +kernel
theorem ri_cz26 : ri_chk 26 = true := by decide +kernel
theorem ri_k27 : ri_mk 27 = true := by decide +kernel
theorem ri_cz27 : ri_chk 27 = true := by decide +kernel
theorem ri_k28 : ri_mk 28 = true := by decide +kernel
theorem ri_cz28 : ri_chk 28 = true := by decide +kernel
theorem ri_k29 : ri_mk 29 = true := by decide +kernel
theorem ri_cz29 : ri_chk 29 = true := by decide +kernel
theorem ri_k30 : ri_mk 30 = true := by decide +kernel
theorem ri_cz30 : ri_chk 30 = true := by decide +kernel
theorem ri_k31 : ri_mk 31 = true := by decide +kernel
theorem ri_cz31 : ri_chk 31 = true := by decide +kernel
theorem ri_k32 : ri_mk 32 = true := by decide +kernel
theorem ri_cz32 : ri_chk 32 = true := by decide +kernel
theorem ri_k33 : ri_mk 33 = true := by decide +kernel
theorem ri_cz33 : ri_chk 33 = true := by decide +kernel
theorem ri_k34 : ri_mk 34 = true := by decide +kernel
theorem ri_cz34 : ri_chk 34 = true := by decide +kernel
theorem ri_k35 : ri_mk 35 = true := by decide +kernel
theorem ri_cz35 : ri_chk 35 = true := by decide +kernel
theorem ri_k36 : ri_mk 36 = true := by decide +kernel
theorem ri_cz36 : ri_chk 36 = true := by decide +kernel
theorem ri_k37 : ri_mk 37 = true := by decide +kernel
theorem ri_cz37 : ri_chk 37 = true := by decide +kernel
theorem ri_k38 : ri_mk 38 = true := by decide +kernel
theorem ri_cz38 : ri_chk 38 = true := by decide +kernel
theorem ri_k39 : ri_mk 39 = true := by decide +kernel
theorem ri_cz39 : ri_chk 39 = true := by decide +kernel
theorem ri_k40 : ri_mk 40 = true := by decide +kernel
theorem ri_cz40 : ri_chk 40 = true := by decide +kernel
theorem ri_k41 : ri_mk 41 = true := by decide +kernel
theorem ri_cz41 : ri_chk 41 = true := by decide +kernel
theorem ri_k42 : ri_mk 42 = true := by decide +kernel
theorem ri_cz42 : ri_chk 42 = true := by decide +kernel
theorem ri_k43 : ri_mk 43 = true := by decide +kernel
theorem ri_cz43 : ri_chk 43 = true := by decide +kernel
theorem ri_k44 : ri_mk 44 = true := by decide +kernel
theorem ri_cz44 : ri_chk 44 = true := by decide +kernel
theorem ri_k45 : ri_mk 45 = true := by decide +kernel
theorem ri_cz45 : ri_chk 45 = true := by decide +kernel
theorem ri_k46 : ri_mk 46 = true := by decide +kernel
theorem ri_cz46 : ri_chk 46 = true := by decide +kernel
theorem ri_k47 : ri_mk 47 = true := by decide +kernel
theorem ri_cz47 : ri_chk 47 = true := by decide +kernel
theorem ri_k48 : ri_mk 48 = true := by decide +kernel
theorem ri_cz48 : ri_chk 48 = true := by decide +kernel
theorem ri_k49 : ri_mk 49 = true := by decide +kernel
theorem ri_cz49 : ri_chk 49 = true := by decide +kernel
theorem ri_k50 : ri_mk 50 = true := by decide +kernel
theorem ri_cz50 : ri_chk 50 = true := by decide +kernel
theorem ri_k51 : ri_mk 51 = true := by decide +kernel
theorem ri_cz51 : ri_chk 51 = true := by decide +kernel
theorem ri_k52 : ri_mk 52 = true := by decide +kernel
theorem ri_cz52 : ri_chk 52 = true := by decide +kernel
theorem ri_k53 : ri_mk 53 = true := by decide +kernel
theorem ri_cz53 : ri_chk 53 = true := by decide +kernel
theorem ri_k54 : ri_mk 54 = true := by decide +kernel
theorem ri_cz54 : ri_chk 54 = true := by decide +kernel
theorem ri_k55 : ri_mk 55 = true := by decide +kernel
theorem ri_cz55 : ri_chk 55 = true := by decide +kernel
theorem ri_k56 : ri_mk 56 = true := by decide +kernel
theorem ri_cz56 : ri_chk 56 = true := by decide +kernel
theorem ri_k57 : ri_mk 57 = true := by decide +kernel
theorem ri_cz57 : ri_chk 57 = true := by decide +kernel
theorem ri_k58 : ri_mk 58 = true := by decide +kernel
theorem ri_cz58 : ri_chk 58 = true := by decide +kernel
theorem ri_k59 : ri_mk 59 = true := by decide +kernel
theorem ri_cz59 : ri_chk 59 = true := by decide +kernel
theorem ri_k60 : ri_mk 60 = true := by decide +kernel
theorem ri_cz60 : ri_chk 60 = true := by decide +kernel
theorem ri_k61 : ri_mk 61 = true := by decide +kernel
theorem ri_cz61 : ri_chk 61 = true := by decide +kernel
theorem ri_k62 : ri_mk 62 = true := by decide +kernel
theorem ri_cz62 : ri_chk 62 = true := by decide +kernel
theorem ri_k63 : ri_mk 63 = true := by decide +kernel
theorem ri_cz63 : ri_chk 63 = true := by decide +kernel
theorem ri_k64 : ri_mk 64 = true := by decide +kernel
theorem ri_cz64 : ri_chk 64 = true := by decide +kernel
theorem ri_k65 : ri_mk 65 = true := by decide +kernel
theorem ri_cz65 : ri_chk 65 = true := by decide +kernel
theorem ri_k66 : ri_mk 66 = true := by decide +kernel
theorem ri_cz66 : ri_chk 66 = true := by decide +kernel
theorem ri_k67 : ri_mk 67 = true := by decide +kernel
theorem ri_cz67 : ri_chk 67 = true := by decide +kernel
theorem ri_k68 : ri_mk 68 = true := by decide +kernel
theorem ri_cz68 : ri_chk 68 = true := by decide +kernel
theorem ri_k69 : ri_mk 69 = true := by decide +kernel
theorem ri_cz69 : ri_chk 69 = true := by decide +kernel
theorem ri_k70 : ri_mk 70 = true := by decide +kernel
theorem ri_cz70 : ri_chk 70 = true := by decide +kernel
theorem ri_k71 : ri_mk 71 = true := by decide +kernel
theorem ri_cz71 : ri_chk 71 = true := by decide +kernel
theorem ri_k72 : ri_mk 72 = true := by decide +kernel
theorem ri_cz72 : ri_chk 72 = true := by decide +kernel
theorem ri_k73 : ri_mk 73 = true := by decide +kernel
theorem ri_cz73 : ri_chk 73 = true := by decide +kernel
theorem ri_k74 : ri_mk 74 = true := by decide +kernel
theorem ri_cz74 : ri_chk 74 = true := by decide +kernel
theorem ri_k75 : ri_mk 75 = true := by decide +kernel
theorem ri_cz75 : ri_chk 75 = true := by decide +kernel
theorem ri_k76 : ri_mk 76 = true := by decide +kernel
theorem ri_cz76 : ri_chk 76 = true := by decide +kernel
theorem ri_k77 : ri_mk 77 = true := by decide +kernel
theorem ri_cz77 : ri_chk 77 = true := by decide +kernel
theorem ri_k78 : ri_mk 78 = true := by decide +kernel
theorem ri_cz78 : ri_chk 78 = true := by decide +kernel
theorem ri_k79 : ri_mk 79 = true := by decide +kernel
theorem ri_cz79 : ri_chk 79 = true := by decide +kernel
theorem ri_k80 : ri_mk 80 = true := by decide +kernel
theorem ri_cz80 : ri_chk 80 = true := by decide +kernel
theorem ri_k81 : ri_mk 81 = true := by decide +kernel
theorem ri_cz81 : ri_chk 81 = true := by decide +kernel
theorem ri_k82 : ri_mk 82 = true := by decide +kernel
theorem ri_cz82 : ri_chk 82 = true := by decide +kernel
theorem ri_k83 : ri_mk 83 = true := by decide +kernel
theorem ri_cz83 : ri_chk 83 = true := by decide +kernel
theorem ri_k84 : ri_mk 84 = true := by decide +kernel
theorem ri_cz84 : ri_chk 84 = true := by decide +kernel
theorem ri_k85 : ri_mk 85 = true := by decide +kernel
theorem ri_cz85 : ri_chk 85 = true := by decide +kernel
theorem ri_k86 : ri_mk 86 = true := by decide +kernel
theorem ri_cz86 : ri_chk 86 = true := by decide +kernel
theorem ri_k87 : ri_mk 87 = true := by decide +kernel
theorem ri_cz87 : ri_chk 87 = true := by decide +kernel
theorem ri_k88 : ri_mk 88 = true := by decide +kernel
theorem ri_cz88 : ri_chk 88 = true := by decide +kernel
theorem ri_k89 : ri_mk 89 = true := by decide +kernel
theorem ri_cz89 : ri_chk 89 = true := by decide +kernel
theorem ri_k90 : ri_mk 90 = true := by decide +kernel
theorem ri_cz90 : ri_chk 90 = true := by decide +kernel
theorem ri_k91 : ri_mk 91 = true := by decide +kernel
theorem ri_cz91 : ri_chk 91 = true := by decide +kernel
theorem ri_k92 : ri_mk 92 = true := by decide +kernel
theorem ri_cz92 : ri_chk 92 = true := by decide +kernel
theorem ri_k93 : ri_mk 93 = true := by decide +kernel
theorem ri_cz93 : ri_chk 93 = true := by decide +kernel
theorem ri_k94 : ri_mk 94 = true := by decide +kernel
theorem ri_cz94 : ri_chk 94 = true := by decide +kernel
theorem ri_k95 : ri_mk 95 = true := by decide +kernel
theorem ri_cz95 : ri_chk 95 = true := by decide +kernel
theorem ri_k96 : ri_mk 96 = true := by decide +kernel
theorem ri_cz96 : ri_chk 96 = true := by decide +kernel
theorem ri_k97 : ri_mk 97 = true := by decide +kernel
theorem ri_cz97 : ri_chk 97 = true := by decide +kernel
theorem ri_k98 : ri_mk 98 = true := by decide +kernel
theorem ri_cz98 : ri_chk 98 = true := by decide +kernel
theorem ri_k99 : ri_mk 99 = true := by decide +kernel
theorem ri_cz99 : ri_chk 99 = true := by decide +kernel
theorem ri_k100 : ri_mk 100 = true := by decide +kernel
theorem ri_cz100 : ri_chk 100 = true := by decide +kernel
theorem ri_k101 : ri_mk 101 = true := by decide +kernel
theorem ri_cz101 : ri_chk 101 = true := by decide +kernel
theorem ri_k102 : ri_mk 102 = true := by decide +kernel
theorem ri_cz102 : ri_chk 102 = true := by decide +kernel
theorem ri_k103 : ri_mk 103 = true := by decide +kernel
theorem ri_cz103 : ri_chk 103 = true := by decide +kernel
theorem ri_k104 : ri_mk 104 = true := by decide +kernel
theorem ri_cz104 : ri_chk 104 = true := by decide +kernel
theorem ri_k105 : ri_mk 105 = true := by decide +kernel
theorem ri_cz105 : ri_chk 105 = true := by decide +kernel
theorem ri_k106 : ri_mk 106 = true := by decide +kernel
theorem ri_cz106 : ri_chk 106 = true := by decide +kernel
theorem ri_k107 : ri_mk 107 = true := by decide +kernel
theorem ri_cz107 : ri_chk 107 = true := by decide +kernel
theorem ri_k108 : ri_mk 108 = true := by decide +kernel
theorem ri_cz108 : ri_chk 108 = true := by decide +kernel
theorem ri_k109 : ri_mk 109 = true := by decide +kernel
theorem ri_cz109 : ri_chk 109 = true := by decide +kernel
theorem ri_k110 : ri_mk 110 = true := by decide +kernel
theorem ri_cz110 : ri_chk 110 = true := by decide +kernel
theorem ri_k111 : ri_mk 111 = true := by decide +kernel
theorem ri_cz111 : ri_chk 111 = true := by decide +kernel
theorem ri_k112 : ri_mk 112 = true := by decide +kernel
theorem ri_cz112 : ri_chk 112 = true := by decide +kernel
theorem ri_k113 : ri_mk 113 = true := by decide +kernel
theorem ri_cz113 : ri_chk 113 = true := by decide +kernel
theorem ri_k114 : ri_mk 114 = true := by decide +kernel
theorem ri_cz114 : ri_chk 114 = true := by decide +kernel
theorem ri_k115 : ri_mk 115 = true := by decide +kernel
theorem ri_cz115 : ri_chk 115 = true := by decide +kernel
theorem ri_k116 : ri_mk 116 = true := by decide +kernel
theorem ri_cz116 : ri_chk 116 = true := by decide +kernel
theorem ri_k117 : ri_mk 117 = true := by decide +kernel
theorem ri_cz117 : ri_chk 117 = true := by decide +kernel
theorem ri_k118 : ri_mk 118 = true := by decide +kernel
theorem ri_cz118 : ri_chk 118 = true := by decide +kernel
theorem ri_k119 : ri_mk 119 = true := by decide +kernel
theorem ri_cz119 : ri_chk 119 = true := by decide +kernel
theorem ri_k120 : ri_mk 120 = true := by decide +kernel
theorem ri_cz120 : ri_chk 120 = true := by decide +kernel
theorem ri_k121 : ri_mk 121 = true := by decide +kernel
theorem ri_cz121 : ri_chk 121 = true := by decide +kernel
theorem ri_k122 : ri_mk 122 = true := by decide +kernel
theorem ri_cz122 : ri_chk 122 = true := by decide +kernel
theorem ri_k123 : ri_mk 123 = true := by decide +kernel
theorem ri_cz123 : ri_chk 123 = true := by decide +kernel
theorem ri_k124 : ri_mk 124 = true := by decide +kernel
theorem ri_cz124 : ri_chk 124 = true := by decide +kernel
theorem ri_k125 : ri_mk 125 = true := by decide +kernel
theorem ri_cz125 : ri_chk 125 = true := by decide +kernel
theorem ri_k126 : ri_mk 126 = true := by decide +kernel
theorem ri_cz126 : ri_chk 126 = true := by decide +kernel
theorem ri_k127 : ri_mk 127 = true := by decide +kernel
theorem ri_cz127 : ri_chk 127 = true := by decide +kernel
theorem ri_k128 : ri_mk 128 = true := by decide +kernel
theorem ri_cz128 : ri_chk 128 = true := by decide +kernel
theorem ri_k129 : ri_mk 129 = true := by decide +kernel
theorem ri_cz129 : ri_chk 129 = true := by decide +kernel
theorem ri_k130 : ri_mk 130 = true := by decide +kernel
theorem ri_cz130 : ri_chk 130 = true := by decide +kernel
theorem ri_k131 : ri_mk 131 = true := by decide +kernel
theorem ri_cz131 : ri_chk 131 = true := by decide +kernel
theorem ri_k132 : ri_mk 132 = true := by decide +kernel
theorem ri_cz132 : ri_chk 132 = true := by decide +kernel
theorem ri_k133 : ri_mk 133 = true := by decide +kernel
theorem ri_cz133 : ri_chk 133 = true := by decide +kernel
theorem ri_k134 : ri_mk 134 = true := by decide +kernel
theorem ri_cz134 : ri_chk 134 = true := by decide +kernel
theorem ri_k135 : ri_mk 135 = true := by decide +kernel
theorem ri_cz135 : ri_chk 135 = true := by decide +kernel
theorem ri_k136 : ri_mk 136 = true := by decide +kernel
theorem ri_cz136 : ri_chk 136 = true := by decide +kernel
theorem ri_k137 : ri_mk 137 = true := by decide +kernel
theorem ri_cz137 : ri_chk 137 = true := by decide +kernel
theorem ri_k138 : ri_mk 138 = true := by decide +kernel
theorem ri_cz138 : ri_chk 138 = true := by decide +kernel
theorem ri_k139 : ri_mk 139 = true := by decide +kernel
theorem ri_cz139 : ri_chk 139 = true := by decide +kernel
theorem ri_k140 : ri_mk 140 = true := by decide +kernel
theorem ri_cz140 : ri_chk 140 = true := by decide +kernel
theorem ri_k141 : ri_mk 141 = true := by decide +kernel
theorem ri_cz141 : ri_chk 141 = true := by decide +kernel
theorem ri_k142 : ri_mk 142 = true := by decide +kernel
theorem ri_cz142 : ri_chk 142 = true := by decide +kernel
theorem ri_k143 : ri_mk 143 = true := by decide +kernel
theorem ri_cz143 : ri_chk 143 = true := by decide +kernel
theorem ri_k144 : ri_mk 144 = true := by decide +kernel
theorem ri_cz144 : ri_chk 144 = true := by decide +kernel
theorem ri_k145 : ri_mk 145 = true := by decide +kernel
theorem ri_cz145 : ri_chk 145 = true := by decide +kernel
theorem ri_k146 : ri_mk 146 = true := by decide +kernel
theorem ri_cz146 : ri_chk 146 = true := by decide +kernel
theorem ri_k147 : ri_mk 147 = true := by decide +kernel
theorem ri_cz147 : ri_chk 147 = true := by decide +kernel
theorem ri_k148 : ri_mk 148 = true := by decide +kernel
theorem ri_cz148 : ri_chk 148 = true := by decide +kernel
theorem ri_k149 : ri_mk 149 = true := by decide +kernel
theorem ri_cz149 : ri_chk 149 = true := by decide +kernel
theorem ri_k150 : ri_mk 150 = true := by decide +kernel
theorem ri_cz150 : ri_chk 150 = true := by decide +kernel
theorem ri_k151 : ri_mk 151 = true := by decide +kernel
theorem ri_cz151 : ri_chk 151 = true := by decide +kernel
theorem ri_k152 : ri_mk 152 = true := by decide +kernel
theorem ri_cz152 : ri_chk 152 = true := by decide +kernel
theorem ri_k153 : ri_mk 153 = true := by decide +kernel
theorem ri_cz153 : ri_chk 153 = true := by decide +kernel
theorem ri_k154 : ri_mk 154 = true := by decide +kernel
theorem ri_cz154 : ri_chk 154 = true := by decide +kernel
theorem ri_k155 : ri_mk 155 = true := by decide +kernel
theorem ri_cz155 : ri_chk 155 = true := by decide +kernel
theorem ri_k156 : ri_mk 156 = true := by decide +kernel
theorem ri_cz156 : ri_chk 156 = true := by decide +kernel
theorem ri_k157 : ri_mk 157 = true := by decide +kernel
theorem ri_cz157 : ri_chk 157 = true := by decide +kernel
theorem ri_k158 : ri_mk 158 = true := by decide +kernel
theorem ri_cz158 : ri_chk 158 = true := by decide +kernel
theorem ri_k159 : ri_mk 159 = true := by decide +kernel
theorem ri_cz159 : ri_chk 159 = true := by decide +kernel
theorem ri_k160 : ri_mk 160 = true := by decide +kernel
theorem ri_cz160 : ri_chk 160 = true := by decide +kernel
theorem ri_k161 : ri_mk 161 = true := by decide +kernel
theorem ri_cz161 : ri_chk 161 = true := by decide +kernel
theorem ri_k162 : ri_mk 162 = true := by decide +kernel
theorem ri_cz162 : ri_chk 162 = true := by decide +kernel
theorem ri_k163 : ri_mk 163 = true := by decide +kernel
theorem ri_cz163 : ri_chk 163 = true := by decide +kernel
theorem ri_k164 : ri_mk 164 = true := by decide +kernel
theorem ri_cz164 : ri_chk 164 = true := by decide +kernel
theorem ri_k165 : ri_mk 165 = true := by decide +kernel
theorem ri_cz165 : ri_chk 165 = true := by decide +kernel
theorem ri_k166 : ri_mk 166 = true := by decide +kernel
theorem ri_cz166 : ri_chk 166 = true := by decide +kernel
theorem ri_k167 : ri_mk 167 = true := by decide +kernel
theorem ri_cz167 : ri_chk 167 = true := by decide +kernel
theorem ri_k168 : ri_mk 168 = true := by decide +kernel
theorem ri_cz168 : ri_chk 168 = true := by decide +kernel
theorem ri_k169 : ri_mk 169 = true := by decide +kernel
theorem ri_cz169 : ri_chk 169 = true := by decide +kernel
theorem ri_k170 : ri_mk 170 = true := by decide +kernel
theorem ri_cz170 : ri_chk 170 = true := by decide +kernel
theorem ri_k171 : ri_mk 171 = true := by decide +kernel
theorem ri_cz171 : ri_chk 171 = true := by decide +kernel
theorem ri_k172 : ri_mk 172 = true := by decide +kernel
theorem ri_cz172 : ri_chk 172 = true := by decide +kernel
theorem ri_k173 : ri_mk 173 = true := by decide +kernel
theorem ri_cz173 : ri_chk 173 = true := by decide +kernel
theorem ri_k174 : ri_mk 174 = true := by decide +kernel
theorem ri_cz174 : ri_chk 174 = true := by decide +kernel
theorem ri_k175 : ri_mk 175 = true := by decide +kernel
theorem ri_cz175 : ri_chk 175 = true := by decide +kernel
theorem ri_k176 : ri_mk 176 = true := by decide +kernel
theorem ri_cz176 : ri_chk 176 = true := by decide +kernel
theorem ri_k177 : ri_mk 177 = true := by decide +kernel
theorem ri_cz177 : ri_chk 177 = true := by decide +kernel
theorem ri_k178 : ri_mk 178 = true := by decide +kernel
theorem ri_cz178 : ri_chk 178 = true := by decide +kernel
theorem ri_k179 : ri_mk 179 = true := by decide +kernel
theorem ri_cz179 : ri_chk 179 = true := by decide +kernel
theorem ri_k180 : ri_mk 180 = true := by decide +kernel
theorem ri_cz180 : ri_chk 180 = true := by decide +kernel
theorem ri_k181 : ri_mk 181 = true := by decide +kernel
theorem ri_cz181 : ri_chk 181 = true := by decide +kernel
theorem ri_k182 : ri_mk 182 = true := by decide +kernel
theorem ri_cz182 : ri_chk 182 = true := by decide +kernel
theorem ri_k183 : ri_mk 183 = true := by decide +kernel
theorem ri_cz183 : ri_chk 183 = true := by decide +kernel
theorem ri_k184 : ri_mk 184 = true := by decide +kernel
theorem ri_cz184 : ri_chk 184 = true := by decide +kernel
theorem ri_k185 : ri_mk 185 = true := by decide +kernel
theorem ri_cz185 : ri_chk 185 = true := by decide +kernel
theorem ri_k186 : ri_mk 186 = true := by decide +kernel
theorem ri_cz186 : ri_chk 186 = true := by decide +kernel
theorem ri_k187 : ri_mk 187 = true := by decide +kernel
theorem ri_cz187 : ri_chk 187 = true := by decide +kernel
theorem ri_k188 : ri_mk 188 = true := by decide +kernel
theorem ri_cz188 : ri_chk 188 = true := by decide +kernel
theorem ri_k189 : ri_mk 189 = true := by decide +kernel
theorem ri_cz189 : ri_chk 189 = true := by decide +kernel
theorem ri_k190 : ri_mk 190 = true := by decide +kernel
theorem ri_cz190 : ri_chk 190 = true := by decide +kernel
theorem ri_k191 : ri_mk 191 = true := by decide +kernel
theorem ri_cz191 : ri_chk 191 = true := by decide +kernel
theorem ri_k192 : ri_mk 192 = true := by decide +kernel
theorem ri_cz192 : ri_chk 192 = true := by decide +kernel
theorem ri_k193 : ri_mk 193 = true := by decide +kernel
theorem ri_cz193 : ri_chk 193 = true := by decide +kernel
theorem ri_k194 : ri_mk 194 = true := by decide +kernel
theorem ri_cz194 : ri_chk 194 = true := by decide +kernel
theorem ri_k195 : ri_mk 195 = true := by decide +kernel
theorem ri_cz195 : ri_chk 195 = true := by decide +kernel
theorem ri_k196 : ri_mk 196 = true := by decide +kernel
theorem ri_cz196 : ri_chk 196 = true := by decide +kernel
theorem ri_k197 : ri_mk 197 = true := by decide +kernel
theorem ri_cz197 : ri_chk 197 = true := by decide +kernel
theorem ri_k198 : ri_mk 198 = true := by decide +kernel
theorem ri_cz198 : ri_chk 198 = true := by decide +kernel
theorem ri_k199 : ri_mk 199 = true := by decide +kernel
theorem ri_cz199 : ri_chk 199 = true := by decide +kernel
theorem ri_k200 : ri_mk 200 = true := by decide +kernel
theorem ri_cz200 : ri_chk 200 = true := by decide +kernel
theorem ri_k201 : ri_mk 201 = true := by decide +kernel
theorem ri_cz201 : ri_chk 201 = true := by decide +kernel
theorem ri_k202 : ri_mk 202 = true := by decide +kernel
theorem ri_cz202 : ri_chk 202 = true := by decide +kernel
theorem ri_k203 : ri_mk 203 = true := by decide +kernel
theorem ri_cz203 : ri_chk 203 = true := by decide +kernel
theorem ri_k204 : ri_mk 204 = true := by decide +kernel
theorem ri_cz204 : ri_chk 204 = true := by decide +kernel
theorem ri_k205 : ri_mk 205 = true := by decide +kernel
theorem ri_cz205 : ri_chk 205 = true := by decide +kernel
theorem ri_k206 : ri_mk 206 = true := by decide +kernel
theorem ri_cz206 : ri_chk 206 = true := by decide +kernel
theorem ri_k207 : ri_mk 207 = true := by decide +kernel
theorem ri_cz207 : ri_chk 207 = true := by decide +kernel
theorem ri_k208 : ri_mk 208 = true := by decide +kernel
theorem ri_cz208 : ri_chk 208 = true := by decide +kernel
theorem ri_k209 : ri_mk 209 = true := by decide +kernel
theorem ri_cz209 : ri_chk 209 = true := by decide +kernel
theorem ri_k210 : ri_mk 210 = true := by decide +kernel
theorem ri_cz210 : ri_chk 210 = true := by decide +kernel
theorem ri_k211 : ri_mk 211 = true := by decide +kernel
theorem ri_cz211 : ri_chk 211 = true := by decide +kernel
theorem ri_k212 : ri_mk 212 = true := by decide +kernel
theorem ri_cz212 : ri_chk 212 = true := by decide +kernel
theorem ri_k213 : ri_mk 213 = true := by decide +kernel
theorem ri_cz213 : ri_chk 213 = true := by decide +kernel
theorem ri_k214 : ri_mk 214 = true := by decide +kernel
theorem ri_cz214 : ri_chk 214 = true := by decide +kernel
theorem ri_k215 : ri_mk 215 = true := by decide +kernel
theorem ri_cz215 : ri_chk 215 = true := by decide +kernel
theorem ri_k216 : ri_mk 216 = true := by decide +kernel
theorem ri_cz216 : ri_chk 216 = true := by decide +kernel
theorem ri_k217 : ri_mk 217 = true := by decide +kernel
theorem ri_cz217 : ri_chk 217 = true := by decide +kernel
theorem ri_k218 : ri_mk 218 = true := by decide +kernel
theorem ri_cz218 : ri_chk 218 = true := by decide +kernel
theorem ri_k219 : ri_mk 219 = true := by decide +kernel
theorem ri_cz219 : ri_chk 219 = true := by decide +kernel
theorem ri_k220 : ri_mk 220 = true := by decide +kernel
theorem ri_cz220 : ri_chk 220 = true := by decide +kernel
theorem ri_k221 : ri_mk 221 = true := by decide +kernel
theorem ri_cz221 : ri_chk 221 = true := by decide +kernel
theorem ri_k222 : ri_mk 222 = true := by decide +kernel
theorem ri_cz222 : ri_chk 222 = true := by decide +kernel
theorem ri_k223 : ri_mk 223 = true := by decide +kernel
theorem ri_cz223 : ri_chk 223 = true := by decide +kernel
theorem ri_k224 : ri_mk 224 = true := by decide +kernel
theorem ri_cz224 : ri_chk 224 = true := by decide +kernel
theorem ri_k225 : ri_mk 225 = true := by decide +kernel
theorem ri_cz225 : ri_chk 225 = true := by decide +kernel
theorem ri_k226 : ri_mk 226 = true := by decide +kernel
theorem ri_cz226 : ri_chk 226 = true := by decide +kernel
theorem ri_k227 : ri_mk 227 = true := by decide +kernel
theorem ri_cz227 : ri_chk 227 = true := by decide +kernel
theorem ri_k228 : ri_mk 228 = true := by decide +kernel
theorem ri_cz228 : ri_chk 228 = true := by decide +kernel
theorem ri_k229 : ri_mk 229 = true := by decide +kernel
theorem ri_cz229 : ri_chk 229 = true := by decide +kernel
theorem ri_k230 : ri_mk 230 = true := by decide +kernel
theorem ri_cz230 : ri_chk 230 = true := by decide +kernel
theorem ri_k231 : ri_mk 231 = true := by decide +kernel
theorem ri_cz231 : ri_chk 231 = true := by decide +kernel
theorem ri_k232 : ri_mk 232 = true := by decide +kernel
theorem ri_cz232 : ri_chk 232 = true := by decide +kernel
theorem ri_k233 : ri_mk 233 = true := by decide +kernel
theorem ri_cz233 : ri_chk 233 = true := by decide +kernel
theorem ri_k234 : ri_mk 234 = true := by decide +kernel
theorem ri_cz234 : ri_chk 234 = true := by decide +kernel
theorem ri_k235 : ri_mk 235 = true := by decide +kernel
theorem ri_cz235 : ri_chk 235 = true := by decide +kernel
theorem ri_k236 : ri_mk 236 = true := by decide +kernel
theorem ri_cz236 : ri_chk 236 = true := by decide +kernel
theorem ri_k237 : ri_mk 237 = true := by decide +kernel
theorem ri_cz237 : ri_chk 237 = true := by decide +kernel
theorem ri_k238 : ri_mk 238 = true := by decide +kernel
theorem ri_cz238 : ri_chk 238 = true := by decide +kernel
theorem ri_k239 : ri_mk 239 = true := by decide +kernel
theorem ri_cz239 : ri_chk 239 = true := by decide +kernel
theorem ri_k240 : ri_mk 240 = true := by decide +kernel
theorem ri_cz240 : ri_chk 240 = true := by decide +kernel
theorem ri_k241 : ri_mk 241 = true := by decide +kernel
theorem ri_cz241 : ri_chk 241 = true := by decide +kernel
theorem ri_k242 : ri_mk 242 = true := by decide +kernel
theorem ri_cz242 : ri_chk 242 = true := by decide +kernel
theorem ri_k243 : ri_mk 243 = true := by decide +kernel
theorem ri_cz243 : ri_chk 243 = true := by decide +kernel
theorem ri_k244 : ri_mk 244 = true := by decide +kernel
theorem ri_cz244 : ri_chk 244 = true := by decide +kernel
theorem ri_k245 : ri_mk 245 = true := by decide +kernel
theorem ri_cz245 : ri_chk 245 = true := by decide +kernel
theorem ri_k246 : ri_mk 246 = true := by decide +kernel
theorem ri_cz246 : ri_chk 246 = true := by decide +kernel
theorem ri_k247 : ri_mk 247 = true := by decide +kernel
theorem ri_cz247 : ri_chk 247 = true := by decide +kernel
theorem ri_k248 : ri_mk 248 = true := by decide +kernel
theorem ri_cz248 : ri_chk 248 = true := by decide +kernel
theorem ri_k249 : ri_mk 249 = true := by decide +kernel
theorem ri_cz249 : ri_chk 249 = true := by decide +kernel
theorem ri_k250 : ri_mk 250 = true := by decide +kernel
theorem ri_cz250 : ri_chk 250 = true := by decide +kernel
theorem ri_k251 : ri_mk 251 = true := by decide +kernel
theorem ri_cz251 : ri_chk 251 = true := by decide +kernel
theorem ri_k252 : ri_mk 252 = true := by decide +kernel
theorem ri_cz252 : ri_chk 252 = true := by decide +kernel
theorem ri_k253 : ri_mk 253 = true := by decide +kernel
theorem ri_cz253 : ri_chk 253 = true := by decide +kernel
theorem ri_k254 : ri_mk 254 = true := by decide +kernel
theorem ri_cz254 : ri_chk 254 = true := by decide +kernel
theorem ri_k255 : ri_mk 255 = true := by decide +kernel
theorem ri_cz255 : ri_chk 255 = true := by decide +kernel
theorem ri_k256 : ri_mk 256 = true := by decide +kernel
theorem ri_cz256 : ri_chk 256 = true := by decide +kernel
theorem ri_k257 : ri_mk 257 = true := by decide +kernel
theorem ri_cz257 : ri_chk 257 = true := by decide +kernel
theorem ri_k258 : ri_mk 258 = true := by decide +kernel
theorem ri_cz258 : ri_chk 258 = true := by decide +kernel
theorem ri_k259 : ri_mk 259 = true := by decide +kernel
theorem ri_cz259 : ri_chk 259 = true := by decide +kernel
theorem ri_k260 : ri_mk 260 = true := by decide +kernel
theorem ri_cz260 : ri_chk 260 = true := by decide +kernel
theorem ri_k261 : ri_mk 261 = true := by decide +kernel
theorem ri_cz261 : ri_chk 261 = true := by decide +kernel
theorem ri_k262 : ri_mk 262 = true := by decide +kernel
theorem ri_cz262 : ri_chk 262 = true := by decide +kernel
theorem ri_k263 : ri_mk 263 = true := by decide +kernel
theorem ri_cz263 : ri_chk 263 = true := by decide +kernel
theorem ri_k264 : ri_mk 264 = true := by decide +kernel
theorem ri_cz264 : ri_chk 264 = true := by decide +kernel
theorem ri_k265 : ri_mk 265 = true := by decide +kernel
theorem ri_cz265 : ri_chk 265 = true := by decide +kernel
theorem ri_k266 : ri_mk 266 = true := by decide +kernel
theorem ri_cz266 : ri_chk 266 = true := by decide +kernel
theorem ri_k267 : ri_mk 267 = true := by decide +kernel
theorem ri_cz267 : ri_chk 267 = true := by decide +kernel
theorem ri_k268 : ri_mk 268 = true := by decide +kernel
theorem ri_cz268 : ri_chk 268 = true := by decide +kernel
theorem ri_k269 : ri_mk 269 = true := by decide +kernel
theorem ri_cz269 : ri_chk 269 = true := by decide +kernel
theorem ri_k270 : ri_mk 270 = true := by decide +kernel
theorem ri_cz270 : ri_chk 270 = true := by decide +kernel
theorem ri_k271 : ri_mk 271 = true := by decide +kernel
theorem ri_cz271 : ri_chk 271 = true := by decide +kernel
theorem ri_k272 : ri_mk 272 = true := by decide +kernel
theorem ri_cz272 : ri_chk 272 = true := by decide +kernel
theorem ri_k273 : ri_mk 273 = true := by decide +kernel
theorem ri_cz273 : ri_chk 273 = true := by decide +kernel
theorem ri_k274 : ri_mk 274 = true := by decide +kernel
theorem ri_cz274 : ri_chk 274 = true := by decide +kernel
theorem ri_k275 : ri_mk 275 = true := by decide +kernel
theorem ri_cz275 : ri_chk 275 = true := by decide +kernel
theorem ri_k276 : ri_mk 276 = true := by decide +kernel
theorem ri_cz276 : ri_chk 276 = true := by decide +kernel
theorem ri_k277 : ri_mk 277 = true := by decide +kernel
theorem ri_cz277 : ri_chk 277 = true := by decide +kernel
theorem ri_k278 : ri_mk 278 = true := by decide +kernel
theorem ri_cz278 : ri_chk 278 = true := by decide +kernel
theorem ri_k279 : ri_mk 279 = true := by decide +kernel
theorem ri_cz279 : ri_chk 279 = true := by decide +kernel
theorem ri_k280 : ri_mk 280 = true := by decide +kernel
theorem ri_cz280 : ri_chk 280 = true := by decide +kernel
