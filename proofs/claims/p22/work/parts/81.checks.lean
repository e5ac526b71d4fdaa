/-! The checks, all in one. -/
theorem ri_onA_0 : ∀ a, a < 0 → ri_on (ri_oc a) = (ri_y a).cls := fun _ h => absurd h (Nat.not_lt_zero _)
theorem ri_onA_1 : ∀ a, a < 1 → ri_on (ri_oc a) = (ri_y a).cls := ri_ls ri_onA_0 ri_o0
theorem ri_onA_2 : ∀ a, a < 2 → ri_on (ri_oc a) = (ri_y a).cls := ri_ls ri_onA_1 ri_o1
theorem ri_onA_3 : ∀ a, a < 3 → ri_on (ri_oc a) = (ri_y a).cls := ri_ls ri_onA_2 ri_o2
theorem ri_onA_4 : ∀ a, a < 4 → ri_on (ri_oc a) = (ri_y a).cls := ri_ls ri_onA_3 ri_o3
theorem ri_onA_5 : ∀ a, a < 5 → ri_on (ri_oc a) = (ri_y a).cls := ri_ls ri_onA_4 ri_o4
theorem ri_onA_6 : ∀ a, a < 6 → ri_on (ri_oc a) = (ri_y a).cls := ri_ls ri_onA_5 ri_o5
theorem ri_onA_7 : ∀ a, a < 7 → ri_on (ri_oc a) = (ri_y a).cls := ri_ls ri_onA_6 ri_o6
theorem ri_onA_8 : ∀ a, a < 8 → ri_on (ri_oc a) = (ri_y a).cls := ri_ls ri_onA_7 ri_o7
theorem ri_onA_9 : ∀ a, a < 9 → ri_on (ri_oc a) = (ri_y a).cls := ri_ls ri_onA_8 ri_o8
theorem ri_onA_10 : ∀ a, a < 10 → ri_on (ri_oc a) = (ri_y a).cls := ri_ls ri_onA_9 ri_o9
theorem ri_onA_11 : ∀ a, a < 11 → ri_on (ri_oc a) = (ri_y a).cls := ri_ls ri_onA_10 ri_o10
theorem ri_onA_12 : ∀ a, a < 12 → ri_on (ri_oc a) = (ri_y a).cls := ri_ls ri_onA_11 ri_o11
theorem ri_onA_13 : ∀ a, a < 13 → ri_on (ri_oc a) = (ri_y a).cls := ri_ls ri_onA_12 ri_o12
theorem ri_onA_14 : ∀ a, a < 14 → ri_on (ri_oc a) = (ri_y a).cls := ri_ls ri_onA_13 ri_o13
theorem ri_onA_15 : ∀ a, a < 15 → ri_on (ri_oc a) = (ri_y a).cls := ri_ls ri_onA_14 ri_o14
theorem ri_onA_16 : ∀ a, a < 16 → ri_on (ri_oc a) = (ri_y a).cls := ri_ls ri_onA_15 ri_o15
theorem ri_onA_17 : ∀ a, a < 17 → ri_on (ri_oc a) = (ri_y a).cls := ri_ls ri_onA_16 ri_o16
theorem ri_onA_18 : ∀ a, a < 18 → ri_on (ri_oc a) = (ri_y a).cls := ri_ls ri_onA_17 ri_o17
theorem ri_onA_19 : ∀ a, a < 19 → ri_on (ri_oc a) = (ri_y a).cls := ri_ls ri_onA_18 ri_o18
theorem ri_onA_20 : ∀ a, a < 20 → ri_on (ri_oc a) = (ri_y a).cls := ri_ls ri_onA_19 ri_o19
theorem ri_onA_21 : ∀ a, a < 21 → ri_on (ri_oc a) = (ri_y a).cls := ri_ls ri_onA_20 ri_o20
theorem ri_onA_22 : ∀ a, a < 22 → ri_on (ri_oc a) = (ri_y a).cls := ri_ls ri_onA_21 ri_o21
theorem ri_onA_23 : ∀ a, a < 23 → ri_on (ri_oc a) = (ri_y a).cls := ri_ls ri_onA_22 ri_o22
theorem ri_onA_24 : ∀ a, a < 24 → ri_on (ri_oc a) = (ri_y a).cls := ri_ls ri_onA_23 ri_o23
theorem ri_onA_25 : ∀ a, a < 25 → ri_on (ri_oc a) = (ri_y a).cls := ri_ls ri_onA_24 ri_o24
theorem ri_onA_26 : ∀ a, a < 26 → ri_on (ri_oc a) = (ri_y a).cls := ri_ls ri_onA_25 ri_o25
theorem ri_onA_27 : ∀ a, a < 27 → ri_on (ri_oc a) = (ri_y a).cls := ri_ls ri_onA_26 ri_o26
theorem ri_onA_28 : ∀ a, a < 28 → ri_on (ri_oc a) = (ri_y a).cls := ri_ls ri_onA_27 ri_o27
theorem ri_onA_29 : ∀ a, a < 29 → ri_on (ri_oc a) = (ri_y a).cls := ri_ls ri_onA_28 ri_o28
theorem ri_onA_30 : ∀ a, a < 30 → ri_on (ri_oc a) = (ri_y a).cls := ri_ls ri_onA_29 ri_o29
theorem ri_onA_31 : ∀ a, a < 31 → ri_on (ri_oc a) = (ri_y a).cls := ri_ls ri_onA_30 ri_o30
theorem ri_onA_32 : ∀ a, a < 32 → ri_on (ri_oc a) = (ri_y a).cls := ri_ls ri_onA_31 ri_o31
theorem ri_onA_33 : ∀ a, a < 33 → ri_on (ri_oc a) = (ri_y a).cls := ri_ls ri_onA_32 ri_o32
theorem ri_onA_34 : ∀ a, a < 34 → ri_on (ri_oc a) = (ri_y a).cls := ri_ls ri_onA_33 ri_o33
theorem ri_onA_35 : ∀ a, a < 35 → ri_on (ri_oc a) = (ri_y a).cls := ri_ls ri_onA_34 ri_o34
theorem ri_onA_36 : ∀ a, a < 36 → ri_on (ri_oc a) = (ri_y a).cls := ri_ls ri_onA_35 ri_o35
theorem ri_onA_37 : ∀ a, a < 37 → ri_on (ri_oc a) = (ri_y a).cls := ri_ls ri_onA_36 ri_o36
theorem ri_onA_38 : ∀ a, a < 38 → ri_on (ri_oc a) = (ri_y a).cls := ri_ls ri_onA_37 ri_o37
theorem ri_onA_39 : ∀ a, a < 39 → ri_on (ri_oc a) = (ri_y a).cls := ri_ls ri_onA_38 ri_o38
theorem ri_onA_40 : ∀ a, a < 40 → ri_on (ri_oc a) = (ri_y a).cls := ri_ls ri_onA_39 ri_o39
theorem ri_onA_41 : ∀ a, a < 41 → ri_on (ri_oc a) = (ri_y a).cls := ri_ls ri_onA_40 ri_o40
theorem ri_onA_42 : ∀ a, a < 42 → ri_on (ri_oc a) = (ri_y a).cls := ri_ls ri_onA_41 ri_o41
theorem ri_onA_43 : ∀ a, a < 43 → ri_on (ri_oc a) = (ri_y a).cls := ri_ls ri_onA_42 ri_o42
theorem ri_onA_44 : ∀ a, a < 44 → ri_on (ri_oc a) = (ri_y a).cls := ri_ls ri_onA_43 ri_o43
theorem ri_onA_45 : ∀ a, a < 45 → ri_on (ri_oc a) = (ri_y a).cls := ri_ls ri_onA_44 ri_o44
theorem ri_onA_46 : ∀ a, a < 46 → ri_on (ri_oc a) = (ri_y a).cls := ri_ls ri_onA_45 ri_o45
theorem ri_onA_47 : ∀ a, a < 47 → ri_on (ri_oc a) = (ri_y a).cls := ri_ls ri_onA_46 ri_o46
theorem ri_onA_48 : ∀ a, a < 48 → ri_on (ri_oc a) = (ri_y a).cls := ri_ls ri_onA_47 ri_o47
theorem ri_onA_49 : ∀ a, a < 49 → ri_on (ri_oc a) = (ri_y a).cls := ri_ls ri_onA_48 ri_o48
theorem ri_onA_50 : ∀ a, a < 50 → ri_on (ri_oc a) = (ri_y a).cls := ri_ls ri_onA_49 ri_o49
theorem ri_onA_51 : ∀ a, a < 51 → ri_on (ri_oc a) = (ri_y a).cls := ri_ls ri_onA_50 ri_o50
theorem ri_onA_52 : ∀ a, a < 52 → ri_on (ri_oc a) = (ri_y a).cls := ri_ls ri_onA_51 ri_o51
theorem ri_onA_53 : ∀ a, a < 53 → ri_on (ri_oc a) = (ri_y a).cls := ri_ls ri_onA_52 ri_o52
theorem ri_onA_54 : ∀ a, a < 54 → ri_on (ri_oc a) = (ri_y a).cls := ri_ls ri_onA_53 ri_o53
theorem ri_onA_55 : ∀ a, a < 55 → ri_on (ri_oc a) = (ri_y a).cls := ri_ls ri_onA_54 ri_o54
theorem ri_onA_56 : ∀ a, a < 56 → ri_on (ri_oc a) = (ri_y a).cls := ri_ls ri_onA_55 ri_o55
theorem ri_onA_57 : ∀ a, a < 57 → ri_on (ri_oc a) = (ri_y a).cls := ri_ls ri_onA_56 ri_o56
theorem ri_onA_58 : ∀ a, a < 58 → ri_on (ri_oc a) = (ri_y a).cls := ri_ls ri_onA_57 ri_o57
theorem ri_onA_59 : ∀ a, a < 59 → ri_on (ri_oc a) = (ri_y a).cls := ri_ls ri_onA_58 ri_o58
theorem ri_onA_60 : ∀ a, a < 60 → ri_on (ri_oc a) = (ri_y a).cls := ri_ls ri_onA_59 ri_o59
theorem ri_onA_61 : ∀ a, a < 61 → ri_on (ri_oc a) = (ri_y a).cls := ri_ls ri_onA_60 ri_o60
theorem ri_onA_62 : ∀ a, a < 62 → ri_on (ri_oc a) = (ri_y a).cls := ri_ls ri_onA_61 ri_o61
theorem ri_onA_63 : ∀ a, a < 63 → ri_on (ri_oc a) = (ri_y a).cls := ri_ls ri_onA_62 ri_o62
theorem ri_onA_64 : ∀ a, a < 64 → ri_on (ri_oc a) = (ri_y a).cls := ri_ls ri_onA_63 ri_o63
theorem ri_onA_65 : ∀ a, a < 65 → ri_on (ri_oc a) = (ri_y a).cls := ri_ls ri_onA_64 ri_o64
theorem ri_onA_66 : ∀ a, a < 66 → ri_on (ri_oc a) = (ri_y a).cls := ri_ls ri_onA_65 ri_o65
theorem ri_onA_67 : ∀ a, a < 67 → ri_on (ri_oc a) = (ri_y a).cls := ri_ls ri_onA_66 ri_o66
theorem ri_onA_68 : ∀ a, a < 68 → ri_on (ri_oc a) = (ri_y a).cls := ri_ls ri_onA_67 ri_o67
theorem ri_onA_69 : ∀ a, a < 69 → ri_on (ri_oc a) = (ri_y a).cls := ri_ls ri_onA_68 ri_o68
theorem ri_onA_70 : ∀ a, a < 70 → ri_on (ri_oc a) = (ri_y a).cls := ri_ls ri_onA_69 ri_o69
theorem ri_onA_71 : ∀ a, a < 71 → ri_on (ri_oc a) = (ri_y a).cls := ri_ls ri_onA_70 ri_o70
theorem ri_onA_72 : ∀ a, a < 72 → ri_on (ri_oc a) = (ri_y a).cls := ri_ls ri_onA_71 ri_o71
theorem ri_onA_73 : ∀ a, a < 73 → ri_on (ri_oc a) = (ri_y a).cls := ri_ls ri_onA_72 ri_o72
theorem ri_onA_74 : ∀ a, a < 74 → ri_on (ri_oc a) = (ri_y a).cls := ri_ls ri_onA_73 ri_o73
theorem ri_onA_75 : ∀ a, a < 75 → ri_on (ri_oc a) = (ri_y a).cls := ri_ls ri_onA_74 ri_o74
theorem ri_onA_76 : ∀ a, a < 76 → ri_on (ri_oc a) = (ri_y a).cls := ri_ls ri_onA_75 ri_o75
theorem ri_onA_77 : ∀ a, a < 77 → ri_on (ri_oc a) = (ri_y a).cls := ri_ls ri_onA_76 ri_o76
theorem ri_onA_78 : ∀ a, a < 78 → ri_on (ri_oc a) = (ri_y a).cls := ri_ls ri_onA_77 ri_o77
theorem ri_onA_79 : ∀ a, a < 79 → ri_on (ri_oc a) = (ri_y a).cls := ri_ls ri_onA_78 ri_o78
theorem ri_onA_80 : ∀ a, a < 80 → ri_on (ri_oc a) = (ri_y a).cls := ri_ls ri_onA_79 ri_o79
theorem ri_onA_81 : ∀ a, a < 81 → ri_on (ri_oc a) = (ri_y a).cls := ri_ls ri_onA_80 ri_o80
theorem ri_onA_82 : ∀ a, a < 82 → ri_on (ri_oc a) = (ri_y a).cls := ri_ls ri_onA_81 ri_o81
theorem ri_onA_83 : ∀ a, a < 83 → ri_on (ri_oc a) = (ri_y a).cls := ri_ls ri_onA_82 ri_o82
theorem ri_onA_84 : ∀ a, a < 84 → ri_on (ri_oc a) = (ri_y a).cls := ri_ls ri_onA_83 ri_o83
theorem ri_onA_85 : ∀ a, a < 85 → ri_on (ri_oc a) = (ri_y a).cls := ri_ls ri_onA_84 ri_o84
theorem ri_onA_86 : ∀ a, a < 86 → ri_on (ri_oc a) = (ri_y a).cls := ri_ls ri_onA_85 ri_o85
theorem ri_onA_87 : ∀ a, a < 87 → ri_on (ri_oc a) = (ri_y a).cls := ri_ls ri_onA_86 ri_o86
theorem ri_onA_88 : ∀ a, a < 88 → ri_on (ri_oc a) = (ri_y a).cls := ri_ls ri_onA_87 ri_o87
theorem ri_onA_89 : ∀ a, a < 89 → ri_on (ri_oc a) = (ri_y a).cls := ri_ls ri_onA_88 ri_o88
theorem ri_onA_90 : ∀ a, a < 90 → ri_on (ri_oc a) = (ri_y a).cls := ri_ls ri_onA_89 ri_o89
theorem ri_onA_91 : ∀ a, a < 91 → ri_on (ri_oc a) = (ri_y a).cls := ri_ls ri_onA_90 ri_o90
theorem ri_onA_92 : ∀ a, a < 92 → ri_on (ri_oc a) = (ri_y a).cls := ri_ls ri_onA_91 ri_o91
theorem ri_onA_93 : ∀ a, a < 93 → ri_on (ri_oc a) = (ri_y a).cls := ri_ls ri_onA_92 ri_o92
theorem ri_onA_94 : ∀ a, a < 94 → ri_on (ri_oc a) = (ri_y a).cls := ri_ls ri_onA_93 ri_o93
theorem ri_onA_95 : ∀ a, a < 95 → ri_on (ri_oc a) = (ri_y a).cls := ri_ls ri_onA_94 ri_o94
theorem ri_onA_96 : ∀ a, a < 96 → ri_on (ri_oc a) = (ri_y a).cls := ri_ls ri_onA_95 ri_o95
theorem ri_onA_97 : ∀ a, a < 97 → ri_on (ri_oc a) = (ri_y a).cls := ri_ls ri_onA_96 ri_o96
theorem ri_onA_98 : ∀ a, a < 98 → ri_on (ri_oc a) = (ri_y a).cls := ri_ls ri_onA_97 ri_o97
theorem ri_onA_99 : ∀ a, a < 99 → ri_on (ri_oc a) = (ri_y a).cls := ri_ls ri_onA_98 ri_o98
theorem ri_onA_100 : ∀ a, a < 100 → ri_on (ri_oc a) = (ri_y a).cls := ri_ls ri_onA_99 ri_o99
theorem ri_onA_101 : ∀ a, a < 101 → ri_on (ri_oc a) = (ri_y a).cls := ri_ls ri_onA_100 ri_o100
theorem ri_onA_102 : ∀ a, a < 102 → ri_on (ri_oc a) = (ri_y a).cls := ri_ls ri_onA_101 ri_o101
theorem ri_onA_103 : ∀ a, a < 103 → ri_on (ri_oc a) = (ri_y a).cls := ri_ls ri_onA_102 ri_o102
theorem ri_onA_104 : ∀ a, a < 104 → ri_on (ri_oc a) = (ri_y a).cls := ri_ls ri_onA_103 ri_o103
theorem ri_onA_105 : ∀ a, a < 105 → ri_on (ri_oc a) = (ri_y a).cls := ri_ls ri_onA_104 ri_o104
theorem ri_onA_106 : ∀ a, a < 106 → ri_on (ri_oc a) = (ri_y a).cls := ri_ls ri_onA_105 ri_o105
theorem ri_onA_107 : ∀ a, a < 107 → ri_on (ri_oc a) = (ri_y a).cls := ri_ls ri_onA_106 ri_o106
theorem ri_onA_108 : ∀ a, a < 108 → ri_on (ri_oc a) = (ri_y a).cls := ri_ls ri_onA_107 ri_o107
theorem ri_onA_109 : ∀ a, a < 109 → ri_on (ri_oc a) = (ri_y a).cls := ri_ls ri_onA_108 ri_o108
theorem ri_onA_110 : ∀ a, a < 110 → ri_on (ri_oc a) = (ri_y a).cls := ri_ls ri_onA_109 ri_o109
theorem ri_onA_111 : ∀ a, a < 111 → ri_on (ri_oc a) = (ri_y a).cls := ri_ls ri_onA_110 ri_o110
theorem ri_onA_112 : ∀ a, a < 112 → ri_on (ri_oc a) = (ri_y a).cls := ri_ls ri_onA_111 ri_o111
theorem ri_onA_113 : ∀ a, a < 113 → ri_on (ri_oc a) = (ri_y a).cls := ri_ls ri_onA_112 ri_o112
theorem ri_onA_114 : ∀ a, a < 114 → ri_on (ri_oc a) = (ri_y a).cls := ri_ls ri_onA_113 ri_o113
theorem ri_onA_115 : ∀ a, a < 115 → ri_on (ri_oc a) = (ri_y a).cls := ri_ls ri_onA_114 ri_o114
theorem ri_onA_116 : ∀ a, a < 116 → ri_on (ri_oc a) = (ri_y a).cls := ri_ls ri_onA_115 ri_o115
theorem ri_onA_117 : ∀ a, a < 117 → ri_on (ri_oc a) = (ri_y a).cls := ri_ls ri_onA_116 ri_o116
theorem ri_onA_118 : ∀ a, a < 118 → ri_on (ri_oc a) = (ri_y a).cls := ri_ls ri_onA_117 ri_o117
theorem ri_onA_119 : ∀ a, a < 119 → ri_on (ri_oc a) = (ri_y a).cls := ri_ls ri_onA_118 ri_o118
theorem ri_onA_120 : ∀ a, a < 120 → ri_on (ri_oc a) = (ri_y a).cls := ri_ls ri_onA_119 ri_o119
theorem ri_onA_121 : ∀ a, a < 121 → ri_on (ri_oc a) = (ri_y a).cls := ri_ls ri_onA_120 ri_o120
theorem ri_onA_122 : ∀ a, a < 122 → ri_on (ri_oc a) = (ri_y a).cls := ri_ls ri_onA_121 ri_o121
theorem ri_onA_123 : ∀ a, a < 123 → ri_on (ri_oc a) = (ri_y a).cls := ri_ls ri_onA_122 ri_o122
theorem ri_onA_124 : ∀ a, a < 124 → ri_on (ri_oc a) = (ri_y a).cls := ri_ls ri_onA_123 ri_o123
theorem ri_onA_125 : ∀ a, a < 125 → ri_on (ri_oc a) = (ri_y a).cls := ri_ls ri_onA_124 ri_o124
theorem ri_onA_126 : ∀ a, a < 126 → ri_on (ri_oc a) = (ri_y a).cls := ri_ls ri_onA_125 ri_o125
theorem ri_onA_127 : ∀ a, a < 127 → ri_on (ri_oc a) = (ri_y a).cls := ri_ls ri_onA_126 ri_o126
theorem ri_onA_128 : ∀ a, a < 128 → ri_on (ri_oc a) = (ri_y a).cls := ri_ls ri_onA_127 ri_o127
theorem ri_onA_129 : ∀ a, a < 129 → ri_on (ri_oc a) = (ri_y a).cls := ri_ls ri_onA_128 ri_o128
theorem ri_onA_130 : ∀ a, a < 130 → ri_on (ri_oc a) = (ri_y a).cls := ri_ls ri_onA_129 ri_o129
theorem ri_onA_131 : ∀ a, a < 131 → ri_on (ri_oc a) = (ri_y a).cls := ri_ls ri_onA_130 ri_o130
theorem ri_onA_132 : ∀ a, a < 132 → ri_on (ri_oc a) = (ri_y a).cls := ri_ls ri_onA_131 ri_o131
theorem ri_onA_133 : ∀ a, a < 133 → ri_on (ri_oc a) = (ri_y a).cls := ri_ls ri_onA_132 ri_o132
theorem ri_onA_134 : ∀ a, a < 134 → ri_on (ri_oc a) = (ri_y a).cls := ri_ls ri_onA_133 ri_o133
theorem ri_onA_135 : ∀ a, a < 135 → ri_on (ri_oc a) = (ri_y a).cls := ri_ls ri_onA_134 ri_o134
theorem ri_onA_136 : ∀ a, a < 136 → ri_on (ri_oc a) = (ri_y a).cls := ri_ls ri_onA_135 ri_o135
theorem ri_onA_137 : ∀ a, a < 137 → ri_on (ri_oc a) = (ri_y a).cls := ri_ls ri_onA_136 ri_o136
theorem ri_onA_138 : ∀ a, a < 138 → ri_on (ri_oc a) = (ri_y a).cls := ri_ls ri_onA_137 ri_o137
theorem ri_onA_139 : ∀ a, a < 139 → ri_on (ri_oc a) = (ri_y a).cls := ri_ls ri_onA_138 ri_o138
theorem ri_onA_140 : ∀ a, a < 140 → ri_on (ri_oc a) = (ri_y a).cls := ri_ls ri_onA_139 ri_o139
theorem ri_onA_141 : ∀ a, a < 141 → ri_on (ri_oc a) = (ri_y a).cls := ri_ls ri_onA_140 ri_o140
theorem ri_onA_142 : ∀ a, a < 142 → ri_on (ri_oc a) = (ri_y a).cls := ri_ls ri_onA_141 ri_o141
theorem ri_onA_143 : ∀ a, a < 143 → ri_on (ri_oc a) = (ri_y a).cls := ri_ls ri_onA_142 ri_o142
theorem ri_onA_144 : ∀ a, a < 144 → ri_on (ri_oc a) = (ri_y a).cls := ri_ls ri_onA_143 ri_o143
theorem ri_onA_145 : ∀ a, a < 145 → ri_on (ri_oc a) = (ri_y a).cls := ri_ls ri_onA_144 ri_o144
theorem ri_onA_146 : ∀ a, a < 146 → ri_on (ri_oc a) = (ri_y a).cls := ri_ls ri_onA_145 ri_o145
theorem ri_onA_147 : ∀ a, a < 147 → ri_on (ri_oc a) = (ri_y a).cls := ri_ls ri_onA_146 ri_o146
theorem ri_onA_148 : ∀ a, a < 148 → ri_on (ri_oc a) = (ri_y a).cls := ri_ls ri_onA_147 ri_o147
theorem ri_onA_149 : ∀ a, a < 149 → ri_on (ri_oc a) = (ri_y a).cls := ri_ls ri_onA_148 ri_o148
theorem ri_onA_150 : ∀ a, a < 150 → ri_on (ri_oc a) = (ri_y a).cls := ri_ls ri_onA_149 ri_o149
theorem ri_onA_151 : ∀ a, a < 151 → ri_on (ri_oc a) = (ri_y a).cls := ri_ls ri_onA_150 ri_o150
theorem ri_onA_152 : ∀ a, a < 152 → ri_on (ri_oc a) = (ri_y a).cls := ri_ls ri_onA_151 ri_o151
theorem ri_onA_153 : ∀ a, a < 153 → ri_on (ri_oc a) = (ri_y a).cls := ri_ls ri_onA_152 ri_o152
theorem ri_onA_154 : ∀ a, a < 154 → ri_on (ri_oc a) = (ri_y a).cls := ri_ls ri_onA_153 ri_o153
theorem ri_onA_155 : ∀ a, a < 155 → ri_on (ri_oc a) = (ri_y a).cls := ri_ls ri_onA_154 ri_o154
theorem ri_onA_156 : ∀ a, a < 156 → ri_on (ri_oc a) = (ri_y a).cls := ri_ls ri_onA_155 ri_o155
theorem ri_onA_157 : ∀ a, a < 157 → ri_on (ri_oc a) = (ri_y a).cls := ri_ls ri_onA_156 ri_o156
theorem ri_onA_158 : ∀ a, a < 158 → ri_on (ri_oc a) = (ri_y a).cls := ri_ls ri_onA_157 ri_o157
theorem ri_onA_159 : ∀ a, a < 159 → ri_on (ri_oc a) = (ri_y a).cls := ri_ls ri_onA_158 ri_o158
theorem ri_onA_160 : ∀ a, a < 160 → ri_on (ri_oc a) = (ri_y a).cls := ri_ls ri_onA_159 ri_o159
theorem ri_onA_161 : ∀ a, a < 161 → ri_on (ri_oc a) = (ri_y a).cls := ri_ls ri_onA_160 ri_o160
theorem ri_onA_162 : ∀ a, a < 162 → ri_on (ri_oc a) = (ri_y a).cls := ri_ls ri_onA_161 ri_o161
theorem ri_onA_163 : ∀ a, a < 163 → ri_on (ri_oc a) = (ri_y a).cls := ri_ls ri_onA_162 ri_o162
theorem ri_onA_164 : ∀ a, a < 164 → ri_on (ri_oc a) = (ri_y a).cls := ri_ls ri_onA_163 ri_o163
theorem ri_onA_165 : ∀ a, a < 165 → ri_on (ri_oc a) = (ri_y a).cls := ri_ls ri_onA_164 ri_o164
theorem ri_onA_166 : ∀ a, a < 166 → ri_on (ri_oc a) = (ri_y a).cls := ri_ls ri_onA_165 ri_o165
theorem ri_onA_167 : ∀ a, a < 167 → ri_on (ri_oc a) = (ri_y a).cls := ri_ls ri_onA_166 ri_o166
theorem ri_onA_168 : ∀ a, a < 168 → ri_on (ri_oc a) = (ri_y a).cls := ri_ls ri_onA_167 ri_o167
theorem ri_onA_169 : ∀ a, a < 169 → ri_on (ri_oc a) = (ri_y a).cls := ri_ls ri_onA_168 ri_o168
theorem ri_onA_170 : ∀ a, a < 170 → ri_on (ri_oc a) = (ri_y a).cls := ri_ls ri_onA_169 ri_o169
theorem ri_onA_171 : ∀ a, a < 171 → ri_on (ri_oc a) = (ri_y a).cls := ri_ls ri_onA_170 ri_o170
theorem ri_onA_172 : ∀ a, a < 172 → ri_on (ri_oc a) = (ri_y a).cls := ri_ls ri_onA_171 ri_o171
theorem ri_onA_173 : ∀ a, a < 173 → ri_on (ri_oc a) = (ri_y a).cls := ri_ls ri_onA_172 ri_o172
theorem ri_onA_174 : ∀ a, a < 174 → ri_on (ri_oc a) = (ri_y a).cls := ri_ls ri_onA_173 ri_o173
theorem ri_onA_175 : ∀ a, a < 175 → ri_on (ri_oc a) = (ri_y a).cls := ri_ls ri_onA_174 ri_o174
theorem ri_onA_176 : ∀ a, a < 176 → ri_on (ri_oc a) = (ri_y a).cls := ri_ls ri_onA_175 ri_o175
theorem ri_onA_177 : ∀ a, a < 177 → ri_on (ri_oc a) = (ri_y a).cls := ri_ls ri_onA_176 ri_o176
theorem ri_onA_178 : ∀ a, a < 178 → ri_on (ri_oc a) = (ri_y a).cls := ri_ls ri_onA_177 ri_o177
theorem ri_onA_179 : ∀ a, a < 179 → ri_on (ri_oc a) = (ri_y a).cls := ri_ls ri_onA_178 ri_o178
theorem ri_onA_180 : ∀ a, a < 180 → ri_on (ri_oc a) = (ri_y a).cls := ri_ls ri_onA_179 ri_o179
theorem ri_onA_181 : ∀ a, a < 181 → ri_on (ri_oc a) = (ri_y a).cls := ri_ls ri_onA_180 ri_o180
theorem ri_onA_182 : ∀ a, a < 182 → ri_on (ri_oc a) = (ri_y a).cls := ri_ls ri_onA_181 ri_o181
theorem ri_onA_183 : ∀ a, a < 183 → ri_on (ri_oc a) = (ri_y a).cls := ri_ls ri_onA_182 ri_o182
theorem ri_onA_184 : ∀ a, a < 184 → ri_on (ri_oc a) = (ri_y a).cls := ri_ls ri_onA_183 ri_o183
theorem ri_onA_185 : ∀ a, a < 185 → ri_on (ri_oc a) = (ri_y a).cls := ri_ls ri_onA_184 ri_o184
theorem ri_onA_186 : ∀ a, a < 186 → ri_on (ri_oc a) = (ri_y a).cls := ri_ls ri_onA_185 ri_o185
theorem ri_onA_187 : ∀ a, a < 187 → ri_on (ri_oc a) = (ri_y a).cls := ri_ls ri_onA_186 ri_o186
theorem ri_onA_188 : ∀ a, a < 188 → ri_on (ri_oc a) = (ri_y a).cls := ri_ls ri_onA_187 ri_o187
theorem ri_onA_189 : ∀ a, a < 189 → ri_on (ri_oc a) = (ri_y a).cls := ri_ls ri_onA_188 ri_o188
theorem ri_onA_190 : ∀ a, a < 190 → ri_on (ri_oc a) = (ri_y a).cls := ri_ls ri_onA_189 ri_o189
theorem ri_onA_191 : ∀ a, a < 191 → ri_on (ri_oc a) = (ri_y a).cls := ri_ls ri_onA_190 ri_o190
theorem ri_onA_192 : ∀ a, a < 192 → ri_on (ri_oc a) = (ri_y a).cls := ri_ls ri_onA_191 ri_o191
theorem ri_onA_193 : ∀ a, a < 193 → ri_on (ri_oc a) = (ri_y a).cls := ri_ls ri_onA_192 ri_o192
theorem ri_onA_194 : ∀ a, a < 194 → ri_on (ri_oc a) = (ri_y a).cls := ri_ls ri_onA_193 ri_o193
theorem ri_onA_195 : ∀ a, a < 195 → ri_on (ri_oc a) = (ri_y a).cls := ri_ls ri_onA_194 ri_o194
theorem ri_onA_196 : ∀ a, a < 196 → ri_on (ri_oc a) = (ri_y a).cls := ri_ls ri_onA_195 ri_o195
theorem ri_onA_197 : ∀ a, a < 197 → ri_on (ri_oc a) = (ri_y a).cls := ri_ls ri_onA_196 ri_o196
theorem ri_onA_198 : ∀ a, a < 198 → ri_on (ri_oc a) = (ri_y a).cls := ri_ls ri_onA_197 ri_o197
theorem ri_onA_199 : ∀ a, a < 199 → ri_on (ri_oc a) = (ri_y a).cls := ri_ls ri_onA_198 ri_o198
theorem ri_onA_200 : ∀ a, a < 200 → ri_on (ri_oc a) = (ri_y a).cls := ri_ls ri_onA_199 ri_o199
theorem ri_onA_201 : ∀ a, a < 201 → ri_on (ri_oc a) = (ri_y a).cls := ri_ls ri_onA_200 ri_o200
theorem ri_onA_202 : ∀ a, a < 202 → ri_on (ri_oc a) = (ri_y a).cls := ri_ls ri_onA_201 ri_o201
theorem ri_onA_203 : ∀ a, a < 203 → ri_on (ri_oc a) = (ri_y a).cls := ri_ls ri_onA_202 ri_o202
theorem ri_onA_204 : ∀ a, a < 204 → ri_on (ri_oc a) = (ri_y a).cls := ri_ls ri_onA_203 ri_o203
theorem ri_onA_205 : ∀ a, a < 205 → ri_on (ri_oc a) = (ri_y a).cls := ri_ls ri_onA_204 ri_o204
theorem ri_onA_206 : ∀ a, a < 206 → ri_on (ri_oc a) = (ri_y a).cls := ri_ls ri_onA_205 ri_o205
theorem ri_onA_207 : ∀ a, a < 207 → ri_on (ri_oc a) = (ri_y a).cls := ri_ls ri_onA_206 ri_o206
theorem ri_onA_208 : ∀ a, a < 208 → ri_on (ri_oc a) = (ri_y a).cls := ri_ls ri_onA_207 ri_o207
theorem ri_onA_209 : ∀ a, a < 209 → ri_on (ri_oc a) = (ri_y a).cls := ri_ls ri_onA_208 ri_o208
theorem ri_onA_210 : ∀ a, a < 210 → ri_on (ri_oc a) = (ri_y a).cls := ri_ls ri_onA_209 ri_o209
theorem ri_onA_211 : ∀ a, a < 211 → ri_on (ri_oc a) = (ri_y a).cls := ri_ls ri_onA_210 ri_o210
theorem ri_onA_212 : ∀ a, a < 212 → ri_on (ri_oc a) = (ri_y a).cls := ri_ls ri_onA_211 ri_o211
theorem ri_onA_213 : ∀ a, a < 213 → ri_on (ri_oc a) = (ri_y a).cls := ri_ls ri_onA_212 ri_o212
theorem ri_onA_214 : ∀ a, a < 214 → ri_on (ri_oc a) = (ri_y a).cls := ri_ls ri_onA_213 ri_o213
theorem ri_onA_215 : ∀ a, a < 215 → ri_on (ri_oc a) = (ri_y a).cls := ri_ls ri_onA_214 ri_o214
theorem ri_onA_216 : ∀ a, a < 216 → ri_on (ri_oc a) = (ri_y a).cls := ri_ls ri_onA_215 ri_o215
theorem ri_onA_217 : ∀ a, a < 217 → ri_on (ri_oc a) = (ri_y a).cls := ri_ls ri_onA_216 ri_o216
theorem ri_onA_218 : ∀ a, a < 218 → ri_on (ri_oc a) = (ri_y a).cls := ri_ls ri_onA_217 ri_o217
theorem ri_onA_219 : ∀ a, a < 219 → ri_on (ri_oc a) = (ri_y a).cls := ri_ls ri_onA_218 ri_o218
theorem ri_onA_220 : ∀ a, a < 220 → ri_on (ri_oc a) = (ri_y a).cls := ri_ls ri_onA_219 ri_o219
theorem ri_onA_221 : ∀ a, a < 221 → ri_on (ri_oc a) = (ri_y a).cls := ri_ls ri_onA_220 ri_o220
theorem ri_onA_222 : ∀ a, a < 222 → ri_on (ri_oc a) = (ri_y a).cls := ri_ls ri_onA_221 ri_o221
theorem ri_onA_223 : ∀ a, a < 223 → ri_on (ri_oc a) = (ri_y a).cls := ri_ls ri_onA_222 ri_o222
theorem ri_onA_224 : ∀ a, a < 224 → ri_on (ri_oc a) = (ri_y a).cls := ri_ls ri_onA_223 ri_o223
theorem ri_onA_225 : ∀ a, a < 225 → ri_on (ri_oc a) = (ri_y a).cls := ri_ls ri_onA_224 ri_o224
theorem ri_onA_226 : ∀ a, a < 226 → ri_on (ri_oc a) = (ri_y a).cls := ri_ls ri_onA_225 ri_o225
theorem ri_onA_227 : ∀ a, a < 227 → ri_on (ri_oc a) = (ri_y a).cls := ri_ls ri_onA_226 ri_o226
theorem ri_onA_228 : ∀ a, a < 228 → ri_on (ri_oc a) = (ri_y a).cls := ri_ls ri_onA_227 ri_o227
theorem ri_onA_229 : ∀ a, a < 229 → ri_on (ri_oc a) = (ri_y a).cls := ri_ls ri_onA_228 ri_o228
theorem ri_onA_230 : ∀ a, a < 230 → ri_on (ri_oc a) = (ri_y a).cls := ri_ls ri_onA_229 ri_o229
theorem ri_onA_231 : ∀ a, a < 231 → ri_on (ri_oc a) = (ri_y a).cls := ri_ls ri_onA_230 ri_o230
theorem ri_onA_232 : ∀ a, a < 232 → ri_on (ri_oc a) = (ri_y a).cls := ri_ls ri_onA_231 ri_o231
theorem ri_onA_233 : ∀ a, a < 233 → ri_on (ri_oc a) = (ri_y a).cls := ri_ls ri_onA_232 ri_o232
theorem ri_onA_234 : ∀ a, a < 234 → ri_on (ri_oc a) = (ri_y a).cls := ri_ls ri_onA_233 ri_o233
theorem ri_onA_235 : ∀ a, a < 235 → ri_on (ri_oc a) = (ri_y a).cls := ri_ls ri_onA_234 ri_o234
theorem ri_onA_236 : ∀ a, a < 236 → ri_on (ri_oc a) = (ri_y a).cls := ri_ls ri_onA_235 ri_o235
theorem ri_onA_237 : ∀ a, a < 237 → ri_on (ri_oc a) = (ri_y a).cls := ri_ls ri_onA_236 ri_o236
theorem ri_onA_238 : ∀ a, a < 238 → ri_on (ri_oc a) = (ri_y a).cls := ri_ls ri_onA_237 ri_o237
theorem ri_onA_239 : ∀ a, a < 239 → ri_on (ri_oc a) = (ri_y a).cls := ri_ls ri_onA_238 ri_o238
theorem ri_onA_240 : ∀ a, a < 240 → ri_on (ri_oc a) = (ri_y a).cls := ri_ls ri_onA_239 ri_o239
theorem ri_onA_241 : ∀ a, a < 241 → ri_on (ri_oc a) = (ri_y a).cls := ri_ls ri_onA_240 ri_o240
theorem ri_onA_242 : ∀ a, a < 242 → ri_on (ri_oc a) = (ri_y a).cls := ri_ls ri_onA_241 ri_o241
theorem ri_onA_243 : ∀ a, a < 243 → ri_on (ri_oc a) = (ri_y a).cls := ri_ls ri_onA_242 ri_o242
theorem ri_onA_244 : ∀ a, a < 244 → ri_on (ri_oc a) = (ri_y a).cls := ri_ls ri_onA_243 ri_o243
theorem ri_onA_245 : ∀ a, a < 245 → ri_on (ri_oc a) = (ri_y a).cls := ri_ls ri_onA_244 ri_o244
theorem ri_onA_246 : ∀ a, a < 246 → ri_on (ri_oc a) = (ri_y a).cls := ri_ls ri_onA_245 ri_o245
theorem ri_onA_247 : ∀ a, a < 247 → ri_on (ri_oc a) = (ri_y a).cls := ri_ls ri_onA_246 ri_o246
theorem ri_onA_248 : ∀ a, a < 248 → ri_on (ri_oc a) = (ri_y a).cls := ri_ls ri_onA_247 ri_o247
theorem ri_onA_249 : ∀ a, a < 249 → ri_on (ri_oc a) = (ri_y a).cls := ri_ls ri_onA_248 ri_o248
theorem ri_onA_250 : ∀ a, a < 250 → ri_on (ri_oc a) = (ri_y a).cls := ri_ls ri_onA_249 ri_o249
theorem ri_onA_251 : ∀ a, a < 251 → ri_on (ri_oc a) = (ri_y a).cls := ri_ls ri_onA_250 ri_o250
theorem ri_onA_252 : ∀ a, a < 252 → ri_on (ri_oc a) = (ri_y a).cls := ri_ls ri_onA_251 ri_o251
theorem ri_onA_253 : ∀ a, a < 253 → ri_on (ri_oc a) = (ri_y a).cls := ri_ls ri_onA_252 ri_o252
theorem ri_onA_254 : ∀ a, a < 254 → ri_on (ri_oc a) = (ri_y a).cls := ri_ls ri_onA_253 ri_o253
theorem ri_onA_255 : ∀ a, a < 255 → ri_on (ri_oc a) = (ri_y a).cls := ri_ls ri_onA_254 ri_o254
theorem ri_onA_256 : ∀ a, a < 256 → ri_on (ri_oc a) = (ri_y a).cls := ri_ls ri_onA_255 ri_o255
theorem ri_onA_257 : ∀ a, a < 257 → ri_on (ri_oc a) = (ri_y a).cls := ri_ls ri_onA_256 ri_o256
theorem ri_onA_258 : ∀ a, a < 258 → ri_on (ri_oc a) = (ri_y a).cls := ri_ls ri_onA_257 ri_o257
theorem ri_onA_259 : ∀ a, a < 259 → ri_on (ri_oc a) = (ri_y a).cls := ri_ls ri_onA_258 ri_o258
theorem ri_onA_260 : ∀ a, a < 260 → ri_on (ri_oc a) = (ri_y a).cls := ri_ls ri_onA_259 ri_o259
theorem ri_onA_261 : ∀ a, a < 261 → ri_on (ri_oc a) = (ri_y a).cls := ri_ls ri_onA_260 ri_o260
theorem ri_onA_262 : ∀ a, a < 262 → ri_on (ri_oc a) = (ri_y a).cls := ri_ls ri_onA_261 ri_o261
theorem ri_onA_263 : ∀ a, a < 263 → ri_on (ri_oc a) = (ri_y a).cls := ri_ls ri_onA_262 ri_o262
theorem ri_onA_264 : ∀ a, a < 264 → ri_on (ri_oc a) = (ri_y a).cls := ri_ls ri_onA_263 ri_o263
theorem ri_onA_265 : ∀ a, a < 265 → ri_on (ri_oc a) = (ri_y a).cls := ri_ls ri_onA_264 ri_o264
theorem ri_onA_266 : ∀ a, a < 266 → ri_on (ri_oc a) = (ri_y a).cls := ri_ls ri_onA_265 ri_o265
theorem ri_onA_267 : ∀ a, a < 267 → ri_on (ri_oc a) = (ri_y a).cls := ri_ls ri_onA_266 ri_o266
theorem ri_onA_268 : ∀ a, a < 268 → ri_on (ri_oc a) = (ri_y a).cls := ri_ls ri_onA_267 ri_o267
theorem ri_onA_269 : ∀ a, a < 269 → ri_on (ri_oc a) = (ri_y a).cls := ri_ls ri_onA_268 ri_o268
theorem ri_onA_270 : ∀ a, a < 270 → ri_on (ri_oc a) = (ri_y a).cls := ri_ls ri_onA_269 ri_o269
theorem ri_onA_271 : ∀ a, a < 271 → ri_on (ri_oc a) = (ri_y a).cls := ri_ls ri_onA_270 ri_o270
theorem ri_onA_272 : ∀ a, a < 272 → ri_on (ri_oc a) = (ri_y a).cls := ri_ls ri_onA_271 ri_o271
theorem ri_onA_273 : ∀ a, a < 273 → ri_on (ri_oc a) = (ri_y a).cls := ri_ls ri_onA_272 ri_o272
theorem ri_onA_274 : ∀ a, a < 274 → ri_on (ri_oc a) = (ri_y a).cls := ri_ls ri_onA_273 ri_o273
theorem ri_onA_275 : ∀ a, a < 275 → ri_on (ri_oc a) = (ri_y a).cls := ri_ls ri_onA_274 ri_o274
theorem ri_onA_276 : ∀ a, a < 276 → ri_on (ri_oc a) = (ri_y a).cls := ri_ls ri_onA_275 ri_o275
theorem ri_onA_277 : ∀ a, a < 277 → ri_on (ri_oc a) = (ri_y a).cls := ri_ls ri_onA_276 ri_o276
theorem ri_onA_278 : ∀ a, a < 278 → ri_on (ri_oc a) = (ri_y a).cls := ri_ls ri_onA_277 ri_o277
theorem ri_onA_279 : ∀ a, a < 279 → ri_on (ri_oc a) = (ri_y a).cls := ri_ls ri_onA_278 ri_o278
theorem ri_onA_280 : ∀ a, a < 280 → ri_on (ri_oc a) = (ri_y a).cls := ri_ls ri_onA_279 ri_o279
theorem ri_onA_281 : ∀ a, a < 281 → ri_on (ri_oc a) = (ri_y a).cls := ri_ls ri_onA_280 ri_o280
theorem ri_on_all : ∀ pc, pc < 281 → ri_on (ri_oc pc) = (ri_y pc).cls := ri_onA_281
theorem ri_mkA_0 : ∀ a, a < 0 → ri_mk a = true := fun _ h => absurd h (Nat.not_lt_zero _)
theorem ri_mkA_1 : ∀ a, a < 1 → ri_mk a = true := ri_ls ri_mkA_0 ri_k0
theorem ri_mkA_2 : ∀ a, a < 2 → ri_mk a = true := ri_ls ri_mkA_1 ri_k1
theorem ri_mkA_3 : ∀ a, a < 3 → ri_mk a = true := ri_ls ri_mkA_2 ri_k2
theorem ri_mkA_4 : ∀ a, a < 4 → ri_mk a = true := ri_ls ri_mkA_3 ri_k3
theorem ri_mkA_5 : ∀ a, a < 5 → ri_mk a = true := ri_ls ri_mkA_4 ri_k4
theorem ri_mkA_6 : ∀ a, a < 6 → ri_mk a = true := ri_ls ri_mkA_5 ri_k5
theorem ri_mkA_7 : ∀ a, a < 7 → ri_mk a = true := ri_ls ri_mkA_6 ri_k6
theorem ri_mkA_8 : ∀ a, a < 8 → ri_mk a = true := ri_ls ri_mkA_7 ri_k7
theorem ri_mkA_9 : ∀ a, a < 9 → ri_mk a = true := ri_ls ri_mkA_8 ri_k8
theorem ri_mkA_10 : ∀ a, a < 10 → ri_mk a = true := ri_ls ri_mkA_9 ri_k9
theorem ri_mkA_11 : ∀ a, a < 11 → ri_mk a = true := ri_ls ri_mkA_10 ri_k10
theorem ri_mkA_12 : ∀ a, a < 12 → ri_mk a = true := ri_ls ri_mkA_11 ri_k11
theorem ri_mkA_13 : ∀ a, a < 13 → ri_mk a = true := ri_ls ri_mkA_12 ri_k12
theorem ri_mkA_14 : ∀ a, a < 14 → ri_mk a = true := ri_ls ri_mkA_13 ri_k13
theorem ri_mkA_15 : ∀ a, a < 15 → ri_mk a = true := ri_ls ri_mkA_14 ri_k14
theorem ri_mkA_16 : ∀ a, a < 16 → ri_mk a = true := ri_ls ri_mkA_15 ri_k15
theorem ri_mkA_17 : ∀ a, a < 17 → ri_mk a = true := ri_ls ri_mkA_16 ri_k16
theorem ri_mkA_18 : ∀ a, a < 18 → ri_mk a = true := ri_ls ri_mkA_17 ri_k17
theorem ri_mkA_19 : ∀ a, a < 19 → ri_mk a = true := ri_ls ri_mkA_18 ri_k18
theorem ri_mkA_20 : ∀ a, a < 20 → ri_mk a = true := ri_ls ri_mkA_19 ri_k19
theorem ri_mkA_21 : ∀ a, a < 21 → ri_mk a = true := ri_ls ri_mkA_20 ri_k20
theorem ri_mkA_22 : ∀ a, a < 22 → ri_mk a = true := ri_ls ri_mkA_21 ri_k21
theorem ri_mkA_23 : ∀ a, a < 23 → ri_mk a = true := ri_ls ri_mkA_22 ri_k22
theorem ri_mkA_24 : ∀ a, a < 24 → ri_mk a = true := ri_ls ri_mkA_23 ri_k23
theorem ri_mkA_25 : ∀ a, a < 25 → ri_mk a = true := ri_ls ri_mkA_24 ri_k24
theorem ri_mkA_26 : ∀ a, a < 26 → ri_mk a = true := ri_ls ri_mkA_25 ri_k25
theorem ri_mkA_27 : ∀ a, a < 27 → ri_mk a = true := ri_ls ri_mkA_26 ri_k26
theorem ri_mkA_28 : ∀ a, a < 28 → ri_mk a = true := ri_ls ri_mkA_27 ri_k27
theorem ri_mkA_29 : ∀ a, a < 29 → ri_mk a = true := ri_ls ri_mkA_28 ri_k28
theorem ri_mkA_30 : ∀ a, a < 30 → ri_mk a = true := ri_ls ri_mkA_29 ri_k29
theorem ri_mkA_31 : ∀ a, a < 31 → ri_mk a = true := ri_ls ri_mkA_30 ri_k30
theorem ri_mkA_32 : ∀ a, a < 32 → ri_mk a = true := ri_ls ri_mkA_31 ri_k31
theorem ri_mkA_33 : ∀ a, a < 33 → ri_mk a = true := ri_ls ri_mkA_32 ri_k32
theorem ri_mkA_34 : ∀ a, a < 34 → ri_mk a = true := ri_ls ri_mkA_33 ri_k33
theorem ri_mkA_35 : ∀ a, a < 35 → ri_mk a = true := ri_ls ri_mkA_34 ri_k34
theorem ri_mkA_36 : ∀ a, a < 36 → ri_mk a = true := ri_ls ri_mkA_35 ri_k35
theorem ri_mkA_37 : ∀ a, a < 37 → ri_mk a = true := ri_ls ri_mkA_36 ri_k36
theorem ri_mkA_38 : ∀ a, a < 38 → ri_mk a = true := ri_ls ri_mkA_37 ri_k37
theorem ri_mkA_39 : ∀ a, a < 39 → ri_mk a = true := ri_ls ri_mkA_38 ri_k38
theorem ri_mkA_40 : ∀ a, a < 40 → ri_mk a = true := ri_ls ri_mkA_39 ri_k39
theorem ri_mkA_41 : ∀ a, a < 41 → ri_mk a = true := ri_ls ri_mkA_40 ri_k40
theorem ri_mkA_42 : ∀ a, a < 42 → ri_mk a = true := ri_ls ri_mkA_41 ri_k41
theorem ri_mkA_43 : ∀ a, a < 43 → ri_mk a = true := ri_ls ri_mkA_42 ri_k42
theorem ri_mkA_44 : ∀ a, a < 44 → ri_mk a = true := ri_ls ri_mkA_43 ri_k43
theorem ri_mkA_45 : ∀ a, a < 45 → ri_mk a = true := ri_ls ri_mkA_44 ri_k44
theorem ri_mkA_46 : ∀ a, a < 46 → ri_mk a = true := ri_ls ri_mkA_45 ri_k45
theorem ri_mkA_47 : ∀ a, a < 47 → ri_mk a = true := ri_ls ri_mkA_46 ri_k46
theorem ri_mkA_48 : ∀ a, a < 48 → ri_mk a = true := ri_ls ri_mkA_47 ri_k47
theorem ri_mkA_49 : ∀ a, a < 49 → ri_mk a = true := ri_ls ri_mkA_48 ri_k48
theorem ri_mkA_50 : ∀ a, a < 50 → ri_mk a = true := ri_ls ri_mkA_49 ri_k49
theorem ri_mkA_51 : ∀ a, a < 51 → ri_mk a = true := ri_ls ri_mkA_50 ri_k50
theorem ri_mkA_52 : ∀ a, a < 52 → ri_mk a = true := ri_ls ri_mkA_51 ri_k51
theorem ri_mkA_53 : ∀ a, a < 53 → ri_mk a = true := ri_ls ri_mkA_52 ri_k52
theorem ri_mkA_54 : ∀ a, a < 54 → ri_mk a = true := ri_ls ri_mkA_53 ri_k53
theorem ri_mkA_55 : ∀ a, a < 55 → ri_mk a = true := ri_ls ri_mkA_54 ri_k54
theorem ri_mkA_56 : ∀ a, a < 56 → ri_mk a = true := ri_ls ri_mkA_55 ri_k55
theorem ri_mkA_57 : ∀ a, a < 57 → ri_mk a = true := ri_ls ri_mkA_56 ri_k56
theorem ri_mkA_58 : ∀ a, a < 58 → ri_mk a = true := ri_ls ri_mkA_57 ri_k57
theorem ri_mkA_59 : ∀ a, a < 59 → ri_mk a = true := ri_ls ri_mkA_58 ri_k58
theorem ri_mkA_60 : ∀ a, a < 60 → ri_mk a = true := ri_ls ri_mkA_59 ri_k59
theorem ri_mkA_61 : ∀ a, a < 61 → ri_mk a = true := ri_ls ri_mkA_60 ri_k60
theorem ri_mkA_62 : ∀ a, a < 62 → ri_mk a = true := ri_ls ri_mkA_61 ri_k61
theorem ri_mkA_63 : ∀ a, a < 63 → ri_mk a = true := ri_ls ri_mkA_62 ri_k62
theorem ri_mkA_64 : ∀ a, a < 64 → ri_mk a = true := ri_ls ri_mkA_63 ri_k63
theorem ri_mkA_65 : ∀ a, a < 65 → ri_mk a = true := ri_ls ri_mkA_64 ri_k64
theorem ri_mkA_66 : ∀ a, a < 66 → ri_mk a = true := ri_ls ri_mkA_65 ri_k65
theorem ri_mkA_67 : ∀ a, a < 67 → ri_mk a = true := ri_ls ri_mkA_66 ri_k66
theorem ri_mkA_68 : ∀ a, a < 68 → ri_mk a = true := ri_ls ri_mkA_67 ri_k67
theorem ri_mkA_69 : ∀ a, a < 69 → ri_mk a = true := ri_ls ri_mkA_68 ri_k68
theorem ri_mkA_70 : ∀ a, a < 70 → ri_mk a = true := ri_ls ri_mkA_69 ri_k69
theorem ri_mkA_71 : ∀ a, a < 71 → ri_mk a = true := ri_ls ri_mkA_70 ri_k70
theorem ri_mkA_72 : ∀ a, a < 72 → ri_mk a = true := ri_ls ri_mkA_71 ri_k71
theorem ri_mkA_73 : ∀ a, a < 73 → ri_mk a = true := ri_ls ri_mkA_72 ri_k72
theorem ri_mkA_74 : ∀ a, a < 74 → ri_mk a = true := ri_ls ri_mkA_73 ri_k73
theorem ri_mkA_75 : ∀ a, a < 75 → ri_mk a = true := ri_ls ri_mkA_74 ri_k74
theorem ri_mkA_76 : ∀ a, a < 76 → ri_mk a = true := ri_ls ri_mkA_75 ri_k75
theorem ri_mkA_77 : ∀ a, a < 77 → ri_mk a = true := ri_ls ri_mkA_76 ri_k76
theorem ri_mkA_78 : ∀ a, a < 78 → ri_mk a = true := ri_ls ri_mkA_77 ri_k77
theorem ri_mkA_79 : ∀ a, a < 79 → ri_mk a = true := ri_ls ri_mkA_78 ri_k78
theorem ri_mkA_80 : ∀ a, a < 80 → ri_mk a = true := ri_ls ri_mkA_79 ri_k79
theorem ri_mkA_81 : ∀ a, a < 81 → ri_mk a = true := ri_ls ri_mkA_80 ri_k80
theorem ri_mkA_82 : ∀ a, a < 82 → ri_mk a = true := ri_ls ri_mkA_81 ri_k81
theorem ri_mkA_83 : ∀ a, a < 83 → ri_mk a = true := ri_ls ri_mkA_82 ri_k82
theorem ri_mkA_84 : ∀ a, a < 84 → ri_mk a = true := ri_ls ri_mkA_83 ri_k83
theorem ri_mkA_85 : ∀ a, a < 85 → ri_mk a = true := ri_ls ri_mkA_84 ri_k84
theorem ri_mkA_86 : ∀ a, a < 86 → ri_mk a = true := ri_ls ri_mkA_85 ri_k85
theorem ri_mkA_87 : ∀ a, a < 87 → ri_mk a = true := ri_ls ri_mkA_86 ri_k86
theorem ri_mkA_88 : ∀ a, a < 88 → ri_mk a = true := ri_ls ri_mkA_87 ri_k87
theorem ri_mkA_89 : ∀ a, a < 89 → ri_mk a = true := ri_ls ri_mkA_88 ri_k88
theorem ri_mkA_90 : ∀ a, a < 90 → ri_mk a = true := ri_ls ri_mkA_89 ri_k89
theorem ri_mkA_91 : ∀ a, a < 91 → ri_mk a = true := ri_ls ri_mkA_90 ri_k90
theorem ri_mkA_92 : ∀ a, a < 92 → ri_mk a = true := ri_ls ri_mkA_91 ri_k91
theorem ri_mkA_93 : ∀ a, a < 93 → ri_mk a = true := ri_ls ri_mkA_92 ri_k92
theorem ri_mkA_94 : ∀ a, a < 94 → ri_mk a = true := ri_ls ri_mkA_93 ri_k93
theorem ri_mkA_95 : ∀ a, a < 95 → ri_mk a = true := ri_ls ri_mkA_94 ri_k94
theorem ri_mkA_96 : ∀ a, a < 96 → ri_mk a = true := ri_ls ri_mkA_95 ri_k95
theorem ri_mkA_97 : ∀ a, a < 97 → ri_mk a = true := ri_ls ri_mkA_96 ri_k96
theorem ri_mkA_98 : ∀ a, a < 98 → ri_mk a = true := ri_ls ri_mkA_97 ri_k97
theorem ri_mkA_99 : ∀ a, a < 99 → ri_mk a = true := ri_ls ri_mkA_98 ri_k98
theorem ri_mkA_100 : ∀ a, a < 100 → ri_mk a = true := ri_ls ri_mkA_99 ri_k99
theorem ri_mkA_101 : ∀ a, a < 101 → ri_mk a = true := ri_ls ri_mkA_100 ri_k100
theorem ri_mkA_102 : ∀ a, a < 102 → ri_mk a = true := ri_ls ri_mkA_101 ri_k101
theorem ri_mkA_103 : ∀ a, a < 103 → ri_mk a = true := ri_ls ri_mkA_102 ri_k102
theorem ri_mkA_104 : ∀ a, a < 104 → ri_mk a = true := ri_ls ri_mkA_103 ri_k103
theorem ri_mkA_105 : ∀ a, a < 105 → ri_mk a = true := ri_ls ri_mkA_104 ri_k104
theorem ri_mkA_106 : ∀ a, a < 106 → ri_mk a = true := ri_ls ri_mkA_105 ri_k105
theorem ri_mkA_107 : ∀ a, a < 107 → ri_mk a = true := ri_ls ri_mkA_106 ri_k106
theorem ri_mkA_108 : ∀ a, a < 108 → ri_mk a = true := ri_ls ri_mkA_107 ri_k107
theorem ri_mkA_109 : ∀ a, a < 109 → ri_mk a = true := ri_ls ri_mkA_108 ri_k108
theorem ri_mkA_110 : ∀ a, a < 110 → ri_mk a = true := ri_ls ri_mkA_109 ri_k109
theorem ri_mkA_111 : ∀ a, a < 111 → ri_mk a = true := ri_ls ri_mkA_110 ri_k110
theorem ri_mkA_112 : ∀ a, a < 112 → ri_mk a = true := ri_ls ri_mkA_111 ri_k111
theorem ri_mkA_113 : ∀ a, a < 113 → ri_mk a = true := ri_ls ri_mkA_112 ri_k112
theorem ri_mkA_114 : ∀ a, a < 114 → ri_mk a = true := ri_ls ri_mkA_113 ri_k113
theorem ri_mkA_115 : ∀ a, a < 115 → ri_mk a = true := ri_ls ri_mkA_114 ri_k114
theorem ri_mkA_116 : ∀ a, a < 116 → ri_mk a = true := ri_ls ri_mkA_115 ri_k115
theorem ri_mkA_117 : ∀ a, a < 117 → ri_mk a = true := ri_ls ri_mkA_116 ri_k116
theorem ri_mkA_118 : ∀ a, a < 118 → ri_mk a = true := ri_ls ri_mkA_117 ri_k117
theorem ri_mkA_119 : ∀ a, a < 119 → ri_mk a = true := ri_ls ri_mkA_118 ri_k118
theorem ri_mkA_120 : ∀ a, a < 120 → ri_mk a = true := ri_ls ri_mkA_119 ri_k119
theorem ri_mkA_121 : ∀ a, a < 121 → ri_mk a = true := ri_ls ri_mkA_120 ri_k120
theorem ri_mkA_122 : ∀ a, a < 122 → ri_mk a = true := ri_ls ri_mkA_121 ri_k121
theorem ri_mkA_123 : ∀ a, a < 123 → ri_mk a = true := ri_ls ri_mkA_122 ri_k122
theorem ri_mkA_124 : ∀ a, a < 124 → ri_mk a = true := ri_ls ri_mkA_123 ri_k123
theorem ri_mkA_125 : ∀ a, a < 125 → ri_mk a = true := ri_ls ri_mkA_124 ri_k124
theorem ri_mkA_126 : ∀ a, a < 126 → ri_mk a = true := ri_ls ri_mkA_125 ri_k125
theorem ri_mkA_127 : ∀ a, a < 127 → ri_mk a = true := ri_ls ri_mkA_126 ri_k126
theorem ri_mkA_128 : ∀ a, a < 128 → ri_mk a = true := ri_ls ri_mkA_127 ri_k127
theorem ri_mkA_129 : ∀ a, a < 129 → ri_mk a = true := ri_ls ri_mkA_128 ri_k128
theorem ri_mkA_130 : ∀ a, a < 130 → ri_mk a = true := ri_ls ri_mkA_129 ri_k129
theorem ri_mkA_131 : ∀ a, a < 131 → ri_mk a = true := ri_ls ri_mkA_130 ri_k130
theorem ri_mkA_132 : ∀ a, a < 132 → ri_mk a = true := ri_ls ri_mkA_131 ri_k131
theorem ri_mkA_133 : ∀ a, a < 133 → ri_mk a = true := ri_ls ri_mkA_132 ri_k132
theorem ri_mkA_134 : ∀ a, a < 134 → ri_mk a = true := ri_ls ri_mkA_133 ri_k133
theorem ri_mkA_135 : ∀ a, a < 135 → ri_mk a = true := ri_ls ri_mkA_134 ri_k134
theorem ri_mkA_136 : ∀ a, a < 136 → ri_mk a = true := ri_ls ri_mkA_135 ri_k135
theorem ri_mkA_137 : ∀ a, a < 137 → ri_mk a = true := ri_ls ri_mkA_136 ri_k136
theorem ri_mkA_138 : ∀ a, a < 138 → ri_mk a = true := ri_ls ri_mkA_137 ri_k137
theorem ri_mkA_139 : ∀ a, a < 139 → ri_mk a = true := ri_ls ri_mkA_138 ri_k138
theorem ri_mkA_140 : ∀ a, a < 140 → ri_mk a = true := ri_ls ri_mkA_139 ri_k139
theorem ri_mkA_141 : ∀ a, a < 141 → ri_mk a = true := ri_ls ri_mkA_140 ri_k140
theorem ri_mkA_142 : ∀ a, a < 142 → ri_mk a = true := ri_ls ri_mkA_141 ri_k141
theorem ri_mkA_143 : ∀ a, a < 143 → ri_mk a = true := ri_ls ri_mkA_142 ri_k142
theorem ri_mkA_144 : ∀ a, a < 144 → ri_mk a = true := ri_ls ri_mkA_143 ri_k143
theorem ri_mkA_145 : ∀ a, a < 145 → ri_mk a = true := ri_ls ri_mkA_144 ri_k144
theorem ri_mkA_146 : ∀ a, a < 146 → ri_mk a = true := ri_ls ri_mkA_145 ri_k145
theorem ri_mkA_147 : ∀ a, a < 147 → ri_mk a = true := ri_ls ri_mkA_146 ri_k146
theorem ri_mkA_148 : ∀ a, a < 148 → ri_mk a = true := ri_ls ri_mkA_147 ri_k147
theorem ri_mkA_149 : ∀ a, a < 149 → ri_mk a = true := ri_ls ri_mkA_148 ri_k148
theorem ri_mkA_150 : ∀ a, a < 150 → ri_mk a = true := ri_ls ri_mkA_149 ri_k149
theorem ri_mkA_151 : ∀ a, a < 151 → ri_mk a = true := ri_ls ri_mkA_150 ri_k150
theorem ri_mkA_152 : ∀ a, a < 152 → ri_mk a = true := ri_ls ri_mkA_151 ri_k151
theorem ri_mkA_153 : ∀ a, a < 153 → ri_mk a = true := ri_ls ri_mkA_152 ri_k152
theorem ri_mkA_154 : ∀ a, a < 154 → ri_mk a = true := ri_ls ri_mkA_153 ri_k153
theorem ri_mkA_155 : ∀ a, a < 155 → ri_mk a = true := ri_ls ri_mkA_154 ri_k154
theorem ri_mkA_156 : ∀ a, a < 156 → ri_mk a = true := ri_ls ri_mkA_155 ri_k155
theorem ri_mkA_157 : ∀ a, a < 157 → ri_mk a = true := ri_ls ri_mkA_156 ri_k156
theorem ri_mkA_158 : ∀ a, a < 158 → ri_mk a = true := ri_ls ri_mkA_157 ri_k157
theorem ri_mkA_159 : ∀ a, a < 159 → ri_mk a = true := ri_ls ri_mkA_158 ri_k158
theorem ri_mkA_160 : ∀ a, a < 160 → ri_mk a = true := ri_ls ri_mkA_159 ri_k159
theorem ri_mkA_161 : ∀ a, a < 161 → ri_mk a = true := ri_ls ri_mkA_160 ri_k160
theorem ri_mkA_162 : ∀ a, a < 162 → ri_mk a = true := ri_ls ri_mkA_161 ri_k161
theorem ri_mkA_163 : ∀ a, a < 163 → ri_mk a = true := ri_ls ri_mkA_162 ri_k162
theorem ri_mkA_164 : ∀ a, a < 164 → ri_mk a = true := ri_ls ri_mkA_163 ri_k163
theorem ri_mkA_165 : ∀ a, a < 165 → ri_mk a = true := ri_ls ri_mkA_164 ri_k164
theorem ri_mkA_166 : ∀ a, a < 166 → ri_mk a = true := ri_ls ri_mkA_165 ri_k165
theorem ri_mkA_167 : ∀ a, a < 167 → ri_mk a = true := ri_ls ri_mkA_166 ri_k166
theorem ri_mkA_168 : ∀ a, a < 168 → ri_mk a = true := ri_ls ri_mkA_167 ri_k167
theorem ri_mkA_169 : ∀ a, a < 169 → ri_mk a = true := ri_ls ri_mkA_168 ri_k168
theorem ri_mkA_170 : ∀ a, a < 170 → ri_mk a = true := ri_ls ri_mkA_169 ri_k169
theorem ri_mkA_171 : ∀ a, a < 171 → ri_mk a = true := ri_ls ri_mkA_170 ri_k170
theorem ri_mkA_172 : ∀ a, a < 172 → ri_mk a = true := ri_ls ri_mkA_171 ri_k171
theorem ri_mkA_173 : ∀ a, a < 173 → ri_mk a = true := ri_ls ri_mkA_172 ri_k172
theorem ri_mkA_174 : ∀ a, a < 174 → ri_mk a = true := ri_ls ri_mkA_173 ri_k173
theorem ri_mkA_175 : ∀ a, a < 175 → ri_mk a = true := ri_ls ri_mkA_174 ri_k174
theorem ri_mkA_176 : ∀ a, a < 176 → ri_mk a = true := ri_ls ri_mkA_175 ri_k175
theorem ri_mkA_177 : ∀ a, a < 177 → ri_mk a = true := ri_ls ri_mkA_176 ri_k176
theorem ri_mkA_178 : ∀ a, a < 178 → ri_mk a = true := ri_ls ri_mkA_177 ri_k177
theorem ri_mkA_179 : ∀ a, a < 179 → ri_mk a = true := ri_ls ri_mkA_178 ri_k178
theorem ri_mkA_180 : ∀ a, a < 180 → ri_mk a = true := ri_ls ri_mkA_179 ri_k179
theorem ri_mkA_181 : ∀ a, a < 181 → ri_mk a = true := ri_ls ri_mkA_180 ri_k180
theorem ri_mkA_182 : ∀ a, a < 182 → ri_mk a = true := ri_ls ri_mkA_181 ri_k181
theorem ri_mkA_183 : ∀ a, a < 183 → ri_mk a = true := ri_ls ri_mkA_182 ri_k182
theorem ri_mkA_184 : ∀ a, a < 184 → ri_mk a = true := ri_ls ri_mkA_183 ri_k183
theorem ri_mkA_185 : ∀ a, a < 185 → ri_mk a = true := ri_ls ri_mkA_184 ri_k184
theorem ri_mkA_186 : ∀ a, a < 186 → ri_mk a = true := ri_ls ri_mkA_185 ri_k185
theorem ri_mkA_187 : ∀ a, a < 187 → ri_mk a = true := ri_ls ri_mkA_186 ri_k186
theorem ri_mkA_188 : ∀ a, a < 188 → ri_mk a = true := ri_ls ri_mkA_187 ri_k187
theorem ri_mkA_189 : ∀ a, a < 189 → ri_mk a = true := ri_ls ri_mkA_188 ri_k188
theorem ri_mkA_190 : ∀ a, a < 190 → ri_mk a = true := ri_ls ri_mkA_189 ri_k189
theorem ri_mkA_191 : ∀ a, a < 191 → ri_mk a = true := ri_ls ri_mkA_190 ri_k190
theorem ri_mkA_192 : ∀ a, a < 192 → ri_mk a = true := ri_ls ri_mkA_191 ri_k191
theorem ri_mkA_193 : ∀ a, a < 193 → ri_mk a = true := ri_ls ri_mkA_192 ri_k192
theorem ri_mkA_194 : ∀ a, a < 194 → ri_mk a = true := ri_ls ri_mkA_193 ri_k193
theorem ri_mkA_195 : ∀ a, a < 195 → ri_mk a = true := ri_ls ri_mkA_194 ri_k194
theorem ri_mkA_196 : ∀ a, a < 196 → ri_mk a = true := ri_ls ri_mkA_195 ri_k195
theorem ri_mkA_197 : ∀ a, a < 197 → ri_mk a = true := ri_ls ri_mkA_196 ri_k196
theorem ri_mkA_198 : ∀ a, a < 198 → ri_mk a = true := ri_ls ri_mkA_197 ri_k197
theorem ri_mkA_199 : ∀ a, a < 199 → ri_mk a = true := ri_ls ri_mkA_198 ri_k198
theorem ri_mkA_200 : ∀ a, a < 200 → ri_mk a = true := ri_ls ri_mkA_199 ri_k199
theorem ri_mkA_201 : ∀ a, a < 201 → ri_mk a = true := ri_ls ri_mkA_200 ri_k200
theorem ri_mkA_202 : ∀ a, a < 202 → ri_mk a = true := ri_ls ri_mkA_201 ri_k201
theorem ri_mkA_203 : ∀ a, a < 203 → ri_mk a = true := ri_ls ri_mkA_202 ri_k202
theorem ri_mkA_204 : ∀ a, a < 204 → ri_mk a = true := ri_ls ri_mkA_203 ri_k203
theorem ri_mkA_205 : ∀ a, a < 205 → ri_mk a = true := ri_ls ri_mkA_204 ri_k204
theorem ri_mkA_206 : ∀ a, a < 206 → ri_mk a = true := ri_ls ri_mkA_205 ri_k205
theorem ri_mkA_207 : ∀ a, a < 207 → ri_mk a = true := ri_ls ri_mkA_206 ri_k206
theorem ri_mkA_208 : ∀ a, a < 208 → ri_mk a = true := ri_ls ri_mkA_207 ri_k207
theorem ri_mkA_209 : ∀ a, a < 209 → ri_mk a = true := ri_ls ri_mkA_208 ri_k208
theorem ri_mkA_210 : ∀ a, a < 210 → ri_mk a = true := ri_ls ri_mkA_209 ri_k209
theorem ri_mkA_211 : ∀ a, a < 211 → ri_mk a = true := ri_ls ri_mkA_210 ri_k210
theorem ri_mkA_212 : ∀ a, a < 212 → ri_mk a = true := ri_ls ri_mkA_211 ri_k211
theorem ri_mkA_213 : ∀ a, a < 213 → ri_mk a = true := ri_ls ri_mkA_212 ri_k212
theorem ri_mkA_214 : ∀ a, a < 214 → ri_mk a = true := ri_ls ri_mkA_213 ri_k213
theorem ri_mkA_215 : ∀ a, a < 215 → ri_mk a = true := ri_ls ri_mkA_214 ri_k214
theorem ri_mkA_216 : ∀ a, a < 216 → ri_mk a = true := ri_ls ri_mkA_215 ri_k215
theorem ri_mkA_217 : ∀ a, a < 217 → ri_mk a = true := ri_ls ri_mkA_216 ri_k216
theorem ri_mkA_218 : ∀ a, a < 218 → ri_mk a = true := ri_ls ri_mkA_217 ri_k217
theorem ri_mkA_219 : ∀ a, a < 219 → ri_mk a = true := ri_ls ri_mkA_218 ri_k218
theorem ri_mkA_220 : ∀ a, a < 220 → ri_mk a = true := ri_ls ri_mkA_219 ri_k219
theorem ri_mkA_221 : ∀ a, a < 221 → ri_mk a = true := ri_ls ri_mkA_220 ri_k220
theorem ri_mkA_222 : ∀ a, a < 222 → ri_mk a = true := ri_ls ri_mkA_221 ri_k221
theorem ri_mkA_223 : ∀ a, a < 223 → ri_mk a = true := ri_ls ri_mkA_222 ri_k222
theorem ri_mkA_224 : ∀ a, a < 224 → ri_mk a = true := ri_ls ri_mkA_223 ri_k223
theorem ri_mkA_225 : ∀ a, a < 225 → ri_mk a = true := ri_ls ri_mkA_224 ri_k224
theorem ri_mkA_226 : ∀ a, a < 226 → ri_mk a = true := ri_ls ri_mkA_225 ri_k225
theorem ri_mkA_227 : ∀ a, a < 227 → ri_mk a = true := ri_ls ri_mkA_226 ri_k226
theorem ri_mkA_228 : ∀ a, a < 228 → ri_mk a = true := ri_ls ri_mkA_227 ri_k227
theorem ri_mkA_229 : ∀ a, a < 229 → ri_mk a = true := ri_ls ri_mkA_228 ri_k228
theorem ri_mkA_230 : ∀ a, a < 230 → ri_mk a = true := ri_ls ri_mkA_229 ri_k229
theorem ri_mkA_231 : ∀ a, a < 231 → ri_mk a = true := ri_ls ri_mkA_230 ri_k230
theorem ri_mkA_232 : ∀ a, a < 232 → ri_mk a = true := ri_ls ri_mkA_231 ri_k231
theorem ri_mkA_233 : ∀ a, a < 233 → ri_mk a = true := ri_ls ri_mkA_232 ri_k232
theorem ri_mkA_234 : ∀ a, a < 234 → ri_mk a = true := ri_ls ri_mkA_233 ri_k233
theorem ri_mkA_235 : ∀ a, a < 235 → ri_mk a = true := ri_ls ri_mkA_234 ri_k234
theorem ri_mkA_236 : ∀ a, a < 236 → ri_mk a = true := ri_ls ri_mkA_235 ri_k235
theorem ri_mkA_237 : ∀ a, a < 237 → ri_mk a = true := ri_ls ri_mkA_236 ri_k236
theorem ri_mkA_238 : ∀ a, a < 238 → ri_mk a = true := ri_ls ri_mkA_237 ri_k237
theorem ri_mkA_239 : ∀ a, a < 239 → ri_mk a = true := ri_ls ri_mkA_238 ri_k238
theorem ri_mkA_240 : ∀ a, a < 240 → ri_mk a = true := ri_ls ri_mkA_239 ri_k239
theorem ri_mkA_241 : ∀ a, a < 241 → ri_mk a = true := ri_ls ri_mkA_240 ri_k240
theorem ri_mkA_242 : ∀ a, a < 242 → ri_mk a = true := ri_ls ri_mkA_241 ri_k241
theorem ri_mkA_243 : ∀ a, a < 243 → ri_mk a = true := ri_ls ri_mkA_242 ri_k242
theorem ri_mkA_244 : ∀ a, a < 244 → ri_mk a = true := ri_ls ri_mkA_243 ri_k243
theorem ri_mkA_245 : ∀ a, a < 245 → ri_mk a = true := ri_ls ri_mkA_244 ri_k244
theorem ri_mkA_246 : ∀ a, a < 246 → ri_mk a = true := ri_ls ri_mkA_245 ri_k245
theorem ri_mkA_247 : ∀ a, a < 247 → ri_mk a = true := ri_ls ri_mkA_246 ri_k246
theorem ri_mkA_248 : ∀ a, a < 248 → ri_mk a = true := ri_ls ri_mkA_247 ri_k247
theorem ri_mkA_249 : ∀ a, a < 249 → ri_mk a = true := ri_ls ri_mkA_248 ri_k248
theorem ri_mkA_250 : ∀ a, a < 250 → ri_mk a = true := ri_ls ri_mkA_249 ri_k249
theorem ri_mkA_251 : ∀ a, a < 251 → ri_mk a = true := ri_ls ri_mkA_250 ri_k250
theorem ri_mkA_252 : ∀ a, a < 252 → ri_mk a = true := ri_ls ri_mkA_251 ri_k251
theorem ri_mkA_253 : ∀ a, a < 253 → ri_mk a = true := ri_ls ri_mkA_252 ri_k252
theorem ri_mkA_254 : ∀ a, a < 254 → ri_mk a = true := ri_ls ri_mkA_253 ri_k253
theorem ri_mkA_255 : ∀ a, a < 255 → ri_mk a = true := ri_ls ri_mkA_254 ri_k254
theorem ri_mkA_256 : ∀ a, a < 256 → ri_mk a = true := ri_ls ri_mkA_255 ri_k255
theorem ri_mkA_257 : ∀ a, a < 257 → ri_mk a = true := ri_ls ri_mkA_256 ri_k256
theorem ri_mkA_258 : ∀ a, a < 258 → ri_mk a = true := ri_ls ri_mkA_257 ri_k257
theorem ri_mkA_259 : ∀ a, a < 259 → ri_mk a = true := ri_ls ri_mkA_258 ri_k258
theorem ri_mkA_260 : ∀ a, a < 260 → ri_mk a = true := ri_ls ri_mkA_259 ri_k259
theorem ri_mkA_261 : ∀ a, a < 261 → ri_mk a = true := ri_ls ri_mkA_260 ri_k260
theorem ri_mkA_262 : ∀ a, a < 262 → ri_mk a = true := ri_ls ri_mkA_261 ri_k261
theorem ri_mkA_263 : ∀ a, a < 263 → ri_mk a = true := ri_ls ri_mkA_262 ri_k262
theorem ri_mkA_264 : ∀ a, a < 264 → ri_mk a = true := ri_ls ri_mkA_263 ri_k263
theorem ri_mkA_265 : ∀ a, a < 265 → ri_mk a = true := ri_ls ri_mkA_264 ri_k264
theorem ri_mkA_266 : ∀ a, a < 266 → ri_mk a = true := ri_ls ri_mkA_265 ri_k265
theorem ri_mkA_267 : ∀ a, a < 267 → ri_mk a = true := ri_ls ri_mkA_266 ri_k266
theorem ri_mkA_268 : ∀ a, a < 268 → ri_mk a = true := ri_ls ri_mkA_267 ri_k267
theorem ri_mkA_269 : ∀ a, a < 269 → ri_mk a = true := ri_ls ri_mkA_268 ri_k268
theorem ri_mkA_270 : ∀ a, a < 270 → ri_mk a = true := ri_ls ri_mkA_269 ri_k269
theorem ri_mkA_271 : ∀ a, a < 271 → ri_mk a = true := ri_ls ri_mkA_270 ri_k270
theorem ri_mkA_272 : ∀ a, a < 272 → ri_mk a = true := ri_ls ri_mkA_271 ri_k271
theorem ri_mkA_273 : ∀ a, a < 273 → ri_mk a = true := ri_ls ri_mkA_272 ri_k272
theorem ri_mkA_274 : ∀ a, a < 274 → ri_mk a = true := ri_ls ri_mkA_273 ri_k273
theorem ri_mkA_275 : ∀ a, a < 275 → ri_mk a = true := ri_ls ri_mkA_274 ri_k274
theorem ri_mkA_276 : ∀ a, a < 276 → ri_mk a = true := ri_ls ri_mkA_275 ri_k275
theorem ri_mkA_277 : ∀ a, a < 277 → ri_mk a = true := ri_ls ri_mkA_276 ri_k276
theorem ri_mkA_278 : ∀ a, a < 278 → ri_mk a = true := ri_ls ri_mkA_277 ri_k277
theorem ri_mkA_279 : ∀ a, a < 279 → ri_mk a = true := ri_ls ri_mkA_278 ri_k278
theorem ri_mkA_280 : ∀ a, a < 280 → ri_mk a = true := ri_ls ri_mkA_279 ri_k279
theorem ri_mkA_281 : ∀ a, a < 281 → ri_mk a = true := ri_ls ri_mkA_280 ri_k280
theorem ri_mk_all : ∀ a, a < ri_n → ri_mk a = true := ri_mkA_281
theorem ri_czA_0 : ∀ a, a < 0 → ri_chk a = true := fun _ h => absurd h (Nat.not_lt_zero _)
theorem ri_czA_1 : ∀ a, a < 1 → ri_chk a = true := ri_ls ri_czA_0 ri_cz0
theorem ri_czA_2 : ∀ a, a < 2 → ri_chk a = true := ri_ls ri_czA_1 ri_cz1
theorem ri_czA_3 : ∀ a, a < 3 → ri_chk a = true := ri_ls ri_czA_2 ri_cz2
theorem ri_czA_4 : ∀ a, a < 4 → ri_chk a = true := ri_ls ri_czA_3 ri_cz3
theorem ri_czA_5 : ∀ a, a < 5 → ri_chk a = true := ri_ls ri_czA_4 ri_cz4
theorem ri_czA_6 : ∀ a, a < 6 → ri_chk a = true := ri_ls ri_czA_5 ri_cz5
theorem ri_czA_7 : ∀ a, a < 7 → ri_chk a = true := ri_ls ri_czA_6 ri_cz6
theorem ri_czA_8 : ∀ a, a < 8 → ri_chk a = true := ri_ls ri_czA_7 ri_cz7
theorem ri_czA_9 : ∀ a, a < 9 → ri_chk a = true := ri_ls ri_czA_8 ri_cz8
theorem ri_czA_10 : ∀ a, a < 10 → ri_chk a = true := ri_ls ri_czA_9 ri_cz9
theorem ri_czA_11 : ∀ a, a < 11 → ri_chk a = true := ri_ls ri_czA_10 ri_cz10
theorem ri_czA_12 : ∀ a, a < 12 → ri_chk a = true := ri_ls ri_czA_11 ri_cz11
theorem ri_czA_13 : ∀ a, a < 13 → ri_chk a = true := ri_ls ri_czA_12 ri_cz12
theorem ri_czA_14 : ∀ a, a < 14 → ri_chk a = true := ri_ls ri_czA_13 ri_cz13
theorem ri_czA_15 : ∀ a, a < 15 → ri_chk a = true := ri_ls ri_czA_14 ri_cz14
theorem ri_czA_16 : ∀ a, a < 16 → ri_chk a = true := ri_ls ri_czA_15 ri_cz15
theorem ri_czA_17 : ∀ a, a < 17 → ri_chk a = true := ri_ls ri_czA_16 ri_cz16
theorem ri_czA_18 : ∀ a, a < 18 → ri_chk a = true := ri_ls ri_czA_17 ri_cz17
theorem ri_czA_19 : ∀ a, a < 19 → ri_chk a = true := ri_ls ri_czA_18 ri_cz18
theorem ri_czA_20 : ∀ a, a < 20 → ri_chk a = true := ri_ls ri_czA_19 ri_cz19
theorem ri_czA_21 : ∀ a, a < 21 → ri_chk a = true := ri_ls ri_czA_20 ri_cz20
theorem ri_czA_22 : ∀ a, a < 22 → ri_chk a = true := ri_ls ri_czA_21 ri_cz21
theorem ri_czA_23 : ∀ a, a < 23 → ri_chk a = true := ri_ls ri_czA_22 ri_cz22
theorem ri_czA_24 : ∀ a, a < 24 → ri_chk a = true := ri_ls ri_czA_23 ri_cz23
theorem ri_czA_25 : ∀ a, a < 25 → ri_chk a = true := ri_ls ri_czA_24 ri_cz24
theorem ri_czA_26 : ∀ a, a < 26 → ri_chk a = true := ri_ls ri_czA_25 ri_cz25
theorem ri_czA_27 : ∀ a, a < 27 → ri_chk a = true := ri_ls ri_czA_26 ri_cz26
theorem ri_czA_28 : ∀ a, a < 28 → ri_chk a = true := ri_ls ri_czA_27 ri_cz27
theorem ri_czA_29 : ∀ a, a < 29 → ri_chk a = true := ri_ls ri_czA_28 ri_cz28
theorem ri_czA_30 : ∀ a, a < 30 → ri_chk a = true := ri_ls ri_czA_29 ri_cz29
theorem ri_czA_31 : ∀ a, a < 31 → ri_chk a = true := ri_ls ri_czA_30 ri_cz30
theorem ri_czA_32 : ∀ a, a < 32 → ri_chk a = true := ri_ls ri_czA_31 ri_cz31
theorem ri_czA_33 : ∀ a, a < 33 → ri_chk a = true := ri_ls ri_czA_32 ri_cz32
theorem ri_czA_34 : ∀ a, a < 34 → ri_chk a = true := ri_ls ri_czA_33 ri_cz33
theorem ri_czA_35 : ∀ a, a < 35 → ri_chk a = true := ri_ls ri_czA_34 ri_cz34
theorem ri_czA_36 : ∀ a, a < 36 → ri_chk a = true := ri_ls ri_czA_35 ri_cz35
theorem ri_czA_37 : ∀ a, a < 37 → ri_chk a = true := ri_ls ri_czA_36 ri_cz36
theorem ri_czA_38 : ∀ a, a < 38 → ri_chk a = true := ri_ls ri_czA_37 ri_cz37
theorem ri_czA_39 : ∀ a, a < 39 → ri_chk a = true := ri_ls ri_czA_38 ri_cz38
theorem ri_czA_40 : ∀ a, a < 40 → ri_chk a = true := ri_ls ri_czA_39 ri_cz39
theorem ri_czA_41 : ∀ a, a < 41 → ri_chk a = true := ri_ls ri_czA_40 ri_cz40
theorem ri_czA_42 : ∀ a, a < 42 → ri_chk a = true := ri_ls ri_czA_41 ri_cz41
theorem ri_czA_43 : ∀ a, a < 43 → ri_chk a = true := ri_ls ri_czA_42 ri_cz42
theorem ri_czA_44 : ∀ a, a < 44 → ri_chk a = true := ri_ls ri_czA_43 ri_cz43
theorem ri_czA_45 : ∀ a, a < 45 → ri_chk a = true := ri_ls ri_czA_44 ri_cz44
theorem ri_czA_46 : ∀ a, a < 46 → ri_chk a = true := ri_ls ri_czA_45 ri_cz45
theorem ri_czA_47 : ∀ a, a < 47 → ri_chk a = true := ri_ls ri_czA_46 ri_cz46
theorem ri_czA_48 : ∀ a, a < 48 → ri_chk a = true := ri_ls ri_czA_47 ri_cz47
theorem ri_czA_49 : ∀ a, a < 49 → ri_chk a = true := ri_ls ri_czA_48 ri_cz48
theorem ri_czA_50 : ∀ a, a < 50 → ri_chk a = true := ri_ls ri_czA_49 ri_cz49
theorem ri_czA_51 : ∀ a, a < 51 → ri_chk a = true := ri_ls ri_czA_50 ri_cz50
theorem ri_czA_52 : ∀ a, a < 52 → ri_chk a = true := ri_ls ri_czA_51 ri_cz51
theorem ri_czA_53 : ∀ a, a < 53 → ri_chk a = true := ri_ls ri_czA_52 ri_cz52
theorem ri_czA_54 : ∀ a, a < 54 → ri_chk a = true := ri_ls ri_czA_53 ri_cz53
theorem ri_czA_55 : ∀ a, a < 55 → ri_chk a = true := ri_ls ri_czA_54 ri_cz54
theorem ri_czA_56 : ∀ a, a < 56 → ri_chk a = true := ri_ls ri_czA_55 ri_cz55
theorem ri_czA_57 : ∀ a, a < 57 → ri_chk a = true := ri_ls ri_czA_56 ri_cz56
theorem ri_czA_58 : ∀ a, a < 58 → ri_chk a = true := ri_ls ri_czA_57 ri_cz57
theorem ri_czA_59 : ∀ a, a < 59 → ri_chk a = true := ri_ls ri_czA_58 ri_cz58
theorem ri_czA_60 : ∀ a, a < 60 → ri_chk a = true := ri_ls ri_czA_59 ri_cz59
theorem ri_czA_61 : ∀ a, a < 61 → ri_chk a = true := ri_ls ri_czA_60 ri_cz60
theorem ri_czA_62 : ∀ a, a < 62 → ri_chk a = true := ri_ls ri_czA_61 ri_cz61
theorem ri_czA_63 : ∀ a, a < 63 → ri_chk a = true := ri_ls ri_czA_62 ri_cz62
theorem ri_czA_64 : ∀ a, a < 64 → ri_chk a = true := ri_ls ri_czA_63 ri_cz63
theorem ri_czA_65 : ∀ a, a < 65 → ri_chk a = true := ri_ls ri_czA_64 ri_cz64
theorem ri_czA_66 : ∀ a, a < 66 → ri_chk a = true := ri_ls ri_czA_65 ri_cz65
theorem ri_czA_67 : ∀ a, a < 67 → ri_chk a = true := ri_ls ri_czA_66 ri_cz66
theorem ri_czA_68 : ∀ a, a < 68 → ri_chk a = true := ri_ls ri_czA_67 ri_cz67
theorem ri_czA_69 : ∀ a, a < 69 → ri_chk a = true := ri_ls ri_czA_68 ri_cz68
theorem ri_czA_70 : ∀ a, a < 70 → ri_chk a = true := ri_ls ri_czA_69 ri_cz69
theorem ri_czA_71 : ∀ a, a < 71 → ri_chk a = true := ri_ls ri_czA_70 ri_cz70
theorem ri_czA_72 : ∀ a, a < 72 → ri_chk a = true := ri_ls ri_czA_71 ri_cz71
theorem ri_czA_73 : ∀ a, a < 73 → ri_chk a = true := ri_ls ri_czA_72 ri_cz72
theorem ri_czA_74 : ∀ a, a < 74 → ri_chk a = true := ri_ls ri_czA_73 ri_cz73
theorem ri_czA_75 : ∀ a, a < 75 → ri_chk a = true := ri_ls ri_czA_74 ri_cz74
theorem ri_czA_76 : ∀ a, a < 76 → ri_chk a = true := ri_ls ri_czA_75 ri_cz75
theorem ri_czA_77 : ∀ a, a < 77 → ri_chk a = true := ri_ls ri_czA_76 ri_cz76
theorem ri_czA_78 : ∀ a, a < 78 → ri_chk a = true := ri_ls ri_czA_77 ri_cz77
theorem ri_czA_79 : ∀ a, a < 79 → ri_chk a = true := ri_ls ri_czA_78 ri_cz78
theorem ri_czA_80 : ∀ a, a < 80 → ri_chk a = true := ri_ls ri_czA_79 ri_cz79
theorem ri_czA_81 : ∀ a, a < 81 → ri_chk a = true := ri_ls ri_czA_80 ri_cz80
theorem ri_czA_82 : ∀ a, a < 82 → ri_chk a = true := ri_ls ri_czA_81 ri_cz81
theorem ri_czA_83 : ∀ a, a < 83 → ri_chk a = true := ri_ls ri_czA_82 ri_cz82
theorem ri_czA_84 : ∀ a, a < 84 → ri_chk a = true := ri_ls ri_czA_83 ri_cz83
theorem ri_czA_85 : ∀ a, a < 85 → ri_chk a = true := ri_ls ri_czA_84 ri_cz84
theorem ri_czA_86 : ∀ a, a < 86 → ri_chk a = true := ri_ls ri_czA_85 ri_cz85
theorem ri_czA_87 : ∀ a, a < 87 → ri_chk a = true := ri_ls ri_czA_86 ri_cz86
theorem ri_czA_88 : ∀ a, a < 88 → ri_chk a = true := ri_ls ri_czA_87 ri_cz87
theorem ri_czA_89 : ∀ a, a < 89 → ri_chk a = true := ri_ls ri_czA_88 ri_cz88
theorem ri_czA_90 : ∀ a, a < 90 → ri_chk a = true := ri_ls ri_czA_89 ri_cz89
theorem ri_czA_91 : ∀ a, a < 91 → ri_chk a = true := ri_ls ri_czA_90 ri_cz90
theorem ri_czA_92 : ∀ a, a < 92 → ri_chk a = true := ri_ls ri_czA_91 ri_cz91
theorem ri_czA_93 : ∀ a, a < 93 → ri_chk a = true := ri_ls ri_czA_92 ri_cz92
theorem ri_czA_94 : ∀ a, a < 94 → ri_chk a = true := ri_ls ri_czA_93 ri_cz93
theorem ri_czA_95 : ∀ a, a < 95 → ri_chk a = true := ri_ls ri_czA_94 ri_cz94
theorem ri_czA_96 : ∀ a, a < 96 → ri_chk a = true := ri_ls ri_czA_95 ri_cz95
theorem ri_czA_97 : ∀ a, a < 97 → ri_chk a = true := ri_ls ri_czA_96 ri_cz96
theorem ri_czA_98 : ∀ a, a < 98 → ri_chk a = true := ri_ls ri_czA_97 ri_cz97
theorem ri_czA_99 : ∀ a, a < 99 → ri_chk a = true := ri_ls ri_czA_98 ri_cz98
theorem ri_czA_100 : ∀ a, a < 100 → ri_chk a = true := ri_ls ri_czA_99 ri_cz99
theorem ri_czA_101 : ∀ a, a < 101 → ri_chk a = true := ri_ls ri_czA_100 ri_cz100
theorem ri_czA_102 : ∀ a, a < 102 → ri_chk a = true := ri_ls ri_czA_101 ri_cz101
theorem ri_czA_103 : ∀ a, a < 103 → ri_chk a = true := ri_ls ri_czA_102 ri_cz102
theorem ri_czA_104 : ∀ a, a < 104 → ri_chk a = true := ri_ls ri_czA_103 ri_cz103
theorem ri_czA_105 : ∀ a, a < 105 → ri_chk a = true := ri_ls ri_czA_104 ri_cz104
theorem ri_czA_106 : ∀ a, a < 106 → ri_chk a = true := ri_ls ri_czA_105 ri_cz105
theorem ri_czA_107 : ∀ a, a < 107 → ri_chk a = true := ri_ls ri_czA_106 ri_cz106
theorem ri_czA_108 : ∀ a, a < 108 → ri_chk a = true := ri_ls ri_czA_107 ri_cz107
theorem ri_czA_109 : ∀ a, a < 109 → ri_chk a = true := ri_ls ri_czA_108 ri_cz108
theorem ri_czA_110 : ∀ a, a < 110 → ri_chk a = true := ri_ls ri_czA_109 ri_cz109
theorem ri_czA_111 : ∀ a, a < 111 → ri_chk a = true := ri_ls ri_czA_110 ri_cz110
theorem ri_czA_112 : ∀ a, a < 112 → ri_chk a = true := ri_ls ri_czA_111 ri_cz111
theorem ri_czA_113 : ∀ a, a < 113 → ri_chk a = true := ri_ls ri_czA_112 ri_cz112
theorem ri_czA_114 : ∀ a, a < 114 → ri_chk a = true := ri_ls ri_czA_113 ri_cz113
theorem ri_czA_115 : ∀ a, a < 115 → ri_chk a = true := ri_ls ri_czA_114 ri_cz114
theorem ri_czA_116 : ∀ a, a < 116 → ri_chk a = true := ri_ls ri_czA_115 ri_cz115
theorem ri_czA_117 : ∀ a, a < 117 → ri_chk a = true := ri_ls ri_czA_116 ri_cz116
theorem ri_czA_118 : ∀ a, a < 118 → ri_chk a = true := ri_ls ri_czA_117 ri_cz117
theorem ri_czA_119 : ∀ a, a < 119 → ri_chk a = true := ri_ls ri_czA_118 ri_cz118
theorem ri_czA_120 : ∀ a, a < 120 → ri_chk a = true := ri_ls ri_czA_119 ri_cz119
theorem ri_czA_121 : ∀ a, a < 121 → ri_chk a = true := ri_ls ri_czA_120 ri_cz120
theorem ri_czA_122 : ∀ a, a < 122 → ri_chk a = true := ri_ls ri_czA_121 ri_cz121
theorem ri_czA_123 : ∀ a, a < 123 → ri_chk a = true := ri_ls ri_czA_122 ri_cz122
theorem ri_czA_124 : ∀ a, a < 124 → ri_chk a = true := ri_ls ri_czA_123 ri_cz123
theorem ri_czA_125 : ∀ a, a < 125 → ri_chk a = true := ri_ls ri_czA_124 ri_cz124
theorem ri_czA_126 : ∀ a, a < 126 → ri_chk a = true := ri_ls ri_czA_125 ri_cz125
theorem ri_czA_127 : ∀ a, a < 127 → ri_chk a = true := ri_ls ri_czA_126 ri_cz126
theorem ri_czA_128 : ∀ a, a < 128 → ri_chk a = true := ri_ls ri_czA_127 ri_cz127
theorem ri_czA_129 : ∀ a, a < 129 → ri_chk a = true := ri_ls ri_czA_128 ri_cz128
theorem ri_czA_130 : ∀ a, a < 130 → ri_chk a = true := ri_ls ri_czA_129 ri_cz129
theorem ri_czA_131 : ∀ a, a < 131 → ri_chk a = true := ri_ls ri_czA_130 ri_cz130
theorem ri_czA_132 : ∀ a, a < 132 → ri_chk a = true := ri_ls ri_czA_131 ri_cz131
theorem ri_czA_133 : ∀ a, a < 133 → ri_chk a = true := ri_ls ri_czA_132 ri_cz132
theorem ri_czA_134 : ∀ a, a < 134 → ri_chk a = true := ri_ls ri_czA_133 ri_cz133
theorem ri_czA_135 : ∀ a, a < 135 → ri_chk a = true := ri_ls ri_czA_134 ri_cz134
theorem ri_czA_136 : ∀ a, a < 136 → ri_chk a = true := ri_ls ri_czA_135 ri_cz135
theorem ri_czA_137 : ∀ a, a < 137 → ri_chk a = true := ri_ls ri_czA_136 ri_cz136
theorem ri_czA_138 : ∀ a, a < 138 → ri_chk a = true := ri_ls ri_czA_137 ri_cz137
theorem ri_czA_139 : ∀ a, a < 139 → ri_chk a = true := ri_ls ri_czA_138 ri_cz138
theorem ri_czA_140 : ∀ a, a < 140 → ri_chk a = true := ri_ls ri_czA_139 ri_cz139
theorem ri_czA_141 : ∀ a, a < 141 → ri_chk a = true := ri_ls ri_czA_140 ri_cz140
theorem ri_czA_142 : ∀ a, a < 142 → ri_chk a = true := ri_ls ri_czA_141 ri_cz141
theorem ri_czA_143 : ∀ a, a < 143 → ri_chk a = true := ri_ls ri_czA_142 ri_cz142
theorem ri_czA_144 : ∀ a, a < 144 → ri_chk a = true := ri_ls ri_czA_143 ri_cz143
theorem ri_czA_145 : ∀ a, a < 145 → ri_chk a = true := ri_ls ri_czA_144 ri_cz144
theorem ri_czA_146 : ∀ a, a < 146 → ri_chk a = true := ri_ls ri_czA_145 ri_cz145
theorem ri_czA_147 : ∀ a, a < 147 → ri_chk a = true := ri_ls ri_czA_146 ri_cz146
theorem ri_czA_148 : ∀ a, a < 148 → ri_chk a = true := ri_ls ri_czA_147 ri_cz147
theorem ri_czA_149 : ∀ a, a < 149 → ri_chk a = true := ri_ls ri_czA_148 ri_cz148
theorem ri_czA_150 : ∀ a, a < 150 → ri_chk a = true := ri_ls ri_czA_149 ri_cz149
theorem ri_czA_151 : ∀ a, a < 151 → ri_chk a = true := ri_ls ri_czA_150 ri_cz150
theorem ri_czA_152 : ∀ a, a < 152 → ri_chk a = true := ri_ls ri_czA_151 ri_cz151
theorem ri_czA_153 : ∀ a, a < 153 → ri_chk a = true := ri_ls ri_czA_152 ri_cz152
theorem ri_czA_154 : ∀ a, a < 154 → ri_chk a = true := ri_ls ri_czA_153 ri_cz153
theorem ri_czA_155 : ∀ a, a < 155 → ri_chk a = true := ri_ls ri_czA_154 ri_cz154
theorem ri_czA_156 : ∀ a, a < 156 → ri_chk a = true := ri_ls ri_czA_155 ri_cz155
theorem ri_czA_157 : ∀ a, a < 157 → ri_chk a = true := ri_ls ri_czA_156 ri_cz156
theorem ri_czA_158 : ∀ a, a < 158 → ri_chk a = true := ri_ls ri_czA_157 ri_cz157
theorem ri_czA_159 : ∀ a, a < 159 → ri_chk a = true := ri_ls ri_czA_158 ri_cz158
theorem ri_czA_160 : ∀ a, a < 160 → ri_chk a = true := ri_ls ri_czA_159 ri_cz159
theorem ri_czA_161 : ∀ a, a < 161 → ri_chk a = true := ri_ls ri_czA_160 ri_cz160
theorem ri_czA_162 : ∀ a, a < 162 → ri_chk a = true := ri_ls ri_czA_161 ri_cz161
theorem ri_czA_163 : ∀ a, a < 163 → ri_chk a = true := ri_ls ri_czA_162 ri_cz162
theorem ri_czA_164 : ∀ a, a < 164 → ri_chk a = true := ri_ls ri_czA_163 ri_cz163
theorem ri_czA_165 : ∀ a, a < 165 → ri_chk a = true := ri_ls ri_czA_164 ri_cz164
theorem ri_czA_166 : ∀ a, a < 166 → ri_chk a = true := ri_ls ri_czA_165 ri_cz165
theorem ri_czA_167 : ∀ a, a < 167 → ri_chk a = true := ri_ls ri_czA_166 ri_cz166
theorem ri_czA_168 : ∀ a, a < 168 → ri_chk a = true := ri_ls ri_czA_167 ri_cz167
theorem ri_czA_169 : ∀ a, a < 169 → ri_chk a = true := ri_ls ri_czA_168 ri_cz168
theorem ri_czA_170 : ∀ a, a < 170 → ri_chk a = true := ri_ls ri_czA_169 ri_cz169
theorem ri_czA_171 : ∀ a, a < 171 → ri_chk a = true := ri_ls ri_czA_170 ri_cz170
theorem ri_czA_172 : ∀ a, a < 172 → ri_chk a = true := ri_ls ri_czA_171 ri_cz171
theorem ri_czA_173 : ∀ a, a < 173 → ri_chk a = true := ri_ls ri_czA_172 ri_cz172
theorem ri_czA_174 : ∀ a, a < 174 → ri_chk a = true := ri_ls ri_czA_173 ri_cz173
theorem ri_czA_175 : ∀ a, a < 175 → ri_chk a = true := ri_ls ri_czA_174 ri_cz174
theorem ri_czA_176 : ∀ a, a < 176 → ri_chk a = true := ri_ls ri_czA_175 ri_cz175
theorem ri_czA_177 : ∀ a, a < 177 → ri_chk a = true := ri_ls ri_czA_176 ri_cz176
theorem ri_czA_178 : ∀ a, a < 178 → ri_chk a = true := ri_ls ri_czA_177 ri_cz177
theorem ri_czA_179 : ∀ a, a < 179 → ri_chk a = true := ri_ls ri_czA_178 ri_cz178
theorem ri_czA_180 : ∀ a, a < 180 → ri_chk a = true := ri_ls ri_czA_179 ri_cz179
theorem ri_czA_181 : ∀ a, a < 181 → ri_chk a = true := ri_ls ri_czA_180 ri_cz180
theorem ri_czA_182 : ∀ a, a < 182 → ri_chk a = true := ri_ls ri_czA_181 ri_cz181
theorem ri_czA_183 : ∀ a, a < 183 → ri_chk a = true := ri_ls ri_czA_182 ri_cz182
theorem ri_czA_184 : ∀ a, a < 184 → ri_chk a = true := ri_ls ri_czA_183 ri_cz183
theorem ri_czA_185 : ∀ a, a < 185 → ri_chk a = true := ri_ls ri_czA_184 ri_cz184
theorem ri_czA_186 : ∀ a, a < 186 → ri_chk a = true := ri_ls ri_czA_185 ri_cz185
theorem ri_czA_187 : ∀ a, a < 187 → ri_chk a = true := ri_ls ri_czA_186 ri_cz186
theorem ri_czA_188 : ∀ a, a < 188 → ri_chk a = true := ri_ls ri_czA_187 ri_cz187
theorem ri_czA_189 : ∀ a, a < 189 → ri_chk a = true := ri_ls ri_czA_188 ri_cz188
theorem ri_czA_190 : ∀ a, a < 190 → ri_chk a = true := ri_ls ri_czA_189 ri_cz189
theorem ri_czA_191 : ∀ a, a < 191 → ri_chk a = true := ri_ls ri_czA_190 ri_cz190
theorem ri_czA_192 : ∀ a, a < 192 → ri_chk a = true := ri_ls ri_czA_191 ri_cz191
theorem ri_czA_193 : ∀ a, a < 193 → ri_chk a = true := ri_ls ri_czA_192 ri_cz192
theorem ri_czA_194 : ∀ a, a < 194 → ri_chk a = true := ri_ls ri_czA_193 ri_cz193
theorem ri_czA_195 : ∀ a, a < 195 → ri_chk a = true := ri_ls ri_czA_194 ri_cz194
theorem ri_czA_196 : ∀ a, a < 196 → ri_chk a = true := ri_ls ri_czA_195 ri_cz195
theorem ri_czA_197 : ∀ a, a < 197 → ri_chk a = true := ri_ls ri_czA_196 ri_cz196
theorem ri_czA_198 : ∀ a, a < 198 → ri_chk a = true := ri_ls ri_czA_197 ri_cz197
theorem ri_czA_199 : ∀ a, a < 199 → ri_chk a = true := ri_ls ri_czA_198 ri_cz198
theorem ri_czA_200 : ∀ a, a < 200 → ri_chk a = true := ri_ls ri_czA_199 ri_cz199
theorem ri_czA_201 : ∀ a, a < 201 → ri_chk a = true := ri_ls ri_czA_200 ri_cz200
theorem ri_czA_202 : ∀ a, a < 202 → ri_chk a = true := ri_ls ri_czA_201 ri_cz201
theorem ri_czA_203 : ∀ a, a < 203 → ri_chk a = true := ri_ls ri_czA_202 ri_cz202
theorem ri_czA_204 : ∀ a, a < 204 → ri_chk a = true := ri_ls ri_czA_203 ri_cz203
theorem ri_czA_205 : ∀ a, a < 205 → ri_chk a = true := ri_ls ri_czA_204 ri_cz204
theorem ri_czA_206 : ∀ a, a < 206 → ri_chk a = true := ri_ls ri_czA_205 ri_cz205
theorem ri_czA_207 : ∀ a, a < 207 → ri_chk a = true := ri_ls ri_czA_206 ri_cz206
theorem ri_czA_208 : ∀ a, a < 208 → ri_chk a = true := ri_ls ri_czA_207 ri_cz207
theorem ri_czA_209 : ∀ a, a < 209 → ri_chk a = true := ri_ls ri_czA_208 ri_cz208
theorem ri_czA_210 : ∀ a, a < 210 → ri_chk a = true := ri_ls ri_czA_209 ri_cz209
theorem ri_czA_211 : ∀ a, a < 211 → ri_chk a = true := ri_ls ri_czA_210 ri_cz210
theorem ri_czA_212 : ∀ a, a < 212 → ri_chk a = true := ri_ls ri_czA_211 ri_cz211
theorem ri_czA_213 : ∀ a, a < 213 → ri_chk a = true := ri_ls ri_czA_212 ri_cz212
theorem ri_czA_214 : ∀ a, a < 214 → ri_chk a = true := ri_ls ri_czA_213 ri_cz213
theorem ri_czA_215 : ∀ a, a < 215 → ri_chk a = true := ri_ls ri_czA_214 ri_cz214
theorem ri_czA_216 : ∀ a, a < 216 → ri_chk a = true := ri_ls ri_czA_215 ri_cz215
theorem ri_czA_217 : ∀ a, a < 217 → ri_chk a = true := ri_ls ri_czA_216 ri_cz216
theorem ri_czA_218 : ∀ a, a < 218 → ri_chk a = true := ri_ls ri_czA_217 ri_cz217
theorem ri_czA_219 : ∀ a, a < 219 → ri_chk a = true := ri_ls ri_czA_218 ri_cz218
theorem ri_czA_220 : ∀ a, a < 220 → ri_chk a = true := ri_ls ri_czA_219 ri_cz219
theorem ri_czA_221 : ∀ a, a < 221 → ri_chk a = true := ri_ls ri_czA_220 ri_cz220
theorem ri_czA_222 : ∀ a, a < 222 → ri_chk a = true := ri_ls ri_czA_221 ri_cz221
theorem ri_czA_223 : ∀ a, a < 223 → ri_chk a = true := ri_ls ri_czA_222 ri_cz222
theorem ri_czA_224 : ∀ a, a < 224 → ri_chk a = true := ri_ls ri_czA_223 ri_cz223
theorem ri_czA_225 : ∀ a, a < 225 → ri_chk a = true := ri_ls ri_czA_224 ri_cz224
theorem ri_czA_226 : ∀ a, a < 226 → ri_chk a = true := ri_ls ri_czA_225 ri_cz225
theorem ri_czA_227 : ∀ a, a < 227 → ri_chk a = true := ri_ls ri_czA_226 ri_cz226
theorem ri_czA_228 : ∀ a, a < 228 → ri_chk a = true := ri_ls ri_czA_227 ri_cz227
theorem ri_czA_229 : ∀ a, a < 229 → ri_chk a = true := ri_ls ri_czA_228 ri_cz228
theorem ri_czA_230 : ∀ a, a < 230 → ri_chk a = true := ri_ls ri_czA_229 ri_cz229
theorem ri_czA_231 : ∀ a, a < 231 → ri_chk a = true := ri_ls ri_czA_230 ri_cz230
theorem ri_czA_232 : ∀ a, a < 232 → ri_chk a = true := ri_ls ri_czA_231 ri_cz231
theorem ri_czA_233 : ∀ a, a < 233 → ri_chk a = true := ri_ls ri_czA_232 ri_cz232
theorem ri_czA_234 : ∀ a, a < 234 → ri_chk a = true := ri_ls ri_czA_233 ri_cz233
theorem ri_czA_235 : ∀ a, a < 235 → ri_chk a = true := ri_ls ri_czA_234 ri_cz234
theorem ri_czA_236 : ∀ a, a < 236 → ri_chk a = true := ri_ls ri_czA_235 ri_cz235
theorem ri_czA_237 : ∀ a, a < 237 → ri_chk a = true := ri_ls ri_czA_236 ri_cz236
theorem ri_czA_238 : ∀ a, a < 238 → ri_chk a = true := ri_ls ri_czA_237 ri_cz237
theorem ri_czA_239 : ∀ a, a < 239 → ri_chk a = true := ri_ls ri_czA_238 ri_cz238
theorem ri_czA_240 : ∀ a, a < 240 → ri_chk a = true := ri_ls ri_czA_239 ri_cz239
theorem ri_czA_241 : ∀ a, a < 241 → ri_chk a = true := ri_ls ri_czA_240 ri_cz240
theorem ri_czA_242 : ∀ a, a < 242 → ri_chk a = true := ri_ls ri_czA_241 ri_cz241
theorem ri_czA_243 : ∀ a, a < 243 → ri_chk a = true := ri_ls ri_czA_242 ri_cz242
theorem ri_czA_244 : ∀ a, a < 244 → ri_chk a = true := ri_ls ri_czA_243 ri_cz243
theorem ri_czA_245 : ∀ a, a < 245 → ri_chk a = true := ri_ls ri_czA_244 ri_cz244
theorem ri_czA_246 : ∀ a, a < 246 → ri_chk a = true := ri_ls ri_czA_245 ri_cz245
theorem ri_czA_247 : ∀ a, a < 247 → ri_chk a = true := ri_ls ri_czA_246 ri_cz246
theorem ri_czA_248 : ∀ a, a < 248 → ri_chk a = true := ri_ls ri_czA_247 ri_cz247
theorem ri_czA_249 : ∀ a, a < 249 → ri_chk a = true := ri_ls ri_czA_248 ri_cz248
theorem ri_czA_250 : ∀ a, a < 250 → ri_chk a = true := ri_ls ri_czA_249 ri_cz249
theorem ri_czA_251 : ∀ a, a < 251 → ri_chk a = true := ri_ls ri_czA_250 ri_cz250
theorem ri_czA_252 : ∀ a, a < 252 → ri_chk a = true := ri_ls ri_czA_251 ri_cz251
theorem ri_czA_253 : ∀ a, a < 253 → ri_chk a = true := ri_ls ri_czA_252 ri_cz252
theorem ri_czA_254 : ∀ a, a < 254 → ri_chk a = true := ri_ls ri_czA_253 ri_cz253
theorem ri_czA_255 : ∀ a, a < 255 → ri_chk a = true := ri_ls ri_czA_254 ri_cz254
theorem ri_czA_256 : ∀ a, a < 256 → ri_chk a = true := ri_ls ri_czA_255 ri_cz255
theorem ri_czA_257 : ∀ a, a < 257 → ri_chk a = true := ri_ls ri_czA_256 ri_cz256
theorem ri_czA_258 : ∀ a, a < 258 → ri_chk a = true := ri_ls ri_czA_257 ri_cz257
theorem ri_czA_259 : ∀ a, a < 259 → ri_chk a = true := ri_ls ri_czA_258 ri_cz258
theorem ri_czA_260 : ∀ a, a < 260 → ri_chk a = true := ri_ls ri_czA_259 ri_cz259
theorem ri_czA_261 : ∀ a, a < 261 → ri_chk a = true := ri_ls ri_czA_260 ri_cz260
theorem ri_czA_262 : ∀ a, a < 262 → ri_chk a = true := ri_ls ri_czA_261 ri_cz261
theorem ri_czA_263 : ∀ a, a < 263 → ri_chk a = true := ri_ls ri_czA_262 ri_cz262
theorem ri_czA_264 : ∀ a, a < 264 → ri_chk a = true := ri_ls ri_czA_263 ri_cz263
theorem ri_czA_265 : ∀ a, a < 265 → ri_chk a = true := ri_ls ri_czA_264 ri_cz264
theorem ri_czA_266 : ∀ a, a < 266 → ri_chk a = true := ri_ls ri_czA_265 ri_cz265
theorem ri_czA_267 : ∀ a, a < 267 → ri_chk a = true := ri_ls ri_czA_266 ri_cz266
theorem ri_czA_268 : ∀ a, a < 268 → ri_chk a = true := ri_ls ri_czA_267 ri_cz267
theorem ri_czA_269 : ∀ a, a < 269 → ri_chk a = true := ri_ls ri_czA_268 ri_cz268
theorem ri_czA_270 : ∀ a, a < 270 → ri_chk a = true := ri_ls ri_czA_269 ri_cz269
theorem ri_czA_271 : ∀ a, a < 271 → ri_chk a = true := ri_ls ri_czA_270 ri_cz270
theorem ri_czA_272 : ∀ a, a < 272 → ri_chk a = true := ri_ls ri_czA_271 ri_cz271
theorem ri_czA_273 : ∀ a, a < 273 → ri_chk a = true := ri_ls ri_czA_272 ri_cz272
theorem ri_czA_274 : ∀ a, a < 274 → ri_chk a = true := ri_ls ri_czA_273 ri_cz273
theorem ri_czA_275 : ∀ a, a < 275 → ri_chk a = true := ri_ls ri_czA_274 ri_cz274
theorem ri_czA_276 : ∀ a, a < 276 → ri_chk a = true := ri_ls ri_czA_275 ri_cz275
theorem ri_czA_277 : ∀ a, a < 277 → ri_chk a = true := ri_ls ri_czA_276 ri_cz276
theorem ri_czA_278 : ∀ a, a < 278 → ri_chk a = true := ri_ls ri_czA_277 ri_cz277
theorem ri_czA_279 : ∀ a, a < 279 → ri_chk a = true := ri_ls ri_czA_278 ri_cz278
theorem ri_czA_280 : ∀ a, a < 280 → ri_chk a = true := ri_ls ri_czA_279 ri_cz279
theorem ri_czA_281 : ∀ a, a < 281 → ri_chk a = true := ri_ls ri_czA_280 ri_cz280
theorem ri_chk_all : ∀ a, a < ri_n → ri_chk a = true := ri_czA_281
theorem ri_ck_all (a pc : Nat) (h : a < ri_n) (hp : pc < ri_len a) : ri_one (ri_y a).cls (ri_y a).name (ri_b a) (ri_code a) pc = true := by
  have g : fe_go (ri_rs (ri_oc a) (ri_y a).name) (ri_code a) (ri_b a) (ri_len a) (ri_b a).data.toList 0 = true := ri_chk_all a h
  unfold ri_one
  cases hj : ri_code a pc with
  | none => rfl
  | some j =>
    obtain ⟨d, r⟩ := fe_all g pc hp j hj
    have k : ri_ck2 (ri_oc a) (ri_y a).name (ri_b a) pc j = true := by
      unfold ri_ck2
      rw [decide_eq_true d, r]
      rfl
    have k2 := ri_ck2_ok k
    rw [ri_on_all a h] at k2
    exact k2
theorem ri_hck : ∀ a pc j, ri_tc a pc = some j → ri_ck (ri_y a).cls (ri_y a).name (ri_b a) pc j = true := by
  intro a pc j h
  obtain ⟨h1, h2, h3⟩ := ri_tc_lt h
  have h4 := ri_ck_all a pc h1 h2
  unfold ri_one at h4
  rw [h3] at h4
  exact h4
noncomputable def ri_npf : ri_J → Bool
  | (.putfield _, _, _, _, _) => false
  | _ => true
noncomputable def ri_Pl (pc : Nat) (j : ri_J) : Bool := ri_rs 12 "law" pc j && ri_npf j
theorem ri_lawc : fe_go ri_Pl kL_law code 1625 code.data.toList 0 = true := by decide +kernel
theorem ri_ck_nm {own n1 n2 : String} {bs : ByteArray} {pc : Nat} {j : ri_J} (h : ri_ck own n1 bs pc j = true) (hp : ri_npf j = true) : ri_ck own n2 bs pc j = true := by
  obtain ⟨ins, len, a, b, c0⟩ := j
  cases ins <;> first | exact h | cases hp
set_option maxRecDepth 100000 in
theorem ri_lawck (nm : String) : ∀ pc j, ri_law pc = some j → ri_ck RL nm code pc j = true := by
  intro pc j h
  unfold ri_law at h
  cases h1 : Nat.blt pc 1625 with
  | false => rw [h1] at h; cases h
  | true =>
    rw [h1] at h
    have h3 : kL_law pc = some j := h
    obtain ⟨d, r⟩ := fe_all ri_lawc pc (Nat.le_of_ble_eq_true h1) j h3
    unfold ri_Pl at r
    rw [Bool.and_eq_true] at r
    have h2 : ri_ck2 12 "law" code pc j = true := by
      unfold ri_ck2
      rw [decide_eq_true d, r.1]
      rfl
    have h5 : ri_ck (ri_on 12) "law" code pc j = true := ri_ck2_ok h2
    have e5 : ri_on 12 = RL := rfl
    rw [e5] at h5
    exact ri_ck_nm h5 r.2
theorem ri_zip : ∀ {ws : List Cond} {ps : List Nat}, (ws.zip ps).all (fun q => ri_w q.2 q.1 && ri_us q.1) = true → ws.length ≤ ps.length → ∀ w ∈ ws, w ∈ ri_tb
  | [], _, _, _ => fun w h => by cases h
  | _ :: _, [], _, h => by simp at h
  | a :: ws, b :: ps, h, hl => by
    simp only [List.zip_cons_cons, List.all_cons, Bool.and_eq_true] at h
    intro w hw
    rcases List.mem_cons.mp hw with rfl | hw
    · exact ri_w_mem h.1.1 h.1.2
    · exact ri_zip (by simpa using h.2) (by simpa using hl) w hw
theorem ri_in0 : ((u_ws RX0 TX0 3).zip [263, 265, 267]).all (fun q => ri_w q.2 q.1 && ri_us q.1) = true ∧ (u_ws RX0 TX0 3).length = 3 := by decide +kernel
theorem ri_cw0 : ri_w 255 (.instantiable RX0 3) = true ∧ ri_w 169 (.initialized RX0) = true := by decide +kernel
theorem ri_in1 : ((u_ws RX1 TX1 1).zip [241]).all (fun q => ri_w q.2 q.1 && ri_us q.1) = true ∧ (u_ws RX1 TX1 1).length = 1 := by decide +kernel
theorem ri_cw1 : ri_w 235 (.instantiable RX1 1) = true ∧ ri_w 167 (.initialized RX1) = true := by decide +kernel
theorem ri_in2 : ((u_ws RX2 TX2 12).zip [303, 305, 307, 309, 311, 313, 315, 317, 319, 321, 323, 325]).all (fun q => ri_w q.2 q.1 && ri_us q.1) = true ∧ (u_ws RX2 TX2 12).length = 12 := by decide +kernel
theorem ri_cw2 : ri_w 273 (.instantiable RX2 12) = true ∧ ri_w 170 (.initialized RX2) = true := by decide +kernel
theorem ri_in3 : ((u_ws RX3 TX3 13).zip [409, 411, 413, 415, 417, 419, 421, 423, 425, 427, 429, 431, 433]).all (fun q => ri_w q.2 q.1 && ri_us q.1) = true ∧ (u_ws RX3 TX3 13).length = 13 := by decide +kernel
theorem ri_cw3 : ri_w 388 (.instantiable RX3 13) = true ∧ ri_w 174 (.initialized RX3) = true := by decide +kernel
theorem ri_in4 : ((u_ws RX4 TX4 1).zip [251]).all (fun q => ri_w q.2 q.1 && ri_us q.1) = true ∧ (u_ws RX4 TX4 1).length = 1 := by decide +kernel
theorem ri_cw4 : ri_w 245 (.instantiable RX4 1) = true ∧ ri_w 168 (.initialized RX4) = true := by decide +kernel
theorem ri_in5 : ((u_ws RX5 TX5 4).zip [343, 345, 347, 349]).all (fun q => ri_w q.2 q.1 && ri_us q.1) = true ∧ (u_ws RX5 TX5 4).length = 4 := by decide +kernel
theorem ri_cw5 : ri_w 331 (.instantiable RX5 4) = true ∧ ri_w 171 (.initialized RX5) = true := by decide +kernel
theorem ri_in6 : ((u_ws RX6 TX6 5).zip [377, 379, 381, 383, 385]).all (fun q => ri_w q.2 q.1 && ri_us q.1) = true ∧ (u_ws RX6 TX6 5).length = 5 := by decide +kernel
theorem ri_cw6 : ri_w 367 (.instantiable RX6 5) = true ∧ ri_w 173 (.initialized RX6) = true := by decide +kernel
theorem ri_in7 : ((u_ws RX7 TX7 2).zip [361, 363]).all (fun q => ri_w q.2 q.1 && ri_us q.1) = true ∧ (u_ws RX7 TX7 2).length = 2 := by decide +kernel
theorem ri_cw7 : ri_w 353 (.instantiable RX7 2) = true ∧ ri_w 172 (.initialized RX7) = true := by decide +kernel
theorem ri_in8 : ((u_ws RX8 TX8 2).zip [201, 203]).all (fun q => ri_w q.2 q.1 && ri_us q.1) = true ∧ (u_ws RX8 TX8 2).length = 2 := by decide +kernel
theorem ri_cw8 : ri_w 192 (.instantiable RX8 2) = true ∧ ri_w 165 (.initialized RX8) = true := by decide +kernel
theorem ri_in9 : ((u_ws RX9 TX9 6).zip [220, 222, 224, 226, 228, 230]).all (fun q => ri_w q.2 q.1 && ri_us q.1) = true ∧ (u_ws RX9 TX9 6).length = 6 := by decide +kernel
theorem ri_cw9 : ri_w 208 (.instantiable RX9 6) = true ∧ ri_w 166 (.initialized RX9) = true := by decide +kernel
theorem ri_in10 : ((u_ws RX10 TX10 18).zip [455, 457, 459, 461, 463, 465, 467, 469, 471, 473, 475, 477, 479, 481, 483, 485, 487, 489]).all (fun q => ri_w q.2 q.1 && ri_us q.1) = true ∧ (u_ws RX10 TX10 18).length = 18 := by decide +kernel
theorem ri_cw10 : ri_w 184 (.instantiable RX10 18) = true ∧ ri_w 164 (.initialized RX10) = true := by decide +kernel
theorem ri_in11 : ((u_ws RX11 TX11 39).zip [1301, 1303, 1305, 1307, 1309, 1311, 1313, 1315, 1317, 1319, 1321, 1323, 1325, 1327, 1329, 1331, 1333, 1335, 1337, 1339, 1341, 1343, 1345, 1347, 1349, 1351, 1353, 1355, 1357, 1359, 1361, 1363, 1365, 1367, 1369, 1371, 1373, 1375, 1377]).all (fun q => ri_w q.2 q.1 && ri_us q.1) = true ∧ (u_ws RX11 TX11 39).length = 39 := by decide +kernel
theorem ri_cw11 : ri_w 1257 (.instantiable RX11 39) = true ∧ ri_w 175 (.initialized RX11) = true := by decide +kernel
theorem ri_obj : ri_w 189 (.instanceMethod Lib.objectInit) = true ∧ ri_w 190 (.code Lib.objectInit ⟨#[0xb1]⟩ 1 none) = true := by decide +kernel
theorem ri_min : ri_w 858 (.static Lib.Math.min.name) = true ∧ ri_w 181 (.initialized "java/lang/Math") = true ∧ ri_w 859 (.code Lib.Math.min.name Lib.Math.min.code 2 (some .int)) = true := by decide +kernel
theorem ri_max : ri_w 1133 (.static Lib.Math.max.name) = true ∧ ri_w 181 (.initialized "java/lang/Math") = true ∧ ri_w 1134 (.code Lib.Math.max.name Lib.Math.max.code 2 (some .int)) = true := by decide +kernel
theorem ri_abs : ri_w 802 (.static Lib.Math.abs.name) = true ∧ ri_w 181 (.initialized "java/lang/Math") = true ∧ ri_w 803 (.code Lib.Math.abs.name Lib.Math.abs.code 1 (some .int)) = true := by decide +kernel
theorem ri_cpy : ri_w 691 (.native arraycopyName) = true ∧ ri_w 690 (.static arraycopyName) = true ∧ ri_w 180 (.initialized "java/lang/System") = true := by decide +kernel
theorem ri_ac_byte : ri_w 206 (.arrayClass .byte) = true := by decide +kernel
theorem ri_ac_boolean : ri_w 328 (.arrayClass .boolean) = true := by decide +kernel
theorem ri_ac_int : ri_w 233 (.arrayClass .int) = true := by decide +kernel
theorem ri_ac_long : ri_w 436 (.arrayClass .long) = true := by decide +kernel
theorem ri_cls_ok : ∀ (ci : Nat) (q : vw_C), vwCl[ci]? = some q → (∀ w ∈ u_ws q.1 q.2.1 q.2.2, w ∈ ri_tb) ∧ Cond.instantiable q.1 q.2.2 ∈ ri_tb ∧ Cond.initialized q.1 ∈ ri_tb ∧ (∀ k, k < q.2.2 → parseFieldDescriptor (q.2.1 k).2.2.1 = some (ri_ft ci k)) ∧ (∀ a, a < q.2.2 → ∀ b, b < q.2.2 → a ≠ b → (q.2.1 a).2.1 ≠ (q.2.1 b).2.1) ∧ ri_fn ci = q.2.2 ∧ ∀ d : Nat → Nat, (ri_new ci).map (ri_cv d) = ri_new ci := by
  intro ci q h
  match ci, h with
  | 0, h =>
    cases h
    exact ⟨ri_zip ri_in0.1 (by rw [ri_in0.2]; exact Nat.le_refl _), ri_w_mem ri_cw0.1, ri_w_mem ri_cw0.2, tyX0_ok, nmX0, rfl, fun d => rfl⟩
  | 1, h =>
    cases h
    exact ⟨ri_zip ri_in1.1 (by rw [ri_in1.2]; exact Nat.le_refl _), ri_w_mem ri_cw1.1, ri_w_mem ri_cw1.2, tyX1_ok, nmX1, rfl, fun d => rfl⟩
  | 2, h =>
    cases h
    exact ⟨ri_zip ri_in2.1 (by rw [ri_in2.2]; exact Nat.le_refl _), ri_w_mem ri_cw2.1, ri_w_mem ri_cw2.2, tyX2_ok, nmX2, rfl, fun d => rfl⟩
  | 3, h =>
    cases h
    exact ⟨ri_zip ri_in3.1 (by rw [ri_in3.2]; exact Nat.le_refl _), ri_w_mem ri_cw3.1, ri_w_mem ri_cw3.2, tyX3_ok, nmX3, rfl, fun d => rfl⟩
  | 4, h =>
    cases h
    exact ⟨ri_zip ri_in4.1 (by rw [ri_in4.2]; exact Nat.le_refl _), ri_w_mem ri_cw4.1, ri_w_mem ri_cw4.2, tyX4_ok, nmX4, rfl, fun d => rfl⟩
  | 5, h =>
    cases h
    exact ⟨ri_zip ri_in5.1 (by rw [ri_in5.2]; exact Nat.le_refl _), ri_w_mem ri_cw5.1, ri_w_mem ri_cw5.2, tyX5_ok, nmX5, rfl, fun d => rfl⟩
  | 6, h =>
    cases h
    exact ⟨ri_zip ri_in6.1 (by rw [ri_in6.2]; exact Nat.le_refl _), ri_w_mem ri_cw6.1, ri_w_mem ri_cw6.2, tyX6_ok, nmX6, rfl, fun d => rfl⟩
  | 7, h =>
    cases h
    exact ⟨ri_zip ri_in7.1 (by rw [ri_in7.2]; exact Nat.le_refl _), ri_w_mem ri_cw7.1, ri_w_mem ri_cw7.2, tyX7_ok, nmX7, rfl, fun d => rfl⟩
  | 8, h =>
    cases h
    exact ⟨ri_zip ri_in8.1 (by rw [ri_in8.2]; exact Nat.le_refl _), ri_w_mem ri_cw8.1, ri_w_mem ri_cw8.2, tyX8_ok, nmX8, rfl, fun d => rfl⟩
  | 9, h =>
    cases h
    exact ⟨ri_zip ri_in9.1 (by rw [ri_in9.2]; exact Nat.le_refl _), ri_w_mem ri_cw9.1, ri_w_mem ri_cw9.2, tyX9_ok, nmX9, rfl, fun d => rfl⟩
  | 10, h =>
    cases h
    exact ⟨ri_zip ri_in10.1 (by rw [ri_in10.2]; exact Nat.le_refl _), ri_w_mem ri_cw10.1, ri_w_mem ri_cw10.2, tyX10_ok, nmX10, rfl, fun d => rfl⟩
  | 11, h =>
    cases h
    exact ⟨ri_zip ri_in11.1 (by rw [ri_in11.2]; exact Nat.le_refl _), ri_w_mem ri_cw11.1, ri_w_mem ri_cw11.2, tyX11_ok, nmX11, rfl, fun d => rfl⟩
  | k + 12, h => cases h
theorem ri_tab : ri_Tab := ⟨ri_mk_all, trivial, trivial, ri_cls_ok, ⟨ri_w_mem ri_obj.1, ri_w_mem ri_obj.2⟩, ri_w_mem ri_min.2.1, ⟨ri_w_mem ri_min.1, ri_w_mem ri_min.2.2⟩, ⟨ri_w_mem ri_max.1, ri_w_mem ri_max.2.2⟩, ⟨ri_w_mem ri_abs.1, ri_w_mem ri_abs.2.2⟩, ⟨ri_w_mem ri_cpy.1, ri_w_mem ri_cpy.2.1, ri_w_mem ri_cpy.2.2⟩, fun w hw => by
  simp only [ri_ac, List.mem_cons, List.not_mem_nil, or_false] at hw
  rcases hw with rfl | rfl | rfl | rfl
  · exact ri_w_mem ri_ac_byte
  · exact ri_w_mem ri_ac_boolean
  · exact ri_w_mem ri_ac_int
  · exact ri_w_mem ri_ac_long⟩
