/-! The checks, all in one. -/
theorem ri_on_0 : (List.range' 0 40).all (fun a => decide (ri_on (ri_oc a) = (ri_y a).cls)) = true := by decide +kernel
theorem ri_on_40 : (List.range' 40 40).all (fun a => decide (ri_on (ri_oc a) = (ri_y a).cls)) = true := by decide +kernel
theorem ri_on_80 : (List.range' 80 40).all (fun a => decide (ri_on (ri_oc a) = (ri_y a).cls)) = true := by decide +kernel
theorem ri_on_120 : (List.range' 120 40).all (fun a => decide (ri_on (ri_oc a) = (ri_y a).cls)) = true := by decide +kernel
theorem ri_on_160 : (List.range' 160 40).all (fun a => decide (ri_on (ri_oc a) = (ri_y a).cls)) = true := by decide +kernel
theorem ri_on_200 : (List.range' 200 40).all (fun a => decide (ri_on (ri_oc a) = (ri_y a).cls)) = true := by decide +kernel
theorem ri_on_240 : (List.range' 240 40).all (fun a => decide (ri_on (ri_oc a) = (ri_y a).cls)) = true := by decide +kernel
theorem ri_on_280 : (List.range' 280 1).all (fun a => decide (ri_on (ri_oc a) = (ri_y a).cls)) = true := by decide +kernel
theorem ri_on_all : ∀ pc, pc < 281 → ri_on (ri_oc pc) = (ri_y pc).cls := by
  intro pc h
  rcases Nat.lt_or_ge pc 40 with q | q
  · exact of_decide_eq_true (List.all_eq_true.mp ri_on_0 pc (List.mem_range'_1.mpr ⟨by omega, by omega⟩))
  rcases Nat.lt_or_ge pc 80 with q | q
  · exact of_decide_eq_true (List.all_eq_true.mp ri_on_40 pc (List.mem_range'_1.mpr ⟨by omega, by omega⟩))
  rcases Nat.lt_or_ge pc 120 with q | q
  · exact of_decide_eq_true (List.all_eq_true.mp ri_on_80 pc (List.mem_range'_1.mpr ⟨by omega, by omega⟩))
  rcases Nat.lt_or_ge pc 160 with q | q
  · exact of_decide_eq_true (List.all_eq_true.mp ri_on_120 pc (List.mem_range'_1.mpr ⟨by omega, by omega⟩))
  rcases Nat.lt_or_ge pc 200 with q | q
  · exact of_decide_eq_true (List.all_eq_true.mp ri_on_160 pc (List.mem_range'_1.mpr ⟨by omega, by omega⟩))
  rcases Nat.lt_or_ge pc 240 with q | q
  · exact of_decide_eq_true (List.all_eq_true.mp ri_on_200 pc (List.mem_range'_1.mpr ⟨by omega, by omega⟩))
  rcases Nat.lt_or_ge pc 280 with q | q
  · exact of_decide_eq_true (List.all_eq_true.mp ri_on_240 pc (List.mem_range'_1.mpr ⟨by omega, by omega⟩))
  exact of_decide_eq_true (List.all_eq_true.mp ri_on_280 pc (List.mem_range'_1.mpr ⟨by omega, by omega⟩))
set_option maxRecDepth 100000 in
theorem ri_mk_all : ∀ a, a < ri_n → ri_mk a = true := by
  intro a h
  have h : a < 281 := h
  rcases Nat.lt_or_ge a 140 with q140 | q140
  · rcases Nat.lt_or_ge a 70 with q70 | q70
    · rcases Nat.lt_or_ge a 35 with q35 | q35
      · rcases Nat.lt_or_ge a 17 with q17 | q17
        · rcases Nat.lt_or_ge a 8 with q8 | q8
          · rcases Nat.lt_or_ge a 4 with q4 | q4
            · rcases Nat.lt_or_ge a 2 with q2 | q2
              · rcases Nat.lt_or_ge a 1 with q1 | q1
                · obtain rfl : a = 0 := by omega
                  exact ri_k0
                · obtain rfl : a = 1 := by omega
                  exact ri_k1
              · rcases Nat.lt_or_ge a 3 with q3 | q3
                · obtain rfl : a = 2 := by omega
                  exact ri_k2
                · obtain rfl : a = 3 := by omega
                  exact ri_k3
            · rcases Nat.lt_or_ge a 6 with q6 | q6
              · rcases Nat.lt_or_ge a 5 with q5 | q5
                · obtain rfl : a = 4 := by omega
                  exact ri_k4
                · obtain rfl : a = 5 := by omega
                  exact ri_k5
              · rcases Nat.lt_or_ge a 7 with q7 | q7
                · obtain rfl : a = 6 := by omega
                  exact ri_k6
                · obtain rfl : a = 7 := by omega
                  exact ri_k7
          · rcases Nat.lt_or_ge a 12 with q12 | q12
            · rcases Nat.lt_or_ge a 10 with q10 | q10
              · rcases Nat.lt_or_ge a 9 with q9 | q9
                · obtain rfl : a = 8 := by omega
                  exact ri_k8
                · obtain rfl : a = 9 := by omega
                  exact ri_k9
              · rcases Nat.lt_or_ge a 11 with q11 | q11
                · obtain rfl : a = 10 := by omega
                  exact ri_k10
                · obtain rfl : a = 11 := by omega
                  exact ri_k11
            · rcases Nat.lt_or_ge a 14 with q14 | q14
              · rcases Nat.lt_or_ge a 13 with q13 | q13
                · obtain rfl : a = 12 := by omega
                  exact ri_k12
                · obtain rfl : a = 13 := by omega
                  exact ri_k13
              · rcases Nat.lt_or_ge a 15 with q15 | q15
                · obtain rfl : a = 14 := by omega
                  exact ri_k14
                · rcases Nat.lt_or_ge a 16 with q16 | q16
                  · obtain rfl : a = 15 := by omega
                    exact ri_k15
                  · obtain rfl : a = 16 := by omega
                    exact ri_k16
        · rcases Nat.lt_or_ge a 26 with q26 | q26
          · rcases Nat.lt_or_ge a 21 with q21 | q21
            · rcases Nat.lt_or_ge a 19 with q19 | q19
              · rcases Nat.lt_or_ge a 18 with q18 | q18
                · obtain rfl : a = 17 := by omega
                  exact ri_k17
                · obtain rfl : a = 18 := by omega
                  exact ri_k18
              · rcases Nat.lt_or_ge a 20 with q20 | q20
                · obtain rfl : a = 19 := by omega
                  exact ri_k19
                · obtain rfl : a = 20 := by omega
                  exact ri_k20
            · rcases Nat.lt_or_ge a 23 with q23 | q23
              · rcases Nat.lt_or_ge a 22 with q22 | q22
                · obtain rfl : a = 21 := by omega
                  exact ri_k21
                · obtain rfl : a = 22 := by omega
                  exact ri_k22
              · rcases Nat.lt_or_ge a 24 with q24 | q24
                · obtain rfl : a = 23 := by omega
                  exact ri_k23
                · rcases Nat.lt_or_ge a 25 with q25 | q25
                  · obtain rfl : a = 24 := by omega
                    exact ri_k24
                  · obtain rfl : a = 25 := by omega
                    exact ri_k25
          · rcases Nat.lt_or_ge a 30 with q30 | q30
            · rcases Nat.lt_or_ge a 28 with q28 | q28
              · rcases Nat.lt_or_ge a 27 with q27 | q27
                · obtain rfl : a = 26 := by omega
                  exact ri_k26
                · obtain rfl : a = 27 := by omega
                  exact ri_k27
              · rcases Nat.lt_or_ge a 29 with q29 | q29
                · obtain rfl : a = 28 := by omega
                  exact ri_k28
                · obtain rfl : a = 29 := by omega
                  exact ri_k29
            · rcases Nat.lt_or_ge a 32 with q32 | q32
              · rcases Nat.lt_or_ge a 31 with q31 | q31
                · obtain rfl : a = 30 := by omega
                  exact ri_k30
                · obtain rfl : a = 31 := by omega
                  exact ri_k31
              · rcases Nat.lt_or_ge a 33 with q33 | q33
                · obtain rfl : a = 32 := by omega
                  exact ri_k32
                · rcases Nat.lt_or_ge a 34 with q34 | q34
                  · obtain rfl : a = 33 := by omega
                    exact ri_k33
                  · obtain rfl : a = 34 := by omega
                    exact ri_k34
      · rcases Nat.lt_or_ge a 52 with q52 | q52
        · rcases Nat.lt_or_ge a 43 with q43 | q43
          · rcases Nat.lt_or_ge a 39 with q39 | q39
            · rcases Nat.lt_or_ge a 37 with q37 | q37
              · rcases Nat.lt_or_ge a 36 with q36 | q36
                · obtain rfl : a = 35 := by omega
                  exact ri_k35
                · obtain rfl : a = 36 := by omega
                  exact ri_k36
              · rcases Nat.lt_or_ge a 38 with q38 | q38
                · obtain rfl : a = 37 := by omega
                  exact ri_k37
                · obtain rfl : a = 38 := by omega
                  exact ri_k38
            · rcases Nat.lt_or_ge a 41 with q41 | q41
              · rcases Nat.lt_or_ge a 40 with q40 | q40
                · obtain rfl : a = 39 := by omega
                  exact ri_k39
                · obtain rfl : a = 40 := by omega
                  exact ri_k40
              · rcases Nat.lt_or_ge a 42 with q42 | q42
                · obtain rfl : a = 41 := by omega
                  exact ri_k41
                · obtain rfl : a = 42 := by omega
                  exact ri_k42
          · rcases Nat.lt_or_ge a 47 with q47 | q47
            · rcases Nat.lt_or_ge a 45 with q45 | q45
              · rcases Nat.lt_or_ge a 44 with q44 | q44
                · obtain rfl : a = 43 := by omega
                  exact ri_k43
                · obtain rfl : a = 44 := by omega
                  exact ri_k44
              · rcases Nat.lt_or_ge a 46 with q46 | q46
                · obtain rfl : a = 45 := by omega
                  exact ri_k45
                · obtain rfl : a = 46 := by omega
                  exact ri_k46
            · rcases Nat.lt_or_ge a 49 with q49 | q49
              · rcases Nat.lt_or_ge a 48 with q48 | q48
                · obtain rfl : a = 47 := by omega
                  exact ri_k47
                · obtain rfl : a = 48 := by omega
                  exact ri_k48
              · rcases Nat.lt_or_ge a 50 with q50 | q50
                · obtain rfl : a = 49 := by omega
                  exact ri_k49
                · rcases Nat.lt_or_ge a 51 with q51 | q51
                  · obtain rfl : a = 50 := by omega
                    exact ri_k50
                  · obtain rfl : a = 51 := by omega
                    exact ri_k51
        · rcases Nat.lt_or_ge a 61 with q61 | q61
          · rcases Nat.lt_or_ge a 56 with q56 | q56
            · rcases Nat.lt_or_ge a 54 with q54 | q54
              · rcases Nat.lt_or_ge a 53 with q53 | q53
                · obtain rfl : a = 52 := by omega
                  exact ri_k52
                · obtain rfl : a = 53 := by omega
                  exact ri_k53
              · rcases Nat.lt_or_ge a 55 with q55 | q55
                · obtain rfl : a = 54 := by omega
                  exact ri_k54
                · obtain rfl : a = 55 := by omega
                  exact ri_k55
            · rcases Nat.lt_or_ge a 58 with q58 | q58
              · rcases Nat.lt_or_ge a 57 with q57 | q57
                · obtain rfl : a = 56 := by omega
                  exact ri_k56
                · obtain rfl : a = 57 := by omega
                  exact ri_k57
              · rcases Nat.lt_or_ge a 59 with q59 | q59
                · obtain rfl : a = 58 := by omega
                  exact ri_k58
                · rcases Nat.lt_or_ge a 60 with q60 | q60
                  · obtain rfl : a = 59 := by omega
                    exact ri_k59
                  · obtain rfl : a = 60 := by omega
                    exact ri_k60
          · rcases Nat.lt_or_ge a 65 with q65 | q65
            · rcases Nat.lt_or_ge a 63 with q63 | q63
              · rcases Nat.lt_or_ge a 62 with q62 | q62
                · obtain rfl : a = 61 := by omega
                  exact ri_k61
                · obtain rfl : a = 62 := by omega
                  exact ri_k62
              · rcases Nat.lt_or_ge a 64 with q64 | q64
                · obtain rfl : a = 63 := by omega
                  exact ri_k63
                · obtain rfl : a = 64 := by omega
                  exact ri_k64
            · rcases Nat.lt_or_ge a 67 with q67 | q67
              · rcases Nat.lt_or_ge a 66 with q66 | q66
                · obtain rfl : a = 65 := by omega
                  exact ri_k65
                · obtain rfl : a = 66 := by omega
                  exact ri_k66
              · rcases Nat.lt_or_ge a 68 with q68 | q68
                · obtain rfl : a = 67 := by omega
                  exact ri_k67
                · rcases Nat.lt_or_ge a 69 with q69 | q69
                  · obtain rfl : a = 68 := by omega
                    exact ri_k68
                  · obtain rfl : a = 69 := by omega
                    exact ri_k69
    · rcases Nat.lt_or_ge a 105 with q105 | q105
      · rcases Nat.lt_or_ge a 87 with q87 | q87
        · rcases Nat.lt_or_ge a 78 with q78 | q78
          · rcases Nat.lt_or_ge a 74 with q74 | q74
            · rcases Nat.lt_or_ge a 72 with q72 | q72
              · rcases Nat.lt_or_ge a 71 with q71 | q71
                · obtain rfl : a = 70 := by omega
                  exact ri_k70
                · obtain rfl : a = 71 := by omega
                  exact ri_k71
              · rcases Nat.lt_or_ge a 73 with q73 | q73
                · obtain rfl : a = 72 := by omega
                  exact ri_k72
                · obtain rfl : a = 73 := by omega
                  exact ri_k73
            · rcases Nat.lt_or_ge a 76 with q76 | q76
              · rcases Nat.lt_or_ge a 75 with q75 | q75
                · obtain rfl : a = 74 := by omega
                  exact ri_k74
                · obtain rfl : a = 75 := by omega
                  exact ri_k75
              · rcases Nat.lt_or_ge a 77 with q77 | q77
                · obtain rfl : a = 76 := by omega
                  exact ri_k76
                · obtain rfl : a = 77 := by omega
                  exact ri_k77
          · rcases Nat.lt_or_ge a 82 with q82 | q82
            · rcases Nat.lt_or_ge a 80 with q80 | q80
              · rcases Nat.lt_or_ge a 79 with q79 | q79
                · obtain rfl : a = 78 := by omega
                  exact ri_k78
                · obtain rfl : a = 79 := by omega
                  exact ri_k79
              · rcases Nat.lt_or_ge a 81 with q81 | q81
                · obtain rfl : a = 80 := by omega
                  exact ri_k80
                · obtain rfl : a = 81 := by omega
                  exact ri_k81
            · rcases Nat.lt_or_ge a 84 with q84 | q84
              · rcases Nat.lt_or_ge a 83 with q83 | q83
                · obtain rfl : a = 82 := by omega
                  exact ri_k82
                · obtain rfl : a = 83 := by omega
                  exact ri_k83
              · rcases Nat.lt_or_ge a 85 with q85 | q85
                · obtain rfl : a = 84 := by omega
                  exact ri_k84
                · rcases Nat.lt_or_ge a 86 with q86 | q86
                  · obtain rfl : a = 85 := by omega
                    exact ri_k85
                  · obtain rfl : a = 86 := by omega
                    exact ri_k86
        · rcases Nat.lt_or_ge a 96 with q96 | q96
          · rcases Nat.lt_or_ge a 91 with q91 | q91
            · rcases Nat.lt_or_ge a 89 with q89 | q89
              · rcases Nat.lt_or_ge a 88 with q88 | q88
                · obtain rfl : a = 87 := by omega
                  exact ri_k87
                · obtain rfl : a = 88 := by omega
                  exact ri_k88
              · rcases Nat.lt_or_ge a 90 with q90 | q90
                · obtain rfl : a = 89 := by omega
                  exact ri_k89
                · obtain rfl : a = 90 := by omega
                  exact ri_k90
            · rcases Nat.lt_or_ge a 93 with q93 | q93
              · rcases Nat.lt_or_ge a 92 with q92 | q92
                · obtain rfl : a = 91 := by omega
                  exact ri_k91
                · obtain rfl : a = 92 := by omega
                  exact ri_k92
              · rcases Nat.lt_or_ge a 94 with q94 | q94
                · obtain rfl : a = 93 := by omega
                  exact ri_k93
                · rcases Nat.lt_or_ge a 95 with q95 | q95
                  · obtain rfl : a = 94 := by omega
                    exact ri_k94
                  · obtain rfl : a = 95 := by omega
                    exact ri_k95
          · rcases Nat.lt_or_ge a 100 with q100 | q100
            · rcases Nat.lt_or_ge a 98 with q98 | q98
              · rcases Nat.lt_or_ge a 97 with q97 | q97
                · obtain rfl : a = 96 := by omega
                  exact ri_k96
                · obtain rfl : a = 97 := by omega
                  exact ri_k97
              · rcases Nat.lt_or_ge a 99 with q99 | q99
                · obtain rfl : a = 98 := by omega
                  exact ri_k98
                · obtain rfl : a = 99 := by omega
                  exact ri_k99
            · rcases Nat.lt_or_ge a 102 with q102 | q102
              · rcases Nat.lt_or_ge a 101 with q101 | q101
                · obtain rfl : a = 100 := by omega
                  exact ri_k100
                · obtain rfl : a = 101 := by omega
                  exact ri_k101
              · rcases Nat.lt_or_ge a 103 with q103 | q103
                · obtain rfl : a = 102 := by omega
                  exact ri_k102
                · rcases Nat.lt_or_ge a 104 with q104 | q104
                  · obtain rfl : a = 103 := by omega
                    exact ri_k103
                  · obtain rfl : a = 104 := by omega
                    exact ri_k104
      · rcases Nat.lt_or_ge a 122 with q122 | q122
        · rcases Nat.lt_or_ge a 113 with q113 | q113
          · rcases Nat.lt_or_ge a 109 with q109 | q109
            · rcases Nat.lt_or_ge a 107 with q107 | q107
              · rcases Nat.lt_or_ge a 106 with q106 | q106
                · obtain rfl : a = 105 := by omega
                  exact ri_k105
                · obtain rfl : a = 106 := by omega
                  exact ri_k106
              · rcases Nat.lt_or_ge a 108 with q108 | q108
                · obtain rfl : a = 107 := by omega
                  exact ri_k107
                · obtain rfl : a = 108 := by omega
                  exact ri_k108
            · rcases Nat.lt_or_ge a 111 with q111 | q111
              · rcases Nat.lt_or_ge a 110 with q110 | q110
                · obtain rfl : a = 109 := by omega
                  exact ri_k109
                · obtain rfl : a = 110 := by omega
                  exact ri_k110
              · rcases Nat.lt_or_ge a 112 with q112 | q112
                · obtain rfl : a = 111 := by omega
                  exact ri_k111
                · obtain rfl : a = 112 := by omega
                  exact ri_k112
          · rcases Nat.lt_or_ge a 117 with q117 | q117
            · rcases Nat.lt_or_ge a 115 with q115 | q115
              · rcases Nat.lt_or_ge a 114 with q114 | q114
                · obtain rfl : a = 113 := by omega
                  exact ri_k113
                · obtain rfl : a = 114 := by omega
                  exact ri_k114
              · rcases Nat.lt_or_ge a 116 with q116 | q116
                · obtain rfl : a = 115 := by omega
                  exact ri_k115
                · obtain rfl : a = 116 := by omega
                  exact ri_k116
            · rcases Nat.lt_or_ge a 119 with q119 | q119
              · rcases Nat.lt_or_ge a 118 with q118 | q118
                · obtain rfl : a = 117 := by omega
                  exact ri_k117
                · obtain rfl : a = 118 := by omega
                  exact ri_k118
              · rcases Nat.lt_or_ge a 120 with q120 | q120
                · obtain rfl : a = 119 := by omega
                  exact ri_k119
                · rcases Nat.lt_or_ge a 121 with q121 | q121
                  · obtain rfl : a = 120 := by omega
                    exact ri_k120
                  · obtain rfl : a = 121 := by omega
                    exact ri_k121
        · rcases Nat.lt_or_ge a 131 with q131 | q131
          · rcases Nat.lt_or_ge a 126 with q126 | q126
            · rcases Nat.lt_or_ge a 124 with q124 | q124
              · rcases Nat.lt_or_ge a 123 with q123 | q123
                · obtain rfl : a = 122 := by omega
                  exact ri_k122
                · obtain rfl : a = 123 := by omega
                  exact ri_k123
              · rcases Nat.lt_or_ge a 125 with q125 | q125
                · obtain rfl : a = 124 := by omega
                  exact ri_k124
                · obtain rfl : a = 125 := by omega
                  exact ri_k125
            · rcases Nat.lt_or_ge a 128 with q128 | q128
              · rcases Nat.lt_or_ge a 127 with q127 | q127
                · obtain rfl : a = 126 := by omega
                  exact ri_k126
                · obtain rfl : a = 127 := by omega
                  exact ri_k127
              · rcases Nat.lt_or_ge a 129 with q129 | q129
                · obtain rfl : a = 128 := by omega
                  exact ri_k128
                · rcases Nat.lt_or_ge a 130 with q130 | q130
                  · obtain rfl : a = 129 := by omega
                    exact ri_k129
                  · obtain rfl : a = 130 := by omega
                    exact ri_k130
          · rcases Nat.lt_or_ge a 135 with q135 | q135
            · rcases Nat.lt_or_ge a 133 with q133 | q133
              · rcases Nat.lt_or_ge a 132 with q132 | q132
                · obtain rfl : a = 131 := by omega
                  exact ri_k131
                · obtain rfl : a = 132 := by omega
                  exact ri_k132
              · rcases Nat.lt_or_ge a 134 with q134 | q134
                · obtain rfl : a = 133 := by omega
                  exact ri_k133
                · obtain rfl : a = 134 := by omega
                  exact ri_k134
            · rcases Nat.lt_or_ge a 137 with q137 | q137
              · rcases Nat.lt_or_ge a 136 with q136 | q136
                · obtain rfl : a = 135 := by omega
                  exact ri_k135
                · obtain rfl : a = 136 := by omega
                  exact ri_k136
              · rcases Nat.lt_or_ge a 138 with q138 | q138
                · obtain rfl : a = 137 := by omega
                  exact ri_k137
                · rcases Nat.lt_or_ge a 139 with q139 | q139
                  · obtain rfl : a = 138 := by omega
                    exact ri_k138
                  · obtain rfl : a = 139 := by omega
                    exact ri_k139
  · rcases Nat.lt_or_ge a 210 with q210 | q210
    · rcases Nat.lt_or_ge a 175 with q175 | q175
      · rcases Nat.lt_or_ge a 157 with q157 | q157
        · rcases Nat.lt_or_ge a 148 with q148 | q148
          · rcases Nat.lt_or_ge a 144 with q144 | q144
            · rcases Nat.lt_or_ge a 142 with q142 | q142
              · rcases Nat.lt_or_ge a 141 with q141 | q141
                · obtain rfl : a = 140 := by omega
                  exact ri_k140
                · obtain rfl : a = 141 := by omega
                  exact ri_k141
              · rcases Nat.lt_or_ge a 143 with q143 | q143
                · obtain rfl : a = 142 := by omega
                  exact ri_k142
                · obtain rfl : a = 143 := by omega
                  exact ri_k143
            · rcases Nat.lt_or_ge a 146 with q146 | q146
              · rcases Nat.lt_or_ge a 145 with q145 | q145
                · obtain rfl : a = 144 := by omega
                  exact ri_k144
                · obtain rfl : a = 145 := by omega
                  exact ri_k145
              · rcases Nat.lt_or_ge a 147 with q147 | q147
                · obtain rfl : a = 146 := by omega
                  exact ri_k146
                · obtain rfl : a = 147 := by omega
                  exact ri_k147
          · rcases Nat.lt_or_ge a 152 with q152 | q152
            · rcases Nat.lt_or_ge a 150 with q150 | q150
              · rcases Nat.lt_or_ge a 149 with q149 | q149
                · obtain rfl : a = 148 := by omega
                  exact ri_k148
                · obtain rfl : a = 149 := by omega
                  exact ri_k149
              · rcases Nat.lt_or_ge a 151 with q151 | q151
                · obtain rfl : a = 150 := by omega
                  exact ri_k150
                · obtain rfl : a = 151 := by omega
                  exact ri_k151
            · rcases Nat.lt_or_ge a 154 with q154 | q154
              · rcases Nat.lt_or_ge a 153 with q153 | q153
                · obtain rfl : a = 152 := by omega
                  exact ri_k152
                · obtain rfl : a = 153 := by omega
                  exact ri_k153
              · rcases Nat.lt_or_ge a 155 with q155 | q155
                · obtain rfl : a = 154 := by omega
                  exact ri_k154
                · rcases Nat.lt_or_ge a 156 with q156 | q156
                  · obtain rfl : a = 155 := by omega
                    exact ri_k155
                  · obtain rfl : a = 156 := by omega
                    exact ri_k156
        · rcases Nat.lt_or_ge a 166 with q166 | q166
          · rcases Nat.lt_or_ge a 161 with q161 | q161
            · rcases Nat.lt_or_ge a 159 with q159 | q159
              · rcases Nat.lt_or_ge a 158 with q158 | q158
                · obtain rfl : a = 157 := by omega
                  exact ri_k157
                · obtain rfl : a = 158 := by omega
                  exact ri_k158
              · rcases Nat.lt_or_ge a 160 with q160 | q160
                · obtain rfl : a = 159 := by omega
                  exact ri_k159
                · obtain rfl : a = 160 := by omega
                  exact ri_k160
            · rcases Nat.lt_or_ge a 163 with q163 | q163
              · rcases Nat.lt_or_ge a 162 with q162 | q162
                · obtain rfl : a = 161 := by omega
                  exact ri_k161
                · obtain rfl : a = 162 := by omega
                  exact ri_k162
              · rcases Nat.lt_or_ge a 164 with q164 | q164
                · obtain rfl : a = 163 := by omega
                  exact ri_k163
                · rcases Nat.lt_or_ge a 165 with q165 | q165
                  · obtain rfl : a = 164 := by omega
                    exact ri_k164
                  · obtain rfl : a = 165 := by omega
                    exact ri_k165
          · rcases Nat.lt_or_ge a 170 with q170 | q170
            · rcases Nat.lt_or_ge a 168 with q168 | q168
              · rcases Nat.lt_or_ge a 167 with q167 | q167
                · obtain rfl : a = 166 := by omega
                  exact ri_k166
                · obtain rfl : a = 167 := by omega
                  exact ri_k167
              · rcases Nat.lt_or_ge a 169 with q169 | q169
                · obtain rfl : a = 168 := by omega
                  exact ri_k168
                · obtain rfl : a = 169 := by omega
                  exact ri_k169
            · rcases Nat.lt_or_ge a 172 with q172 | q172
              · rcases Nat.lt_or_ge a 171 with q171 | q171
                · obtain rfl : a = 170 := by omega
                  exact ri_k170
                · obtain rfl : a = 171 := by omega
                  exact ri_k171
              · rcases Nat.lt_or_ge a 173 with q173 | q173
                · obtain rfl : a = 172 := by omega
                  exact ri_k172
                · rcases Nat.lt_or_ge a 174 with q174 | q174
                  · obtain rfl : a = 173 := by omega
                    exact ri_k173
                  · obtain rfl : a = 174 := by omega
                    exact ri_k174
      · rcases Nat.lt_or_ge a 192 with q192 | q192
        · rcases Nat.lt_or_ge a 183 with q183 | q183
          · rcases Nat.lt_or_ge a 179 with q179 | q179
            · rcases Nat.lt_or_ge a 177 with q177 | q177
              · rcases Nat.lt_or_ge a 176 with q176 | q176
                · obtain rfl : a = 175 := by omega
                  exact ri_k175
                · obtain rfl : a = 176 := by omega
                  exact ri_k176
              · rcases Nat.lt_or_ge a 178 with q178 | q178
                · obtain rfl : a = 177 := by omega
                  exact ri_k177
                · obtain rfl : a = 178 := by omega
                  exact ri_k178
            · rcases Nat.lt_or_ge a 181 with q181 | q181
              · rcases Nat.lt_or_ge a 180 with q180 | q180
                · obtain rfl : a = 179 := by omega
                  exact ri_k179
                · obtain rfl : a = 180 := by omega
                  exact ri_k180
              · rcases Nat.lt_or_ge a 182 with q182 | q182
                · obtain rfl : a = 181 := by omega
                  exact ri_k181
                · obtain rfl : a = 182 := by omega
                  exact ri_k182
          · rcases Nat.lt_or_ge a 187 with q187 | q187
            · rcases Nat.lt_or_ge a 185 with q185 | q185
              · rcases Nat.lt_or_ge a 184 with q184 | q184
                · obtain rfl : a = 183 := by omega
                  exact ri_k183
                · obtain rfl : a = 184 := by omega
                  exact ri_k184
              · rcases Nat.lt_or_ge a 186 with q186 | q186
                · obtain rfl : a = 185 := by omega
                  exact ri_k185
                · obtain rfl : a = 186 := by omega
                  exact ri_k186
            · rcases Nat.lt_or_ge a 189 with q189 | q189
              · rcases Nat.lt_or_ge a 188 with q188 | q188
                · obtain rfl : a = 187 := by omega
                  exact ri_k187
                · obtain rfl : a = 188 := by omega
                  exact ri_k188
              · rcases Nat.lt_or_ge a 190 with q190 | q190
                · obtain rfl : a = 189 := by omega
                  exact ri_k189
                · rcases Nat.lt_or_ge a 191 with q191 | q191
                  · obtain rfl : a = 190 := by omega
                    exact ri_k190
                  · obtain rfl : a = 191 := by omega
                    exact ri_k191
        · rcases Nat.lt_or_ge a 201 with q201 | q201
          · rcases Nat.lt_or_ge a 196 with q196 | q196
            · rcases Nat.lt_or_ge a 194 with q194 | q194
              · rcases Nat.lt_or_ge a 193 with q193 | q193
                · obtain rfl : a = 192 := by omega
                  exact ri_k192
                · obtain rfl : a = 193 := by omega
                  exact ri_k193
              · rcases Nat.lt_or_ge a 195 with q195 | q195
                · obtain rfl : a = 194 := by omega
                  exact ri_k194
                · obtain rfl : a = 195 := by omega
                  exact ri_k195
            · rcases Nat.lt_or_ge a 198 with q198 | q198
              · rcases Nat.lt_or_ge a 197 with q197 | q197
                · obtain rfl : a = 196 := by omega
                  exact ri_k196
                · obtain rfl : a = 197 := by omega
                  exact ri_k197
              · rcases Nat.lt_or_ge a 199 with q199 | q199
                · obtain rfl : a = 198 := by omega
                  exact ri_k198
                · rcases Nat.lt_or_ge a 200 with q200 | q200
                  · obtain rfl : a = 199 := by omega
                    exact ri_k199
                  · obtain rfl : a = 200 := by omega
                    exact ri_k200
          · rcases Nat.lt_or_ge a 205 with q205 | q205
            · rcases Nat.lt_or_ge a 203 with q203 | q203
              · rcases Nat.lt_or_ge a 202 with q202 | q202
                · obtain rfl : a = 201 := by omega
                  exact ri_k201
                · obtain rfl : a = 202 := by omega
                  exact ri_k202
              · rcases Nat.lt_or_ge a 204 with q204 | q204
                · obtain rfl : a = 203 := by omega
                  exact ri_k203
                · obtain rfl : a = 204 := by omega
                  exact ri_k204
            · rcases Nat.lt_or_ge a 207 with q207 | q207
              · rcases Nat.lt_or_ge a 206 with q206 | q206
                · obtain rfl : a = 205 := by omega
                  exact ri_k205
                · obtain rfl : a = 206 := by omega
                  exact ri_k206
              · rcases Nat.lt_or_ge a 208 with q208 | q208
                · obtain rfl : a = 207 := by omega
                  exact ri_k207
                · rcases Nat.lt_or_ge a 209 with q209 | q209
                  · obtain rfl : a = 208 := by omega
                    exact ri_k208
                  · obtain rfl : a = 209 := by omega
                    exact ri_k209
    · rcases Nat.lt_or_ge a 245 with q245 | q245
      · rcases Nat.lt_or_ge a 227 with q227 | q227
        · rcases Nat.lt_or_ge a 218 with q218 | q218
          · rcases Nat.lt_or_ge a 214 with q214 | q214
            · rcases Nat.lt_or_ge a 212 with q212 | q212
              · rcases Nat.lt_or_ge a 211 with q211 | q211
                · obtain rfl : a = 210 := by omega
                  exact ri_k210
                · obtain rfl : a = 211 := by omega
                  exact ri_k211
              · rcases Nat.lt_or_ge a 213 with q213 | q213
                · obtain rfl : a = 212 := by omega
                  exact ri_k212
                · obtain rfl : a = 213 := by omega
                  exact ri_k213
            · rcases Nat.lt_or_ge a 216 with q216 | q216
              · rcases Nat.lt_or_ge a 215 with q215 | q215
                · obtain rfl : a = 214 := by omega
                  exact ri_k214
                · obtain rfl : a = 215 := by omega
                  exact ri_k215
              · rcases Nat.lt_or_ge a 217 with q217 | q217
                · obtain rfl : a = 216 := by omega
                  exact ri_k216
                · obtain rfl : a = 217 := by omega
                  exact ri_k217
          · rcases Nat.lt_or_ge a 222 with q222 | q222
            · rcases Nat.lt_or_ge a 220 with q220 | q220
              · rcases Nat.lt_or_ge a 219 with q219 | q219
                · obtain rfl : a = 218 := by omega
                  exact ri_k218
                · obtain rfl : a = 219 := by omega
                  exact ri_k219
              · rcases Nat.lt_or_ge a 221 with q221 | q221
                · obtain rfl : a = 220 := by omega
                  exact ri_k220
                · obtain rfl : a = 221 := by omega
                  exact ri_k221
            · rcases Nat.lt_or_ge a 224 with q224 | q224
              · rcases Nat.lt_or_ge a 223 with q223 | q223
                · obtain rfl : a = 222 := by omega
                  exact ri_k222
                · obtain rfl : a = 223 := by omega
                  exact ri_k223
              · rcases Nat.lt_or_ge a 225 with q225 | q225
                · obtain rfl : a = 224 := by omega
                  exact ri_k224
                · rcases Nat.lt_or_ge a 226 with q226 | q226
                  · obtain rfl : a = 225 := by omega
                    exact ri_k225
                  · obtain rfl : a = 226 := by omega
                    exact ri_k226
        · rcases Nat.lt_or_ge a 236 with q236 | q236
          · rcases Nat.lt_or_ge a 231 with q231 | q231
            · rcases Nat.lt_or_ge a 229 with q229 | q229
              · rcases Nat.lt_or_ge a 228 with q228 | q228
                · obtain rfl : a = 227 := by omega
                  exact ri_k227
                · obtain rfl : a = 228 := by omega
                  exact ri_k228
              · rcases Nat.lt_or_ge a 230 with q230 | q230
                · obtain rfl : a = 229 := by omega
                  exact ri_k229
                · obtain rfl : a = 230 := by omega
                  exact ri_k230
            · rcases Nat.lt_or_ge a 233 with q233 | q233
              · rcases Nat.lt_or_ge a 232 with q232 | q232
                · obtain rfl : a = 231 := by omega
                  exact ri_k231
                · obtain rfl : a = 232 := by omega
                  exact ri_k232
              · rcases Nat.lt_or_ge a 234 with q234 | q234
                · obtain rfl : a = 233 := by omega
                  exact ri_k233
                · rcases Nat.lt_or_ge a 235 with q235 | q235
                  · obtain rfl : a = 234 := by omega
                    exact ri_k234
                  · obtain rfl : a = 235 := by omega
                    exact ri_k235
          · rcases Nat.lt_or_ge a 240 with q240 | q240
            · rcases Nat.lt_or_ge a 238 with q238 | q238
              · rcases Nat.lt_or_ge a 237 with q237 | q237
                · obtain rfl : a = 236 := by omega
                  exact ri_k236
                · obtain rfl : a = 237 := by omega
                  exact ri_k237
              · rcases Nat.lt_or_ge a 239 with q239 | q239
                · obtain rfl : a = 238 := by omega
                  exact ri_k238
                · obtain rfl : a = 239 := by omega
                  exact ri_k239
            · rcases Nat.lt_or_ge a 242 with q242 | q242
              · rcases Nat.lt_or_ge a 241 with q241 | q241
                · obtain rfl : a = 240 := by omega
                  exact ri_k240
                · obtain rfl : a = 241 := by omega
                  exact ri_k241
              · rcases Nat.lt_or_ge a 243 with q243 | q243
                · obtain rfl : a = 242 := by omega
                  exact ri_k242
                · rcases Nat.lt_or_ge a 244 with q244 | q244
                  · obtain rfl : a = 243 := by omega
                    exact ri_k243
                  · obtain rfl : a = 244 := by omega
                    exact ri_k244
      · rcases Nat.lt_or_ge a 263 with q263 | q263
        · rcases Nat.lt_or_ge a 254 with q254 | q254
          · rcases Nat.lt_or_ge a 249 with q249 | q249
            · rcases Nat.lt_or_ge a 247 with q247 | q247
              · rcases Nat.lt_or_ge a 246 with q246 | q246
                · obtain rfl : a = 245 := by omega
                  exact ri_k245
                · obtain rfl : a = 246 := by omega
                  exact ri_k246
              · rcases Nat.lt_or_ge a 248 with q248 | q248
                · obtain rfl : a = 247 := by omega
                  exact ri_k247
                · obtain rfl : a = 248 := by omega
                  exact ri_k248
            · rcases Nat.lt_or_ge a 251 with q251 | q251
              · rcases Nat.lt_or_ge a 250 with q250 | q250
                · obtain rfl : a = 249 := by omega
                  exact ri_k249
                · obtain rfl : a = 250 := by omega
                  exact ri_k250
              · rcases Nat.lt_or_ge a 252 with q252 | q252
                · obtain rfl : a = 251 := by omega
                  exact ri_k251
                · rcases Nat.lt_or_ge a 253 with q253 | q253
                  · obtain rfl : a = 252 := by omega
                    exact ri_k252
                  · obtain rfl : a = 253 := by omega
                    exact ri_k253
          · rcases Nat.lt_or_ge a 258 with q258 | q258
            · rcases Nat.lt_or_ge a 256 with q256 | q256
              · rcases Nat.lt_or_ge a 255 with q255 | q255
                · obtain rfl : a = 254 := by omega
                  exact ri_k254
                · obtain rfl : a = 255 := by omega
                  exact ri_k255
              · rcases Nat.lt_or_ge a 257 with q257 | q257
                · obtain rfl : a = 256 := by omega
                  exact ri_k256
                · obtain rfl : a = 257 := by omega
                  exact ri_k257
            · rcases Nat.lt_or_ge a 260 with q260 | q260
              · rcases Nat.lt_or_ge a 259 with q259 | q259
                · obtain rfl : a = 258 := by omega
                  exact ri_k258
                · obtain rfl : a = 259 := by omega
                  exact ri_k259
              · rcases Nat.lt_or_ge a 261 with q261 | q261
                · obtain rfl : a = 260 := by omega
                  exact ri_k260
                · rcases Nat.lt_or_ge a 262 with q262 | q262
                  · obtain rfl : a = 261 := by omega
                    exact ri_k261
                  · obtain rfl : a = 262 := by omega
                    exact ri_k262
        · rcases Nat.lt_or_ge a 272 with q272 | q272
          · rcases Nat.lt_or_ge a 267 with q267 | q267
            · rcases Nat.lt_or_ge a 265 with q265 | q265
              · rcases Nat.lt_or_ge a 264 with q264 | q264
                · obtain rfl : a = 263 := by omega
                  exact ri_k263
                · obtain rfl : a = 264 := by omega
                  exact ri_k264
              · rcases Nat.lt_or_ge a 266 with q266 | q266
                · obtain rfl : a = 265 := by omega
                  exact ri_k265
                · obtain rfl : a = 266 := by omega
                  exact ri_k266
            · rcases Nat.lt_or_ge a 269 with q269 | q269
              · rcases Nat.lt_or_ge a 268 with q268 | q268
                · obtain rfl : a = 267 := by omega
                  exact ri_k267
                · obtain rfl : a = 268 := by omega
                  exact ri_k268
              · rcases Nat.lt_or_ge a 270 with q270 | q270
                · obtain rfl : a = 269 := by omega
                  exact ri_k269
                · rcases Nat.lt_or_ge a 271 with q271 | q271
                  · obtain rfl : a = 270 := by omega
                    exact ri_k270
                  · obtain rfl : a = 271 := by omega
                    exact ri_k271
          · rcases Nat.lt_or_ge a 276 with q276 | q276
            · rcases Nat.lt_or_ge a 274 with q274 | q274
              · rcases Nat.lt_or_ge a 273 with q273 | q273
                · obtain rfl : a = 272 := by omega
                  exact ri_k272
                · obtain rfl : a = 273 := by omega
                  exact ri_k273
              · rcases Nat.lt_or_ge a 275 with q275 | q275
                · obtain rfl : a = 274 := by omega
                  exact ri_k274
                · obtain rfl : a = 275 := by omega
                  exact ri_k275
            · rcases Nat.lt_or_ge a 278 with q278 | q278
              · rcases Nat.lt_or_ge a 277 with q277 | q277
                · obtain rfl : a = 276 := by omega
                  exact ri_k276
                · obtain rfl : a = 277 := by omega
                  exact ri_k277
              · rcases Nat.lt_or_ge a 279 with q279 | q279
                · obtain rfl : a = 278 := by omega
                  exact ri_k278
                · rcases Nat.lt_or_ge a 280 with q280 | q280
                  · obtain rfl : a = 279 := by omega
                    exact ri_k279
                  · obtain rfl : a = 280 := by omega
                    exact ri_k280
set_option maxRecDepth 100000 in
theorem ri_chk_all : ∀ a, a < ri_n → ri_chk a = true := by
  intro a h
  have h : a < 281 := h
  rcases Nat.lt_or_ge a 140 with q140 | q140
  · rcases Nat.lt_or_ge a 70 with q70 | q70
    · rcases Nat.lt_or_ge a 35 with q35 | q35
      · rcases Nat.lt_or_ge a 17 with q17 | q17
        · rcases Nat.lt_or_ge a 8 with q8 | q8
          · rcases Nat.lt_or_ge a 4 with q4 | q4
            · rcases Nat.lt_or_ge a 2 with q2 | q2
              · rcases Nat.lt_or_ge a 1 with q1 | q1
                · obtain rfl : a = 0 := by omega
                  exact ri_cz0
                · obtain rfl : a = 1 := by omega
                  exact ri_cz1
              · rcases Nat.lt_or_ge a 3 with q3 | q3
                · obtain rfl : a = 2 := by omega
                  exact ri_cz2
                · obtain rfl : a = 3 := by omega
                  exact ri_cz3
            · rcases Nat.lt_or_ge a 6 with q6 | q6
              · rcases Nat.lt_or_ge a 5 with q5 | q5
                · obtain rfl : a = 4 := by omega
                  exact ri_cz4
                · obtain rfl : a = 5 := by omega
                  exact ri_cz5
              · rcases Nat.lt_or_ge a 7 with q7 | q7
                · obtain rfl : a = 6 := by omega
                  exact ri_cz6
                · obtain rfl : a = 7 := by omega
                  exact ri_cz7
          · rcases Nat.lt_or_ge a 12 with q12 | q12
            · rcases Nat.lt_or_ge a 10 with q10 | q10
              · rcases Nat.lt_or_ge a 9 with q9 | q9
                · obtain rfl : a = 8 := by omega
                  exact ri_cz8
                · obtain rfl : a = 9 := by omega
                  exact ri_cz9
              · rcases Nat.lt_or_ge a 11 with q11 | q11
                · obtain rfl : a = 10 := by omega
                  exact ri_cz10
                · obtain rfl : a = 11 := by omega
                  exact ri_cz11
            · rcases Nat.lt_or_ge a 14 with q14 | q14
              · rcases Nat.lt_or_ge a 13 with q13 | q13
                · obtain rfl : a = 12 := by omega
                  exact ri_cz12
                · obtain rfl : a = 13 := by omega
                  exact ri_cz13
              · rcases Nat.lt_or_ge a 15 with q15 | q15
                · obtain rfl : a = 14 := by omega
                  exact ri_cz14
                · rcases Nat.lt_or_ge a 16 with q16 | q16
                  · obtain rfl : a = 15 := by omega
                    exact ri_cz15
                  · obtain rfl : a = 16 := by omega
                    exact ri_cz16
        · rcases Nat.lt_or_ge a 26 with q26 | q26
          · rcases Nat.lt_or_ge a 21 with q21 | q21
            · rcases Nat.lt_or_ge a 19 with q19 | q19
              · rcases Nat.lt_or_ge a 18 with q18 | q18
                · obtain rfl : a = 17 := by omega
                  exact ri_cz17
                · obtain rfl : a = 18 := by omega
                  exact ri_cz18
              · rcases Nat.lt_or_ge a 20 with q20 | q20
                · obtain rfl : a = 19 := by omega
                  exact ri_cz19
                · obtain rfl : a = 20 := by omega
                  exact ri_cz20
            · rcases Nat.lt_or_ge a 23 with q23 | q23
              · rcases Nat.lt_or_ge a 22 with q22 | q22
                · obtain rfl : a = 21 := by omega
                  exact ri_cz21
                · obtain rfl : a = 22 := by omega
                  exact ri_cz22
              · rcases Nat.lt_or_ge a 24 with q24 | q24
                · obtain rfl : a = 23 := by omega
                  exact ri_cz23
                · rcases Nat.lt_or_ge a 25 with q25 | q25
                  · obtain rfl : a = 24 := by omega
                    exact ri_cz24
                  · obtain rfl : a = 25 := by omega
                    exact ri_cz25
          · rcases Nat.lt_or_ge a 30 with q30 | q30
            · rcases Nat.lt_or_ge a 28 with q28 | q28
              · rcases Nat.lt_or_ge a 27 with q27 | q27
                · obtain rfl : a = 26 := by omega
                  exact ri_cz26
                · obtain rfl : a = 27 := by omega
                  exact ri_cz27
              · rcases Nat.lt_or_ge a 29 with q29 | q29
                · obtain rfl : a = 28 := by omega
                  exact ri_cz28
                · obtain rfl : a = 29 := by omega
                  exact ri_cz29
            · rcases Nat.lt_or_ge a 32 with q32 | q32
              · rcases Nat.lt_or_ge a 31 with q31 | q31
                · obtain rfl : a = 30 := by omega
                  exact ri_cz30
                · obtain rfl : a = 31 := by omega
                  exact ri_cz31
              · rcases Nat.lt_or_ge a 33 with q33 | q33
                · obtain rfl : a = 32 := by omega
                  exact ri_cz32
                · rcases Nat.lt_or_ge a 34 with q34 | q34
                  · obtain rfl : a = 33 := by omega
                    exact ri_cz33
                  · obtain rfl : a = 34 := by omega
                    exact ri_cz34
      · rcases Nat.lt_or_ge a 52 with q52 | q52
        · rcases Nat.lt_or_ge a 43 with q43 | q43
          · rcases Nat.lt_or_ge a 39 with q39 | q39
            · rcases Nat.lt_or_ge a 37 with q37 | q37
              · rcases Nat.lt_or_ge a 36 with q36 | q36
                · obtain rfl : a = 35 := by omega
                  exact ri_cz35
                · obtain rfl : a = 36 := by omega
                  exact ri_cz36
              · rcases Nat.lt_or_ge a 38 with q38 | q38
                · obtain rfl : a = 37 := by omega
                  exact ri_cz37
                · obtain rfl : a = 38 := by omega
                  exact ri_cz38
            · rcases Nat.lt_or_ge a 41 with q41 | q41
              · rcases Nat.lt_or_ge a 40 with q40 | q40
                · obtain rfl : a = 39 := by omega
                  exact ri_cz39
                · obtain rfl : a = 40 := by omega
                  exact ri_cz40
              · rcases Nat.lt_or_ge a 42 with q42 | q42
                · obtain rfl : a = 41 := by omega
                  exact ri_cz41
                · obtain rfl : a = 42 := by omega
                  exact ri_cz42
          · rcases Nat.lt_or_ge a 47 with q47 | q47
            · rcases Nat.lt_or_ge a 45 with q45 | q45
              · rcases Nat.lt_or_ge a 44 with q44 | q44
                · obtain rfl : a = 43 := by omega
                  exact ri_cz43
                · obtain rfl : a = 44 := by omega
                  exact ri_cz44
              · rcases Nat.lt_or_ge a 46 with q46 | q46
                · obtain rfl : a = 45 := by omega
                  exact ri_cz45
                · obtain rfl : a = 46 := by omega
                  exact ri_cz46
            · rcases Nat.lt_or_ge a 49 with q49 | q49
              · rcases Nat.lt_or_ge a 48 with q48 | q48
                · obtain rfl : a = 47 := by omega
                  exact ri_cz47
                · obtain rfl : a = 48 := by omega
                  exact ri_cz48
              · rcases Nat.lt_or_ge a 50 with q50 | q50
                · obtain rfl : a = 49 := by omega
                  exact ri_cz49
                · rcases Nat.lt_or_ge a 51 with q51 | q51
                  · obtain rfl : a = 50 := by omega
                    exact ri_cz50
                  · obtain rfl : a = 51 := by omega
                    exact ri_cz51
        · rcases Nat.lt_or_ge a 61 with q61 | q61
          · rcases Nat.lt_or_ge a 56 with q56 | q56
            · rcases Nat.lt_or_ge a 54 with q54 | q54
              · rcases Nat.lt_or_ge a 53 with q53 | q53
                · obtain rfl : a = 52 := by omega
                  exact ri_cz52
                · obtain rfl : a = 53 := by omega
                  exact ri_cz53
              · rcases Nat.lt_or_ge a 55 with q55 | q55
                · obtain rfl : a = 54 := by omega
                  exact ri_cz54
                · obtain rfl : a = 55 := by omega
                  exact ri_cz55
            · rcases Nat.lt_or_ge a 58 with q58 | q58
              · rcases Nat.lt_or_ge a 57 with q57 | q57
                · obtain rfl : a = 56 := by omega
                  exact ri_cz56
                · obtain rfl : a = 57 := by omega
                  exact ri_cz57
              · rcases Nat.lt_or_ge a 59 with q59 | q59
                · obtain rfl : a = 58 := by omega
                  exact ri_cz58
                · rcases Nat.lt_or_ge a 60 with q60 | q60
                  · obtain rfl : a = 59 := by omega
                    exact ri_cz59
                  · obtain rfl : a = 60 := by omega
                    exact ri_cz60
          · rcases Nat.lt_or_ge a 65 with q65 | q65
            · rcases Nat.lt_or_ge a 63 with q63 | q63
              · rcases Nat.lt_or_ge a 62 with q62 | q62
                · obtain rfl : a = 61 := by omega
                  exact ri_cz61
                · obtain rfl : a = 62 := by omega
                  exact ri_cz62
              · rcases Nat.lt_or_ge a 64 with q64 | q64
                · obtain rfl : a = 63 := by omega
                  exact ri_cz63
                · obtain rfl : a = 64 := by omega
                  exact ri_cz64
            · rcases Nat.lt_or_ge a 67 with q67 | q67
              · rcases Nat.lt_or_ge a 66 with q66 | q66
                · obtain rfl : a = 65 := by omega
                  exact ri_cz65
                · obtain rfl : a = 66 := by omega
                  exact ri_cz66
              · rcases Nat.lt_or_ge a 68 with q68 | q68
                · obtain rfl : a = 67 := by omega
                  exact ri_cz67
                · rcases Nat.lt_or_ge a 69 with q69 | q69
                  · obtain rfl : a = 68 := by omega
                    exact ri_cz68
                  · obtain rfl : a = 69 := by omega
                    exact ri_cz69
    · rcases Nat.lt_or_ge a 105 with q105 | q105
      · rcases Nat.lt_or_ge a 87 with q87 | q87
        · rcases Nat.lt_or_ge a 78 with q78 | q78
          · rcases Nat.lt_or_ge a 74 with q74 | q74
            · rcases Nat.lt_or_ge a 72 with q72 | q72
              · rcases Nat.lt_or_ge a 71 with q71 | q71
                · obtain rfl : a = 70 := by omega
                  exact ri_cz70
                · obtain rfl : a = 71 := by omega
                  exact ri_cz71
              · rcases Nat.lt_or_ge a 73 with q73 | q73
                · obtain rfl : a = 72 := by omega
                  exact ri_cz72
                · obtain rfl : a = 73 := by omega
                  exact ri_cz73
            · rcases Nat.lt_or_ge a 76 with q76 | q76
              · rcases Nat.lt_or_ge a 75 with q75 | q75
                · obtain rfl : a = 74 := by omega
                  exact ri_cz74
                · obtain rfl : a = 75 := by omega
                  exact ri_cz75
              · rcases Nat.lt_or_ge a 77 with q77 | q77
                · obtain rfl : a = 76 := by omega
                  exact ri_cz76
                · obtain rfl : a = 77 := by omega
                  exact ri_cz77
          · rcases Nat.lt_or_ge a 82 with q82 | q82
            · rcases Nat.lt_or_ge a 80 with q80 | q80
              · rcases Nat.lt_or_ge a 79 with q79 | q79
                · obtain rfl : a = 78 := by omega
                  exact ri_cz78
                · obtain rfl : a = 79 := by omega
                  exact ri_cz79
              · rcases Nat.lt_or_ge a 81 with q81 | q81
                · obtain rfl : a = 80 := by omega
                  exact ri_cz80
                · obtain rfl : a = 81 := by omega
                  exact ri_cz81
            · rcases Nat.lt_or_ge a 84 with q84 | q84
              · rcases Nat.lt_or_ge a 83 with q83 | q83
                · obtain rfl : a = 82 := by omega
                  exact ri_cz82
                · obtain rfl : a = 83 := by omega
                  exact ri_cz83
              · rcases Nat.lt_or_ge a 85 with q85 | q85
                · obtain rfl : a = 84 := by omega
                  exact ri_cz84
                · rcases Nat.lt_or_ge a 86 with q86 | q86
                  · obtain rfl : a = 85 := by omega
                    exact ri_cz85
                  · obtain rfl : a = 86 := by omega
                    exact ri_cz86
        · rcases Nat.lt_or_ge a 96 with q96 | q96
          · rcases Nat.lt_or_ge a 91 with q91 | q91
            · rcases Nat.lt_or_ge a 89 with q89 | q89
              · rcases Nat.lt_or_ge a 88 with q88 | q88
                · obtain rfl : a = 87 := by omega
                  exact ri_cz87
                · obtain rfl : a = 88 := by omega
                  exact ri_cz88
              · rcases Nat.lt_or_ge a 90 with q90 | q90
                · obtain rfl : a = 89 := by omega
                  exact ri_cz89
                · obtain rfl : a = 90 := by omega
                  exact ri_cz90
            · rcases Nat.lt_or_ge a 93 with q93 | q93
              · rcases Nat.lt_or_ge a 92 with q92 | q92
                · obtain rfl : a = 91 := by omega
                  exact ri_cz91
                · obtain rfl : a = 92 := by omega
                  exact ri_cz92
              · rcases Nat.lt_or_ge a 94 with q94 | q94
                · obtain rfl : a = 93 := by omega
                  exact ri_cz93
                · rcases Nat.lt_or_ge a 95 with q95 | q95
                  · obtain rfl : a = 94 := by omega
                    exact ri_cz94
                  · obtain rfl : a = 95 := by omega
                    exact ri_cz95
          · rcases Nat.lt_or_ge a 100 with q100 | q100
            · rcases Nat.lt_or_ge a 98 with q98 | q98
              · rcases Nat.lt_or_ge a 97 with q97 | q97
                · obtain rfl : a = 96 := by omega
                  exact ri_cz96
                · obtain rfl : a = 97 := by omega
                  exact ri_cz97
              · rcases Nat.lt_or_ge a 99 with q99 | q99
                · obtain rfl : a = 98 := by omega
                  exact ri_cz98
                · obtain rfl : a = 99 := by omega
                  exact ri_cz99
            · rcases Nat.lt_or_ge a 102 with q102 | q102
              · rcases Nat.lt_or_ge a 101 with q101 | q101
                · obtain rfl : a = 100 := by omega
                  exact ri_cz100
                · obtain rfl : a = 101 := by omega
                  exact ri_cz101
              · rcases Nat.lt_or_ge a 103 with q103 | q103
                · obtain rfl : a = 102 := by omega
                  exact ri_cz102
                · rcases Nat.lt_or_ge a 104 with q104 | q104
                  · obtain rfl : a = 103 := by omega
                    exact ri_cz103
                  · obtain rfl : a = 104 := by omega
                    exact ri_cz104
      · rcases Nat.lt_or_ge a 122 with q122 | q122
        · rcases Nat.lt_or_ge a 113 with q113 | q113
          · rcases Nat.lt_or_ge a 109 with q109 | q109
            · rcases Nat.lt_or_ge a 107 with q107 | q107
              · rcases Nat.lt_or_ge a 106 with q106 | q106
                · obtain rfl : a = 105 := by omega
                  exact ri_cz105
                · obtain rfl : a = 106 := by omega
                  exact ri_cz106
              · rcases Nat.lt_or_ge a 108 with q108 | q108
                · obtain rfl : a = 107 := by omega
                  exact ri_cz107
                · obtain rfl : a = 108 := by omega
                  exact ri_cz108
            · rcases Nat.lt_or_ge a 111 with q111 | q111
              · rcases Nat.lt_or_ge a 110 with q110 | q110
                · obtain rfl : a = 109 := by omega
                  exact ri_cz109
                · obtain rfl : a = 110 := by omega
                  exact ri_cz110
              · rcases Nat.lt_or_ge a 112 with q112 | q112
                · obtain rfl : a = 111 := by omega
                  exact ri_cz111
                · obtain rfl : a = 112 := by omega
                  exact ri_cz112
          · rcases Nat.lt_or_ge a 117 with q117 | q117
            · rcases Nat.lt_or_ge a 115 with q115 | q115
              · rcases Nat.lt_or_ge a 114 with q114 | q114
                · obtain rfl : a = 113 := by omega
                  exact ri_cz113
                · obtain rfl : a = 114 := by omega
                  exact ri_cz114
              · rcases Nat.lt_or_ge a 116 with q116 | q116
                · obtain rfl : a = 115 := by omega
                  exact ri_cz115
                · obtain rfl : a = 116 := by omega
                  exact ri_cz116
            · rcases Nat.lt_or_ge a 119 with q119 | q119
              · rcases Nat.lt_or_ge a 118 with q118 | q118
                · obtain rfl : a = 117 := by omega
                  exact ri_cz117
                · obtain rfl : a = 118 := by omega
                  exact ri_cz118
              · rcases Nat.lt_or_ge a 120 with q120 | q120
                · obtain rfl : a = 119 := by omega
                  exact ri_cz119
                · rcases Nat.lt_or_ge a 121 with q121 | q121
                  · obtain rfl : a = 120 := by omega
                    exact ri_cz120
                  · obtain rfl : a = 121 := by omega
                    exact ri_cz121
        · rcases Nat.lt_or_ge a 131 with q131 | q131
          · rcases Nat.lt_or_ge a 126 with q126 | q126
            · rcases Nat.lt_or_ge a 124 with q124 | q124
              · rcases Nat.lt_or_ge a 123 with q123 | q123
                · obtain rfl : a = 122 := by omega
                  exact ri_cz122
                · obtain rfl : a = 123 := by omega
                  exact ri_cz123
              · rcases Nat.lt_or_ge a 125 with q125 | q125
                · obtain rfl : a = 124 := by omega
                  exact ri_cz124
                · obtain rfl : a = 125 := by omega
                  exact ri_cz125
            · rcases Nat.lt_or_ge a 128 with q128 | q128
              · rcases Nat.lt_or_ge a 127 with q127 | q127
                · obtain rfl : a = 126 := by omega
                  exact ri_cz126
                · obtain rfl : a = 127 := by omega
                  exact ri_cz127
              · rcases Nat.lt_or_ge a 129 with q129 | q129
                · obtain rfl : a = 128 := by omega
                  exact ri_cz128
                · rcases Nat.lt_or_ge a 130 with q130 | q130
                  · obtain rfl : a = 129 := by omega
                    exact ri_cz129
                  · obtain rfl : a = 130 := by omega
                    exact ri_cz130
          · rcases Nat.lt_or_ge a 135 with q135 | q135
            · rcases Nat.lt_or_ge a 133 with q133 | q133
              · rcases Nat.lt_or_ge a 132 with q132 | q132
                · obtain rfl : a = 131 := by omega
                  exact ri_cz131
                · obtain rfl : a = 132 := by omega
                  exact ri_cz132
              · rcases Nat.lt_or_ge a 134 with q134 | q134
                · obtain rfl : a = 133 := by omega
                  exact ri_cz133
                · obtain rfl : a = 134 := by omega
                  exact ri_cz134
            · rcases Nat.lt_or_ge a 137 with q137 | q137
              · rcases Nat.lt_or_ge a 136 with q136 | q136
                · obtain rfl : a = 135 := by omega
                  exact ri_cz135
                · obtain rfl : a = 136 := by omega
                  exact ri_cz136
              · rcases Nat.lt_or_ge a 138 with q138 | q138
                · obtain rfl : a = 137 := by omega
                  exact ri_cz137
                · rcases Nat.lt_or_ge a 139 with q139 | q139
                  · obtain rfl : a = 138 := by omega
                    exact ri_cz138
                  · obtain rfl : a = 139 := by omega
                    exact ri_cz139
  · rcases Nat.lt_or_ge a 210 with q210 | q210
    · rcases Nat.lt_or_ge a 175 with q175 | q175
      · rcases Nat.lt_or_ge a 157 with q157 | q157
        · rcases Nat.lt_or_ge a 148 with q148 | q148
          · rcases Nat.lt_or_ge a 144 with q144 | q144
            · rcases Nat.lt_or_ge a 142 with q142 | q142
              · rcases Nat.lt_or_ge a 141 with q141 | q141
                · obtain rfl : a = 140 := by omega
                  exact ri_cz140
                · obtain rfl : a = 141 := by omega
                  exact ri_cz141
              · rcases Nat.lt_or_ge a 143 with q143 | q143
                · obtain rfl : a = 142 := by omega
                  exact ri_cz142
                · obtain rfl : a = 143 := by omega
                  exact ri_cz143
            · rcases Nat.lt_or_ge a 146 with q146 | q146
              · rcases Nat.lt_or_ge a 145 with q145 | q145
                · obtain rfl : a = 144 := by omega
                  exact ri_cz144
                · obtain rfl : a = 145 := by omega
                  exact ri_cz145
              · rcases Nat.lt_or_ge a 147 with q147 | q147
                · obtain rfl : a = 146 := by omega
                  exact ri_cz146
                · obtain rfl : a = 147 := by omega
                  exact ri_cz147
          · rcases Nat.lt_or_ge a 152 with q152 | q152
            · rcases Nat.lt_or_ge a 150 with q150 | q150
              · rcases Nat.lt_or_ge a 149 with q149 | q149
                · obtain rfl : a = 148 := by omega
                  exact ri_cz148
                · obtain rfl : a = 149 := by omega
                  exact ri_cz149
              · rcases Nat.lt_or_ge a 151 with q151 | q151
                · obtain rfl : a = 150 := by omega
                  exact ri_cz150
                · obtain rfl : a = 151 := by omega
                  exact ri_cz151
            · rcases Nat.lt_or_ge a 154 with q154 | q154
              · rcases Nat.lt_or_ge a 153 with q153 | q153
                · obtain rfl : a = 152 := by omega
                  exact ri_cz152
                · obtain rfl : a = 153 := by omega
                  exact ri_cz153
              · rcases Nat.lt_or_ge a 155 with q155 | q155
                · obtain rfl : a = 154 := by omega
                  exact ri_cz154
                · rcases Nat.lt_or_ge a 156 with q156 | q156
                  · obtain rfl : a = 155 := by omega
                    exact ri_cz155
                  · obtain rfl : a = 156 := by omega
                    exact ri_cz156
        · rcases Nat.lt_or_ge a 166 with q166 | q166
          · rcases Nat.lt_or_ge a 161 with q161 | q161
            · rcases Nat.lt_or_ge a 159 with q159 | q159
              · rcases Nat.lt_or_ge a 158 with q158 | q158
                · obtain rfl : a = 157 := by omega
                  exact ri_cz157
                · obtain rfl : a = 158 := by omega
                  exact ri_cz158
              · rcases Nat.lt_or_ge a 160 with q160 | q160
                · obtain rfl : a = 159 := by omega
                  exact ri_cz159
                · obtain rfl : a = 160 := by omega
                  exact ri_cz160
            · rcases Nat.lt_or_ge a 163 with q163 | q163
              · rcases Nat.lt_or_ge a 162 with q162 | q162
                · obtain rfl : a = 161 := by omega
                  exact ri_cz161
                · obtain rfl : a = 162 := by omega
                  exact ri_cz162
              · rcases Nat.lt_or_ge a 164 with q164 | q164
                · obtain rfl : a = 163 := by omega
                  exact ri_cz163
                · rcases Nat.lt_or_ge a 165 with q165 | q165
                  · obtain rfl : a = 164 := by omega
                    exact ri_cz164
                  · obtain rfl : a = 165 := by omega
                    exact ri_cz165
          · rcases Nat.lt_or_ge a 170 with q170 | q170
            · rcases Nat.lt_or_ge a 168 with q168 | q168
              · rcases Nat.lt_or_ge a 167 with q167 | q167
                · obtain rfl : a = 166 := by omega
                  exact ri_cz166
                · obtain rfl : a = 167 := by omega
                  exact ri_cz167
              · rcases Nat.lt_or_ge a 169 with q169 | q169
                · obtain rfl : a = 168 := by omega
                  exact ri_cz168
                · obtain rfl : a = 169 := by omega
                  exact ri_cz169
            · rcases Nat.lt_or_ge a 172 with q172 | q172
              · rcases Nat.lt_or_ge a 171 with q171 | q171
                · obtain rfl : a = 170 := by omega
                  exact ri_cz170
                · obtain rfl : a = 171 := by omega
                  exact ri_cz171
              · rcases Nat.lt_or_ge a 173 with q173 | q173
                · obtain rfl : a = 172 := by omega
                  exact ri_cz172
                · rcases Nat.lt_or_ge a 174 with q174 | q174
                  · obtain rfl : a = 173 := by omega
                    exact ri_cz173
                  · obtain rfl : a = 174 := by omega
                    exact ri_cz174
      · rcases Nat.lt_or_ge a 192 with q192 | q192
        · rcases Nat.lt_or_ge a 183 with q183 | q183
          · rcases Nat.lt_or_ge a 179 with q179 | q179
            · rcases Nat.lt_or_ge a 177 with q177 | q177
              · rcases Nat.lt_or_ge a 176 with q176 | q176
                · obtain rfl : a = 175 := by omega
                  exact ri_cz175
                · obtain rfl : a = 176 := by omega
                  exact ri_cz176
              · rcases Nat.lt_or_ge a 178 with q178 | q178
                · obtain rfl : a = 177 := by omega
                  exact ri_cz177
                · obtain rfl : a = 178 := by omega
                  exact ri_cz178
            · rcases Nat.lt_or_ge a 181 with q181 | q181
              · rcases Nat.lt_or_ge a 180 with q180 | q180
                · obtain rfl : a = 179 := by omega
                  exact ri_cz179
                · obtain rfl : a = 180 := by omega
                  exact ri_cz180
              · rcases Nat.lt_or_ge a 182 with q182 | q182
                · obtain rfl : a = 181 := by omega
                  exact ri_cz181
                · obtain rfl : a = 182 := by omega
                  exact ri_cz182
          · rcases Nat.lt_or_ge a 187 with q187 | q187
            · rcases Nat.lt_or_ge a 185 with q185 | q185
              · rcases Nat.lt_or_ge a 184 with q184 | q184
                · obtain rfl : a = 183 := by omega
                  exact ri_cz183
                · obtain rfl : a = 184 := by omega
                  exact ri_cz184
              · rcases Nat.lt_or_ge a 186 with q186 | q186
                · obtain rfl : a = 185 := by omega
                  exact ri_cz185
                · obtain rfl : a = 186 := by omega
                  exact ri_cz186
            · rcases Nat.lt_or_ge a 189 with q189 | q189
              · rcases Nat.lt_or_ge a 188 with q188 | q188
                · obtain rfl : a = 187 := by omega
                  exact ri_cz187
                · obtain rfl : a = 188 := by omega
                  exact ri_cz188
              · rcases Nat.lt_or_ge a 190 with q190 | q190
                · obtain rfl : a = 189 := by omega
                  exact ri_cz189
                · rcases Nat.lt_or_ge a 191 with q191 | q191
                  · obtain rfl : a = 190 := by omega
                    exact ri_cz190
                  · obtain rfl : a = 191 := by omega
                    exact ri_cz191
        · rcases Nat.lt_or_ge a 201 with q201 | q201
          · rcases Nat.lt_or_ge a 196 with q196 | q196
            · rcases Nat.lt_or_ge a 194 with q194 | q194
              · rcases Nat.lt_or_ge a 193 with q193 | q193
                · obtain rfl : a = 192 := by omega
                  exact ri_cz192
                · obtain rfl : a = 193 := by omega
                  exact ri_cz193
              · rcases Nat.lt_or_ge a 195 with q195 | q195
                · obtain rfl : a = 194 := by omega
                  exact ri_cz194
                · obtain rfl : a = 195 := by omega
                  exact ri_cz195
            · rcases Nat.lt_or_ge a 198 with q198 | q198
              · rcases Nat.lt_or_ge a 197 with q197 | q197
                · obtain rfl : a = 196 := by omega
                  exact ri_cz196
                · obtain rfl : a = 197 := by omega
                  exact ri_cz197
              · rcases Nat.lt_or_ge a 199 with q199 | q199
                · obtain rfl : a = 198 := by omega
                  exact ri_cz198
                · rcases Nat.lt_or_ge a 200 with q200 | q200
                  · obtain rfl : a = 199 := by omega
                    exact ri_cz199
                  · obtain rfl : a = 200 := by omega
                    exact ri_cz200
          · rcases Nat.lt_or_ge a 205 with q205 | q205
            · rcases Nat.lt_or_ge a 203 with q203 | q203
              · rcases Nat.lt_or_ge a 202 with q202 | q202
                · obtain rfl : a = 201 := by omega
                  exact ri_cz201
                · obtain rfl : a = 202 := by omega
                  exact ri_cz202
              · rcases Nat.lt_or_ge a 204 with q204 | q204
                · obtain rfl : a = 203 := by omega
                  exact ri_cz203
                · obtain rfl : a = 204 := by omega
                  exact ri_cz204
            · rcases Nat.lt_or_ge a 207 with q207 | q207
              · rcases Nat.lt_or_ge a 206 with q206 | q206
                · obtain rfl : a = 205 := by omega
                  exact ri_cz205
                · obtain rfl : a = 206 := by omega
                  exact ri_cz206
              · rcases Nat.lt_or_ge a 208 with q208 | q208
                · obtain rfl : a = 207 := by omega
                  exact ri_cz207
                · rcases Nat.lt_or_ge a 209 with q209 | q209
                  · obtain rfl : a = 208 := by omega
                    exact ri_cz208
                  · obtain rfl : a = 209 := by omega
                    exact ri_cz209
    · rcases Nat.lt_or_ge a 245 with q245 | q245
      · rcases Nat.lt_or_ge a 227 with q227 | q227
        · rcases Nat.lt_or_ge a 218 with q218 | q218
          · rcases Nat.lt_or_ge a 214 with q214 | q214
            · rcases Nat.lt_or_ge a 212 with q212 | q212
              · rcases Nat.lt_or_ge a 211 with q211 | q211
                · obtain rfl : a = 210 := by omega
                  exact ri_cz210
                · obtain rfl : a = 211 := by omega
                  exact ri_cz211
              · rcases Nat.lt_or_ge a 213 with q213 | q213
                · obtain rfl : a = 212 := by omega
                  exact ri_cz212
                · obtain rfl : a = 213 := by omega
                  exact ri_cz213
            · rcases Nat.lt_or_ge a 216 with q216 | q216
              · rcases Nat.lt_or_ge a 215 with q215 | q215
                · obtain rfl : a = 214 := by omega
                  exact ri_cz214
                · obtain rfl : a = 215 := by omega
                  exact ri_cz215
              · rcases Nat.lt_or_ge a 217 with q217 | q217
                · obtain rfl : a = 216 := by omega
                  exact ri_cz216
                · obtain rfl : a = 217 := by omega
                  exact ri_cz217
          · rcases Nat.lt_or_ge a 222 with q222 | q222
            · rcases Nat.lt_or_ge a 220 with q220 | q220
              · rcases Nat.lt_or_ge a 219 with q219 | q219
                · obtain rfl : a = 218 := by omega
                  exact ri_cz218
                · obtain rfl : a = 219 := by omega
                  exact ri_cz219
              · rcases Nat.lt_or_ge a 221 with q221 | q221
                · obtain rfl : a = 220 := by omega
                  exact ri_cz220
                · obtain rfl : a = 221 := by omega
                  exact ri_cz221
            · rcases Nat.lt_or_ge a 224 with q224 | q224
              · rcases Nat.lt_or_ge a 223 with q223 | q223
                · obtain rfl : a = 222 := by omega
                  exact ri_cz222
                · obtain rfl : a = 223 := by omega
                  exact ri_cz223
              · rcases Nat.lt_or_ge a 225 with q225 | q225
                · obtain rfl : a = 224 := by omega
                  exact ri_cz224
                · rcases Nat.lt_or_ge a 226 with q226 | q226
                  · obtain rfl : a = 225 := by omega
                    exact ri_cz225
                  · obtain rfl : a = 226 := by omega
                    exact ri_cz226
        · rcases Nat.lt_or_ge a 236 with q236 | q236
          · rcases Nat.lt_or_ge a 231 with q231 | q231
            · rcases Nat.lt_or_ge a 229 with q229 | q229
              · rcases Nat.lt_or_ge a 228 with q228 | q228
                · obtain rfl : a = 227 := by omega
                  exact ri_cz227
                · obtain rfl : a = 228 := by omega
                  exact ri_cz228
              · rcases Nat.lt_or_ge a 230 with q230 | q230
                · obtain rfl : a = 229 := by omega
                  exact ri_cz229
                · obtain rfl : a = 230 := by omega
                  exact ri_cz230
            · rcases Nat.lt_or_ge a 233 with q233 | q233
              · rcases Nat.lt_or_ge a 232 with q232 | q232
                · obtain rfl : a = 231 := by omega
                  exact ri_cz231
                · obtain rfl : a = 232 := by omega
                  exact ri_cz232
              · rcases Nat.lt_or_ge a 234 with q234 | q234
                · obtain rfl : a = 233 := by omega
                  exact ri_cz233
                · rcases Nat.lt_or_ge a 235 with q235 | q235
                  · obtain rfl : a = 234 := by omega
                    exact ri_cz234
                  · obtain rfl : a = 235 := by omega
                    exact ri_cz235
          · rcases Nat.lt_or_ge a 240 with q240 | q240
            · rcases Nat.lt_or_ge a 238 with q238 | q238
              · rcases Nat.lt_or_ge a 237 with q237 | q237
                · obtain rfl : a = 236 := by omega
                  exact ri_cz236
                · obtain rfl : a = 237 := by omega
                  exact ri_cz237
              · rcases Nat.lt_or_ge a 239 with q239 | q239
                · obtain rfl : a = 238 := by omega
                  exact ri_cz238
                · obtain rfl : a = 239 := by omega
                  exact ri_cz239
            · rcases Nat.lt_or_ge a 242 with q242 | q242
              · rcases Nat.lt_or_ge a 241 with q241 | q241
                · obtain rfl : a = 240 := by omega
                  exact ri_cz240
                · obtain rfl : a = 241 := by omega
                  exact ri_cz241
              · rcases Nat.lt_or_ge a 243 with q243 | q243
                · obtain rfl : a = 242 := by omega
                  exact ri_cz242
                · rcases Nat.lt_or_ge a 244 with q244 | q244
                  · obtain rfl : a = 243 := by omega
                    exact ri_cz243
                  · obtain rfl : a = 244 := by omega
                    exact ri_cz244
      · rcases Nat.lt_or_ge a 263 with q263 | q263
        · rcases Nat.lt_or_ge a 254 with q254 | q254
          · rcases Nat.lt_or_ge a 249 with q249 | q249
            · rcases Nat.lt_or_ge a 247 with q247 | q247
              · rcases Nat.lt_or_ge a 246 with q246 | q246
                · obtain rfl : a = 245 := by omega
                  exact ri_cz245
                · obtain rfl : a = 246 := by omega
                  exact ri_cz246
              · rcases Nat.lt_or_ge a 248 with q248 | q248
                · obtain rfl : a = 247 := by omega
                  exact ri_cz247
                · obtain rfl : a = 248 := by omega
                  exact ri_cz248
            · rcases Nat.lt_or_ge a 251 with q251 | q251
              · rcases Nat.lt_or_ge a 250 with q250 | q250
                · obtain rfl : a = 249 := by omega
                  exact ri_cz249
                · obtain rfl : a = 250 := by omega
                  exact ri_cz250
              · rcases Nat.lt_or_ge a 252 with q252 | q252
                · obtain rfl : a = 251 := by omega
                  exact ri_cz251
                · rcases Nat.lt_or_ge a 253 with q253 | q253
                  · obtain rfl : a = 252 := by omega
                    exact ri_cz252
                  · obtain rfl : a = 253 := by omega
                    exact ri_cz253
          · rcases Nat.lt_or_ge a 258 with q258 | q258
            · rcases Nat.lt_or_ge a 256 with q256 | q256
              · rcases Nat.lt_or_ge a 255 with q255 | q255
                · obtain rfl : a = 254 := by omega
                  exact ri_cz254
                · obtain rfl : a = 255 := by omega
                  exact ri_cz255
              · rcases Nat.lt_or_ge a 257 with q257 | q257
                · obtain rfl : a = 256 := by omega
                  exact ri_cz256
                · obtain rfl : a = 257 := by omega
                  exact ri_cz257
            · rcases Nat.lt_or_ge a 260 with q260 | q260
              · rcases Nat.lt_or_ge a 259 with q259 | q259
                · obtain rfl : a = 258 := by omega
                  exact ri_cz258
                · obtain rfl : a = 259 := by omega
                  exact ri_cz259
              · rcases Nat.lt_or_ge a 261 with q261 | q261
                · obtain rfl : a = 260 := by omega
                  exact ri_cz260
                · rcases Nat.lt_or_ge a 262 with q262 | q262
                  · obtain rfl : a = 261 := by omega
                    exact ri_cz261
                  · obtain rfl : a = 262 := by omega
                    exact ri_cz262
        · rcases Nat.lt_or_ge a 272 with q272 | q272
          · rcases Nat.lt_or_ge a 267 with q267 | q267
            · rcases Nat.lt_or_ge a 265 with q265 | q265
              · rcases Nat.lt_or_ge a 264 with q264 | q264
                · obtain rfl : a = 263 := by omega
                  exact ri_cz263
                · obtain rfl : a = 264 := by omega
                  exact ri_cz264
              · rcases Nat.lt_or_ge a 266 with q266 | q266
                · obtain rfl : a = 265 := by omega
                  exact ri_cz265
                · obtain rfl : a = 266 := by omega
                  exact ri_cz266
            · rcases Nat.lt_or_ge a 269 with q269 | q269
              · rcases Nat.lt_or_ge a 268 with q268 | q268
                · obtain rfl : a = 267 := by omega
                  exact ri_cz267
                · obtain rfl : a = 268 := by omega
                  exact ri_cz268
              · rcases Nat.lt_or_ge a 270 with q270 | q270
                · obtain rfl : a = 269 := by omega
                  exact ri_cz269
                · rcases Nat.lt_or_ge a 271 with q271 | q271
                  · obtain rfl : a = 270 := by omega
                    exact ri_cz270
                  · obtain rfl : a = 271 := by omega
                    exact ri_cz271
          · rcases Nat.lt_or_ge a 276 with q276 | q276
            · rcases Nat.lt_or_ge a 274 with q274 | q274
              · rcases Nat.lt_or_ge a 273 with q273 | q273
                · obtain rfl : a = 272 := by omega
                  exact ri_cz272
                · obtain rfl : a = 273 := by omega
                  exact ri_cz273
              · rcases Nat.lt_or_ge a 275 with q275 | q275
                · obtain rfl : a = 274 := by omega
                  exact ri_cz274
                · obtain rfl : a = 275 := by omega
                  exact ri_cz275
            · rcases Nat.lt_or_ge a 278 with q278 | q278
              · rcases Nat.lt_or_ge a 277 with q277 | q277
                · obtain rfl : a = 276 := by omega
                  exact ri_cz276
                · obtain rfl : a = 277 := by omega
                  exact ri_cz277
              · rcases Nat.lt_or_ge a 279 with q279 | q279
                · obtain rfl : a = 278 := by omega
                  exact ri_cz278
                · rcases Nat.lt_or_ge a 280 with q280 | q280
                  · obtain rfl : a = 279 := by omega
                    exact ri_cz279
                  · obtain rfl : a = 280 := by omega
                    exact ri_cz280
theorem ri_ck_all (a pc : Nat) (h : a < ri_n) (hp : pc < ri_len a) : ri_one (ri_y a).cls (ri_y a).name (ri_b a) (ri_code a) pc = true := by
  have h1 := ri_chk_all a h
  unfold ri_chk at h1
  have h2 := ri_one2_ok (List.all_eq_true.mp h1 pc (List.mem_range.mpr hp))
  rw [ri_on_all a h] at h2
  exact h2
theorem ri_hck : ∀ a pc j, ri_tc a pc = some j → ri_ck (ri_y a).cls (ri_y a).name (ri_b a) pc j = true := by
  intro a pc j h
  obtain ⟨h1, h2, h3⟩ := ri_tc_lt h
  have h4 := ri_ck_all a pc h1 h2
  unfold ri_one at h4
  rw [h3] at h4
  exact h4
def ri_npf : ri_J → Bool
  | (.putfield _, _, _, _, _) => false
  | _ => true
def ri_onel (pc : Nat) : Bool := match kL_law pc with
  | some j => ri_ck2 12 "law" code pc j && ri_npf j
  | none => true
theorem ri_lawc_0 : (List.range' 0 296).all ri_onel = true := by decide +kernel
theorem ri_lawc_296 : (List.range' 296 122).all ri_onel = true := by decide +kernel
theorem ri_lawc_418 : (List.range' 418 122).all ri_onel = true := by decide +kernel
theorem ri_lawc_540 : (List.range' 540 124).all ri_onel = true := by decide +kernel
theorem ri_lawc_664 : (List.range' 664 116).all ri_onel = true := by decide +kernel
theorem ri_lawc_780 : (List.range' 780 130).all ri_onel = true := by decide +kernel
theorem ri_lawc_910 : (List.range' 910 116).all ri_onel = true := by decide +kernel
theorem ri_lawc_1026 : (List.range' 1026 118).all ri_onel = true := by decide +kernel
theorem ri_lawc_1144 : (List.range' 1144 116).all ri_onel = true := by decide +kernel
theorem ri_lawc_1260 : (List.range' 1260 112).all ri_onel = true := by decide +kernel
theorem ri_lawc_1372 : (List.range' 1372 128).all ri_onel = true := by decide +kernel
theorem ri_lawc_1500 : (List.range' 1500 125).all ri_onel = true := by decide +kernel
theorem ri_lawd : ∀ pc, pc < 1625 → ri_onel pc = true := by
  intro pc h
  rcases Nat.lt_or_ge pc 296 with q | q
  · exact List.all_eq_true.mp ri_lawc_0 pc (List.mem_range'_1.mpr ⟨by omega, by omega⟩)
  rcases Nat.lt_or_ge pc 418 with q | q
  · exact List.all_eq_true.mp ri_lawc_296 pc (List.mem_range'_1.mpr ⟨by omega, by omega⟩)
  rcases Nat.lt_or_ge pc 540 with q | q
  · exact List.all_eq_true.mp ri_lawc_418 pc (List.mem_range'_1.mpr ⟨by omega, by omega⟩)
  rcases Nat.lt_or_ge pc 664 with q | q
  · exact List.all_eq_true.mp ri_lawc_540 pc (List.mem_range'_1.mpr ⟨by omega, by omega⟩)
  rcases Nat.lt_or_ge pc 780 with q | q
  · exact List.all_eq_true.mp ri_lawc_664 pc (List.mem_range'_1.mpr ⟨by omega, by omega⟩)
  rcases Nat.lt_or_ge pc 910 with q | q
  · exact List.all_eq_true.mp ri_lawc_780 pc (List.mem_range'_1.mpr ⟨by omega, by omega⟩)
  rcases Nat.lt_or_ge pc 1026 with q | q
  · exact List.all_eq_true.mp ri_lawc_910 pc (List.mem_range'_1.mpr ⟨by omega, by omega⟩)
  rcases Nat.lt_or_ge pc 1144 with q | q
  · exact List.all_eq_true.mp ri_lawc_1026 pc (List.mem_range'_1.mpr ⟨by omega, by omega⟩)
  rcases Nat.lt_or_ge pc 1260 with q | q
  · exact List.all_eq_true.mp ri_lawc_1144 pc (List.mem_range'_1.mpr ⟨by omega, by omega⟩)
  rcases Nat.lt_or_ge pc 1372 with q | q
  · exact List.all_eq_true.mp ri_lawc_1260 pc (List.mem_range'_1.mpr ⟨by omega, by omega⟩)
  rcases Nat.lt_or_ge pc 1500 with q | q
  · exact List.all_eq_true.mp ri_lawc_1372 pc (List.mem_range'_1.mpr ⟨by omega, by omega⟩)
  exact List.all_eq_true.mp ri_lawc_1500 pc (List.mem_range'_1.mpr ⟨by omega, by omega⟩)
theorem ri_ck_nm {own n1 n2 : String} {bs : ByteArray} {pc : Nat} {j : ri_J} (h : ri_ck own n1 bs pc j = true) (hp : ri_npf j = true) : ri_ck own n2 bs pc j = true := by
  obtain ⟨ins, len, a, b, c0⟩ := j
  cases ins <;> first | exact h | cases hp
set_option maxRecDepth 100000 in
theorem ri_lawck (nm : String) : ∀ pc j, ri_law pc = some j → ri_ck RL nm code pc j = true := by
  intro pc j h
  unfold ri_law at h
  cases h1 : Nat.blt pc 1625 with
  | false => rw [h1] at h; cases h
  | true =>
    rw [h1] at h
    have h2 := ri_lawd pc (Nat.le_of_ble_eq_true h1)
    unfold ri_onel at h2
    have h3 : kL_law pc = some j := h
    rw [h3] at h2
    dsimp only at h2
    rw [Bool.and_eq_true] at h2
    have h5 : ri_ck (ri_on 12) "law" code pc j = true := ri_ck2_ok h2.1
    have e5 : ri_on 12 = RL := rfl
    rw [e5] at h5
    exact ri_ck_nm h5 h2.2
theorem ri_zip : ∀ {ws : List Cond} {ps : List Nat}, (ws.zip ps).all (fun q => ri_w q.2 q.1 && ri_us q.1) = true → ws.length ≤ ps.length → ∀ w ∈ ws, w ∈ ri_tb
  | [], _, _, _ => fun w h => by cases h
  | _ :: _, [], _, h => by simp at h
  | a :: ws, b :: ps, h, hl => by
    simp only [List.zip_cons_cons, List.all_cons, Bool.and_eq_true] at h
    intro w hw
    rcases List.mem_cons.mp hw with rfl | hw
    · exact ri_w_mem h.1.1 h.1.2
    · exact ri_zip (by simpa using h.2) (by simpa using hl) w hw
theorem ri_in0 : ((u_ws RX0 TX0 3).zip [263, 265, 267]).all (fun q => ri_w q.2 q.1 && ri_us q.1) = true ∧ (u_ws RX0 TX0 3).length = 3 := by decide +kernel
theorem ri_cw0 : ri_w 255 (.instantiable RX0 3) = true ∧ ri_w 169 (.initialized RX0) = true := by decide +kernel
theorem ri_in1 : ((u_ws RX1 TX1 1).zip [241]).all (fun q => ri_w q.2 q.1 && ri_us q.1) = true ∧ (u_ws RX1 TX1 1).length = 1 := by decide +kernel
theorem ri_cw1 : ri_w 235 (.instantiable RX1 1) = true ∧ ri_w 167 (.initialized RX1) = true := by decide +kernel
theorem ri_in2 : ((u_ws RX2 TX2 12).zip [303, 305, 307, 309, 311, 313, 315, 317, 319, 321, 323, 325]).all (fun q => ri_w q.2 q.1 && ri_us q.1) = true ∧ (u_ws RX2 TX2 12).length = 12 := by decide +kernel
theorem ri_cw2 : ri_w 273 (.instantiable RX2 12) = true ∧ ri_w 170 (.initialized RX2) = true := by decide +kernel
theorem ri_in3 : ((u_ws RX3 TX3 13).zip [409, 411, 413, 415, 417, 419, 421, 423, 425, 427, 429, 431, 433]).all (fun q => ri_w q.2 q.1 && ri_us q.1) = true ∧ (u_ws RX3 TX3 13).length = 13 := by decide +kernel
theorem ri_cw3 : ri_w 388 (.instantiable RX3 13) = true ∧ ri_w 174 (.initialized RX3) = true := by decide +kernel
theorem ri_in4 : ((u_ws RX4 TX4 1).zip [251]).all (fun q => ri_w q.2 q.1 && ri_us q.1) = true ∧ (u_ws RX4 TX4 1).length = 1 := by decide +kernel
theorem ri_cw4 : ri_w 245 (.instantiable RX4 1) = true ∧ ri_w 168 (.initialized RX4) = true := by decide +kernel
theorem ri_in5 : ((u_ws RX5 TX5 4).zip [343, 345, 347, 349]).all (fun q => ri_w q.2 q.1 && ri_us q.1) = true ∧ (u_ws RX5 TX5 4).length = 4 := by decide +kernel
theorem ri_cw5 : ri_w 331 (.instantiable RX5 4) = true ∧ ri_w 171 (.initialized RX5) = true := by decide +kernel
theorem ri_in6 : ((u_ws RX6 TX6 5).zip [377, 379, 381, 383, 385]).all (fun q => ri_w q.2 q.1 && ri_us q.1) = true ∧ (u_ws RX6 TX6 5).length = 5 := by decide +kernel
theorem ri_cw6 : ri_w 367 (.instantiable RX6 5) = true ∧ ri_w 173 (.initialized RX6) = true := by decide +kernel
theorem ri_in7 : ((u_ws RX7 TX7 2).zip [361, 363]).all (fun q => ri_w q.2 q.1 && ri_us q.1) = true ∧ (u_ws RX7 TX7 2).length = 2 := by decide +kernel
theorem ri_cw7 : ri_w 353 (.instantiable RX7 2) = true ∧ ri_w 172 (.initialized RX7) = true := by decide +kernel
theorem ri_in8 : ((u_ws RX8 TX8 2).zip [201, 203]).all (fun q => ri_w q.2 q.1 && ri_us q.1) = true ∧ (u_ws RX8 TX8 2).length = 2 := by decide +kernel
theorem ri_cw8 : ri_w 192 (.instantiable RX8 2) = true ∧ ri_w 165 (.initialized RX8) = true := by decide +kernel
theorem ri_in9 : ((u_ws RX9 TX9 6).zip [220, 222, 224, 226, 228, 230]).all (fun q => ri_w q.2 q.1 && ri_us q.1) = true ∧ (u_ws RX9 TX9 6).length = 6 := by decide +kernel
theorem ri_cw9 : ri_w 208 (.instantiable RX9 6) = true ∧ ri_w 166 (.initialized RX9) = true := by decide +kernel
theorem ri_in10 : ((u_ws RX10 TX10 18).zip [455, 457, 459, 461, 463, 465, 467, 469, 471, 473, 475, 477, 479, 481, 483, 485, 487, 489]).all (fun q => ri_w q.2 q.1 && ri_us q.1) = true ∧ (u_ws RX10 TX10 18).length = 18 := by decide +kernel
theorem ri_cw10 : ri_w 184 (.instantiable RX10 18) = true ∧ ri_w 164 (.initialized RX10) = true := by decide +kernel
theorem ri_in11 : ((u_ws RX11 TX11 39).zip [1301, 1303, 1305, 1307, 1309, 1311, 1313, 1315, 1317, 1319, 1321, 1323, 1325, 1327, 1329, 1331, 1333, 1335, 1337, 1339, 1341, 1343, 1345, 1347, 1349, 1351, 1353, 1355, 1357, 1359, 1361, 1363, 1365, 1367, 1369, 1371, 1373, 1375, 1377]).all (fun q => ri_w q.2 q.1 && ri_us q.1) = true ∧ (u_ws RX11 TX11 39).length = 39 := by decide +kernel
theorem ri_cw11 : ri_w 1257 (.instantiable RX11 39) = true ∧ ri_w 175 (.initialized RX11) = true := by decide +kernel
theorem ri_obj : ri_w 189 (.instanceMethod Lib.objectInit) = true ∧ ri_w 190 (.code Lib.objectInit ⟨#[0xb1]⟩ 1 none) = true := by decide +kernel
theorem ri_min : ri_w 858 (.static Lib.Math.min.name) = true ∧ ri_w 181 (.initialized "java/lang/Math") = true ∧ ri_w 859 (.code Lib.Math.min.name Lib.Math.min.code 2 (some .int)) = true := by decide +kernel
theorem ri_max : ri_w 1133 (.static Lib.Math.max.name) = true ∧ ri_w 181 (.initialized "java/lang/Math") = true ∧ ri_w 1134 (.code Lib.Math.max.name Lib.Math.max.code 2 (some .int)) = true := by decide +kernel
theorem ri_abs : ri_w 802 (.static Lib.Math.abs.name) = true ∧ ri_w 181 (.initialized "java/lang/Math") = true ∧ ri_w 803 (.code Lib.Math.abs.name Lib.Math.abs.code 1 (some .int)) = true := by decide +kernel
theorem ri_cpy : ri_w 691 (.native arraycopyName) = true ∧ ri_w 690 (.static arraycopyName) = true ∧ ri_w 180 (.initialized "java/lang/System") = true := by decide +kernel
theorem ri_ac_byte : ri_w 206 (.arrayClass .byte) = true := by decide +kernel
theorem ri_ac_boolean : ri_w 328 (.arrayClass .boolean) = true := by decide +kernel
theorem ri_ac_int : ri_w 233 (.arrayClass .int) = true := by decide +kernel
theorem ri_ac_long : ri_w 436 (.arrayClass .long) = true := by decide +kernel
theorem ri_cls_ok : ∀ (ci : Nat) (q : vw_C), vwCl[ci]? = some q → (∀ w ∈ u_ws q.1 q.2.1 q.2.2, w ∈ ri_tb) ∧ Cond.instantiable q.1 q.2.2 ∈ ri_tb ∧ Cond.initialized q.1 ∈ ri_tb ∧ (∀ k, k < q.2.2 → parseFieldDescriptor (q.2.1 k).2.2.1 = some (ri_ft ci k)) ∧ (∀ a, a < q.2.2 → ∀ b, b < q.2.2 → a ≠ b → (q.2.1 a).2.1 ≠ (q.2.1 b).2.1) ∧ ri_fn ci = q.2.2 ∧ ∀ d : Nat → Nat, (ri_new ci).map (ri_cv d) = ri_new ci := by
  intro ci q h
  match ci, h with
  | 0, h =>
    cases h
    exact ⟨ri_zip ri_in0.1 (by rw [ri_in0.2]; exact Nat.le_refl _), ri_w_mem ri_cw0.1, ri_w_mem ri_cw0.2, tyX0_ok, nmX0, rfl, fun d => rfl⟩
  | 1, h =>
    cases h
    exact ⟨ri_zip ri_in1.1 (by rw [ri_in1.2]; exact Nat.le_refl _), ri_w_mem ri_cw1.1, ri_w_mem ri_cw1.2, tyX1_ok, nmX1, rfl, fun d => rfl⟩
  | 2, h =>
    cases h
    exact ⟨ri_zip ri_in2.1 (by rw [ri_in2.2]; exact Nat.le_refl _), ri_w_mem ri_cw2.1, ri_w_mem ri_cw2.2, tyX2_ok, nmX2, rfl, fun d => rfl⟩
  | 3, h =>
    cases h
    exact ⟨ri_zip ri_in3.1 (by rw [ri_in3.2]; exact Nat.le_refl _), ri_w_mem ri_cw3.1, ri_w_mem ri_cw3.2, tyX3_ok, nmX3, rfl, fun d => rfl⟩
  | 4, h =>
    cases h
    exact ⟨ri_zip ri_in4.1 (by rw [ri_in4.2]; exact Nat.le_refl _), ri_w_mem ri_cw4.1, ri_w_mem ri_cw4.2, tyX4_ok, nmX4, rfl, fun d => rfl⟩
  | 5, h =>
    cases h
    exact ⟨ri_zip ri_in5.1 (by rw [ri_in5.2]; exact Nat.le_refl _), ri_w_mem ri_cw5.1, ri_w_mem ri_cw5.2, tyX5_ok, nmX5, rfl, fun d => rfl⟩
  | 6, h =>
    cases h
    exact ⟨ri_zip ri_in6.1 (by rw [ri_in6.2]; exact Nat.le_refl _), ri_w_mem ri_cw6.1, ri_w_mem ri_cw6.2, tyX6_ok, nmX6, rfl, fun d => rfl⟩
  | 7, h =>
    cases h
    exact ⟨ri_zip ri_in7.1 (by rw [ri_in7.2]; exact Nat.le_refl _), ri_w_mem ri_cw7.1, ri_w_mem ri_cw7.2, tyX7_ok, nmX7, rfl, fun d => rfl⟩
  | 8, h =>
    cases h
    exact ⟨ri_zip ri_in8.1 (by rw [ri_in8.2]; exact Nat.le_refl _), ri_w_mem ri_cw8.1, ri_w_mem ri_cw8.2, tyX8_ok, nmX8, rfl, fun d => rfl⟩
  | 9, h =>
    cases h
    exact ⟨ri_zip ri_in9.1 (by rw [ri_in9.2]; exact Nat.le_refl _), ri_w_mem ri_cw9.1, ri_w_mem ri_cw9.2, tyX9_ok, nmX9, rfl, fun d => rfl⟩
  | 10, h =>
    cases h
    exact ⟨ri_zip ri_in10.1 (by rw [ri_in10.2]; exact Nat.le_refl _), ri_w_mem ri_cw10.1, ri_w_mem ri_cw10.2, tyX10_ok, nmX10, rfl, fun d => rfl⟩
  | 11, h =>
    cases h
    exact ⟨ri_zip ri_in11.1 (by rw [ri_in11.2]; exact Nat.le_refl _), ri_w_mem ri_cw11.1, ri_w_mem ri_cw11.2, tyX11_ok, nmX11, rfl, fun d => rfl⟩
  | k + 12, h => cases h
theorem ri_tab : ri_Tab := ⟨ri_mk_all, trivial, trivial, ri_cls_ok, ⟨ri_w_mem ri_obj.1, ri_w_mem ri_obj.2⟩, ri_w_mem ri_min.2.1, ⟨ri_w_mem ri_min.1, ri_w_mem ri_min.2.2⟩, ⟨ri_w_mem ri_max.1, ri_w_mem ri_max.2.2⟩, ⟨ri_w_mem ri_abs.1, ri_w_mem ri_abs.2.2⟩, ⟨ri_w_mem ri_cpy.1, ri_w_mem ri_cpy.2.1, ri_w_mem ri_cpy.2.2⟩, fun w hw => by
  simp only [ri_ac, List.mem_cons, List.not_mem_nil, or_false] at hw
  rcases hw with rfl | rfl | rfl | rfl
  · exact ri_w_mem ri_ac_byte
  · exact ri_w_mem ri_ac_boolean
  · exact ri_w_mem ri_ac_int
  · exact ri_w_mem ri_ac_long⟩
