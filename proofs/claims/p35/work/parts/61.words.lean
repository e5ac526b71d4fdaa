/-! Texts: the words that these calls stand on. -/
theorem rs_Y_coder : rs_Y yJ0_coder_7d493 cJ0_coder_7d493 1 (some .byte) 0 := ⟨(ri_w_mem (i := 546) (by decide +kernel)), (ri_w_mem (i := 176) (by decide +kernel)), by decide +kernel, by decide⟩
theorem rs_Y_length : rs_Y yJ0_length_8abf5 cJ0_length_8abf5 1 (some .int) 0 := ⟨(ri_w_mem (i := 542) (by decide +kernel)), (ri_w_mem (i := 176) (by decide +kernel)), by decide +kernel, by decide⟩
theorem rs_Y_isLatin1 : rs_Y yJ0_isLatin1_aae02 cJ0_isLatin1_aae02 1 (some .boolean) 0 := ⟨(ri_w_mem (i := 556) (by decide +kernel)), (ri_w_mem (i := 176) (by decide +kernel)), by decide +kernel, by decide⟩
theorem rs_Y_charAt : rs_Y yJ0_charAt_5068e cJ0_charAt_5068e 2 (some .char) 1 := ⟨(ri_w_mem (i := 552) (by decide +kernel)), (ri_w_mem (i := 176) (by decide +kernel)), by decide +kernel, by decide⟩
theorem rs_Y_check : rs_Y yJ0_checkIndex_df160 cJ0_checkIndex_df160 2 (none) 2 := ⟨(ri_w_mem (i := 562) (by decide +kernel)), (ri_w_mem (i := 176) (by decide +kernel)), by decide +kernel, by decide⟩
theorem rs_Y_chr1 : rs_Y yJ1_charAt_3b067 cJ1_charAt_3b067 2 (some .char) 2 := ⟨(ri_w_mem (i := 559) (by decide +kernel)), (ri_w_mem (i := 177) (by decide +kernel)), by decide +kernel, by decide⟩
theorem rs_Y_pre : rs_Y yJ3_checkIndex_8e157 cJ3_checkIndex_8e157 3 (some .int) 3 := ⟨(ri_w_mem (i := 567) (by decide +kernel)), (ri_w_mem (i := 178) (by decide +kernel)), by decide +kernel, by decide⟩
theorem rs_w_CS : Cond.fieldLink RJ0 38 RJ0 "COMPACT_STRINGS" "Z" ∈ ri_tb := ri_w_mem (i := 547) (by decide +kernel)
theorem rs_w_val : Cond.fieldLink RJ0 9 RJ0 "value" "[B" ∈ ri_tb := ri_w_mem (i := 1840) (by decide +kernel)
theorem rs_w_cod : Cond.fieldLink RJ0 15 RJ0 "coder" "B" ∈ ri_tb := ri_w_mem (i := 1841) (by decide +kernel)
theorem rs_w_FM : Cond.fieldLink RJ0 1053 RJ3 "SIOOBE_FORMATTER" "Ljava/util/function/BiFunction;" ∈ ri_tb := ri_w_mem (i := 563) (by decide +kernel)
theorem rs_w_l_coder : Cond.methodLink RJ0 335 yJ0_coder_7d493 ∈ ri_tb := ri_w_mem (i := 543) (by decide +kernel)
theorem rs_w_l_isLatin1 : Cond.methodLink RJ0 492 yJ0_isLatin1_aae02 ∈ ri_tb := ri_w_mem (i := 553) (by decide +kernel)
theorem rs_w_l_chr1 : Cond.methodLink RJ0 495 yJ1_charAt_3b067 ∈ ri_tb := ri_w_mem (i := 557) (by decide +kernel)
theorem rs_w_l_check : Cond.methodLink RJ1 9 yJ0_checkIndex_df160 ∈ ri_tb := ri_w_mem (i := 560) (by decide +kernel)
theorem rs_w_l_pre : Cond.methodLink RJ0 1059 yJ3_checkIndex_8e157 ∈ ri_tb := ri_w_mem (i := 565) (by decide +kernel)
theorem rs_w_l_length : Cond.methodLink RX8 27 yJ0_length_8abf5 ∈ ri_tb := ri_w_mem (i := 539) (by decide +kernel)
theorem rs_w_l_charAt : Cond.methodLink RX8 33 yJ0_charAt_5068e ∈ ri_tb := ri_w_mem (i := 549) (by decide +kernel)
theorem rs_w_i_coder : Cond.instanceMethod yJ0_coder_7d493 ∈ ri_tb := ri_w_mem (i := 544) (by decide +kernel)
theorem rs_w_s_coder : Cond.selects yJ0_coder_7d493.cls yJ0_coder_7d493 yJ0_coder_7d493 ∈ ri_tb := ri_w_mem (i := 545) (by decide +kernel)
theorem rs_w_i_isLatin1 : Cond.instanceMethod yJ0_isLatin1_aae02 ∈ ri_tb := ri_w_mem (i := 554) (by decide +kernel)
theorem rs_w_s_isLatin1 : Cond.selects yJ0_isLatin1_aae02.cls yJ0_isLatin1_aae02 yJ0_isLatin1_aae02 ∈ ri_tb := ri_w_mem (i := 555) (by decide +kernel)
theorem rs_w_i_length : Cond.instanceMethod yJ0_length_8abf5 ∈ ri_tb := ri_w_mem (i := 540) (by decide +kernel)
theorem rs_w_s_length : Cond.selects yJ0_length_8abf5.cls yJ0_length_8abf5 yJ0_length_8abf5 ∈ ri_tb := ri_w_mem (i := 541) (by decide +kernel)
theorem rs_w_i_charAt : Cond.instanceMethod yJ0_charAt_5068e ∈ ri_tb := ri_w_mem (i := 550) (by decide +kernel)
theorem rs_w_s_charAt : Cond.selects yJ0_charAt_5068e.cls yJ0_charAt_5068e yJ0_charAt_5068e ∈ ri_tb := ri_w_mem (i := 551) (by decide +kernel)
theorem rs_w_t_check : Cond.static yJ0_checkIndex_df160 ∈ ri_tb := ri_w_mem (i := 561) (by decide +kernel)
theorem rs_w_t_chr1 : Cond.static yJ1_charAt_3b067 ∈ ri_tb := ri_w_mem (i := 558) (by decide +kernel)
theorem rs_w_t_pre : Cond.static yJ3_checkIndex_8e157 ∈ ri_tb := ri_w_mem (i := 566) (by decide +kernel)
