/-- a private method of a class that the tables say can be made, by its rows of tables_1 -/
noncomputable def lw_okq (q : MethodName × Nat) : Prop := (q.1.cls ≠ "java/lang/invoke/MethodHandle" ∧ q.1.cls ≠ "java/lang/invoke/VarHandle") ∧ Cond.instantiable q.1.cls q.2 ∈ tables_1 ∧ Cond.privateMethod q.1 ∈ tables_1 ∧ Cond.instanceMethod q.1 ∈ tables_1
theorem lw_tt1 {w : Jvm.Cond} (h : w ∈ tables_1_1) : w ∈ tables_1 := List.mem_append_left _ h
theorem lw_tt2 {w : Jvm.Cond} (h : w ∈ tables_1_2) : w ∈ tables_1 := List.mem_append_right _ (List.mem_append_left _ h)
theorem lw_tt3 {w : Jvm.Cond} (h : w ∈ tables_1_3) : w ∈ tables_1 := List.mem_append_right _ (List.mem_append_right _ (List.mem_append_left _ h))
theorem lw_tt4 {w : Jvm.Cond} (h : w ∈ tables_1_4) : w ∈ tables_1 := List.mem_append_right _ (List.mem_append_right _ (List.mem_append_right _ (List.mem_append_left _ h)))
theorem lw_tt5 {w : Jvm.Cond} (h : w ∈ tables_1_5) : w ∈ tables_1 := List.mem_append_right _ (List.mem_append_right _ (List.mem_append_right _ (List.mem_append_right _ (List.mem_append_left _ h))))
theorem lw_tt6 {w : Jvm.Cond} (h : w ∈ tables_1_6) : w ∈ tables_1 := List.mem_append_right _ (List.mem_append_right _ (List.mem_append_right _ (List.mem_append_right _ (List.mem_append_right _ (List.mem_append_left _ h)))))
theorem lw_tt7 {w : Jvm.Cond} (h : w ∈ tables_1_7) : w ∈ tables_1 := List.mem_append_right _ (List.mem_append_right _ (List.mem_append_right _ (List.mem_append_right _ (List.mem_append_right _ (List.mem_append_right _ (h))))))
theorem lw_cl0 : ("WarmerColder$Tape" : String) ≠ "java/lang/invoke/MethodHandle" ∧ ("WarmerColder$Tape" : String) ≠ "java/lang/invoke/VarHandle" := ⟨by decide +kernel, by decide +kernel⟩
theorem lw_cl1 : ("WarmerColder$Text" : String) ≠ "java/lang/invoke/MethodHandle" ∧ ("WarmerColder$Text" : String) ≠ "java/lang/invoke/VarHandle" := ⟨by decide +kernel, by decide +kernel⟩
theorem lw_cl2 : ("WarmerColder$CourtReader" : String) ≠ "java/lang/invoke/MethodHandle" ∧ ("WarmerColder$CourtReader" : String) ≠ "java/lang/invoke/VarHandle" := ⟨by decide +kernel, by decide +kernel⟩
theorem lw_cl3 : ("WarmerColder$Court" : String) ≠ "java/lang/invoke/MethodHandle" ∧ ("WarmerColder$Court" : String) ≠ "java/lang/invoke/VarHandle" := ⟨by decide +kernel, by decide +kernel⟩
theorem lw_cl4 : ("WarmerColder$Hearing" : String) ≠ "java/lang/invoke/MethodHandle" ∧ ("WarmerColder$Hearing" : String) ≠ "java/lang/invoke/VarHandle" := ⟨by decide +kernel, by decide +kernel⟩
theorem lw_cl5 : ("WarmerColder" : String) ≠ "java/lang/invoke/MethodHandle" ∧ ("WarmerColder" : String) ≠ "java/lang/invoke/VarHandle" := ⟨by decide +kernel, by decide +kernel⟩
theorem lw_cl6 : ("WarmerColder$Pairs" : String) ≠ "java/lang/invoke/MethodHandle" ∧ ("WarmerColder$Pairs" : String) ≠ "java/lang/invoke/VarHandle" := ⟨by decide +kernel, by decide +kernel⟩
theorem lw_cl7 : ("WarmerColder$LawReader" : String) ≠ "java/lang/invoke/MethodHandle" ∧ ("WarmerColder$LawReader" : String) ≠ "java/lang/invoke/VarHandle" := ⟨by decide +kernel, by decide +kernel⟩
theorem lw_cl8 : ("WarmerColder$Law" : String) ≠ "java/lang/invoke/MethodHandle" ∧ ("WarmerColder$Law" : String) ≠ "java/lang/invoke/VarHandle" := ⟨by decide +kernel, by decide +kernel⟩
theorem lw_cl9 : ("WarmerColder$Tally" : String) ≠ "java/lang/invoke/MethodHandle" ∧ ("WarmerColder$Tally" : String) ≠ "java/lang/invoke/VarHandle" := ⟨by decide +kernel, by decide +kernel⟩
theorem lw_cl10 : ("WarmerColder$Singling" : String) ≠ "java/lang/invoke/MethodHandle" ∧ ("WarmerColder$Singling" : String) ≠ "java/lang/invoke/VarHandle" := ⟨by decide +kernel, by decide +kernel⟩
theorem lw_cl11 : ("WarmerColderModel" : String) ≠ "java/lang/invoke/MethodHandle" ∧ ("WarmerColderModel" : String) ≠ "java/lang/invoke/VarHandle" := ⟨by decide +kernel, by decide +kernel⟩
theorem lw_p0 : lw_okq (⟨"WarmerColder$Tape", "putNumber", "(I)V"⟩, 2) := ⟨lw_cl0, lw_tt1 (List.mem_of_getElem? (i := 29) (by eq_refl)), lw_tt2 (List.mem_of_getElem? (i := 94) (by eq_refl)), lw_tt2 (List.mem_of_getElem? (i := 95) (by eq_refl))⟩
theorem lw_p1 : lw_okq (⟨"WarmerColder$Text", "cut", "(LWarmerColder$Tape;)V"⟩, 6) := ⟨lw_cl1, lw_tt1 (List.mem_of_getElem? (i := 45) (by eq_refl)), lw_tt2 (List.mem_of_getElem? (i := 109) (by eq_refl)), lw_tt2 (List.mem_of_getElem? (i := 110) (by eq_refl))⟩
theorem lw_p2 : lw_okq (⟨"WarmerColder$Text", "cutOne", "(LWarmerColder$Tape;I)I"⟩, 6) := ⟨lw_cl1, lw_tt1 (List.mem_of_getElem? (i := 45) (by eq_refl)), lw_tt2 (List.mem_of_getElem? (i := 113) (by eq_refl)), lw_tt2 (List.mem_of_getElem? (i := 114) (by eq_refl))⟩
theorem lw_p3 : lw_okq (⟨"WarmerColder$Tape", "byteAt", "(I)I"⟩, 2) := ⟨lw_cl0, lw_tt1 (List.mem_of_getElem? (i := 29) (by eq_refl)), lw_tt2 (List.mem_of_getElem? (i := 117) (by eq_refl)), lw_tt2 (List.mem_of_getElem? (i := 118) (by eq_refl))⟩
theorem lw_p4 : lw_okq (⟨"WarmerColder$Tape", "isBetween", "(ICC)Z"⟩, 2) := ⟨lw_cl0, lw_tt1 (List.mem_of_getElem? (i := 29) (by eq_refl)), lw_tt2 (List.mem_of_getElem? (i := 121) (by eq_refl)), lw_tt2 (List.mem_of_getElem? (i := 122) (by eq_refl))⟩
theorem lw_p5 : lw_okq (⟨"WarmerColder$Tape", "spells", "(IILjava/lang/String;)Z"⟩, 2) := ⟨lw_cl0, lw_tt1 (List.mem_of_getElem? (i := 29) (by eq_refl)), lw_tt2 (List.mem_of_getElem? (i := 133) (by eq_refl)), lw_tt2 (List.mem_of_getElem? (i := 134) (by eq_refl))⟩
theorem lw_p6 : lw_okq (⟨"WarmerColder$Text", "put", "(III)V"⟩, 6) := ⟨lw_cl1, lw_tt1 (List.mem_of_getElem? (i := 45) (by eq_refl)), lw_tt2 (List.mem_of_getElem? (i := 203) (by eq_refl)), lw_tt2 (List.mem_of_getElem? (i := 204) (by eq_refl))⟩
theorem lw_p7 : lw_okq (⟨"WarmerColder$CourtReader", "read", "(LWarmerColder$Text;LWarmerColder$Court;)V"⟩, 1) := ⟨lw_cl2, lw_tt1 (List.mem_of_getElem? (i := 72) (by eq_refl)), lw_tt2 (List.mem_of_getElem? (i := 214) (by eq_refl)), lw_tt2 (List.mem_of_getElem? (i := 215) (by eq_refl))⟩
theorem lw_p8 : lw_okq (⟨"WarmerColder$Court", "clear", "()V"⟩, 3) := ⟨lw_cl3, lw_tt1 (List.mem_of_getElem? (i := 92) (by eq_refl)), lw_tt2 (List.mem_of_getElem? (i := 218) (by eq_refl)), lw_tt2 (List.mem_of_getElem? (i := 219) (by eq_refl))⟩
theorem lw_p9 : lw_okq (⟨"WarmerColder$CourtReader", "readClause", "(LWarmerColder$Text;LWarmerColder$Court;)V"⟩, 1) := ⟨lw_cl2, lw_tt1 (List.mem_of_getElem? (i := 72) (by eq_refl)), lw_tt2 (List.mem_of_getElem? (i := 222) (by eq_refl)), lw_tt2 (List.mem_of_getElem? (i := 223) (by eq_refl))⟩
theorem lw_p10 : lw_okq (⟨"WarmerColder$Text", "sign", "()I"⟩, 6) := ⟨lw_cl1, lw_tt1 (List.mem_of_getElem? (i := 45) (by eq_refl)), lw_tt2 (List.mem_of_getElem? (i := 226) (by eq_refl)), lw_tt2 (List.mem_of_getElem? (i := 227) (by eq_refl))⟩
theorem lw_p11 : lw_okq (⟨"WarmerColder$Text", "fail", "(I)V"⟩, 6) := ⟨lw_cl1, lw_tt1 (List.mem_of_getElem? (i := 45) (by eq_refl)), lw_tt2 (List.mem_of_getElem? (i := 236) (by eq_refl)), lw_tt2 (List.mem_of_getElem? (i := 237) (by eq_refl))⟩
theorem lw_p12 : lw_okq (⟨"WarmerColder$Court", "manyOf", "(I)I"⟩, 3) := ⟨lw_cl3, lw_tt1 (List.mem_of_getElem? (i := 92) (by eq_refl)), lw_tt3 (List.mem_of_getElem? (i := 0) (by eq_refl)), lw_tt3 (List.mem_of_getElem? (i := 1) (by eq_refl))⟩
theorem lw_p13 : lw_okq (⟨"WarmerColder$Text", "skip", "()V"⟩, 6) := ⟨lw_cl1, lw_tt1 (List.mem_of_getElem? (i := 45) (by eq_refl)), lw_tt3 (List.mem_of_getElem? (i := 5) (by eq_refl)), lw_tt3 (List.mem_of_getElem? (i := 6) (by eq_refl))⟩
theorem lw_p14 : lw_okq (⟨"WarmerColder$Text", "takeNumber", "(II)I"⟩, 6) := ⟨lw_cl1, lw_tt1 (List.mem_of_getElem? (i := 45) (by eq_refl)), lw_tt3 (List.mem_of_getElem? (i := 9) (by eq_refl)), lw_tt3 (List.mem_of_getElem? (i := 10) (by eq_refl))⟩
theorem lw_p15 : lw_okq (⟨"WarmerColder$Court", "setHours", "(I)V"⟩, 3) := ⟨lw_cl3, lw_tt1 (List.mem_of_getElem? (i := 92) (by eq_refl)), lw_tt3 (List.mem_of_getElem? (i := 15) (by eq_refl)), lw_tt3 (List.mem_of_getElem? (i := 16) (by eq_refl))⟩
noncomputable def lw_privs_1 : List (MethodName × Nat) := [(⟨"WarmerColder$Tape", "putNumber", "(I)V"⟩, 2), (⟨"WarmerColder$Text", "cut", "(LWarmerColder$Tape;)V"⟩, 6), (⟨"WarmerColder$Text", "cutOne", "(LWarmerColder$Tape;I)I"⟩, 6), (⟨"WarmerColder$Tape", "byteAt", "(I)I"⟩, 2), (⟨"WarmerColder$Tape", "isBetween", "(ICC)Z"⟩, 2), (⟨"WarmerColder$Tape", "spells", "(IILjava/lang/String;)Z"⟩, 2), (⟨"WarmerColder$Text", "put", "(III)V"⟩, 6), (⟨"WarmerColder$CourtReader", "read", "(LWarmerColder$Text;LWarmerColder$Court;)V"⟩, 1), (⟨"WarmerColder$Court", "clear", "()V"⟩, 3), (⟨"WarmerColder$CourtReader", "readClause", "(LWarmerColder$Text;LWarmerColder$Court;)V"⟩, 1), (⟨"WarmerColder$Text", "sign", "()I"⟩, 6), (⟨"WarmerColder$Text", "fail", "(I)V"⟩, 6), (⟨"WarmerColder$Court", "manyOf", "(I)I"⟩, 3), (⟨"WarmerColder$Text", "skip", "()V"⟩, 6), (⟨"WarmerColder$Text", "takeNumber", "(II)I"⟩, 6), (⟨"WarmerColder$Court", "setHours", "(I)V"⟩, 3)]
theorem lw_r1 : ∀ q ∈ lw_privs_1, lw_okq q := List.forall_mem_cons.mpr ⟨lw_p0, List.forall_mem_cons.mpr ⟨lw_p1, List.forall_mem_cons.mpr ⟨lw_p2, List.forall_mem_cons.mpr ⟨lw_p3, List.forall_mem_cons.mpr ⟨lw_p4, List.forall_mem_cons.mpr ⟨lw_p5, List.forall_mem_cons.mpr ⟨lw_p6, List.forall_mem_cons.mpr ⟨lw_p7, List.forall_mem_cons.mpr ⟨lw_p8, List.forall_mem_cons.mpr ⟨lw_p9, List.forall_mem_cons.mpr ⟨lw_p10, List.forall_mem_cons.mpr ⟨lw_p11, List.forall_mem_cons.mpr ⟨lw_p12, List.forall_mem_cons.mpr ⟨lw_p13, List.forall_mem_cons.mpr ⟨lw_p14, List.forall_mem_cons.mpr ⟨lw_p15, fun _ h => absurd h List.not_mem_nil⟩⟩⟩⟩⟩⟩⟩⟩⟩⟩⟩⟩⟩⟩⟩⟩
theorem lw_p16 : lw_okq (⟨"WarmerColder$Court", "add", "(III)V"⟩, 3) := ⟨lw_cl3, lw_tt1 (List.mem_of_getElem? (i := 92) (by eq_refl)), lw_tt3 (List.mem_of_getElem? (i := 20) (by eq_refl)), lw_tt3 (List.mem_of_getElem? (i := 21) (by eq_refl))⟩
theorem lw_p17 : lw_okq (⟨"WarmerColder$Text", "take", "(I)Z"⟩, 6) := ⟨lw_cl1, lw_tt1 (List.mem_of_getElem? (i := 45) (by eq_refl)), lw_tt3 (List.mem_of_getElem? (i := 31) (by eq_refl)), lw_tt3 (List.mem_of_getElem? (i := 32) (by eq_refl))⟩
theorem lw_p18 : lw_okq (⟨"WarmerColder$Court", "isTold", "()Z"⟩, 3) := ⟨lw_cl3, lw_tt1 (List.mem_of_getElem? (i := 92) (by eq_refl)), lw_tt3 (List.mem_of_getElem? (i := 35) (by eq_refl)), lw_tt3 (List.mem_of_getElem? (i := 36) (by eq_refl))⟩
theorem lw_p19 : lw_okq (⟨"WarmerColder$Hearing", "open", "(LWarmerColder$Court;)V"⟩, 12) := ⟨lw_cl4, lw_tt1 (List.mem_of_getElem? (i := 110) (by eq_refl)), lw_tt3 (List.mem_of_getElem? (i := 39) (by eq_refl)), lw_tt3 (List.mem_of_getElem? (i := 40) (by eq_refl))⟩
theorem lw_p20 : lw_okq (⟨"WarmerColder$Court", "becomes", "(LWarmerColder$Court;)V"⟩, 3) := ⟨lw_cl3, lw_tt1 (List.mem_of_getElem? (i := 92) (by eq_refl)), lw_tt3 (List.mem_of_getElem? (i := 43) (by eq_refl)), lw_tt3 (List.mem_of_getElem? (i := 44) (by eq_refl))⟩
theorem lw_p21 : lw_okq (⟨"WarmerColder", "courtIsAnother", "()V"⟩, 18) := ⟨lw_cl5, lw_tt1 (List.mem_of_getElem? (i := 21) (by eq_refl)), lw_tt3 (List.mem_of_getElem? (i := 50) (by eq_refl)), lw_tt3 (List.mem_of_getElem? (i := 51) (by eq_refl))⟩
theorem lw_p22 : lw_okq (⟨"WarmerColder$Pairs", "fill", "(LWarmerColder$Court;)V"⟩, 4) := ⟨lw_cl6, lw_tt1 (List.mem_of_getElem? (i := 168) (by eq_refl)), lw_tt3 (List.mem_of_getElem? (i := 54) (by eq_refl)), lw_tt3 (List.mem_of_getElem? (i := 55) (by eq_refl))⟩
theorem lw_p23 : lw_okq (⟨"WarmerColder$Pairs", "add", "(III)V"⟩, 4) := ⟨lw_cl6, lw_tt1 (List.mem_of_getElem? (i := 168) (by eq_refl)), lw_tt3 (List.mem_of_getElem? (i := 59) (by eq_refl)), lw_tt3 (List.mem_of_getElem? (i := 60) (by eq_refl))⟩
theorem lw_p24 : lw_okq (⟨"WarmerColder$Court", "worlds", "()I"⟩, 3) := ⟨lw_cl3, lw_tt1 (List.mem_of_getElem? (i := 92) (by eq_refl)), lw_tt3 (List.mem_of_getElem? (i := 64) (by eq_refl)), lw_tt3 (List.mem_of_getElem? (i := 65) (by eq_refl))⟩
theorem lw_p25 : lw_okq (⟨"WarmerColder$LawReader", "read", "(LWarmerColder$Text;LWarmerColder$Law;)V"⟩, 1) := ⟨lw_cl7, lw_tt1 (List.mem_of_getElem? (i := 82) (by eq_refl)), lw_tt3 (List.mem_of_getElem? (i := 72) (by eq_refl)), lw_tt3 (List.mem_of_getElem? (i := 73) (by eq_refl))⟩
theorem lw_p26 : lw_okq (⟨"WarmerColder$Law", "clear", "()V"⟩, 13) := ⟨lw_cl8, lw_tt1 (List.mem_of_getElem? (i := 225) (by eq_refl)), lw_tt3 (List.mem_of_getElem? (i := 76) (by eq_refl)), lw_tt3 (List.mem_of_getElem? (i := 77) (by eq_refl))⟩
theorem lw_p27 : lw_okq (⟨"WarmerColder$LawReader", "readSum", "(LWarmerColder$Text;LWarmerColder$Law;)V"⟩, 1) := ⟨lw_cl7, lw_tt1 (List.mem_of_getElem? (i := 82) (by eq_refl)), lw_tt3 (List.mem_of_getElem? (i := 86) (by eq_refl)), lw_tt3 (List.mem_of_getElem? (i := 87) (by eq_refl))⟩
theorem lw_p28 : lw_okq (⟨"WarmerColder$LawReader", "readValue", "(LWarmerColder$Text;LWarmerColder$Law;)V"⟩, 1) := ⟨lw_cl7, lw_tt1 (List.mem_of_getElem? (i := 82) (by eq_refl)), lw_tt3 (List.mem_of_getElem? (i := 90) (by eq_refl)), lw_tt3 (List.mem_of_getElem? (i := 91) (by eq_refl))⟩
theorem lw_p29 : lw_okq (⟨"WarmerColder$Text", "number", "()I"⟩, 6) := ⟨lw_cl1, lw_tt1 (List.mem_of_getElem? (i := 45) (by eq_refl)), lw_tt3 (List.mem_of_getElem? (i := 94) (by eq_refl)), lw_tt3 (List.mem_of_getElem? (i := 95) (by eq_refl))⟩
theorem lw_p30 : lw_okq (⟨"WarmerColder$Law", "put", "(I)V"⟩, 13) := ⟨lw_cl8, lw_tt1 (List.mem_of_getElem? (i := 225) (by eq_refl)), lw_tt3 (List.mem_of_getElem? (i := 100) (by eq_refl)), lw_tt3 (List.mem_of_getElem? (i := 101) (by eq_refl))⟩
theorem lw_p31 : lw_okq (⟨"WarmerColder$LawReader", "readTest", "(LWarmerColder$Text;LWarmerColder$Law;I)V"⟩, 1) := ⟨lw_cl7, lw_tt1 (List.mem_of_getElem? (i := 82) (by eq_refl)), lw_tt3 (List.mem_of_getElem? (i := 105) (by eq_refl)), lw_tt3 (List.mem_of_getElem? (i := 106) (by eq_refl))⟩
noncomputable def lw_privs_2 : List (MethodName × Nat) := [(⟨"WarmerColder$Court", "add", "(III)V"⟩, 3), (⟨"WarmerColder$Text", "take", "(I)Z"⟩, 6), (⟨"WarmerColder$Court", "isTold", "()Z"⟩, 3), (⟨"WarmerColder$Hearing", "open", "(LWarmerColder$Court;)V"⟩, 12), (⟨"WarmerColder$Court", "becomes", "(LWarmerColder$Court;)V"⟩, 3), (⟨"WarmerColder", "courtIsAnother", "()V"⟩, 18), (⟨"WarmerColder$Pairs", "fill", "(LWarmerColder$Court;)V"⟩, 4), (⟨"WarmerColder$Pairs", "add", "(III)V"⟩, 4), (⟨"WarmerColder$Court", "worlds", "()I"⟩, 3), (⟨"WarmerColder$LawReader", "read", "(LWarmerColder$Text;LWarmerColder$Law;)V"⟩, 1), (⟨"WarmerColder$Law", "clear", "()V"⟩, 13), (⟨"WarmerColder$LawReader", "readSum", "(LWarmerColder$Text;LWarmerColder$Law;)V"⟩, 1), (⟨"WarmerColder$LawReader", "readValue", "(LWarmerColder$Text;LWarmerColder$Law;)V"⟩, 1), (⟨"WarmerColder$Text", "number", "()I"⟩, 6), (⟨"WarmerColder$Law", "put", "(I)V"⟩, 13), (⟨"WarmerColder$LawReader", "readTest", "(LWarmerColder$Text;LWarmerColder$Law;I)V"⟩, 1)]
theorem lw_r2 : ∀ q ∈ lw_privs_2, lw_okq q := List.forall_mem_cons.mpr ⟨lw_p16, List.forall_mem_cons.mpr ⟨lw_p17, List.forall_mem_cons.mpr ⟨lw_p18, List.forall_mem_cons.mpr ⟨lw_p19, List.forall_mem_cons.mpr ⟨lw_p20, List.forall_mem_cons.mpr ⟨lw_p21, List.forall_mem_cons.mpr ⟨lw_p22, List.forall_mem_cons.mpr ⟨lw_p23, List.forall_mem_cons.mpr ⟨lw_p24, List.forall_mem_cons.mpr ⟨lw_p25, List.forall_mem_cons.mpr ⟨lw_p26, List.forall_mem_cons.mpr ⟨lw_p27, List.forall_mem_cons.mpr ⟨lw_p28, List.forall_mem_cons.mpr ⟨lw_p29, List.forall_mem_cons.mpr ⟨lw_p30, List.forall_mem_cons.mpr ⟨lw_p31, fun _ h => absurd h List.not_mem_nil⟩⟩⟩⟩⟩⟩⟩⟩⟩⟩⟩⟩⟩⟩⟩⟩
theorem lw_p32 : lw_okq (⟨"WarmerColder$LawReader", "readFact", "(LWarmerColder$Text;LWarmerColder$Law;I)V"⟩, 1) := ⟨lw_cl7, lw_tt1 (List.mem_of_getElem? (i := 82) (by eq_refl)), lw_tt3 (List.mem_of_getElem? (i := 109) (by eq_refl)), lw_tt3 (List.mem_of_getElem? (i := 110) (by eq_refl))⟩
theorem lw_p33 : lw_okq (⟨"WarmerColder$Law", "addClause", "(III)V"⟩, 13) := ⟨lw_cl8, lw_tt1 (List.mem_of_getElem? (i := 225) (by eq_refl)), lw_tt3 (List.mem_of_getElem? (i := 113) (by eq_refl)), lw_tt3 (List.mem_of_getElem? (i := 114) (by eq_refl))⟩
theorem lw_p34 : lw_okq (⟨"WarmerColder$Court", "has", "(II)Z"⟩, 3) := ⟨lw_cl3, lw_tt1 (List.mem_of_getElem? (i := 92) (by eq_refl)), lw_tt3 (List.mem_of_getElem? (i := 125) (by eq_refl)), lw_tt3 (List.mem_of_getElem? (i := 126) (by eq_refl))⟩
theorem lw_p35 : lw_okq (⟨"WarmerColder$Court", "firstOf", "(II)I"⟩, 3) := ⟨lw_cl3, lw_tt1 (List.mem_of_getElem? (i := 92) (by eq_refl)), lw_tt3 (List.mem_of_getElem? (i := 129) (by eq_refl)), lw_tt3 (List.mem_of_getElem? (i := 130) (by eq_refl))⟩
theorem lw_p36 : lw_okq (⟨"WarmerColder$Court", "secondOf", "(II)I"⟩, 3) := ⟨lw_cl3, lw_tt1 (List.mem_of_getElem? (i := 92) (by eq_refl)), lw_tt3 (List.mem_of_getElem? (i := 133) (by eq_refl)), lw_tt3 (List.mem_of_getElem? (i := 134) (by eq_refl))⟩
theorem lw_p37 : lw_okq (⟨"WarmerColder", "lawInUse", "(I)LWarmerColder$Law;"⟩, 18) := ⟨lw_cl5, lw_tt1 (List.mem_of_getElem? (i := 21) (by eq_refl)), lw_tt3 (List.mem_of_getElem? (i := 141) (by eq_refl)), lw_tt3 (List.mem_of_getElem? (i := 142) (by eq_refl))⟩
theorem lw_p38 : lw_okq (⟨"WarmerColder$Law", "measure", "(LWarmerColder$Court;)V"⟩, 13) := ⟨lw_cl8, lw_tt1 (List.mem_of_getElem? (i := 225) (by eq_refl)), lw_tt3 (List.mem_of_getElem? (i := 145) (by eq_refl)), lw_tt3 (List.mem_of_getElem? (i := 146) (by eq_refl))⟩
theorem lw_p39 : lw_okq (⟨"WarmerColder$Law", "measureFar", "(LWarmerColder$Court;I)V"⟩, 13) := ⟨lw_cl8, lw_tt1 (List.mem_of_getElem? (i := 225) (by eq_refl)), lw_tt3 (List.mem_of_getElem? (i := 149) (by eq_refl)), lw_tt3 (List.mem_of_getElem? (i := 150) (by eq_refl))⟩
theorem lw_p40 : lw_okq (⟨"WarmerColder$Law", "setWords", "(LWarmerColder$Court;III)V"⟩, 13) := ⟨lw_cl8, lw_tt1 (List.mem_of_getElem? (i := 225) (by eq_refl)), lw_tt3 (List.mem_of_getElem? (i := 154) (by eq_refl)), lw_tt3 (List.mem_of_getElem? (i := 155) (by eq_refl))⟩
theorem lw_p41 : lw_okq (⟨"WarmerColder$Law", "setWord", "(II)V"⟩, 13) := ⟨lw_cl8, lw_tt1 (List.mem_of_getElem? (i := 225) (by eq_refl)), lw_tt3 (List.mem_of_getElem? (i := 163) (by eq_refl)), lw_tt3 (List.mem_of_getElem? (i := 164) (by eq_refl))⟩
theorem lw_p42 : lw_okq (⟨"WarmerColder$Law", "farByClauses", "(I)J"⟩, 13) := ⟨lw_cl8, lw_tt1 (List.mem_of_getElem? (i := 225) (by eq_refl)), lw_tt3 (List.mem_of_getElem? (i := 171) (by eq_refl)), lw_tt3 (List.mem_of_getElem? (i := 172) (by eq_refl))⟩
theorem lw_p43 : lw_okq (⟨"WarmerColder$Law", "run", "(II)J"⟩, 13) := ⟨lw_cl8, lw_tt1 (List.mem_of_getElem? (i := 225) (by eq_refl)), lw_tt3 (List.mem_of_getElem? (i := 175) (by eq_refl)), lw_tt3 (List.mem_of_getElem? (i := 176) (by eq_refl))⟩
theorem lw_p44 : lw_okq (⟨"WarmerColder$Law", "push", "(J)V"⟩, 13) := ⟨lw_cl8, lw_tt1 (List.mem_of_getElem? (i := 225) (by eq_refl)), lw_tt3 (List.mem_of_getElem? (i := 180) (by eq_refl)), lw_tt3 (List.mem_of_getElem? (i := 181) (by eq_refl))⟩
theorem lw_p45 : lw_okq (⟨"WarmerColder$Law", "wordOf", "(I)J"⟩, 13) := ⟨lw_cl8, lw_tt1 (List.mem_of_getElem? (i := 225) (by eq_refl)), lw_tt3 (List.mem_of_getElem? (i := 184) (by eq_refl)), lw_tt3 (List.mem_of_getElem? (i := 185) (by eq_refl))⟩
theorem lw_p46 : lw_okq (⟨"WarmerColder$Law", "pop", "()J"⟩, 13) := ⟨lw_cl8, lw_tt1 (List.mem_of_getElem? (i := 225) (by eq_refl)), lw_tt3 (List.mem_of_getElem? (i := 188) (by eq_refl)), lw_tt3 (List.mem_of_getElem? (i := 189) (by eq_refl))⟩
theorem lw_p47 : lw_okq (⟨"WarmerColder$Law", "measureNear", "(LWarmerColder$Court;I)V"⟩, 13) := ⟨lw_cl8, lw_tt1 (List.mem_of_getElem? (i := 225) (by eq_refl)), lw_tt3 (List.mem_of_getElem? (i := 195) (by eq_refl)), lw_tt3 (List.mem_of_getElem? (i := 196) (by eq_refl))⟩
noncomputable def lw_privs_3 : List (MethodName × Nat) := [(⟨"WarmerColder$LawReader", "readFact", "(LWarmerColder$Text;LWarmerColder$Law;I)V"⟩, 1), (⟨"WarmerColder$Law", "addClause", "(III)V"⟩, 13), (⟨"WarmerColder$Court", "has", "(II)Z"⟩, 3), (⟨"WarmerColder$Court", "firstOf", "(II)I"⟩, 3), (⟨"WarmerColder$Court", "secondOf", "(II)I"⟩, 3), (⟨"WarmerColder", "lawInUse", "(I)LWarmerColder$Law;"⟩, 18), (⟨"WarmerColder$Law", "measure", "(LWarmerColder$Court;)V"⟩, 13), (⟨"WarmerColder$Law", "measureFar", "(LWarmerColder$Court;I)V"⟩, 13), (⟨"WarmerColder$Law", "setWords", "(LWarmerColder$Court;III)V"⟩, 13), (⟨"WarmerColder$Law", "setWord", "(II)V"⟩, 13), (⟨"WarmerColder$Law", "farByClauses", "(I)J"⟩, 13), (⟨"WarmerColder$Law", "run", "(II)J"⟩, 13), (⟨"WarmerColder$Law", "push", "(J)V"⟩, 13), (⟨"WarmerColder$Law", "wordOf", "(I)J"⟩, 13), (⟨"WarmerColder$Law", "pop", "()J"⟩, 13), (⟨"WarmerColder$Law", "measureNear", "(LWarmerColder$Court;I)V"⟩, 13)]
theorem lw_r3 : ∀ q ∈ lw_privs_3, lw_okq q := List.forall_mem_cons.mpr ⟨lw_p32, List.forall_mem_cons.mpr ⟨lw_p33, List.forall_mem_cons.mpr ⟨lw_p34, List.forall_mem_cons.mpr ⟨lw_p35, List.forall_mem_cons.mpr ⟨lw_p36, List.forall_mem_cons.mpr ⟨lw_p37, List.forall_mem_cons.mpr ⟨lw_p38, List.forall_mem_cons.mpr ⟨lw_p39, List.forall_mem_cons.mpr ⟨lw_p40, List.forall_mem_cons.mpr ⟨lw_p41, List.forall_mem_cons.mpr ⟨lw_p42, List.forall_mem_cons.mpr ⟨lw_p43, List.forall_mem_cons.mpr ⟨lw_p44, List.forall_mem_cons.mpr ⟨lw_p45, List.forall_mem_cons.mpr ⟨lw_p46, List.forall_mem_cons.mpr ⟨lw_p47, fun _ h => absurd h List.not_mem_nil⟩⟩⟩⟩⟩⟩⟩⟩⟩⟩⟩⟩⟩⟩⟩⟩
theorem lw_p48 : lw_okq (⟨"WarmerColder$Law", "farOf", "(III)J"⟩, 13) := ⟨lw_cl8, lw_tt1 (List.mem_of_getElem? (i := 225) (by eq_refl)), lw_tt3 (List.mem_of_getElem? (i := 199) (by eq_refl)), lw_tt3 (List.mem_of_getElem? (i := 200) (by eq_refl))⟩
theorem lw_p49 : lw_okq (⟨"WarmerColder$Hearing", "mayStillGive", "(I)I"⟩, 12) := ⟨lw_cl4, lw_tt1 (List.mem_of_getElem? (i := 110) (by eq_refl)), lw_tt3 (List.mem_of_getElem? (i := 210) (by eq_refl)), lw_tt3 (List.mem_of_getElem? (i := 211) (by eq_refl))⟩
theorem lw_p50 : lw_okq (⟨"WarmerColder$Hearing", "takeDown", "(IIII)I"⟩, 12) := ⟨lw_cl4, lw_tt1 (List.mem_of_getElem? (i := 110) (by eq_refl)), lw_tt3 (List.mem_of_getElem? (i := 218) (by eq_refl)), lw_tt3 (List.mem_of_getElem? (i := 219) (by eq_refl))⟩
theorem lw_p51 : lw_okq (⟨"WarmerColder$Hearing", "hasAnswer", "(I)Z"⟩, 12) := ⟨lw_cl4, lw_tt1 (List.mem_of_getElem? (i := 110) (by eq_refl)), lw_tt3 (List.mem_of_getElem? (i := 227) (by eq_refl)), lw_tt3 (List.mem_of_getElem? (i := 228) (by eq_refl))⟩
theorem lw_p52 : lw_okq (⟨"WarmerColder$Hearing", "isStruck", "(I)Z"⟩, 12) := ⟨lw_cl4, lw_tt1 (List.mem_of_getElem? (i := 110) (by eq_refl)), lw_tt3 (List.mem_of_getElem? (i := 232) (by eq_refl)), lw_tt3 (List.mem_of_getElem? (i := 233) (by eq_refl))⟩
theorem lw_p53 : lw_okq (⟨"WarmerColder$Hearing", "setStruck", "(IZ)V"⟩, 12) := ⟨lw_cl4, lw_tt1 (List.mem_of_getElem? (i := 110) (by eq_refl)), lw_tt4 (List.mem_of_getElem? (i := 0) (by eq_refl)), lw_tt4 (List.mem_of_getElem? (i := 1) (by eq_refl))⟩
theorem lw_p54 : lw_okq (⟨"WarmerColder", "isTrue", "(LWarmerColder$Law;II)Z"⟩, 18) := ⟨lw_cl5, lw_tt1 (List.mem_of_getElem? (i := 21) (by eq_refl)), lw_tt4 (List.mem_of_getElem? (i := 16) (by eq_refl)), lw_tt4 (List.mem_of_getElem? (i := 17) (by eq_refl))⟩
theorem lw_p55 : lw_okq (⟨"WarmerColder$Court", "thingIn", "(II)I"⟩, 3) := ⟨lw_cl3, lw_tt1 (List.mem_of_getElem? (i := 92) (by eq_refl)), lw_tt4 (List.mem_of_getElem? (i := 20) (by eq_refl)), lw_tt4 (List.mem_of_getElem? (i := 21) (by eq_refl))⟩
theorem lw_p56 : lw_okq (⟨"WarmerColder", "nearThings", "(LWarmerColder$Law;I)I"⟩, 18) := ⟨lw_cl5, lw_tt1 (List.mem_of_getElem? (i := 21) (by eq_refl)), lw_tt4 (List.mem_of_getElem? (i := 24) (by eq_refl)), lw_tt4 (List.mem_of_getElem? (i := 25) (by eq_refl))⟩
theorem lw_p57 : lw_okq (⟨"WarmerColder$Law", "nearOf", "(III)I"⟩, 13) := ⟨lw_cl8, lw_tt1 (List.mem_of_getElem? (i := 225) (by eq_refl)), lw_tt4 (List.mem_of_getElem? (i := 28) (by eq_refl)), lw_tt4 (List.mem_of_getElem? (i := 29) (by eq_refl))⟩
theorem lw_p58 : lw_okq (⟨"WarmerColder$Hearing", "first", "()I"⟩, 12) := ⟨lw_cl4, lw_tt1 (List.mem_of_getElem? (i := 110) (by eq_refl)), lw_tt4 (List.mem_of_getElem? (i := 36) (by eq_refl)), lw_tt4 (List.mem_of_getElem? (i := 37) (by eq_refl))⟩
theorem lw_p59 : lw_okq (⟨"WarmerColder", "countFalse", "(LWarmerColder$Law;III)V"⟩, 18) := ⟨lw_cl5, lw_tt1 (List.mem_of_getElem? (i := 21) (by eq_refl)), lw_tt4 (List.mem_of_getElem? (i := 40) (by eq_refl)), lw_tt4 (List.mem_of_getElem? (i := 41) (by eq_refl))⟩
theorem lw_p60 : lw_okq (⟨"WarmerColder$Hearing", "isLookedAt", "(II)Z"⟩, 12) := ⟨lw_cl4, lw_tt1 (List.mem_of_getElem? (i := 110) (by eq_refl)), lw_tt4 (List.mem_of_getElem? (i := 47) (by eq_refl)), lw_tt4 (List.mem_of_getElem? (i := 48) (by eq_refl))⟩
theorem lw_p61 : lw_okq (⟨"WarmerColder", "addFalse", "(II)V"⟩, 18) := ⟨lw_cl5, lw_tt1 (List.mem_of_getElem? (i := 21) (by eq_refl)), lw_tt4 (List.mem_of_getElem? (i := 53) (by eq_refl)), lw_tt4 (List.mem_of_getElem? (i := 54) (by eq_refl))⟩
theorem lw_p62 : lw_okq (⟨"WarmerColder", "lawWithKept", "(II)LWarmerColder$Law;"⟩, 18) := ⟨lw_cl5, lw_tt1 (List.mem_of_getElem? (i := 21) (by eq_refl)), lw_tt4 (List.mem_of_getElem? (i := 63) (by eq_refl)), lw_tt4 (List.mem_of_getElem? (i := 64) (by eq_refl))⟩
theorem lw_p63 : lw_okq (⟨"WarmerColder", "fillKept", "(LWarmerColder$Tally;II)V"⟩, 18) := ⟨lw_cl5, lw_tt1 (List.mem_of_getElem? (i := 21) (by eq_refl)), lw_tt4 (List.mem_of_getElem? (i := 67) (by eq_refl)), lw_tt4 (List.mem_of_getElem? (i := 68) (by eq_refl))⟩
noncomputable def lw_privs_4 : List (MethodName × Nat) := [(⟨"WarmerColder$Law", "farOf", "(III)J"⟩, 13), (⟨"WarmerColder$Hearing", "mayStillGive", "(I)I"⟩, 12), (⟨"WarmerColder$Hearing", "takeDown", "(IIII)I"⟩, 12), (⟨"WarmerColder$Hearing", "hasAnswer", "(I)Z"⟩, 12), (⟨"WarmerColder$Hearing", "isStruck", "(I)Z"⟩, 12), (⟨"WarmerColder$Hearing", "setStruck", "(IZ)V"⟩, 12), (⟨"WarmerColder", "isTrue", "(LWarmerColder$Law;II)Z"⟩, 18), (⟨"WarmerColder$Court", "thingIn", "(II)I"⟩, 3), (⟨"WarmerColder", "nearThings", "(LWarmerColder$Law;I)I"⟩, 18), (⟨"WarmerColder$Law", "nearOf", "(III)I"⟩, 13), (⟨"WarmerColder$Hearing", "first", "()I"⟩, 12), (⟨"WarmerColder", "countFalse", "(LWarmerColder$Law;III)V"⟩, 18), (⟨"WarmerColder$Hearing", "isLookedAt", "(II)Z"⟩, 12), (⟨"WarmerColder", "addFalse", "(II)V"⟩, 18), (⟨"WarmerColder", "lawWithKept", "(II)LWarmerColder$Law;"⟩, 18), (⟨"WarmerColder", "fillKept", "(LWarmerColder$Tally;II)V"⟩, 18)]
theorem lw_r4 : ∀ q ∈ lw_privs_4, lw_okq q := List.forall_mem_cons.mpr ⟨lw_p48, List.forall_mem_cons.mpr ⟨lw_p49, List.forall_mem_cons.mpr ⟨lw_p50, List.forall_mem_cons.mpr ⟨lw_p51, List.forall_mem_cons.mpr ⟨lw_p52, List.forall_mem_cons.mpr ⟨lw_p53, List.forall_mem_cons.mpr ⟨lw_p54, List.forall_mem_cons.mpr ⟨lw_p55, List.forall_mem_cons.mpr ⟨lw_p56, List.forall_mem_cons.mpr ⟨lw_p57, List.forall_mem_cons.mpr ⟨lw_p58, List.forall_mem_cons.mpr ⟨lw_p59, List.forall_mem_cons.mpr ⟨lw_p60, List.forall_mem_cons.mpr ⟨lw_p61, List.forall_mem_cons.mpr ⟨lw_p62, List.forall_mem_cons.mpr ⟨lw_p63, fun _ h => absurd h List.not_mem_nil⟩⟩⟩⟩⟩⟩⟩⟩⟩⟩⟩⟩⟩⟩⟩⟩
theorem lw_p64 : lw_okq (⟨"WarmerColder$Tally", "clear", "()V"⟩, 2) := ⟨lw_cl9, lw_tt1 (List.mem_of_getElem? (i := 190) (by eq_refl)), lw_tt4 (List.mem_of_getElem? (i := 71) (by eq_refl)), lw_tt4 (List.mem_of_getElem? (i := 72) (by eq_refl))⟩
theorem lw_p65 : lw_okq (⟨"WarmerColder$Tally", "add", "(III)V"⟩, 2) := ⟨lw_cl9, lw_tt1 (List.mem_of_getElem? (i := 190) (by eq_refl)), lw_tt4 (List.mem_of_getElem? (i := 76) (by eq_refl)), lw_tt4 (List.mem_of_getElem? (i := 77) (by eq_refl))⟩
theorem lw_p66 : lw_okq (⟨"WarmerColder$Tally", "addOne", "(I)V"⟩, 2) := ⟨lw_cl9, lw_tt1 (List.mem_of_getElem? (i := 190) (by eq_refl)), lw_tt4 (List.mem_of_getElem? (i := 81) (by eq_refl)), lw_tt4 (List.mem_of_getElem? (i := 82) (by eq_refl))⟩
theorem lw_p67 : lw_okq (⟨"WarmerColder$Tally", "with", "(II)I"⟩, 2) := ⟨lw_cl9, lw_tt1 (List.mem_of_getElem? (i := 190) (by eq_refl)), lw_tt4 (List.mem_of_getElem? (i := 95) (by eq_refl)), lw_tt4 (List.mem_of_getElem? (i := 96) (by eq_refl))⟩
theorem lw_p68 : lw_okq (⟨"WarmerColder$Court", "bitsOf", "(I)I"⟩, 3) := ⟨lw_cl3, lw_tt1 (List.mem_of_getElem? (i := 92) (by eq_refl)), lw_tt4 (List.mem_of_getElem? (i := 103) (by eq_refl)), lw_tt4 (List.mem_of_getElem? (i := 104) (by eq_refl))⟩
theorem lw_p69 : lw_okq (⟨"WarmerColder$Tally", "thingsOf", "(I)I"⟩, 2) := ⟨lw_cl9, lw_tt1 (List.mem_of_getElem? (i := 190) (by eq_refl)), lw_tt4 (List.mem_of_getElem? (i := 107) (by eq_refl)), lw_tt4 (List.mem_of_getElem? (i := 108) (by eq_refl))⟩
theorem lw_p70 : lw_okq (⟨"WarmerColder", "bestWorld", "(LWarmerColder$Law;)I"⟩, 18) := ⟨lw_cl5, lw_tt1 (List.mem_of_getElem? (i := 21) (by eq_refl)), lw_tt4 (List.mem_of_getElem? (i := 116) (by eq_refl)), lw_tt4 (List.mem_of_getElem? (i := 117) (by eq_refl))⟩
theorem lw_p71 : lw_okq (⟨"WarmerColder", "worldsWithAtMost", "(I)I"⟩, 18) := ⟨lw_cl5, lw_tt1 (List.mem_of_getElem? (i := 21) (by eq_refl)), lw_tt4 (List.mem_of_getElem? (i := 120) (by eq_refl)), lw_tt4 (List.mem_of_getElem? (i := 121) (by eq_refl))⟩
theorem lw_p72 : lw_okq (⟨"WarmerColder", "markLiars", "(LWarmerColder$Law;)V"⟩, 18) := ⟨lw_cl5, lw_tt1 (List.mem_of_getElem? (i := 21) (by eq_refl)), lw_tt4 (List.mem_of_getElem? (i := 133) (by eq_refl)), lw_tt4 (List.mem_of_getElem? (i := 134) (by eq_refl))⟩
theorem lw_p73 : lw_okq (⟨"WarmerColder", "trueThings", "(LWarmerColder$Law;I)I"⟩, 18) := ⟨lw_cl5, lw_tt1 (List.mem_of_getElem? (i := 21) (by eq_refl)), lw_tt4 (List.mem_of_getElem? (i := 150) (by eq_refl)), lw_tt4 (List.mem_of_getElem? (i := 151) (by eq_refl))⟩
theorem lw_p74 : lw_okq (⟨"WarmerColder$Court", "bitsOfAll", "()I"⟩, 3) := ⟨lw_cl3, lw_tt1 (List.mem_of_getElem? (i := 92) (by eq_refl)), lw_tt4 (List.mem_of_getElem? (i := 154) (by eq_refl)), lw_tt4 (List.mem_of_getElem? (i := 155) (by eq_refl))⟩
theorem lw_p75 : lw_okq (⟨"WarmerColder", "gatherProof", "(LWarmerColder$Law;)I"⟩, 18) := ⟨lw_cl5, lw_tt1 (List.mem_of_getElem? (i := 21) (by eq_refl)), lw_tt4 (List.mem_of_getElem? (i := 166) (by eq_refl)), lw_tt4 (List.mem_of_getElem? (i := 167) (by eq_refl))⟩
theorem lw_p76 : lw_okq (⟨"WarmerColder", "provesMan", "(III)Z"⟩, 18) := ⟨lw_cl5, lw_tt1 (List.mem_of_getElem? (i := 21) (by eq_refl)), lw_tt4 (List.mem_of_getElem? (i := 170) (by eq_refl)), lw_tt4 (List.mem_of_getElem? (i := 171) (by eq_refl))⟩
theorem lw_p77 : lw_okq (⟨"WarmerColder", "countKeptBy", "(II)V"⟩, 18) := ⟨lw_cl5, lw_tt1 (List.mem_of_getElem? (i := 21) (by eq_refl)), lw_tt4 (List.mem_of_getElem? (i := 178) (by eq_refl)), lw_tt4 (List.mem_of_getElem? (i := 179) (by eq_refl))⟩
theorem lw_p78 : lw_okq (⟨"WarmerColder$Tally", "withAny", "(II)I"⟩, 2) := ⟨lw_cl9, lw_tt1 (List.mem_of_getElem? (i := 190) (by eq_refl)), lw_tt4 (List.mem_of_getElem? (i := 186) (by eq_refl)), lw_tt4 (List.mem_of_getElem? (i := 187) (by eq_refl))⟩
theorem lw_p79 : lw_okq (⟨"WarmerColder", "usefulPairs", "(LWarmerColder$Law;)I"⟩, 18) := ⟨lw_cl5, lw_tt1 (List.mem_of_getElem? (i := 21) (by eq_refl)), lw_tt4 (List.mem_of_getElem? (i := 214) (by eq_refl)), lw_tt4 (List.mem_of_getElem? (i := 215) (by eq_refl))⟩
noncomputable def lw_privs_5 : List (MethodName × Nat) := [(⟨"WarmerColder$Tally", "clear", "()V"⟩, 2), (⟨"WarmerColder$Tally", "add", "(III)V"⟩, 2), (⟨"WarmerColder$Tally", "addOne", "(I)V"⟩, 2), (⟨"WarmerColder$Tally", "with", "(II)I"⟩, 2), (⟨"WarmerColder$Court", "bitsOf", "(I)I"⟩, 3), (⟨"WarmerColder$Tally", "thingsOf", "(I)I"⟩, 2), (⟨"WarmerColder", "bestWorld", "(LWarmerColder$Law;)I"⟩, 18), (⟨"WarmerColder", "worldsWithAtMost", "(I)I"⟩, 18), (⟨"WarmerColder", "markLiars", "(LWarmerColder$Law;)V"⟩, 18), (⟨"WarmerColder", "trueThings", "(LWarmerColder$Law;I)I"⟩, 18), (⟨"WarmerColder$Court", "bitsOfAll", "()I"⟩, 3), (⟨"WarmerColder", "gatherProof", "(LWarmerColder$Law;)I"⟩, 18), (⟨"WarmerColder", "provesMan", "(III)Z"⟩, 18), (⟨"WarmerColder", "countKeptBy", "(II)V"⟩, 18), (⟨"WarmerColder$Tally", "withAny", "(II)I"⟩, 2), (⟨"WarmerColder", "usefulPairs", "(LWarmerColder$Law;)I"⟩, 18)]
theorem lw_r5 : ∀ q ∈ lw_privs_5, lw_okq q := List.forall_mem_cons.mpr ⟨lw_p64, List.forall_mem_cons.mpr ⟨lw_p65, List.forall_mem_cons.mpr ⟨lw_p66, List.forall_mem_cons.mpr ⟨lw_p67, List.forall_mem_cons.mpr ⟨lw_p68, List.forall_mem_cons.mpr ⟨lw_p69, List.forall_mem_cons.mpr ⟨lw_p70, List.forall_mem_cons.mpr ⟨lw_p71, List.forall_mem_cons.mpr ⟨lw_p72, List.forall_mem_cons.mpr ⟨lw_p73, List.forall_mem_cons.mpr ⟨lw_p74, List.forall_mem_cons.mpr ⟨lw_p75, List.forall_mem_cons.mpr ⟨lw_p76, List.forall_mem_cons.mpr ⟨lw_p77, List.forall_mem_cons.mpr ⟨lw_p78, List.forall_mem_cons.mpr ⟨lw_p79, fun _ h => absurd h List.not_mem_nil⟩⟩⟩⟩⟩⟩⟩⟩⟩⟩⟩⟩⟩⟩⟩⟩
theorem lw_p80 : lw_okq (⟨"WarmerColder$Pairs", "leftForFirst", "(LWarmerColder$Law;LWarmerColder$Tally;I)I"⟩, 4) := ⟨lw_cl6, lw_tt1 (List.mem_of_getElem? (i := 168) (by eq_refl)), lw_tt4 (List.mem_of_getElem? (i := 218) (by eq_refl)), lw_tt4 (List.mem_of_getElem? (i := 219) (by eq_refl))⟩
theorem lw_p81 : lw_okq (⟨"WarmerColder$Pairs", "nearForFirst", "(LWarmerColder$Law;I)I"⟩, 4) := ⟨lw_cl6, lw_tt1 (List.mem_of_getElem? (i := 168) (by eq_refl)), lw_tt4 (List.mem_of_getElem? (i := 223) (by eq_refl)), lw_tt4 (List.mem_of_getElem? (i := 224) (by eq_refl))⟩
theorem lw_p82 : lw_okq (⟨"WarmerColder$Pairs", "leftForSecond", "(LWarmerColder$Law;LWarmerColder$Tally;I)I"⟩, 4) := ⟨lw_cl6, lw_tt1 (List.mem_of_getElem? (i := 168) (by eq_refl)), lw_tt4 (List.mem_of_getElem? (i := 229) (by eq_refl)), lw_tt4 (List.mem_of_getElem? (i := 230) (by eq_refl))⟩
theorem lw_p83 : lw_okq (⟨"WarmerColder$Pairs", "nearForSecond", "(LWarmerColder$Law;I)I"⟩, 4) := ⟨lw_cl6, lw_tt1 (List.mem_of_getElem? (i := 168) (by eq_refl)), lw_tt4 (List.mem_of_getElem? (i := 233) (by eq_refl)), lw_tt4 (List.mem_of_getElem? (i := 234) (by eq_refl))⟩
theorem lw_p84 : lw_okq (⟨"WarmerColder$Pairs", "best", "(LWarmerColder$Law;LWarmerColder$Tally;I)I"⟩, 4) := ⟨lw_cl6, lw_tt1 (List.mem_of_getElem? (i := 168) (by eq_refl)), lw_tt5 (List.mem_of_getElem? (i := 4) (by eq_refl)), lw_tt5 (List.mem_of_getElem? (i := 5) (by eq_refl))⟩
theorem lw_p85 : lw_okq (⟨"WarmerColder$Pairs", "told", "(IIII)I"⟩, 4) := ⟨lw_cl6, lw_tt1 (List.mem_of_getElem? (i := 168) (by eq_refl)), lw_tt5 (List.mem_of_getElem? (i := 15) (by eq_refl)), lw_tt5 (List.mem_of_getElem? (i := 16) (by eq_refl))⟩
theorem lw_p86 : lw_okq (⟨"WarmerColder$Singling", "clear", "(I)V"⟩, 5) := ⟨lw_cl10, lw_tt1 (List.mem_of_getElem? (i := 204) (by eq_refl)), lw_tt5 (List.mem_of_getElem? (i := 23) (by eq_refl)), lw_tt5 (List.mem_of_getElem? (i := 24) (by eq_refl))⟩
theorem lw_p87 : lw_okq (⟨"WarmerColder$Singling", "add", "(ILWarmerColder$Law;LWarmerColder$Court;LWarmerColder$Pairs;)V"⟩, 5) := ⟨lw_cl10, lw_tt1 (List.mem_of_getElem? (i := 204) (by eq_refl)), lw_tt5 (List.mem_of_getElem? (i := 29) (by eq_refl)), lw_tt5 (List.mem_of_getElem? (i := 30) (by eq_refl))⟩
theorem lw_p88 : lw_okq (⟨"WarmerColder$Singling", "pairsForAll", "()I"⟩, 5) := ⟨lw_cl10, lw_tt1 (List.mem_of_getElem? (i := 204) (by eq_refl)), lw_tt5 (List.mem_of_getElem? (i := 37) (by eq_refl)), lw_tt5 (List.mem_of_getElem? (i := 38) (by eq_refl))⟩
theorem lw_p89 : lw_okq (⟨"WarmerColder$Singling", "fewestFor", "(I)I"⟩, 5) := ⟨lw_cl10, lw_tt1 (List.mem_of_getElem? (i := 204) (by eq_refl)), lw_tt5 (List.mem_of_getElem? (i := 41) (by eq_refl)), lw_tt5 (List.mem_of_getElem? (i := 42) (by eq_refl))⟩
theorem lw_p90 : lw_okq (⟨"WarmerColder$Pairs", "leftAsIn", "(LWarmerColder$Law;LWarmerColder$Tally;ILWarmerColder$Court;I)I"⟩, 4) := ⟨lw_cl6, lw_tt1 (List.mem_of_getElem? (i := 168) (by eq_refl)), lw_tt5 (List.mem_of_getElem? (i := 51) (by eq_refl)), lw_tt5 (List.mem_of_getElem? (i := 52) (by eq_refl))⟩
theorem lw_p91 : lw_okq (⟨"WarmerColder$Pairs", "nearAsIn", "(LWarmerColder$Law;ILWarmerColder$Court;I)I"⟩, 4) := ⟨lw_cl6, lw_tt1 (List.mem_of_getElem? (i := 168) (by eq_refl)), lw_tt5 (List.mem_of_getElem? (i := 55) (by eq_refl)), lw_tt5 (List.mem_of_getElem? (i := 56) (by eq_refl))⟩
theorem lw_p92 : lw_okq (⟨"WarmerColder", "trial", "(LWarmerColder$Law;I)I"⟩, 18) := ⟨lw_cl5, lw_tt1 (List.mem_of_getElem? (i := 21) (by eq_refl)), lw_tt5 (List.mem_of_getElem? (i := 75) (by eq_refl)), lw_tt5 (List.mem_of_getElem? (i := 76) (by eq_refl))⟩
theorem lw_p93 : lw_okq (⟨"WarmerColder$Tally", "fillWith", "(I)V"⟩, 2) := ⟨lw_cl9, lw_tt1 (List.mem_of_getElem? (i := 190) (by eq_refl)), lw_tt5 (List.mem_of_getElem? (i := 79) (by eq_refl)), lw_tt5 (List.mem_of_getElem? (i := 80) (by eq_refl))⟩
theorem lw_p94 : lw_okq (⟨"WarmerColder$Pairs", "greaterLeft", "(LWarmerColder$Law;LWarmerColder$Tally;I)I"⟩, 4) := ⟨lw_cl6, lw_tt1 (List.mem_of_getElem? (i := 168) (by eq_refl)), lw_tt5 (List.mem_of_getElem? (i := 84) (by eq_refl)), lw_tt5 (List.mem_of_getElem? (i := 85) (by eq_refl))⟩
theorem lw_p95 : lw_okq (⟨"WarmerColder$Tally", "keepOnly", "(II)V"⟩, 2) := ⟨lw_cl9, lw_tt1 (List.mem_of_getElem? (i := 190) (by eq_refl)), lw_tt5 (List.mem_of_getElem? (i := 89) (by eq_refl)), lw_tt5 (List.mem_of_getElem? (i := 90) (by eq_refl))⟩
noncomputable def lw_privs_6 : List (MethodName × Nat) := [(⟨"WarmerColder$Pairs", "leftForFirst", "(LWarmerColder$Law;LWarmerColder$Tally;I)I"⟩, 4), (⟨"WarmerColder$Pairs", "nearForFirst", "(LWarmerColder$Law;I)I"⟩, 4), (⟨"WarmerColder$Pairs", "leftForSecond", "(LWarmerColder$Law;LWarmerColder$Tally;I)I"⟩, 4), (⟨"WarmerColder$Pairs", "nearForSecond", "(LWarmerColder$Law;I)I"⟩, 4), (⟨"WarmerColder$Pairs", "best", "(LWarmerColder$Law;LWarmerColder$Tally;I)I"⟩, 4), (⟨"WarmerColder$Pairs", "told", "(IIII)I"⟩, 4), (⟨"WarmerColder$Singling", "clear", "(I)V"⟩, 5), (⟨"WarmerColder$Singling", "add", "(ILWarmerColder$Law;LWarmerColder$Court;LWarmerColder$Pairs;)V"⟩, 5), (⟨"WarmerColder$Singling", "pairsForAll", "()I"⟩, 5), (⟨"WarmerColder$Singling", "fewestFor", "(I)I"⟩, 5), (⟨"WarmerColder$Pairs", "leftAsIn", "(LWarmerColder$Law;LWarmerColder$Tally;ILWarmerColder$Court;I)I"⟩, 4), (⟨"WarmerColder$Pairs", "nearAsIn", "(LWarmerColder$Law;ILWarmerColder$Court;I)I"⟩, 4), (⟨"WarmerColder", "trial", "(LWarmerColder$Law;I)I"⟩, 18), (⟨"WarmerColder$Tally", "fillWith", "(I)V"⟩, 2), (⟨"WarmerColder$Pairs", "greaterLeft", "(LWarmerColder$Law;LWarmerColder$Tally;I)I"⟩, 4), (⟨"WarmerColder$Tally", "keepOnly", "(II)V"⟩, 2)]
theorem lw_r6 : ∀ q ∈ lw_privs_6, lw_okq q := List.forall_mem_cons.mpr ⟨lw_p80, List.forall_mem_cons.mpr ⟨lw_p81, List.forall_mem_cons.mpr ⟨lw_p82, List.forall_mem_cons.mpr ⟨lw_p83, List.forall_mem_cons.mpr ⟨lw_p84, List.forall_mem_cons.mpr ⟨lw_p85, List.forall_mem_cons.mpr ⟨lw_p86, List.forall_mem_cons.mpr ⟨lw_p87, List.forall_mem_cons.mpr ⟨lw_p88, List.forall_mem_cons.mpr ⟨lw_p89, List.forall_mem_cons.mpr ⟨lw_p90, List.forall_mem_cons.mpr ⟨lw_p91, List.forall_mem_cons.mpr ⟨lw_p92, List.forall_mem_cons.mpr ⟨lw_p93, List.forall_mem_cons.mpr ⟨lw_p94, List.forall_mem_cons.mpr ⟨lw_p95, fun _ h => absurd h List.not_mem_nil⟩⟩⟩⟩⟩⟩⟩⟩⟩⟩⟩⟩⟩⟩⟩⟩
theorem lw_p96 : lw_okq (⟨"WarmerColder$Hearing", "judge", "(I)V"⟩, 12) := ⟨lw_cl4, lw_tt1 (List.mem_of_getElem? (i := 110) (by eq_refl)), lw_tt5 (List.mem_of_getElem? (i := 99) (by eq_refl)), lw_tt5 (List.mem_of_getElem? (i := 100) (by eq_refl))⟩
theorem lw_p97 : lw_okq (⟨"WarmerColder$Hearing", "struckOnes", "()I"⟩, 12) := ⟨lw_cl4, lw_tt1 (List.mem_of_getElem? (i := 110) (by eq_refl)), lw_tt5 (List.mem_of_getElem? (i := 111) (by eq_refl)), lw_tt5 (List.mem_of_getElem? (i := 112) (by eq_refl))⟩
theorem lw_p98 : lw_okq (⟨"WarmerColder$Hearing", "lookedAtOnes", "()I"⟩, 12) := ⟨lw_cl4, lw_tt1 (List.mem_of_getElem? (i := 110) (by eq_refl)), lw_tt5 (List.mem_of_getElem? (i := 115) (by eq_refl)), lw_tt5 (List.mem_of_getElem? (i := 116) (by eq_refl))⟩
theorem lw_p99 : lw_okq (⟨"WarmerColder$Hearing", "becomes", "(LWarmerColder$Hearing;)V"⟩, 12) := ⟨lw_cl4, lw_tt1 (List.mem_of_getElem? (i := 110) (by eq_refl)), lw_tt5 (List.mem_of_getElem? (i := 125) (by eq_refl)), lw_tt5 (List.mem_of_getElem? (i := 126) (by eq_refl))⟩
theorem lw_p100 : lw_okq (⟨"WarmerColderModel", "four", "(I)V"⟩, 39) := ⟨lw_cl11, lw_tt5 (List.mem_of_getElem? (i := 134) (by eq_refl)), lw_tt6 (List.mem_of_getElem? (i := 22) (by eq_refl)), lw_tt6 (List.mem_of_getElem? (i := 23) (by eq_refl))⟩
theorem lw_p101 : lw_okq (⟨"WarmerColderModel", "readsAll", "()Z"⟩, 39) := ⟨lw_cl11, lw_tt5 (List.mem_of_getElem? (i := 134) (by eq_refl)), lw_tt6 (List.mem_of_getElem? (i := 34) (by eq_refl)), lw_tt6 (List.mem_of_getElem? (i := 35) (by eq_refl))⟩
theorem lw_p102 : lw_okq (⟨"WarmerColderModel", "clauseHere", "()Z"⟩, 39) := ⟨lw_cl11, lw_tt5 (List.mem_of_getElem? (i := 134) (by eq_refl)), lw_tt6 (List.mem_of_getElem? (i := 38) (by eq_refl)), lw_tt6 (List.mem_of_getElem? (i := 39) (by eq_refl))⟩
theorem lw_p103 : lw_okq (⟨"WarmerColderModel", "see", "()I"⟩, 39) := ⟨lw_cl11, lw_tt5 (List.mem_of_getElem? (i := 134) (by eq_refl)), lw_tt6 (List.mem_of_getElem? (i := 42) (by eq_refl)), lw_tt6 (List.mem_of_getElem? (i := 43) (by eq_refl))⟩
theorem lw_p104 : lw_okq (⟨"WarmerColderModel", "isWord", "(J)Z"⟩, 39) := ⟨lw_cl11, lw_tt5 (List.mem_of_getElem? (i := 134) (by eq_refl)), lw_tt6 (List.mem_of_getElem? (i := 47) (by eq_refl)), lw_tt6 (List.mem_of_getElem? (i := 48) (by eq_refl))⟩
theorem lw_p105 : lw_okq (⟨"WarmerColderModel", "isLetter", "(I)Z"⟩, 39) := ⟨lw_cl11, lw_tt5 (List.mem_of_getElem? (i := 134) (by eq_refl)), lw_tt6 (List.mem_of_getElem? (i := 51) (by eq_refl)), lw_tt6 (List.mem_of_getElem? (i := 52) (by eq_refl))⟩
theorem lw_p106 : lw_okq (⟨"WarmerColderModel", "fails", "(II)Z"⟩, 39) := ⟨lw_cl11, lw_tt5 (List.mem_of_getElem? (i := 134) (by eq_refl)), lw_tt6 (List.mem_of_getElem? (i := 58) (by eq_refl)), lw_tt6 (List.mem_of_getElem? (i := 59) (by eq_refl))⟩
theorem lw_p107 : lw_okq (⟨"WarmerColderModel", "courtLineHere", "(I)Z"⟩, 39) := ⟨lw_cl11, lw_tt5 (List.mem_of_getElem? (i := 134) (by eq_refl)), lw_tt6 (List.mem_of_getElem? (i := 62) (by eq_refl)), lw_tt6 (List.mem_of_getElem? (i := 63) (by eq_refl))⟩
theorem lw_p108 : lw_okq (⟨"WarmerColderModel", "passWord", "()V"⟩, 39) := ⟨lw_cl11, lw_tt5 (List.mem_of_getElem? (i := 134) (by eq_refl)), lw_tt6 (List.mem_of_getElem? (i := 66) (by eq_refl)), lw_tt6 (List.mem_of_getElem? (i := 67) (by eq_refl))⟩
theorem lw_p109 : lw_okq (⟨"WarmerColderModel", "numberHere", "(II)Z"⟩, 39) := ⟨lw_cl11, lw_tt5 (List.mem_of_getElem? (i := 134) (by eq_refl)), lw_tt6 (List.mem_of_getElem? (i := 70) (by eq_refl)), lw_tt6 (List.mem_of_getElem? (i := 71) (by eq_refl))⟩
theorem lw_p110 : lw_okq (⟨"WarmerColderModel", "isDigit", "(I)Z"⟩, 39) := ⟨lw_cl11, lw_tt5 (List.mem_of_getElem? (i := 134) (by eq_refl)), lw_tt6 (List.mem_of_getElem? (i := 74) (by eq_refl)), lw_tt6 (List.mem_of_getElem? (i := 75) (by eq_refl))⟩
theorem lw_p111 : lw_okq (⟨"WarmerColderModel", "isRoadHere", "()Z"⟩, 39) := ⟨lw_cl11, lw_tt5 (List.mem_of_getElem? (i := 134) (by eq_refl)), lw_tt6 (List.mem_of_getElem? (i := 81) (by eq_refl)), lw_tt6 (List.mem_of_getElem? (i := 82) (by eq_refl))⟩
noncomputable def lw_privs_7 : List (MethodName × Nat) := [(⟨"WarmerColder$Hearing", "judge", "(I)V"⟩, 12), (⟨"WarmerColder$Hearing", "struckOnes", "()I"⟩, 12), (⟨"WarmerColder$Hearing", "lookedAtOnes", "()I"⟩, 12), (⟨"WarmerColder$Hearing", "becomes", "(LWarmerColder$Hearing;)V"⟩, 12), (⟨"WarmerColderModel", "four", "(I)V"⟩, 39), (⟨"WarmerColderModel", "readsAll", "()Z"⟩, 39), (⟨"WarmerColderModel", "clauseHere", "()Z"⟩, 39), (⟨"WarmerColderModel", "see", "()I"⟩, 39), (⟨"WarmerColderModel", "isWord", "(J)Z"⟩, 39), (⟨"WarmerColderModel", "isLetter", "(I)Z"⟩, 39), (⟨"WarmerColderModel", "fails", "(II)Z"⟩, 39), (⟨"WarmerColderModel", "courtLineHere", "(I)Z"⟩, 39), (⟨"WarmerColderModel", "passWord", "()V"⟩, 39), (⟨"WarmerColderModel", "numberHere", "(II)Z"⟩, 39), (⟨"WarmerColderModel", "isDigit", "(I)Z"⟩, 39), (⟨"WarmerColderModel", "isRoadHere", "()Z"⟩, 39)]
theorem lw_r7 : ∀ q ∈ lw_privs_7, lw_okq q := List.forall_mem_cons.mpr ⟨lw_p96, List.forall_mem_cons.mpr ⟨lw_p97, List.forall_mem_cons.mpr ⟨lw_p98, List.forall_mem_cons.mpr ⟨lw_p99, List.forall_mem_cons.mpr ⟨lw_p100, List.forall_mem_cons.mpr ⟨lw_p101, List.forall_mem_cons.mpr ⟨lw_p102, List.forall_mem_cons.mpr ⟨lw_p103, List.forall_mem_cons.mpr ⟨lw_p104, List.forall_mem_cons.mpr ⟨lw_p105, List.forall_mem_cons.mpr ⟨lw_p106, List.forall_mem_cons.mpr ⟨lw_p107, List.forall_mem_cons.mpr ⟨lw_p108, List.forall_mem_cons.mpr ⟨lw_p109, List.forall_mem_cons.mpr ⟨lw_p110, List.forall_mem_cons.mpr ⟨lw_p111, fun _ h => absurd h List.not_mem_nil⟩⟩⟩⟩⟩⟩⟩⟩⟩⟩⟩⟩⟩⟩⟩⟩
theorem lw_p112 : lw_okq (⟨"WarmerColderModel", "isManHere", "()Z"⟩, 39) := ⟨lw_cl11, lw_tt5 (List.mem_of_getElem? (i := 134) (by eq_refl)), lw_tt6 (List.mem_of_getElem? (i := 85) (by eq_refl)), lw_tt6 (List.mem_of_getElem? (i := 86) (by eq_refl))⟩
theorem lw_p113 : lw_okq (⟨"WarmerColderModel", "clauseOf", "(I)Z"⟩, 39) := ⟨lw_cl11, lw_tt5 (List.mem_of_getElem? (i := 134) (by eq_refl)), lw_tt6 (List.mem_of_getElem? (i := 89) (by eq_refl)), lw_tt6 (List.mem_of_getElem? (i := 90) (by eq_refl))⟩
theorem lw_p114 : lw_okq (⟨"WarmerColderModel", "sum", "()Z"⟩, 39) := ⟨lw_cl11, lw_tt5 (List.mem_of_getElem? (i := 134) (by eq_refl)), lw_tt6 (List.mem_of_getElem? (i := 93) (by eq_refl)), lw_tt6 (List.mem_of_getElem? (i := 94) (by eq_refl))⟩
theorem lw_p115 : lw_okq (⟨"WarmerColderModel", "term", "()Z"⟩, 39) := ⟨lw_cl11, lw_tt5 (List.mem_of_getElem? (i := 134) (by eq_refl)), lw_tt6 (List.mem_of_getElem? (i := 97) (by eq_refl)), lw_tt6 (List.mem_of_getElem? (i := 98) (by eq_refl))⟩
theorem lw_p116 : lw_okq (⟨"WarmerColderModel", "value", "()Z"⟩, 39) := ⟨lw_cl11, lw_tt5 (List.mem_of_getElem? (i := 134) (by eq_refl)), lw_tt6 (List.mem_of_getElem? (i := 101) (by eq_refl)), lw_tt6 (List.mem_of_getElem? (i := 102) (by eq_refl))⟩
theorem lw_p117 : lw_okq (⟨"WarmerColderModel", "makes", "(I)Z"⟩, 39) := ⟨lw_cl11, lw_tt5 (List.mem_of_getElem? (i := 134) (by eq_refl)), lw_tt6 (List.mem_of_getElem? (i := 106) (by eq_refl)), lw_tt6 (List.mem_of_getElem? (i := 107) (by eq_refl))⟩
theorem lw_p118 : lw_okq (⟨"WarmerColderModel", "puts", "(II)V"⟩, 39) := ⟨lw_cl11, lw_tt5 (List.mem_of_getElem? (i := 134) (by eq_refl)), lw_tt6 (List.mem_of_getElem? (i := 110) (by eq_refl)), lw_tt6 (List.mem_of_getElem? (i := 111) (by eq_refl))⟩
theorem lw_p119 : lw_okq (⟨"WarmerColderModel", "wordHere", "()I"⟩, 39) := ⟨lw_cl11, lw_tt5 (List.mem_of_getElem? (i := 134) (by eq_refl)), lw_tt6 (List.mem_of_getElem? (i := 114) (by eq_refl)), lw_tt6 (List.mem_of_getElem? (i := 115) (by eq_refl))⟩
theorem lw_p120 : lw_okq (⟨"WarmerColderModel", "takesWord", "(J)Z"⟩, 39) := ⟨lw_cl11, lw_tt5 (List.mem_of_getElem? (i := 134) (by eq_refl)), lw_tt6 (List.mem_of_getElem? (i := 127) (by eq_refl)), lw_tt6 (List.mem_of_getElem? (i := 128) (by eq_refl))⟩
theorem lw_p121 : lw_okq (⟨"WarmerColderModel", "tested", "()Z"⟩, 39) := ⟨lw_cl11, lw_tt5 (List.mem_of_getElem? (i := 134) (by eq_refl)), lw_tt6 (List.mem_of_getElem? (i := 131) (by eq_refl)), lw_tt6 (List.mem_of_getElem? (i := 132) (by eq_refl))⟩
theorem lw_p122 : lw_okq (⟨"WarmerColderModel", "fact", "()Z"⟩, 39) := ⟨lw_cl11, lw_tt5 (List.mem_of_getElem? (i := 134) (by eq_refl)), lw_tt6 (List.mem_of_getElem? (i := 135) (by eq_refl)), lw_tt6 (List.mem_of_getElem? (i := 136) (by eq_refl))⟩
theorem lw_p123 : lw_okq (⟨"WarmerColderModel", "opens", "(I)Z"⟩, 39) := ⟨lw_cl11, lw_tt5 (List.mem_of_getElem? (i := 134) (by eq_refl)), lw_tt6 (List.mem_of_getElem? (i := 140) (by eq_refl)), lw_tt6 (List.mem_of_getElem? (i := 141) (by eq_refl))⟩
theorem lw_p124 : lw_okq (⟨"WarmerColderModel", "compare", "()Z"⟩, 39) := ⟨lw_cl11, lw_tt5 (List.mem_of_getElem? (i := 134) (by eq_refl)), lw_tt6 (List.mem_of_getElem? (i := 144) (by eq_refl)), lw_tt6 (List.mem_of_getElem? (i := 145) (by eq_refl))⟩
theorem lw_p125 : lw_okq (⟨"WarmerColderModel", "closes", "()V"⟩, 39) := ⟨lw_cl11, lw_tt5 (List.mem_of_getElem? (i := 134) (by eq_refl)), lw_tt6 (List.mem_of_getElem? (i := 148) (by eq_refl)), lw_tt6 (List.mem_of_getElem? (i := 149) (by eq_refl))⟩
theorem lw_p126 : lw_okq (⟨"WarmerColderModel", "settles", "(I)V"⟩, 39) := ⟨lw_cl11, lw_tt5 (List.mem_of_getElem? (i := 134) (by eq_refl)), lw_tt6 (List.mem_of_getElem? (i := 152) (by eq_refl)), lw_tt6 (List.mem_of_getElem? (i := 153) (by eq_refl))⟩
theorem lw_p127 : lw_okq (⟨"WarmerColderModel", "isInside", "()Z"⟩, 39) := ⟨lw_cl11, lw_tt5 (List.mem_of_getElem? (i := 134) (by eq_refl)), lw_tt6 (List.mem_of_getElem? (i := 159) (by eq_refl)), lw_tt6 (List.mem_of_getElem? (i := 160) (by eq_refl))⟩
noncomputable def lw_privs_8 : List (MethodName × Nat) := [(⟨"WarmerColderModel", "isManHere", "()Z"⟩, 39), (⟨"WarmerColderModel", "clauseOf", "(I)Z"⟩, 39), (⟨"WarmerColderModel", "sum", "()Z"⟩, 39), (⟨"WarmerColderModel", "term", "()Z"⟩, 39), (⟨"WarmerColderModel", "value", "()Z"⟩, 39), (⟨"WarmerColderModel", "makes", "(I)Z"⟩, 39), (⟨"WarmerColderModel", "puts", "(II)V"⟩, 39), (⟨"WarmerColderModel", "wordHere", "()I"⟩, 39), (⟨"WarmerColderModel", "takesWord", "(J)Z"⟩, 39), (⟨"WarmerColderModel", "tested", "()Z"⟩, 39), (⟨"WarmerColderModel", "fact", "()Z"⟩, 39), (⟨"WarmerColderModel", "opens", "(I)Z"⟩, 39), (⟨"WarmerColderModel", "compare", "()Z"⟩, 39), (⟨"WarmerColderModel", "closes", "()V"⟩, 39), (⟨"WarmerColderModel", "settles", "(I)V"⟩, 39), (⟨"WarmerColderModel", "isInside", "()Z"⟩, 39)]
theorem lw_r8 : ∀ q ∈ lw_privs_8, lw_okq q := List.forall_mem_cons.mpr ⟨lw_p112, List.forall_mem_cons.mpr ⟨lw_p113, List.forall_mem_cons.mpr ⟨lw_p114, List.forall_mem_cons.mpr ⟨lw_p115, List.forall_mem_cons.mpr ⟨lw_p116, List.forall_mem_cons.mpr ⟨lw_p117, List.forall_mem_cons.mpr ⟨lw_p118, List.forall_mem_cons.mpr ⟨lw_p119, List.forall_mem_cons.mpr ⟨lw_p120, List.forall_mem_cons.mpr ⟨lw_p121, List.forall_mem_cons.mpr ⟨lw_p122, List.forall_mem_cons.mpr ⟨lw_p123, List.forall_mem_cons.mpr ⟨lw_p124, List.forall_mem_cons.mpr ⟨lw_p125, List.forall_mem_cons.mpr ⟨lw_p126, List.forall_mem_cons.mpr ⟨lw_p127, fun _ h => absurd h List.not_mem_nil⟩⟩⟩⟩⟩⟩⟩⟩⟩⟩⟩⟩⟩⟩⟩⟩
theorem lw_p128 : lw_okq (⟨"WarmerColderModel", "worlds", "()I"⟩, 39) := ⟨lw_cl11, lw_tt5 (List.mem_of_getElem? (i := 134) (by eq_refl)), lw_tt6 (List.mem_of_getElem? (i := 169) (by eq_refl)), lw_tt6 (List.mem_of_getElem? (i := 170) (by eq_refl))⟩
theorem lw_p129 : lw_okq (⟨"WarmerColderModel", "isKind", "(I)Z"⟩, 39) := ⟨lw_cl11, lw_tt5 (List.mem_of_getElem? (i := 134) (by eq_refl)), lw_tt6 (List.mem_of_getElem? (i := 177) (by eq_refl)), lw_tt6 (List.mem_of_getElem? (i := 178) (by eq_refl))⟩
theorem lw_p130 : lw_okq (⟨"WarmerColderModel", "isCourt", "()Z"⟩, 39) := ⟨lw_cl11, lw_tt5 (List.mem_of_getElem? (i := 134) (by eq_refl)), lw_tt6 (List.mem_of_getElem? (i := 181) (by eq_refl)), lw_tt6 (List.mem_of_getElem? (i := 182) (by eq_refl))⟩
theorem lw_p131 : lw_okq (⟨"WarmerColderModel", "isThing", "(II)Z"⟩, 39) := ⟨lw_cl11, lw_tt5 (List.mem_of_getElem? (i := 134) (by eq_refl)), lw_tt6 (List.mem_of_getElem? (i := 186) (by eq_refl)), lw_tt6 (List.mem_of_getElem? (i := 187) (by eq_refl))⟩
theorem lw_p132 : lw_okq (⟨"WarmerColderModel", "isLaw", "(I)Z"⟩, 39) := ⟨lw_cl11, lw_tt5 (List.mem_of_getElem? (i := 134) (by eq_refl)), lw_tt6 (List.mem_of_getElem? (i := 194) (by eq_refl)), lw_tt6 (List.mem_of_getElem? (i := 195) (by eq_refl))⟩
theorem lw_p133 : lw_okq (⟨"WarmerColderModel", "farBy", "(IIII)J"⟩, 39) := ⟨lw_cl11, lw_tt5 (List.mem_of_getElem? (i := 134) (by eq_refl)), lw_tt6 (List.mem_of_getElem? (i := 198) (by eq_refl)), lw_tt6 (List.mem_of_getElem? (i := 199) (by eq_refl))⟩
theorem lw_p134 : lw_okq (⟨"WarmerColderModel", "words", "(III)V"⟩, 39) := ⟨lw_cl11, lw_tt5 (List.mem_of_getElem? (i := 134) (by eq_refl)), lw_tt6 (List.mem_of_getElem? (i := 202) (by eq_refl)), lw_tt6 (List.mem_of_getElem? (i := 203) (by eq_refl))⟩
theorem lw_p135 : lw_okq (⟨"WarmerColderModel", "reckons", "(III)J"⟩, 39) := ⟨lw_cl11, lw_tt5 (List.mem_of_getElem? (i := 134) (by eq_refl)), lw_tt6 (List.mem_of_getElem? (i := 209) (by eq_refl)), lw_tt6 (List.mem_of_getElem? (i := 210) (by eq_refl))⟩
theorem lw_p136 : lw_okq (⟨"WarmerColderModel", "push", "(J)V"⟩, 39) := ⟨lw_cl11, lw_tt5 (List.mem_of_getElem? (i := 134) (by eq_refl)), lw_tt6 (List.mem_of_getElem? (i := 213) (by eq_refl)), lw_tt6 (List.mem_of_getElem? (i := 214) (by eq_refl))⟩
theorem lw_p137 : lw_okq (⟨"WarmerColderModel", "pop", "()J"⟩, 39) := ⟨lw_cl11, lw_tt5 (List.mem_of_getElem? (i := 134) (by eq_refl)), lw_tt6 (List.mem_of_getElem? (i := 217) (by eq_refl)), lw_tt6 (List.mem_of_getElem? (i := 218) (by eq_refl))⟩
theorem lw_p138 : lw_okq (⟨"WarmerColderModel", "answersBy", "(I)I"⟩, 39) := ⟨lw_cl11, lw_tt5 (List.mem_of_getElem? (i := 134) (by eq_refl)), lw_tt6 (List.mem_of_getElem? (i := 232) (by eq_refl)), lw_tt6 (List.mem_of_getElem? (i := 233) (by eq_refl))⟩
theorem lw_p139 : lw_okq (⟨"WarmerColderModel", "answerOf", "(II)I"⟩, 39) := ⟨lw_cl11, lw_tt5 (List.mem_of_getElem? (i := 134) (by eq_refl)), lw_tt6 (List.mem_of_getElem? (i := 236) (by eq_refl)), lw_tt6 (List.mem_of_getElem? (i := 237) (by eq_refl))⟩
theorem lw_p140 : lw_okq (⟨"WarmerColderModel", "isAnswer", "(I)Z"⟩, 39) := ⟨lw_cl11, lw_tt5 (List.mem_of_getElem? (i := 134) (by eq_refl)), lw_tt7 (List.mem_of_getElem? (i := 4) (by eq_refl)), lw_tt7 (List.mem_of_getElem? (i := 5) (by eq_refl))⟩
theorem lw_p141 : lw_okq (⟨"WarmerColderModel", "canAsk", "(I)Z"⟩, 39) := ⟨lw_cl11, lw_tt5 (List.mem_of_getElem? (i := 134) (by eq_refl)), lw_tt7 (List.mem_of_getElem? (i := 23) (by eq_refl)), lw_tt7 (List.mem_of_getElem? (i := 24) (by eq_refl))⟩
theorem lw_p142 : lw_okq (⟨"WarmerColderModel", "isWorld", "(I)Z"⟩, 39) := ⟨lw_cl11, lw_tt5 (List.mem_of_getElem? (i := 134) (by eq_refl)), lw_tt7 (List.mem_of_getElem? (i := 27) (by eq_refl)), lw_tt7 (List.mem_of_getElem? (i := 28) (by eq_refl))⟩
theorem lw_p143 : lw_okq (⟨"WarmerColderModel", "reaches", "(I)V"⟩, 39) := ⟨lw_cl11, lw_tt5 (List.mem_of_getElem? (i := 134) (by eq_refl)), lw_tt7 (List.mem_of_getElem? (i := 31) (by eq_refl)), lw_tt7 (List.mem_of_getElem? (i := 32) (by eq_refl))⟩
noncomputable def lw_privs_9 : List (MethodName × Nat) := [(⟨"WarmerColderModel", "worlds", "()I"⟩, 39), (⟨"WarmerColderModel", "isKind", "(I)Z"⟩, 39), (⟨"WarmerColderModel", "isCourt", "()Z"⟩, 39), (⟨"WarmerColderModel", "isThing", "(II)Z"⟩, 39), (⟨"WarmerColderModel", "isLaw", "(I)Z"⟩, 39), (⟨"WarmerColderModel", "farBy", "(IIII)J"⟩, 39), (⟨"WarmerColderModel", "words", "(III)V"⟩, 39), (⟨"WarmerColderModel", "reckons", "(III)J"⟩, 39), (⟨"WarmerColderModel", "push", "(J)V"⟩, 39), (⟨"WarmerColderModel", "pop", "()J"⟩, 39), (⟨"WarmerColderModel", "answersBy", "(I)I"⟩, 39), (⟨"WarmerColderModel", "answerOf", "(II)I"⟩, 39), (⟨"WarmerColderModel", "isAnswer", "(I)Z"⟩, 39), (⟨"WarmerColderModel", "canAsk", "(I)Z"⟩, 39), (⟨"WarmerColderModel", "isWorld", "(I)Z"⟩, 39), (⟨"WarmerColderModel", "reaches", "(I)V"⟩, 39)]
theorem lw_r9 : ∀ q ∈ lw_privs_9, lw_okq q := List.forall_mem_cons.mpr ⟨lw_p128, List.forall_mem_cons.mpr ⟨lw_p129, List.forall_mem_cons.mpr ⟨lw_p130, List.forall_mem_cons.mpr ⟨lw_p131, List.forall_mem_cons.mpr ⟨lw_p132, List.forall_mem_cons.mpr ⟨lw_p133, List.forall_mem_cons.mpr ⟨lw_p134, List.forall_mem_cons.mpr ⟨lw_p135, List.forall_mem_cons.mpr ⟨lw_p136, List.forall_mem_cons.mpr ⟨lw_p137, List.forall_mem_cons.mpr ⟨lw_p138, List.forall_mem_cons.mpr ⟨lw_p139, List.forall_mem_cons.mpr ⟨lw_p140, List.forall_mem_cons.mpr ⟨lw_p141, List.forall_mem_cons.mpr ⟨lw_p142, List.forall_mem_cons.mpr ⟨lw_p143, fun _ h => absurd h List.not_mem_nil⟩⟩⟩⟩⟩⟩⟩⟩⟩⟩⟩⟩⟩⟩⟩⟩
theorem lw_p144 : lw_okq (⟨"WarmerColderModel", "isTrue", "(II)Z"⟩, 39) := ⟨lw_cl11, lw_tt5 (List.mem_of_getElem? (i := 134) (by eq_refl)), lw_tt7 (List.mem_of_getElem? (i := 35) (by eq_refl)), lw_tt7 (List.mem_of_getElem? (i := 36) (by eq_refl))⟩
theorem lw_p145 : lw_okq (⟨"WarmerColderModel", "isNearer", "(IIII)Z"⟩, 39) := ⟨lw_cl11, lw_tt5 (List.mem_of_getElem? (i := 134) (by eq_refl)), lw_tt7 (List.mem_of_getElem? (i := 39) (by eq_refl)), lw_tt7 (List.mem_of_getElem? (i := 40) (by eq_refl))⟩
theorem lw_p146 : lw_okq (⟨"WarmerColderModel", "thingOf", "(II)I"⟩, 39) := ⟨lw_cl11, lw_tt5 (List.mem_of_getElem? (i := 134) (by eq_refl)), lw_tt7 (List.mem_of_getElem? (i := 43) (by eq_refl)), lw_tt7 (List.mem_of_getElem? (i := 44) (by eq_refl))⟩
theorem lw_p147 : lw_okq (⟨"WarmerColderModel", "wrongIn", "(II)I"⟩, 39) := ⟨lw_cl11, lw_tt5 (List.mem_of_getElem? (i := 134) (by eq_refl)), lw_tt7 (List.mem_of_getElem? (i := 51) (by eq_refl)), lw_tt7 (List.mem_of_getElem? (i := 52) (by eq_refl))⟩
theorem lw_p148 : lw_okq (⟨"WarmerColderModel", "isLookedAt", "(I)Z"⟩, 39) := ⟨lw_cl11, lw_tt5 (List.mem_of_getElem? (i := 134) (by eq_refl)), lw_tt7 (List.mem_of_getElem? (i := 55) (by eq_refl)), lw_tt7 (List.mem_of_getElem? (i := 56) (by eq_refl))⟩
theorem lw_p149 : lw_okq (⟨"WarmerColderModel", "keeps", "(III)I"⟩, 39) := ⟨lw_cl11, lw_tt5 (List.mem_of_getElem? (i := 134) (by eq_refl)), lw_tt7 (List.mem_of_getElem? (i := 66) (by eq_refl)), lw_tt7 (List.mem_of_getElem? (i := 67) (by eq_refl))⟩
theorem lw_p150 : lw_okq (⟨"WarmerColderModel", "keptWith", "(II)I"⟩, 39) := ⟨lw_cl11, lw_tt5 (List.mem_of_getElem? (i := 134) (by eq_refl)), lw_tt7 (List.mem_of_getElem? (i := 78) (by eq_refl)), lw_tt7 (List.mem_of_getElem? (i := 79) (by eq_refl))⟩
theorem lw_p151 : lw_okq (⟨"WarmerColderModel", "finds", "(I)V"⟩, 39) := ⟨lw_cl11, lw_tt5 (List.mem_of_getElem? (i := 134) (by eq_refl)), lw_tt7 (List.mem_of_getElem? (i := 90) (by eq_refl)), lw_tt7 (List.mem_of_getElem? (i := 91) (by eq_refl))⟩
theorem lw_p152 : lw_okq (⟨"WarmerColderModel", "areTrueTogether", "(II)Z"⟩, 39) := ⟨lw_cl11, lw_tt5 (List.mem_of_getElem? (i := 134) (by eq_refl)), lw_tt7 (List.mem_of_getElem? (i := 109) (by eq_refl)), lw_tt7 (List.mem_of_getElem? (i := 110) (by eq_refl))⟩
theorem lw_p153 : lw_okq (⟨"WarmerColderModel", "twelve", "()I"⟩, 39) := ⟨lw_cl11, lw_tt5 (List.mem_of_getElem? (i := 134) (by eq_refl)), lw_tt7 (List.mem_of_getElem? (i := 117) (by eq_refl)), lw_tt7 (List.mem_of_getElem? (i := 118) (by eq_refl))⟩
theorem lw_p154 : lw_okq (⟨"WarmerColderModel", "proves", "(II)Z"⟩, 39) := ⟨lw_cl11, lw_tt5 (List.mem_of_getElem? (i := 134) (by eq_refl)), lw_tt7 (List.mem_of_getElem? (i := 121) (by eq_refl)), lw_tt7 (List.mem_of_getElem? (i := 122) (by eq_refl))⟩
theorem lw_p155 : lw_okq (⟨"WarmerColderModel", "gathers", "()V"⟩, 39) := ⟨lw_cl11, lw_tt5 (List.mem_of_getElem? (i := 134) (by eq_refl)), lw_tt7 (List.mem_of_getElem? (i := 149) (by eq_refl)), lw_tt7 (List.mem_of_getElem? (i := 150) (by eq_refl))⟩
theorem lw_p156 : lw_okq (⟨"WarmerColderModel", "asks", "(I)V"⟩, 39) := ⟨lw_cl11, lw_tt5 (List.mem_of_getElem? (i := 134) (by eq_refl)), lw_tt7 (List.mem_of_getElem? (i := 153) (by eq_refl)), lw_tt7 (List.mem_of_getElem? (i := 154) (by eq_refl))⟩
theorem lw_p157 : lw_okq (⟨"WarmerColderModel", "leaves", "(III)Z"⟩, 39) := ⟨lw_cl11, lw_tt5 (List.mem_of_getElem? (i := 134) (by eq_refl)), lw_tt7 (List.mem_of_getElem? (i := 157) (by eq_refl)), lw_tt7 (List.mem_of_getElem? (i := 158) (by eq_refl))⟩
theorem lw_p158 : lw_okq (⟨"WarmerColderModel", "asksNext", "(Z)I"⟩, 39) := ⟨lw_cl11, lw_tt5 (List.mem_of_getElem? (i := 134) (by eq_refl)), lw_tt7 (List.mem_of_getElem? (i := 172) (by eq_refl)), lw_tt7 (List.mem_of_getElem? (i := 173) (by eq_refl))⟩
theorem lw_p159 : lw_okq (⟨"WarmerColderModel", "isOne", "(J)Z"⟩, 39) := ⟨lw_cl11, lw_tt5 (List.mem_of_getElem? (i := 134) (by eq_refl)), lw_tt7 (List.mem_of_getElem? (i := 180) (by eq_refl)), lw_tt7 (List.mem_of_getElem? (i := 181) (by eq_refl))⟩
noncomputable def lw_privs_10 : List (MethodName × Nat) := [(⟨"WarmerColderModel", "isTrue", "(II)Z"⟩, 39), (⟨"WarmerColderModel", "isNearer", "(IIII)Z"⟩, 39), (⟨"WarmerColderModel", "thingOf", "(II)I"⟩, 39), (⟨"WarmerColderModel", "wrongIn", "(II)I"⟩, 39), (⟨"WarmerColderModel", "isLookedAt", "(I)Z"⟩, 39), (⟨"WarmerColderModel", "keeps", "(III)I"⟩, 39), (⟨"WarmerColderModel", "keptWith", "(II)I"⟩, 39), (⟨"WarmerColderModel", "finds", "(I)V"⟩, 39), (⟨"WarmerColderModel", "areTrueTogether", "(II)Z"⟩, 39), (⟨"WarmerColderModel", "twelve", "()I"⟩, 39), (⟨"WarmerColderModel", "proves", "(II)Z"⟩, 39), (⟨"WarmerColderModel", "gathers", "()V"⟩, 39), (⟨"WarmerColderModel", "asks", "(I)V"⟩, 39), (⟨"WarmerColderModel", "leaves", "(III)Z"⟩, 39), (⟨"WarmerColderModel", "asksNext", "(Z)I"⟩, 39), (⟨"WarmerColderModel", "isOne", "(J)Z"⟩, 39)]
theorem lw_r10 : ∀ q ∈ lw_privs_10, lw_okq q := List.forall_mem_cons.mpr ⟨lw_p144, List.forall_mem_cons.mpr ⟨lw_p145, List.forall_mem_cons.mpr ⟨lw_p146, List.forall_mem_cons.mpr ⟨lw_p147, List.forall_mem_cons.mpr ⟨lw_p148, List.forall_mem_cons.mpr ⟨lw_p149, List.forall_mem_cons.mpr ⟨lw_p150, List.forall_mem_cons.mpr ⟨lw_p151, List.forall_mem_cons.mpr ⟨lw_p152, List.forall_mem_cons.mpr ⟨lw_p153, List.forall_mem_cons.mpr ⟨lw_p154, List.forall_mem_cons.mpr ⟨lw_p155, List.forall_mem_cons.mpr ⟨lw_p156, List.forall_mem_cons.mpr ⟨lw_p157, List.forall_mem_cons.mpr ⟨lw_p158, List.forall_mem_cons.mpr ⟨lw_p159, fun _ h => absurd h List.not_mem_nil⟩⟩⟩⟩⟩⟩⟩⟩⟩⟩⟩⟩⟩⟩⟩⟩
theorem lw_p160 : lw_okq (⟨"WarmerColderModel", "doesOne", "(J)Z"⟩, 39) := ⟨lw_cl11, lw_tt5 (List.mem_of_getElem? (i := 134) (by eq_refl)), lw_tt7 (List.mem_of_getElem? (i := 184) (by eq_refl)), lw_tt7 (List.mem_of_getElem? (i := 185) (by eq_refl))⟩
theorem lw_p161 : lw_okq (⟨"WarmerColderModel", "doesTwo", "(J)Z"⟩, 39) := ⟨lw_cl11, lw_tt5 (List.mem_of_getElem? (i := 134) (by eq_refl)), lw_tt7 (List.mem_of_getElem? (i := 188) (by eq_refl)), lw_tt7 (List.mem_of_getElem? (i := 189) (by eq_refl))⟩
theorem lw_p162 : lw_okq (⟨"WarmerColderModel", "doesThree", "(J)Z"⟩, 39) := ⟨lw_cl11, lw_tt5 (List.mem_of_getElem? (i := 134) (by eq_refl)), lw_tt7 (List.mem_of_getElem? (i := 192) (by eq_refl)), lw_tt7 (List.mem_of_getElem? (i := 193) (by eq_refl))⟩
noncomputable def lw_privs_11 : List (MethodName × Nat) := [(⟨"WarmerColderModel", "doesOne", "(J)Z"⟩, 39), (⟨"WarmerColderModel", "doesTwo", "(J)Z"⟩, 39), (⟨"WarmerColderModel", "doesThree", "(J)Z"⟩, 39)]
theorem lw_r11 : ∀ q ∈ lw_privs_11, lw_okq q := List.forall_mem_cons.mpr ⟨lw_p160, List.forall_mem_cons.mpr ⟨lw_p161, List.forall_mem_cons.mpr ⟨lw_p162, fun _ h => absurd h List.not_mem_nil⟩⟩⟩
noncomputable def lw_privs : List (MethodName × Nat) := lw_privs_1 ++ (lw_privs_2 ++ (lw_privs_3 ++ (lw_privs_4 ++ (lw_privs_5 ++ (lw_privs_6 ++ (lw_privs_7 ++ (lw_privs_8 ++ (lw_privs_9 ++ (lw_privs_10 ++ (lw_privs_11))))))))))
noncomputable def lw_tbl : List Cond := k2_sels lw_privs ++ tables_1
theorem lw_privs_ok : ∀ q ∈ lw_privs, lw_okq q := by
  show ∀ q ∈ lw_privs_1 ++ (lw_privs_2 ++ (lw_privs_3 ++ (lw_privs_4 ++ (lw_privs_5 ++ (lw_privs_6 ++ (lw_privs_7 ++ (lw_privs_8 ++ (lw_privs_9 ++ (lw_privs_10 ++ (lw_privs_11)))))))))), lw_okq q
  exact List.forall_mem_append.mpr ⟨lw_r1, List.forall_mem_append.mpr ⟨lw_r2, List.forall_mem_append.mpr ⟨lw_r3, List.forall_mem_append.mpr ⟨lw_r4, List.forall_mem_append.mpr ⟨lw_r5, List.forall_mem_append.mpr ⟨lw_r6, List.forall_mem_append.mpr ⟨lw_r7, List.forall_mem_append.mpr ⟨lw_r8, List.forall_mem_append.mpr ⟨lw_r9, List.forall_mem_append.mpr ⟨lw_r10, lw_r11⟩⟩⟩⟩⟩⟩⟩⟩⟩⟩
noncomputable def RX0 : String := "WarmerColder$Court"
noncomputable def TX0 : u_T := fun k => match k with
  | 0 => ("WarmerColder$Court", "many", "[I", true)
  | 1 => ("WarmerColder$Court", "first", "[I", true)
  | _ => ("WarmerColder$Court", "second", "[I", true)
noncomputable def tyX0 : Nat → FieldType := fun k => match k with
  | 0 => .array .int
  | 1 => .array .int
  | _ => .array .int
theorem nmX0 : ∀ a, a < 3 → ∀ b, b < 3 → a ≠ b → (TX0 a).2.1 ≠ (TX0 b).2.1 := by decide +kernel
theorem tyX0_ok : ∀ k, k < 3 → parseFieldDescriptor (TX0 k).2.2.1 = some (tyX0 k) := by decide +kernel
noncomputable abbrev cX0_init : ByteArray := prog_2_method_1_code
noncomputable def yX0_init : MethodName := ⟨RX0, "<init>", "()V"⟩
noncomputable abbrev cX0_clear : ByteArray := prog_2_method_2_code
noncomputable def yX0_clear : MethodName := ⟨RX0, "clear", "()V"⟩
noncomputable abbrev cX0_setHours : ByteArray := prog_2_method_3_code
noncomputable def yX0_setHours : MethodName := ⟨RX0, "setHours", "(I)V"⟩
noncomputable abbrev cX0_add : ByteArray := prog_2_method_4_code
noncomputable def yX0_add : MethodName := ⟨RX0, "add", "(III)V"⟩
noncomputable abbrev cX0_becomes : ByteArray := prog_2_method_5_code
noncomputable def yX0_becomes : MethodName := ⟨RX0, "becomes", "(LWarmerColder$Court;)V"⟩
noncomputable abbrev cX0_isTold : ByteArray := prog_2_method_6_code
noncomputable def yX0_isTold : MethodName := ⟨RX0, "isTold", "()Z"⟩
noncomputable abbrev cX0_worlds : ByteArray := prog_2_method_7_code
noncomputable def yX0_worlds : MethodName := ⟨RX0, "worlds", "()I"⟩
noncomputable abbrev cX0_manyOf : ByteArray := prog_2_method_8_code
noncomputable def yX0_manyOf : MethodName := ⟨RX0, "manyOf", "(I)I"⟩
noncomputable abbrev cX0_has : ByteArray := prog_2_method_9_code
noncomputable def yX0_has : MethodName := ⟨RX0, "has", "(II)Z"⟩
noncomputable abbrev cX0_firstOf : ByteArray := prog_2_method_10_code
noncomputable def yX0_firstOf : MethodName := ⟨RX0, "firstOf", "(II)I"⟩
noncomputable abbrev cX0_secondOf : ByteArray := prog_2_method_11_code
noncomputable def yX0_secondOf : MethodName := ⟨RX0, "secondOf", "(II)I"⟩
noncomputable abbrev cX0_bitsOf : ByteArray := prog_2_method_12_code
noncomputable def yX0_bitsOf : MethodName := ⟨RX0, "bitsOf", "(I)I"⟩
noncomputable abbrev cX0_bitsOfAll : ByteArray := prog_2_method_13_code
noncomputable def yX0_bitsOfAll : MethodName := ⟨RX0, "bitsOfAll", "()I"⟩
noncomputable abbrev cX0_thingIn : ByteArray := prog_2_method_14_code
noncomputable def yX0_thingIn : MethodName := ⟨RX0, "thingIn", "(II)I"⟩
noncomputable def RX1 : String := "WarmerColder$CourtReader"
noncomputable def TX1 : u_T := fun k => match k with
  | _ => ("WarmerColder$CourtReader", "hoursTold", "Z", false)
noncomputable def tyX1 : Nat → FieldType := fun k => match k with
  | _ => .boolean
theorem nmX1 : ∀ a, a < 1 → ∀ b, b < 1 → a ≠ b → (TX1 a).2.1 ≠ (TX1 b).2.1 := by decide +kernel
theorem tyX1_ok : ∀ k, k < 1 → parseFieldDescriptor (TX1 k).2.2.1 = some (tyX1 k) := by decide +kernel
noncomputable abbrev cX1_init : ByteArray := prog_3_method_1_code
noncomputable def yX1_init : MethodName := ⟨RX1, "<init>", "()V"⟩
noncomputable abbrev cX1_read : ByteArray := prog_3_method_2_code
noncomputable def yX1_read : MethodName := ⟨RX1, "read", "(LWarmerColder$Text;LWarmerColder$Court;)V"⟩
noncomputable abbrev cX1_readClause : ByteArray := prog_3_method_3_code
noncomputable def yX1_readClause : MethodName := ⟨RX1, "readClause", "(LWarmerColder$Text;LWarmerColder$Court;)V"⟩
noncomputable abbrev cX1_kindOf : ByteArray := prog_3_method_4_code
noncomputable def yX1_kindOf : MethodName := ⟨RX1, "kindOf", "(I)I"⟩
noncomputable def RX2 : String := "WarmerColder$Hearing"
noncomputable def TX2 : u_T := fun k => match k with
  | 0 => ("WarmerColder$Hearing", "court", "LWarmerColder$Court;", true)
  | 1 => ("WarmerColder$Hearing", "witness", "[I", true)
  | 2 => ("WarmerColder$Hearing", "kind", "[I", true)
  | 3 => ("WarmerColder$Hearing", "one", "[I", true)
  | 4 => ("WarmerColder$Hearing", "other", "[I", true)
  | 5 => ("WarmerColder$Hearing", "struck", "[Z", true)
  | 6 => ("WarmerColder$Hearing", "said", "I", false)
  | 7 => ("WarmerColder$Hearing", "limit", "I", false)
  | 8 => ("WarmerColder$Hearing", "verdictWorld", "[I", true)
  | 9 => ("WarmerColder$Hearing", "verdictAnswers", "[I", true)
  | 10 => ("WarmerColder$Hearing", "verdicts", "I", false)
  | _ => ("WarmerColder$Hearing", "x", "I", false)
noncomputable def tyX2 : Nat → FieldType := fun k => match k with
  | 0 => .object "WarmerColder$Court"
  | 1 => .array .int
  | 2 => .array .int
  | 3 => .array .int
  | 4 => .array .int
  | 5 => .array .boolean
  | 6 => .int
  | 7 => .int
  | 8 => .array .int
  | 9 => .array .int
  | 10 => .int
  | _ => .int
theorem nmX2 : ∀ a, a < 12 → ∀ b, b < 12 → a ≠ b → (TX2 a).2.1 ≠ (TX2 b).2.1 := by decide +kernel
theorem tyX2_ok : ∀ k, k < 12 → parseFieldDescriptor (TX2 k).2.2.1 = some (tyX2 k) := by decide +kernel
noncomputable abbrev cX2_init : ByteArray := prog_4_method_1_code
noncomputable def yX2_init : MethodName := ⟨RX2, "<init>", "()V"⟩
noncomputable abbrev cX2_open : ByteArray := prog_4_method_2_code
noncomputable def yX2_open : MethodName := ⟨RX2, "open", "(LWarmerColder$Court;)V"⟩
noncomputable abbrev cX2_becomes : ByteArray := prog_4_method_3_code
noncomputable def yX2_becomes : MethodName := ⟨RX2, "becomes", "(LWarmerColder$Hearing;)V"⟩
noncomputable abbrev cX2_mayStillGive : ByteArray := prog_4_method_4_code
noncomputable def yX2_mayStillGive : MethodName := ⟨RX2, "mayStillGive", "(I)I"⟩
noncomputable abbrev cX2_takeDown : ByteArray := prog_4_method_5_code
noncomputable def yX2_takeDown : MethodName := ⟨RX2, "takeDown", "(IIII)I"⟩
noncomputable abbrev cX2_hasAnswer : ByteArray := prog_4_method_6_code
noncomputable def yX2_hasAnswer : MethodName := ⟨RX2, "hasAnswer", "(I)Z"⟩
noncomputable abbrev cX2_isStruck : ByteArray := prog_4_method_7_code
noncomputable def yX2_isStruck : MethodName := ⟨RX2, "isStruck", "(I)Z"⟩
noncomputable abbrev cX2_setStruck : ByteArray := prog_4_method_8_code
noncomputable def yX2_setStruck : MethodName := ⟨RX2, "setStruck", "(IZ)V"⟩
noncomputable abbrev cX2_first : ByteArray := prog_4_method_9_code
noncomputable def yX2_first : MethodName := ⟨RX2, "first", "()I"⟩
noncomputable abbrev cX2_isLookedAt : ByteArray := prog_4_method_10_code
noncomputable def yX2_isLookedAt : MethodName := ⟨RX2, "isLookedAt", "(II)Z"⟩
noncomputable abbrev cX2_struckOnes : ByteArray := prog_4_method_11_code
noncomputable def yX2_struckOnes : MethodName := ⟨RX2, "struckOnes", "()I"⟩
noncomputable abbrev cX2_lookedAtOnes : ByteArray := prog_4_method_12_code
noncomputable def yX2_lookedAtOnes : MethodName := ⟨RX2, "lookedAtOnes", "()I"⟩
noncomputable abbrev cX2_judge : ByteArray := prog_4_method_13_code
noncomputable def yX2_judge : MethodName := ⟨RX2, "judge", "(I)V"⟩
noncomputable def RX3 : String := "WarmerColder$Law"
noncomputable def TX3 : u_T := fun k => match k with
  | 0 => ("WarmerColder$Law", "code", "[I", true)
  | 1 => ("WarmerColder$Law", "size", "I", false)
  | 2 => ("WarmerColder$Law", "clauseKind", "[I", true)
  | 3 => ("WarmerColder$Law", "sumFrom", "[I", true)
  | 4 => ("WarmerColder$Law", "testFrom", "[I", true)
  | 5 => ("WarmerColder$Law", "testTo", "[I", true)
  | 6 => ("WarmerColder$Law", "clauses", "I", false)
  | 7 => ("WarmerColder$Law", "words", "[J", true)
  | 8 => ("WarmerColder$Law", "stack", "[J", true)
  | 9 => ("WarmerColder$Law", "top", "I", false)
  | 10 => ("WarmerColder$Law", "fars", "[J", true)
  | 11 => ("WarmerColder$Law", "nears", "[I", true)
  | _ => ("WarmerColder$Law", "measured", "Z", false)
noncomputable def tyX3 : Nat → FieldType := fun k => match k with
  | 0 => .array .int
  | 1 => .int
  | 2 => .array .int
  | 3 => .array .int
  | 4 => .array .int
  | 5 => .array .int
  | 6 => .int
  | 7 => .array .long
  | 8 => .array .long
  | 9 => .int
  | 10 => .array .long
  | 11 => .array .int
  | _ => .boolean
theorem nmX3 : ∀ a, a < 13 → ∀ b, b < 13 → a ≠ b → (TX3 a).2.1 ≠ (TX3 b).2.1 := by decide +kernel
theorem tyX3_ok : ∀ k, k < 13 → parseFieldDescriptor (TX3 k).2.2.1 = some (tyX3 k) := by decide +kernel
noncomputable abbrev cX3_init : ByteArray := prog_5_method_1_code
noncomputable def yX3_init : MethodName := ⟨RX3, "<init>", "()V"⟩
noncomputable abbrev cX3_clear : ByteArray := prog_5_method_2_code
noncomputable def yX3_clear : MethodName := ⟨RX3, "clear", "()V"⟩
noncomputable abbrev cX3_put : ByteArray := prog_5_method_3_code
noncomputable def yX3_put : MethodName := ⟨RX3, "put", "(I)V"⟩
noncomputable abbrev cX3_addClause : ByteArray := prog_5_method_4_code
noncomputable def yX3_addClause : MethodName := ⟨RX3, "addClause", "(III)V"⟩
noncomputable abbrev cX3_cell : ByteArray := prog_5_method_5_code
noncomputable def yX3_cell : MethodName := ⟨RX3, "cell", "(III)I"⟩
noncomputable abbrev cX3_farOf : ByteArray := prog_5_method_6_code
noncomputable def yX3_farOf : MethodName := ⟨RX3, "farOf", "(III)J"⟩
noncomputable abbrev cX3_nearOf : ByteArray := prog_5_method_7_code
noncomputable def yX3_nearOf : MethodName := ⟨RX3, "nearOf", "(III)I"⟩
noncomputable abbrev cX3_measure : ByteArray := prog_5_method_8_code
noncomputable def yX3_measure : MethodName := ⟨RX3, "measure", "(LWarmerColder$Court;)V"⟩
noncomputable abbrev cX3_measureFar : ByteArray := prog_5_method_9_code
noncomputable def yX3_measureFar : MethodName := ⟨RX3, "measureFar", "(LWarmerColder$Court;I)V"⟩
noncomputable abbrev cX3_measureNear : ByteArray := prog_5_method_10_code
noncomputable def yX3_measureNear : MethodName := ⟨RX3, "measureNear", "(LWarmerColder$Court;I)V"⟩
noncomputable abbrev cX3_setWords : ByteArray := prog_5_method_11_code
noncomputable def yX3_setWords : MethodName := ⟨RX3, "setWords", "(LWarmerColder$Court;III)V"⟩
noncomputable abbrev cX3_setWord : ByteArray := prog_5_method_12_code
noncomputable def yX3_setWord : MethodName := ⟨RX3, "setWord", "(II)V"⟩
noncomputable abbrev cX3_wordOf : ByteArray := prog_5_method_13_code
noncomputable def yX3_wordOf : MethodName := ⟨RX3, "wordOf", "(I)J"⟩
noncomputable abbrev cX3_farByClauses : ByteArray := prog_5_method_14_code
noncomputable def yX3_farByClauses : MethodName := ⟨RX3, "farByClauses", "(I)J"⟩
noncomputable abbrev cX3_run : ByteArray := prog_5_method_15_code
noncomputable def yX3_run : MethodName := ⟨RX3, "run", "(II)J"⟩
noncomputable abbrev cX3_push : ByteArray := prog_5_method_16_code
noncomputable def yX3_push : MethodName := ⟨RX3, "push", "(J)V"⟩
noncomputable abbrev cX3_pop : ByteArray := prog_5_method_17_code
noncomputable def yX3_pop : MethodName := ⟨RX3, "pop", "()J"⟩
noncomputable abbrev cX3_joined : ByteArray := prog_5_method_18_code
noncomputable def yX3_joined : MethodName := ⟨RX3, "joined", "(IJJ)J"⟩
noncomputable def RX4 : String := "WarmerColder$LawReader"
noncomputable def TX4 : u_T := fun k => match k with
  | _ => ("WarmerColder$LawReader", "counted", "I", false)
noncomputable def tyX4 : Nat → FieldType := fun k => match k with
  | _ => .int
theorem nmX4 : ∀ a, a < 1 → ∀ b, b < 1 → a ≠ b → (TX4 a).2.1 ≠ (TX4 b).2.1 := by decide +kernel
theorem tyX4_ok : ∀ k, k < 1 → parseFieldDescriptor (TX4 k).2.2.1 = some (tyX4 k) := by decide +kernel
noncomputable abbrev cX4_init : ByteArray := prog_6_method_1_code
noncomputable def yX4_init : MethodName := ⟨RX4, "<init>", "()V"⟩
noncomputable abbrev cX4_read : ByteArray := prog_6_method_2_code
noncomputable def yX4_read : MethodName := ⟨RX4, "read", "(LWarmerColder$Text;LWarmerColder$Law;)V"⟩
noncomputable abbrev cX4_kindOf : ByteArray := prog_6_method_3_code
noncomputable def yX4_kindOf : MethodName := ⟨RX4, "kindOf", "(I)I"⟩
noncomputable abbrev cX4_readTest : ByteArray := prog_6_method_4_code
noncomputable def yX4_readTest : MethodName := ⟨RX4, "readTest", "(LWarmerColder$Text;LWarmerColder$Law;I)V"⟩
noncomputable abbrev cX4_readFact : ByteArray := prog_6_method_5_code
noncomputable def yX4_readFact : MethodName := ⟨RX4, "readFact", "(LWarmerColder$Text;LWarmerColder$Law;I)V"⟩
noncomputable abbrev cX4_readSum : ByteArray := prog_6_method_6_code
noncomputable def yX4_readSum : MethodName := ⟨RX4, "readSum", "(LWarmerColder$Text;LWarmerColder$Law;)V"⟩
noncomputable abbrev cX4_readValue : ByteArray := prog_6_method_7_code
noncomputable def yX4_readValue : MethodName := ⟨RX4, "readValue", "(LWarmerColder$Text;LWarmerColder$Law;)V"⟩
noncomputable def RX5 : String := "WarmerColder$Pairs"
noncomputable def TX5 : u_T := fun k => match k with
  | 0 => ("WarmerColder$Pairs", "kind", "[I", true)
  | 1 => ("WarmerColder$Pairs", "one", "[I", true)
  | 2 => ("WarmerColder$Pairs", "other", "[I", true)
  | _ => ("WarmerColder$Pairs", "many", "I", false)
noncomputable def tyX5 : Nat → FieldType := fun k => match k with
  | 0 => .array .int
  | 1 => .array .int
  | 2 => .array .int
  | _ => .int
theorem nmX5 : ∀ a, a < 4 → ∀ b, b < 4 → a ≠ b → (TX5 a).2.1 ≠ (TX5 b).2.1 := by decide +kernel
theorem tyX5_ok : ∀ k, k < 4 → parseFieldDescriptor (TX5 k).2.2.1 = some (tyX5 k) := by decide +kernel
noncomputable abbrev cX5_init : ByteArray := prog_7_method_1_code
noncomputable def yX5_init : MethodName := ⟨RX5, "<init>", "()V"⟩
noncomputable abbrev cX5_fill : ByteArray := prog_7_method_2_code
noncomputable def yX5_fill : MethodName := ⟨RX5, "fill", "(LWarmerColder$Court;)V"⟩
noncomputable abbrev cX5_add : ByteArray := prog_7_method_3_code
noncomputable def yX5_add : MethodName := ⟨RX5, "add", "(III)V"⟩
noncomputable abbrev cX5_nearForFirst : ByteArray := prog_7_method_4_code
noncomputable def yX5_nearForFirst : MethodName := ⟨RX5, "nearForFirst", "(LWarmerColder$Law;I)I"⟩
noncomputable abbrev cX5_nearForSecond : ByteArray := prog_7_method_5_code
noncomputable def yX5_nearForSecond : MethodName := ⟨RX5, "nearForSecond", "(LWarmerColder$Law;I)I"⟩
noncomputable abbrev cX5_leftForFirst : ByteArray := prog_7_method_6_code
noncomputable def yX5_leftForFirst : MethodName := ⟨RX5, "leftForFirst", "(LWarmerColder$Law;LWarmerColder$Tally;I)I"⟩
noncomputable abbrev cX5_leftForSecond : ByteArray := prog_7_method_7_code
noncomputable def yX5_leftForSecond : MethodName := ⟨RX5, "leftForSecond", "(LWarmerColder$Law;LWarmerColder$Tally;I)I"⟩
noncomputable abbrev cX5_greaterLeft : ByteArray := prog_7_method_8_code
noncomputable def yX5_greaterLeft : MethodName := ⟨RX5, "greaterLeft", "(LWarmerColder$Law;LWarmerColder$Tally;I)I"⟩
noncomputable abbrev cX5_nearAsIn : ByteArray := prog_7_method_9_code
noncomputable def yX5_nearAsIn : MethodName := ⟨RX5, "nearAsIn", "(LWarmerColder$Law;ILWarmerColder$Court;I)I"⟩
noncomputable abbrev cX5_leftAsIn : ByteArray := prog_7_method_10_code
noncomputable def yX5_leftAsIn : MethodName := ⟨RX5, "leftAsIn", "(LWarmerColder$Law;LWarmerColder$Tally;ILWarmerColder$Court;I)I"⟩
noncomputable abbrev cX5_best : ByteArray := prog_7_method_11_code
noncomputable def yX5_best : MethodName := ⟨RX5, "best", "(LWarmerColder$Law;LWarmerColder$Tally;I)I"⟩
noncomputable abbrev cX5_told : ByteArray := prog_7_method_12_code
noncomputable def yX5_told : MethodName := ⟨RX5, "told", "(IIII)I"⟩
noncomputable def RX6 : String := "WarmerColder$Singling"
noncomputable def TX6 : u_T := fun k => match k with
  | 0 => ("WarmerColder$Singling", "leftForFirst", "[I", true)
  | 1 => ("WarmerColder$Singling", "leftForSecond", "[I", true)
  | 2 => ("WarmerColder$Singling", "pairsFor", "[I", true)
  | 3 => ("WarmerColder$Singling", "pairCount", "I", false)
  | _ => ("WarmerColder$Singling", "worldCount", "I", false)
noncomputable def tyX6 : Nat → FieldType := fun k => match k with
  | 0 => .array .int
  | 1 => .array .int
  | 2 => .array .int
  | 3 => .int
  | _ => .int
theorem nmX6 : ∀ a, a < 5 → ∀ b, b < 5 → a ≠ b → (TX6 a).2.1 ≠ (TX6 b).2.1 := by decide +kernel
theorem tyX6_ok : ∀ k, k < 5 → parseFieldDescriptor (TX6 k).2.2.1 = some (tyX6 k) := by decide +kernel
noncomputable abbrev cX6_init : ByteArray := prog_8_method_1_code
noncomputable def yX6_init : MethodName := ⟨RX6, "<init>", "()V"⟩
noncomputable abbrev cX6_clear : ByteArray := prog_8_method_2_code
noncomputable def yX6_clear : MethodName := ⟨RX6, "clear", "(I)V"⟩
noncomputable abbrev cX6_add : ByteArray := prog_8_method_3_code
noncomputable def yX6_add : MethodName := ⟨RX6, "add", "(ILWarmerColder$Law;LWarmerColder$Court;LWarmerColder$Pairs;)V"⟩
noncomputable abbrev cX6_pairsForAll : ByteArray := prog_8_method_4_code
noncomputable def yX6_pairsForAll : MethodName := ⟨RX6, "pairsForAll", "()I"⟩
noncomputable abbrev cX6_fewestFor : ByteArray := prog_8_method_5_code
noncomputable def yX6_fewestFor : MethodName := ⟨RX6, "fewestFor", "(I)I"⟩
noncomputable def RX7 : String := "WarmerColder$Tally"
noncomputable def TX7 : u_T := fun k => match k with
  | 0 => ("WarmerColder$Tally", "counts", "[I", true)
  | _ => ("WarmerColder$Tally", "all", "I", false)
noncomputable def tyX7 : Nat → FieldType := fun k => match k with
  | 0 => .array .int
  | _ => .int
theorem nmX7 : ∀ a, a < 2 → ∀ b, b < 2 → a ≠ b → (TX7 a).2.1 ≠ (TX7 b).2.1 := by decide +kernel
theorem tyX7_ok : ∀ k, k < 2 → parseFieldDescriptor (TX7 k).2.2.1 = some (tyX7 k) := by decide +kernel
noncomputable abbrev cX7_init : ByteArray := prog_9_method_1_code
noncomputable def yX7_init : MethodName := ⟨RX7, "<init>", "()V"⟩
noncomputable abbrev cX7_clear : ByteArray := prog_9_method_2_code
noncomputable def yX7_clear : MethodName := ⟨RX7, "clear", "()V"⟩
noncomputable abbrev cX7_add : ByteArray := prog_9_method_3_code
noncomputable def yX7_add : MethodName := ⟨RX7, "add", "(III)V"⟩
noncomputable abbrev cX7_addOne : ByteArray := prog_9_method_4_code
noncomputable def yX7_addOne : MethodName := ⟨RX7, "addOne", "(I)V"⟩
noncomputable abbrev cX7_with : ByteArray := prog_9_method_5_code
noncomputable def yX7_with : MethodName := ⟨RX7, "with", "(II)I"⟩
noncomputable abbrev cX7_withAny : ByteArray := prog_9_method_6_code
noncomputable def yX7_withAny : MethodName := ⟨RX7, "withAny", "(II)I"⟩
noncomputable abbrev cX7_thingsOf : ByteArray := prog_9_method_7_code
noncomputable def yX7_thingsOf : MethodName := ⟨RX7, "thingsOf", "(I)I"⟩
noncomputable abbrev cX7_fillWith : ByteArray := prog_9_method_8_code
noncomputable def yX7_fillWith : MethodName := ⟨RX7, "fillWith", "(I)V"⟩
noncomputable abbrev cX7_keepOnly : ByteArray := prog_9_method_9_code
noncomputable def yX7_keepOnly : MethodName := ⟨RX7, "keepOnly", "(II)V"⟩
noncomputable def RX8 : String := "WarmerColder$Tape"
noncomputable def TX8 : u_T := fun k => match k with
  | 0 => ("WarmerColder$Tape", "bytes", "[B", true)
  | _ => ("WarmerColder$Tape", "size", "I", false)
noncomputable def tyX8 : Nat → FieldType := fun k => match k with
  | 0 => .array .byte
  | _ => .int
theorem nmX8 : ∀ a, a < 2 → ∀ b, b < 2 → a ≠ b → (TX8 a).2.1 ≠ (TX8 b).2.1 := by decide +kernel
theorem tyX8_ok : ∀ k, k < 2 → parseFieldDescriptor (TX8 k).2.2.1 = some (tyX8 k) := by decide +kernel
noncomputable abbrev cX8_init : ByteArray := prog_10_method_1_code
noncomputable def yX8_init : MethodName := ⟨RX8, "<init>", "()V"⟩
noncomputable abbrev cX8_putNumber : ByteArray := prog_10_method_2_code
noncomputable def yX8_putNumber : MethodName := ⟨RX8, "putNumber", "(I)V"⟩
noncomputable abbrev cX8_byteAt : ByteArray := prog_10_method_3_code
noncomputable def yX8_byteAt : MethodName := ⟨RX8, "byteAt", "(I)I"⟩
noncomputable abbrev cX8_isBetween : ByteArray := prog_10_method_4_code
noncomputable def yX8_isBetween : MethodName := ⟨RX8, "isBetween", "(ICC)Z"⟩
noncomputable abbrev cX8_spells : ByteArray := prog_10_method_5_code
noncomputable def yX8_spells : MethodName := ⟨RX8, "spells", "(IILjava/lang/String;)Z"⟩
noncomputable def RX9 : String := "WarmerColder$Text"
noncomputable def TX9 : u_T := fun k => match k with
  | 0 => ("WarmerColder$Text", "signs", "[I", true)
  | 1 => ("WarmerColder$Text", "places", "[I", true)
  | 2 => ("WarmerColder$Text", "numbers", "[I", true)
  | 3 => ("WarmerColder$Text", "size", "I", false)
  | 4 => ("WarmerColder$Text", "here", "I", false)
  | _ => ("WarmerColder$Text", "fault", "I", false)
noncomputable def tyX9 : Nat → FieldType := fun k => match k with
  | 0 => .array .int
  | 1 => .array .int
  | 2 => .array .int
  | 3 => .int
  | 4 => .int
  | _ => .int
theorem nmX9 : ∀ a, a < 6 → ∀ b, b < 6 → a ≠ b → (TX9 a).2.1 ≠ (TX9 b).2.1 := by decide +kernel
theorem tyX9_ok : ∀ k, k < 6 → parseFieldDescriptor (TX9 k).2.2.1 = some (tyX9 k) := by decide +kernel
noncomputable abbrev cX9_init : ByteArray := prog_11_method_1_code
noncomputable def yX9_init : MethodName := ⟨RX9, "<init>", "()V"⟩
noncomputable abbrev cX9_cut : ByteArray := prog_11_method_2_code
noncomputable def yX9_cut : MethodName := ⟨RX9, "cut", "(LWarmerColder$Tape;)V"⟩
noncomputable abbrev cX9_put : ByteArray := prog_11_method_3_code
noncomputable def yX9_put : MethodName := ⟨RX9, "put", "(III)V"⟩
noncomputable abbrev cX9_cutOne : ByteArray := prog_11_method_4_code
noncomputable def yX9_cutOne : MethodName := ⟨RX9, "cutOne", "(LWarmerColder$Tape;I)I"⟩
noncomputable abbrev cX9_endOf : ByteArray := prog_11_method_5_code
noncomputable def yX9_endOf : MethodName := ⟨RX9, "endOf", "(LWarmerColder$Tape;ICC)I"⟩
noncomputable abbrev cX9_numberAt : ByteArray := prog_11_method_6_code
noncomputable def yX9_numberAt : MethodName := ⟨RX9, "numberAt", "(LWarmerColder$Tape;II)I"⟩
noncomputable abbrev cX9_byteSign : ByteArray := prog_11_method_7_code
noncomputable def yX9_byteSign : MethodName := ⟨RX9, "byteSign", "(IZ)I"⟩
noncomputable abbrev cX9_wordSign : ByteArray := prog_11_method_8_code
noncomputable def yX9_wordSign : MethodName := ⟨RX9, "wordSign", "(LWarmerColder$Tape;II)I"⟩
noncomputable abbrev cX9_valueWordSign : ByteArray := prog_11_method_9_code
noncomputable def yX9_valueWordSign : MethodName := ⟨RX9, "valueWordSign", "(LWarmerColder$Tape;II)I"⟩
noncomputable abbrev cX9_sign : ByteArray := prog_11_method_10_code
noncomputable def yX9_sign : MethodName := ⟨RX9, "sign", "()I"⟩
noncomputable abbrev cX9_number : ByteArray := prog_11_method_11_code
noncomputable def yX9_number : MethodName := ⟨RX9, "number", "()I"⟩
noncomputable abbrev cX9_skip : ByteArray := prog_11_method_12_code
noncomputable def yX9_skip : MethodName := ⟨RX9, "skip", "()V"⟩
noncomputable abbrev cX9_take : ByteArray := prog_11_method_13_code
noncomputable def yX9_take : MethodName := ⟨RX9, "take", "(I)Z"⟩
noncomputable abbrev cX9_fail : ByteArray := prog_11_method_14_code
noncomputable def yX9_fail : MethodName := ⟨RX9, "fail", "(I)V"⟩
noncomputable abbrev cX9_takeNumber : ByteArray := prog_11_method_15_code
noncomputable def yX9_takeNumber : MethodName := ⟨RX9, "takeNumber", "(II)I"⟩
noncomputable def RX10 : String := "WarmerColder"
noncomputable def TX10 : u_T := fun k => match k with
  | 0 => ("WarmerColder", "tape", "LWarmerColder$Tape;", true)
  | 1 => ("WarmerColder", "text", "LWarmerColder$Text;", true)
  | 2 => ("WarmerColder", "courtReader", "LWarmerColder$CourtReader;", true)
  | 3 => ("WarmerColder", "lawReader", "LWarmerColder$LawReader;", true)
  | 4 => ("WarmerColder", "draft", "LWarmerColder$Court;", true)
  | 5 => ("WarmerColder", "laws", "[LWarmerColder$Law;", true)
  | 6 => ("WarmerColder", "lawCount", "I", false)
  | 7 => ("WarmerColder", "now", "LWarmerColder$Hearing;", true)
  | 8 => ("WarmerColder", "images", "[LWarmerColder$Hearing;", true)
  | 9 => ("WarmerColder", "imageMade", "[Z", true)
  | 10 => ("WarmerColder", "pairs", "LWarmerColder$Pairs;", true)
  | 11 => ("WarmerColder", "falseAt", "[I", true)
  | 12 => ("WarmerColder", "falseIn", "[I", true)
  | 13 => ("WarmerColder", "keptBy", "[I", true)
  | 14 => ("WarmerColder", "keptOnes", "LWarmerColder$Tally;", true)
  | 15 => ("WarmerColder", "fewerOnes", "LWarmerColder$Tally;", true)
  | 16 => ("WarmerColder", "proofThings", "[I", true)
  | _ => ("WarmerColder", "singling", "LWarmerColder$Singling;", true)
noncomputable def tyX10 : Nat → FieldType := fun k => match k with
  | 0 => .object "WarmerColder$Tape"
  | 1 => .object "WarmerColder$Text"
  | 2 => .object "WarmerColder$CourtReader"
  | 3 => .object "WarmerColder$LawReader"
  | 4 => .object "WarmerColder$Court"
  | 5 => .array (.object "WarmerColder$Law")
  | 6 => .int
  | 7 => .object "WarmerColder$Hearing"
  | 8 => .array (.object "WarmerColder$Hearing")
  | 9 => .array .boolean
  | 10 => .object "WarmerColder$Pairs"
  | 11 => .array .int
  | 12 => .array .int
  | 13 => .array .int
  | 14 => .object "WarmerColder$Tally"
  | 15 => .object "WarmerColder$Tally"
  | 16 => .array .int
  | _ => .object "WarmerColder$Singling"
theorem nmX10 : ∀ a, a < 18 → ∀ b, b < 18 → a ≠ b → (TX10 a).2.1 ≠ (TX10 b).2.1 := by decide +kernel
theorem tyX10_ok : ∀ k, k < 18 → parseFieldDescriptor (TX10 k).2.2.1 = some (tyX10 k) := by decide +kernel
noncomputable abbrev cX10_init : ByteArray := prog_1_method_1_code
noncomputable def yX10_init : MethodName := ⟨RX10, "<init>", "()V"⟩
noncomputable abbrev cX10_feed : ByteArray := prog_1_method_2_code
noncomputable def yX10_feed : MethodName := ⟨RX10, "feed", "(IIIII)I"⟩
noncomputable abbrev cX10_end : ByteArray := prog_1_method_3_code
noncomputable def yX10_end : MethodName := ⟨RX10, "end", "(I)I"⟩
noncomputable abbrev cX10_court : ByteArray := prog_1_method_4_code
noncomputable def yX10_court : MethodName := ⟨RX10, "court", "()I"⟩
noncomputable abbrev cX10_law : ByteArray := prog_1_method_5_code
noncomputable def yX10_law : MethodName := ⟨RX10, "law", "()I"⟩
noncomputable abbrev cX10_thing : ByteArray := prog_1_method_6_code
noncomputable def yX10_thing : MethodName := ⟨RX10, "thing", "(III)I"⟩
noncomputable abbrev cX10_far : ByteArray := prog_1_method_7_code
noncomputable def yX10_far : MethodName := ⟨RX10, "far", "(IIII)J"⟩
noncomputable abbrev cX10_answer : ByteArray := prog_1_method_8_code
noncomputable def yX10_answer : MethodName := ⟨RX10, "answer", "(IIII)I"⟩
noncomputable abbrev cX10_answers : ByteArray := prog_1_method_9_code
noncomputable def yX10_answers : MethodName := ⟨RX10, "answers", "(II)I"⟩
noncomputable abbrev cX10_strike : ByteArray := prog_1_method_10_code
noncomputable def yX10_strike : MethodName := ⟨RX10, "strike", "(IZ)Z"⟩
noncomputable abbrev cX10_only : ByteArray := prog_1_method_11_code
noncomputable def yX10_only : MethodName := ⟨RX10, "only", "(I)I"⟩
noncomputable abbrev cX10_spare : ByteArray := prog_1_method_12_code
noncomputable def yX10_spare : MethodName := ⟨RX10, "spare", "(I)I"⟩
noncomputable abbrev cX10_holds : ByteArray := prog_1_method_13_code
noncomputable def yX10_holds : MethodName := ⟨RX10, "holds", "(III)I"⟩
noncomputable abbrev cX10_wrong : ByteArray := prog_1_method_14_code
noncomputable def yX10_wrong : MethodName := ⟨RX10, "wrong", "(II)I"⟩
noncomputable abbrev cX10_kept : ByteArray := prog_1_method_15_code
noncomputable def yX10_kept : MethodName := ⟨RX10, "kept", "(II)I"⟩
noncomputable abbrev cX10_world : ByteArray := prog_1_method_16_code
noncomputable def yX10_world : MethodName := ⟨RX10, "world", "(III)I"⟩
noncomputable abbrev cX10_may : ByteArray := prog_1_method_17_code
noncomputable def yX10_may : MethodName := ⟨RX10, "may", "(IIII)I"⟩
noncomputable abbrev cX10_cleared : ByteArray := prog_1_method_18_code
noncomputable def yX10_cleared : MethodName := ⟨RX10, "cleared", "(II)I"⟩
noncomputable abbrev cX10_fewest : ByteArray := prog_1_method_19_code
noncomputable def yX10_fewest : MethodName := ⟨RX10, "fewest", "(II)I"⟩
noncomputable abbrev cX10_falseOnes : ByteArray := prog_1_method_20_code
noncomputable def yX10_falseOnes : MethodName := ⟨RX10, "falseOnes", "(I)J"⟩
noncomputable abbrev cX10_liars : ByteArray := prog_1_method_21_code
noncomputable def yX10_liars : MethodName := ⟨RX10, "liars", "(I)I"⟩
noncomputable abbrev cX10_quarrel : ByteArray := prog_1_method_22_code
noncomputable def yX10_quarrel : MethodName := ⟨RX10, "quarrel", "(I)I"⟩
noncomputable abbrev cX10_proof : ByteArray := prog_1_method_23_code
noncomputable def yX10_proof : MethodName := ⟨RX10, "proof", "(II)I"⟩
noncomputable abbrev cX10_byLaws : ByteArray := prog_1_method_24_code
noncomputable def yX10_byLaws : MethodName := ⟨RX10, "byLaws", "(III)I"⟩
noncomputable abbrev cX10_looks : ByteArray := prog_1_method_25_code
noncomputable def yX10_looks : MethodName := ⟨RX10, "looks", "(III)I"⟩
noncomputable abbrev cX10_sure : ByteArray := prog_1_method_26_code
noncomputable def yX10_sure : MethodName := ⟨RX10, "sure", "(III)I"⟩
noncomputable abbrev cX10_alone : ByteArray := prog_1_method_27_code
noncomputable def yX10_alone : MethodName := ⟨RX10, "alone", "(II)I"⟩
noncomputable abbrev cX10_mean : ByteArray := prog_1_method_28_code
noncomputable def yX10_mean : MethodName := ⟨RX10, "mean", "(III)I"⟩
noncomputable abbrev cX10_filled : ByteArray := prog_1_method_29_code
noncomputable def yX10_filled : MethodName := ⟨RX10, "filled", "(III)I"⟩
noncomputable abbrev cX10_useful : ByteArray := prog_1_method_30_code
noncomputable def yX10_useful : MethodName := ⟨RX10, "useful", "(III)I"⟩
noncomputable abbrev cX10_next : ByteArray := prog_1_method_31_code
noncomputable def yX10_next : MethodName := ⟨RX10, "next", "(IIII)I"⟩
noncomputable abbrev cX10_needed : ByteArray := prog_1_method_32_code
noncomputable def yX10_needed : MethodName := ⟨RX10, "needed", "(II)I"⟩
noncomputable abbrev cX10_steered : ByteArray := prog_1_method_33_code
noncomputable def yX10_steered : MethodName := ⟨RX10, "steered", "(IIIII)I"⟩
noncomputable abbrev cX10_seed : ByteArray := prog_1_method_34_code
noncomputable def yX10_seed : MethodName := ⟨RX10, "seed", "(I)I"⟩
noncomputable abbrev cX10_trials : ByteArray := prog_1_method_35_code
noncomputable def yX10_trials : MethodName := ⟨RX10, "trials", "(III)I"⟩
noncomputable abbrev cX10_verdict : ByteArray := prog_1_method_36_code
noncomputable def yX10_verdict : MethodName := ⟨RX10, "verdict", "(I)I"⟩
noncomputable abbrev cX10_old : ByteArray := prog_1_method_37_code
noncomputable def yX10_old : MethodName := ⟨RX10, "old", "(IIII)I"⟩
noncomputable abbrev cX10_count : ByteArray := prog_1_method_38_code
noncomputable def yX10_count : MethodName := ⟨RX10, "count", "(I)I"⟩
noncomputable abbrev cX10_image : ByteArray := prog_1_method_39_code
noncomputable def yX10_image : MethodName := ⟨RX10, "image", "(I)I"⟩
noncomputable abbrev cX10_back : ByteArray := prog_1_method_40_code
noncomputable def yX10_back : MethodName := ⟨RX10, "back", "(I)I"⟩
noncomputable abbrev cX10_isOutside : ByteArray := prog_1_method_41_code
noncomputable def yX10_isOutside : MethodName := ⟨RX10, "isOutside", "(II)Z"⟩
noncomputable abbrev cX10_at : ByteArray := prog_1_method_42_code
noncomputable def yX10_at : MethodName := ⟨RX10, "at", "([II)I"⟩
noncomputable abbrev cX10_set : ByteArray := prog_1_method_43_code
noncomputable def yX10_set : MethodName := ⟨RX10, "set", "([III)V"⟩
noncomputable abbrev cX10_slot : ByteArray := prog_1_method_44_code
noncomputable def yX10_slot : MethodName := ⟨RX10, "slot", "(II)I"⟩
noncomputable abbrev cX10_isLesserSet : ByteArray := prog_1_method_45_code
noncomputable def yX10_isLesserSet : MethodName := ⟨RX10, "isLesserSet", "(II)Z"⟩
noncomputable abbrev cX10_drawn : ByteArray := prog_1_method_46_code
noncomputable def yX10_drawn : MethodName := ⟨RX10, "drawn", "(I)I"⟩
noncomputable abbrev cX10_lowerBound : ByteArray := prog_1_method_47_code
noncomputable def yX10_lowerBound : MethodName := ⟨RX10, "lowerBound", "(I)I"⟩
noncomputable abbrev cX10_courtIsAnother : ByteArray := prog_1_method_48_code
noncomputable def yX10_courtIsAnother : MethodName := ⟨RX10, "courtIsAnother", "()V"⟩
noncomputable abbrev cX10_lawInUse : ByteArray := prog_1_method_49_code
noncomputable def yX10_lawInUse : MethodName := ⟨RX10, "lawInUse", "(I)LWarmerColder$Law;"⟩
noncomputable abbrev cX10_lawWithKept : ByteArray := prog_1_method_50_code
noncomputable def yX10_lawWithKept : MethodName := ⟨RX10, "lawWithKept", "(II)LWarmerColder$Law;"⟩
noncomputable abbrev cX10_nearThings : ByteArray := prog_1_method_51_code
noncomputable def yX10_nearThings : MethodName := ⟨RX10, "nearThings", "(LWarmerColder$Law;I)I"⟩
noncomputable abbrev cX10_trueThings : ByteArray := prog_1_method_52_code
noncomputable def yX10_trueThings : MethodName := ⟨RX10, "trueThings", "(LWarmerColder$Law;I)I"⟩
noncomputable abbrev cX10_isTrue : ByteArray := prog_1_method_53_code
noncomputable def yX10_isTrue : MethodName := ⟨RX10, "isTrue", "(LWarmerColder$Law;II)Z"⟩
noncomputable abbrev cX10_hasWorld : ByteArray := prog_1_method_54_code
noncomputable def yX10_hasWorld : MethodName := ⟨RX10, "hasWorld", "(I)Z"⟩
noncomputable abbrev cX10_countFalse : ByteArray := prog_1_method_55_code
noncomputable def yX10_countFalse : MethodName := ⟨RX10, "countFalse", "(LWarmerColder$Law;III)V"⟩
noncomputable abbrev cX10_addFalse : ByteArray := prog_1_method_56_code
noncomputable def yX10_addFalse : MethodName := ⟨RX10, "addFalse", "(II)V"⟩
noncomputable abbrev cX10_empty : ByteArray := prog_1_method_57_code
noncomputable def yX10_empty : MethodName := ⟨RX10, "empty", "([I)V"⟩
noncomputable abbrev cX10_fillKept : ByteArray := prog_1_method_58_code
noncomputable def yX10_fillKept : MethodName := ⟨RX10, "fillKept", "(LWarmerColder$Tally;II)V"⟩
noncomputable abbrev cX10_worldsWithAtMost : ByteArray := prog_1_method_59_code
noncomputable def yX10_worldsWithAtMost : MethodName := ⟨RX10, "worldsWithAtMost", "(I)I"⟩
noncomputable abbrev cX10_bestWorld : ByteArray := prog_1_method_60_code
noncomputable def yX10_bestWorld : MethodName := ⟨RX10, "bestWorld", "(LWarmerColder$Law;)I"⟩
noncomputable abbrev cX10_markLiars : ByteArray := prog_1_method_61_code
noncomputable def yX10_markLiars : MethodName := ⟨RX10, "markLiars", "(LWarmerColder$Law;)V"⟩
noncomputable abbrev cX10_gatherProof : ByteArray := prog_1_method_62_code
noncomputable def yX10_gatherProof : MethodName := ⟨RX10, "gatherProof", "(LWarmerColder$Law;)I"⟩
noncomputable abbrev cX10_provesMan : ByteArray := prog_1_method_63_code
noncomputable def yX10_provesMan : MethodName := ⟨RX10, "provesMan", "(III)Z"⟩
noncomputable abbrev cX10_countKeptBy : ByteArray := prog_1_method_64_code
noncomputable def yX10_countKeptBy : MethodName := ⟨RX10, "countKeptBy", "(II)V"⟩
noncomputable abbrev cX10_usefulPairs : ByteArray := prog_1_method_65_code
noncomputable def yX10_usefulPairs : MethodName := ⟨RX10, "usefulPairs", "(LWarmerColder$Law;)I"⟩
noncomputable abbrev cX10_trial : ByteArray := prog_1_method_66_code
noncomputable def yX10_trial : MethodName := ⟨RX10, "trial", "(LWarmerColder$Law;I)I"⟩
noncomputable def RX11 : String := "WarmerColderModel"
noncomputable def TX11 : u_T := fun k => match k with
  | 0 => ("WarmerColderModel", "tape", "[B", true)
  | 1 => ("WarmerColderModel", "taped", "I", false)
  | 2 => ("WarmerColderModel", "laws", "I", false)
  | 3 => ("WarmerColderModel", "sign", "[I", true)
  | 4 => ("WarmerColderModel", "length", "[I", true)
  | 5 => ("WarmerColderModel", "clause", "[I", true)
  | 6 => ("WarmerColderModel", "clauses", "[I", true)
  | 7 => ("WarmerColderModel", "hoursRead", "I", false)
  | 8 => ("WarmerColderModel", "roadsRead", "I", false)
  | 9 => ("WarmerColderModel", "menRead", "I", false)
  | 10 => ("WarmerColderModel", "roadRead", "[I", true)
  | 11 => ("WarmerColderModel", "manRead", "[I", true)
  | 12 => ("WarmerColderModel", "next", "I", false)
  | 13 => ("WarmerColderModel", "wrong", "I", false)
  | 14 => ("WarmerColderModel", "number", "I", false)
  | 15 => ("WarmerColderModel", "text", "I", false)
  | 16 => ("WarmerColderModel", "made", "I", false)
  | 17 => ("WarmerColderModel", "deep", "I", false)
  | 18 => ("WarmerColderModel", "lines", "I", false)
  | 19 => ("WarmerColderModel", "open", "[I", true)
  | 20 => ("WarmerColderModel", "opened", "I", false)
  | 21 => ("WarmerColderModel", "stack", "[J", true)
  | 22 => ("WarmerColderModel", "top", "I", false)
  | 23 => ("WarmerColderModel", "word", "[J", true)
  | 24 => ("WarmerColderModel", "said", "[I", true)
  | 25 => ("WarmerColderModel", "fars", "[J", true)
  | 26 => ("WarmerColderModel", "isKept", "[Z", true)
  | 27 => ("WarmerColderModel", "best", "I", false)
  | 28 => ("WarmerColderModel", "least", "I", false)
  | 29 => ("WarmerColderModel", "asGood", "I", false)
  | 30 => ("WarmerColderModel", "trueOnes", "[I", true)
  | 31 => ("WarmerColderModel", "keptBy", "[I", true)
  | 32 => ("WarmerColderModel", "pair", "[I", true)
  | 33 => ("WarmerColderModel", "pairs", "I", false)
  | 34 => ("WarmerColderModel", "leftOne", "I", false)
  | 35 => ("WarmerColderModel", "leftOther", "I", false)
  | 36 => ("WarmerColderModel", "leftBy", "[J", true)
  | 37 => ("WarmerColderModel", "images", "[I", true)
  | _ => ("WarmerColderModel", "isMade", "[Z", true)
noncomputable def tyX11 : Nat → FieldType := fun k => match k with
  | 0 => .array .byte
  | 1 => .int
  | 2 => .int
  | 3 => .array .int
  | 4 => .array .int
  | 5 => .array .int
  | 6 => .array .int
  | 7 => .int
  | 8 => .int
  | 9 => .int
  | 10 => .array .int
  | 11 => .array .int
  | 12 => .int
  | 13 => .int
  | 14 => .int
  | 15 => .int
  | 16 => .int
  | 17 => .int
  | 18 => .int
  | 19 => .array .int
  | 20 => .int
  | 21 => .array .long
  | 22 => .int
  | 23 => .array .long
  | 24 => .array .int
  | 25 => .array .long
  | 26 => .array .boolean
  | 27 => .int
  | 28 => .int
  | 29 => .int
  | 30 => .array .int
  | 31 => .array .int
  | 32 => .array .int
  | 33 => .int
  | 34 => .int
  | 35 => .int
  | 36 => .array .long
  | 37 => .array .int
  | _ => .array .boolean
theorem nmX11 : ∀ a, a < 39 → ∀ b, b < 39 → a ≠ b → (TX11 a).2.1 ≠ (TX11 b).2.1 := by decide +kernel
theorem tyX11_ok : ∀ k, k < 39 → parseFieldDescriptor (TX11 k).2.2.1 = some (tyX11 k) := by decide +kernel
noncomputable abbrev cX11_init : ByteArray := prog_13_method_1_code
noncomputable def yX11_init : MethodName := ⟨RX11, "<init>", "()V"⟩
noncomputable abbrev cX11_in : ByteArray := prog_13_method_2_code
noncomputable def yX11_in : MethodName := ⟨RX11, "in", "(JJJ)Z"⟩
noncomputable abbrev cX11_bits : ByteArray := prog_13_method_3_code
noncomputable def yX11_bits : MethodName := ⟨RX11, "bits", "(J)I"⟩
noncomputable abbrev cX11_four : ByteArray := prog_13_method_4_code
noncomputable def yX11_four : MethodName := ⟨RX11, "four", "(I)V"⟩
noncomputable abbrev cX11_feed : ByteArray := prog_13_method_5_code
noncomputable def yX11_feed : MethodName := ⟨RX11, "feed", "(IIIII)I"⟩
noncomputable abbrev cX11_end : ByteArray := prog_13_method_6_code
noncomputable def yX11_end : MethodName := ⟨RX11, "end", "(I)I"⟩
noncomputable abbrev cX11_fails : ByteArray := prog_13_method_7_code
noncomputable def yX11_fails : MethodName := ⟨RX11, "fails", "(II)Z"⟩
noncomputable abbrev cX11_see : ByteArray := prog_13_method_8_code
noncomputable def yX11_see : MethodName := ⟨RX11, "see", "()I"⟩
noncomputable abbrev cX11_isDigit : ByteArray := prog_13_method_9_code
noncomputable def yX11_isDigit : MethodName := ⟨RX11, "isDigit", "(I)Z"⟩
noncomputable abbrev cX11_isLetter : ByteArray := prog_13_method_10_code
noncomputable def yX11_isLetter : MethodName := ⟨RX11, "isLetter", "(I)Z"⟩
noncomputable abbrev cX11_isWord : ByteArray := prog_13_method_11_code
noncomputable def yX11_isWord : MethodName := ⟨RX11, "isWord", "(J)Z"⟩
noncomputable abbrev cX11_passWord : ByteArray := prog_13_method_12_code
noncomputable def yX11_passWord : MethodName := ⟨RX11, "passWord", "()V"⟩
noncomputable abbrev cX11_takesWord : ByteArray := prog_13_method_13_code
noncomputable def yX11_takesWord : MethodName := ⟨RX11, "takesWord", "(J)Z"⟩
noncomputable abbrev cX11_numberHere : ByteArray := prog_13_method_14_code
noncomputable def yX11_numberHere : MethodName := ⟨RX11, "numberHere", "(II)Z"⟩
noncomputable abbrev cX11_wordHere : ByteArray := prog_13_method_15_code
noncomputable def yX11_wordHere : MethodName := ⟨RX11, "wordHere", "()I"⟩
noncomputable abbrev cX11_puts : ByteArray := prog_13_method_16_code
noncomputable def yX11_puts : MethodName := ⟨RX11, "puts", "(II)V"⟩
noncomputable abbrev cX11_makes : ByteArray := prog_13_method_17_code
noncomputable def yX11_makes : MethodName := ⟨RX11, "makes", "(I)Z"⟩
noncomputable abbrev cX11_opens : ByteArray := prog_13_method_18_code
noncomputable def yX11_opens : MethodName := ⟨RX11, "opens", "(I)Z"⟩
noncomputable abbrev cX11_strength : ByteArray := prog_13_method_19_code
noncomputable def yX11_strength : MethodName := ⟨RX11, "strength", "(I)I"⟩
noncomputable abbrev cX11_settles : ByteArray := prog_13_method_20_code
noncomputable def yX11_settles : MethodName := ⟨RX11, "settles", "(I)V"⟩
noncomputable abbrev cX11_value : ByteArray := prog_13_method_21_code
noncomputable def yX11_value : MethodName := ⟨RX11, "value", "()Z"⟩
noncomputable abbrev cX11_term : ByteArray := prog_13_method_22_code
noncomputable def yX11_term : MethodName := ⟨RX11, "term", "()Z"⟩
noncomputable abbrev cX11_sum : ByteArray := prog_13_method_23_code
noncomputable def yX11_sum : MethodName := ⟨RX11, "sum", "()Z"⟩
noncomputable abbrev cX11_compare : ByteArray := prog_13_method_24_code
noncomputable def yX11_compare : MethodName := ⟨RX11, "compare", "()Z"⟩
noncomputable abbrev cX11_fact : ByteArray := prog_13_method_25_code
noncomputable def yX11_fact : MethodName := ⟨RX11, "fact", "()Z"⟩
noncomputable abbrev cX11_isInside : ByteArray := prog_13_method_26_code
noncomputable def yX11_isInside : MethodName := ⟨RX11, "isInside", "()Z"⟩
noncomputable abbrev cX11_closes : ByteArray := prog_13_method_27_code
noncomputable def yX11_closes : MethodName := ⟨RX11, "closes", "()V"⟩
noncomputable abbrev cX11_tested : ByteArray := prog_13_method_28_code
noncomputable def yX11_tested : MethodName := ⟨RX11, "tested", "()Z"⟩
noncomputable abbrev cX11_clauseOf : ByteArray := prog_13_method_29_code
noncomputable def yX11_clauseOf : MethodName := ⟨RX11, "clauseOf", "(I)Z"⟩
noncomputable abbrev cX11_isRoadHere : ByteArray := prog_13_method_30_code
noncomputable def yX11_isRoadHere : MethodName := ⟨RX11, "isRoadHere", "()Z"⟩
noncomputable abbrev cX11_isManHere : ByteArray := prog_13_method_31_code
noncomputable def yX11_isManHere : MethodName := ⟨RX11, "isManHere", "()Z"⟩
noncomputable abbrev cX11_courtLineHere : ByteArray := prog_13_method_32_code
noncomputable def yX11_courtLineHere : MethodName := ⟨RX11, "courtLineHere", "(I)Z"⟩
noncomputable abbrev cX11_clauseHere : ByteArray := prog_13_method_33_code
noncomputable def yX11_clauseHere : MethodName := ⟨RX11, "clauseHere", "()Z"⟩
noncomputable abbrev cX11_readsAll : ByteArray := prog_13_method_34_code
noncomputable def yX11_readsAll : MethodName := ⟨RX11, "readsAll", "()Z"⟩
noncomputable abbrev cX11_law : ByteArray := prog_13_method_35_code
noncomputable def yX11_law : MethodName := ⟨RX11, "law", "()I"⟩
noncomputable abbrev cX11_court : ByteArray := prog_13_method_36_code
noncomputable def yX11_court : MethodName := ⟨RX11, "court", "()I"⟩
noncomputable abbrev cX11_isLaw : ByteArray := prog_13_method_37_code
noncomputable def yX11_isLaw : MethodName := ⟨RX11, "isLaw", "(I)Z"⟩
noncomputable abbrev cX11_push : ByteArray := prog_13_method_38_code
noncomputable def yX11_push : MethodName := ⟨RX11, "push", "(J)V"⟩
noncomputable abbrev cX11_pop : ByteArray := prog_13_method_39_code
noncomputable def yX11_pop : MethodName := ⟨RX11, "pop", "()J"⟩
noncomputable abbrev cX11_one : ByteArray := prog_13_method_40_code
noncomputable def yX11_one : MethodName := ⟨RX11, "one", "(IJJ)J"⟩
noncomputable abbrev cX11_reckons : ByteArray := prog_13_method_41_code
noncomputable def yX11_reckons : MethodName := ⟨RX11, "reckons", "(III)J"⟩
noncomputable abbrev cX11_isCourt : ByteArray := prog_13_method_42_code
noncomputable def yX11_isCourt : MethodName := ⟨RX11, "isCourt", "()Z"⟩
noncomputable abbrev cX11_worlds : ByteArray := prog_13_method_43_code
noncomputable def yX11_worlds : MethodName := ⟨RX11, "worlds", "()I"⟩
noncomputable abbrev cX11_isKind : ByteArray := prog_13_method_44_code
noncomputable def yX11_isKind : MethodName := ⟨RX11, "isKind", "(I)Z"⟩
noncomputable abbrev cX11_isThing : ByteArray := prog_13_method_45_code
noncomputable def yX11_isThing : MethodName := ⟨RX11, "isThing", "(II)Z"⟩
noncomputable abbrev cX11_isWorld : ByteArray := prog_13_method_46_code
noncomputable def yX11_isWorld : MethodName := ⟨RX11, "isWorld", "(I)Z"⟩
noncomputable abbrev cX11_isWitness : ByteArray := prog_13_method_47_code
noncomputable def yX11_isWitness : MethodName := ⟨RX11, "isWitness", "(I)Z"⟩
noncomputable abbrev cX11_isAnswer : ByteArray := prog_13_method_48_code
noncomputable def yX11_isAnswer : MethodName := ⟨RX11, "isAnswer", "(I)Z"⟩
noncomputable abbrev cX11_answerOf : ByteArray := prog_13_method_49_code
noncomputable def yX11_answerOf : MethodName := ⟨RX11, "answerOf", "(II)I"⟩
noncomputable abbrev cX11_thingOf : ByteArray := prog_13_method_50_code
noncomputable def yX11_thingOf : MethodName := ⟨RX11, "thingOf", "(II)I"⟩
noncomputable abbrev cX11_thing : ByteArray := prog_13_method_51_code
noncomputable def yX11_thing : MethodName := ⟨RX11, "thing", "(III)I"⟩
noncomputable abbrev cX11_apart : ByteArray := prog_13_method_52_code
noncomputable def yX11_apart : MethodName := ⟨RX11, "apart", "(II)I"⟩
noncomputable abbrev cX11_words : ByteArray := prog_13_method_53_code
noncomputable def yX11_words : MethodName := ⟨RX11, "words", "(III)V"⟩
noncomputable abbrev cX11_farBy : ByteArray := prog_13_method_54_code
noncomputable def yX11_farBy : MethodName := ⟨RX11, "farBy", "(IIII)J"⟩
noncomputable abbrev cX11_far : ByteArray := prog_13_method_55_code
noncomputable def yX11_far : MethodName := ⟨RX11, "far", "(IIII)J"⟩
noncomputable abbrev cX11_answersBy : ByteArray := prog_13_method_56_code
noncomputable def yX11_answersBy : MethodName := ⟨RX11, "answersBy", "(I)I"⟩
noncomputable abbrev cX11_answer : ByteArray := prog_13_method_57_code
noncomputable def yX11_answer : MethodName := ⟨RX11, "answer", "(IIII)I"⟩
noncomputable abbrev cX11_answers : ByteArray := prog_13_method_58_code
noncomputable def yX11_answers : MethodName := ⟨RX11, "answers", "(II)I"⟩
noncomputable abbrev cX11_strike : ByteArray := prog_13_method_59_code
noncomputable def yX11_strike : MethodName := ⟨RX11, "strike", "(IZ)Z"⟩
noncomputable abbrev cX11_only : ByteArray := prog_13_method_60_code
noncomputable def yX11_only : MethodName := ⟨RX11, "only", "(I)I"⟩
noncomputable abbrev cX11_isLookedAt : ByteArray := prog_13_method_61_code
noncomputable def yX11_isLookedAt : MethodName := ⟨RX11, "isLookedAt", "(I)Z"⟩
noncomputable abbrev cX11_reaches : ByteArray := prog_13_method_62_code
noncomputable def yX11_reaches : MethodName := ⟨RX11, "reaches", "(I)V"⟩
noncomputable abbrev cX11_isNearer : ByteArray := prog_13_method_63_code
noncomputable def yX11_isNearer : MethodName := ⟨RX11, "isNearer", "(IIII)Z"⟩
noncomputable abbrev cX11_isTrue : ByteArray := prog_13_method_64_code
noncomputable def yX11_isTrue : MethodName := ⟨RX11, "isTrue", "(II)Z"⟩
noncomputable abbrev cX11_wrongIn : ByteArray := prog_13_method_65_code
noncomputable def yX11_wrongIn : MethodName := ⟨RX11, "wrongIn", "(II)I"⟩
noncomputable abbrev cX11_canAsk : ByteArray := prog_13_method_66_code
noncomputable def yX11_canAsk : MethodName := ⟨RX11, "canAsk", "(I)Z"⟩
noncomputable abbrev cX11_isMany : ByteArray := prog_13_method_67_code
noncomputable def yX11_isMany : MethodName := ⟨RX11, "isMany", "(I)Z"⟩
noncomputable abbrev cX11_keeps : ByteArray := prog_13_method_68_code
noncomputable def yX11_keeps : MethodName := ⟨RX11, "keeps", "(III)I"⟩
noncomputable abbrev cX11_holds : ByteArray := prog_13_method_69_code
noncomputable def yX11_holds : MethodName := ⟨RX11, "holds", "(III)I"⟩
noncomputable abbrev cX11_wrong : ByteArray := prog_13_method_70_code
noncomputable def yX11_wrong : MethodName := ⟨RX11, "wrong", "(II)I"⟩
noncomputable abbrev cX11_kept : ByteArray := prog_13_method_71_code
noncomputable def yX11_kept : MethodName := ⟨RX11, "kept", "(II)I"⟩
noncomputable abbrev cX11_world : ByteArray := prog_13_method_72_code
noncomputable def yX11_world : MethodName := ⟨RX11, "world", "(III)I"⟩
noncomputable abbrev cX11_keptWith : ByteArray := prog_13_method_73_code
noncomputable def yX11_keptWith : MethodName := ⟨RX11, "keptWith", "(II)I"⟩
noncomputable abbrev cX11_may : ByteArray := prog_13_method_74_code
noncomputable def yX11_may : MethodName := ⟨RX11, "may", "(IIII)I"⟩
noncomputable abbrev cX11_cleared : ByteArray := prog_13_method_75_code
noncomputable def yX11_cleared : MethodName := ⟨RX11, "cleared", "(II)I"⟩
noncomputable abbrev cX11_finds : ByteArray := prog_13_method_76_code
noncomputable def yX11_finds : MethodName := ⟨RX11, "finds", "(I)V"⟩
noncomputable abbrev cX11_fewest : ByteArray := prog_13_method_77_code
noncomputable def yX11_fewest : MethodName := ⟨RX11, "fewest", "(II)I"⟩
noncomputable abbrev cX11_falseOnes : ByteArray := prog_13_method_78_code
noncomputable def yX11_falseOnes : MethodName := ⟨RX11, "falseOnes", "(I)J"⟩
noncomputable abbrev cX11_liars : ByteArray := prog_13_method_79_code
noncomputable def yX11_liars : MethodName := ⟨RX11, "liars", "(I)I"⟩
noncomputable abbrev cX11_areTrueTogether : ByteArray := prog_13_method_80_code
noncomputable def yX11_areTrueTogether : MethodName := ⟨RX11, "areTrueTogether", "(II)Z"⟩
noncomputable abbrev cX11_quarrel : ByteArray := prog_13_method_81_code
noncomputable def yX11_quarrel : MethodName := ⟨RX11, "quarrel", "(I)I"⟩
noncomputable abbrev cX11_twelve : ByteArray := prog_13_method_82_code
noncomputable def yX11_twelve : MethodName := ⟨RX11, "twelve", "()I"⟩
noncomputable abbrev cX11_proves : ByteArray := prog_13_method_83_code
noncomputable def yX11_proves : MethodName := ⟨RX11, "proves", "(II)Z"⟩
noncomputable abbrev cX11_proof : ByteArray := prog_13_method_84_code
noncomputable def yX11_proof : MethodName := ⟨RX11, "proof", "(II)I"⟩
noncomputable abbrev cX11_byLaws : ByteArray := prog_13_method_85_code
noncomputable def yX11_byLaws : MethodName := ⟨RX11, "byLaws", "(III)I"⟩
noncomputable abbrev cX11_looks : ByteArray := prog_13_method_86_code
noncomputable def yX11_looks : MethodName := ⟨RX11, "looks", "(III)I"⟩
noncomputable abbrev cX11_sure : ByteArray := prog_13_method_87_code
noncomputable def yX11_sure : MethodName := ⟨RX11, "sure", "(III)I"⟩
noncomputable abbrev cX11_alone : ByteArray := prog_13_method_88_code
noncomputable def yX11_alone : MethodName := ⟨RX11, "alone", "(II)I"⟩
noncomputable abbrev cX11_mean : ByteArray := prog_13_method_89_code
noncomputable def yX11_mean : MethodName := ⟨RX11, "mean", "(III)I"⟩
noncomputable abbrev cX11_gathers : ByteArray := prog_13_method_90_code
noncomputable def yX11_gathers : MethodName := ⟨RX11, "gathers", "()V"⟩
noncomputable abbrev cX11_leaves : ByteArray := prog_13_method_91_code
noncomputable def yX11_leaves : MethodName := ⟨RX11, "leaves", "(III)Z"⟩
noncomputable abbrev cX11_asks : ByteArray := prog_13_method_92_code
noncomputable def yX11_asks : MethodName := ⟨RX11, "asks", "(I)V"⟩
noncomputable abbrev cX11_greater : ByteArray := prog_13_method_93_code
noncomputable def yX11_greater : MethodName := ⟨RX11, "greater", "(II)I"⟩
noncomputable abbrev cX11_asksNext : ByteArray := prog_13_method_94_code
noncomputable def yX11_asksNext : MethodName := ⟨RX11, "asksNext", "(Z)I"⟩
noncomputable abbrev cX11_useful : ByteArray := prog_13_method_95_code
noncomputable def yX11_useful : MethodName := ⟨RX11, "useful", "(III)I"⟩
noncomputable abbrev cX11_filled : ByteArray := prog_13_method_96_code
noncomputable def yX11_filled : MethodName := ⟨RX11, "filled", "(III)I"⟩
noncomputable abbrev cX11_next : ByteArray := prog_13_method_97_code
noncomputable def yX11_next : MethodName := ⟨RX11, "next", "(IIII)I"⟩
noncomputable abbrev cX11_isOne : ByteArray := prog_13_method_98_code
noncomputable def yX11_isOne : MethodName := ⟨RX11, "isOne", "(J)Z"⟩
noncomputable abbrev cX11_doesOne : ByteArray := prog_13_method_99_code
noncomputable def yX11_doesOne : MethodName := ⟨RX11, "doesOne", "(J)Z"⟩
noncomputable abbrev cX11_doesTwo : ByteArray := prog_13_method_100_code
noncomputable def yX11_doesTwo : MethodName := ⟨RX11, "doesTwo", "(J)Z"⟩
noncomputable abbrev cX11_doesThree : ByteArray := prog_13_method_101_code
noncomputable def yX11_doesThree : MethodName := ⟨RX11, "doesThree", "(J)Z"⟩
noncomputable abbrev cX11_needed : ByteArray := prog_13_method_102_code
noncomputable def yX11_needed : MethodName := ⟨RX11, "needed", "(II)I"⟩
noncomputable abbrev cX11_steered : ByteArray := prog_13_method_103_code
noncomputable def yX11_steered : MethodName := ⟨RX11, "steered", "(IIIII)I"⟩
noncomputable abbrev cX11_spare : ByteArray := prog_13_method_104_code
noncomputable def yX11_spare : MethodName := ⟨RX11, "spare", "(I)I"⟩
noncomputable abbrev cX11_seed : ByteArray := prog_13_method_105_code
noncomputable def yX11_seed : MethodName := ⟨RX11, "seed", "(I)I"⟩
noncomputable abbrev cX11_trials : ByteArray := prog_13_method_106_code
noncomputable def yX11_trials : MethodName := ⟨RX11, "trials", "(III)I"⟩
noncomputable abbrev cX11_verdict : ByteArray := prog_13_method_107_code
noncomputable def yX11_verdict : MethodName := ⟨RX11, "verdict", "(I)I"⟩
noncomputable abbrev cX11_old : ByteArray := prog_13_method_108_code
noncomputable def yX11_old : MethodName := ⟨RX11, "old", "(IIII)I"⟩
noncomputable abbrev cX11_count : ByteArray := prog_13_method_109_code
noncomputable def yX11_count : MethodName := ⟨RX11, "count", "(I)I"⟩
noncomputable abbrev cX11_image : ByteArray := prog_13_method_110_code
noncomputable def yX11_image : MethodName := ⟨RX11, "image", "(I)I"⟩
noncomputable abbrev cX11_back : ByteArray := prog_13_method_111_code
noncomputable def yX11_back : MethodName := ⟨RX11, "back", "(I)I"⟩
noncomputable def RJ6 : String := "java/lang/Integer"
noncomputable abbrev cJ6_numberOfTrailingZeros_0f7a4 : ByteArray := prog_14_method_48_code
noncomputable def yJ6_numberOfTrailingZeros_0f7a4 : MethodName := ⟨RJ6, "numberOfTrailingZeros", "(I)I"⟩
noncomputable abbrev cJ6_bitCount_0f7a4 : ByteArray := prog_14_method_49_code
noncomputable def yJ6_bitCount_0f7a4 : MethodName := ⟨RJ6, "bitCount", "(I)I"⟩
noncomputable def RJ9 : String := "java/lang/Math"
noncomputable abbrev cJ9_abs_0f7a4 : ByteArray := prog_15_method_59_code
noncomputable def yJ9_abs_0f7a4 : MethodName := ⟨RJ9, "abs", "(I)I"⟩
noncomputable abbrev cJ9_max_7cf53 : ByteArray := prog_15_method_65_code
noncomputable def yJ9_max_7cf53 : MethodName := ⟨RJ9, "max", "(II)I"⟩
noncomputable abbrev cJ9_min_7cf53 : ByteArray := prog_15_method_69_code
noncomputable def yJ9_min_7cf53 : MethodName := ⟨RJ9, "min", "(II)I"⟩
noncomputable def RJ0 : String := "java/lang/String"
noncomputable abbrev cJ0_length_8abf5 : ByteArray := prog_16_method_54_code
noncomputable def yJ0_length_8abf5 : MethodName := ⟨RJ0, "length", "()I"⟩
noncomputable abbrev cJ0_charAt_5068e : ByteArray := prog_16_method_56_code
noncomputable def yJ0_charAt_5068e : MethodName := ⟨RJ0, "charAt", "(I)C"⟩
noncomputable abbrev cJ0_coder_7d493 : ByteArray := prog_16_method_152_code
noncomputable def yJ0_coder_7d493 : MethodName := ⟨RJ0, "coder", "()B"⟩
noncomputable abbrev cJ0_isLatin1_aae02 : ByteArray := prog_16_method_154_code
noncomputable def yJ0_isLatin1_aae02 : MethodName := ⟨RJ0, "isLatin1", "()Z"⟩
noncomputable abbrev cJ0_checkIndex_df160 : ByteArray := prog_16_method_155_code
noncomputable def yJ0_checkIndex_df160 : MethodName := ⟨RJ0, "checkIndex", "(II)V"⟩
noncomputable def RJ1 : String := "java/lang/StringLatin1"
noncomputable abbrev cJ1_charAt_3b067 : ByteArray := prog_17_method_2_code
noncomputable def yJ1_charAt_3b067 : MethodName := ⟨RJ1, "charAt", "([BI)C"⟩
noncomputable def RJ2 : String := "java/lang/StringUTF16"
noncomputable abbrev cJ2_getChar_3b067 : ByteArray := prog_18_method_5_code
noncomputable def yJ2_getChar_3b067 : MethodName := ⟨RJ2, "getChar", "([BI)C"⟩
noncomputable abbrev cJ2_length_9d52b : ByteArray := prog_18_method_6_code
noncomputable def yJ2_length_9d52b : MethodName := ⟨RJ2, "length", "([B)I"⟩
noncomputable abbrev cJ2_charAt_3b067 : ByteArray := prog_18_method_83_code
noncomputable def yJ2_charAt_3b067 : MethodName := ⟨RJ2, "charAt", "([BI)C"⟩
noncomputable abbrev cJ2_checkIndex_2214a : ByteArray := prog_18_method_91_code
noncomputable def yJ2_checkIndex_2214a : MethodName := ⟨RJ2, "checkIndex", "(I[B)V"⟩
noncomputable def RJ10 : String := "java/lang/System"
noncomputable def RJ3 : String := "jdk/internal/util/Preconditions"
noncomputable abbrev cJ3_checkIndex_8e157 : ByteArray := prog_20_method_11_code
noncomputable def yJ3_checkIndex_8e157 : MethodName := ⟨RJ3, "checkIndex", "(IILjava/util/function/BiFunction;)I"⟩
noncomputable def RL : String := "WarmerColderLaw"
noncomputable abbrev cL_law : ByteArray := code
noncomputable def yL_law : MethodName := ⟨RL, "law", "([I)Z"⟩
noncomputable abbrev vwCl : List vw_C := [(RX0, TX0, 3), (RX1, TX1, 1), (RX2, TX2, 12), (RX3, TX3, 13), (RX4, TX4, 1), (RX5, TX5, 4), (RX6, TX6, 5), (RX7, TX7, 2), (RX8, TX8, 2), (RX9, TX9, 6), (RX10, TX10, 18), (RX11, TX11, 39)]
