theorem kq_0 : Cond.instanceMethod Lib.objectInit ∈ sm_tbl := sm_in (List.mem_append_right _ (List.mem_of_getElem? (i := 25) (by decide +kernel))) (by decide +kernel)
theorem kq_1 : Cond.code Lib.objectInit ⟨#[0xb1]⟩ 1 none ∈ sm_tbl := sm_in (List.mem_append_right _ (List.mem_of_getElem? (i := 26) (by decide +kernel))) (by decide +kernel)
theorem kq_2 : Cond.arrayClass .int ∈ sm_tbl := sm_in (List.mem_append_right _ (List.mem_of_getElem? (i := 52) (by decide +kernel))) (by decide +kernel)
theorem kq_3 : Cond.methodLink "SnowMoney$Text" 1 Lib.objectInit ∈ sm_tbl := sm_in (List.mem_append_right _ (List.mem_of_getElem? (i := 38) (by decide +kernel))) (by decide +kernel)
theorem kq_4 : Cond.fieldLink "SnowMoney$Text" 9 "SnowMoney$Text" "signs" "[I" ∈ sm_tbl := sm_in (List.mem_append_right _ (List.mem_of_getElem? (i := 39) (by decide +kernel))) (by decide +kernel)
theorem kq_5 : Cond.fieldLink "SnowMoney$Text" 13 "SnowMoney$Text" "values" "[I" ∈ sm_tbl := sm_in (List.mem_append_right _ (List.mem_of_getElem? (i := 40) (by decide +kernel))) (by decide +kernel)
theorem kq_6 : Cond.fieldLink "SnowMoney$Text" 16 "SnowMoney$Text" "stack" "[I" ∈ sm_tbl := sm_in (List.mem_append_right _ (List.mem_of_getElem? (i := 41) (by decide +kernel))) (by decide +kernel)
theorem kq_7 : Cond.methodLink "SnowMoney$Sheet" 1 Lib.objectInit ∈ sm_tbl := sm_in (List.mem_append_right _ (List.mem_of_getElem? (i := 229) (by decide +kernel))) (by decide +kernel)
theorem kq_8 : Cond.fieldLink "SnowMoney$Sheet" 9 "SnowMoney$Sheet" "numbers" "[I" ∈ sm_tbl := sm_in (List.mem_append_right _ (List.mem_of_getElem? (i := 230) (by decide +kernel))) (by decide +kernel)
theorem kq_9 : Cond.methodLink "SnowMoney$Voices" 1 Lib.objectInit ∈ sm_tbl := sm_in (List.mem_append_right _ (List.mem_of_getElem? (i := 204) (by decide +kernel))) (by decide +kernel)
theorem kq_10 : Cond.fieldLink "SnowMoney$Voices" 9 "SnowMoney$Voices" "bodies" "[I" ∈ sm_tbl := sm_in (List.mem_append_right _ (List.mem_of_getElem? (i := 205) (by decide +kernel))) (by decide +kernel)
theorem kq_11 : Cond.methodLink "SnowMoney$Foresight" 3 Lib.objectInit ∈ sm_tbl := sm_in (List.mem_append_right _ (List.mem_of_getElem? (i := 141) (by decide +kernel))) (by decide +kernel)
theorem kq_12 : Cond.fieldLink "SnowMoney$Foresight" 11 "SnowMoney$Foresight" "heats" "[I" ∈ sm_tbl := sm_in (List.mem_append_right _ (List.mem_of_getElem? (i := 143) (by decide +kernel))) (by decide +kernel)
theorem kq_13 : Cond.fieldLink "SnowMoney$Foresight" 17 "SnowMoney$Foresight" "course" "[I" ∈ sm_tbl := sm_in (List.mem_append_right _ (List.mem_of_getElem? (i := 144) (by decide +kernel))) (by decide +kernel)
theorem kq_14 : Cond.fieldLink "SnowMoney$Foresight" 20 "SnowMoney$Foresight" "totals" "[I" ∈ sm_tbl := sm_in (List.mem_append_right _ (List.mem_of_getElem? (i := 145) (by decide +kernel))) (by decide +kernel)
theorem kq_15 : Cond.fieldLink "SnowMoney$Foresight" 23 "SnowMoney$Foresight" "sums" "[I" ∈ sm_tbl := sm_in (List.mem_append_right _ (List.mem_of_getElem? (i := 146) (by decide +kernel))) (by decide +kernel)
theorem kq_16 : Cond.fieldLink "SnowMoney$Foresight" 26 "SnowMoney$Foresight" "steps" "[I" ∈ sm_tbl := sm_in (List.mem_append_right _ (List.mem_of_getElem? (i := 147) (by decide +kernel))) (by decide +kernel)
theorem kq_17 : Cond.fieldLink "SnowMoney$Foresight" 29 "SnowMoney$Foresight" "duchy" "LSnowMoney$Duchy;" ∈ sm_tbl := sm_in (List.mem_append_right _ (List.mem_of_getElem? (i := 142) (by decide +kernel))) (by decide +kernel)
theorem kq_18 : Cond.methodLink "SnowMoney$Duchy" 1 Lib.objectInit ∈ sm_tbl := sm_in (List.mem_append_right _ (List.mem_of_getElem? (i := 32) (by decide +kernel))) (by decide +kernel)
theorem kq_19 : Cond.fieldLink "SnowMoney$Duchy" 9 "SnowMoney$Duchy" "warmth" "[I" ∈ sm_tbl := sm_in (List.mem_append_right _ (List.mem_of_getElem? (i := 53) (by decide +kernel))) (by decide +kernel)
theorem kq_20 : Cond.fieldLink "SnowMoney$Duchy" 13 "SnowMoney$Duchy" "roads" "[I" ∈ sm_tbl := sm_in (List.mem_append_right _ (List.mem_of_getElem? (i := 55) (by decide +kernel))) (by decide +kernel)
theorem kq_21 : Cond.fieldLink "SnowMoney$Duchy" 16 "SnowMoney$Duchy" "kinds" "[I" ∈ sm_tbl := sm_in (List.mem_append_right _ (List.mem_of_getElem? (i := 56) (by decide +kernel))) (by decide +kernel)
theorem kq_22 : Cond.fieldLink "SnowMoney$Duchy" 19 "SnowMoney$Duchy" "ms" "[I" ∈ sm_tbl := sm_in (List.mem_append_right _ (List.mem_of_getElem? (i := 59) (by decide +kernel))) (by decide +kernel)
theorem kq_23 : Cond.fieldLink "SnowMoney$Duchy" 22 "SnowMoney$Duchy" "snow" "[I" ∈ sm_tbl := sm_in (List.mem_append_right _ (List.mem_of_getElem? (i := 62) (by decide +kernel))) (by decide +kernel)
theorem kq_24 : Cond.fieldLink "SnowMoney$Duchy" 25 "SnowMoney$Duchy" "at" "[I" ∈ sm_tbl := sm_in (List.mem_append_right _ (List.mem_of_getElem? (i := 65) (by decide +kernel))) (by decide +kernel)
theorem kq_25 : Cond.fieldLink "SnowMoney$Duchy" 28 "SnowMoney$Duchy" "owners" "[I" ∈ sm_tbl := sm_in (List.mem_append_right _ (List.mem_of_getElem? (i := 68) (by decide +kernel))) (by decide +kernel)
theorem kq_26 : Cond.fieldLink "SnowMoney$Duchy" 31 "SnowMoney$Duchy" "tape" "[I" ∈ sm_tbl := sm_in (List.mem_append_right _ (List.mem_of_getElem? (i := 71) (by decide +kernel))) (by decide +kernel)
theorem kq_27 : Cond.fieldLink "SnowMoney$Duchy" 34 "SnowMoney$Duchy" "waiting" "[I" ∈ sm_tbl := sm_in (List.mem_append_right _ (List.mem_of_getElem? (i := 73) (by decide +kernel))) (by decide +kernel)
theorem kq_28 : Cond.classLink "SnowMoney$Duchy" 37 "SnowMoney$Text" ∈ sm_tbl := sm_in (List.mem_append_right _ (List.mem_of_getElem? (i := 33) (by decide +kernel))) (by decide +kernel)
theorem kq_29 : Cond.instantiable "SnowMoney$Text" 4 ∈ sm_tbl := sm_in (List.mem_append_right _ (List.mem_of_getElem? (i := 34) (by decide +kernel))) (by decide +kernel)
theorem kq_30 : Cond.initialized "SnowMoney$Text" ∈ sm_tbl := sm_in (List.mem_append_right _ (List.mem_of_getElem? (i := 3) (by decide +kernel))) (by decide +kernel)
theorem kq_31 : Cond.instanceMethod ⟨"SnowMoney$Text", "<init>", "()V"⟩ ∈ sm_tbl := sm_in (List.mem_append_right _ (List.mem_of_getElem? (i := 36) (by decide +kernel))) (by decide +kernel)
theorem kq_32 : Cond.code ⟨"SnowMoney$Text", "<init>", "()V"⟩ prog_7_method_1_code 1 none ∈ sm_tbl := sm_in (List.mem_append_right _ (List.mem_of_getElem? (i := 37) (by decide +kernel))) (by decide +kernel)
theorem kq_33 : Cond.fieldLink "SnowMoney$Duchy" 40 "SnowMoney$Duchy" "heat" "LSnowMoney$Text;" ∈ sm_tbl := sm_in (List.mem_append_right _ (List.mem_of_getElem? (i := 76) (by decide +kernel))) (by decide +kernel)
theorem kq_34 : Cond.fieldLink "SnowMoney$Duchy" 44 "SnowMoney$Duchy" "found" "LSnowMoney$Text;" ∈ sm_tbl := sm_in (List.mem_append_right _ (List.mem_of_getElem? (i := 78) (by decide +kernel))) (by decide +kernel)
theorem kq_35 : Cond.fieldLink "SnowMoney$Duchy" 47 "SnowMoney$Duchy" "weather" "I" ∈ sm_tbl := sm_in (List.mem_append_right _ (List.mem_of_getElem? (i := 86) (by decide +kernel))) (by decide +kernel)
theorem kq_36 : Cond.fieldLink "SnowMoney$Duchy" 51 "SnowMoney$Duchy" "z" "I" ∈ sm_tbl := sm_in (List.mem_append_right _ (List.mem_of_getElem? (i := 97) (by decide +kernel))) (by decide +kernel)
theorem kq_37 : Cond.methodLink "SnowMoney$Reader" 1 Lib.objectInit ∈ sm_tbl := sm_in (List.mem_append_right _ (List.mem_of_getElem? (i := 177) (by decide +kernel))) (by decide +kernel)
theorem kq_38 : Cond.classLink "SnowMoney$Reader" 7 "SnowMoney$Text" ∈ sm_tbl := sm_in (List.mem_append_right _ (List.mem_of_getElem? (i := 178) (by decide +kernel))) (by decide +kernel)
theorem kq_39 : Cond.fieldLink "SnowMoney$Reader" 10 "SnowMoney$Reader" "text" "LSnowMoney$Text;" ∈ sm_tbl := sm_in (List.mem_append_right _ (List.mem_of_getElem? (i := 181) (by decide +kernel))) (by decide +kernel)
theorem kq_40 : Cond.fieldLink "SnowMoney$Reader" 18 "SnowMoney$Reader" "tape" "[I" ∈ sm_tbl := sm_in (List.mem_append_right _ (List.mem_of_getElem? (i := 183) (by decide +kernel))) (by decide +kernel)
theorem kq_41 : Cond.fieldLink "SnowMoney$Reader" 24 "SnowMoney$Reader" "names" "Ljava/lang/String;" ∈ sm_tbl := sm_in (List.mem_append_right _ (List.mem_of_getElem? (i := 186) (by decide +kernel))) (by decide +kernel)
theorem kq_42 : Cond.methodLink "SnowMoney" 1 Lib.objectInit ∈ sm_tbl := sm_in (List.mem_append_right _ (List.mem_of_getElem? (i := 24) (by decide +kernel))) (by decide +kernel)
theorem kq_43 : Cond.classLink "SnowMoney" 7 "SnowMoney$Duchy" ∈ sm_tbl := sm_in (List.mem_append_right _ (List.mem_of_getElem? (i := 27) (by decide +kernel))) (by decide +kernel)
theorem kq_44 : Cond.instantiable "SnowMoney$Duchy" 18 ∈ sm_tbl := sm_in (List.mem_append_right _ (List.mem_of_getElem? (i := 28) (by decide +kernel))) (by decide +kernel)
theorem kq_45 : Cond.initialized "SnowMoney$Duchy" ∈ sm_tbl := sm_in (List.mem_append_right _ (List.mem_of_getElem? (i := 2) (by decide +kernel))) (by decide +kernel)
theorem kq_46 : Cond.instanceMethod ⟨"SnowMoney$Duchy", "<init>", "()V"⟩ ∈ sm_tbl := sm_in (List.mem_append_right _ (List.mem_of_getElem? (i := 30) (by decide +kernel))) (by decide +kernel)
theorem kq_47 : Cond.code ⟨"SnowMoney$Duchy", "<init>", "()V"⟩ prog_2_method_1_code 1 none ∈ sm_tbl := sm_in (List.mem_append_right _ (List.mem_of_getElem? (i := 31) (by decide +kernel))) (by decide +kernel)
theorem kq_48 : Cond.fieldLink "SnowMoney" 10 "SnowMoney" "duchy" "LSnowMoney$Duchy;" ∈ sm_tbl := sm_in (List.mem_append_right _ (List.mem_of_getElem? (i := 243) (by decide +kernel))) (by decide +kernel)
theorem kq_49 : Cond.fieldLink "SnowMoney" 16 "SnowMoney" "kept" "LSnowMoney$Duchy;" ∈ sm_tbl := sm_in (List.mem_append_right _ (List.mem_of_getElem? (i := 244) (by decide +kernel))) (by decide +kernel)
theorem kq_50 : Cond.classLink "SnowMoney" 19 "SnowMoney$Foresight" ∈ sm_tbl := sm_in (List.mem_append_right _ (List.mem_of_getElem? (i := 136) (by decide +kernel))) (by decide +kernel)
theorem kq_51 : Cond.instantiable "SnowMoney$Foresight" 9 ∈ sm_tbl := sm_in (List.mem_append_right _ (List.mem_of_getElem? (i := 137) (by decide +kernel))) (by decide +kernel)
theorem kq_52 : Cond.initialized "SnowMoney$Foresight" ∈ sm_tbl := sm_in (List.mem_append_right _ (List.mem_of_getElem? (i := 4) (by decide +kernel))) (by decide +kernel)
theorem kq_53 : Cond.methodLink "SnowMoney" 21 ⟨"SnowMoney$Foresight", "<init>", "(LSnowMoney$Duchy;)V"⟩ ∈ sm_tbl := sm_in (List.mem_append_right _ (List.mem_of_getElem? (i := 138) (by decide +kernel))) (by decide +kernel)
theorem kq_54 : Cond.code ⟨"SnowMoney$Foresight", "<init>", "(LSnowMoney$Duchy;)V"⟩ prog_3_method_1_code 2 none ∈ sm_tbl := sm_in (List.mem_append_right _ (List.mem_of_getElem? (i := 140) (by decide +kernel))) (by decide +kernel)
theorem kok_55 : sm_okB "SnowMoney" 21 ⟨"SnowMoney$Foresight", "<init>", "(LSnowMoney$Duchy;)V"⟩ prog_3_method_1_code 2 none 1 := ⟨kq_53, kq_52, kq_54, by decide +kernel⟩
theorem kq_56 : Cond.instanceMethod ⟨"SnowMoney$Foresight", "<init>", "(LSnowMoney$Duchy;)V"⟩ ∈ sm_tbl := sm_in (List.mem_append_right _ (List.mem_of_getElem? (i := 139) (by decide +kernel))) (by decide +kernel)
theorem kq_57 : Cond.fieldLink "SnowMoney" 24 "SnowMoney" "foresight" "LSnowMoney$Foresight;" ∈ sm_tbl := sm_in (List.mem_append_right _ (List.mem_of_getElem? (i := 245) (by decide +kernel))) (by decide +kernel)
theorem kq_58 : Cond.classLink "SnowMoney" 28 "SnowMoney$Reader" ∈ sm_tbl := sm_in (List.mem_append_right _ (List.mem_of_getElem? (i := 172) (by decide +kernel))) (by decide +kernel)
theorem kq_59 : Cond.instantiable "SnowMoney$Reader" 5 ∈ sm_tbl := sm_in (List.mem_append_right _ (List.mem_of_getElem? (i := 173) (by decide +kernel))) (by decide +kernel)
theorem kq_60 : Cond.initialized "SnowMoney$Reader" ∈ sm_tbl := sm_in (List.mem_append_right _ (List.mem_of_getElem? (i := 5) (by decide +kernel))) (by decide +kernel)
theorem kq_61 : Cond.instanceMethod ⟨"SnowMoney$Reader", "<init>", "()V"⟩ ∈ sm_tbl := sm_in (List.mem_append_right _ (List.mem_of_getElem? (i := 175) (by decide +kernel))) (by decide +kernel)
theorem kq_62 : Cond.code ⟨"SnowMoney$Reader", "<init>", "()V"⟩ prog_5_method_1_code 1 none ∈ sm_tbl := sm_in (List.mem_append_right _ (List.mem_of_getElem? (i := 176) (by decide +kernel))) (by decide +kernel)
theorem kq_63 : Cond.fieldLink "SnowMoney" 31 "SnowMoney" "reader" "LSnowMoney$Reader;" ∈ sm_tbl := sm_in (List.mem_append_right _ (List.mem_of_getElem? (i := 246) (by decide +kernel))) (by decide +kernel)
theorem kq_64 : Cond.classLink "SnowMoney" 35 "SnowMoney$Voices" ∈ sm_tbl := sm_in (List.mem_append_right _ (List.mem_of_getElem? (i := 199) (by decide +kernel))) (by decide +kernel)
theorem kq_65 : Cond.instantiable "SnowMoney$Voices" 5 ∈ sm_tbl := sm_in (List.mem_append_right _ (List.mem_of_getElem? (i := 200) (by decide +kernel))) (by decide +kernel)
theorem kq_66 : Cond.initialized "SnowMoney$Voices" ∈ sm_tbl := sm_in (List.mem_append_right _ (List.mem_of_getElem? (i := 6) (by decide +kernel))) (by decide +kernel)
theorem kq_67 : Cond.instanceMethod ⟨"SnowMoney$Voices", "<init>", "()V"⟩ ∈ sm_tbl := sm_in (List.mem_append_right _ (List.mem_of_getElem? (i := 202) (by decide +kernel))) (by decide +kernel)
theorem kq_68 : Cond.code ⟨"SnowMoney$Voices", "<init>", "()V"⟩ prog_8_method_1_code 1 none ∈ sm_tbl := sm_in (List.mem_append_right _ (List.mem_of_getElem? (i := 203) (by decide +kernel))) (by decide +kernel)
theorem kq_69 : Cond.fieldLink "SnowMoney" 38 "SnowMoney" "voices" "LSnowMoney$Voices;" ∈ sm_tbl := sm_in (List.mem_append_right _ (List.mem_of_getElem? (i := 247) (by decide +kernel))) (by decide +kernel)
theorem kq_70 : Cond.classLink "SnowMoney" 42 "SnowMoney$Sheet" ∈ sm_tbl := sm_in (List.mem_append_right _ (List.mem_of_getElem? (i := 223) (by decide +kernel))) (by decide +kernel)
theorem kq_71 : Cond.fieldLink "SnowMoney" 44 "SnowMoney" "rows" "[LSnowMoney$Sheet;" ∈ sm_tbl := sm_in (List.mem_append_right _ (List.mem_of_getElem? (i := 248) (by decide +kernel))) (by decide +kernel)
theorem kq_72 : Cond.classLink "SnowMoney" 42 "SnowMoney$Sheet" ∈ sm_tbl := sm_in (List.mem_append_right _ (List.mem_of_getElem? (i := 223) (by decide +kernel))) (by decide +kernel)
theorem kq_73 : Cond.instantiable "SnowMoney$Sheet" 3 ∈ sm_tbl := sm_in (List.mem_append_right _ (List.mem_of_getElem? (i := 225) (by decide +kernel))) (by decide +kernel)
theorem kq_74 : Cond.initialized "SnowMoney$Sheet" ∈ sm_tbl := sm_in (List.mem_append_right _ (List.mem_of_getElem? (i := 7) (by decide +kernel))) (by decide +kernel)
theorem kq_75 : Cond.instanceMethod ⟨"SnowMoney$Sheet", "<init>", "()V"⟩ ∈ sm_tbl := sm_in (List.mem_append_right _ (List.mem_of_getElem? (i := 227) (by decide +kernel))) (by decide +kernel)
theorem kq_76 : Cond.code ⟨"SnowMoney$Sheet", "<init>", "()V"⟩ prog_6_method_1_code 1 none ∈ sm_tbl := sm_in (List.mem_append_right _ (List.mem_of_getElem? (i := 228) (by decide +kernel))) (by decide +kernel)
theorem kq_77 : Cond.fieldLink "SnowMoney" 49 "SnowMoney" "errors" "[I" ∈ sm_tbl := sm_in (List.mem_append_right _ (List.mem_of_getElem? (i := 249) (by decide +kernel))) (by decide +kernel)
theorem kq_78 : Cond.methodLink "SnowMoneyModel" 1 Lib.objectInit ∈ sm_tbl := sm_in (List.mem_append_right _ (List.mem_of_getElem? (i := 857) (by decide +kernel))) (by decide +kernel)
theorem kq_79 : Cond.fieldLink "SnowMoneyModel" 7 "SnowMoneyModel" "row" "[I" ∈ sm_tbl := sm_in (List.mem_append_right _ (List.mem_of_getElem? (i := 858) (by decide +kernel))) (by decide +kernel)
theorem kq_80 : Cond.fieldLink "SnowMoneyModel" 13 "SnowMoneyModel" "kept" "[I" ∈ sm_tbl := sm_in (List.mem_append_right _ (List.mem_of_getElem? (i := 859) (by decide +kernel))) (by decide +kernel)
theorem kq_81 : Cond.fieldLink "SnowMoneyModel" 16 "SnowMoneyModel" "tried" "[I" ∈ sm_tbl := sm_in (List.mem_append_right _ (List.mem_of_getElem? (i := 860) (by decide +kernel))) (by decide +kernel)
theorem kq_82 : Cond.fieldLink "SnowMoneyModel" 19 "SnowMoneyModel" "before" "[I" ∈ sm_tbl := sm_in (List.mem_append_right _ (List.mem_of_getElem? (i := 861) (by decide +kernel))) (by decide +kernel)
theorem kq_83 : Cond.fieldLink "SnowMoneyModel" 22 "SnowMoneyModel" "found" "[I" ∈ sm_tbl := sm_in (List.mem_append_right _ (List.mem_of_getElem? (i := 864) (by decide +kernel))) (by decide +kernel)
theorem kq_84 : Cond.fieldLink "SnowMoneyModel" 25 "SnowMoneyModel" "path" "[I" ∈ sm_tbl := sm_in (List.mem_append_right _ (List.mem_of_getElem? (i := 874) (by decide +kernel))) (by decide +kernel)
theorem kq_85 : Cond.fieldLink "SnowMoneyModel" 28 "SnowMoneyModel" "bitsOf" "[I" ∈ sm_tbl := sm_in (List.mem_append_right _ (List.mem_of_getElem? (i := 877) (by decide +kernel))) (by decide +kernel)
theorem kq_86 : Cond.fieldLink "SnowMoneyModel" 31 "SnowMoneyModel" "sizeOf" "[I" ∈ sm_tbl := sm_in (List.mem_append_right _ (List.mem_of_getElem? (i := 878) (by decide +kernel))) (by decide +kernel)
theorem kq_87 : Cond.fieldLink "SnowMoneyModel" 34 "SnowMoneyModel" "sheets" "[I" ∈ sm_tbl := sm_in (List.mem_append_right _ (List.mem_of_getElem? (i := 879) (by decide +kernel))) (by decide +kernel)
theorem kq_88 : Cond.fieldLink "SnowMoneyModel" 37 "SnowMoneyModel" "moved" "[I" ∈ sm_tbl := sm_in (List.mem_append_right _ (List.mem_of_getElem? (i := 880) (by decide +kernel))) (by decide +kernel)
theorem kq_89 : Cond.fieldLink "SnowMoneyModel" 40 "SnowMoneyModel" "traced" "[I" ∈ sm_tbl := sm_in (List.mem_append_right _ (List.mem_of_getElem? (i := 881) (by decide +kernel))) (by decide +kernel)
theorem dk_T_0 : decode prog_7_method_1_code 0 = .ok (.aload_n 0, 1) := by decide +kernel
theorem dk_T_1 : decode prog_7_method_1_code 1 = .ok (.invokespecial 1, 3) := by decide +kernel
theorem dk_T_4 : decode prog_7_method_1_code 4 = .ok (.aload_n 0, 1) := by decide +kernel
theorem dk_T_5 : decode prog_7_method_1_code 5 = .ok (.bipush 50, 2) := by decide +kernel
theorem dk_T_7 : decode prog_7_method_1_code 7 = .ok (.newarray .int, 2) := by decide +kernel
theorem dk_T_9 : decode prog_7_method_1_code 9 = .ok (.putfield 9, 3) := by decide +kernel
theorem dk_T_12 : decode prog_7_method_1_code 12 = .ok (.aload_n 0, 1) := by decide +kernel
theorem dk_T_13 : decode prog_7_method_1_code 13 = .ok (.bipush 50, 2) := by decide +kernel
theorem dk_T_15 : decode prog_7_method_1_code 15 = .ok (.newarray .int, 2) := by decide +kernel
theorem dk_T_17 : decode prog_7_method_1_code 17 = .ok (.putfield 13, 3) := by decide +kernel
theorem dk_T_20 : decode prog_7_method_1_code 20 = .ok (.aload_n 0, 1) := by decide +kernel
theorem dk_T_21 : decode prog_7_method_1_code 21 = .ok (.bipush 50, 2) := by decide +kernel
theorem dk_T_23 : decode prog_7_method_1_code 23 = .ok (.newarray .int, 2) := by decide +kernel
theorem dk_T_25 : decode prog_7_method_1_code 25 = .ok (.putfield 16, 3) := by decide +kernel
theorem dk_T_28 : decode prog_7_method_1_code 28 = .ok (.return_, 1) := by decide +kernel
theorem dk_S_0 : decode prog_6_method_1_code 0 = .ok (.aload_n 0, 1) := by decide +kernel
theorem dk_S_1 : decode prog_6_method_1_code 1 = .ok (.invokespecial 1, 3) := by decide +kernel
theorem dk_S_4 : decode prog_6_method_1_code 4 = .ok (.aload_n 0, 1) := by decide +kernel
theorem dk_S_5 : decode prog_6_method_1_code 5 = .ok (.bipush 40, 2) := by decide +kernel
theorem dk_S_7 : decode prog_6_method_1_code 7 = .ok (.newarray .int, 2) := by decide +kernel
theorem dk_S_9 : decode prog_6_method_1_code 9 = .ok (.putfield 9, 3) := by decide +kernel
theorem dk_S_12 : decode prog_6_method_1_code 12 = .ok (.return_, 1) := by decide +kernel
theorem dk_V_0 : decode prog_8_method_1_code 0 = .ok (.aload_n 0, 1) := by decide +kernel
theorem dk_V_1 : decode prog_8_method_1_code 1 = .ok (.invokespecial 1, 3) := by decide +kernel
theorem dk_V_4 : decode prog_8_method_1_code 4 = .ok (.aload_n 0, 1) := by decide +kernel
theorem dk_V_5 : decode prog_8_method_1_code 5 = .ok (.bipush 40, 2) := by decide +kernel
theorem dk_V_7 : decode prog_8_method_1_code 7 = .ok (.newarray .int, 2) := by decide +kernel
theorem dk_V_9 : decode prog_8_method_1_code 9 = .ok (.putfield 9, 3) := by decide +kernel
theorem dk_V_12 : decode prog_8_method_1_code 12 = .ok (.return_, 1) := by decide +kernel
theorem dk_F_0 : decode prog_3_method_1_code 0 = .ok (.aload_n 0, 1) := by decide +kernel
theorem dk_F_1 : decode prog_3_method_1_code 1 = .ok (.invokespecial 3, 3) := by decide +kernel
theorem dk_F_4 : decode prog_3_method_1_code 4 = .ok (.aload_n 0, 1) := by decide +kernel
theorem dk_F_5 : decode prog_3_method_1_code 5 = .ok (.bipush 24, 2) := by decide +kernel
theorem dk_F_7 : decode prog_3_method_1_code 7 = .ok (.newarray .int, 2) := by decide +kernel
theorem dk_F_9 : decode prog_3_method_1_code 9 = .ok (.putfield 11, 3) := by decide +kernel
theorem dk_F_12 : decode prog_3_method_1_code 12 = .ok (.aload_n 0, 1) := by decide +kernel
theorem dk_F_13 : decode prog_3_method_1_code 13 = .ok (.bipush 61, 2) := by decide +kernel
theorem dk_F_15 : decode prog_3_method_1_code 15 = .ok (.newarray .int, 2) := by decide +kernel
theorem dk_F_17 : decode prog_3_method_1_code 17 = .ok (.putfield 17, 3) := by decide +kernel
theorem dk_F_20 : decode prog_3_method_1_code 20 = .ok (.aload_n 0, 1) := by decide +kernel
theorem dk_F_21 : decode prog_3_method_1_code 21 = .ok (.bipush 61, 2) := by decide +kernel
theorem dk_F_23 : decode prog_3_method_1_code 23 = .ok (.newarray .int, 2) := by decide +kernel
theorem dk_F_25 : decode prog_3_method_1_code 25 = .ok (.putfield 20, 3) := by decide +kernel
theorem dk_F_28 : decode prog_3_method_1_code 28 = .ok (.aload_n 0, 1) := by decide +kernel
theorem dk_F_29 : decode prog_3_method_1_code 29 = .ok (.sipush 1024, 3) := by decide +kernel
theorem dk_F_32 : decode prog_3_method_1_code 32 = .ok (.newarray .int, 2) := by decide +kernel
theorem dk_F_34 : decode prog_3_method_1_code 34 = .ok (.putfield 23, 3) := by decide +kernel
theorem dk_F_37 : decode prog_3_method_1_code 37 = .ok (.aload_n 0, 1) := by decide +kernel
theorem dk_F_38 : decode prog_3_method_1_code 38 = .ok (.bipush 6, 2) := by decide +kernel
theorem dk_F_40 : decode prog_3_method_1_code 40 = .ok (.newarray .int, 2) := by decide +kernel
theorem dk_F_42 : decode prog_3_method_1_code 42 = .ok (.putfield 26, 3) := by decide +kernel
theorem dk_F_45 : decode prog_3_method_1_code 45 = .ok (.aload_n 0, 1) := by decide +kernel
theorem dk_F_46 : decode prog_3_method_1_code 46 = .ok (.aload_n 1, 1) := by decide +kernel
theorem dk_F_47 : decode prog_3_method_1_code 47 = .ok (.putfield 29, 3) := by decide +kernel
theorem dk_F_50 : decode prog_3_method_1_code 50 = .ok (.return_, 1) := by decide +kernel
theorem dk_D_0 : decode prog_2_method_1_code 0 = .ok (.aload_n 0, 1) := by decide +kernel
theorem dk_D_1 : decode prog_2_method_1_code 1 = .ok (.invokespecial 1, 3) := by decide +kernel
theorem dk_D_4 : decode prog_2_method_1_code 4 = .ok (.aload_n 0, 1) := by decide +kernel
theorem dk_D_5 : decode prog_2_method_1_code 5 = .ok (.bipush 6, 2) := by decide +kernel
theorem dk_D_7 : decode prog_2_method_1_code 7 = .ok (.newarray .int, 2) := by decide +kernel
theorem dk_D_9 : decode prog_2_method_1_code 9 = .ok (.putfield 9, 3) := by decide +kernel
theorem dk_D_12 : decode prog_2_method_1_code 12 = .ok (.aload_n 0, 1) := by decide +kernel
theorem dk_D_13 : decode prog_2_method_1_code 13 = .ok (.bipush 36, 2) := by decide +kernel
theorem dk_D_15 : decode prog_2_method_1_code 15 = .ok (.newarray .int, 2) := by decide +kernel
theorem dk_D_17 : decode prog_2_method_1_code 17 = .ok (.putfield 13, 3) := by decide +kernel
theorem dk_D_20 : decode prog_2_method_1_code 20 = .ok (.aload_n 0, 1) := by decide +kernel
theorem dk_D_21 : decode prog_2_method_1_code 21 = .ok (.bipush 10, 2) := by decide +kernel
theorem dk_D_23 : decode prog_2_method_1_code 23 = .ok (.newarray .int, 2) := by decide +kernel
theorem dk_D_25 : decode prog_2_method_1_code 25 = .ok (.putfield 16, 3) := by decide +kernel
theorem dk_D_28 : decode prog_2_method_1_code 28 = .ok (.aload_n 0, 1) := by decide +kernel
theorem dk_D_29 : decode prog_2_method_1_code 29 = .ok (.bipush 10, 2) := by decide +kernel
theorem dk_D_31 : decode prog_2_method_1_code 31 = .ok (.newarray .int, 2) := by decide +kernel
theorem dk_D_33 : decode prog_2_method_1_code 33 = .ok (.putfield 19, 3) := by decide +kernel
theorem dk_D_36 : decode prog_2_method_1_code 36 = .ok (.aload_n 0, 1) := by decide +kernel
theorem dk_D_37 : decode prog_2_method_1_code 37 = .ok (.bipush 10, 2) := by decide +kernel
theorem dk_D_39 : decode prog_2_method_1_code 39 = .ok (.newarray .int, 2) := by decide +kernel
theorem dk_D_41 : decode prog_2_method_1_code 41 = .ok (.putfield 22, 3) := by decide +kernel
theorem dk_D_44 : decode prog_2_method_1_code 44 = .ok (.aload_n 0, 1) := by decide +kernel
theorem dk_D_45 : decode prog_2_method_1_code 45 = .ok (.bipush 10, 2) := by decide +kernel
theorem dk_D_47 : decode prog_2_method_1_code 47 = .ok (.newarray .int, 2) := by decide +kernel
theorem dk_D_49 : decode prog_2_method_1_code 49 = .ok (.putfield 25, 3) := by decide +kernel
theorem dk_D_52 : decode prog_2_method_1_code 52 = .ok (.aload_n 0, 1) := by decide +kernel
theorem dk_D_53 : decode prog_2_method_1_code 53 = .ok (.bipush 10, 2) := by decide +kernel
theorem dk_D_55 : decode prog_2_method_1_code 55 = .ok (.newarray .int, 2) := by decide +kernel
theorem dk_D_57 : decode prog_2_method_1_code 57 = .ok (.putfield 28, 3) := by decide +kernel
theorem dk_D_60 : decode prog_2_method_1_code 60 = .ok (.aload_n 0, 1) := by decide +kernel
theorem dk_D_61 : decode prog_2_method_1_code 61 = .ok (.bipush 50, 2) := by decide +kernel
theorem dk_D_63 : decode prog_2_method_1_code 63 = .ok (.newarray .int, 2) := by decide +kernel
theorem dk_D_65 : decode prog_2_method_1_code 65 = .ok (.putfield 31, 3) := by decide +kernel
theorem dk_D_68 : decode prog_2_method_1_code 68 = .ok (.aload_n 0, 1) := by decide +kernel
theorem dk_D_69 : decode prog_2_method_1_code 69 = .ok (.bipush 20, 2) := by decide +kernel
theorem dk_D_71 : decode prog_2_method_1_code 71 = .ok (.newarray .int, 2) := by decide +kernel
theorem dk_D_73 : decode prog_2_method_1_code 73 = .ok (.putfield 34, 3) := by decide +kernel
theorem dk_D_76 : decode prog_2_method_1_code 76 = .ok (.aload_n 0, 1) := by decide +kernel
theorem dk_D_77 : decode prog_2_method_1_code 77 = .ok (.new 37, 3) := by decide +kernel
theorem dk_D_80 : decode prog_2_method_1_code 80 = .ok (.dup, 1) := by decide +kernel
theorem dk_D_81 : decode prog_2_method_1_code 81 = .ok (.invokespecial 39, 3) := by decide +kernel
theorem dk_D_84 : decode prog_2_method_1_code 84 = .ok (.putfield 40, 3) := by decide +kernel
theorem dk_D_87 : decode prog_2_method_1_code 87 = .ok (.aload_n 0, 1) := by decide +kernel
theorem dk_D_88 : decode prog_2_method_1_code 88 = .ok (.new 37, 3) := by decide +kernel
theorem dk_D_91 : decode prog_2_method_1_code 91 = .ok (.dup, 1) := by decide +kernel
theorem dk_D_92 : decode prog_2_method_1_code 92 = .ok (.invokespecial 39, 3) := by decide +kernel
theorem dk_D_95 : decode prog_2_method_1_code 95 = .ok (.putfield 44, 3) := by decide +kernel
theorem dk_D_98 : decode prog_2_method_1_code 98 = .ok (.aload_n 0, 1) := by decide +kernel
theorem dk_D_99 : decode prog_2_method_1_code 99 = .ok (.iconst 2, 1) := by decide +kernel
theorem dk_D_100 : decode prog_2_method_1_code 100 = .ok (.putfield 47, 3) := by decide +kernel
theorem dk_D_103 : decode prog_2_method_1_code 103 = .ok (.aload_n 0, 1) := by decide +kernel
theorem dk_D_104 : decode prog_2_method_1_code 104 = .ok (.iconst 1, 1) := by decide +kernel
theorem dk_D_105 : decode prog_2_method_1_code 105 = .ok (.putfield 51, 3) := by decide +kernel
theorem dk_D_108 : decode prog_2_method_1_code 108 = .ok (.return_, 1) := by decide +kernel
theorem dk_R_0 : decode prog_5_method_1_code 0 = .ok (.aload_n 0, 1) := by decide +kernel
theorem dk_R_1 : decode prog_5_method_1_code 1 = .ok (.invokespecial 1, 3) := by decide +kernel
theorem dk_R_4 : decode prog_5_method_1_code 4 = .ok (.aload_n 0, 1) := by decide +kernel
theorem dk_R_5 : decode prog_5_method_1_code 5 = .ok (.new 7, 3) := by decide +kernel
theorem dk_R_8 : decode prog_5_method_1_code 8 = .ok (.dup, 1) := by decide +kernel
theorem dk_R_9 : decode prog_5_method_1_code 9 = .ok (.invokespecial 9, 3) := by decide +kernel
theorem dk_R_12 : decode prog_5_method_1_code 12 = .ok (.putfield 10, 3) := by decide +kernel
theorem dk_R_15 : decode prog_5_method_1_code 15 = .ok (.aload_n 0, 1) := by decide +kernel
theorem dk_R_16 : decode prog_5_method_1_code 16 = .ok (.bipush 50, 2) := by decide +kernel
theorem dk_R_18 : decode prog_5_method_1_code 18 = .ok (.newarray .int, 2) := by decide +kernel
theorem dk_R_20 : decode prog_5_method_1_code 20 = .ok (.putfield 18, 3) := by decide +kernel
theorem dk_R_23 : decode prog_5_method_1_code 23 = .ok (.aload_n 0, 1) := by decide +kernel
theorem dk_R_24 : decode prog_5_method_1_code 24 = .ok (.ldc 22, 2) := by decide +kernel
theorem dk_R_26 : decode prog_5_method_1_code 26 = .ok (.putfield 24, 3) := by decide +kernel
theorem dk_R_29 : decode prog_5_method_1_code 29 = .ok (.return_, 1) := by decide +kernel
theorem dk_X_0 : decode prog_1_method_1_code 0 = .ok (.aload_n 0, 1) := by decide +kernel
theorem dk_X_1 : decode prog_1_method_1_code 1 = .ok (.invokespecial 1, 3) := by decide +kernel
theorem dk_X_4 : decode prog_1_method_1_code 4 = .ok (.aload_n 0, 1) := by decide +kernel
theorem dk_X_5 : decode prog_1_method_1_code 5 = .ok (.new 7, 3) := by decide +kernel
theorem dk_X_8 : decode prog_1_method_1_code 8 = .ok (.dup, 1) := by decide +kernel
theorem dk_X_9 : decode prog_1_method_1_code 9 = .ok (.invokespecial 9, 3) := by decide +kernel
theorem dk_X_12 : decode prog_1_method_1_code 12 = .ok (.putfield 10, 3) := by decide +kernel
theorem dk_X_15 : decode prog_1_method_1_code 15 = .ok (.aload_n 0, 1) := by decide +kernel
theorem dk_X_16 : decode prog_1_method_1_code 16 = .ok (.new 7, 3) := by decide +kernel
theorem dk_X_19 : decode prog_1_method_1_code 19 = .ok (.dup, 1) := by decide +kernel
theorem dk_X_20 : decode prog_1_method_1_code 20 = .ok (.invokespecial 9, 3) := by decide +kernel
theorem dk_X_23 : decode prog_1_method_1_code 23 = .ok (.putfield 16, 3) := by decide +kernel
theorem dk_X_26 : decode prog_1_method_1_code 26 = .ok (.aload_n 0, 1) := by decide +kernel
theorem dk_X_27 : decode prog_1_method_1_code 27 = .ok (.new 19, 3) := by decide +kernel
theorem dk_X_30 : decode prog_1_method_1_code 30 = .ok (.dup, 1) := by decide +kernel
theorem dk_X_31 : decode prog_1_method_1_code 31 = .ok (.aload_n 0, 1) := by decide +kernel
theorem dk_X_32 : decode prog_1_method_1_code 32 = .ok (.getfield 10, 3) := by decide +kernel
theorem dk_X_35 : decode prog_1_method_1_code 35 = .ok (.invokespecial 21, 3) := by decide +kernel
theorem dk_X_38 : decode prog_1_method_1_code 38 = .ok (.putfield 24, 3) := by decide +kernel
theorem dk_X_41 : decode prog_1_method_1_code 41 = .ok (.aload_n 0, 1) := by decide +kernel
theorem dk_X_42 : decode prog_1_method_1_code 42 = .ok (.new 28, 3) := by decide +kernel
theorem dk_X_45 : decode prog_1_method_1_code 45 = .ok (.dup, 1) := by decide +kernel
theorem dk_X_46 : decode prog_1_method_1_code 46 = .ok (.invokespecial 30, 3) := by decide +kernel
theorem dk_X_49 : decode prog_1_method_1_code 49 = .ok (.putfield 31, 3) := by decide +kernel
theorem dk_X_52 : decode prog_1_method_1_code 52 = .ok (.aload_n 0, 1) := by decide +kernel
theorem dk_X_53 : decode prog_1_method_1_code 53 = .ok (.new 35, 3) := by decide +kernel
theorem dk_X_56 : decode prog_1_method_1_code 56 = .ok (.dup, 1) := by decide +kernel
theorem dk_X_57 : decode prog_1_method_1_code 57 = .ok (.invokespecial 37, 3) := by decide +kernel
theorem dk_X_60 : decode prog_1_method_1_code 60 = .ok (.putfield 38, 3) := by decide +kernel
theorem dk_X_63 : decode prog_1_method_1_code 63 = .ok (.aload_n 0, 1) := by decide +kernel
theorem dk_X_64 : decode prog_1_method_1_code 64 = .ok (.iconst 4, 1) := by decide +kernel
theorem dk_X_65 : decode prog_1_method_1_code 65 = .ok (.anewarray 42, 3) := by decide +kernel
theorem dk_X_68 : decode prog_1_method_1_code 68 = .ok (.putfield 44, 3) := by decide +kernel
theorem dk_X_71 : decode prog_1_method_1_code 71 = .ok (.iconst 0, 1) := by decide +kernel
theorem dk_X_72 : decode prog_1_method_1_code 72 = .ok (.istore_n 1, 1) := by decide +kernel
theorem dk_X_73 : decode prog_1_method_1_code 73 = .ok (.iload_n 1, 1) := by decide +kernel
theorem dk_X_74 : decode prog_1_method_1_code 74 = .ok (.aload_n 0, 1) := by decide +kernel
theorem dk_X_75 : decode prog_1_method_1_code 75 = .ok (.getfield 44, 3) := by decide +kernel
theorem dk_X_78 : decode prog_1_method_1_code 78 = .ok (.arraylength, 1) := by decide +kernel
theorem dk_X_79 : decode prog_1_method_1_code 79 = .ok (.if_icmp .ge 22, 3) := by decide +kernel
theorem dk_X_82 : decode prog_1_method_1_code 82 = .ok (.aload_n 0, 1) := by decide +kernel
theorem dk_X_83 : decode prog_1_method_1_code 83 = .ok (.getfield 44, 3) := by decide +kernel
theorem dk_X_86 : decode prog_1_method_1_code 86 = .ok (.iload_n 1, 1) := by decide +kernel
theorem dk_X_87 : decode prog_1_method_1_code 87 = .ok (.new 42, 3) := by decide +kernel
theorem dk_X_90 : decode prog_1_method_1_code 90 = .ok (.dup, 1) := by decide +kernel
theorem dk_X_91 : decode prog_1_method_1_code 91 = .ok (.invokespecial 48, 3) := by decide +kernel
theorem dk_X_94 : decode prog_1_method_1_code 94 = .ok (.aastore, 1) := by decide +kernel
theorem dk_X_95 : decode prog_1_method_1_code 95 = .ok (.iinc 1 1, 3) := by decide +kernel
theorem dk_X_98 : decode prog_1_method_1_code 98 = .ok (.goto (-25), 3) := by decide +kernel
theorem dk_X_101 : decode prog_1_method_1_code 101 = .ok (.aload_n 0, 1) := by decide +kernel
theorem dk_X_102 : decode prog_1_method_1_code 102 = .ok (.bipush 6, 2) := by decide +kernel
theorem dk_X_104 : decode prog_1_method_1_code 104 = .ok (.newarray .int, 2) := by decide +kernel
theorem dk_X_106 : decode prog_1_method_1_code 106 = .ok (.putfield 49, 3) := by decide +kernel
theorem dk_X_109 : decode prog_1_method_1_code 109 = .ok (.return_, 1) := by decide +kernel
theorem dk_M_0 : decode prog_10_method_1_code 0 = .ok (.aload_n 0, 1) := by decide +kernel
theorem dk_M_1 : decode prog_10_method_1_code 1 = .ok (.invokespecial 1, 3) := by decide +kernel
theorem dk_M_4 : decode prog_10_method_1_code 4 = .ok (.aload_n 0, 1) := by decide +kernel
theorem dk_M_5 : decode prog_10_method_1_code 5 = .ok (.sipush 271, 3) := by decide +kernel
theorem dk_M_8 : decode prog_10_method_1_code 8 = .ok (.newarray .int, 2) := by decide +kernel
theorem dk_M_10 : decode prog_10_method_1_code 10 = .ok (.putfield 7, 3) := by decide +kernel
theorem dk_M_13 : decode prog_10_method_1_code 13 = .ok (.aload_n 0, 1) := by decide +kernel
theorem dk_M_14 : decode prog_10_method_1_code 14 = .ok (.sipush 271, 3) := by decide +kernel
theorem dk_M_17 : decode prog_10_method_1_code 17 = .ok (.newarray .int, 2) := by decide +kernel
theorem dk_M_19 : decode prog_10_method_1_code 19 = .ok (.putfield 13, 3) := by decide +kernel
theorem dk_M_22 : decode prog_10_method_1_code 22 = .ok (.aload_n 0, 1) := by decide +kernel
theorem dk_M_23 : decode prog_10_method_1_code 23 = .ok (.sipush 271, 3) := by decide +kernel
theorem dk_M_26 : decode prog_10_method_1_code 26 = .ok (.newarray .int, 2) := by decide +kernel
theorem dk_M_28 : decode prog_10_method_1_code 28 = .ok (.putfield 16, 3) := by decide +kernel
theorem dk_M_31 : decode prog_10_method_1_code 31 = .ok (.aload_n 0, 1) := by decide +kernel
theorem dk_M_32 : decode prog_10_method_1_code 32 = .ok (.sipush 271, 3) := by decide +kernel
theorem dk_M_35 : decode prog_10_method_1_code 35 = .ok (.newarray .int, 2) := by decide +kernel
theorem dk_M_37 : decode prog_10_method_1_code 37 = .ok (.putfield 19, 3) := by decide +kernel
theorem dk_M_40 : decode prog_10_method_1_code 40 = .ok (.aload_n 0, 1) := by decide +kernel
theorem dk_M_41 : decode prog_10_method_1_code 41 = .ok (.bipush 6, 2) := by decide +kernel
theorem dk_M_43 : decode prog_10_method_1_code 43 = .ok (.newarray .int, 2) := by decide +kernel
theorem dk_M_45 : decode prog_10_method_1_code 45 = .ok (.putfield 22, 3) := by decide +kernel
theorem dk_M_48 : decode prog_10_method_1_code 48 = .ok (.aload_n 0, 1) := by decide +kernel
theorem dk_M_49 : decode prog_10_method_1_code 49 = .ok (.bipush 6, 2) := by decide +kernel
theorem dk_M_51 : decode prog_10_method_1_code 51 = .ok (.newarray .int, 2) := by decide +kernel
theorem dk_M_53 : decode prog_10_method_1_code 53 = .ok (.putfield 25, 3) := by decide +kernel
theorem dk_M_56 : decode prog_10_method_1_code 56 = .ok (.aload_n 0, 1) := by decide +kernel
theorem dk_M_57 : decode prog_10_method_1_code 57 = .ok (.iconst 4, 1) := by decide +kernel
theorem dk_M_58 : decode prog_10_method_1_code 58 = .ok (.newarray .int, 2) := by decide +kernel
theorem dk_M_60 : decode prog_10_method_1_code 60 = .ok (.putfield 28, 3) := by decide +kernel
theorem dk_M_63 : decode prog_10_method_1_code 63 = .ok (.aload_n 0, 1) := by decide +kernel
theorem dk_M_64 : decode prog_10_method_1_code 64 = .ok (.iconst 4, 1) := by decide +kernel
theorem dk_M_65 : decode prog_10_method_1_code 65 = .ok (.newarray .int, 2) := by decide +kernel
theorem dk_M_67 : decode prog_10_method_1_code 67 = .ok (.putfield 31, 3) := by decide +kernel
theorem dk_M_70 : decode prog_10_method_1_code 70 = .ok (.aload_n 0, 1) := by decide +kernel
theorem dk_M_71 : decode prog_10_method_1_code 71 = .ok (.sipush 160, 3) := by decide +kernel
theorem dk_M_74 : decode prog_10_method_1_code 74 = .ok (.newarray .int, 2) := by decide +kernel
theorem dk_M_76 : decode prog_10_method_1_code 76 = .ok (.putfield 34, 3) := by decide +kernel
theorem dk_M_79 : decode prog_10_method_1_code 79 = .ok (.aload_n 0, 1) := by decide +kernel
theorem dk_M_80 : decode prog_10_method_1_code 80 = .ok (.bipush 40, 2) := by decide +kernel
theorem dk_M_82 : decode prog_10_method_1_code 82 = .ok (.newarray .int, 2) := by decide +kernel
theorem dk_M_84 : decode prog_10_method_1_code 84 = .ok (.putfield 37, 3) := by decide +kernel
theorem dk_M_87 : decode prog_10_method_1_code 87 = .ok (.aload_n 0, 1) := by decide +kernel
theorem dk_M_88 : decode prog_10_method_1_code 88 = .ok (.bipush 40, 2) := by decide +kernel
theorem dk_M_90 : decode prog_10_method_1_code 90 = .ok (.newarray .int, 2) := by decide +kernel
theorem dk_M_92 : decode prog_10_method_1_code 92 = .ok (.putfield 40, 3) := by decide +kernel
theorem dk_M_95 : decode prog_10_method_1_code 95 = .ok (.aload_n 0, 1) := by decide +kernel
theorem dk_M_96 : decode prog_10_method_1_code 96 = .ok (.getfield 7, 3) := by decide +kernel
theorem dk_M_99 : decode prog_10_method_1_code 99 = .ok (.iconst 1, 1) := by decide +kernel
theorem dk_M_100 : decode prog_10_method_1_code 100 = .ok (.iconst 1, 1) := by decide +kernel
theorem dk_M_101 : decode prog_10_method_1_code 101 = .ok (.iastore, 1) := by decide +kernel
theorem dk_M_102 : decode prog_10_method_1_code 102 = .ok (.aload_n 0, 1) := by decide +kernel
theorem dk_M_103 : decode prog_10_method_1_code 103 = .ok (.getfield 7, 3) := by decide +kernel
theorem dk_M_106 : decode prog_10_method_1_code 106 = .ok (.bipush 8, 2) := by decide +kernel
theorem dk_M_108 : decode prog_10_method_1_code 108 = .ok (.iconst 2, 1) := by decide +kernel
theorem dk_M_109 : decode prog_10_method_1_code 109 = .ok (.iastore, 1) := by decide +kernel
theorem dk_M_110 : decode prog_10_method_1_code 110 = .ok (.aload_n 0, 1) := by decide +kernel
theorem dk_M_111 : decode prog_10_method_1_code 111 = .ok (.getfield 7, 3) := by decide +kernel
theorem dk_M_114 : decode prog_10_method_1_code 114 = .ok (.iconst 5, 1) := by decide +kernel
theorem dk_M_115 : decode prog_10_method_1_code 115 = .ok (.iconst (-1), 1) := by decide +kernel
theorem dk_M_116 : decode prog_10_method_1_code 116 = .ok (.iastore, 1) := by decide +kernel
theorem dk_M_117 : decode prog_10_method_1_code 117 = .ok (.aload_n 0, 1) := by decide +kernel
theorem dk_M_118 : decode prog_10_method_1_code 118 = .ok (.getfield 7, 3) := by decide +kernel
theorem dk_M_121 : decode prog_10_method_1_code 121 = .ok (.bipush 6, 2) := by decide +kernel
theorem dk_M_123 : decode prog_10_method_1_code 123 = .ok (.iconst (-1), 1) := by decide +kernel
theorem dk_M_124 : decode prog_10_method_1_code 124 = .ok (.iastore, 1) := by decide +kernel
theorem dk_M_125 : decode prog_10_method_1_code 125 = .ok (.return_, 1) := by decide +kernel
