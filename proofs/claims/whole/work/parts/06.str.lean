theorem sq_q_0 : Cond.methodLink "java/lang/String" 633 ⟨"java/lang/String", "indexOf", "(II)I"⟩ ∈ sm_tbl := sm_in (List.mem_append_right _ (List.mem_of_getElem? (i := 466) (by decide +kernel))) (by decide +kernel)
theorem sq_q_1 : Cond.initialized "java/lang/String" ∈ sm_tbl := sm_in (List.mem_append_right _ (List.mem_of_getElem? (i := 12) (by decide +kernel))) (by decide +kernel)
theorem sq_q_2 : Cond.code ⟨"java/lang/String", "indexOf", "(II)I"⟩ prog_14_method_80_code 3 (some .int) ∈ sm_tbl := sm_in (List.mem_append_right _ (List.mem_of_getElem? (i := 469) (by decide +kernel))) (by decide +kernel)
theorem sq_q_3 : Cond.selects "java/lang/String" ⟨"java/lang/String", "indexOf", "(II)I"⟩ ⟨"java/lang/String", "indexOf", "(II)I"⟩ ∈ sm_tbl := sm_in (List.mem_append_right _ (List.mem_of_getElem? (i := 468) (by decide +kernel))) (by decide +kernel)
theorem sq_q_4 : Cond.instanceMethod ⟨"java/lang/String", "indexOf", "(II)I"⟩ ∈ sm_tbl := sm_in (List.mem_append_right _ (List.mem_of_getElem? (i := 467) (by decide +kernel))) (by decide +kernel)
theorem sq_ok_0 : sm_okV "java/lang/String" 633 ⟨"java/lang/String", "indexOf", "(II)I"⟩ prog_14_method_80_code 3 (some .int) 2 := ⟨⟨sq_q_0, sq_q_1, sq_q_2, by decide +kernel⟩, sq_q_4, sq_q_3⟩
theorem sq_q_5 : Cond.methodLink "java/lang/String" 492 ⟨"java/lang/String", "isLatin1", "()Z"⟩ ∈ sm_tbl := sm_in (List.mem_append_right _ (List.mem_of_getElem? (i := 470) (by decide +kernel))) (by decide +kernel)
theorem sq_q_6 : Cond.code ⟨"java/lang/String", "isLatin1", "()Z"⟩ prog_14_method_154_code 1 (some .boolean) ∈ sm_tbl := sm_in (List.mem_append_right _ (List.mem_of_getElem? (i := 473) (by decide +kernel))) (by decide +kernel)
theorem sq_q_7 : Cond.selects "java/lang/String" ⟨"java/lang/String", "isLatin1", "()Z"⟩ ⟨"java/lang/String", "isLatin1", "()Z"⟩ ∈ sm_tbl := sm_in (List.mem_append_right _ (List.mem_of_getElem? (i := 472) (by decide +kernel))) (by decide +kernel)
theorem sq_q_8 : Cond.instanceMethod ⟨"java/lang/String", "isLatin1", "()Z"⟩ ∈ sm_tbl := sm_in (List.mem_append_right _ (List.mem_of_getElem? (i := 471) (by decide +kernel))) (by decide +kernel)
theorem sq_ok_1 : sm_okV "java/lang/String" 492 ⟨"java/lang/String", "isLatin1", "()Z"⟩ prog_14_method_154_code 1 (some .boolean) 0 := ⟨⟨sq_q_5, sq_q_1, sq_q_6, by decide +kernel⟩, sq_q_8, sq_q_7⟩
theorem sq_q_9 : Cond.methodLink "java/lang/String" 505 ⟨"java/lang/String", "length", "()I"⟩ ∈ sm_tbl := sm_in (List.mem_append_right _ (List.mem_of_getElem? (i := 476) (by decide +kernel))) (by decide +kernel)
theorem sq_q_10 : Cond.code ⟨"java/lang/String", "length", "()I"⟩ prog_14_method_54_code 1 (some .int) ∈ sm_tbl := sm_in (List.mem_append_right _ (List.mem_of_getElem? (i := 479) (by decide +kernel))) (by decide +kernel)
theorem sq_q_11 : Cond.selects "java/lang/String" ⟨"java/lang/String", "length", "()I"⟩ ⟨"java/lang/String", "length", "()I"⟩ ∈ sm_tbl := sm_in (List.mem_append_right _ (List.mem_of_getElem? (i := 478) (by decide +kernel))) (by decide +kernel)
theorem sq_q_12 : Cond.instanceMethod ⟨"java/lang/String", "length", "()I"⟩ ∈ sm_tbl := sm_in (List.mem_append_right _ (List.mem_of_getElem? (i := 477) (by decide +kernel))) (by decide +kernel)
theorem sq_ok_2 : sm_okV "java/lang/String" 505 ⟨"java/lang/String", "length", "()I"⟩ prog_14_method_54_code 1 (some .int) 0 := ⟨⟨sq_q_9, sq_q_1, sq_q_10, by decide +kernel⟩, sq_q_12, sq_q_11⟩
theorem sq_q_13 : Cond.methodLink "java/lang/String" 335 ⟨"java/lang/String", "coder", "()B"⟩ ∈ sm_tbl := sm_in (List.mem_append_right _ (List.mem_of_getElem? (i := 480) (by decide +kernel))) (by decide +kernel)
theorem sq_q_14 : Cond.code ⟨"java/lang/String", "coder", "()B"⟩ prog_14_method_152_code 1 (some .byte) ∈ sm_tbl := sm_in (List.mem_append_right _ (List.mem_of_getElem? (i := 483) (by decide +kernel))) (by decide +kernel)
theorem sq_q_15 : Cond.selects "java/lang/String" ⟨"java/lang/String", "coder", "()B"⟩ ⟨"java/lang/String", "coder", "()B"⟩ ∈ sm_tbl := sm_in (List.mem_append_right _ (List.mem_of_getElem? (i := 482) (by decide +kernel))) (by decide +kernel)
theorem sq_q_16 : Cond.instanceMethod ⟨"java/lang/String", "coder", "()B"⟩ ∈ sm_tbl := sm_in (List.mem_append_right _ (List.mem_of_getElem? (i := 481) (by decide +kernel))) (by decide +kernel)
theorem sq_ok_3 : sm_okV "java/lang/String" 335 ⟨"java/lang/String", "coder", "()B"⟩ prog_14_method_152_code 1 (some .byte) 0 := ⟨⟨sq_q_13, sq_q_1, sq_q_14, by decide +kernel⟩, sq_q_16, sq_q_15⟩
theorem sq_q_17 : Cond.methodLink "java/lang/String" 637 ⟨"java/lang/StringLatin1", "indexOf", "([BIII)I"⟩ ∈ sm_tbl := sm_in (List.mem_append_right _ (List.mem_of_getElem? (i := 484) (by decide +kernel))) (by decide +kernel)
theorem sq_q_18 : Cond.initialized "java/lang/StringLatin1" ∈ sm_tbl := sm_in (List.mem_append_right _ (List.mem_of_getElem? (i := 13) (by decide +kernel))) (by decide +kernel)
theorem sq_q_19 : Cond.code ⟨"java/lang/StringLatin1", "indexOf", "([BIII)I"⟩ prog_15_method_22_code 4 (some .int) ∈ sm_tbl := sm_in (List.mem_append_right _ (List.mem_of_getElem? (i := 486) (by decide +kernel))) (by decide +kernel)
theorem sq_q_20 : Cond.static ⟨"java/lang/StringLatin1", "indexOf", "([BIII)I"⟩ ∈ sm_tbl := sm_in (List.mem_append_right _ (List.mem_of_getElem? (i := 485) (by decide +kernel))) (by decide +kernel)
theorem sq_ok_4 : sm_okS "java/lang/String" 637 ⟨"java/lang/StringLatin1", "indexOf", "([BIII)I"⟩ prog_15_method_22_code 4 (some .int) 4 := ⟨⟨sq_q_17, sq_q_18, sq_q_19, by decide +kernel⟩, sq_q_20⟩
theorem sq_q_21 : Cond.methodLink "java/lang/StringLatin1" 88 ⟨"java/lang/StringLatin1", "canEncode", "(I)Z"⟩ ∈ sm_tbl := sm_in (List.mem_append_right _ (List.mem_of_getElem? (i := 487) (by decide +kernel))) (by decide +kernel)
theorem sq_q_22 : Cond.code ⟨"java/lang/StringLatin1", "canEncode", "(I)Z"⟩ prog_15_method_4_code 1 (some .boolean) ∈ sm_tbl := sm_in (List.mem_append_right _ (List.mem_of_getElem? (i := 489) (by decide +kernel))) (by decide +kernel)
theorem sq_q_23 : Cond.static ⟨"java/lang/StringLatin1", "canEncode", "(I)Z"⟩ ∈ sm_tbl := sm_in (List.mem_append_right _ (List.mem_of_getElem? (i := 488) (by decide +kernel))) (by decide +kernel)
theorem sq_ok_5 : sm_okS "java/lang/StringLatin1" 88 ⟨"java/lang/StringLatin1", "canEncode", "(I)Z"⟩ prog_15_method_4_code 1 (some .boolean) 1 := ⟨⟨sq_q_21, sq_q_18, sq_q_22, by decide +kernel⟩, sq_q_23⟩
theorem sq_q_24 : Cond.methodLink "java/lang/StringLatin1" 95 ⟨"java/lang/StringLatin1", "indexOfChar", "([BIII)I"⟩ ∈ sm_tbl := sm_in (List.mem_append_right _ (List.mem_of_getElem? (i := 492) (by decide +kernel))) (by decide +kernel)
theorem sq_q_25 : Cond.code ⟨"java/lang/StringLatin1", "indexOfChar", "([BIII)I"⟩ prog_15_method_23_code 6 (some .int) ∈ sm_tbl := sm_in (List.mem_append_right _ (List.mem_of_getElem? (i := 494) (by decide +kernel))) (by decide +kernel)
theorem sq_q_26 : Cond.static ⟨"java/lang/StringLatin1", "indexOfChar", "([BIII)I"⟩ ∈ sm_tbl := sm_in (List.mem_append_right _ (List.mem_of_getElem? (i := 493) (by decide +kernel))) (by decide +kernel)
theorem sq_ok_6 : sm_okS "java/lang/StringLatin1" 95 ⟨"java/lang/StringLatin1", "indexOfChar", "([BIII)I"⟩ prog_15_method_23_code 6 (some .int) 4 := ⟨⟨sq_q_24, sq_q_18, sq_q_25, by decide +kernel⟩, sq_q_26⟩
theorem sq_max : Cond.methodLink "java/lang/StringLatin1" 92 Lib.Math.max.name ∈ sm_tbl := sm_in (List.mem_append_right _ (List.mem_of_getElem? (i := 490) (by decide +kernel))) (by decide +kernel)
theorem sq_min : Cond.methodLink "java/lang/StringLatin1" 38 Lib.Math.min.name ∈ sm_tbl := sm_in (List.mem_append_right _ (List.mem_of_getElem? (i := 491) (by decide +kernel))) (by decide +kernel)
theorem sq_cs : Cond.fieldLink "java/lang/String" 38 "java/lang/String" "COMPACT_STRINGS" "Z" ∈ sm_tbl := sm_in (List.mem_append_right _ (List.mem_of_getElem? (i := 474) (by decide +kernel))) (by decide +kernel)
theorem sq_cd : Cond.fieldLink "java/lang/String" 15 "java/lang/String" "coder" "B" ∈ sm_tbl := sm_in (List.mem_append_right _ (List.mem_of_getElem? (i := 1303) (by decide +kernel))) (by decide +kernel)
theorem sq_vl : Cond.fieldLink "java/lang/String" 9 "java/lang/String" "value" "[B" ∈ sm_tbl := sm_in (List.mem_append_right _ (List.mem_of_getElem? (i := 1304) (by decide +kernel))) (by decide +kernel)
theorem ds_lat_0 : decode prog_14_method_154_code 0 = .ok (.getstatic 38, 3) := by decide +kernel
theorem ds_lat_3 : decode prog_14_method_154_code 3 = .ok (.ifCond .eq 14, 3) := by decide +kernel
theorem ds_lat_6 : decode prog_14_method_154_code 6 = .ok (.aload_n 0, 1) := by decide +kernel
theorem ds_lat_7 : decode prog_14_method_154_code 7 = .ok (.getfield 15, 3) := by decide +kernel
theorem ds_lat_10 : decode prog_14_method_154_code 10 = .ok (.ifCond .ne 7, 3) := by decide +kernel
theorem ds_lat_13 : decode prog_14_method_154_code 13 = .ok (.iconst 1, 1) := by decide +kernel
theorem ds_lat_14 : decode prog_14_method_154_code 14 = .ok (.goto 4, 3) := by decide +kernel
theorem ds_lat_17 : decode prog_14_method_154_code 17 = .ok (.iconst 0, 1) := by decide +kernel
theorem ds_lat_18 : decode prog_14_method_154_code 18 = .ok (.ireturn, 1) := by decide +kernel
theorem ds_cod_0 : decode prog_14_method_152_code 0 = .ok (.getstatic 38, 3) := by decide +kernel
theorem ds_cod_3 : decode prog_14_method_152_code 3 = .ok (.ifCond .eq 10, 3) := by decide +kernel
theorem ds_cod_6 : decode prog_14_method_152_code 6 = .ok (.aload_n 0, 1) := by decide +kernel
theorem ds_cod_7 : decode prog_14_method_152_code 7 = .ok (.getfield 15, 3) := by decide +kernel
theorem ds_cod_10 : decode prog_14_method_152_code 10 = .ok (.goto 4, 3) := by decide +kernel
theorem ds_cod_13 : decode prog_14_method_152_code 13 = .ok (.iconst 1, 1) := by decide +kernel
theorem ds_cod_14 : decode prog_14_method_152_code 14 = .ok (.ireturn, 1) := by decide +kernel
theorem ds_len_0 : decode prog_14_method_54_code 0 = .ok (.aload_n 0, 1) := by decide +kernel
theorem ds_len_1 : decode prog_14_method_54_code 1 = .ok (.getfield 9, 3) := by decide +kernel
theorem ds_len_4 : decode prog_14_method_54_code 4 = .ok (.arraylength, 1) := by decide +kernel
theorem ds_len_5 : decode prog_14_method_54_code 5 = .ok (.aload_n 0, 1) := by decide +kernel
theorem ds_len_6 : decode prog_14_method_54_code 6 = .ok (.invokevirtual 335, 3) := by decide +kernel
theorem ds_len_9 : decode prog_14_method_54_code 9 = .ok (.ishr, 1) := by decide +kernel
theorem ds_len_10 : decode prog_14_method_54_code 10 = .ok (.ireturn, 1) := by decide +kernel
theorem ds_can_0 : decode prog_15_method_4_code 0 = .ok (.iload_n 0, 1) := by decide +kernel
theorem ds_can_1 : decode prog_15_method_4_code 1 = .ok (.ifCond .lt 14, 3) := by decide +kernel
theorem ds_can_4 : decode prog_15_method_4_code 4 = .ok (.iload_n 0, 1) := by decide +kernel
theorem ds_can_5 : decode prog_15_method_4_code 5 = .ok (.sipush 255, 3) := by decide +kernel
theorem ds_can_8 : decode prog_15_method_4_code 8 = .ok (.if_icmp .gt 7, 3) := by decide +kernel
theorem ds_can_11 : decode prog_15_method_4_code 11 = .ok (.iconst 1, 1) := by decide +kernel
theorem ds_can_12 : decode prog_15_method_4_code 12 = .ok (.goto 4, 3) := by decide +kernel
theorem ds_can_15 : decode prog_15_method_4_code 15 = .ok (.iconst 0, 1) := by decide +kernel
theorem ds_can_16 : decode prog_15_method_4_code 16 = .ok (.ireturn, 1) := by decide +kernel
theorem ds_ch_0 : decode prog_15_method_23_code 0 = .ok (.iload_n 1, 1) := by decide +kernel
theorem ds_ch_1 : decode prog_15_method_23_code 1 = .ok (.i2b, 1) := by decide +kernel
theorem ds_ch_2 : decode prog_15_method_23_code 2 = .ok (.istore 4, 2) := by decide +kernel
theorem ds_ch_4 : decode prog_15_method_23_code 4 = .ok (.iload_n 2, 1) := by decide +kernel
theorem ds_ch_5 : decode prog_15_method_23_code 5 = .ok (.istore 5, 2) := by decide +kernel
theorem ds_ch_7 : decode prog_15_method_23_code 7 = .ok (.iload 5, 2) := by decide +kernel
theorem ds_ch_9 : decode prog_15_method_23_code 9 = .ok (.iload_n 3, 1) := by decide +kernel
theorem ds_ch_10 : decode prog_15_method_23_code 10 = .ok (.if_icmp .ge 21, 3) := by decide +kernel
theorem ds_ch_13 : decode prog_15_method_23_code 13 = .ok (.aload_n 0, 1) := by decide +kernel
theorem ds_ch_14 : decode prog_15_method_23_code 14 = .ok (.iload 5, 2) := by decide +kernel
theorem ds_ch_16 : decode prog_15_method_23_code 16 = .ok (.baload, 1) := by decide +kernel
theorem ds_ch_17 : decode prog_15_method_23_code 17 = .ok (.iload 4, 2) := by decide +kernel
theorem ds_ch_19 : decode prog_15_method_23_code 19 = .ok (.if_icmp .ne 6, 3) := by decide +kernel
theorem ds_ch_22 : decode prog_15_method_23_code 22 = .ok (.iload 5, 2) := by decide +kernel
theorem ds_ch_24 : decode prog_15_method_23_code 24 = .ok (.ireturn, 1) := by decide +kernel
theorem ds_ch_25 : decode prog_15_method_23_code 25 = .ok (.iinc 5 1, 3) := by decide +kernel
theorem ds_ch_28 : decode prog_15_method_23_code 28 = .ok (.goto (-21), 3) := by decide +kernel
theorem ds_ch_31 : decode prog_15_method_23_code 31 = .ok (.iconst (-1), 1) := by decide +kernel
theorem ds_ch_32 : decode prog_15_method_23_code 32 = .ok (.ireturn, 1) := by decide +kernel
theorem ds_L_0 : decode prog_15_method_22_code 0 = .ok (.iload_n 1, 1) := by decide +kernel
theorem ds_L_1 : decode prog_15_method_22_code 1 = .ok (.invokestatic 88, 3) := by decide +kernel
theorem ds_L_4 : decode prog_15_method_22_code 4 = .ok (.ifCond .ne 5, 3) := by decide +kernel
theorem ds_L_7 : decode prog_15_method_22_code 7 = .ok (.iconst (-1), 1) := by decide +kernel
theorem ds_L_8 : decode prog_15_method_22_code 8 = .ok (.ireturn, 1) := by decide +kernel
theorem ds_L_9 : decode prog_15_method_22_code 9 = .ok (.iload_n 2, 1) := by decide +kernel
theorem ds_L_10 : decode prog_15_method_22_code 10 = .ok (.iconst 0, 1) := by decide +kernel
theorem ds_L_11 : decode prog_15_method_22_code 11 = .ok (.invokestatic 92, 3) := by decide +kernel
theorem ds_L_14 : decode prog_15_method_22_code 14 = .ok (.istore_n 2, 1) := by decide +kernel
theorem ds_L_15 : decode prog_15_method_22_code 15 = .ok (.iload_n 3, 1) := by decide +kernel
theorem ds_L_16 : decode prog_15_method_22_code 16 = .ok (.aload_n 0, 1) := by decide +kernel
theorem ds_L_17 : decode prog_15_method_22_code 17 = .ok (.arraylength, 1) := by decide +kernel
theorem ds_L_18 : decode prog_15_method_22_code 18 = .ok (.invokestatic 38, 3) := by decide +kernel
theorem ds_L_21 : decode prog_15_method_22_code 21 = .ok (.istore_n 3, 1) := by decide +kernel
theorem ds_L_22 : decode prog_15_method_22_code 22 = .ok (.iload_n 2, 1) := by decide +kernel
theorem ds_L_23 : decode prog_15_method_22_code 23 = .ok (.iload_n 3, 1) := by decide +kernel
theorem ds_L_24 : decode prog_15_method_22_code 24 = .ok (.if_icmp .lt 5, 3) := by decide +kernel
theorem ds_L_27 : decode prog_15_method_22_code 27 = .ok (.iconst (-1), 1) := by decide +kernel
theorem ds_L_28 : decode prog_15_method_22_code 28 = .ok (.ireturn, 1) := by decide +kernel
theorem ds_L_29 : decode prog_15_method_22_code 29 = .ok (.aload_n 0, 1) := by decide +kernel
theorem ds_L_30 : decode prog_15_method_22_code 30 = .ok (.iload_n 1, 1) := by decide +kernel
theorem ds_L_31 : decode prog_15_method_22_code 31 = .ok (.iload_n 2, 1) := by decide +kernel
theorem ds_L_32 : decode prog_15_method_22_code 32 = .ok (.iload_n 3, 1) := by decide +kernel
theorem ds_L_33 : decode prog_15_method_22_code 33 = .ok (.invokestatic 95, 3) := by decide +kernel
theorem ds_L_36 : decode prog_15_method_22_code 36 = .ok (.ireturn, 1) := by decide +kernel
theorem ds_i2_0 : decode prog_14_method_80_code 0 = .ok (.aload_n 0, 1) := by decide +kernel
theorem ds_i2_1 : decode prog_14_method_80_code 1 = .ok (.invokevirtual 492, 3) := by decide +kernel
theorem ds_i2_4 : decode prog_14_method_80_code 4 = .ok (.ifCond .eq 19, 3) := by decide +kernel
theorem ds_i2_7 : decode prog_14_method_80_code 7 = .ok (.aload_n 0, 1) := by decide +kernel
theorem ds_i2_8 : decode prog_14_method_80_code 8 = .ok (.getfield 9, 3) := by decide +kernel
theorem ds_i2_11 : decode prog_14_method_80_code 11 = .ok (.iload_n 1, 1) := by decide +kernel
theorem ds_i2_12 : decode prog_14_method_80_code 12 = .ok (.iload_n 2, 1) := by decide +kernel
theorem ds_i2_13 : decode prog_14_method_80_code 13 = .ok (.aload_n 0, 1) := by decide +kernel
theorem ds_i2_14 : decode prog_14_method_80_code 14 = .ok (.invokevirtual 505, 3) := by decide +kernel
theorem ds_i2_17 : decode prog_14_method_80_code 17 = .ok (.invokestatic 637, 3) := by decide +kernel
theorem ds_i2_20 : decode prog_14_method_80_code 20 = .ok (.goto 16, 3) := by decide +kernel
theorem ds_i2_23 : decode prog_14_method_80_code 23 = .ok (.aload_n 0, 1) := by decide +kernel
theorem ds_i2_24 : decode prog_14_method_80_code 24 = .ok (.getfield 9, 3) := by decide +kernel
theorem ds_i2_27 : decode prog_14_method_80_code 27 = .ok (.iload_n 1, 1) := by decide +kernel
theorem ds_i2_28 : decode prog_14_method_80_code 28 = .ok (.iload_n 2, 1) := by decide +kernel
theorem ds_i2_29 : decode prog_14_method_80_code 29 = .ok (.aload_n 0, 1) := by decide +kernel
theorem ds_i2_30 : decode prog_14_method_80_code 30 = .ok (.invokevirtual 505, 3) := by decide +kernel
theorem ds_i2_33 : decode prog_14_method_80_code 33 = .ok (.invokestatic 640, 3) := by decide +kernel
theorem ds_i2_36 : decode prog_14_method_80_code 36 = .ok (.ireturn, 1) := by decide +kernel
theorem ds_i1_0 : decode prog_14_method_79_code 0 = .ok (.aload_n 0, 1) := by decide +kernel
theorem ds_i1_1 : decode prog_14_method_79_code 1 = .ok (.iload_n 1, 1) := by decide +kernel
theorem ds_i1_2 : decode prog_14_method_79_code 2 = .ok (.iconst 0, 1) := by decide +kernel
theorem ds_i1_3 : decode prog_14_method_79_code 3 = .ok (.invokevirtual 633, 3) := by decide +kernel
theorem ds_i1_6 : decode prog_14_method_79_code 6 = .ok (.ireturn, 1) := by decide +kernel
section SSTR
variable {p : Program} {l : Launch} {e : Env} {R : Room} {s : State} {m : MethodId} {args : Array Value} {below : List Frame} {meth : Method} {c : Code} {A : Nat → Prop} {Q : State → Prop} {G : sm_G} {nL kc ks pc : Nat} {stk : List sm_V} {lo : List (Nat × sm_V)} {μ : sm_Mem} {cc : ByteArray} {own : String}
theorem sr_sC (C : sm_C p s m args c cc nL own A G) {ix : Nat} (hw : Cond.fieldLink own ix "java/lang/String" "COMPACT_STRINGS" "Z" ∈ sm_tbl) (hd : decode cc pc = .ok (.getstatic ix, 3)) (k2 : sm_W p l e R s m args below meth c A Q G nL kc ks (pc + 3) (sm_I 1 :: stk) lo μ) : sm_W p l e R s m args below meth c A Q G nL kc ks pc stk lo μ := by
  intro H locs ls hP hD hS hL
  exact va_gets C.1 C.2.1 C.2.2.2.2.2.2.2.1.2.2.2.2.2 hS C.2.2.2.1 (C.2.2.2.2.1 _ hw) (fun _ h => h) hd (k2 H locs ls hP hD hS hL)
theorem sr_sK (C : sm_C p s m args c cc nL own A G) {ix i : Nat} (hi : i < 3) (hw : Cond.fieldLink own ix "java/lang/String" "coder" "B" ∈ sm_tbl) (hd : decode cc pc = .ok (.getfield ix, 3)) (k2 : sm_W p l e R s m args below meth c A Q G nL kc ks (pc + 3) (sm_I 0 :: stk) lo μ) : sm_W p l e R s m args below meth c A Q G nL kc ks pc (sm_R (100 + i) :: stk) lo μ := by
  intro H locs ls hP hD hS hL
  exact vk_getf C.1 C.2.1 (C.2.2.2.2.2.2.2.1.2.2.2.2.1.1 i hi).2.1 hS C.2.2.2.1 (C.2.2.2.2.1 _ hw) (fun _ h => h) hd (k2 H locs ls hP hD hS hL)
theorem sr_sV (C : sm_C p s m args c cc nL own A G) {ix i : Nat} (hi : i < 3) (hw : Cond.fieldLink own ix "java/lang/String" "value" "[B" ∈ sm_tbl) (hd : decode cc pc = .ok (.getfield ix, 3)) (k2 : sm_W p l e R s m args below meth c A Q G nL kc ks (pc + 3) (sm_R (120 + i) :: stk) lo μ) : sm_W p l e R s m args below meth c A Q G nL kc ks pc (sm_R (100 + i) :: stk) lo μ := by
  intro H locs ls hP hD hS hL
  exact vk_getf C.1 C.2.1 (C.2.2.2.2.2.2.2.1.2.2.2.2.1.1 i hi).2.2.1 hS C.2.2.2.1 (C.2.2.2.2.1 _ hw) (fun _ h => h) hd (k2 H locs ls hP hD hS hL)
theorem sr_sL (C : sm_C p s m args c cc nL own A G) {i : Nat} (hi : i < 3) (hd : decode cc pc = .ok (.arraylength, 1)) (k2 : sm_W p l e R s m args below meth c A Q G nL kc ks (pc + 1) (sm_I (Int32.ofNat (sm_slen.getD i 0)) :: stk) lo μ) : sm_W p l e R s m args below meth c A Q G nL kc ks pc (sm_R (120 + i) :: stk) lo μ := by
  intro H locs ls hP hD hS hL
  exact va_tlen C.1 C.2.1 (C.2.2.2.2.2.2.2.1.2.2.2.2.1.1 i hi).2.2.2 hS rfl hd (k2 H locs ls hP hD hS hL)
theorem sr_sB (C : sm_C p s m args c cc nL own A G) {i : Nat} (hi : i < 3) {x : Int32} (hx : vp_in x (sm_slen.getD i 0)) (hd : decode cc pc = .ok (.baload, 1)) (k2 : sm_W p l e R s m args below meth c A Q G nL kc ks (pc + 1) (sm_I ((sm_sbyt.getD i []).getD x.toNatClampNeg 0) :: stk) lo μ) : sm_W p l e R s m args below meth c A Q G nL kc ks pc (sm_I x :: sm_R (120 + i) :: stk) lo μ := by
  intro H locs ls hP hD hS hL
  exact va_tb C.1 C.2.1 (C.2.2.2.2.2.2.2.1.2.2.2.2.1.1 i hi).2.2.2 hS hx rfl hd (k2 H locs ls hP hD hS hL)

theorem sr_callSt (C : sm_C p s m args c cc nL own A G) {ix n yL i : Nat} {y : MethodName} {yc : ByteArray} {ret : Option FieldType} {rm : Room} (As : List sm_V) {K : Int32 → sm_Mem → Prop} (hi : i < 3) (hy : y.cls = "java/lang/String") (hM : sm_MI l y yc yL ret rm (sm_R (100 + i) :: As) μ K) (ok : sm_okV own ix y yc yL ret n) (hn : As.length = n) (hrc : rm.cells = 0) (hrs : rm.slots = 0) (hR : rm.frames + 1 ≤ R.frames ∧ 8 + (yL + 11) + rm.locals ≤ R.locals) (hcat : (stk.map sm_cat).sum ≤ 8) (hf : kc ≤ R.cells ∧ ks ≤ R.slots) (hd : decode cc pc = .ok (.invokevirtual ix, 3)) (kk : ∀ (r : Int32) (μ2 : sm_Mem), K r μ2 → sm_W p l e R s m args below meth c A Q G nL kc ks (pc + 3) (sm_I r :: stk) lo μ2) : sm_W p l e R s m args below meth c A Q G nL kc ks pc (As.reverse ++ sm_R (100 + i) :: stk) lo μ := by
  intro H locs ls hP hD hS hL
  have hF := va_free (wc := sm_wl G μ) hD hS C.2.2.2.2.2.2.1 _ sm_isC
  have hc : ((stk.map (sm_cv G.1)).map fun v => v.category).sum ≤ 8 := by
    have e1 : (stk.map (sm_cv G.1)).map (fun v => v.category) = stk.map sm_cat := by rw [List.map_map]; exact List.map_congr_left fun v _ => sm_cat_cv G.1 v
    rw [e1]; exact hcat
  have hrv : ∃ cell : Cell, H[G.1 (100 + i)]? = some cell ∧ cell.vm.isStatics = false ∧ s.vm.findClass y.cls = some cell.cls := by rw [hy]; exact vk_recv (i := i) (adK := fun i => G.1 (100 + i)) C.2.2.2.2.2.2.2.1.2.2.2.2.1 hi hS
  have hrun := va_runV (H := H) (locs := locs) (cells := kc) (slots := ks) (g := F0 m pc ls ((As.reverse ++ sm_R (100 + i) :: stk).map (sm_cv G.1))) (rest := stk.map (sm_cv G.1)) (As := As.map (sm_cv G.1)) (e := e) (below := below) (meth := meth) (nL := nL) ⟨C.1, C.2.1, C.2.2.1, C.2.2.2.1, C.2.2.2.2.1⟩ (hM G H.size) ⟨sm_callB C ok.1 hrc hrs hR, C.2.2.2.2.1 _ ok.2.1, C.2.2.2.2.1 _ ok.2.2⟩ ⟨sm_blind, hrv, sm_pre C (As := sm_R (100 + i) :: As) hP hD hS⟩ rfl (List.length_map (as := As) (sm_cv G.1) |>.trans hn) hL.1 (by simp [List.map_reverse, sm_cv]) (lv_room hc) hd hf
  refine va_calli hrun hS (fun q _ h => hF q h) hF (fun r u t H1 locs1 ht hvm hw hB hz1 hk1 hS1 => ?_)
  obtain ⟨hP1, hD1⟩ := sm_back C hP hD hS ht hk1 hB
  exact kk r u hw H1 locs1 ls hP1 hD1 hS1 hL
end SSTR
theorem PS_lat (l : Launch) {μ : sm_Mem} {i : Nat} (hi : i < 3) : sm_MI l ⟨"java/lang/String", "isLatin1", "()Z"⟩ prog_14_method_154_code 1 (some .boolean) { frames := 0, cells := 0, slots := 0, locals := 0 } [sm_R (100 + i)] μ (fun r μ2 => r = 1 ∧ μ2 = μ) := by
  refine sm_ofI (by decide +kernel) (fun _ => Nat.le_of_ble_eq_true rfl) ?_
  intro p e s m args below meth c A Q G C hR
  refine sr_sC C sq_cs ds_lat_0 ?_
  refine sr_if_eq C (tgt := 17) ds_lat_3 (by decide) (fun h => absurd h (by decide)) (fun _ => ?_)
  refine sr_aload_n C 0 rfl rfl ds_lat_6 ?_
  refine sr_sK C hi sq_cd ds_lat_7 ?_
  refine sr_if_ne C (tgt := 17) ds_lat_10 (by decide) (fun h => absurd rfl h) (fun _ => ?_)
  refine sr_iconst C (v := 1) ds_lat_13 (by decide) ?_
  refine sr_goto C (tgt := 18) (by decide) ds_lat_14 ?_
  exact hR _ _ _ _ ds_lat_18 rfl ⟨rfl, rfl⟩
theorem PS_cod (l : Launch) {μ : sm_Mem} {i : Nat} (hi : i < 3) : sm_MI l ⟨"java/lang/String", "coder", "()B"⟩ prog_14_method_152_code 1 (some .byte) { frames := 0, cells := 0, slots := 0, locals := 0 } [sm_R (100 + i)] μ (fun r μ2 => r = 0 ∧ μ2 = μ) := by
  refine sm_ofI (by decide +kernel) (fun _ => Nat.le_of_ble_eq_true rfl) ?_
  intro p e s m args below meth c A Q G C hR
  refine sr_sC C sq_cs ds_cod_0 ?_
  refine sr_if_eq C (tgt := 13) ds_cod_3 (by decide) (fun h => absurd h (by decide)) (fun _ => ?_)
  refine sr_aload_n C 0 rfl rfl ds_cod_6 ?_
  refine sr_sK C hi sq_cd ds_cod_7 ?_
  refine sr_goto C (tgt := 14) (by decide) ds_cod_10 ?_
  exact hR _ _ _ _ ds_cod_14 rfl ⟨rfl, rfl⟩
theorem PS_len (l : Launch) {μ : sm_Mem} {i : Nat} (hi : i < 3) : sm_MI l ⟨"java/lang/String", "length", "()I"⟩ prog_14_method_54_code 1 (some .int) { frames := 1, cells := 0, slots := 0, locals := 20 } [sm_R (100 + i)] μ (fun r μ2 => r = Int32.ofNat (sm_slen.getD i 0) ∧ μ2 = μ) := by
  refine sm_ofI (by decide +kernel) (fun _ => Nat.le_of_ble_eq_true rfl) ?_
  intro p e s m args below meth c A Q G C hR
  refine sr_aload_n C 0 rfl rfl ds_len_0 ?_
  refine sr_sV C hi sq_vl ds_len_1 ?_
  refine sr_sL C hi ds_len_4 ?_
  refine sr_aload_n C 0 rfl rfl ds_len_5 ?_
  refine sr_callSt C [] hi rfl (PS_cod l hi) sq_ok_3 rfl rfl rfl ⟨Nat.le_of_ble_eq_true rfl, Nat.le_of_ble_eq_true rfl⟩ (Nat.le_of_ble_eq_true rfl) ⟨Nat.zero_le _, Nat.zero_le _⟩ ds_len_6 (fun r μ2 h => ?_)
  obtain ⟨rfl, rfl⟩ := h
  refine sr_ishr C ds_len_9 ?_
  refine hR _ _ _ _ ds_len_10 rfl ⟨?_, rfl⟩
  exact (show ∀ i, i < 3 → (Int32.ofNat (sm_slen.getD i 0)) >>> ((0 : Int32) &&& 31) = Int32.ofNat (sm_slen.getD i 0) by decide +kernel) i hi
theorem PS_can (l : Launch) {μ : sm_Mem} {x : Int32} (hx : 0 ≤ x) : sm_MI l ⟨"java/lang/StringLatin1", "canEncode", "(I)Z"⟩ prog_15_method_4_code 1 (some .boolean) { frames := 0, cells := 0, slots := 0, locals := 0 } [sm_I x] μ (fun r μ2 => r = (if x ≤ 255 then 1 else 0) ∧ μ2 = μ) := by
  refine sm_ofI (by decide +kernel) (fun _ => Nat.le_of_ble_eq_true rfl) ?_
  intro p e s m args below meth c A Q G C hR
  refine sr_iload_n C 0 rfl rfl ds_can_0 ?_
  refine sr_if_lt C (tgt := 15) ds_can_1 (by decide) (fun h => absurd (Int32.lt_of_lt_of_le h hx) Int32.lt_irrefl) (fun _ => ?_)
  refine sr_iload_n C 0 rfl rfl ds_can_4 ?_
  refine sr_sipush C (v := 255) ds_can_5 (by decide) ?_
  refine sr_icmp_gt C (tgt := 15) ds_can_8 (by decide) (fun h => ?_) (fun h => ?_)
  · refine sr_iconst C (v := 0) ds_can_15 (by decide) ?_
    refine hR _ _ _ _ ds_can_16 rfl ⟨?_, rfl⟩
    rw [if_neg (fun q => absurd (Int32.lt_of_lt_of_le h q) Int32.lt_irrefl)]
  · refine sr_iconst C (v := 1) ds_can_11 (by decide) ?_
    refine sr_goto C (tgt := 16) (by decide) ds_can_12 ?_
    refine hR _ _ _ _ ds_can_16 rfl ⟨?_, rfl⟩
    rw [if_pos (Int32.not_lt.mp h)]
theorem st_key {x y : Int32} (h0 : 0 ≤ x) (h1 : x ≤ 255) (hy : 0 ≤ y ∧ y < 128) : x.toInt8.toInt32 = y ↔ x = y := by
  have hx : x = Int32.ofNat x.toNatClampNeg := (Int32.ofNat_toNatClampNeg x h0).symm
  have hyy : y = Int32.ofNat y.toNatClampNeg := (Int32.ofNat_toNatClampNeg y hy.1).symm
  have l1 : x.toNatClampNeg < 256 := by
    have a0 := Int32.le_iff_toInt_le.mp h1
    have e0 : (255 : Int32).toInt = 255 := by decide
    show x.toInt.toNat < 256
    omega
  have l2 : y.toNatClampNeg < 128 := by
    have a0 := Int32.lt_iff_toInt_lt.mp hy.2
    have e0 : (128 : Int32).toInt = 128 := by decide
    show y.toInt.toNat < 128
    omega
  rw [hx, hyy]
  exact (show ∀ a, a < 256 → ∀ b, b < 128 → ((Int32.ofNat a).toInt8.toInt32 = Int32.ofNat b ↔ Int32.ofNat a = Int32.ofNat b) by decide +kernel) _ l1 _ l2
theorem st_byt : ∀ i, i < 3 → ∀ j, j < sm_slen.getD i 0 → 0 ≤ (sm_sbyt.getD i []).getD j 0 ∧ (sm_sbyt.getD i []).getD j 0 < 128 := by decide +kernel
theorem st_far {x : Int32} (h : ¬ x ≤ 255) : ∀ i, i < 3 → sm_idx i x = -1 := by
  have k : ∀ y : Int32, y < 128 → ¬ x = y := fun y hy q => h (by rw [q]; exact Int32.le_of_lt (Int32.lt_trans hy (by decide)))
  intro i hi
  rcases (by omega : i = 0 ∨ i = 1 ∨ i = 2) with rfl | rfl | rfl
  · rfl
  · show (if x = 119 then 0 else if x = 121 then 0 + 1 else if x = 104 then 0 + 1 + 1 else -1) = (-1 : Int32)
    rw [if_neg (k _ (by decide)), if_neg (k _ (by decide)), if_neg (k _ (by decide))]
  · show (if x = 115 then 0 else if x = 109 then 0 + 1 else if x = 111 then 0 + 1 + 1 else -1) = (-1 : Int32)
    rw [if_neg (k _ (by decide)), if_neg (k _ (by decide)), if_neg (k _ (by decide))]
theorem st_dat : ∀ i, i < 3 → (sm_sbyt.getD i []).length = sm_slen.getD i 0 ∧ sm_slen.getD i 0 ≤ 3 := by decide +kernel
theorem st_vin : ∀ j n : Nat, n ≤ 3 → j < n → vp_in (Int32.ofNat j) n := fun j n hn hj h => by
  rcases (by omega : j = 0 ∨ j = 1 ∨ j = 2) with rfl | rfl | rfl
  · rcases h with h | h
    · exact absurd h (by decide)
    · exact absurd (show n ≤ 0 from h) (by omega)
  · rcases h with h | h
    · exact absurd h (by decide)
    · exact absurd (show n ≤ 1 from h) (by omega)
  · rcases h with h | h
    · exact absurd h (by decide)
    · exact absurd (show n ≤ 2 from h) (by omega)
theorem PS_ch (l : Launch) {μ : sm_Mem} {i : Nat} {x : Int32} (hi : i < 3) (h0 : 0 ≤ x) (h1 : x ≤ 255) : sm_MI l ⟨"java/lang/StringLatin1", "indexOfChar", "([BIII)I"⟩ prog_15_method_23_code 6 (some .int) { frames := 0, cells := 0, slots := 0, locals := 0 } [sm_R (120 + i), sm_I x, sm_I 0, sm_I (Int32.ofNat (sm_slen.getD i 0))] μ (fun r μ2 => r = sm_idx i x ∧ μ2 = μ) := by
  refine sm_ofI (by decide +kernel) (fun _ => Nat.le_of_ble_eq_true rfl) ?_
  intro p e s m args below meth c A Q G C hR
  obtain ⟨hl, hl3⟩ := st_dat i hi
  have B7 : ∀ (bs : List Int32) (j : Nat), (sm_sbyt.getD i []).drop j = bs → j ≤ sm_slen.getD i 0 → sm_find x bs (Int32.ofNat j) = sm_idx i x → sm_W p l e { frames := 0, cells := 0, slots := 0, locals := 0 } s m args below meth c A Q G 6 0 0 7 [] [(5, sm_I (Int32.ofNat j)), (4, sm_I x.toInt8.toInt32), (3, sm_I (Int32.ofNat (sm_slen.getD i 0))), (0, sm_R (120 + i))] μ := by
    intro bs
    induction bs with
    | nil =>
      intro j hb hj hf
      have hj2 : sm_slen.getD i 0 ≤ j := by rw [← hl]; exact List.drop_eq_nil_iff.mp hb
      have ej : j = sm_slen.getD i 0 := by omega
      subst ej
      refine sr_iload C 0 rfl ds_ch_7 ?_
      refine sr_iload_n C 2 rfl rfl ds_ch_9 ?_
      refine sr_icmp_ge C (tgt := 31) ds_ch_10 (by decide) (fun _ => ?_) (fun h => absurd (Int32.le_refl _) h)
      refine sr_iconst C (v := -1) ds_ch_31 (by decide) ?_
      exact hR _ _ _ _ ds_ch_32 rfl ⟨hf, rfl⟩
    | cons y ys ih =>
      intro j hb hj hf
      have hjl : j < sm_slen.getD i 0 := by
        rw [← hl]
        have hq := congrArg List.length hb
        rw [List.length_drop, List.length_cons] at hq
        omega
      have hy : (sm_sbyt.getD i []).getD j 0 = y := by
        have e1 : (sm_sbyt.getD i [])[j]? = some y := by
          have := congrArg (fun q : List Int32 => q[0]?) hb
          simpa using this
        rw [List.getD_eq_getElem?_getD, e1]
        rfl
      have hys : (sm_sbyt.getD i []).drop (j + 1) = ys := by
        rw [← List.drop_drop, hb]
        rfl
      have hc := st_byt i hi j hjl
      rw [hy] at hc
      have hjn : (Int32.ofNat j).toNatClampNeg = j := (show ∀ j, j < 3 → (Int32.ofNat j).toNatClampNeg = j by decide +kernel) j (by omega)
      refine sr_iload C 0 rfl ds_ch_7 ?_
      refine sr_iload_n C 2 rfl rfl ds_ch_9 ?_
      refine sr_icmp_ge C (tgt := 31) ds_ch_10 (by decide) (fun h => ?_) (fun _ => ?_)
      · exact absurd h ((show ∀ n, n ≤ 3 → ∀ j, j < n → ¬ Int32.ofNat n ≤ Int32.ofNat j by decide +kernel) _ hl3 j hjl)
      · refine sr_aload_n C 3 rfl rfl ds_ch_13 ?_
        refine sr_iload C 0 rfl ds_ch_14 ?_
        refine sr_sB C hi (st_vin j _ hl3 hjl) ds_ch_16 ?_
        rw [hjn, hy]
        refine sr_iload C 1 rfl ds_ch_17 ?_
        have hff : (if x = y then Int32.ofNat j else sm_find x ys (Int32.ofNat j + 1)) = sm_idx i x := hf
        refine sr_icmp_ne C (tgt := 25) ds_ch_19 (by decide) (fun h => ?_) (fun h => ?_)
        · have hxy : ¬ x = y := fun q => h ((st_key h0 h1 hc).mpr q).symm
          rw [if_neg hxy] at hff
          have e1 : Int32.ofNat j + 1 = Int32.ofNat (j + 1) := (show ∀ j, j < 3 → Int32.ofNat j + 1 = Int32.ofNat (j + 1) by decide +kernel) j (by omega)
          refine sr_iinc C 0 rfl (by decide) ds_ch_25 (v := Int32.ofNat (j + 1)) e1 ?_
          refine sr_goto C (tgt := 7) (by decide) ds_ch_28 ?_
          refine sr_mask C [0, 1, 2, 3] rfl ?_
          exact ih (j + 1) hys (by omega) (by rw [← e1]; exact hff)
        · have hxy : x = y := (st_key h0 h1 hc).mp h.symm
          rw [if_pos hxy] at hff
          refine sr_iload C 0 rfl ds_ch_22 ?_
          exact hR _ _ _ _ ds_ch_24 rfl ⟨hff, rfl⟩
  refine sr_iload_n C 1 rfl rfl ds_ch_0 ?_
  refine sr_i2b C ds_ch_1 ?_
  refine sr_istore C (by decide) ds_ch_2 ?_
  refine sr_iload_n C 3 rfl rfl ds_ch_4 ?_
  refine sr_istore C (by decide) ds_ch_5 ?_
  refine sr_mask C [0, 1, 5, 2] rfl ?_
  exact B7 _ 0 rfl (Nat.zero_le _) rfl
theorem PS_L (l : Launch) {μ : sm_Mem} {i : Nat} {x : Int32} (hi : i < 3) (h0 : 0 ≤ x) : sm_MI l ⟨"java/lang/StringLatin1", "indexOf", "([BIII)I"⟩ prog_15_method_22_code 4 (some .int) { frames := 1, cells := 0, slots := 0, locals := 25 } [sm_R (120 + i), sm_I x, sm_I 0, sm_I (Int32.ofNat (sm_slen.getD i 0))] μ (fun r μ2 => r = sm_idx i x ∧ μ2 = μ) := by
  refine sm_ofI (by decide +kernel) (fun _ => Nat.le_of_ble_eq_true rfl) ?_
  intro p e s m args below meth c A Q G C hR
  obtain ⟨hl, hl3⟩ := st_dat i hi
  refine sr_iload_n C 1 rfl rfl ds_L_0 ?_
  refine sr_callSI C [sm_I x] (PS_can l h0) sq_ok_5 rfl rfl rfl ⟨Nat.le_of_ble_eq_true rfl, Nat.le_of_ble_eq_true rfl⟩ (Nat.le_of_ble_eq_true rfl) ⟨Nat.zero_le _, Nat.zero_le _⟩ ds_L_1 (fun r μ2 h => ?_)
  obtain ⟨hr, rfl⟩ := h
  refine sr_if_ne C (tgt := 9) ds_L_4 (by decide) (fun h => ?_) (fun h => ?_)
  · have h1 : x ≤ 255 := by
      by_cases q : x ≤ 255
      · exact q
      · rw [if_neg q] at hr
        exact absurd hr h
    refine sr_iload_n C 2 rfl rfl ds_L_9 ?_
    refine sr_iconst C (v := 0) ds_L_10 (by decide) ?_
    refine sr_mmax C sq_max q_mmax1 q_mini q_mmax2 (Nat.le_of_ble_eq_true rfl) (Nat.le_of_ble_eq_true rfl) ⟨Nat.zero_le _, Nat.zero_le _⟩ ds_L_11 ?_
    rw [if_neg Int32.lt_irrefl]
    refine sr_istore_n C rfl (by decide) ds_L_14 ?_
    refine sr_iload_n C 3 rfl rfl ds_L_15 ?_
    refine sr_aload_n C 1 rfl rfl ds_L_16 ?_
    refine sr_sL C hi ds_L_17 ?_
    refine sr_mmin C sq_min q_mmin1 q_mini q_mmin2 (Nat.le_of_ble_eq_true rfl) (Nat.le_of_ble_eq_true rfl) ⟨Nat.zero_le _, Nat.zero_le _⟩ ds_L_18 ?_
    rw [if_neg Int32.lt_irrefl]
    refine sr_istore_n C rfl (by decide) ds_L_21 ?_
    refine sr_iload_n C 1 rfl rfl ds_L_22 ?_
    refine sr_iload_n C 0 rfl rfl ds_L_23 ?_
    refine sr_icmp_lt C (tgt := 29) ds_L_24 (by decide) (fun h => ?_) (fun h => ?_)
    · refine sr_aload_n C 2 rfl rfl ds_L_29 ?_
      refine sr_iload_n C 3 rfl rfl ds_L_30 ?_
      refine sr_iload_n C 1 rfl rfl ds_L_31 ?_
      refine sr_iload_n C 0 rfl rfl ds_L_32 ?_
      refine sr_callSI C [sm_R (120 + i), sm_I x, sm_I 0, sm_I (Int32.ofNat (sm_slen.getD i 0))] (PS_ch l hi h0 h1) sq_ok_6 rfl rfl rfl ⟨Nat.le_of_ble_eq_true rfl, Nat.le_of_ble_eq_true rfl⟩ (Nat.le_of_ble_eq_true rfl) ⟨Nat.zero_le _, Nat.zero_le _⟩ ds_L_33 (fun r μ3 h => ?_)
      obtain ⟨rfl, rfl⟩ := h
      exact hR _ _ _ _ ds_L_36 rfl ⟨rfl, rfl⟩
    · refine sr_iconst C (v := -1) ds_L_27 (by decide) ?_
      refine hR _ _ _ _ ds_L_28 rfl ⟨?_, rfl⟩
      rcases (by omega : i = 0 ∨ i = 1 ∨ i = 2) with rfl | rfl | rfl
      · rfl
      · exact absurd (show (0 : Int32) < Int32.ofNat 3 by decide) h
      · exact absurd (show (0 : Int32) < Int32.ofNat 3 by decide) h
  · have h1 : ¬ x ≤ 255 := fun q => by
      rw [if_pos q] at hr
      rw [hr] at h
      exact absurd h (by decide)
    refine sr_iconst C (v := -1) ds_L_7 (by decide) ?_
    exact hR _ _ _ _ ds_L_8 rfl ⟨(st_far h1 i hi).symm, rfl⟩
theorem PS_i2 (l : Launch) {μ : sm_Mem} {i : Nat} {x : Int32} (hi : i < 3) (h0 : 0 ≤ x) : sm_MI l ⟨"java/lang/String", "indexOf", "(II)I"⟩ prog_14_method_80_code 3 (some .int) { frames := 2, cells := 0, slots := 0, locals := 48 } [sm_R (100 + i), sm_I x, sm_I 0] μ (fun r μ2 => r = sm_idx i x ∧ μ2 = μ) := by
  refine sm_ofI (by decide +kernel) (fun _ => Nat.le_of_ble_eq_true rfl) ?_
  intro p e s m args below meth c A Q G C hR
  refine sr_aload_n C 0 rfl rfl ds_i2_0 ?_
  refine sr_callSt C [] hi rfl (PS_lat l hi) sq_ok_1 rfl rfl rfl ⟨Nat.le_of_ble_eq_true rfl, Nat.le_of_ble_eq_true rfl⟩ (Nat.le_of_ble_eq_true rfl) ⟨Nat.zero_le _, Nat.zero_le _⟩ ds_i2_1 (fun r μ2 h => ?_)
  obtain ⟨rfl, rfl⟩ := h
  refine sr_if_eq C (tgt := 23) ds_i2_4 (by decide) (fun h => absurd h (by decide)) (fun _ => ?_)
  refine sr_aload_n C 0 rfl rfl ds_i2_7 ?_
  refine sr_sV C hi sq_vl ds_i2_8 ?_
  refine sr_iload_n C 1 rfl rfl ds_i2_11 ?_
  refine sr_iload_n C 2 rfl rfl ds_i2_12 ?_
  refine sr_aload_n C 0 rfl rfl ds_i2_13 ?_
  refine sr_callSt C [] hi rfl (PS_len l hi) sq_ok_2 rfl rfl rfl ⟨Nat.le_of_ble_eq_true rfl, Nat.le_of_ble_eq_true rfl⟩ (Nat.le_of_ble_eq_true rfl) ⟨Nat.zero_le _, Nat.zero_le _⟩ ds_i2_14 (fun r μ2 h => ?_)
  obtain ⟨rfl, rfl⟩ := h
  refine sr_callSI C [sm_R (120 + i), sm_I x, sm_I 0, sm_I (Int32.ofNat (sm_slen.getD i 0))] (PS_L l hi h0) sq_ok_4 rfl rfl rfl ⟨Nat.le_of_ble_eq_true rfl, Nat.le_of_ble_eq_true rfl⟩ (Nat.le_of_ble_eq_true rfl) ⟨Nat.zero_le _, Nat.zero_le _⟩ ds_i2_17 (fun r μ2 h => ?_)
  obtain ⟨rfl, rfl⟩ := h
  refine sr_goto C (tgt := 36) (by decide) ds_i2_20 ?_
  exact hR _ _ _ _ ds_i2_36 rfl ⟨rfl, rfl⟩
theorem PS_i1 (l : Launch) {μ : sm_Mem} {i : Nat} {x : Int32} (hi : i < 3) (h0 : 0 ≤ x) : sm_MI l ⟨"java/lang/String", "indexOf", "(I)I"⟩ prog_14_method_79_code 2 (some .int) { frames := 3, cells := 0, slots := 0, locals := 70 } [sm_R (100 + i), sm_I x] μ (fun r μ2 => r = sm_idx i x ∧ μ2 = μ) := by
  refine sm_ofI (by decide +kernel) (fun _ => Nat.le_of_ble_eq_true rfl) ?_
  intro p e s m args below meth c A Q G C hR
  refine sr_aload_n C 0 rfl rfl ds_i1_0 ?_
  refine sr_iload_n C 1 rfl rfl ds_i1_1 ?_
  refine sr_iconst C (v := 0) ds_i1_2 (by decide) ?_
  refine sr_callSt C [sm_I x, sm_I 0] hi rfl (PS_i2 l hi h0) sq_ok_0 rfl rfl rfl ⟨Nat.le_of_ble_eq_true rfl, Nat.le_of_ble_eq_true rfl⟩ (Nat.le_of_ble_eq_true rfl) ⟨Nat.zero_le _, Nat.zero_le _⟩ ds_i1_3 (fun r μ2 h => ?_)
  obtain ⟨rfl, rfl⟩ := h
  exact hR _ _ _ _ ds_i1_6 rfl ⟨rfl, rfl⟩
theorem sr_indexOf {p : Program} {l : Launch} {e : Env} {R : Room} {s : State} {m : MethodId} {args : Array Value} {below : List Frame} {meth : Method} {c : Code} {A : Nat → Prop} {Q : State → Prop} {G : sm_G} {nL kc ks pc : Nat} {stk : List sm_V} {lo : List (Nat × sm_V)} {μ : sm_Mem} {cc : ByteArray} {own : String} (C : sm_C p s m args c cc nL own A G) {ix : Nat} {cI x : Int32} (ok : sm_okV own ix ⟨"java/lang/String", "indexOf", "(I)I"⟩ prog_14_method_79_code 2 (some .int) 1) (h1 : cI.toNatClampNeg < 3) (h2 : 0 ≤ x ∧ x < 65536) (hfr : 10 ≤ R.frames) (hlo : 400 ≤ R.locals) (hcat : (stk.map sm_cat).sum ≤ 8) (hf : kc ≤ R.cells ∧ ks ≤ R.slots) (hd : decode cc pc = .ok (.invokevirtual ix, 3)) (k : sm_W p l e R s m args below meth c A Q G nL kc ks (pc + 3) (sm_I (sm_idx cI.toNatClampNeg x) :: stk) lo μ) : sm_W p l e R s m args below meth c A Q G nL kc ks pc (sm_I x :: sm_R (100 + cI.toNatClampNeg) :: stk) lo μ := by
  refine sr_callSt C [sm_I x] h1 rfl (PS_i1 l h1 h2.1) ok rfl rfl rfl ⟨Nat.le_trans (by decide) hfr, Nat.le_trans (by decide) hlo⟩ hcat hf hd (fun r μ2 h => ?_)
  obtain ⟨rfl, rfl⟩ := h
  exact k
