section
-- ===== PART A: goes FIRST, ahead of the names: the tables' words, and 'selects' of the private methods out of them =====
/-- a private method of a class that the tables say can be made, by its rows of tables_1 -/
def lw_okq (q : MethodName × Nat) : Prop := (q.1.cls ≠ "java/lang/invoke/MethodHandle" ∧ q.1.cls ≠ "java/lang/invoke/VarHandle") ∧ Cond.instantiable q.1.cls q.2 ∈ tables_1 ∧ Cond.privateMethod q.1 ∈ tables_1 ∧ Cond.instanceMethod q.1 ∈ tables_1
theorem lw_p0 : lw_okq (⟨"SnowMoney", "error", "(I)I"⟩, 8) := ⟨⟨by decide +kernel, by decide +kernel⟩, List.mem_of_getElem? (i := 20) (by decide +kernel), List.mem_of_getElem? (i := 276) (by decide +kernel), List.mem_of_getElem? (i := 277) (by decide +kernel)⟩
theorem lw_p1 : lw_okq (⟨"SnowMoney$Reader", "readOr", "(I)Z"⟩, 5) := ⟨⟨by decide +kernel, by decide +kernel⟩, List.mem_of_getElem? (i := 173) (by decide +kernel), List.mem_of_getElem? (i := 424) (by decide +kernel), List.mem_of_getElem? (i := 425) (by decide +kernel)⟩
theorem lw_p2 : lw_okq (⟨"SnowMoney$Reader", "readAnd", "(I)Z"⟩, 5) := ⟨⟨by decide +kernel, by decide +kernel⟩, List.mem_of_getElem? (i := 173) (by decide +kernel), List.mem_of_getElem? (i := 428) (by decide +kernel), List.mem_of_getElem? (i := 429) (by decide +kernel)⟩
theorem lw_p3 : lw_okq (⟨"SnowMoney$Reader", "readComparison", "(I)Z"⟩, 5) := ⟨⟨by decide +kernel, by decide +kernel⟩, List.mem_of_getElem? (i := 173) (by decide +kernel), List.mem_of_getElem? (i := 432) (by decide +kernel), List.mem_of_getElem? (i := 433) (by decide +kernel)⟩
theorem lw_p4 : lw_okq (⟨"SnowMoney$Reader", "readSum", "(I)Z"⟩, 5) := ⟨⟨by decide +kernel, by decide +kernel⟩, List.mem_of_getElem? (i := 173) (by decide +kernel), List.mem_of_getElem? (i := 436) (by decide +kernel), List.mem_of_getElem? (i := 437) (by decide +kernel)⟩
theorem lw_p5 : lw_okq (⟨"SnowMoney$Reader", "readProduct", "(I)Z"⟩, 5) := ⟨⟨by decide +kernel, by decide +kernel⟩, List.mem_of_getElem? (i := 173) (by decide +kernel), List.mem_of_getElem? (i := 440) (by decide +kernel), List.mem_of_getElem? (i := 441) (by decide +kernel)⟩
theorem lw_p6 : lw_okq (⟨"SnowMoney$Reader", "readPart", "(I)Z"⟩, 5) := ⟨⟨by decide +kernel, by decide +kernel⟩, List.mem_of_getElem? (i := 173) (by decide +kernel), List.mem_of_getElem? (i := 444) (by decide +kernel), List.mem_of_getElem? (i := 445) (by decide +kernel)⟩
theorem lw_p7 : lw_okq (⟨"SnowMoney$Reader", "next", "()I"⟩, 5) := ⟨⟨by decide +kernel, by decide +kernel⟩, List.mem_of_getElem? (i := 173) (by decide +kernel), List.mem_of_getElem? (i := 448) (by decide +kernel), List.mem_of_getElem? (i := 449) (by decide +kernel)⟩
theorem lw_p8 : lw_okq (⟨"SnowMoney$Reader", "readNumber", "()V"⟩, 5) := ⟨⟨by decide +kernel, by decide +kernel⟩, List.mem_of_getElem? (i := 173) (by decide +kernel), List.mem_of_getElem? (i := 455) (by decide +kernel), List.mem_of_getElem? (i := 456) (by decide +kernel)⟩
theorem lw_p9 : lw_okq (⟨"SnowMoney$Reader", "readDenied", "(I)Z"⟩, 5) := ⟨⟨by decide +kernel, by decide +kernel⟩, List.mem_of_getElem? (i := 173) (by decide +kernel), List.mem_of_getElem? (i := 545) (by decide +kernel), List.mem_of_getElem? (i := 546) (by decide +kernel)⟩
theorem lw_p10 : lw_okq (⟨"SnowMoney$Reader", "readClosed", "(I)Z"⟩, 5) := ⟨⟨by decide +kernel, by decide +kernel⟩, List.mem_of_getElem? (i := 173) (by decide +kernel), List.mem_of_getElem? (i := 549) (by decide +kernel), List.mem_of_getElem? (i := 550) (by decide +kernel)⟩
theorem lw_p11 : lw_okq (⟨"SnowMoney", "pass", "(I)V"⟩, 8) := ⟨⟨by decide +kernel, by decide +kernel⟩, List.mem_of_getElem? (i := 20) (by decide +kernel), List.mem_of_getElem? (i := 568) (by decide +kernel), List.mem_of_getElem? (i := 569) (by decide +kernel)⟩
theorem lw_p12 : lw_okq (⟨"SnowMoney$Foresight", "feel", "(III)V"⟩, 9) := ⟨⟨by decide +kernel, by decide +kernel⟩, List.mem_of_getElem? (i := 137) (by decide +kernel), List.mem_of_getElem? (i := 581) (by decide +kernel), List.mem_of_getElem? (i := 582) (by decide +kernel)⟩
theorem lw_p13 : lw_okq (⟨"SnowMoney$Foresight", "melt", "(IIII)I"⟩, 9) := ⟨⟨by decide +kernel, by decide +kernel⟩, List.mem_of_getElem? (i := 137) (by decide +kernel), List.mem_of_getElem? (i := 587) (by decide +kernel), List.mem_of_getElem? (i := 588) (by decide +kernel)⟩
theorem lw_p14 : lw_okq (⟨"SnowMoney$Foresight", "hoursUntilGone", "(I)I"⟩, 9) := ⟨⟨by decide +kernel, by decide +kernel⟩, List.mem_of_getElem? (i := 137) (by decide +kernel), List.mem_of_getElem? (i := 623) (by decide +kernel), List.mem_of_getElem? (i := 624) (by decide +kernel)⟩
theorem lw_p15 : lw_okq (⟨"SnowMoney$Foresight", "sumSets", "(I)I"⟩, 9) := ⟨⟨by decide +kernel, by decide +kernel⟩, List.mem_of_getElem? (i := 137) (by decide +kernel), List.mem_of_getElem? (i := 655) (by decide +kernel), List.mem_of_getElem? (i := 656) (by decide +kernel)⟩
def lw_privs_1 : List (MethodName × Nat) := [(⟨"SnowMoney", "error", "(I)I"⟩, 8), (⟨"SnowMoney$Reader", "readOr", "(I)Z"⟩, 5), (⟨"SnowMoney$Reader", "readAnd", "(I)Z"⟩, 5), (⟨"SnowMoney$Reader", "readComparison", "(I)Z"⟩, 5), (⟨"SnowMoney$Reader", "readSum", "(I)Z"⟩, 5), (⟨"SnowMoney$Reader", "readProduct", "(I)Z"⟩, 5), (⟨"SnowMoney$Reader", "readPart", "(I)Z"⟩, 5), (⟨"SnowMoney$Reader", "next", "()I"⟩, 5), (⟨"SnowMoney$Reader", "readNumber", "()V"⟩, 5), (⟨"SnowMoney$Reader", "readDenied", "(I)Z"⟩, 5), (⟨"SnowMoney$Reader", "readClosed", "(I)Z"⟩, 5), (⟨"SnowMoney", "pass", "(I)V"⟩, 8), (⟨"SnowMoney$Foresight", "feel", "(III)V"⟩, 9), (⟨"SnowMoney$Foresight", "melt", "(IIII)I"⟩, 9), (⟨"SnowMoney$Foresight", "hoursUntilGone", "(I)I"⟩, 9), (⟨"SnowMoney$Foresight", "sumSets", "(I)I"⟩, 9)]
theorem lw_r1 : ∀ q ∈ lw_privs_1, lw_okq q := List.forall_mem_cons.mpr ⟨lw_p0, List.forall_mem_cons.mpr ⟨lw_p1, List.forall_mem_cons.mpr ⟨lw_p2, List.forall_mem_cons.mpr ⟨lw_p3, List.forall_mem_cons.mpr ⟨lw_p4, List.forall_mem_cons.mpr ⟨lw_p5, List.forall_mem_cons.mpr ⟨lw_p6, List.forall_mem_cons.mpr ⟨lw_p7, List.forall_mem_cons.mpr ⟨lw_p8, List.forall_mem_cons.mpr ⟨lw_p9, List.forall_mem_cons.mpr ⟨lw_p10, List.forall_mem_cons.mpr ⟨lw_p11, List.forall_mem_cons.mpr ⟨lw_p12, List.forall_mem_cons.mpr ⟨lw_p13, List.forall_mem_cons.mpr ⟨lw_p14, List.forall_mem_cons.mpr ⟨lw_p15, fun _ h => absurd h List.not_mem_nil⟩⟩⟩⟩⟩⟩⟩⟩⟩⟩⟩⟩⟩⟩⟩⟩
theorem lw_p16 : lw_okq (⟨"SnowMoney$Foresight", "isBetterSet", "(I)Z"⟩, 9) := ⟨⟨by decide +kernel, by decide +kernel⟩, List.mem_of_getElem? (i := 137) (by decide +kernel), List.mem_of_getElem? (i := 659) (by decide +kernel), List.mem_of_getElem? (i := 660) (by decide +kernel)⟩
theorem lw_p17 : lw_okq (⟨"SnowMoney$Foresight", "walk", "(IIIII)V"⟩, 9) := ⟨⟨by decide +kernel, by decide +kernel⟩, List.mem_of_getElem? (i := 137) (by decide +kernel), List.mem_of_getElem? (i := 690) (by decide +kernel), List.mem_of_getElem? (i := 691) (by decide +kernel)⟩
theorem lw_p18 : lw_okq (⟨"SnowMoney", "rowOf", "(I)LSnowMoney$Sheet;"⟩, 8) := ⟨⟨by decide +kernel, by decide +kernel⟩, List.mem_of_getElem? (i := 20) (by decide +kernel), List.mem_of_getElem? (i := 699) (by decide +kernel), List.mem_of_getElem? (i := 700) (by decide +kernel)⟩
theorem lw_p19 : lw_okq (⟨"SnowMoney$Foresight", "kindsThatLeave", "(III)I"⟩, 9) := ⟨⟨by decide +kernel, by decide +kernel⟩, List.mem_of_getElem? (i := 137) (by decide +kernel), List.mem_of_getElem? (i := 716) (by decide +kernel), List.mem_of_getElem? (i := 717) (by decide +kernel)⟩
theorem lw_p20 : lw_okq (⟨"SnowMoney$Voices", "speak", "(IIII)I"⟩, 5) := ⟨⟨by decide +kernel, by decide +kernel⟩, List.mem_of_getElem? (i := 200) (by decide +kernel), List.mem_of_getElem? (i := 760) (by decide +kernel), List.mem_of_getElem? (i := 761) (by decide +kernel)⟩
theorem lw_p21 : lw_okq (⟨"SnowMoney$Voices", "work", "(IIII)I"⟩, 5) := ⟨⟨by decide +kernel, by decide +kernel⟩, List.mem_of_getElem? (i := 200) (by decide +kernel), List.mem_of_getElem? (i := 770) (by decide +kernel), List.mem_of_getElem? (i := 771) (by decide +kernel)⟩
theorem lw_p22 : lw_okq (⟨"SnowMoneyModel", "errs", "(I)I"⟩, 28) := ⟨⟨by decide +kernel, by decide +kernel⟩, List.mem_of_getElem? (i := 853) (by decide +kernel), List.mem_of_getElem? (i := 952) (by decide +kernel), List.mem_of_getElem? (i := 953) (by decide +kernel)⟩
theorem lw_p23 : lw_okq (⟨"SnowMoneyModel", "isPlace", "(I)Z"⟩, 28) := ⟨⟨by decide +kernel, by decide +kernel⟩, List.mem_of_getElem? (i := 853) (by decide +kernel), List.mem_of_getElem? (i := 962) (by decide +kernel), List.mem_of_getElem? (i := 963) (by decide +kernel)⟩
theorem lw_p24 : lw_okq (⟨"SnowMoneyModel", "becomes", "(II)I"⟩, 28) := ⟨⟨by decide +kernel, by decide +kernel⟩, List.mem_of_getElem? (i := 853) (by decide +kernel), List.mem_of_getElem? (i := 966) (by decide +kernel), List.mem_of_getElem? (i := 967) (by decide +kernel)⟩
theorem lw_p25 : lw_okq (⟨"SnowMoneyModel", "notesAt", "(I)I"⟩, 28) := ⟨⟨by decide +kernel, by decide +kernel⟩, List.mem_of_getElem? (i := 853) (by decide +kernel), List.mem_of_getElem? (i := 974) (by decide +kernel), List.mem_of_getElem? (i := 975) (by decide +kernel)⟩
theorem lw_p26 : lw_okq (⟨"SnowMoneyModel", "its", "(II)I"⟩, 28) := ⟨⟨by decide +kernel, by decide +kernel⟩, List.mem_of_getElem? (i := 853) (by decide +kernel), List.mem_of_getElem? (i := 978) (by decide +kernel), List.mem_of_getElem? (i := 979) (by decide +kernel)⟩
theorem lw_p27 : lw_okq (⟨"SnowMoneyModel", "gets", "(III)V"⟩, 28) := ⟨⟨by decide +kernel, by decide +kernel⟩, List.mem_of_getElem? (i := 853) (by decide +kernel), List.mem_of_getElem? (i := 993) (by decide +kernel), List.mem_of_getElem? (i := 994) (by decide +kernel)⟩
theorem lw_p28 : lw_okq (⟨"SnowMoneyModel", "isNote", "(I)Z"⟩, 28) := ⟨⟨by decide +kernel, by decide +kernel⟩, List.mem_of_getElem? (i := 853) (by decide +kernel), List.mem_of_getElem? (i := 1001) (by decide +kernel), List.mem_of_getElem? (i := 1002) (by decide +kernel)⟩
theorem lw_p29 : lw_okq (⟨"SnowMoneyModel", "melts", "(I)I"⟩, 28) := ⟨⟨by decide +kernel, by decide +kernel⟩, List.mem_of_getElem? (i := 853) (by decide +kernel), List.mem_of_getElem? (i := 1005) (by decide +kernel), List.mem_of_getElem? (i := 1006) (by decide +kernel)⟩
theorem lw_p30 : lw_okq (⟨"SnowMoneyModel", "meltsAt", "(II)I"⟩, 28) := ⟨⟨by decide +kernel, by decide +kernel⟩, List.mem_of_getElem? (i := 853) (by decide +kernel), List.mem_of_getElem? (i := 1009) (by decide +kernel), List.mem_of_getElem? (i := 1010) (by decide +kernel)⟩
theorem lw_p31 : lw_okq (⟨"SnowMoneyModel", "lawOf", "(IIII)I"⟩, 28) := ⟨⟨by decide +kernel, by decide +kernel⟩, List.mem_of_getElem? (i := 853) (by decide +kernel), List.mem_of_getElem? (i := 1013) (by decide +kernel), List.mem_of_getElem? (i := 1014) (by decide +kernel)⟩
def lw_privs_2 : List (MethodName × Nat) := [(⟨"SnowMoney$Foresight", "isBetterSet", "(I)Z"⟩, 9), (⟨"SnowMoney$Foresight", "walk", "(IIIII)V"⟩, 9), (⟨"SnowMoney", "rowOf", "(I)LSnowMoney$Sheet;"⟩, 8), (⟨"SnowMoney$Foresight", "kindsThatLeave", "(III)I"⟩, 9), (⟨"SnowMoney$Voices", "speak", "(IIII)I"⟩, 5), (⟨"SnowMoney$Voices", "work", "(IIII)I"⟩, 5), (⟨"SnowMoneyModel", "errs", "(I)I"⟩, 28), (⟨"SnowMoneyModel", "isPlace", "(I)Z"⟩, 28), (⟨"SnowMoneyModel", "becomes", "(II)I"⟩, 28), (⟨"SnowMoneyModel", "notesAt", "(I)I"⟩, 28), (⟨"SnowMoneyModel", "its", "(II)I"⟩, 28), (⟨"SnowMoneyModel", "gets", "(III)V"⟩, 28), (⟨"SnowMoneyModel", "isNote", "(I)Z"⟩, 28), (⟨"SnowMoneyModel", "melts", "(I)I"⟩, 28), (⟨"SnowMoneyModel", "meltsAt", "(II)I"⟩, 28), (⟨"SnowMoneyModel", "lawOf", "(IIII)I"⟩, 28)]
theorem lw_r2 : ∀ q ∈ lw_privs_2, lw_okq q := List.forall_mem_cons.mpr ⟨lw_p16, List.forall_mem_cons.mpr ⟨lw_p17, List.forall_mem_cons.mpr ⟨lw_p18, List.forall_mem_cons.mpr ⟨lw_p19, List.forall_mem_cons.mpr ⟨lw_p20, List.forall_mem_cons.mpr ⟨lw_p21, List.forall_mem_cons.mpr ⟨lw_p22, List.forall_mem_cons.mpr ⟨lw_p23, List.forall_mem_cons.mpr ⟨lw_p24, List.forall_mem_cons.mpr ⟨lw_p25, List.forall_mem_cons.mpr ⟨lw_p26, List.forall_mem_cons.mpr ⟨lw_p27, List.forall_mem_cons.mpr ⟨lw_p28, List.forall_mem_cons.mpr ⟨lw_p29, List.forall_mem_cons.mpr ⟨lw_p30, List.forall_mem_cons.mpr ⟨lw_p31, fun _ h => absurd h List.not_mem_nil⟩⟩⟩⟩⟩⟩⟩⟩⟩⟩⟩⟩⟩⟩⟩⟩
theorem lw_p32 : lw_okq (⟨"SnowMoneyModel", "walks", "(IIII)I"⟩, 28) := ⟨⟨by decide +kernel, by decide +kernel⟩, List.mem_of_getElem? (i := 853) (by decide +kernel), List.mem_of_getElem? (i := 1017) (by decide +kernel), List.mem_of_getElem? (i := 1018) (by decide +kernel)⟩
theorem lw_p33 : lw_okq (⟨"SnowMoneyModel", "whole", "()I"⟩, 28) := ⟨⟨by decide +kernel, by decide +kernel⟩, List.mem_of_getElem? (i := 853) (by decide +kernel), List.mem_of_getElem? (i := 1021) (by decide +kernel), List.mem_of_getElem? (i := 1022) (by decide +kernel)⟩
theorem lw_p34 : lw_okq (⟨"SnowMoneyModel", "both", "()I"⟩, 28) := ⟨⟨by decide +kernel, by decide +kernel⟩, List.mem_of_getElem? (i := 853) (by decide +kernel), List.mem_of_getElem? (i := 1025) (by decide +kernel), List.mem_of_getElem? (i := 1026) (by decide +kernel)⟩
theorem lw_p35 : lw_okq (⟨"SnowMoneyModel", "compared", "()I"⟩, 28) := ⟨⟨by decide +kernel, by decide +kernel⟩, List.mem_of_getElem? (i := 853) (by decide +kernel), List.mem_of_getElem? (i := 1029) (by decide +kernel), List.mem_of_getElem? (i := 1030) (by decide +kernel)⟩
theorem lw_p36 : lw_okq (⟨"SnowMoneyModel", "sum", "()I"⟩, 28) := ⟨⟨by decide +kernel, by decide +kernel⟩, List.mem_of_getElem? (i := 853) (by decide +kernel), List.mem_of_getElem? (i := 1033) (by decide +kernel), List.mem_of_getElem? (i := 1034) (by decide +kernel)⟩
theorem lw_p37 : lw_okq (⟨"SnowMoneyModel", "product", "()I"⟩, 28) := ⟨⟨by decide +kernel, by decide +kernel⟩, List.mem_of_getElem? (i := 853) (by decide +kernel), List.mem_of_getElem? (i := 1037) (by decide +kernel), List.mem_of_getElem? (i := 1038) (by decide +kernel)⟩
theorem lw_p38 : lw_okq (⟨"SnowMoneyModel", "factor", "()I"⟩, 28) := ⟨⟨by decide +kernel, by decide +kernel⟩, List.mem_of_getElem? (i := 853) (by decide +kernel), List.mem_of_getElem? (i := 1041) (by decide +kernel), List.mem_of_getElem? (i := 1042) (by decide +kernel)⟩
theorem lw_p39 : lw_okq (⟨"SnowMoneyModel", "byteAt", "(I)I"⟩, 28) := ⟨⟨by decide +kernel, by decide +kernel⟩, List.mem_of_getElem? (i := 853) (by decide +kernel), List.mem_of_getElem? (i := 1045) (by decide +kernel), List.mem_of_getElem? (i := 1046) (by decide +kernel)⟩
theorem lw_p40 : lw_okq (⟨"SnowMoneyModel", "number", "()I"⟩, 28) := ⟨⟨by decide +kernel, by decide +kernel⟩, List.mem_of_getElem? (i := 853) (by decide +kernel), List.mem_of_getElem? (i := 1052) (by decide +kernel), List.mem_of_getElem? (i := 1053) (by decide +kernel)⟩
theorem lw_p41 : lw_okq (⟨"SnowMoneyModel", "named", "(I)I"⟩, 28) := ⟨⟨by decide +kernel, by decide +kernel⟩, List.mem_of_getElem? (i := 853) (by decide +kernel), List.mem_of_getElem? (i := 1056) (by decide +kernel), List.mem_of_getElem? (i := 1057) (by decide +kernel)⟩
theorem lw_p42 : lw_okq (⟨"SnowMoneyModel", "fails", "()I"⟩, 28) := ⟨⟨by decide +kernel, by decide +kernel⟩, List.mem_of_getElem? (i := 853) (by decide +kernel), List.mem_of_getElem? (i := 1060) (by decide +kernel), List.mem_of_getElem? (i := 1061) (by decide +kernel)⟩
theorem lw_p43 : lw_okq (⟨"SnowMoneyModel", "pays", "(I)I"⟩, 28) := ⟨⟨by decide +kernel, by decide +kernel⟩, List.mem_of_getElem? (i := 853) (by decide +kernel), List.mem_of_getElem? (i := 1067) (by decide +kernel), List.mem_of_getElem? (i := 1068) (by decide +kernel)⟩
theorem lw_p44 : lw_okq (⟨"SnowMoneyModel", "moveAll", "([I[I)V"⟩, 28) := ⟨⟨by decide +kernel, by decide +kernel⟩, List.mem_of_getElem? (i := 853) (by decide +kernel), List.mem_of_getElem? (i := 1104) (by decide +kernel), List.mem_of_getElem? (i := 1105) (by decide +kernel)⟩
theorem lw_p45 : lw_okq (⟨"SnowMoneyModel", "passes", "(I)V"⟩, 28) := ⟨⟨by decide +kernel, by decide +kernel⟩, List.mem_of_getElem? (i := 853) (by decide +kernel), List.mem_of_getElem? (i := 1113) (by decide +kernel), List.mem_of_getElem? (i := 1114) (by decide +kernel)⟩
theorem lw_p46 : lw_okq (⟨"SnowMoneyModel", "oneHour", "()V"⟩, 28) := ⟨⟨by decide +kernel, by decide +kernel⟩, List.mem_of_getElem? (i := 853) (by decide +kernel), List.mem_of_getElem? (i := 1117) (by decide +kernel), List.mem_of_getElem? (i := 1118) (by decide +kernel)⟩
theorem lw_p47 : lw_okq (⟨"SnowMoneyModel", "loses", "(II)V"⟩, 28) := ⟨⟨by decide +kernel, by decide +kernel⟩, List.mem_of_getElem? (i := 853) (by decide +kernel), List.mem_of_getElem? (i := 1121) (by decide +kernel), List.mem_of_getElem? (i := 1122) (by decide +kernel)⟩
def lw_privs_3 : List (MethodName × Nat) := [(⟨"SnowMoneyModel", "walks", "(IIII)I"⟩, 28), (⟨"SnowMoneyModel", "whole", "()I"⟩, 28), (⟨"SnowMoneyModel", "both", "()I"⟩, 28), (⟨"SnowMoneyModel", "compared", "()I"⟩, 28), (⟨"SnowMoneyModel", "sum", "()I"⟩, 28), (⟨"SnowMoneyModel", "product", "()I"⟩, 28), (⟨"SnowMoneyModel", "factor", "()I"⟩, 28), (⟨"SnowMoneyModel", "byteAt", "(I)I"⟩, 28), (⟨"SnowMoneyModel", "number", "()I"⟩, 28), (⟨"SnowMoneyModel", "named", "(I)I"⟩, 28), (⟨"SnowMoneyModel", "fails", "()I"⟩, 28), (⟨"SnowMoneyModel", "pays", "(I)I"⟩, 28), (⟨"SnowMoneyModel", "moveAll", "([I[I)V"⟩, 28), (⟨"SnowMoneyModel", "passes", "(I)V"⟩, 28), (⟨"SnowMoneyModel", "oneHour", "()V"⟩, 28), (⟨"SnowMoneyModel", "loses", "(II)V"⟩, 28)]
theorem lw_r3 : ∀ q ∈ lw_privs_3, lw_okq q := List.forall_mem_cons.mpr ⟨lw_p32, List.forall_mem_cons.mpr ⟨lw_p33, List.forall_mem_cons.mpr ⟨lw_p34, List.forall_mem_cons.mpr ⟨lw_p35, List.forall_mem_cons.mpr ⟨lw_p36, List.forall_mem_cons.mpr ⟨lw_p37, List.forall_mem_cons.mpr ⟨lw_p38, List.forall_mem_cons.mpr ⟨lw_p39, List.forall_mem_cons.mpr ⟨lw_p40, List.forall_mem_cons.mpr ⟨lw_p41, List.forall_mem_cons.mpr ⟨lw_p42, List.forall_mem_cons.mpr ⟨lw_p43, List.forall_mem_cons.mpr ⟨lw_p44, List.forall_mem_cons.mpr ⟨lw_p45, List.forall_mem_cons.mpr ⟨lw_p46, List.forall_mem_cons.mpr ⟨lw_p47, fun _ h => absurd h List.not_mem_nil⟩⟩⟩⟩⟩⟩⟩⟩⟩⟩⟩⟩⟩⟩⟩⟩
theorem lw_p48 : lw_okq (⟨"SnowMoneyModel", "snowOfAll", "()I"⟩, 28) := ⟨⟨by decide +kernel, by decide +kernel⟩, List.mem_of_getElem? (i := 853) (by decide +kernel), List.mem_of_getElem? (i := 1125) (by decide +kernel), List.mem_of_getElem? (i := 1126) (by decide +kernel)⟩
theorem lw_p49 : lw_okq (⟨"SnowMoneyModel", "drawn", "(I)I"⟩, 28) := ⟨⟨by decide +kernel, by decide +kernel⟩, List.mem_of_getElem? (i := 853) (by decide +kernel), List.mem_of_getElem? (i := 1133) (by decide +kernel), List.mem_of_getElem? (i := 1134) (by decide +kernel)⟩
theorem lw_p50 : lw_okq (⟨"SnowMoneyModel", "roadOf", "(II)I"⟩, 28) := ⟨⟨by decide +kernel, by decide +kernel⟩, List.mem_of_getElem? (i := 853) (by decide +kernel), List.mem_of_getElem? (i := 1142) (by decide +kernel), List.mem_of_getElem? (i := 1143) (by decide +kernel)⟩
theorem lw_p51 : lw_okq (⟨"SnowMoneyModel", "goneSince", "()I"⟩, 28) := ⟨⟨by decide +kernel, by decide +kernel⟩, List.mem_of_getElem? (i := 853) (by decide +kernel), List.mem_of_getElem? (i := 1154) (by decide +kernel), List.mem_of_getElem? (i := 1155) (by decide +kernel)⟩
theorem lw_p52 : lw_okq (⟨"SnowMoneyModel", "worthOf", "(I)I"⟩, 28) := ⟨⟨by decide +kernel, by decide +kernel⟩, List.mem_of_getElem? (i := 853) (by decide +kernel), List.mem_of_getElem? (i := 1163) (by decide +kernel), List.mem_of_getElem? (i := 1164) (by decide +kernel)⟩
theorem lw_p53 : lw_okq (⟨"SnowMoneyModel", "findWay", "(II)V"⟩, 28) := ⟨⟨by decide +kernel, by decide +kernel⟩, List.mem_of_getElem? (i := 853) (by decide +kernel), List.mem_of_getElem? (i := 1186) (by decide +kernel), List.mem_of_getElem? (i := 1187) (by decide +kernel)⟩
theorem lw_p54 : lw_okq (⟨"SnowMoneyModel", "measures", "(III)V"⟩, 28) := ⟨⟨by decide +kernel, by decide +kernel⟩, List.mem_of_getElem? (i := 853) (by decide +kernel), List.mem_of_getElem? (i := 1190) (by decide +kernel), List.mem_of_getElem? (i := 1191) (by decide +kernel)⟩
theorem lw_p55 : lw_okq (⟨"SnowMoneyModel", "hasThen", "(IIII)Z"⟩, 28) := ⟨⟨by decide +kernel, by decide +kernel⟩, List.mem_of_getElem? (i := 853) (by decide +kernel), List.mem_of_getElem? (i := 1201) (by decide +kernel), List.mem_of_getElem? (i := 1202) (by decide +kernel)⟩
theorem lw_p56 : lw_okq (⟨"SnowMoneyModel", "fallsIn", "(II)I"⟩, 28) := ⟨⟨by decide +kernel, by decide +kernel⟩, List.mem_of_getElem? (i := 853) (by decide +kernel), List.mem_of_getElem? (i := 1228) (by decide +kernel), List.mem_of_getElem? (i := 1229) (by decide +kernel)⟩
theorem lw_p57 : lw_okq (⟨"SnowMoneyModel", "ran", "(I)V"⟩, 28) := ⟨⟨by decide +kernel, by decide +kernel⟩, List.mem_of_getElem? (i := 853) (by decide +kernel), List.mem_of_getElem? (i := 1232) (by decide +kernel), List.mem_of_getElem? (i := 1233) (by decide +kernel)⟩
theorem lw_p58 : lw_okq (⟨"SnowMoneyModel", "meltsIn", "(II)I"⟩, 28) := ⟨⟨by decide +kernel, by decide +kernel⟩, List.mem_of_getElem? (i := 853) (by decide +kernel), List.mem_of_getElem? (i := 1236) (by decide +kernel), List.mem_of_getElem? (i := 1237) (by decide +kernel)⟩
theorem lw_p59 : lw_okq (⟨"SnowMoneyModel", "paysIn", "(II)I"⟩, 28) := ⟨⟨by decide +kernel, by decide +kernel⟩, List.mem_of_getElem? (i := 853) (by decide +kernel), List.mem_of_getElem? (i := 1240) (by decide +kernel), List.mem_of_getElem? (i := 1241) (by decide +kernel)⟩
theorem lw_p60 : lw_okq (⟨"SnowMoneyModel", "ringsIn", "(II)I"⟩, 28) := ⟨⟨by decide +kernel, by decide +kernel⟩, List.mem_of_getElem? (i := 853) (by decide +kernel), List.mem_of_getElem? (i := 1244) (by decide +kernel), List.mem_of_getElem? (i := 1245) (by decide +kernel)⟩
theorem lw_p61 : lw_okq (⟨"SnowMoneyModel", "gone", "()I"⟩, 28) := ⟨⟨by decide +kernel, by decide +kernel⟩, List.mem_of_getElem? (i := 853) (by decide +kernel), List.mem_of_getElem? (i := 1295) (by decide +kernel), List.mem_of_getElem? (i := 1296) (by decide +kernel)⟩
def lw_privs_4 : List (MethodName × Nat) := [(⟨"SnowMoneyModel", "snowOfAll", "()I"⟩, 28), (⟨"SnowMoneyModel", "drawn", "(I)I"⟩, 28), (⟨"SnowMoneyModel", "roadOf", "(II)I"⟩, 28), (⟨"SnowMoneyModel", "goneSince", "()I"⟩, 28), (⟨"SnowMoneyModel", "worthOf", "(I)I"⟩, 28), (⟨"SnowMoneyModel", "findWay", "(II)V"⟩, 28), (⟨"SnowMoneyModel", "measures", "(III)V"⟩, 28), (⟨"SnowMoneyModel", "hasThen", "(IIII)Z"⟩, 28), (⟨"SnowMoneyModel", "fallsIn", "(II)I"⟩, 28), (⟨"SnowMoneyModel", "ran", "(I)V"⟩, 28), (⟨"SnowMoneyModel", "meltsIn", "(II)I"⟩, 28), (⟨"SnowMoneyModel", "paysIn", "(II)I"⟩, 28), (⟨"SnowMoneyModel", "ringsIn", "(II)I"⟩, 28), (⟨"SnowMoneyModel", "gone", "()I"⟩, 28)]
theorem lw_r4 : ∀ q ∈ lw_privs_4, lw_okq q := List.forall_mem_cons.mpr ⟨lw_p48, List.forall_mem_cons.mpr ⟨lw_p49, List.forall_mem_cons.mpr ⟨lw_p50, List.forall_mem_cons.mpr ⟨lw_p51, List.forall_mem_cons.mpr ⟨lw_p52, List.forall_mem_cons.mpr ⟨lw_p53, List.forall_mem_cons.mpr ⟨lw_p54, List.forall_mem_cons.mpr ⟨lw_p55, List.forall_mem_cons.mpr ⟨lw_p56, List.forall_mem_cons.mpr ⟨lw_p57, List.forall_mem_cons.mpr ⟨lw_p58, List.forall_mem_cons.mpr ⟨lw_p59, List.forall_mem_cons.mpr ⟨lw_p60, List.forall_mem_cons.mpr ⟨lw_p61, fun _ h => absurd h List.not_mem_nil⟩⟩⟩⟩⟩⟩⟩⟩⟩⟩⟩⟩⟩⟩
def lw_privs : List (MethodName × Nat) := lw_privs_1 ++ (lw_privs_2 ++ (lw_privs_3 ++ (lw_privs_4)))
def lw_tbl : List Cond := k2_sels lw_privs ++ tables_1
theorem lw_privs_ok : ∀ q ∈ lw_privs, lw_okq q := by
  show ∀ q ∈ lw_privs_1 ++ (lw_privs_2 ++ (lw_privs_3 ++ (lw_privs_4))), lw_okq q
  exact List.forall_mem_append.mpr ⟨lw_r1, List.forall_mem_append.mpr ⟨lw_r2, List.forall_mem_append.mpr ⟨lw_r3, lw_r4⟩⟩⟩
end
section
def sm_T0 : u_T := fun k => match k with
  | 0 => ("SnowMoney$Duchy", "warmth", "[I", true)
  | 1 => ("SnowMoney$Duchy", "roads", "[I", true)
  | 2 => ("SnowMoney$Duchy", "kinds", "[I", true)
  | 3 => ("SnowMoney$Duchy", "ms", "[I", true)
  | 4 => ("SnowMoney$Duchy", "snow", "[I", true)
  | 5 => ("SnowMoney$Duchy", "at", "[I", true)
  | 6 => ("SnowMoney$Duchy", "owners", "[I", true)
  | 7 => ("SnowMoney$Duchy", "tape", "[I", true)
  | 8 => ("SnowMoney$Duchy", "waiting", "[I", true)
  | 9 => ("SnowMoney$Duchy", "heat", "LSnowMoney$Text;", true)
  | 10 => ("SnowMoney$Duchy", "found", "LSnowMoney$Text;", true)
  | 11 => ("SnowMoney$Duchy", "places", "I", false)
  | 12 => ("SnowMoney$Duchy", "notes", "I", false)
  | 13 => ("SnowMoney$Duchy", "weather", "I", false)
  | 14 => ("SnowMoney$Duchy", "hour", "I", false)
  | 15 => ("SnowMoney$Duchy", "taped", "I", false)
  | 16 => ("SnowMoney$Duchy", "waits", "I", false)
  | _ => ("SnowMoney$Duchy", "z", "I", false)
def sm_t0 : Nat → FieldType := fun k => match k with
  | 0 => .array .int
  | 1 => .array .int
  | 2 => .array .int
  | 3 => .array .int
  | 4 => .array .int
  | 5 => .array .int
  | 6 => .array .int
  | 7 => .array .int
  | 8 => .array .int
  | 9 => .object "SnowMoney$Text"
  | 10 => .object "SnowMoney$Text"
  | 11 => .int
  | 12 => .int
  | 13 => .int
  | 14 => .int
  | 15 => .int
  | 16 => .int
  | _ => .int
def sm_T1 : u_T := fun k => match k with
  | 0 => ("SnowMoney$Foresight", "duchy", "LSnowMoney$Duchy;", true)
  | 1 => ("SnowMoney$Foresight", "heats", "[I", true)
  | 2 => ("SnowMoney$Foresight", "course", "[I", true)
  | 3 => ("SnowMoney$Foresight", "totals", "[I", true)
  | 4 => ("SnowMoney$Foresight", "sums", "[I", true)
  | 5 => ("SnowMoney$Foresight", "steps", "[I", true)
  | 6 => ("SnowMoney$Foresight", "aim", "I", false)
  | 7 => ("SnowMoney$Foresight", "bestValue", "I", false)
  | _ => ("SnowMoney$Foresight", "bestNumber", "I", false)
def sm_t1 : Nat → FieldType := fun k => match k with
  | 0 => .object "SnowMoney$Duchy"
  | 1 => .array .int
  | 2 => .array .int
  | 3 => .array .int
  | 4 => .array .int
  | 5 => .array .int
  | 6 => .int
  | 7 => .int
  | _ => .int
def sm_T2 : u_T := fun k => match k with
  | 0 => ("SnowMoney$Reader", "text", "LSnowMoney$Text;", true)
  | 1 => ("SnowMoney$Reader", "tape", "[I", true)
  | 2 => ("SnowMoney$Reader", "size", "I", false)
  | 3 => ("SnowMoney$Reader", "at", "I", false)
  | _ => ("SnowMoney$Reader", "names", "Ljava/lang/String;", false)
def sm_t2 : Nat → FieldType := fun k => match k with
  | 0 => .object "SnowMoney$Text"
  | 1 => .array .int
  | 2 => .int
  | 3 => .int
  | _ => .object "java/lang/String"
def sm_T3 : u_T := fun k => match k with
  | 0 => ("SnowMoney$Sheet", "numbers", "[I", true)
  | 1 => ("SnowMoney$Sheet", "bits", "I", false)
  | _ => ("SnowMoney$Sheet", "length", "I", false)
def sm_t3 : Nat → FieldType := fun k => match k with
  | 0 => .array .int
  | 1 => .int
  | _ => .int
def sm_T4 : u_T := fun k => match k with
  | 0 => ("SnowMoney$Text", "signs", "[I", true)
  | 1 => ("SnowMoney$Text", "values", "[I", true)
  | 2 => ("SnowMoney$Text", "stack", "[I", true)
  | _ => ("SnowMoney$Text", "length", "I", false)
def sm_t4 : Nat → FieldType := fun k => match k with
  | 0 => .array .int
  | 1 => .array .int
  | 2 => .array .int
  | _ => .int
def sm_T5 : u_T := fun k => match k with
  | 0 => ("SnowMoney$Voices", "bodies", "[I", true)
  | 1 => ("SnowMoney$Voices", "traced", "I", false)
  | 2 => ("SnowMoney$Voices", "kind", "I", false)
  | 3 => ("SnowMoney$Voices", "number", "I", false)
  | _ => ("SnowMoney$Voices", "m", "I", false)
def sm_t5 : Nat → FieldType := fun k => match k with
  | 0 => .array .int
  | 1 => .int
  | 2 => .int
  | 3 => .int
  | _ => .int
def sm_T6 : u_T := fun k => match k with
  | 0 => ("SnowMoney", "duchy", "LSnowMoney$Duchy;", true)
  | 1 => ("SnowMoney", "kept", "LSnowMoney$Duchy;", true)
  | 2 => ("SnowMoney", "foresight", "LSnowMoney$Foresight;", true)
  | 3 => ("SnowMoney", "reader", "LSnowMoney$Reader;", true)
  | 4 => ("SnowMoney", "voices", "LSnowMoney$Voices;", true)
  | 5 => ("SnowMoney", "rows", "[LSnowMoney$Sheet;", true)
  | 6 => ("SnowMoney", "errors", "[I", true)
  | _ => ("SnowMoney", "images", "I", false)
def sm_t6 : Nat → FieldType := fun k => match k with
  | 0 => .object "SnowMoney$Duchy"
  | 1 => .object "SnowMoney$Duchy"
  | 2 => .object "SnowMoney$Foresight"
  | 3 => .object "SnowMoney$Reader"
  | 4 => .object "SnowMoney$Voices"
  | 5 => .array (.object "SnowMoney$Sheet")
  | 6 => .array .int
  | _ => .int
def sm_T7 : u_T := fun k => match k with
  | 0 => ("SnowMoneyModel", "row", "[I", true)
  | 1 => ("SnowMoneyModel", "kept", "[I", true)
  | 2 => ("SnowMoneyModel", "tried", "[I", true)
  | 3 => ("SnowMoneyModel", "before", "[I", true)
  | 4 => ("SnowMoneyModel", "isKept", "Z", false)
  | 5 => ("SnowMoneyModel", "images", "I", false)
  | 6 => ("SnowMoneyModel", "found", "[I", true)
  | 7 => ("SnowMoneyModel", "use", "I", false)
  | 8 => ("SnowMoneyModel", "at", "I", false)
  | 9 => ("SnowMoneyModel", "end", "I", false)
  | 10 => ("SnowMoneyModel", "open", "I", false)
  | 11 => ("SnowMoneyModel", "namedA", "I", false)
  | 12 => ("SnowMoneyModel", "namedB", "I", false)
  | 13 => ("SnowMoneyModel", "namedC", "I", false)
  | 14 => ("SnowMoneyModel", "good", "Z", false)
  | 15 => ("SnowMoneyModel", "warmer", "I", false)
  | 16 => ("SnowMoneyModel", "path", "[I", true)
  | 17 => ("SnowMoneyModel", "mostLeft", "I", false)
  | 18 => ("SnowMoneyModel", "nextOn", "I", false)
  | 19 => ("SnowMoneyModel", "bitsOf", "[I", true)
  | 20 => ("SnowMoneyModel", "sizeOf", "[I", true)
  | 21 => ("SnowMoneyModel", "sheets", "[I", true)
  | 22 => ("SnowMoneyModel", "moved", "[I", true)
  | 23 => ("SnowMoneyModel", "traced", "[I", true)
  | 24 => ("SnowMoneyModel", "tracedMany", "I", false)
  | 25 => ("SnowMoneyModel", "voiceKind", "I", false)
  | 26 => ("SnowMoneyModel", "voiceN", "I", false)
  | _ => ("SnowMoneyModel", "voiceM", "I", false)
def sm_t7 : Nat → FieldType := fun k => match k with
  | 0 => .array .int
  | 1 => .array .int
  | 2 => .array .int
  | 3 => .array .int
  | 4 => .boolean
  | 5 => .int
  | 6 => .array .int
  | 7 => .int
  | 8 => .int
  | 9 => .int
  | 10 => .int
  | 11 => .int
  | 12 => .int
  | 13 => .int
  | 14 => .boolean
  | 15 => .int
  | 16 => .array .int
  | 17 => .int
  | 18 => .int
  | 19 => .array .int
  | 20 => .array .int
  | 21 => .array .int
  | 22 => .array .int
  | 23 => .array .int
  | 24 => .int
  | 25 => .int
  | 26 => .int
  | _ => .int
abbrev sm_cls : List vw_C := [("SnowMoney$Duchy", sm_T0, 18), ("SnowMoney$Foresight", sm_T1, 9), ("SnowMoney$Reader", sm_T2, 5), ("SnowMoney$Sheet", sm_T3, 3), ("SnowMoney$Text", sm_T4, 4), ("SnowMoney$Voices", sm_T5, 5), ("SnowMoney", sm_T6, 8), ("SnowMoneyModel", sm_T7, 28)]
def sm_lays : List (Nat × Nat × List Nat) := [(1, 6, [3, 21, 39, 45, 51, 53, 62, 0]), (1, 0, [4, 5, 6, 7, 8, 9, 10, 11, 12, 13, 17, 0, 0, 0, 0, 0, 0, 0]), (0, 6, []), (0, 36, []), (0, 10, []), (0, 10, []), (0, 10, []), (0, 10, []), (0, 10, []), (0, 50, []), (0, 20, []), (1, 4, [14, 15, 16, 0]), (0, 50, []), (0, 50, []), (0, 50, []), (1, 4, [18, 19, 20, 0]), (0, 50, []), (0, 50, []), (0, 50, []), (1, 0, [22, 23, 24, 25, 26, 27, 28, 29, 30, 31, 35, 0, 0, 0, 0, 0, 0, 0]), (0, 6, []), (0, 36, []), (0, 10, []), (0, 10, []), (0, 10, []), (0, 10, []), (0, 10, []), (0, 50, []), (0, 20, []), (1, 4, [32, 33, 34, 0]), (0, 50, []), (0, 50, []), (0, 50, []), (1, 4, [36, 37, 38, 0]), (0, 50, []), (0, 50, []), (0, 50, []), (1, 1, [3, 40, 41, 42, 43, 44, 0, 0, 0]), (0, 24, []), (0, 61, []), (0, 61, []), (0, 1024, []), (0, 6, []), (1, 2, [46, 50, 0, 0, 1]), (1, 4, [47, 48, 49, 0]), (0, 50, []), (0, 50, []), (0, 50, []), (0, 50, []), (1, 5, [52, 0, 0, 0, 0]), (0, 40, []), (2, 4, [52, 54, 56, 58]), (1, 3, [55, 0, 0]), (0, 40, []), (1, 3, [57, 0, 0]), (0, 40, []), (1, 3, [59, 0, 0]), (0, 40, []), (1, 3, [61, 0, 0]), (0, 40, []), (0, 6, []), (1, 7, [64, 65, 66, 67, 0, 0, 68, 0, 0, 0, 0, 0, 0, 0, 0, 0, 69, 0, 0, 70, 71, 72, 73, 74, 0, 0, 0, 0]), (0, 271, []), (0, 271, []), (0, 271, []), (0, 271, []), (0, 6, []), (0, 6, []), (0, 4, []), (0, 4, []), (0, 160, []), (0, 40, []), (0, 40, [])]
theorem sm_l0 : sm_lays[0]? = some (1, 6, [3, 21, 39, 45, 51, 53, 62, 0]) := by decide +kernel
theorem sm_l1 : sm_lays[1]? = some (1, 0, [4, 5, 6, 7, 8, 9, 10, 11, 12, 13, 17, 0, 0, 0, 0, 0, 0, 0]) := by decide +kernel
theorem sm_l2 : sm_lays[2]? = some (0, 6, []) := by decide +kernel
theorem sm_l3 : sm_lays[3]? = some (0, 36, []) := by decide +kernel
theorem sm_l4 : sm_lays[4]? = some (0, 10, []) := by decide +kernel
theorem sm_l5 : sm_lays[5]? = some (0, 10, []) := by decide +kernel
theorem sm_l6 : sm_lays[6]? = some (0, 10, []) := by decide +kernel
theorem sm_l7 : sm_lays[7]? = some (0, 10, []) := by decide +kernel
theorem sm_l8 : sm_lays[8]? = some (0, 10, []) := by decide +kernel
theorem sm_l9 : sm_lays[9]? = some (0, 50, []) := by decide +kernel
theorem sm_l10 : sm_lays[10]? = some (0, 20, []) := by decide +kernel
theorem sm_l11 : sm_lays[11]? = some (1, 4, [14, 15, 16, 0]) := by decide +kernel
theorem sm_l12 : sm_lays[12]? = some (0, 50, []) := by decide +kernel
theorem sm_l13 : sm_lays[13]? = some (0, 50, []) := by decide +kernel
theorem sm_l14 : sm_lays[14]? = some (0, 50, []) := by decide +kernel
theorem sm_l15 : sm_lays[15]? = some (1, 4, [18, 19, 20, 0]) := by decide +kernel
theorem sm_l16 : sm_lays[16]? = some (0, 50, []) := by decide +kernel
theorem sm_l17 : sm_lays[17]? = some (0, 50, []) := by decide +kernel
theorem sm_l18 : sm_lays[18]? = some (0, 50, []) := by decide +kernel
theorem sm_l19 : sm_lays[19]? = some (1, 0, [22, 23, 24, 25, 26, 27, 28, 29, 30, 31, 35, 0, 0, 0, 0, 0, 0, 0]) := by decide +kernel
theorem sm_l20 : sm_lays[20]? = some (0, 6, []) := by decide +kernel
theorem sm_l21 : sm_lays[21]? = some (0, 36, []) := by decide +kernel
theorem sm_l22 : sm_lays[22]? = some (0, 10, []) := by decide +kernel
theorem sm_l23 : sm_lays[23]? = some (0, 10, []) := by decide +kernel
theorem sm_l24 : sm_lays[24]? = some (0, 10, []) := by decide +kernel
theorem sm_l25 : sm_lays[25]? = some (0, 10, []) := by decide +kernel
theorem sm_l26 : sm_lays[26]? = some (0, 10, []) := by decide +kernel
theorem sm_l27 : sm_lays[27]? = some (0, 50, []) := by decide +kernel
theorem sm_l28 : sm_lays[28]? = some (0, 20, []) := by decide +kernel
theorem sm_l29 : sm_lays[29]? = some (1, 4, [32, 33, 34, 0]) := by decide +kernel
theorem sm_l30 : sm_lays[30]? = some (0, 50, []) := by decide +kernel
theorem sm_l31 : sm_lays[31]? = some (0, 50, []) := by decide +kernel
theorem sm_l32 : sm_lays[32]? = some (0, 50, []) := by decide +kernel
theorem sm_l33 : sm_lays[33]? = some (1, 4, [36, 37, 38, 0]) := by decide +kernel
theorem sm_l34 : sm_lays[34]? = some (0, 50, []) := by decide +kernel
theorem sm_l35 : sm_lays[35]? = some (0, 50, []) := by decide +kernel
theorem sm_l36 : sm_lays[36]? = some (0, 50, []) := by decide +kernel
theorem sm_l37 : sm_lays[37]? = some (1, 1, [3, 40, 41, 42, 43, 44, 0, 0, 0]) := by decide +kernel
theorem sm_l38 : sm_lays[38]? = some (0, 24, []) := by decide +kernel
theorem sm_l39 : sm_lays[39]? = some (0, 61, []) := by decide +kernel
theorem sm_l40 : sm_lays[40]? = some (0, 61, []) := by decide +kernel
theorem sm_l41 : sm_lays[41]? = some (0, 1024, []) := by decide +kernel
theorem sm_l42 : sm_lays[42]? = some (0, 6, []) := by decide +kernel
theorem sm_l43 : sm_lays[43]? = some (1, 2, [46, 50, 0, 0, 1]) := by decide +kernel
theorem sm_l44 : sm_lays[44]? = some (1, 4, [47, 48, 49, 0]) := by decide +kernel
theorem sm_l45 : sm_lays[45]? = some (0, 50, []) := by decide +kernel
theorem sm_l46 : sm_lays[46]? = some (0, 50, []) := by decide +kernel
theorem sm_l47 : sm_lays[47]? = some (0, 50, []) := by decide +kernel
theorem sm_l48 : sm_lays[48]? = some (0, 50, []) := by decide +kernel
theorem sm_l49 : sm_lays[49]? = some (1, 5, [52, 0, 0, 0, 0]) := by decide +kernel
theorem sm_l50 : sm_lays[50]? = some (0, 40, []) := by decide +kernel
theorem sm_l51 : sm_lays[51]? = some (2, 4, [52, 54, 56, 58]) := by decide +kernel
theorem sm_l52 : sm_lays[52]? = some (1, 3, [55, 0, 0]) := by decide +kernel
theorem sm_l53 : sm_lays[53]? = some (0, 40, []) := by decide +kernel
theorem sm_l54 : sm_lays[54]? = some (1, 3, [57, 0, 0]) := by decide +kernel
theorem sm_l55 : sm_lays[55]? = some (0, 40, []) := by decide +kernel
theorem sm_l56 : sm_lays[56]? = some (1, 3, [59, 0, 0]) := by decide +kernel
theorem sm_l57 : sm_lays[57]? = some (0, 40, []) := by decide +kernel
theorem sm_l58 : sm_lays[58]? = some (1, 3, [61, 0, 0]) := by decide +kernel
theorem sm_l59 : sm_lays[59]? = some (0, 40, []) := by decide +kernel
theorem sm_l60 : sm_lays[60]? = some (0, 6, []) := by decide +kernel
theorem sm_l61 : sm_lays[61]? = some (1, 7, [64, 65, 66, 67, 0, 0, 68, 0, 0, 0, 0, 0, 0, 0, 0, 0, 69, 0, 0, 70, 71, 72, 73, 74, 0, 0, 0, 0]) := by decide +kernel
theorem sm_l62 : sm_lays[62]? = some (0, 271, []) := by decide +kernel
theorem sm_l63 : sm_lays[63]? = some (0, 271, []) := by decide +kernel
theorem sm_l64 : sm_lays[64]? = some (0, 271, []) := by decide +kernel
theorem sm_l65 : sm_lays[65]? = some (0, 271, []) := by decide +kernel
theorem sm_l66 : sm_lays[66]? = some (0, 6, []) := by decide +kernel
theorem sm_l67 : sm_lays[67]? = some (0, 6, []) := by decide +kernel
theorem sm_l68 : sm_lays[68]? = some (0, 4, []) := by decide +kernel
theorem sm_l69 : sm_lays[69]? = some (0, 4, []) := by decide +kernel
theorem sm_l70 : sm_lays[70]? = some (0, 160, []) := by decide +kernel
theorem sm_l71 : sm_lays[71]? = some (0, 40, []) := by decide +kernel
theorem sm_l72 : sm_lays[72]? = some (0, 40, []) := by decide +kernel
end
section

def sm_tbl : List Cond := lw_tbl.filter goodWord
theorem sm_good : sm_tbl.all goodWord = true := List.all_eq_true.mpr fun _ h => (List.mem_filter.mp h).2
theorem sm_in {w : Cond} (h : w ∈ lw_tbl) (g : goodWord w = true) : w ∈ sm_tbl := List.mem_filter.mpr ⟨h, g⟩
theorem sm_rem (x y : Int32) : x - x / y * y = x % y := by
  apply Int32.toInt_inj.mp
  have h1 : ((x % y).toInt).bmod (2 ^ 32) = (x % y).toInt := Int32.toInt_bmod _
  rw [← h1, Int32.toInt_mod, Int.tmod_def, Int32.toInt_sub, Int32.toInt_mul, Int32.toInt_div]
  simp [Int.mul_comm]
abbrev sm_V : Type := Int32 ⊕ (Option Nat ⊕ Int64)
abbrev sm_I (x : Int32) : sm_V := Sum.inl x
abbrev sm_R (k : Nat) : sm_V := Sum.inr (Sum.inl (some k))
abbrev sm_N : sm_V := Sum.inr (Sum.inl none)
abbrev sm_L (x : Int64) : sm_V := Sum.inr (Sum.inr x)
def sm_cv (ad : Nat → Nat) : sm_V → Value
  | Sum.inl x => .int x
  | Sum.inr (Sum.inl none) => .null
  | Sum.inr (Sum.inl (some k)) => .ref (ad k)
  | Sum.inr (Sum.inr x) => .long x
def sm_cat : sm_V → Nat
  | Sum.inr (Sum.inr _) => 2
  | _ => 1
theorem sm_cat_cv (ad : Nat → Nat) (v : sm_V) : (sm_cv ad v).category = sm_cat v := by
  rcases v with x | (_ | k) | x <;> rfl
abbrev sm_Mem : Type := Nat → Nat → Int32
def sm_st (μ : sm_Mem) (k j : Nat) (v : Int32) : sm_Mem := fun q => if q = k then upd (μ k) j v else μ q
def sm_cpy (μ : sm_Mem) (k0 k1 sp dp n : Nat) : sm_Mem := fun q => if q = k1 then va_cpy (μ k0) (μ k1) sp dp n else μ q
def sm_fv (ad : Nat → Nat) (f : Nat → Int32) (j d : Nat) : Value := if d = 0 then .int (f j) else if d = 1 then .ref (ad (100 + (f j).toNatClampNeg)) else .ref (ad (d - 2))
def sm_cE (ad : Nat → Nat) (cI cS : ClassId) (q : Nat × Nat × List Nat) (f : Nat → Int32) : va_E := match q with
  | (0, n, _) => .inl (cI, n, .inl f)
  | (1, ci, fl) => .inr (ci, fl.mapIdx (fun j d => sm_fv ad f j d))
  | (_, n, fl) => .inl (cS, n, .inr (.inr (.inr (.inr (fun i => (fl[i]?).map ad)))))
abbrev sm_G : Type := (Nat → Nat) × (Nat → ClassId) × (Nat → Nat → Nat) × ClassId × ClassId
def sm_wl (G : sm_G) (μ : sm_Mem) : va_W := sm_lays.mapIdx (fun k q => (G.1 k, sm_cE G.1 G.2.2.2.1 G.2.2.2.2 q (μ k)))
theorem sm_wl_get {G : sm_G} {μ : sm_Mem} {k : Nat} {q : Nat × Nat × List Nat} (h : sm_lays[k]? = some q) : (sm_wl G μ)[k]? = some (G.1 k, sm_cE G.1 G.2.2.2.1 G.2.2.2.2 q (μ k)) := by
  simp [sm_wl, h]
theorem sm_wl_set {G : sm_G} {μ : sm_Mem} {k : Nat} {q : Nat × Nat × List Nat} {f : Nat → Int32} (h : sm_lays[k]? = some q) : (sm_wl G μ).set k (G.1 k, sm_cE G.1 G.2.2.2.1 G.2.2.2.2 q f) = sm_wl G (fun z => if z = k then f else μ z) := by
  apply List.ext_getElem?
  intro i
  rw [List.getElem?_set]
  by_cases hi : k = i
  · subst hi
    obtain ⟨hk, hq⟩ := List.getElem?_eq_some_iff.mp h
    simp [sm_wl, hk, hq]
  · have hi' : ¬ i = k := fun q => hi q.symm
    simp [sm_wl, hi, hi']
theorem sm_fl_set {ad : Nat → Nat} {f : Nat → Int32} {fl : List Nat} {j : Nat} {v : Int32} (h : fl[j]? = some 0) : (fl.mapIdx (fun j d => sm_fv ad f j d)).set j (.int v) = fl.mapIdx (fun i d => sm_fv ad (upd f j v) i d) := by
  apply List.ext_getElem?
  intro i
  rw [List.getElem?_set]
  by_cases hi : j = i
  · subst hi
    obtain ⟨hk, hq⟩ := List.getElem?_eq_some_iff.mp h
    simp [hk, hq, sm_fv, upd]
  · have hi' : ¬ i = j := fun q => hi q.symm
    rw [if_neg hi, List.getElem?_mapIdx, List.getElem?_mapIdx]
    simp only [sm_fv, upd, if_neg hi']
theorem sm_fl_setS {ad : Nat → Nat} {f : Nat → Int32} {fl : List Nat} {j : Nat} {v : Int32} (h : fl[j]? = some 1) : (fl.mapIdx (fun j d => sm_fv ad f j d)).set j (.ref (ad (100 + v.toNatClampNeg))) = fl.mapIdx (fun i d => sm_fv ad (upd f j v) i d) := by
  apply List.ext_getElem?
  intro i
  rw [List.getElem?_set]
  by_cases hi : j = i
  · subst hi
    obtain ⟨hk, hq⟩ := List.getElem?_eq_some_iff.mp h
    simp [hk, hq, sm_fv, upd]
  · have hi' : ¬ i = j := fun q => hi q.symm
    rw [if_neg hi, List.getElem?_mapIdx, List.getElem?_mapIdx]
    simp only [sm_fv, upd, if_neg hi']
def sm_above : List Int32 := [-1, 0, 0, 0, 1, 2, 3]
def sm_bodies : List Int32 := [10, 11, 12, 13, 20, 0, 0, 0, 0, 30, 0, 0, 0, 0, 40, 0, 0, 0, 0, 50, 0, 60, 0, 0, 0, 0, 70, 71]
def sm_slen : List Nat := [0, 3, 3]
def sm_sbyt : List (List Int32) := [[], [119, 121, 104], [115, 109, 111]]
/-- what nobody writes: two tables, three texts, a flag of the JDK's -/
def sm_SF (ad : Nat → Nat) (A : Nat → Prop) (U : State) (H : Heap) : Prop :=
  va_Z "SnowMoney$Kinds" "ABOVE" "[I" (.ref (ad 110)) A U H ∧ va_T .int (ad 110) 7 (fun j => .int (sm_above.getD j 0)) A U H ∧
  va_Z "SnowMoney$Voices" "BODIES" "[I" (.ref (ad 111)) A U H ∧ va_T .int (ad 111) 28 (fun j => .int (sm_bodies.getD j 0)) A U H ∧
  vk_S 3 sm_slen sm_sbyt (fun i => ad (100 + i)) (fun i => ad (120 + i)) A U H ∧ va_Z "java/lang/String" "COMPACT_STRINGS" "Z" (.int 1) A U H
theorem sm_SF.moved {ad : Nat → Nat} {A : Nat → Prop} {u U : State} {H : Heap} (hvm : u.vm.Alike U.vm) (h : sm_SF ad A u H) : sm_SF ad A U H :=
  ⟨h.1.moved hvm, h.2.1.moved hvm, h.2.2.1.moved hvm, h.2.2.2.1.moved hvm, h.2.2.2.2.1.moved hvm, h.2.2.2.2.2.moved hvm⟩
theorem sm_SF.kept {ad : Nat → Nat} {A : Nat → Prop} {U : State} {H H1 : Heap} (h : sm_SF ad A U H) (hq : ∀ a : Nat, a < H.size → ¬ A a → H1[a]? = H[a]?) : sm_SF ad A U H1 :=
  ⟨h.1.kept hq, h.2.1.kept hq, h.2.2.1.kept hq, h.2.2.2.1.kept hq, h.2.2.2.2.1.kept hq, h.2.2.2.2.2.kept hq⟩
theorem sm_SF.narrow {ad : Nat → Nat} {A B : Nat → Prop} {U : State} {H : Heap} (h : sm_SF ad A U H) (hAB : ∀ q, B q → A q) : sm_SF ad B U H :=
  ⟨h.1.narrow hAB, h.2.1.narrow hAB, h.2.2.1.narrow hAB, h.2.2.2.1.narrow hAB, h.2.2.2.2.1.narrow hAB, h.2.2.2.2.2.narrow hAB⟩
/-- the String constants that instructions load -/
def sm_SR (ad : Nat → Nat) (U : State) : Prop := vk_R "SnowMoney$Reader" 22 "" (ad 100) U ∧ vk_R "SnowMoney" 129 "wyh" (ad 101) U ∧ vk_R "SnowMoney" 131 "smo" (ad 102) U
theorem sm_SR.warm {ad : Nat → Nat} {s U : State} (hW : s.WarmedH U.vm) (h : sm_SR ad s) : sm_SR ad U := ⟨h.1.warm hW, h.2.1.warm hW, h.2.2.warm hW⟩
theorem sm_SR.same {ad : Nat → Nat} {s U : State} (hv : U.vm = s.vm) (h : sm_SR ad s) : sm_SR ad U := ⟨h.1.same hv, h.2.1.same hv, h.2.2.same hv⟩
abbrev sm_tys (G : sm_G) : List (ClassId × FieldType) := [(G.2.2.2.1, .int), (G.2.2.2.2, .object "SnowMoney$Sheet")]
abbrev sm_D (G : sm_G) : va_G := (G.2.1, G.2.2.1)
/-- a frame's fixed facts -/
def sm_C (p : Program) (s : State) (m : MethodId) (args : Array Value) (c : Code) (cc : ByteArray) (nL : Nat) (own : String) (A : Nat → Prop) (G : sm_G) : Prop :=
  p.tables.exec = Jvm.exec ∧ c.code = cc ∧ c.maxLocals = nL ∧ s.vm.findClass own = some m.cls ∧ (∀ w ∈ sm_tbl, w.before args s = true) ∧ va_K (sm_D G) sm_cls (sm_tys G) s ∧ (∀ q : Nat, s.heap.size ≤ q → A q) ∧ sm_SF G.1 A s s.heap ∧ sm_SR G.1 s
/-- the machine at pc, with this stack, these locals, these cells, comes to Q -/
def sm_W (p : Program) (l : Launch) (e : Env) (R : Room) (s : State) (m : MethodId) (args : Array Value) (below : List Frame) (meth : Method) (c : Code) (A : Nat → Prop) (Q : State → Prop) (G : sm_G) (nL kc ks : Nat) (pc : Nat) (stk : List sm_V) (lo : List (Nat × sm_V)) (μ : sm_Mem) : Prop :=
  ∀ (H : Heap) (locs : List Loc) (ls : Array Slot), va_P (sm_D G) sm_cls (sm_wl G μ) H → va_D A (sm_wl G μ) → va_S A s.heap H locs → lv_has ls nL (lo.map fun q => (q.1, sm_cv G.1 q.2)) → W p l e R s m args below meth c H locs kc ks Q (F0 m pc ls (stk.map (sm_cv G.1)))
def sm_keep (i : Nat) (q : Nat × sm_V) : Bool := !(q.1 == i) && !(q.1 + 1 == i && sm_cat q.2 == 2)
theorem sm_filter (ad : Nat → Nat) (i : Nat) (lo : List (Nat × sm_V)) : (lo.map fun q => (q.1, sm_cv ad q.2)).filter (fun q => !(q.1 == i) && !(q.1 + 1 == i && q.2.category == 2)) = (lo.filter (sm_keep i)).map fun q => (q.1, sm_cv ad q.2) := by
  rw [List.filter_map]
  congr 1
  apply List.filter_congr
  intro q _
  simp [sm_keep, sm_cat_cv]
theorem sm_lo {ad : Nat → Nat} {ls : Array Slot} {nL : Nat} {lo : List (Nat × sm_V)} (h : lv_has ls nL (lo.map fun q => (q.1, sm_cv ad q.2))) {z i : Nat} {v : sm_V} (hl : lo[z]? = some (i, v)) : ls[i]? = some (.val (sm_cv ad v)) := by
  refine lv_at h z (i := i) ?_
  simp [hl]

section SMR
variable {p : Program} {l : Launch} {e : Env} {R : Room} {s : State} {m : MethodId} {args : Array Value} {below : List Frame} {meth : Method} {c : Code} {A : Nat → Prop} {Q : State → Prop} {G : sm_G} {nL kc ks : Nat} {cc : ByteArray} {own : String} {pc : Nat} {stk : List sm_V} {lo : List (Nat × sm_V)} {μ : sm_Mem}
theorem sr_iconst (C : sm_C p s m args c cc nL own A G) {n : Int} {v : Int32} (hd : decode cc pc = .ok (.iconst n, 1)) (hv : Int32.ofInt n = v) (k : sm_W p l e R s m args below meth c A Q G nL kc ks (pc + 1) (sm_I v :: stk) lo μ) : sm_W p l e R s m args below meth c A Q G nL kc ks pc stk lo μ := by
  intro H locs ls hP hD hS hL
  exact lv_iconst C.1 C.2.1 hd hv (k H locs ls hP hD hS hL)
theorem sr_bipush (C : sm_C p s m args c cc nL own A G) {n : Int} {v : Int32} (hd : decode cc pc = .ok (.bipush n, 2)) (hv : (Int8.ofInt n).toInt32 = v) (k : sm_W p l e R s m args below meth c A Q G nL kc ks (pc + 2) (sm_I v :: stk) lo μ) : sm_W p l e R s m args below meth c A Q G nL kc ks pc stk lo μ := by
  intro H locs ls hP hD hS hL
  exact lv_bipush C.1 C.2.1 hd hv (k H locs ls hP hD hS hL)
theorem sr_sipush (C : sm_C p s m args c cc nL own A G) {n : Int} {v : Int32} (hd : decode cc pc = .ok (.sipush n, 3)) (hv : (Int16.ofInt n).toInt32 = v) (k : sm_W p l e R s m args below meth c A Q G nL kc ks (pc + 3) (sm_I v :: stk) lo μ) : sm_W p l e R s m args below meth c A Q G nL kc ks pc stk lo μ := by
  intro H locs ls hP hD hS hL
  exact lv_sipush C.1 C.2.1 hd hv (k H locs ls hP hD hS hL)
theorem sr_ldc (C : sm_C p s m args c cc nL own A G) {ix : Nat} {v : Int32} (hw : Cond.constant own ix v ∈ sm_tbl) (hd : decode cc pc = .ok (.ldc ix, 2)) (k : sm_W p l e R s m args below meth c A Q G nL kc ks (pc + 2) (sm_I v :: stk) lo μ) : sm_W p l e R s m args below meth c A Q G nL kc ks pc stk lo μ := by
  intro H locs ls hP hD hS hL
  exact lv_ldc C.1 C.2.1 C.2.2.2.1 (C.2.2.2.2.1 _ hw) hd (k H locs ls hP hD hS hL)
theorem sr_ldcw (C : sm_C p s m args c cc nL own A G) {ix : Nat} {v : Int32} (hw : Cond.constant own ix v ∈ sm_tbl) (hd : decode cc pc = .ok (.ldc_w ix, 3)) (k : sm_W p l e R s m args below meth c A Q G nL kc ks (pc + 3) (sm_I v :: stk) lo μ) : sm_W p l e R s m args below meth c A Q G nL kc ks pc stk lo μ := by
  intro H locs ls hP hD hS hL
  exact lv_ldcw C.1 C.2.1 C.2.2.2.1 (C.2.2.2.2.1 _ hw) hd (k H locs ls hP hD hS hL)
theorem sr_ldcS (C : sm_C p s m args c cc nL own A G) {ix q : Nat} {tx : String} (hw : vk_R own ix tx (G.1 q) s) (hd : decode cc pc = .ok (.ldc ix, 2)) (k : sm_W p l e R s m args below meth c A Q G nL kc ks (pc + 2) (sm_R q :: stk) lo μ) : sm_W p l e R s m args below meth c A Q G nL kc ks pc stk lo μ := by
  intro H locs ls hP hD hS hL
  exact va_ldcS C.1 C.2.1 C.2.2.2.1 hw hd (k H locs ls hP hD hS hL)
theorem sr_null (C : sm_C p s m args c cc nL own A G) (hd : decode cc pc = .ok (.aconst_null, 1)) (k : sm_W p l e R s m args below meth c A Q G nL kc ks (pc + 1) (sm_N :: stk) lo μ) : sm_W p l e R s m args below meth c A Q G nL kc ks pc stk lo μ := by
  intro H locs ls hP hD hS hL
  exact lv_null C.1 C.2.1 hd (k H locs ls hP hD hS hL)
theorem sr_iload_n (C : sm_C p s m args c cc nL own A G) (z : Nat) {w : Fin 4} {i : Nat} {x : Int32} (hi : (w : Nat) = i) (hl : lo[z]? = some (i, sm_I x)) (hd : decode cc pc = .ok (.iload_n w, 1)) (k : sm_W p l e R s m args below meth c A Q G nL kc ks (pc + 1) (sm_I x :: stk) lo μ) : sm_W p l e R s m args below meth c A Q G nL kc ks pc stk lo μ := by
  intro H locs ls hP hD hS hL
  exact lv_iload_n C.1 C.2.1 hd hi (sm_lo hL hl) (k H locs ls hP hD hS hL)
theorem sr_iload (C : sm_C p s m args c cc nL own A G) (z : Nat) {i : Nat} {x : Int32} (hl : lo[z]? = some (i, sm_I x)) (hd : decode cc pc = .ok (.iload i, 2)) (k : sm_W p l e R s m args below meth c A Q G nL kc ks (pc + 2) (sm_I x :: stk) lo μ) : sm_W p l e R s m args below meth c A Q G nL kc ks pc stk lo μ := by
  intro H locs ls hP hD hS hL
  exact lv_iload C.1 C.2.1 hd (sm_lo hL hl) (k H locs ls hP hD hS hL)
theorem sr_aload_n (C : sm_C p s m args c cc nL own A G) (z : Nat) {w : Fin 4} {i : Nat} {x : Nat} (hi : (w : Nat) = i) (hl : lo[z]? = some (i, sm_R x)) (hd : decode cc pc = .ok (.aload_n w, 1)) (k : sm_W p l e R s m args below meth c A Q G nL kc ks (pc + 1) (sm_R x :: stk) lo μ) : sm_W p l e R s m args below meth c A Q G nL kc ks pc stk lo μ := by
  intro H locs ls hP hD hS hL
  exact lv_aload_n C.1 C.2.1 hd hi (sm_lo hL hl) (k H locs ls hP hD hS hL)
theorem sr_aload (C : sm_C p s m args c cc nL own A G) (z : Nat) {i : Nat} {x : Nat} (hl : lo[z]? = some (i, sm_R x)) (hd : decode cc pc = .ok (.aload i, 2)) (k : sm_W p l e R s m args below meth c A Q G nL kc ks (pc + 2) (sm_R x :: stk) lo μ) : sm_W p l e R s m args below meth c A Q G nL kc ks pc stk lo μ := by
  intro H locs ls hP hD hS hL
  exact lv_aload C.1 C.2.1 hd (sm_lo hL hl) (k H locs ls hP hD hS hL)
theorem sr_aloadN_n (C : sm_C p s m args c cc nL own A G) (z : Nat) {w : Fin 4} {i : Nat} (hi : (w : Nat) = i) (hl : lo[z]? = some (i, sm_N)) (hd : decode cc pc = .ok (.aload_n w, 1)) (k : sm_W p l e R s m args below meth c A Q G nL kc ks (pc + 1) (sm_N :: stk) lo μ) : sm_W p l e R s m args below meth c A Q G nL kc ks pc stk lo μ := by
  intro H locs ls hP hD hS hL
  exact lv_aload_nN C.1 C.2.1 hd hi (sm_lo hL hl) (k H locs ls hP hD hS hL)
theorem sr_aloadN (C : sm_C p s m args c cc nL own A G) (z : Nat) {i : Nat} (hl : lo[z]? = some (i, sm_N)) (hd : decode cc pc = .ok (.aload i, 2)) (k : sm_W p l e R s m args below meth c A Q G nL kc ks (pc + 2) (sm_N :: stk) lo μ) : sm_W p l e R s m args below meth c A Q G nL kc ks pc stk lo μ := by
  intro H locs ls hP hD hS hL
  exact lv_aloadN C.1 C.2.1 hd (sm_lo hL hl) (k H locs ls hP hD hS hL)
theorem sr_lload_n (C : sm_C p s m args c cc nL own A G) (z : Nat) {w : Fin 4} {i : Nat} {x : Int64} (hi : (w : Nat) = i) (hl : lo[z]? = some (i, sm_L x)) (hd : decode cc pc = .ok (.lload_n w, 1)) (k : sm_W p l e R s m args below meth c A Q G nL kc ks (pc + 1) (sm_L x :: stk) lo μ) : sm_W p l e R s m args below meth c A Q G nL kc ks pc stk lo μ := by
  intro H locs ls hP hD hS hL
  exact lv_lload_n C.1 C.2.1 hd hi (sm_lo hL hl) (k H locs ls hP hD hS hL)
theorem sr_istore_n (C : sm_C p s m args c cc nL own A G) {w : Fin 4} {i : Nat} {x : Int32} (hi : (w : Nat) = i) (hn : i < nL) (hd : decode cc pc = .ok (.istore_n w, 1)) (k : sm_W p l e R s m args below meth c A Q G nL kc ks (pc + 1) stk ((i, sm_I x) :: lo.filter (sm_keep i)) μ) : sm_W p l e R s m args below meth c A Q G nL kc ks pc (sm_I x :: stk) lo μ := by
  intro H locs ls hP hD hS hL
  exact lv_istore_n C.1 C.2.1 hd hi hL hn (by rw [sm_filter]; rfl) (fun ls hL => k H locs ls hP hD hS hL)
theorem sr_istore (C : sm_C p s m args c cc nL own A G) {i : Nat} {x : Int32} (hn : i < nL) (hd : decode cc pc = .ok (.istore i, 2)) (k : sm_W p l e R s m args below meth c A Q G nL kc ks (pc + 2) stk ((i, sm_I x) :: lo.filter (sm_keep i)) μ) : sm_W p l e R s m args below meth c A Q G nL kc ks pc (sm_I x :: stk) lo μ := by
  intro H locs ls hP hD hS hL
  exact lv_istore C.1 C.2.1 hd hL hn (by rw [sm_filter]; rfl) (fun ls hL => k H locs ls hP hD hS hL)
theorem sr_astore_n (C : sm_C p s m args c cc nL own A G) {w : Fin 4} {i : Nat} {x : Nat} (hi : (w : Nat) = i) (hn : i < nL) (hd : decode cc pc = .ok (.astore_n w, 1)) (k : sm_W p l e R s m args below meth c A Q G nL kc ks (pc + 1) stk ((i, sm_R x) :: lo.filter (sm_keep i)) μ) : sm_W p l e R s m args below meth c A Q G nL kc ks pc (sm_R x :: stk) lo μ := by
  intro H locs ls hP hD hS hL
  exact lv_astore_n C.1 C.2.1 hd hi hL hn (by rw [sm_filter]; rfl) (fun ls hL => k H locs ls hP hD hS hL)
theorem sr_astore (C : sm_C p s m args c cc nL own A G) {i : Nat} {x : Nat} (hn : i < nL) (hd : decode cc pc = .ok (.astore i, 2)) (k : sm_W p l e R s m args below meth c A Q G nL kc ks (pc + 2) stk ((i, sm_R x) :: lo.filter (sm_keep i)) μ) : sm_W p l e R s m args below meth c A Q G nL kc ks pc (sm_R x :: stk) lo μ := by
  intro H locs ls hP hD hS hL
  exact lv_astore C.1 C.2.1 hd hL hn (by rw [sm_filter]; rfl) (fun ls hL => k H locs ls hP hD hS hL)
theorem sr_astoreN_n (C : sm_C p s m args c cc nL own A G) {w : Fin 4} {i : Nat} (hi : (w : Nat) = i) (hn : i < nL) (hd : decode cc pc = .ok (.astore_n w, 1)) (k : sm_W p l e R s m args below meth c A Q G nL kc ks (pc + 1) stk ((i, sm_N) :: lo.filter (sm_keep i)) μ) : sm_W p l e R s m args below meth c A Q G nL kc ks pc (sm_N :: stk) lo μ := by
  intro H locs ls hP hD hS hL
  exact lv_astore_nN C.1 C.2.1 hd hi hL hn (by rw [sm_filter]; rfl) (fun ls hL => k H locs ls hP hD hS hL)
theorem sr_astoreN (C : sm_C p s m args c cc nL own A G) {i : Nat} (hn : i < nL) (hd : decode cc pc = .ok (.astore i, 2)) (k : sm_W p l e R s m args below meth c A Q G nL kc ks (pc + 2) stk ((i, sm_N) :: lo.filter (sm_keep i)) μ) : sm_W p l e R s m args below meth c A Q G nL kc ks pc (sm_N :: stk) lo μ := by
  intro H locs ls hP hD hS hL
  exact lv_astoreN C.1 C.2.1 hd hL hn (by rw [sm_filter]; rfl) (fun ls hL => k H locs ls hP hD hS hL)
theorem sr_iinc (C : sm_C p s m args c cc nL own A G) (z : Nat) {i : Nat} {n : Int} {x v : Int32} (hl : lo[z]? = some (i, sm_I x)) (hn : i < nL) (hd : decode cc pc = .ok (.iinc i n, 3)) (hv : x + Int32.ofInt n = v) (k : sm_W p l e R s m args below meth c A Q G nL kc ks (pc + 3) stk ((i, sm_I v) :: lo.filter (sm_keep i)) μ) : sm_W p l e R s m args below meth c A Q G nL kc ks pc stk lo μ := by
  intro H locs ls hP hD hS hL
  exact lv_iinc C.1 C.2.1 hd hL (k := z) (by simp [hl]; rfl) hv hn (by rw [sm_filter]; rfl) (fun ls hL => k H locs ls hP hD hS hL)
theorem sr_iadd (C : sm_C p s m args c cc nL own A G) {x y : Int32} (hd : decode cc pc = .ok (.iadd, 1)) (k : sm_W p l e R s m args below meth c A Q G nL kc ks (pc + 1) (sm_I (x + y) :: stk) lo μ) : sm_W p l e R s m args below meth c A Q G nL kc ks pc (sm_I y :: sm_I x :: stk) lo μ := by
  intro H locs ls hP hD hS hL
  exact lv_iadd C.1 C.2.1 hd (k H locs ls hP hD hS hL)
theorem sr_isub (C : sm_C p s m args c cc nL own A G) {x y : Int32} (hd : decode cc pc = .ok (.isub, 1)) (k : sm_W p l e R s m args below meth c A Q G nL kc ks (pc + 1) (sm_I (x - y) :: stk) lo μ) : sm_W p l e R s m args below meth c A Q G nL kc ks pc (sm_I y :: sm_I x :: stk) lo μ := by
  intro H locs ls hP hD hS hL
  exact lv_isub C.1 C.2.1 hd (k H locs ls hP hD hS hL)
theorem sr_imul (C : sm_C p s m args c cc nL own A G) {x y : Int32} (hd : decode cc pc = .ok (.imul, 1)) (k : sm_W p l e R s m args below meth c A Q G nL kc ks (pc + 1) (sm_I (x * y) :: stk) lo μ) : sm_W p l e R s m args below meth c A Q G nL kc ks pc (sm_I y :: sm_I x :: stk) lo μ := by
  intro H locs ls hP hD hS hL
  exact lv_imul C.1 C.2.1 hd (k H locs ls hP hD hS hL)
theorem sr_iand (C : sm_C p s m args c cc nL own A G) {x y : Int32} (hd : decode cc pc = .ok (.iand, 1)) (k : sm_W p l e R s m args below meth c A Q G nL kc ks (pc + 1) (sm_I (x &&& y) :: stk) lo μ) : sm_W p l e R s m args below meth c A Q G nL kc ks pc (sm_I y :: sm_I x :: stk) lo μ := by
  intro H locs ls hP hD hS hL
  exact lv_iand C.1 C.2.1 hd (k H locs ls hP hD hS hL)
theorem sr_ior (C : sm_C p s m args c cc nL own A G) {x y : Int32} (hd : decode cc pc = .ok (.ior, 1)) (k : sm_W p l e R s m args below meth c A Q G nL kc ks (pc + 1) (sm_I (x ||| y) :: stk) lo μ) : sm_W p l e R s m args below meth c A Q G nL kc ks pc (sm_I y :: sm_I x :: stk) lo μ := by
  intro H locs ls hP hD hS hL
  exact lv_ior C.1 C.2.1 hd (k H locs ls hP hD hS hL)
theorem sr_ixor (C : sm_C p s m args c cc nL own A G) {x y : Int32} (hd : decode cc pc = .ok (.ixor, 1)) (k : sm_W p l e R s m args below meth c A Q G nL kc ks (pc + 1) (sm_I (x ^^^ y) :: stk) lo μ) : sm_W p l e R s m args below meth c A Q G nL kc ks pc (sm_I y :: sm_I x :: stk) lo μ := by
  intro H locs ls hP hD hS hL
  exact lv_ixor C.1 C.2.1 hd (k H locs ls hP hD hS hL)
theorem sr_ishl (C : sm_C p s m args c cc nL own A G) {x y : Int32} (hd : decode cc pc = .ok (.ishl, 1)) (k : sm_W p l e R s m args below meth c A Q G nL kc ks (pc + 1) (sm_I (x <<< (y &&& 31)) :: stk) lo μ) : sm_W p l e R s m args below meth c A Q G nL kc ks pc (sm_I y :: sm_I x :: stk) lo μ := by
  intro H locs ls hP hD hS hL
  exact lv_ishl C.1 C.2.1 hd (k H locs ls hP hD hS hL)
theorem sr_ishr (C : sm_C p s m args c cc nL own A G) {x y : Int32} (hd : decode cc pc = .ok (.ishr, 1)) (k : sm_W p l e R s m args below meth c A Q G nL kc ks (pc + 1) (sm_I (x >>> (y &&& 31)) :: stk) lo μ) : sm_W p l e R s m args below meth c A Q G nL kc ks pc (sm_I y :: sm_I x :: stk) lo μ := by
  intro H locs ls hP hD hS hL
  exact lv_ishr C.1 C.2.1 hd (k H locs ls hP hD hS hL)
theorem sr_idiv (C : sm_C p s m args c cc nL own A G) {x y : Int32} (hz : ¬ y = 0) (hd : decode cc pc = .ok (.idiv, 1)) (k : sm_W p l e R s m args below meth c A Q G nL kc ks (pc + 1) (sm_I (x / y) :: stk) lo μ) : sm_W p l e R s m args below meth c A Q G nL kc ks pc (sm_I y :: sm_I x :: stk) lo μ := by
  intro H locs ls hP hD hS hL
  exact lv_idiv C.1 C.2.1 hd hz (k H locs ls hP hD hS hL)
theorem sr_irem (C : sm_C p s m args c cc nL own A G) {x y : Int32} (hz : ¬ y = 0) (hd : decode cc pc = .ok (.irem, 1)) (k : sm_W p l e R s m args below meth c A Q G nL kc ks (pc + 1) (sm_I (x % y) :: stk) lo μ) : sm_W p l e R s m args below meth c A Q G nL kc ks pc (sm_I y :: sm_I x :: stk) lo μ := by
  intro H locs ls hP hD hS hL
  exact lv_irem C.1 C.2.1 hd hz (by rw [sm_rem]; exact k H locs ls hP hD hS hL)
theorem sr_iushr (C : sm_C p s m args c cc nL own A G) {x y : Int32} (hd : decode cc pc = .ok (.iushr, 1)) (k : sm_W p l e R s m args below meth c A Q G nL kc ks (pc + 1) (sm_I (x.toUInt32 >>> (y.toUInt32 &&& Int32.toUInt32 31)).toInt32 :: stk) lo μ) : sm_W p l e R s m args below meth c A Q G nL kc ks pc (sm_I y :: sm_I x :: stk) lo μ := by
  intro H locs ls hP hD hS hL
  exact lv_iushr C.1 C.2.1 hd rfl (k H locs ls hP hD hS hL)
theorem sr_ineg (C : sm_C p s m args c cc nL own A G) {x : Int32} (hd : decode cc pc = .ok (.ineg, 1)) (k : sm_W p l e R s m args below meth c A Q G nL kc ks (pc + 1) (sm_I (-x) :: stk) lo μ) : sm_W p l e R s m args below meth c A Q G nL kc ks pc (sm_I x :: stk) lo μ := by
  intro H locs ls hP hD hS hL
  exact lv_ineg C.1 C.2.1 hd (k H locs ls hP hD hS hL)
theorem sr_i2b (C : sm_C p s m args c cc nL own A G) {x : Int32} (hd : decode cc pc = .ok (.i2b, 1)) (k : sm_W p l e R s m args below meth c A Q G nL kc ks (pc + 1) (sm_I x.toInt8.toInt32 :: stk) lo μ) : sm_W p l e R s m args below meth c A Q G nL kc ks pc (sm_I x :: stk) lo μ := by
  intro H locs ls hP hD hS hL
  exact lv_i2b C.1 C.2.1 hd rfl (k H locs ls hP hD hS hL)
theorem sr_i2s (C : sm_C p s m args c cc nL own A G) {x : Int32} (hd : decode cc pc = .ok (.i2s, 1)) (k : sm_W p l e R s m args below meth c A Q G nL kc ks (pc + 1) (sm_I x.toInt16.toInt32 :: stk) lo μ) : sm_W p l e R s m args below meth c A Q G nL kc ks pc (sm_I x :: stk) lo μ := by
  intro H locs ls hP hD hS hL
  exact lv_i2s C.1 C.2.1 hd rfl (k H locs ls hP hD hS hL)
theorem sr_i2c (C : sm_C p s m args c cc nL own A G) {x : Int32} (hd : decode cc pc = .ok (.i2c, 1)) (k : sm_W p l e R s m args below meth c A Q G nL kc ks (pc + 1) (sm_I (x.toUInt32 % 65536).toInt32 :: stk) lo μ) : sm_W p l e R s m args below meth c A Q G nL kc ks pc (sm_I x :: stk) lo μ := by
  intro H locs ls hP hD hS hL
  exact lv_i2c C.1 C.2.1 hd rfl (k H locs ls hP hD hS hL)
theorem sr_i2l (C : sm_C p s m args c cc nL own A G) {x : Int32} (hd : decode cc pc = .ok (.i2l, 1)) (k : sm_W p l e R s m args below meth c A Q G nL kc ks (pc + 1) (sm_L x.toInt64 :: stk) lo μ) : sm_W p l e R s m args below meth c A Q G nL kc ks pc (sm_I x :: stk) lo μ := by
  intro H locs ls hP hD hS hL
  exact lv_i2l C.1 C.2.1 hd rfl (k H locs ls hP hD hS hL)
theorem sr_l2i (C : sm_C p s m args c cc nL own A G) {x : Int64} (hd : decode cc pc = .ok (.l2i, 1)) (k : sm_W p l e R s m args below meth c A Q G nL kc ks (pc + 1) (sm_I x.toInt32 :: stk) lo μ) : sm_W p l e R s m args below meth c A Q G nL kc ks pc (sm_L x :: stk) lo μ := by
  intro H locs ls hP hD hS hL
  exact lv_l2i C.1 C.2.1 hd rfl (k H locs ls hP hD hS hL)
theorem sr_land (C : sm_C p s m args c cc nL own A G) {x y : Int64} (hd : decode cc pc = .ok (.land, 1)) (k : sm_W p l e R s m args below meth c A Q G nL kc ks (pc + 1) (sm_L (x &&& y) :: stk) lo μ) : sm_W p l e R s m args below meth c A Q G nL kc ks pc (sm_L y :: sm_L x :: stk) lo μ := by
  intro H locs ls hP hD hS hL
  exact lv_land C.1 C.2.1 hd (k H locs ls hP hD hS hL)
theorem sr_lor (C : sm_C p s m args c cc nL own A G) {x y : Int64} (hd : decode cc pc = .ok (.lor, 1)) (k : sm_W p l e R s m args below meth c A Q G nL kc ks (pc + 1) (sm_L (x ||| y) :: stk) lo μ) : sm_W p l e R s m args below meth c A Q G nL kc ks pc (sm_L y :: sm_L x :: stk) lo μ := by
  intro H locs ls hP hD hS hL
  exact lv_lor C.1 C.2.1 hd (k H locs ls hP hD hS hL)
theorem sr_lshl (C : sm_C p s m args c cc nL own A G) {x : Int64} {y : Int32} (hd : decode cc pc = .ok (.lshl, 1)) (k : sm_W p l e R s m args below meth c A Q G nL kc ks (pc + 1) (sm_L (x <<< (y.toInt64 &&& 63)) :: stk) lo μ) : sm_W p l e R s m args below meth c A Q G nL kc ks pc (sm_I y :: sm_L x :: stk) lo μ := by
  intro H locs ls hP hD hS hL
  exact lv_lshl C.1 C.2.1 hd rfl (k H locs ls hP hD hS hL)
theorem sr_lshr (C : sm_C p s m args c cc nL own A G) {x : Int64} {y : Int32} (hd : decode cc pc = .ok (.lshr, 1)) (k : sm_W p l e R s m args below meth c A Q G nL kc ks (pc + 1) (sm_L (x >>> (y.toInt64 &&& 63)) :: stk) lo μ) : sm_W p l e R s m args below meth c A Q G nL kc ks pc (sm_I y :: sm_L x :: stk) lo μ := by
  intro H locs ls hP hD hS hL
  exact lv_lshr C.1 C.2.1 hd rfl (k H locs ls hP hD hS hL)
theorem sr_lushr (C : sm_C p s m args c cc nL own A G) {x : Int64} {y : Int32} (hd : decode cc pc = .ok (.lushr, 1)) (k : sm_W p l e R s m args below meth c A Q G nL kc ks (pc + 1) (sm_L (x.toUInt64 >>> (y.toInt64.toUInt64 &&& Int64.toUInt64 63)).toInt64 :: stk) lo μ) : sm_W p l e R s m args below meth c A Q G nL kc ks pc (sm_I y :: sm_L x :: stk) lo μ := by
  intro H locs ls hP hD hS hL
  exact lv_lushr C.1 C.2.1 hd rfl (k H locs ls hP hD hS hL)
theorem sr_ldc2 (C : sm_C p s m args c cc nL own A G) {ix : Nat} {v : Int64} (hw : Cond.constantLong own ix v ∈ sm_tbl) (hd : decode cc pc = .ok (.ldc2_w ix, 3)) (k : sm_W p l e R s m args below meth c A Q G nL kc ks (pc + 3) (sm_L v :: stk) lo μ) : sm_W p l e R s m args below meth c A Q G nL kc ks pc stk lo μ := by
  intro H locs ls hP hD hS hL
  exact lv_ldc2 C.1 C.2.1 C.2.2.2.1 (C.2.2.2.2.1 _ hw) hd (k H locs ls hP hD hS hL)
theorem sr_dup (C : sm_C p s m args c cc nL own A G) {v : sm_V} (h1 : sm_cat v = 1) (hd : decode cc pc = .ok (.dup, 1)) (k : sm_W p l e R s m args below meth c A Q G nL kc ks (pc + 1) (v :: v :: stk) lo μ) : sm_W p l e R s m args below meth c A Q G nL kc ks pc (v :: stk) lo μ := by
  intro H locs ls hP hD hS hL
  exact lv_dup C.1 C.2.1 hd ((sm_cat_cv G.1 v).trans h1) (k H locs ls hP hD hS hL)
theorem sr_dup2 (C : sm_C p s m args c cc nL own A G) {v w : sm_V} (h1 : sm_cat v = 1) (h2 : sm_cat w = 1) (hd : decode cc pc = .ok (.dup2, 1)) (k : sm_W p l e R s m args below meth c A Q G nL kc ks (pc + 1) (v :: w :: v :: w :: stk) lo μ) : sm_W p l e R s m args below meth c A Q G nL kc ks pc (v :: w :: stk) lo μ := by
  intro H locs ls hP hD hS hL
  exact lv_dup2_11 C.1 C.2.1 hd ((sm_cat_cv G.1 v).trans h1) ((sm_cat_cv G.1 w).trans h2) (k H locs ls hP hD hS hL)
theorem sr_pop (C : sm_C p s m args c cc nL own A G) {v : sm_V} (h1 : sm_cat v = 1) (hd : decode cc pc = .ok (.pop, 1)) (k : sm_W p l e R s m args below meth c A Q G nL kc ks (pc + 1) stk lo μ) : sm_W p l e R s m args below meth c A Q G nL kc ks pc (v :: stk) lo μ := by
  intro H locs ls hP hD hS hL
  exact lv_pop C.1 C.2.1 hd ((sm_cat_cv G.1 v).trans h1) (k H locs ls hP hD hS hL)
theorem sr_goto (C : sm_C p s m args c cc nL own A G) {off : Int} {tgt : Nat} (ht : (pc : Int) + off = (tgt : Int)) (hd : decode cc pc = .ok (.goto off, 3)) (k : sm_W p l e R s m args below meth c A Q G nL kc ks tgt stk lo μ) : sm_W p l e R s m args below meth c A Q G nL kc ks pc stk lo μ := by
  intro H locs ls hP hD hS hL
  exact lv_goto C.1 C.2.1 hd ht (k H locs ls hP hD hS hL)
theorem sr_icmp_eq (C : sm_C p s m args c cc nL own A G) {x y : Int32} {off : Int} {tgt : Nat} (hd : decode cc pc = .ok (.if_icmp .eq off, 3)) (ht : (pc : Int) + off = (tgt : Int)) (kt : x = y → sm_W p l e R s m args below meth c A Q G nL kc ks tgt stk lo μ) (kf : ¬ x = y → sm_W p l e R s m args below meth c A Q G nL kc ks (pc + 3) stk lo μ) : sm_W p l e R s m args below meth c A Q G nL kc ks pc (sm_I y :: sm_I x :: stk) lo μ := by
  intro H locs ls hP hD hS hL
  exact lv_icmp_eq C.1 C.2.1 hd ht (fun q => kt q H locs ls hP hD hS hL) (fun q => kf q H locs ls hP hD hS hL)
theorem sr_if_eq (C : sm_C p s m args c cc nL own A G) {x : Int32} {off : Int} {tgt : Nat} (hd : decode cc pc = .ok (.ifCond .eq off, 3)) (ht : (pc : Int) + off = (tgt : Int)) (kt : x = 0 → sm_W p l e R s m args below meth c A Q G nL kc ks tgt stk lo μ) (kf : ¬ x = 0 → sm_W p l e R s m args below meth c A Q G nL kc ks (pc + 3) stk lo μ) : sm_W p l e R s m args below meth c A Q G nL kc ks pc (sm_I x :: stk) lo μ := by
  intro H locs ls hP hD hS hL
  exact lv_if_eq C.1 C.2.1 hd ht (fun q => kt q H locs ls hP hD hS hL) (fun q => kf q H locs ls hP hD hS hL)
theorem sr_icmp_ne (C : sm_C p s m args c cc nL own A G) {x y : Int32} {off : Int} {tgt : Nat} (hd : decode cc pc = .ok (.if_icmp .ne off, 3)) (ht : (pc : Int) + off = (tgt : Int)) (kt : ¬ x = y → sm_W p l e R s m args below meth c A Q G nL kc ks tgt stk lo μ) (kf : x = y → sm_W p l e R s m args below meth c A Q G nL kc ks (pc + 3) stk lo μ) : sm_W p l e R s m args below meth c A Q G nL kc ks pc (sm_I y :: sm_I x :: stk) lo μ := by
  intro H locs ls hP hD hS hL
  exact lv_icmp_ne C.1 C.2.1 hd ht (fun q => kt q H locs ls hP hD hS hL) (fun q => kf q H locs ls hP hD hS hL)
theorem sr_if_ne (C : sm_C p s m args c cc nL own A G) {x : Int32} {off : Int} {tgt : Nat} (hd : decode cc pc = .ok (.ifCond .ne off, 3)) (ht : (pc : Int) + off = (tgt : Int)) (kt : ¬ x = 0 → sm_W p l e R s m args below meth c A Q G nL kc ks tgt stk lo μ) (kf : x = 0 → sm_W p l e R s m args below meth c A Q G nL kc ks (pc + 3) stk lo μ) : sm_W p l e R s m args below meth c A Q G nL kc ks pc (sm_I x :: stk) lo μ := by
  intro H locs ls hP hD hS hL
  exact lv_if_ne C.1 C.2.1 hd ht (fun q => kt q H locs ls hP hD hS hL) (fun q => kf q H locs ls hP hD hS hL)
theorem sr_icmp_lt (C : sm_C p s m args c cc nL own A G) {x y : Int32} {off : Int} {tgt : Nat} (hd : decode cc pc = .ok (.if_icmp .lt off, 3)) (ht : (pc : Int) + off = (tgt : Int)) (kt : x < y → sm_W p l e R s m args below meth c A Q G nL kc ks tgt stk lo μ) (kf : ¬ x < y → sm_W p l e R s m args below meth c A Q G nL kc ks (pc + 3) stk lo μ) : sm_W p l e R s m args below meth c A Q G nL kc ks pc (sm_I y :: sm_I x :: stk) lo μ := by
  intro H locs ls hP hD hS hL
  exact lv_icmp_lt C.1 C.2.1 hd ht (fun q => kt q H locs ls hP hD hS hL) (fun q => kf q H locs ls hP hD hS hL)
theorem sr_if_lt (C : sm_C p s m args c cc nL own A G) {x : Int32} {off : Int} {tgt : Nat} (hd : decode cc pc = .ok (.ifCond .lt off, 3)) (ht : (pc : Int) + off = (tgt : Int)) (kt : x < 0 → sm_W p l e R s m args below meth c A Q G nL kc ks tgt stk lo μ) (kf : ¬ x < 0 → sm_W p l e R s m args below meth c A Q G nL kc ks (pc + 3) stk lo μ) : sm_W p l e R s m args below meth c A Q G nL kc ks pc (sm_I x :: stk) lo μ := by
  intro H locs ls hP hD hS hL
  exact lv_if_lt C.1 C.2.1 hd ht (fun q => kt q H locs ls hP hD hS hL) (fun q => kf q H locs ls hP hD hS hL)
theorem sr_icmp_ge (C : sm_C p s m args c cc nL own A G) {x y : Int32} {off : Int} {tgt : Nat} (hd : decode cc pc = .ok (.if_icmp .ge off, 3)) (ht : (pc : Int) + off = (tgt : Int)) (kt : y ≤ x → sm_W p l e R s m args below meth c A Q G nL kc ks tgt stk lo μ) (kf : ¬ y ≤ x → sm_W p l e R s m args below meth c A Q G nL kc ks (pc + 3) stk lo μ) : sm_W p l e R s m args below meth c A Q G nL kc ks pc (sm_I y :: sm_I x :: stk) lo μ := by
  intro H locs ls hP hD hS hL
  exact lv_icmp_ge C.1 C.2.1 hd ht (fun q => kt q H locs ls hP hD hS hL) (fun q => kf q H locs ls hP hD hS hL)
theorem sr_if_ge (C : sm_C p s m args c cc nL own A G) {x : Int32} {off : Int} {tgt : Nat} (hd : decode cc pc = .ok (.ifCond .ge off, 3)) (ht : (pc : Int) + off = (tgt : Int)) (kt : 0 ≤ x → sm_W p l e R s m args below meth c A Q G nL kc ks tgt stk lo μ) (kf : ¬ 0 ≤ x → sm_W p l e R s m args below meth c A Q G nL kc ks (pc + 3) stk lo μ) : sm_W p l e R s m args below meth c A Q G nL kc ks pc (sm_I x :: stk) lo μ := by
  intro H locs ls hP hD hS hL
  exact lv_if_ge C.1 C.2.1 hd ht (fun q => kt q H locs ls hP hD hS hL) (fun q => kf q H locs ls hP hD hS hL)
theorem sr_icmp_gt (C : sm_C p s m args c cc nL own A G) {x y : Int32} {off : Int} {tgt : Nat} (hd : decode cc pc = .ok (.if_icmp .gt off, 3)) (ht : (pc : Int) + off = (tgt : Int)) (kt : y < x → sm_W p l e R s m args below meth c A Q G nL kc ks tgt stk lo μ) (kf : ¬ y < x → sm_W p l e R s m args below meth c A Q G nL kc ks (pc + 3) stk lo μ) : sm_W p l e R s m args below meth c A Q G nL kc ks pc (sm_I y :: sm_I x :: stk) lo μ := by
  intro H locs ls hP hD hS hL
  exact lv_icmp_gt C.1 C.2.1 hd ht (fun q => kt q H locs ls hP hD hS hL) (fun q => kf q H locs ls hP hD hS hL)
theorem sr_if_gt (C : sm_C p s m args c cc nL own A G) {x : Int32} {off : Int} {tgt : Nat} (hd : decode cc pc = .ok (.ifCond .gt off, 3)) (ht : (pc : Int) + off = (tgt : Int)) (kt : 0 < x → sm_W p l e R s m args below meth c A Q G nL kc ks tgt stk lo μ) (kf : ¬ 0 < x → sm_W p l e R s m args below meth c A Q G nL kc ks (pc + 3) stk lo μ) : sm_W p l e R s m args below meth c A Q G nL kc ks pc (sm_I x :: stk) lo μ := by
  intro H locs ls hP hD hS hL
  exact lv_if_gt C.1 C.2.1 hd ht (fun q => kt q H locs ls hP hD hS hL) (fun q => kf q H locs ls hP hD hS hL)
theorem sr_icmp_le (C : sm_C p s m args c cc nL own A G) {x y : Int32} {off : Int} {tgt : Nat} (hd : decode cc pc = .ok (.if_icmp .le off, 3)) (ht : (pc : Int) + off = (tgt : Int)) (kt : x ≤ y → sm_W p l e R s m args below meth c A Q G nL kc ks tgt stk lo μ) (kf : ¬ x ≤ y → sm_W p l e R s m args below meth c A Q G nL kc ks (pc + 3) stk lo μ) : sm_W p l e R s m args below meth c A Q G nL kc ks pc (sm_I y :: sm_I x :: stk) lo μ := by
  intro H locs ls hP hD hS hL
  exact lv_icmp_le C.1 C.2.1 hd ht (fun q => kt q H locs ls hP hD hS hL) (fun q => kf q H locs ls hP hD hS hL)
theorem sr_if_le (C : sm_C p s m args c cc nL own A G) {x : Int32} {off : Int} {tgt : Nat} (hd : decode cc pc = .ok (.ifCond .le off, 3)) (ht : (pc : Int) + off = (tgt : Int)) (kt : x ≤ 0 → sm_W p l e R s m args below meth c A Q G nL kc ks tgt stk lo μ) (kf : ¬ x ≤ 0 → sm_W p l e R s m args below meth c A Q G nL kc ks (pc + 3) stk lo μ) : sm_W p l e R s m args below meth c A Q G nL kc ks pc (sm_I x :: stk) lo μ := by
  intro H locs ls hP hD hS hL
  exact lv_if_le C.1 C.2.1 hd ht (fun q => kt q H locs ls hP hD hS hL) (fun q => kf q H locs ls hP hD hS hL)
theorem sr_ifnullR (C : sm_C p s m args c cc nL own A G) {off : Int} {x : Nat} (hd : decode cc pc = .ok (.ifnull off, 3)) (k : sm_W p l e R s m args below meth c A Q G nL kc ks (pc + 3) stk lo μ) : sm_W p l e R s m args below meth c A Q G nL kc ks pc (sm_R x :: stk) lo μ := by
  intro H locs ls hP hD hS hL
  exact lv_ifnull C.1 C.2.1 hd (k H locs ls hP hD hS hL)
theorem sr_ifnullN (C : sm_C p s m args c cc nL own A G) {off : Int} {tgt : Nat} (ht : (pc : Int) + off = (tgt : Int)) (hd : decode cc pc = .ok (.ifnull off, 3)) (k : sm_W p l e R s m args below meth c A Q G nL kc ks tgt stk lo μ) : sm_W p l e R s m args below meth c A Q G nL kc ks pc (sm_N :: stk) lo μ := by
  intro H locs ls hP hD hS hL
  exact lv_ifnullN C.1 C.2.1 hd ht (k H locs ls hP hD hS hL)
theorem sr_ifnonnullR (C : sm_C p s m args c cc nL own A G) {off : Int} {tgt : Nat} {x : Nat} (ht : (pc : Int) + off = (tgt : Int)) (hd : decode cc pc = .ok (.ifnonnull off, 3)) (k : sm_W p l e R s m args below meth c A Q G nL kc ks tgt stk lo μ) : sm_W p l e R s m args below meth c A Q G nL kc ks pc (sm_R x :: stk) lo μ := by
  intro H locs ls hP hD hS hL
  exact lv_ifnonnull C.1 C.2.1 hd ht (k H locs ls hP hD hS hL)
theorem sr_ifnonnullN (C : sm_C p s m args c cc nL own A G) {off : Int} (hd : decode cc pc = .ok (.ifnonnull off, 3)) (k : sm_W p l e R s m args below meth c A Q G nL kc ks (pc + 3) stk lo μ) : sm_W p l e R s m args below meth c A Q G nL kc ks pc (sm_N :: stk) lo μ := by
  intro H locs ls hP hD hS hL
  exact lv_ifnonnullN C.1 C.2.1 hd (k H locs ls hP hD hS hL)
theorem sr_mask (C : sm_C p s m args c cc nL own A G) (zs : List Nat) {lo2 : List (Nat × sm_V)} (h : zs.filterMap (fun z => lo[z]?) = lo2) (k : sm_W p l e R s m args below meth c A Q G nL kc ks pc stk lo2 μ) : sm_W p l e R s m args below meth c A Q G nL kc ks pc stk lo μ := by
  intro H locs ls hP hD hS hL
  refine k H locs ls hP hD hS (lv_sub hL zs ?_)
  subst h
  simp [lv_pick, List.map_filterMap]
theorem sr_tableIn (C : sm_C p s m args c cc nL own A G) {dflt tl th : Int} {offs : Array Int} {len : Nat} {x : Int32} {off : Int} {tgt : Nat} (hd : decode cc pc = .ok (.tableswitch dflt tl th offs, len)) (h1 : ¬ x.toInt < tl) (h2 : ¬ th < x.toInt) (ho : offs[(x.toInt - tl).toNat]? = some off) (ht : (pc : Int) + off = (tgt : Int)) (k : sm_W p l e R s m args below meth c A Q G nL kc ks tgt stk lo μ) : sm_W p l e R s m args below meth c A Q G nL kc ks pc (sm_I x :: stk) lo μ := by
  intro H locs ls hP hD hS hL
  exact lv_tableIn C.1 C.2.1 hd h1 h2 ho ht (k H locs ls hP hD hS hL)
theorem sr_tableOut (C : sm_C p s m args c cc nL own A G) {dflt tl th : Int} {offs : Array Int} {len : Nat} {x : Int32} {tgt : Nat} (hd : decode cc pc = .ok (.tableswitch dflt tl th offs, len)) (h : x.toInt < tl ∨ th < x.toInt) (ht : (pc : Int) + dflt = (tgt : Int)) (k : sm_W p l e R s m args below meth c A Q G nL kc ks tgt stk lo μ) : sm_W p l e R s m args below meth c A Q G nL kc ks pc (sm_I x :: stk) lo μ := by
  intro H locs ls hP hD hS hL
  exact lv_tableOut C.1 C.2.1 hd h ht (k H locs ls hP hD hS hL)
theorem sr_lookup (C : sm_C p s m args c cc nL own A G) {dflt : Int} {ps : Array (Int × Int)} {len : Nat} {x : Int32} {off : Int} {tgt : Nat} (hd : decode cc pc = .ok (.lookupswitch dflt ps, len)) (hp : (ps.toList.zip (ps.toList.drop 1)).all (fun (a, next) => a.1 < next.1) = true) (ho : Op.lookupswitch.offset ps.toList dflt x.toInt = off) (ht : (pc : Int) + off = (tgt : Int)) (k : sm_W p l e R s m args below meth c A Q G nL kc ks tgt stk lo μ) : sm_W p l e R s m args below meth c A Q G nL kc ks pc (sm_I x :: stk) lo μ := by
  intro H locs ls hP hD hS hL
  exact lv_lookup C.1 C.2.1 hd hp ho ht (k H locs ls hP hD hS hL)

def sm_F (ci : Nat) (Cn : String) (T : u_T) (t : Nat → FieldType) (N : Nat) : Prop := sm_cls[ci]? = some (Cn, T, N) ∧ (∀ w ∈ u_ws Cn T N, w ∈ sm_tbl) ∧ (∀ k, k < N → parseFieldDescriptor (T k).2.2.1 = some (t k)) ∧ (∀ a, a < N → ∀ b, b < N → a ≠ b → (T a).2.1 ≠ (T b).2.1)
theorem sm_obj {k ci : Nat} {fl : List Nat} (hl : sm_lays[k]? = some (1, ci, fl)) : (sm_wl G μ)[k]? = some (G.1 k, .inr (ci, fl.mapIdx (fun j d => sm_fv G.1 (μ k) j d))) := sm_wl_get hl
theorem sm_arr {k n : Nat} {fl : List Nat} (hl : sm_lays[k]? = some (0, n, fl)) : (sm_wl G μ)[k]? = some (G.1 k, .inl (G.2.2.2.1, n, .inl (μ k))) := sm_wl_get hl
theorem sm_cE1 (ad : Nat → Nat) (cI cS : ClassId) (ci : Nat) (fl : List Nat) (f : Nat → Int32) : sm_cE ad cI cS (1, ci, fl) f = .inr (ci, fl.mapIdx (fun j d => sm_fv ad f j d)) := rfl
theorem sm_cE0 (ad : Nat → Nat) (cI cS : ClassId) (n : Nat) (fl : List Nat) (f : Nat → Int32) : sm_cE ad cI cS (0, n, fl) f = .inl (cI, n, .inl f) := rfl
theorem sm_setI {k ci j : Nat} {fl : List Nat} {v : Int32} (hl : sm_lays[k]? = some (1, ci, fl)) (hj : fl[j]? = some 0) : (sm_wl G μ).set k (G.1 k, .inr (ci, (fl.mapIdx (fun j d => sm_fv G.1 (μ k) j d)).set j (.int v))) = sm_wl G (sm_st μ k j v) := by
  have h := sm_wl_set (G := G) (μ := μ) (f := upd (μ k) j v) hl
  rw [sm_cE1] at h
  rw [sm_fl_set hj]
  exact h
theorem sm_setS {k ci j : Nat} {fl : List Nat} {v : Int32} (hl : sm_lays[k]? = some (1, ci, fl)) (hj : fl[j]? = some 1) : (sm_wl G μ).set k (G.1 k, .inr (ci, (fl.mapIdx (fun j d => sm_fv G.1 (μ k) j d)).set j (.ref (G.1 (100 + v.toNatClampNeg))))) = sm_wl G (sm_st μ k j v) := by
  have h := sm_wl_set (G := G) (μ := μ) (f := upd (μ k) j v) hl
  rw [sm_cE1] at h
  rw [sm_fl_setS hj]
  exact h
theorem sm_setA {k n i : Nat} {fl : List Nat} {v : Int32} (hl : sm_lays[k]? = some (0, n, fl)) : (sm_wl G μ).set k (G.1 k, .inl (G.2.2.2.1, n, .inl (upd (μ k) i v))) = sm_wl G (sm_st μ k i v) := by
  have h := sm_wl_set (G := G) (μ := μ) (f := upd (μ k) i v) hl
  rw [sm_cE0] at h
  exact h
theorem sm_setC {k0 k n a b z : Nat} {fl : List Nat} (hl : sm_lays[k]? = some (0, n, fl)) : (sm_wl G μ).set k (G.1 k, .inl (G.2.2.2.1, n, .inl (va_cpy (μ k0) (μ k) a b z))) = sm_wl G (sm_cpy μ k0 k a b z) := by
  have h := sm_wl_set (G := G) (μ := μ) (f := va_cpy (μ k0) (μ k) a b z) hl
  rw [sm_cE0] at h
  exact h
theorem sm_rows {k n : Nat} {fl : List Nat} (hl : sm_lays[k]? = some (2, n, fl)) : (sm_wl G μ)[k]? = some (G.1 k, .inl (G.2.2.2.2, n, .inr (.inr (.inr (.inr (fun i => (fl[i]?).map G.1)))))) := sm_wl_get hl

theorem sr_getI (C : sm_C p s m args c cc nL own A G) {ix k ci N : Nat} {Cn : String} {T : u_T} {t : Nat → FieldType} {fl : List Nat} (F : sm_F ci Cn T t N) (j : Nat) (hw : Cond.fieldLink own ix (T j).1 (T j).2.1 (T j).2.2.1 ∈ sm_tbl) (hl : sm_lays[k]? = some (1, ci, fl)) (hj : fl[j]? = some 0) (hN : j < N) (hd : decode cc pc = .ok (.getfield ix, 3)) (k2 : sm_W p l e R s m args below meth c A Q G nL kc ks (pc + 3) (sm_I (μ k j) :: stk) lo μ) : sm_W p l e R s m args below meth c A Q G nL kc ks pc (sm_R k :: stk) lo μ := by
  intro H locs ls hP hD hS hL
  exact va_get C.1 C.2.1 C.2.2.2.2.1 F.2.1 C.2.2.2.1 C.2.2.2.2.2.1 hP k (sm_obj hl) F.1 j hN (C.2.2.2.2.1 _ hw) (fun _ h => h) (v := sm_cv G.1 (sm_I (μ k j))) (by rw [List.getElem?_mapIdx, hj]; rfl) hd (k2 H locs ls hP hD hS hL)
theorem sr_getR (C : sm_C p s m args c cc nL own A G) {ix k ci N : Nat} {Cn : String} {T : u_T} {t : Nat → FieldType} {fl : List Nat} (F : sm_F ci Cn T t N) (j : Nat) (hw : Cond.fieldLink own ix (T j).1 (T j).2.1 (T j).2.2.1 ∈ sm_tbl) (hl : sm_lays[k]? = some (1, ci, fl)) {r : Nat} (hj : fl[j]? = some (r + 2)) (hN : j < N) (hd : decode cc pc = .ok (.getfield ix, 3)) (k2 : sm_W p l e R s m args below meth c A Q G nL kc ks (pc + 3) (sm_R r :: stk) lo μ) : sm_W p l e R s m args below meth c A Q G nL kc ks pc (sm_R k :: stk) lo μ := by
  intro H locs ls hP hD hS hL
  exact va_get C.1 C.2.1 C.2.2.2.2.1 F.2.1 C.2.2.2.1 C.2.2.2.2.2.1 hP k (sm_obj hl) F.1 j hN (C.2.2.2.2.1 _ hw) (fun _ h => h) (v := sm_cv G.1 (sm_R r)) (by rw [List.getElem?_mapIdx, hj]; rfl) hd (k2 H locs ls hP hD hS hL)
theorem sr_getS (C : sm_C p s m args c cc nL own A G) {ix k ci N : Nat} {Cn : String} {T : u_T} {t : Nat → FieldType} {fl : List Nat} (F : sm_F ci Cn T t N) (j : Nat) (hw : Cond.fieldLink own ix (T j).1 (T j).2.1 (T j).2.2.1 ∈ sm_tbl) (hl : sm_lays[k]? = some (1, ci, fl)) (hj : fl[j]? = some 1) (hN : j < N) (hd : decode cc pc = .ok (.getfield ix, 3)) (k2 : sm_W p l e R s m args below meth c A Q G nL kc ks (pc + 3) (sm_R (100 + (μ k j).toNatClampNeg) :: stk) lo μ) : sm_W p l e R s m args below meth c A Q G nL kc ks pc (sm_R k :: stk) lo μ := by
  intro H locs ls hP hD hS hL
  exact va_get C.1 C.2.1 C.2.2.2.2.1 F.2.1 C.2.2.2.1 C.2.2.2.2.2.1 hP k (sm_obj hl) F.1 j hN (C.2.2.2.2.1 _ hw) (fun _ h => h) (v := sm_cv G.1 (sm_R (100 + (μ k j).toNatClampNeg))) (by rw [List.getElem?_mapIdx, hj]; rfl) hd (k2 H locs ls hP hD hS hL)
theorem sr_putI (C : sm_C p s m args c cc nL own A G) {ix k ci N : Nat} {Cn : String} {T : u_T} {t : Nat → FieldType} {fl : List Nat} (F : sm_F ci Cn T t N) (j : Nat) (hw : Cond.fieldLink own ix (T j).1 (T j).2.1 (T j).2.2.1 ∈ sm_tbl) (hl : sm_lays[k]? = some (1, ci, fl)) {x : Int32} (hty : parseFieldDescriptor (T j).2.2.1 = some .int) (hj : fl[j]? = some 0) (hN : j < N) (hfin : (T j).2.2.2 = false) (hd : decode cc pc = .ok (.putfield ix, 3)) (k2 : sm_W p l e R s m args below meth c A Q G nL kc ks (pc + 3) stk lo (sm_st μ k j x)) : sm_W p l e R s m args below meth c A Q G nL kc ks pc (sm_I x :: sm_R k :: stk) lo μ := by
  intro H locs ls hP hD hS hL
  have hlen : j < (fl.mapIdx (fun j d => sm_fv G.1 (μ k) j d)).length := by rw [List.length_mapIdx]; exact (List.getElem?_eq_some_iff.mp hj).1
  refine va_put C.1 C.2.1 C.2.2.2.2.1 F.2.1 t F.2.2.1 F.2.2.2 C.2.2.2.1 C.2.2.2.2.2.1 hP hD hS k (sm_obj hl) F.1 j hN (C.2.2.2.2.1 _ hw) (fun _ h => h) hfin (v := .int x) hty rfl rfl hlen hd (fun H1 locs1 hP1 hD1 hS1 => ?_)
  rw [sm_setI hl hj] at hP1 hD1
  exact k2 H1 locs1 ls hP1 hD1 hS1 hL
theorem sr_putZ (C : sm_C p s m args c cc nL own A G) {ix k ci N : Nat} {Cn : String} {T : u_T} {t : Nat → FieldType} {fl : List Nat} (F : sm_F ci Cn T t N) (j : Nat) (hw : Cond.fieldLink own ix (T j).1 (T j).2.1 (T j).2.2.1 ∈ sm_tbl) (hl : sm_lays[k]? = some (1, ci, fl)) {x : Int32} (hx : x = 0 ∨ x = 1) (hty : parseFieldDescriptor (T j).2.2.1 = some .boolean) (hj : fl[j]? = some 0) (hN : j < N) (hfin : (T j).2.2.2 = false) (hd : decode cc pc = .ok (.putfield ix, 3)) (k2 : sm_W p l e R s m args below meth c A Q G nL kc ks (pc + 3) stk lo (sm_st μ k j x)) : sm_W p l e R s m args below meth c A Q G nL kc ks pc (sm_I x :: sm_R k :: stk) lo μ := by
  intro H locs ls hP hD hS hL
  have hlen : j < (fl.mapIdx (fun j d => sm_fv G.1 (μ k) j d)).length := by rw [List.length_mapIdx]; exact (List.getElem?_eq_some_iff.mp hj).1
  refine va_put C.1 C.2.1 C.2.2.2.2.1 F.2.1 t F.2.2.1 F.2.2.2 C.2.2.2.1 C.2.2.2.2.2.1 hP hD hS k (sm_obj hl) F.1 j hN (C.2.2.2.2.1 _ hw) (fun _ h => h) hfin (v := .int x) hty (by rcases hx with rfl | rfl <;> rfl) (by rcases hx with rfl | rfl <;> rfl) hlen hd (fun H1 locs1 hP1 hD1 hS1 => ?_)
  rw [sm_setI hl hj] at hP1 hD1
  exact k2 H1 locs1 ls hP1 hD1 hS1 hL
theorem sr_putS (C : sm_C p s m args c cc nL own A G) {ix k ci N : Nat} {Cn : String} {T : u_T} {t : Nat → FieldType} {fl : List Nat} (F : sm_F ci Cn T t N) (j : Nat) (hw : Cond.fieldLink own ix (T j).1 (T j).2.1 (T j).2.2.1 ∈ sm_tbl) (hl : sm_lays[k]? = some (1, ci, fl)) {x : Int32} (hty : parseFieldDescriptor (T j).2.2.1 = some (.object "java/lang/String")) (hj : fl[j]? = some 1) (hN : j < N) (hfin : (T j).2.2.2 = false) (hd : decode cc pc = .ok (.putfield ix, 3)) (k2 : sm_W p l e R s m args below meth c A Q G nL kc ks (pc + 3) stk lo (sm_st μ k j x)) : sm_W p l e R s m args below meth c A Q G nL kc ks pc (sm_R (100 + x.toNatClampNeg) :: sm_R k :: stk) lo μ := by
  intro H locs ls hP hD hS hL
  have hlen : j < (fl.mapIdx (fun j d => sm_fv G.1 (μ k) j d)).length := by rw [List.length_mapIdx]; exact (List.getElem?_eq_some_iff.mp hj).1
  refine va_put C.1 C.2.1 C.2.2.2.2.1 F.2.1 t F.2.2.1 F.2.2.2 C.2.2.2.1 C.2.2.2.2.2.1 hP hD hS k (sm_obj hl) F.1 j hN (C.2.2.2.2.1 _ hw) (fun _ h => h) hfin (v := .ref (G.1 (100 + x.toNatClampNeg))) hty rfl rfl hlen hd (fun H1 locs1 hP1 hD1 hS1 => ?_)
  rw [sm_setS hl hj] at hP1 hD1
  exact k2 H1 locs1 ls hP1 hD1 hS1 hL
theorem sr_iald (C : sm_C p s m args c cc nL own A G) {k n : Nat} {fl : List Nat} (hl : sm_lays[k]? = some (0, n, fl)) {i : Int32} (hi : vp_in i n) (hd : decode cc pc = .ok (.iaload, 1)) (k2 : sm_W p l e R s m args below meth c A Q G nL kc ks (pc + 1) (sm_I (μ k i.toNatClampNeg) :: stk) lo μ) : sm_W p l e R s m args below meth c A Q G nL kc ks pc (sm_I i :: sm_R k :: stk) lo μ := by
  intro H locs ls hP hD hS hL
  exact va_iald C.1 C.2.1 C.2.2.2.2.2.1 hP k 0 (sm_arr hl) rfl hi hd (k2 H locs ls hP hD hS hL)
theorem sr_iast (C : sm_C p s m args c cc nL own A G) {k n : Nat} {fl : List Nat} (hl : sm_lays[k]? = some (0, n, fl)) {i x : Int32} (hi : vp_in i n) (hd : decode cc pc = .ok (.iastore, 1)) (k2 : sm_W p l e R s m args below meth c A Q G nL kc ks (pc + 1) stk lo (sm_st μ k i.toNatClampNeg x)) : sm_W p l e R s m args below meth c A Q G nL kc ks pc (sm_I x :: sm_I i :: sm_R k :: stk) lo μ := by
  intro H locs ls hP hD hS hL
  refine va_iast C.1 C.2.1 C.2.2.2.2.2.1 hP hD hS k 0 (sm_arr hl) rfl hi hd (fun H1 locs1 hP1 hD1 hS1 => ?_)
  rw [sm_setA hl] at hP1 hD1
  exact k2 H1 locs1 ls hP1 hD1 hS1 hL
theorem sr_alen (C : sm_C p s m args c cc nL own A G) {k n : Nat} {fl : List Nat} (hl : sm_lays[k]? = some (0, n, fl)) {v : Int32} (hv : Int32.ofNat n = v) (hd : decode cc pc = .ok (.arraylength, 1)) (k2 : sm_W p l e R s m args below meth c A Q G nL kc ks (pc + 1) (sm_I v :: stk) lo μ) : sm_W p l e R s m args below meth c A Q G nL kc ks pc (sm_R k :: stk) lo μ := by
  intro H locs ls hP hD hS hL
  exact va_alen C.1 C.2.1 C.2.2.2.2.2.1 hP k 0 (sm_arr hl) rfl hv hd (k2 H locs ls hP hD hS hL)
theorem sr_alenR (C : sm_C p s m args c cc nL own A G) {k n : Nat} {fl : List Nat} (hl : sm_lays[k]? = some (2, n, fl)) {v : Int32} (hv : Int32.ofNat n = v) (hd : decode cc pc = .ok (.arraylength, 1)) (k2 : sm_W p l e R s m args below meth c A Q G nL kc ks (pc + 1) (sm_I v :: stk) lo μ) : sm_W p l e R s m args below meth c A Q G nL kc ks pc (sm_R k :: stk) lo μ := by
  intro H locs ls hP hD hS hL
  exact va_alen C.1 C.2.1 C.2.2.2.2.2.1 hP k 1 (sm_rows hl) rfl hv hd (k2 H locs ls hP hD hS hL)
theorem sr_aald (C : sm_C p s m args c cc nL own A G) {k n r : Nat} {fl : List Nat} (hl : sm_lays[k]? = some (2, n, fl)) {i : Int32} (hi : vp_in i n) (hr : fl[i.toNatClampNeg]? = some r) (hd : decode cc pc = .ok (.aaload, 1)) (k2 : sm_W p l e R s m args below meth c A Q G nL kc ks (pc + 1) (sm_R r :: stk) lo μ) : sm_W p l e R s m args below meth c A Q G nL kc ks pc (sm_I i :: sm_R k :: stk) lo μ := by
  intro H locs ls hP hD hS hL
  have h9 := k2 H locs ls hP hD hS hL
  refine va_aldq C.1 C.2.1 C.2.2.2.2.2.1 hP k 1 (sm_rows hl) rfl hi hd ?_
  rw [hr]
  exact h9
theorem sr_tlenA (C : sm_C p s m args c cc nL own A G) {v : Int32} (hv : Int32.ofNat 7 = v) (hd : decode cc pc = .ok (.arraylength, 1)) (k2 : sm_W p l e R s m args below meth c A Q G nL kc ks (pc + 1) (sm_I v :: stk) lo μ) : sm_W p l e R s m args below meth c A Q G nL kc ks pc (sm_R 110 :: stk) lo μ := by
  intro H locs ls hP hD hS hL
  exact va_tlen C.1 C.2.1 C.2.2.2.2.2.2.2.1.2.1 hS hv hd (k2 H locs ls hP hD hS hL)
theorem sr_tlenB (C : sm_C p s m args c cc nL own A G) {v : Int32} (hv : Int32.ofNat 28 = v) (hd : decode cc pc = .ok (.arraylength, 1)) (k2 : sm_W p l e R s m args below meth c A Q G nL kc ks (pc + 1) (sm_I v :: stk) lo μ) : sm_W p l e R s m args below meth c A Q G nL kc ks pc (sm_R 111 :: stk) lo μ := by
  intro H locs ls hP hD hS hL
  exact va_tlen C.1 C.2.1 C.2.2.2.2.2.2.2.1.2.2.2.1 hS hv hd (k2 H locs ls hP hD hS hL)
theorem sr_getsA (C : sm_C p s m args c cc nL own A G) {ix : Nat} (hw : Cond.fieldLink own ix "SnowMoney$Kinds" "ABOVE" "[I" ∈ sm_tbl) (hd : decode cc pc = .ok (.getstatic ix, 3)) (k2 : sm_W p l e R s m args below meth c A Q G nL kc ks (pc + 3) (sm_R 110 :: stk) lo μ) : sm_W p l e R s m args below meth c A Q G nL kc ks pc stk lo μ := by
  intro H locs ls hP hD hS hL
  exact va_gets C.1 C.2.1 C.2.2.2.2.2.2.2.1.1 hS C.2.2.2.1 (C.2.2.2.2.1 _ hw) (fun _ h => h) hd (k2 H locs ls hP hD hS hL)
theorem sr_getsB (C : sm_C p s m args c cc nL own A G) {ix : Nat} (hw : Cond.fieldLink own ix "SnowMoney$Voices" "BODIES" "[I" ∈ sm_tbl) (hd : decode cc pc = .ok (.getstatic ix, 3)) (k2 : sm_W p l e R s m args below meth c A Q G nL kc ks (pc + 3) (sm_R 111 :: stk) lo μ) : sm_W p l e R s m args below meth c A Q G nL kc ks pc stk lo μ := by
  intro H locs ls hP hD hS hL
  exact va_gets C.1 C.2.1 C.2.2.2.2.2.2.2.1.2.2.1 hS C.2.2.2.1 (C.2.2.2.2.1 _ hw) (fun _ h => h) hd (k2 H locs ls hP hD hS hL)
end SMR
end
section

def sm_args : Nat → List sm_V → List (Nat × sm_V)
  | _, [] => []
  | i, v :: vs => (i, v) :: sm_args (if sm_cat v = 2 then i + 2 else i + 1) vs
theorem sm_args_eq (ad : Nat → Nat) : ∀ (i : Nat) (vs : List sm_V), lv_args i (vs.map (sm_cv ad)) = (sm_args i vs).map fun q => (q.1, sm_cv ad q.2)
  | _, [] => rfl
  | i, v :: vs => by
    simp only [List.map_cons, lv_args, sm_args, sm_cat_cv]
    rw [sm_args_eq ad _ vs]
def sm_Pre (G : sm_G) (sz : Nat) (As : List sm_V) (μ : sm_Mem) : Array Value → State → Prop := va_Pc (As.map (sm_cv G.1)) (fun U => U.heap.size = sz ∧ va_P (sm_D G) sm_cls (sm_wl G μ) U.heap ∧ va_K (sm_D G) sm_cls (sm_tys G) U ∧ va_D (fun _ => True) (sm_wl G μ) ∧ sm_SF G.1 (va_A (sm_wl G μ) sz) U U.heap ∧ sm_SR G.1 U)
def sm_Po (G : sm_G) (A : Nat → Prop) (μ : sm_Mem) (t : State) : Prop := va_P (sm_D G) sm_cls (sm_wl G μ) t.heap ∧ va_K (sm_D G) sm_cls (sm_tys G) t ∧ va_D A (sm_wl G μ)
theorem sm_blind {G : sm_G} {sz : Nat} {As : List sm_V} {μ : sm_Mem} : FrameBlind (sm_Pre G sz As μ) := by
  intro a U g mk h
  obtain ⟨h0, h1, h2, h3, h4, h5, h6⟩ := h
  exact ⟨h0, h1, h2, va_K.moved (u := U) (U := U.calling g mk a) (Vm.Alike.refl U.vm) h3, h4, sm_SF.moved (u := U) (U := U.calling g mk a) (Vm.Alike.refl U.vm) h5, sm_SR.same (s := U) (U := U.calling g mk a) rfl h6⟩
def sm_MI (l : Launch) (y : MethodName) (cc : ByteArray) (nL : Nat) (ret : Option FieldType) (rm : Room) (As : List sm_V) (μ : sm_Mem) (K : Int32 → sm_Mem → Prop) : Prop := ∀ (G : sm_G) (sz : Nat), Met l y (.code y cc nL ret :: sm_tbl) rm (sm_Pre G sz As μ) (va_Qi K (fun μ' t => sm_Po G (va_A (sm_wl G μ) sz) μ' t) (va_A (sm_wl G μ) sz)) 0 0 (va_A (sm_wl G μ) sz)
def sm_MV (l : Launch) (y : MethodName) (cc : ByteArray) (nL : Nat) (rm : Room) (As : List sm_V) (μ : sm_Mem) (K : sm_Mem → Prop) : Prop := ∀ (G : sm_G) (sz : Nat), Met l y (.code y cc nL none :: sm_tbl) rm (sm_Pre G sz As μ) (va_Qv K (fun μ' t => sm_Po G (va_A (sm_wl G μ) sz) μ' t) (va_A (sm_wl G μ) sz)) 0 0 (va_A (sm_wl G μ) sz)
def sm_MR (l : Launch) (y : MethodName) (cc : ByteArray) (nL : Nat) (ret : Option FieldType) (rm : Room) (As : List sm_V) (μ : sm_Mem) (K : Option Nat → sm_Mem → Prop) : Prop := ∀ (G : sm_G) (sz : Nat), Met l y (.code y cc nL ret :: sm_tbl) rm (sm_Pre G sz As μ) (va_Qq (fun r μ' => ∃ k : Option Nat, r = k.map G.1 ∧ K k μ') (fun μ' t => sm_Po G (va_A (sm_wl G μ) sz) μ' t) (va_A (sm_wl G μ) sz)) 0 0 (va_A (sm_wl G μ) sz)

theorem sm_ofI {l : Launch} {y : MethodName} {cc : ByteArray} {nL : Nat} {ty : FieldType} {rm : Room} {As : List sm_V} {μ : sm_Mem} {K : Int32 → sm_Mem → Prop} (hy : plainName y.cls = true) (hn : ∀ ad : Nat → Nat, (lg_sl (As.map (sm_cv ad))).length ≤ nL) (body : ∀ (p : Program) (e : Env) (s : State) (m : MethodId) (args : Array Value) (below : List Frame) (meth : Method) (c : Code) (A : Nat → Prop) (Q : State → Prop) (G : sm_G), sm_C p s m args c cc nL y.cls A G → (∀ (pc : Nat) (v : Int32) (μ2 : sm_Mem) (lo : List (Nat × sm_V)), decode cc pc = .ok (.ireturn, 1) → narrow ty (.int v) = .int v → K v μ2 → sm_W p l e rm s m args below meth c A Q G nL 0 0 pc [sm_I v] lo μ2) → sm_W p l e rm s m args below meth c A Q G nL 0 0 0 [] (sm_args 0 As) μ) : sm_MI l y cc nL (some ty) rm As μ K := by
  intro G sz
  refine Met.ofW (cc := cc) (maxL := nL) (ret := (some ty)) hy rfl ?_
  intro p e s m args below meth c s₁ B hml hv
  obtain ⟨rfl, hsz, hP, hK, hD0, hSF, hSR⟩ := hv
  subst hsz
  have hts0 := atoms_spec (ws := (.code y cc nL (some ty) :: sm_tbl)) B.pre
  have C : sm_C p s m (As.map (sm_cv G.1)).toArray c cc nL y.cls (va_A (sm_wl G μ) s.heap.size) G := ⟨B.exec, B.bytes, hml, findClass_of_methodNamed B.named, fun w hw => hts0 w (List.mem_cons_of_mem _ hw), hK, fun q h => Or.inr h, hSF, hSR⟩
  have hl := lv_entry (As.map (sm_cv G.1)) (hn G.1)
  rw [sm_args_eq] at hl
  rw [lg_entry_eq]
  refine body p e s m _ below meth c _ _ G C ?_ s.heap [] _ hP hD0.self va_S.rf hl
  intro pc v μ2 lo hd hn hk H locs ls hP hD hS hL
  exact W.zret B.exec B.bytes B.returns hn (fun t ht hW => ⟨⟨v, μ2, rfl, hk, by rw [ht]; exact hP, va_K.moved hW.alike hK, hD⟩, hS.F ht⟩) hS.2.2 hd B.notSynchronized
theorem sm_ofV {l : Launch} {y : MethodName} {cc : ByteArray} {nL : Nat}  {rm : Room} {As : List sm_V} {μ : sm_Mem} {K : sm_Mem → Prop} (hy : plainName y.cls = true) (hn : ∀ ad : Nat → Nat, (lg_sl (As.map (sm_cv ad))).length ≤ nL) (body : ∀ (p : Program) (e : Env) (s : State) (m : MethodId) (args : Array Value) (below : List Frame) (meth : Method) (c : Code) (A : Nat → Prop) (Q : State → Prop) (G : sm_G), sm_C p s m args c cc nL y.cls A G → (∀ (pc : Nat) (μ2 : sm_Mem) (lo : List (Nat × sm_V)), decode cc pc = .ok (.return_, 1) → K μ2 → sm_W p l e rm s m args below meth c A Q G nL 0 0 pc [] lo μ2) → sm_W p l e rm s m args below meth c A Q G nL 0 0 0 [] (sm_args 0 As) μ) : sm_MV l y cc nL rm As μ K := by
  intro G sz
  refine Met.ofW (cc := cc) (maxL := nL) (ret := none) hy rfl ?_
  intro p e s m args below meth c s₁ B hml hv
  obtain ⟨rfl, hsz, hP, hK, hD0, hSF, hSR⟩ := hv
  subst hsz
  have hts0 := atoms_spec (ws := (.code y cc nL none :: sm_tbl)) B.pre
  have C : sm_C p s m (As.map (sm_cv G.1)).toArray c cc nL y.cls (va_A (sm_wl G μ) s.heap.size) G := ⟨B.exec, B.bytes, hml, findClass_of_methodNamed B.named, fun w hw => hts0 w (List.mem_cons_of_mem _ hw), hK, fun q h => Or.inr h, hSF, hSR⟩
  have hl := lv_entry (As.map (sm_cv G.1)) (hn G.1)
  rw [sm_args_eq] at hl
  rw [lg_entry_eq]
  refine body p e s m _ below meth c _ _ G C ?_ s.heap [] _ hP hD0.self va_S.rf hl
  intro pc μ2 lo hd hk H locs ls hP hD hS hL
  exact W.vret B.exec B.bytes B.returns (fun t ht hW => ⟨⟨μ2, rfl, hk, by rw [ht]; exact hP, va_K.moved hW.alike hK, hD⟩, hS.F ht⟩) hS.2.2 hd B.notSynchronized
def sm_ro : Option Nat → sm_V := fun k => Sum.inr (Sum.inl k)
theorem sm_ofR {l : Launch} {y : MethodName} {cc : ByteArray} {nL : Nat} {cn : String} {rm : Room} {As : List sm_V} {μ : sm_Mem} {K : Option Nat → sm_Mem → Prop} (hy : plainName y.cls = true) (hn : ∀ ad : Nat → Nat, (lg_sl (As.map (sm_cv ad))).length ≤ nL) (body : ∀ (p : Program) (e : Env) (s : State) (m : MethodId) (args : Array Value) (below : List Frame) (meth : Method) (c : Code) (A : Nat → Prop) (Q : State → Prop) (G : sm_G), sm_C p s m args c cc nL y.cls A G → (∀ (pc : Nat) (v : Option Nat) (μ2 : sm_Mem) (lo : List (Nat × sm_V)), decode cc pc = .ok (.areturn, 1) → K v μ2 → sm_W p l e rm s m args below meth c A Q G nL 0 0 pc [sm_ro v] lo μ2) → sm_W p l e rm s m args below meth c A Q G nL 0 0 0 [] (sm_args 0 As) μ) : sm_MR l y cc nL (some (.object cn)) rm As μ K := by
  intro G sz
  refine Met.ofW (cc := cc) (maxL := nL) (ret := (some (.object cn))) hy rfl ?_
  intro p e s m args below meth c s₁ B hml hv
  obtain ⟨rfl, hsz, hP, hK, hD0, hSF, hSR⟩ := hv
  subst hsz
  have hts0 := atoms_spec (ws := (.code y cc nL (some (.object cn)) :: sm_tbl)) B.pre
  have C : sm_C p s m (As.map (sm_cv G.1)).toArray c cc nL y.cls (va_A (sm_wl G μ) s.heap.size) G := ⟨B.exec, B.bytes, hml, findClass_of_methodNamed B.named, fun w hw => hts0 w (List.mem_cons_of_mem _ hw), hK, fun q h => Or.inr h, hSF, hSR⟩
  have hl := lv_entry (As.map (sm_cv G.1)) (hn G.1)
  rw [sm_args_eq] at hl
  rw [lg_entry_eq]
  refine body p e s m _ below meth c _ _ G C ?_ s.heap [] _ hP hD0.self va_S.rf hl
  intro pc v μ2 lo hd hk H locs ls hP hD hS hL
  have e1 : sm_cv G.1 (sm_ro v) = va_rf (v.map G.1) := by cases v <;> rfl
  show W _ _ _ _ _ _ _ _ _ _ _ _ _ _ _ (F0 m pc ls [sm_cv G.1 (sm_ro v)])
  rw [e1]
  exact W.aret B.exec B.bytes B.returns (Or.inl ⟨cn, rfl⟩) (va_rf_or _) (fun t ht hW => ⟨⟨v.map G.1, μ2, rfl, ⟨v, rfl, hk⟩, by rw [ht]; exact hP, va_K.moved hW.alike hK, hD⟩, hS.F ht⟩) hS.2.2 hd B.notSynchronized

def sm_okB (own : String) (idx : Nat) (y : MethodName) (cc : ByteArray) (nL : Nat) (ret : Option FieldType) (n : Nat) : Prop := Cond.methodLink own idx y ∈ sm_tbl ∧ Cond.initialized y.cls ∈ sm_tbl ∧ Cond.code y cc nL ret ∈ sm_tbl ∧ (y.cls ≠ "java/lang/invoke/MethodHandle" ∧ y.cls ≠ "java/lang/invoke/VarHandle" ∧ (parseMethodDescriptor y.desc).map (fun d => d.parameters.length) = some n)
def sm_okV (own : String) (idx : Nat) (y : MethodName) (cc : ByteArray) (nL : Nat) (ret : Option FieldType) (n : Nat) : Prop := sm_okB own idx y cc nL ret n ∧ Cond.instanceMethod y ∈ sm_tbl ∧ Cond.selects y.cls y y ∈ sm_tbl
def sm_okS (own : String) (idx : Nat) (y : MethodName) (cc : ByteArray) (nL : Nat) (ret : Option FieldType) (n : Nat) : Prop := sm_okB own idx y cc nL ret n ∧ Cond.static y ∈ sm_tbl
theorem sm_goodIn {y : MethodName} {cc : ByteArray} {nL : Nat} {ret : Option FieldType} (h : Cond.code y cc nL ret ∈ sm_tbl) : GoodIn sm_tbl (.code y cc nL ret :: sm_tbl) := by
  refine goodIn_of _ ?_ |> fun (hh : GoodIn sm_tbl sm_tbl) => ?_
  · intro w hw
    rcases List.mem_cons.mp hw with rfl | hw
    · exact hh _ h
    · exact hh _ hw
  · exact List.all_eq_true.mpr fun w hw => by
      have h1 := List.all_eq_true.mp sm_good w hw
      simp [hw, h1]
theorem sm_isC {G : sm_G} {μ : sm_Mem} : (List.range (sm_wl G μ).length).map (fun i => (sm_wl G μ)[i]?) = (sm_wl G μ).map some := by
  apply List.ext_getElem?
  intro i
  simp only [List.getElem?_map, List.getElem?_range]
  by_cases hi : i < (sm_wl G μ).length
  · simp [hi]
  · simp [hi]

section SMC
variable {p : Program} {l : Launch} {e : Env} {R : Room} {s : State} {m : MethodId} {args : Array Value} {below : List Frame} {meth : Method} {c : Code} {A : Nat → Prop} {Q : State → Prop} {G : sm_G} {nL kc ks : Nat} {cc : ByteArray} {own : String} {pc : Nat} {stk : List sm_V} {lo : List (Nat × sm_V)} {μ : sm_Mem}

theorem sm_callB (C : sm_C p s m args c cc nL own A G) {ix n yL : Nat} {y : MethodName} {yc : ByteArray} {ret : Option FieldType} {rm : Room} (ok : sm_okB own ix y yc yL ret n) (hrc : rm.cells = 0) (hrs : rm.slots = 0) (hR : rm.frames + 1 ≤ R.frames ∧ 8 + (yL + 11) + rm.locals ≤ R.locals) : CallB R s args own ix y yc yL ret (.code y yc yL ret :: sm_tbl) rm 0 0 n :=
  callB_of n C.2.2.2.2.1 (sm_goodIn ok.2.2.1) rfl hrc hrs (C.2.2.2.2.1 _ ok.2.1) (C.2.2.2.2.1 _ ok.1) ok.2.2.2 hR
theorem sm_pre (C : sm_C p s m args c cc nL own A G) {As : List sm_V} {H : Heap} {locs : List Loc} (hP : va_P (sm_D G) sm_cls (sm_wl G μ) H) (hD : va_D A (sm_wl G μ)) (hS : va_S A s.heap H locs) : ∀ U : State, U.heap = H → s.WarmedH U.vm → sm_Pre G H.size As μ (As.map (sm_cv G.1)).toArray U := by
  intro U hU hW
  have hF := va_free (wc := sm_wl G μ) hD hS C.2.2.2.2.2.2.1 _ sm_isC
  refine ⟨rfl, by rw [hU], by rw [hU]; exact hP, va_K.moved hW.alike C.2.2.2.2.2.1, hD.weaken (fun _ _ _ _ => trivial), ?_, C.2.2.2.2.2.2.2.2.warm hW⟩
  rw [hU]
  exact ((C.2.2.2.2.2.2.2.1.kept hS.2.1).narrow hF).moved hW.alike
theorem sm_back {μ2 : sm_Mem} {H H1 : Heap} {t : State} {locs : List Loc} (C : sm_C p s m args c cc nL own A G) (hP : va_P (sm_D G) sm_cls (sm_wl G μ) H) (hD : va_D A (sm_wl G μ)) (hS : va_S A s.heap H locs) (ht : t.heap = H1) (hk : ∀ q : Nat, q < H.size → ¬ va_A (sm_wl G μ) H.size q → H1[q]? = H[q]?) (hB : sm_Po G (va_A (sm_wl G μ) H.size) μ2 t) : va_P (sm_D G) sm_cls (sm_wl G μ2) H1 ∧ va_D A (sm_wl G μ2) := by
  have hF := va_free (wc := sm_wl G μ) hD hS C.2.2.2.2.2.2.1 _ sm_isC
  obtain ⟨hP1, hK1, hD1⟩ := hB
  rw [ht] at hP1
  have hj := va_join (wr := []) (w1 := sm_wl G μ2) (wc := sm_wl G μ) hP hD (List.range (sm_wl G μ).length) [] sm_isC rfl rfl (fun _ h => nomatch h) hk hF hP1 hD1
  rw [List.nil_append] at hj
  exact hj

theorem sr_callVI (C : sm_C p s m args c cc nL own A G) {ix n yL : Nat} {y : MethodName} {yc : ByteArray} {ret : Option FieldType} {rm : Room} (As : List sm_V) {k ci N : Nat} {fl : List Nat} {T : u_T} {K : Int32 → sm_Mem → Prop} (hM : sm_MI l y yc yL ret rm (sm_R k :: As) μ K) (ok : sm_okV own ix y yc yL ret n) (hl : sm_lays[k]? = some (1, ci, fl)) (hcl : sm_cls[ci]? = some (y.cls, T, N)) (hn : As.length = n) (hrc : rm.cells = 0) (hrs : rm.slots = 0) (hR : rm.frames + 1 ≤ R.frames ∧ 8 + (yL + 11) + rm.locals ≤ R.locals) (hcat : (stk.map sm_cat).sum ≤ 8) (hf : kc ≤ R.cells ∧ ks ≤ R.slots) (hd : decode cc pc = .ok (.invokevirtual ix, 3)) (kk : ∀ (r : Int32) (μ2 : sm_Mem), K r μ2 → sm_W p l e R s m args below meth c A Q G nL kc ks (pc + 3) (sm_I r :: stk) lo μ2) : sm_W p l e R s m args below meth c A Q G nL kc ks pc (As.reverse ++ sm_R k :: stk) lo μ := by
  intro H locs ls hP hD hS hL
  have hF := va_free (wc := sm_wl G μ) hD hS C.2.2.2.2.2.2.1 _ sm_isC
  have hc : ((stk.map (sm_cv G.1)).map fun v => v.category).sum ≤ 8 := by
    have e1 : (stk.map (sm_cv G.1)).map (fun v => v.category) = stk.map sm_cat := by rw [List.map_map]; exact List.map_congr_left fun v _ => sm_cat_cv G.1 v
    rw [e1]; exact hcat
  have hrun := va_runV (H := H) (locs := locs) (cells := kc) (slots := ks) (g := F0 m pc ls ((As.reverse ++ sm_R k :: stk).map (sm_cv G.1))) (rest := stk.map (sm_cv G.1)) (As := As.map (sm_cv G.1)) (e := e) (below := below) (meth := meth) (nL := nL) ⟨C.1, C.2.1, C.2.2.1, C.2.2.2.1, C.2.2.2.2.1⟩ (hM G H.size) ⟨sm_callB C ok.1 hrc hrs hR, C.2.2.2.2.1 _ ok.2.1, C.2.2.2.2.1 _ ok.2.2⟩ ⟨sm_blind, va_recv C.2.2.2.2.2.1 hP hcl (sm_obj hl), sm_pre C (As := sm_R k :: As) hP hD hS⟩ rfl (List.length_map (as := As) (sm_cv G.1) |>.trans hn) hL.1 (by simp [List.map_reverse, sm_cv]) (lv_room hc) hd hf
  refine va_calli hrun hS (fun q _ h => hF q h) hF (fun r u t H1 locs1 ht hvm hw hB hz1 hk1 hS1 => ?_)
  obtain ⟨hP1, hD1⟩ := sm_back C hP hD hS ht hk1 hB
  exact kk r u hw H1 locs1 ls hP1 hD1 hS1 hL
theorem sr_callSI (C : sm_C p s m args c cc nL own A G) {ix n yL : Nat} {y : MethodName} {yc : ByteArray} {ret : Option FieldType} {rm : Room} (As : List sm_V) {K : Int32 → sm_Mem → Prop} (hM : sm_MI l y yc yL ret rm As μ K) (ok : sm_okS own ix y yc yL ret n) (hn : As.length = n) (hrc : rm.cells = 0) (hrs : rm.slots = 0) (hR : rm.frames + 1 ≤ R.frames ∧ 8 + (yL + 11) + rm.locals ≤ R.locals) (hcat : (stk.map sm_cat).sum ≤ 8) (hf : kc ≤ R.cells ∧ ks ≤ R.slots) (hd : decode cc pc = .ok (.invokestatic ix, 3)) (kk : ∀ (r : Int32) (μ2 : sm_Mem), K r μ2 → sm_W p l e R s m args below meth c A Q G nL kc ks (pc + 3) (sm_I r :: stk) lo μ2) : sm_W p l e R s m args below meth c A Q G nL kc ks pc (As.reverse ++ stk) lo μ := by
  intro H locs ls hP hD hS hL
  have hF := va_free (wc := sm_wl G μ) hD hS C.2.2.2.2.2.2.1 _ sm_isC
  have hc : ((stk.map (sm_cv G.1)).map fun v => v.category).sum ≤ 8 := by
    have e1 : (stk.map (sm_cv G.1)).map (fun v => v.category) = stk.map sm_cat := by rw [List.map_map]; exact List.map_congr_left fun v _ => sm_cat_cv G.1 v
    rw [e1]; exact hcat
  have hrun := va_runS (H := H) (locs := locs) (cells := kc) (slots := ks) (g := F0 m pc ls ((As.reverse ++ stk).map (sm_cv G.1))) (rest := stk.map (sm_cv G.1)) (As := As.map (sm_cv G.1)) (e := e) (below := below) (meth := meth) (nL := nL) ⟨C.1, C.2.1, C.2.2.1, C.2.2.2.1, C.2.2.2.2.1⟩ (hM G H.size) ⟨sm_callB C ok.1 hrc hrs hR, C.2.2.2.2.1 _ ok.2⟩ ⟨sm_blind, sm_pre C (As := As) hP hD hS⟩ rfl (List.length_map (as := As) (sm_cv G.1) |>.trans hn) hL.1 (by simp [List.map_reverse, sm_cv]) (lv_room hc) hd hf
  refine va_calli hrun hS (fun q _ h => hF q h) hF (fun r u t H1 locs1 ht hvm hw hB hz1 hk1 hS1 => ?_)
  obtain ⟨hP1, hD1⟩ := sm_back C hP hD hS ht hk1 hB
  exact kk r u hw H1 locs1 ls hP1 hD1 hS1 hL
theorem sr_callVV (C : sm_C p s m args c cc nL own A G) {ix n yL : Nat} {y : MethodName} {yc : ByteArray} {rm : Room} (As : List sm_V) {k ci N : Nat} {fl : List Nat} {T : u_T} {K : sm_Mem → Prop} (hM : sm_MV l y yc yL rm (sm_R k :: As) μ K) (ok : sm_okV own ix y yc yL none n) (hl : sm_lays[k]? = some (1, ci, fl)) (hcl : sm_cls[ci]? = some (y.cls, T, N)) (hn : As.length = n) (hrc : rm.cells = 0) (hrs : rm.slots = 0) (hR : rm.frames + 1 ≤ R.frames ∧ 8 + (yL + 11) + rm.locals ≤ R.locals) (hcat : (stk.map sm_cat).sum ≤ 8) (hf : kc ≤ R.cells ∧ ks ≤ R.slots) (hd : decode cc pc = .ok (.invokevirtual ix, 3)) (kk : ∀ (μ2 : sm_Mem), K μ2 → sm_W p l e R s m args below meth c A Q G nL kc ks (pc + 3) stk lo μ2) : sm_W p l e R s m args below meth c A Q G nL kc ks pc (As.reverse ++ sm_R k :: stk) lo μ := by
  intro H locs ls hP hD hS hL
  have hF := va_free (wc := sm_wl G μ) hD hS C.2.2.2.2.2.2.1 _ sm_isC
  have hc : ((stk.map (sm_cv G.1)).map fun v => v.category).sum ≤ 8 := by
    have e1 : (stk.map (sm_cv G.1)).map (fun v => v.category) = stk.map sm_cat := by rw [List.map_map]; exact List.map_congr_left fun v _ => sm_cat_cv G.1 v
    rw [e1]; exact hcat
  have hrun := va_runV (H := H) (locs := locs) (cells := kc) (slots := ks) (g := F0 m pc ls ((As.reverse ++ sm_R k :: stk).map (sm_cv G.1))) (rest := stk.map (sm_cv G.1)) (As := As.map (sm_cv G.1)) (e := e) (below := below) (meth := meth) (nL := nL) ⟨C.1, C.2.1, C.2.2.1, C.2.2.2.1, C.2.2.2.2.1⟩ (hM G H.size) ⟨sm_callB C ok.1 hrc hrs hR, C.2.2.2.2.1 _ ok.2.1, C.2.2.2.2.1 _ ok.2.2⟩ ⟨sm_blind, va_recv C.2.2.2.2.2.1 hP hcl (sm_obj hl), sm_pre C (As := sm_R k :: As) hP hD hS⟩ rfl (List.length_map (as := As) (sm_cv G.1) |>.trans hn) hL.1 (by simp [List.map_reverse, sm_cv]) (lv_room hc) hd hf
  refine va_callv hrun hS (fun q _ h => hF q h) hF (fun u t H1 locs1 ht hvm hw hB hz1 hk1 hS1 => ?_)
  obtain ⟨hP1, hD1⟩ := sm_back C hP hD hS ht hk1 hB
  exact kk u hw H1 locs1 ls hP1 hD1 hS1 hL
theorem sr_callSV (C : sm_C p s m args c cc nL own A G) {ix n yL : Nat} {y : MethodName} {yc : ByteArray} {rm : Room} (As : List sm_V) {K : sm_Mem → Prop} (hM : sm_MV l y yc yL rm As μ K) (ok : sm_okS own ix y yc yL none n) (hn : As.length = n) (hrc : rm.cells = 0) (hrs : rm.slots = 0) (hR : rm.frames + 1 ≤ R.frames ∧ 8 + (yL + 11) + rm.locals ≤ R.locals) (hcat : (stk.map sm_cat).sum ≤ 8) (hf : kc ≤ R.cells ∧ ks ≤ R.slots) (hd : decode cc pc = .ok (.invokestatic ix, 3)) (kk : ∀ (μ2 : sm_Mem), K μ2 → sm_W p l e R s m args below meth c A Q G nL kc ks (pc + 3) stk lo μ2) : sm_W p l e R s m args below meth c A Q G nL kc ks pc (As.reverse ++ stk) lo μ := by
  intro H locs ls hP hD hS hL
  have hF := va_free (wc := sm_wl G μ) hD hS C.2.2.2.2.2.2.1 _ sm_isC
  have hc : ((stk.map (sm_cv G.1)).map fun v => v.category).sum ≤ 8 := by
    have e1 : (stk.map (sm_cv G.1)).map (fun v => v.category) = stk.map sm_cat := by rw [List.map_map]; exact List.map_congr_left fun v _ => sm_cat_cv G.1 v
    rw [e1]; exact hcat
  have hrun := va_runS (H := H) (locs := locs) (cells := kc) (slots := ks) (g := F0 m pc ls ((As.reverse ++ stk).map (sm_cv G.1))) (rest := stk.map (sm_cv G.1)) (As := As.map (sm_cv G.1)) (e := e) (below := below) (meth := meth) (nL := nL) ⟨C.1, C.2.1, C.2.2.1, C.2.2.2.1, C.2.2.2.2.1⟩ (hM G H.size) ⟨sm_callB C ok.1 hrc hrs hR, C.2.2.2.2.1 _ ok.2⟩ ⟨sm_blind, sm_pre C (As := As) hP hD hS⟩ rfl (List.length_map (as := As) (sm_cv G.1) |>.trans hn) hL.1 (by simp [List.map_reverse, sm_cv]) (lv_room hc) hd hf
  refine va_callv hrun hS (fun q _ h => hF q h) hF (fun u t H1 locs1 ht hvm hw hB hz1 hk1 hS1 => ?_)
  obtain ⟨hP1, hD1⟩ := sm_back C hP hD hS ht hk1 hB
  exact kk u hw H1 locs1 ls hP1 hD1 hS1 hL
theorem sr_callVR (C : sm_C p s m args c cc nL own A G) {ix n yL : Nat} {y : MethodName} {yc : ByteArray} {ret : Option FieldType} {rm : Room} (As : List sm_V) {k ci N : Nat} {fl : List Nat} {T : u_T} {K : Option Nat → sm_Mem → Prop} (hM : sm_MR l y yc yL ret rm (sm_R k :: As) μ K) (ok : sm_okV own ix y yc yL ret n) (hl : sm_lays[k]? = some (1, ci, fl)) (hcl : sm_cls[ci]? = some (y.cls, T, N)) (hn : As.length = n) (hrc : rm.cells = 0) (hrs : rm.slots = 0) (hR : rm.frames + 1 ≤ R.frames ∧ 8 + (yL + 11) + rm.locals ≤ R.locals) (hcat : (stk.map sm_cat).sum ≤ 8) (hf : kc ≤ R.cells ∧ ks ≤ R.slots) (hd : decode cc pc = .ok (.invokevirtual ix, 3)) (kk : ∀ (r : Option Nat) (μ2 : sm_Mem), K r μ2 → sm_W p l e R s m args below meth c A Q G nL kc ks (pc + 3) (sm_ro r :: stk) lo μ2) : sm_W p l e R s m args below meth c A Q G nL kc ks pc (As.reverse ++ sm_R k :: stk) lo μ := by
  intro H locs ls hP hD hS hL
  have hF := va_free (wc := sm_wl G μ) hD hS C.2.2.2.2.2.2.1 _ sm_isC
  have hc : ((stk.map (sm_cv G.1)).map fun v => v.category).sum ≤ 8 := by
    have e1 : (stk.map (sm_cv G.1)).map (fun v => v.category) = stk.map sm_cat := by rw [List.map_map]; exact List.map_congr_left fun v _ => sm_cat_cv G.1 v
    rw [e1]; exact hcat
  have hrun := va_runV (H := H) (locs := locs) (cells := kc) (slots := ks) (g := F0 m pc ls ((As.reverse ++ sm_R k :: stk).map (sm_cv G.1))) (rest := stk.map (sm_cv G.1)) (As := As.map (sm_cv G.1)) (e := e) (below := below) (meth := meth) (nL := nL) ⟨C.1, C.2.1, C.2.2.1, C.2.2.2.1, C.2.2.2.2.1⟩ (hM G H.size) ⟨sm_callB C ok.1 hrc hrs hR, C.2.2.2.2.1 _ ok.2.1, C.2.2.2.2.1 _ ok.2.2⟩ ⟨sm_blind, va_recv C.2.2.2.2.2.1 hP hcl (sm_obj hl), sm_pre C (As := sm_R k :: As) hP hD hS⟩ rfl (List.length_map (as := As) (sm_cv G.1) |>.trans hn) hL.1 (by simp [List.map_reverse, sm_cv]) (lv_room hc) hd hf
  refine va_callq hrun hS (fun q _ h => hF q h) hF (fun r u t H1 locs1 ht hvm hw hB hz1 hk1 hS1 => ?_)
  obtain ⟨hP1, hD1⟩ := sm_back C hP hD hS ht hk1 hB
  obtain ⟨k9, rfl, hw⟩ := hw
  have e1 : va_rf (k9.map G.1) = sm_cv G.1 (sm_ro k9) := by cases k9 <;> rfl
  rw [e1]
  exact kk k9 u hw H1 locs1 ls hP1 hD1 hS1 hL
theorem sr_mmax (C : sm_C p s m args c cc nL own A G) {ix : Nat} {x y : Int32} (hw : Cond.methodLink own ix Lib.Math.max.name ∈ sm_tbl) (hw2 : Cond.static Lib.Math.max.name ∈ sm_tbl) (hw3 : Cond.initialized "java/lang/Math" ∈ sm_tbl) (hw4 : Cond.code Lib.Math.max.name Lib.Math.max.code 2 (some .int) ∈ sm_tbl) (hfr : 1 ≤ R.frames) (hlo : (stk.map sm_cat).sum + 13 ≤ R.locals) (hf : kc ≤ R.cells ∧ ks ≤ R.slots) (hd : decode cc pc = .ok (.invokestatic ix, 3)) (k : sm_W p l e R s m args below meth c A Q G nL kc ks (pc + 3) (sm_I (if x < y then y else x) :: stk) lo μ) : sm_W p l e R s m args below meth c A Q G nL kc ks pc (sm_I y :: sm_I x :: stk) lo μ := by
  intro H locs ls hP hD hS hL
  have e1 : (stk.map (sm_cv G.1)).map (fun v => v.category) = stk.map sm_cat := by rw [List.map_map]; exact List.map_congr_left fun v _ => sm_cat_cv G.1 v
  exact va_mmax C.1 C.2.1 (C.2.2.1.trans hL.1.symm) C.2.2.2.1 (C.2.2.2.2.1 _ hw) (C.2.2.2.2.1 _ hw2) (C.2.2.2.2.1 _ hw3) (C.2.2.2.2.1 _ hw4) hfr (by rw [e1]; exact hlo) hf.1 hf.2 hd (k H locs ls hP hD hS hL)
theorem sr_mmin (C : sm_C p s m args c cc nL own A G) {ix : Nat} {x y : Int32} (hw : Cond.methodLink own ix Lib.Math.min.name ∈ sm_tbl) (hw2 : Cond.static Lib.Math.min.name ∈ sm_tbl) (hw3 : Cond.initialized "java/lang/Math" ∈ sm_tbl) (hw4 : Cond.code Lib.Math.min.name Lib.Math.min.code 2 (some .int) ∈ sm_tbl) (hfr : 1 ≤ R.frames) (hlo : (stk.map sm_cat).sum + 13 ≤ R.locals) (hf : kc ≤ R.cells ∧ ks ≤ R.slots) (hd : decode cc pc = .ok (.invokestatic ix, 3)) (k : sm_W p l e R s m args below meth c A Q G nL kc ks (pc + 3) (sm_I (if y < x then y else x) :: stk) lo μ) : sm_W p l e R s m args below meth c A Q G nL kc ks pc (sm_I y :: sm_I x :: stk) lo μ := by
  intro H locs ls hP hD hS hL
  have e1 : (stk.map (sm_cv G.1)).map (fun v => v.category) = stk.map sm_cat := by rw [List.map_map]; exact List.map_congr_left fun v _ => sm_cat_cv G.1 v
  exact va_mmin C.1 C.2.1 (C.2.2.1.trans hL.1.symm) C.2.2.2.1 (C.2.2.2.2.1 _ hw) (C.2.2.2.2.1 _ hw2) (C.2.2.2.2.1 _ hw3) (C.2.2.2.2.1 _ hw4) hfr (by rw [e1]; exact hlo) hf.1 hf.2 hd (k H locs ls hP hD hS hL)
theorem sr_copy (C : sm_C p s m args c cc nL own A G) {ix k0 k1 n0 n1 : Nat} {f0 f1 : List Nat} {sp dp n : Int32} (hl0 : sm_lays[k0]? = some (0, n0, f0)) (hl1 : sm_lays[k1]? = some (0, n1, f1)) (h1 : ¬ sp < 0) (h2 : ¬ dp < 0) (h3 : ¬ n < 0) (h4 : sp.toNatClampNeg + n.toNatClampNeg ≤ n0) (h5 : dp.toNatClampNeg + n.toNatClampNeg ≤ n1) (hw : Cond.methodLink own ix arraycopyName ∈ sm_tbl) (hw1 : Cond.native arraycopyName ∈ sm_tbl) (hw2 : Cond.static arraycopyName ∈ sm_tbl) (hw3 : Cond.initialized "java/lang/System" ∈ sm_tbl) (hfr : 1 ≤ R.frames) (hlo : (stk.map sm_cat).sum + (nativeFrameWords "java/lang/System" "arraycopy" 5 + 11) ≤ R.locals) (hd : decode cc pc = .ok (.invokestatic ix, 3)) (k : sm_W p l e R s m args below meth c A Q G nL kc ks (pc + 3) stk lo (sm_cpy μ k0 k1 sp.toNatClampNeg dp.toNatClampNeg n.toNatClampNeg)) : sm_W p l e R s m args below meth c A Q G nL kc ks pc (sm_I n :: sm_I dp :: sm_R k1 :: sm_I sp :: sm_R k0 :: stk) lo μ := by
  intro H locs ls hP hD hS hL
  have e1 : (stk.map (sm_cv G.1)).map (fun v => v.category) = stk.map sm_cat := by rw [List.map_map]; exact List.map_congr_left fun v _ => sm_cat_cv G.1 v
  refine va_copyi C.1 C.2.1 (C.2.2.1.trans hL.1.symm) C.2.2.2.1 (C.2.2.2.2.1 _ hw) (C.2.2.2.2.1 _ hw1) (C.2.2.2.2.1 _ hw2) (C.2.2.2.2.1 _ hw3) C.2.2.2.2.2.1 hP hD hS k0 k1 0 0 (sm_arr hl0) (sm_arr hl1) rfl rfl rfl h1 h2 h3 h4 h5 (fun _ _ => rfl) hfr (by rw [e1]; exact hlo) hd (fun H1 locs1 hP1 hD1 hS1 => ?_)
  rw [sm_setC hl1] at hP1 hD1
  exact k H1 locs1 ls hP1 hD1 hS1 hL
theorem sr_tabA (C : sm_C p s m args c cc nL own A G) {i : Int32} (hi : vp_in i 7) (hd : decode cc pc = .ok (.iaload, 1)) (k2 : sm_W p l e R s m args below meth c A Q G nL kc ks (pc + 1) (sm_I (sm_above.getD i.toNatClampNeg 0) :: stk) lo μ) : sm_W p l e R s m args below meth c A Q G nL kc ks pc (sm_I i :: sm_R 110 :: stk) lo μ := by
  intro H locs ls hP hD hS hL
  exact va_ti C.1 C.2.1 C.2.2.2.2.2.2.2.1.2.1 hS hi rfl hd (k2 H locs ls hP hD hS hL)
theorem sr_tabB (C : sm_C p s m args c cc nL own A G) {i : Int32} (hi : vp_in i 28) (hd : decode cc pc = .ok (.iaload, 1)) (k2 : sm_W p l e R s m args below meth c A Q G nL kc ks (pc + 1) (sm_I (sm_bodies.getD i.toNatClampNeg 0) :: stk) lo μ) : sm_W p l e R s m args below meth c A Q G nL kc ks pc (sm_I i :: sm_R 111 :: stk) lo μ := by
  intro H locs ls hP hD hS hL
  exact va_ti C.1 C.2.1 C.2.2.2.2.2.2.2.1.2.2.2.1 hS hi rfl hd (k2 H locs ls hP hD hS hL)
theorem sm_vin {i : Int32} {n : Nat} (h : decide (¬ (i < 0 ∨ n ≤ i.toNatClampNeg)) = true) : vp_in i n := of_decide_eq_true (p := ¬ (i < 0 ∨ n ≤ i.toNatClampNeg)) h
theorem sm_ne {x v : Int32} {z : Int} (h : ¬ x = v) (hv : v.toInt = z) : x.toInt ≠ z := fun q => h (Int32.toInt_inj.mp (q.trans hv.symm))
theorem sr_ialdJ (C : sm_C p s m args c cc nL own A G) {k n j : Nat} {fl : List Nat} (hl : sm_lays[k]? = some (0, n, fl)) {i : Int32} (hi : vp_in i n) (hj : i.toNatClampNeg = j) (hd : decode cc pc = .ok (.iaload, 1)) (k2 : sm_W p l e R s m args below meth c A Q G nL kc ks (pc + 1) (sm_I (μ k j) :: stk) lo μ) : sm_W p l e R s m args below meth c A Q G nL kc ks pc (sm_I i :: sm_R k :: stk) lo μ := by
  subst hj
  exact sr_iald C hl hi hd k2
theorem sr_iastJ (C : sm_C p s m args c cc nL own A G) {k n j : Nat} {fl : List Nat} (hl : sm_lays[k]? = some (0, n, fl)) {i x : Int32} (hi : vp_in i n) (hj : i.toNatClampNeg = j) (hd : decode cc pc = .ok (.iastore, 1)) (k2 : sm_W p l e R s m args below meth c A Q G nL kc ks (pc + 1) stk lo (sm_st μ k j x)) : sm_W p l e R s m args below meth c A Q G nL kc ks pc (sm_I x :: sm_I i :: sm_R k :: stk) lo μ := by
  subst hj
  exact sr_iast C hl hi hd k2
end SMC
def sm_lp0 (body : (sm_Mem → Prop) → sm_Mem → Prop) (μ : sm_Mem) : Prop := ∃ I : Nat → sm_Mem → Prop, (∃ n, I n μ) ∧ ∀ (n : Nat) (μ : sm_Mem), I n μ → body (fun μ => ∃ k, k < n ∧ I k μ) μ
theorem sm_lp0_sound {body : (sm_Mem → Prop) → sm_Mem → Prop} {P : sm_Mem → Prop} (hb : ∀ (J : sm_Mem → Prop) (μ : sm_Mem), (∀ (μ : sm_Mem), J μ → P μ) → body J μ → P μ) { μ : sm_Mem} (h : sm_lp0 body μ) : P μ := by
  obtain ⟨I, ⟨n, hn⟩, hI⟩ := h
  have key : ∀ (n : Nat) (μ : sm_Mem), I n μ → P μ := by
    intro n
    induction n using Nat.strongRecOn with
    | _ n ih =>
      intro μ hy
      exact hb _ μ (fun μ hz => by obtain ⟨k, hk, hz⟩ := hz; exact ih k hk μ hz) (hI n μ hy)
  exact key n μ hn
def sm_lp1 (body : (Int32 → sm_Mem → Prop) → Int32 → sm_Mem → Prop) (a0 : Int32) (μ : sm_Mem) : Prop := ∃ I : Nat → Int32 → sm_Mem → Prop, (∃ n, I n a0 μ) ∧ ∀ (n : Nat) (a0 : Int32) (μ : sm_Mem), I n a0 μ → body (fun a0 μ => ∃ k, k < n ∧ I k a0 μ) a0 μ
theorem sm_lp1_sound {body : (Int32 → sm_Mem → Prop) → Int32 → sm_Mem → Prop} {P : Int32 → sm_Mem → Prop} (hb : ∀ (J : Int32 → sm_Mem → Prop) (a0 : Int32) (μ : sm_Mem), (∀ (a0 : Int32) (μ : sm_Mem), J a0 μ → P a0 μ) → body J a0 μ → P a0 μ) {a0 : Int32} { μ : sm_Mem} (h : sm_lp1 body a0 μ) : P a0 μ := by
  obtain ⟨I, ⟨n, hn⟩, hI⟩ := h
  have key : ∀ (n : Nat) (a0 : Int32) (μ : sm_Mem), I n a0 μ → P a0 μ := by
    intro n
    induction n using Nat.strongRecOn with
    | _ n ih =>
      intro a0 μ hy
      exact hb _ a0 μ (fun a0 μ hz => by obtain ⟨k, hk, hz⟩ := hz; exact ih k hk a0 μ hz) (hI n a0 μ hy)
  exact key n a0 μ hn
def sm_lp2 (body : (Int32 → Int32 → sm_Mem → Prop) → Int32 → Int32 → sm_Mem → Prop) (a0 a1 : Int32) (μ : sm_Mem) : Prop := ∃ I : Nat → Int32 → Int32 → sm_Mem → Prop, (∃ n, I n a0 a1 μ) ∧ ∀ (n : Nat) (a0 a1 : Int32) (μ : sm_Mem), I n a0 a1 μ → body (fun a0 a1 μ => ∃ k, k < n ∧ I k a0 a1 μ) a0 a1 μ
theorem sm_lp2_sound {body : (Int32 → Int32 → sm_Mem → Prop) → Int32 → Int32 → sm_Mem → Prop} {P : Int32 → Int32 → sm_Mem → Prop} (hb : ∀ (J : Int32 → Int32 → sm_Mem → Prop) (a0 a1 : Int32) (μ : sm_Mem), (∀ (a0 a1 : Int32) (μ : sm_Mem), J a0 a1 μ → P a0 a1 μ) → body J a0 a1 μ → P a0 a1 μ) {a0 a1 : Int32} { μ : sm_Mem} (h : sm_lp2 body a0 a1 μ) : P a0 a1 μ := by
  obtain ⟨I, ⟨n, hn⟩, hI⟩ := h
  have key : ∀ (n : Nat) (a0 a1 : Int32) (μ : sm_Mem), I n a0 a1 μ → P a0 a1 μ := by
    intro n
    induction n using Nat.strongRecOn with
    | _ n ih =>
      intro a0 a1 μ hy
      exact hb _ a0 a1 μ (fun a0 a1 μ hz => by obtain ⟨k, hk, hz⟩ := hz; exact ih k hk a0 a1 μ hz) (hI n a0 a1 μ hy)
  exact key n a0 a1 μ hn
def sm_lp3 (body : (Int32 → Int32 → Int32 → sm_Mem → Prop) → Int32 → Int32 → Int32 → sm_Mem → Prop) (a0 a1 a2 : Int32) (μ : sm_Mem) : Prop := ∃ I : Nat → Int32 → Int32 → Int32 → sm_Mem → Prop, (∃ n, I n a0 a1 a2 μ) ∧ ∀ (n : Nat) (a0 a1 a2 : Int32) (μ : sm_Mem), I n a0 a1 a2 μ → body (fun a0 a1 a2 μ => ∃ k, k < n ∧ I k a0 a1 a2 μ) a0 a1 a2 μ
theorem sm_lp3_sound {body : (Int32 → Int32 → Int32 → sm_Mem → Prop) → Int32 → Int32 → Int32 → sm_Mem → Prop} {P : Int32 → Int32 → Int32 → sm_Mem → Prop} (hb : ∀ (J : Int32 → Int32 → Int32 → sm_Mem → Prop) (a0 a1 a2 : Int32) (μ : sm_Mem), (∀ (a0 a1 a2 : Int32) (μ : sm_Mem), J a0 a1 a2 μ → P a0 a1 a2 μ) → body J a0 a1 a2 μ → P a0 a1 a2 μ) {a0 a1 a2 : Int32} { μ : sm_Mem} (h : sm_lp3 body a0 a1 a2 μ) : P a0 a1 a2 μ := by
  obtain ⟨I, ⟨n, hn⟩, hI⟩ := h
  have key : ∀ (n : Nat) (a0 a1 a2 : Int32) (μ : sm_Mem), I n a0 a1 a2 μ → P a0 a1 a2 μ := by
    intro n
    induction n using Nat.strongRecOn with
    | _ n ih =>
      intro a0 a1 a2 μ hy
      exact hb _ a0 a1 a2 μ (fun a0 a1 a2 μ hz => by obtain ⟨k, hk, hz⟩ := hz; exact ih k hk a0 a1 a2 μ hz) (hI n a0 a1 a2 μ hy)
  exact key n a0 a1 a2 μ hn
def sm_lp4 (body : (Int32 → Int32 → Int32 → Int32 → sm_Mem → Prop) → Int32 → Int32 → Int32 → Int32 → sm_Mem → Prop) (a0 a1 a2 a3 : Int32) (μ : sm_Mem) : Prop := ∃ I : Nat → Int32 → Int32 → Int32 → Int32 → sm_Mem → Prop, (∃ n, I n a0 a1 a2 a3 μ) ∧ ∀ (n : Nat) (a0 a1 a2 a3 : Int32) (μ : sm_Mem), I n a0 a1 a2 a3 μ → body (fun a0 a1 a2 a3 μ => ∃ k, k < n ∧ I k a0 a1 a2 a3 μ) a0 a1 a2 a3 μ
theorem sm_lp4_sound {body : (Int32 → Int32 → Int32 → Int32 → sm_Mem → Prop) → Int32 → Int32 → Int32 → Int32 → sm_Mem → Prop} {P : Int32 → Int32 → Int32 → Int32 → sm_Mem → Prop} (hb : ∀ (J : Int32 → Int32 → Int32 → Int32 → sm_Mem → Prop) (a0 a1 a2 a3 : Int32) (μ : sm_Mem), (∀ (a0 a1 a2 a3 : Int32) (μ : sm_Mem), J a0 a1 a2 a3 μ → P a0 a1 a2 a3 μ) → body J a0 a1 a2 a3 μ → P a0 a1 a2 a3 μ) {a0 a1 a2 a3 : Int32} { μ : sm_Mem} (h : sm_lp4 body a0 a1 a2 a3 μ) : P a0 a1 a2 a3 μ := by
  obtain ⟨I, ⟨n, hn⟩, hI⟩ := h
  have key : ∀ (n : Nat) (a0 a1 a2 a3 : Int32) (μ : sm_Mem), I n a0 a1 a2 a3 μ → P a0 a1 a2 a3 μ := by
    intro n
    induction n using Nat.strongRecOn with
    | _ n ih =>
      intro a0 a1 a2 a3 μ hy
      exact hb _ a0 a1 a2 a3 μ (fun a0 a1 a2 a3 μ hz => by obtain ⟨k, hk, hz⟩ := hz; exact ih k hk a0 a1 a2 a3 μ hz) (hI n a0 a1 a2 a3 μ hy)
  exact key n a0 a1 a2 a3 μ hn
def sm_lp5 (body : (Int32 → Int32 → Int32 → Int32 → Int32 → sm_Mem → Prop) → Int32 → Int32 → Int32 → Int32 → Int32 → sm_Mem → Prop) (a0 a1 a2 a3 a4 : Int32) (μ : sm_Mem) : Prop := ∃ I : Nat → Int32 → Int32 → Int32 → Int32 → Int32 → sm_Mem → Prop, (∃ n, I n a0 a1 a2 a3 a4 μ) ∧ ∀ (n : Nat) (a0 a1 a2 a3 a4 : Int32) (μ : sm_Mem), I n a0 a1 a2 a3 a4 μ → body (fun a0 a1 a2 a3 a4 μ => ∃ k, k < n ∧ I k a0 a1 a2 a3 a4 μ) a0 a1 a2 a3 a4 μ
theorem sm_lp5_sound {body : (Int32 → Int32 → Int32 → Int32 → Int32 → sm_Mem → Prop) → Int32 → Int32 → Int32 → Int32 → Int32 → sm_Mem → Prop} {P : Int32 → Int32 → Int32 → Int32 → Int32 → sm_Mem → Prop} (hb : ∀ (J : Int32 → Int32 → Int32 → Int32 → Int32 → sm_Mem → Prop) (a0 a1 a2 a3 a4 : Int32) (μ : sm_Mem), (∀ (a0 a1 a2 a3 a4 : Int32) (μ : sm_Mem), J a0 a1 a2 a3 a4 μ → P a0 a1 a2 a3 a4 μ) → body J a0 a1 a2 a3 a4 μ → P a0 a1 a2 a3 a4 μ) {a0 a1 a2 a3 a4 : Int32} { μ : sm_Mem} (h : sm_lp5 body a0 a1 a2 a3 a4 μ) : P a0 a1 a2 a3 a4 μ := by
  obtain ⟨I, ⟨n, hn⟩, hI⟩ := h
  have key : ∀ (n : Nat) (a0 a1 a2 a3 a4 : Int32) (μ : sm_Mem), I n a0 a1 a2 a3 a4 μ → P a0 a1 a2 a3 a4 μ := by
    intro n
    induction n using Nat.strongRecOn with
    | _ n ih =>
      intro a0 a1 a2 a3 a4 μ hy
      exact hb _ a0 a1 a2 a3 a4 μ (fun a0 a1 a2 a3 a4 μ hz => by obtain ⟨k, hk, hz⟩ := hz; exact ih k hk a0 a1 a2 a3 a4 μ hz) (hI n a0 a1 a2 a3 a4 μ hy)
  exact key n a0 a1 a2 a3 a4 μ hn
def sm_lp6 (body : (Int32 → Int32 → Int32 → Int32 → Int32 → Int32 → sm_Mem → Prop) → Int32 → Int32 → Int32 → Int32 → Int32 → Int32 → sm_Mem → Prop) (a0 a1 a2 a3 a4 a5 : Int32) (μ : sm_Mem) : Prop := ∃ I : Nat → Int32 → Int32 → Int32 → Int32 → Int32 → Int32 → sm_Mem → Prop, (∃ n, I n a0 a1 a2 a3 a4 a5 μ) ∧ ∀ (n : Nat) (a0 a1 a2 a3 a4 a5 : Int32) (μ : sm_Mem), I n a0 a1 a2 a3 a4 a5 μ → body (fun a0 a1 a2 a3 a4 a5 μ => ∃ k, k < n ∧ I k a0 a1 a2 a3 a4 a5 μ) a0 a1 a2 a3 a4 a5 μ
theorem sm_lp6_sound {body : (Int32 → Int32 → Int32 → Int32 → Int32 → Int32 → sm_Mem → Prop) → Int32 → Int32 → Int32 → Int32 → Int32 → Int32 → sm_Mem → Prop} {P : Int32 → Int32 → Int32 → Int32 → Int32 → Int32 → sm_Mem → Prop} (hb : ∀ (J : Int32 → Int32 → Int32 → Int32 → Int32 → Int32 → sm_Mem → Prop) (a0 a1 a2 a3 a4 a5 : Int32) (μ : sm_Mem), (∀ (a0 a1 a2 a3 a4 a5 : Int32) (μ : sm_Mem), J a0 a1 a2 a3 a4 a5 μ → P a0 a1 a2 a3 a4 a5 μ) → body J a0 a1 a2 a3 a4 a5 μ → P a0 a1 a2 a3 a4 a5 μ) {a0 a1 a2 a3 a4 a5 : Int32} { μ : sm_Mem} (h : sm_lp6 body a0 a1 a2 a3 a4 a5 μ) : P a0 a1 a2 a3 a4 a5 μ := by
  obtain ⟨I, ⟨n, hn⟩, hI⟩ := h
  have key : ∀ (n : Nat) (a0 a1 a2 a3 a4 a5 : Int32) (μ : sm_Mem), I n a0 a1 a2 a3 a4 a5 μ → P a0 a1 a2 a3 a4 a5 μ := by
    intro n
    induction n using Nat.strongRecOn with
    | _ n ih =>
      intro a0 a1 a2 a3 a4 a5 μ hy
      exact hb _ a0 a1 a2 a3 a4 a5 μ (fun a0 a1 a2 a3 a4 a5 μ hz => by obtain ⟨k, hk, hz⟩ := hz; exact ih k hk a0 a1 a2 a3 a4 a5 μ hz) (hI n a0 a1 a2 a3 a4 a5 μ hy)
  exact key n a0 a1 a2 a3 a4 a5 μ hn
def isText (k : Nat) : Prop := sm_lays[k]? = some (1, 4, [k + 3, k + 4, k + 5, 0]) ∧ sm_lays[k + 1]? = some (0, 50, []) ∧ sm_lays[k + 2]? = some (0, 50, []) ∧ sm_lays[k + 3]? = some (0, 50, [])
def isSheet (k : Nat) : Prop := sm_lays[k]? = some (1, 3, [k + 3, 0, 0]) ∧ sm_lays[k + 1]? = some (0, 40, [])
def isArr (k n : Nat) : Prop := sm_lays[k]? = some (0, n, [])
def sm_find (x : Int32) : List Int32 → Int32 → Int32
  | [], _ => -1
  | y :: ys, i => if x = y then i else sm_find x ys (i + 1)
/-- where a sign stands in the c-th of the three texts, -1: nowhere -/
def sm_idx (c : Nat) (x : Int32) : Int32 := sm_find x (sm_sbyt.getD c []) 0
end
