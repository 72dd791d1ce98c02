section
-- ===== PART A: goes FIRST, ahead of the names: the tables' words, and 'selects' of the private methods out of them =====
/-- a private method of a class that the tables say can be made, by its rows of tables_1 -/
def lw_okq (q : MethodName × Nat) : Prop := (q.1.cls ≠ "java/lang/invoke/MethodHandle" ∧ q.1.cls ≠ "java/lang/invoke/VarHandle") ∧ Cond.instantiable q.1.cls q.2 ∈ tables_1 ∧ Cond.privateMethod q.1 ∈ tables_1 ∧ Cond.instanceMethod q.1 ∈ tables_1
theorem lw_p0 : lw_okq (⟨"SnowMoney", "error", "(I)I"⟩, 8) := ⟨⟨by decide +kernel, by decide +kernel⟩, List.mem_of_getElem? (i := 20) (by decide +kernel), List.mem_of_getElem? (i := 276) (by decide +kernel), List.mem_of_getElem? (i := 277) (by decide +kernel)⟩
theorem lw_p1 : lw_okq (⟨"SnowMoney$Reader", "readOr", "(I)Z"⟩, 5) := ⟨⟨by decide +kernel, by decide +kernel⟩, List.mem_of_getElem? (i := 173) (by decide +kernel), List.mem_of_getElem? (i := 424) (by decide +kernel), List.mem_of_getElem? (i := 425) (by decide +kernel)⟩
theorem lw_p2 : lw_okq (⟨"SnowMoney$Reader", "readAnd", "(I)Z"⟩, 5) := ⟨⟨by decide +kernel, by decide +kernel⟩, List.mem_of_getElem? (i := 173) (by decide +kernel), List.mem_of_getElem? (i := 428) (by decide +kernel), List.mem_of_getElem? (i := 429) (by decide +kernel)⟩
theorem lw_p3 : lw_okq (⟨"SnowMoney$Reader", "readComparison", "(I)Z"⟩, 5) := ⟨⟨by decide +kernel, by decide +kernel⟩, List.mem_of_getElem? (i := 173) (by decide +kernel), List.mem_of_getElem? (i := 432) (by decide +kernel), List.mem_of_getElem? (i := 433) (by decide +kernel)⟩
theorem lw_p4 : lw_okq (⟨"SnowMoney$Reader", "readSum", "(I)Z"⟩, 5) := ⟨⟨by decide +kernel, by decide +kernel⟩, List.mem_of_getElem? (i := 173) (by decide +kernel), List.mem_of_getElem? (i := 436) (by decide +kernel), List.mem_of_getElem? (i := 437) (by decide +kernel)⟩
theorem lw_p5 : lw_okq (⟨"SnowMoney$Reader", "readProduct", "(I)Z"⟩, 5) := ⟨⟨by decide +kernel, by decide +kernel⟩, List.mem_of_getElem? (i := 173) (by decide +kernel), List.mem_of_getElem? (i := 440) (by decide +kernel), List.mem_of_getElem? (i := 441) (by decide +kernel)⟩
theorem lw_p6 : lw_okq (⟨"SnowMoney$Reader", "readPart", "(I)Z"⟩, 5) := ⟨⟨by decide +kernel, by decide +kernel⟩, List.mem_of_getElem? (i := 173) (by decide +kernel), List.mem_of_getElem? (i := 444) (by decide +kernel), List.mem_of_getElem? (i := 445) (by decide +kernel)⟩
theorem lw_p7 : lw_okq (⟨"SnowMoney$Reader", "next", "()I"⟩, 5) := ⟨⟨by decide +kernel, by decide +kernel⟩, List.mem_of_getElem? (i := 173) (by decide +kernel), List.mem_of_getElem? (i := 448) (by decide +kernel), List.mem_of_getElem? (i := 449) (by decide +kernel)⟩
theorem lw_p8 : lw_okq (⟨"SnowMoney$Reader", "readNumber", "()V"⟩, 5) := ⟨⟨by decide +kernel, by decide +kernel⟩, List.mem_of_getElem? (i := 173) (by decide +kernel), List.mem_of_getElem? (i := 455) (by decide +kernel), List.mem_of_getElem? (i := 456) (by decide +kernel)⟩
theorem lw_p9 : lw_okq (⟨"SnowMoney$Reader", "readDenied", "(I)Z"⟩, 5) := ⟨⟨by decide +kernel, by decide +kernel⟩, List.mem_of_getElem? (i := 173) (by decide +kernel), List.mem_of_getElem? (i := 545) (by decide +kernel), List.mem_of_getElem? (i := 546) (by decide +kernel)⟩
theorem lw_p10 : lw_okq (⟨"SnowMoney$Reader", "readClosed", "(I)Z"⟩, 5) := ⟨⟨by decide +kernel, by decide +kernel⟩, List.mem_of_getElem? (i := 173) (by decide +kernel), List.mem_of_getElem? (i := 549) (by decide +kernel), List.mem_of_getElem? (i := 550) (by decide +kernel)⟩
theorem lw_p11 : lw_okq (⟨"SnowMoney", "pass", "(I)V"⟩, 8) := ⟨⟨by decide +kernel, by decide +kernel⟩, List.mem_of_getElem? (i := 20) (by decide +kernel), List.mem_of_getElem? (i := 568) (by decide +kernel), List.mem_of_getElem? (i := 569) (by decide +kernel)⟩
theorem lw_p12 : lw_okq (⟨"SnowMoney$Foresight", "feel", "(III)V"⟩, 9) := ⟨⟨by decide +kernel, by decide +kernel⟩, List.mem_of_getElem? (i := 137) (by decide +kernel), List.mem_of_getElem? (i := 581) (by decide +kernel), List.mem_of_getElem? (i := 582) (by decide +kernel)⟩
theorem lw_p13 : lw_okq (⟨"SnowMoney$Foresight", "melt", "(IIII)I"⟩, 9) := ⟨⟨by decide +kernel, by decide +kernel⟩, List.mem_of_getElem? (i := 137) (by decide +kernel), List.mem_of_getElem? (i := 587) (by decide +kernel), List.mem_of_getElem? (i := 588) (by decide +kernel)⟩
theorem lw_p14 : lw_okq (⟨"SnowMoney$Foresight", "hoursUntilGone", "(I)I"⟩, 9) := ⟨⟨by decide +kernel, by decide +kernel⟩, List.mem_of_getElem? (i := 137) (by decide +kernel), List.mem_of_getElem? (i := 623) (by decide +kernel), List.mem_of_getElem? (i := 624) (by decide +kernel)⟩
theorem lw_p15 : lw_okq (⟨"SnowMoney$Foresight", "sumSets", "(I)I"⟩, 9) := ⟨⟨by decide +kernel, by decide +kernel⟩, List.mem_of_getElem? (i := 137) (by decide +kernel), List.mem_of_getElem? (i := 655) (by decide +kernel), List.mem_of_getElem? (i := 656) (by decide +kernel)⟩
def lw_privs_1 : List (MethodName × Nat) := [(⟨"SnowMoney", "error", "(I)I"⟩, 8), (⟨"SnowMoney$Reader", "readOr", "(I)Z"⟩, 5), (⟨"SnowMoney$Reader", "readAnd", "(I)Z"⟩, 5), (⟨"SnowMoney$Reader", "readComparison", "(I)Z"⟩, 5), (⟨"SnowMoney$Reader", "readSum", "(I)Z"⟩, 5), (⟨"SnowMoney$Reader", "readProduct", "(I)Z"⟩, 5), (⟨"SnowMoney$Reader", "readPart", "(I)Z"⟩, 5), (⟨"SnowMoney$Reader", "next", "()I"⟩, 5), (⟨"SnowMoney$Reader", "readNumber", "()V"⟩, 5), (⟨"SnowMoney$Reader", "readDenied", "(I)Z"⟩, 5), (⟨"SnowMoney$Reader", "readClosed", "(I)Z"⟩, 5), (⟨"SnowMoney", "pass", "(I)V"⟩, 8), (⟨"SnowMoney$Foresight", "feel", "(III)V"⟩, 9), (⟨"SnowMoney$Foresight", "melt", "(IIII)I"⟩, 9), (⟨"SnowMoney$Foresight", "hoursUntilGone", "(I)I"⟩, 9), (⟨"SnowMoney$Foresight", "sumSets", "(I)I"⟩, 9)]
theorem lw_r1 : ∀ q ∈ lw_privs_1, lw_okq q := List.forall_mem_cons.mpr ⟨lw_p0, List.forall_mem_cons.mpr ⟨lw_p1, List.forall_mem_cons.mpr ⟨lw_p2, List.forall_mem_cons.mpr ⟨lw_p3, List.forall_mem_cons.mpr ⟨lw_p4, List.forall_mem_cons.mpr ⟨lw_p5, List.forall_mem_cons.mpr ⟨lw_p6, List.forall_mem_cons.mpr ⟨lw_p7, List.forall_mem_cons.mpr ⟨lw_p8, List.forall_mem_cons.mpr ⟨lw_p9, List.forall_mem_cons.mpr ⟨lw_p10, List.forall_mem_cons.mpr ⟨lw_p11, List.forall_mem_cons.mpr ⟨lw_p12, List.forall_mem_cons.mpr ⟨lw_p13, List.forall_mem_cons.mpr ⟨lw_p14, List.forall_mem_cons.mpr ⟨lw_p15, fun _ h => absurd h List.not_mem_nil⟩⟩⟩⟩⟩⟩⟩⟩⟩⟩⟩⟩⟩⟩⟩⟩
theorem lw_p16 : lw_okq (⟨"SnowMoney$Foresight", "isBetterSet", "(I)Z"⟩, 9) := ⟨⟨by decide +kernel, by decide +kernel⟩, List.mem_of_getElem? (i := 137) (by decide +kernel), List.mem_of_getElem? (i := 659) (by decide +kernel), List.mem_of_getElem? (i := 660) (by decide +kernel)⟩
theorem lw_p17 : lw_okq (⟨"SnowMoney$Foresight", "walk", "(IIIII)V"⟩, 9) := ⟨⟨by decide +kernel, by decide +kernel⟩, List.mem_of_getElem? (i := 137) (by decide +kernel), List.mem_of_getElem? (i := 690) (by decide +kernel), List.mem_of_getElem? (i := 691) (by decide +kernel)⟩
theorem lw_p18 : lw_okq (⟨"SnowMoney", "rowOf", "(I)LSnowMoney$Sheet;"⟩, 8) := ⟨⟨by decide +kernel, by decide +kernel⟩, List.mem_of_getElem? (i := 20) (by decide +kernel), List.mem_of_getElem? (i := 699) (by decide +kernel), List.mem_of_getElem? (i := 700) (by decide +kernel)⟩
theorem lw_p19 : lw_okq (⟨"SnowMoney$Foresight", "kindsThatLeave", "(III)I"⟩, 9) := ⟨⟨by decide +kernel, by decide +kernel⟩, List.mem_of_getElem? (i := 137) (by decide +kernel), List.mem_of_getElem? (i := 716) (by decide +kernel), List.mem_of_getElem? (i := 717) (by decide +kernel)⟩
theorem lw_p20 : lw_okq (⟨"SnowMoney$Voices", "speak", "(IIII)I"⟩, 5) := ⟨⟨by decide +kernel, by decide +kernel⟩, List.mem_of_getElem? (i := 200) (by decide +kernel), List.mem_of_getElem? (i := 760) (by decide +kernel), List.mem_of_getElem? (i := 761) (by decide +kernel)⟩
theorem lw_p21 : lw_okq (⟨"SnowMoney$Voices", "work", "(IIII)I"⟩, 5) := ⟨⟨by decide +kernel, by decide +kernel⟩, List.mem_of_getElem? (i := 200) (by decide +kernel), List.mem_of_getElem? (i := 770) (by decide +kernel), List.mem_of_getElem? (i := 771) (by decide +kernel)⟩
theorem lw_p22 : lw_okq (⟨"SnowMoneyModel", "errs", "(I)I"⟩, 28) := ⟨⟨by decide +kernel, by decide +kernel⟩, List.mem_of_getElem? (i := 853) (by decide +kernel), List.mem_of_getElem? (i := 952) (by decide +kernel), List.mem_of_getElem? (i := 953) (by decide +kernel)⟩
theorem lw_p23 : lw_okq (⟨"SnowMoneyModel", "isPlace", "(I)Z"⟩, 28) := ⟨⟨by decide +kernel, by decide +kernel⟩, List.mem_of_getElem? (i := 853) (by decide +kernel), List.mem_of_getElem? (i := 962) (by decide +kernel), List.mem_of_getElem? (i := 963) (by decide +kernel)⟩
theorem lw_p24 : lw_okq (⟨"SnowMoneyModel", "becomes", "(II)I"⟩, 28) := ⟨⟨by decide +kernel, by decide +kernel⟩, List.mem_of_getElem? (i := 853) (by decide +kernel), List.mem_of_getElem? (i := 966) (by decide +kernel), List.mem_of_getElem? (i := 967) (by decide +kernel)⟩
theorem lw_p25 : lw_okq (⟨"SnowMoneyModel", "notesAt", "(I)I"⟩, 28) := ⟨⟨by decide +kernel, by decide +kernel⟩, List.mem_of_getElem? (i := 853) (by decide +kernel), List.mem_of_getElem? (i := 974) (by decide +kernel), List.mem_of_getElem? (i := 975) (by decide +kernel)⟩
theorem lw_p26 : lw_okq (⟨"SnowMoneyModel", "its", "(II)I"⟩, 28) := ⟨⟨by decide +kernel, by decide +kernel⟩, List.mem_of_getElem? (i := 853) (by decide +kernel), List.mem_of_getElem? (i := 978) (by decide +kernel), List.mem_of_getElem? (i := 979) (by decide +kernel)⟩
theorem lw_p27 : lw_okq (⟨"SnowMoneyModel", "gets", "(III)V"⟩, 28) := ⟨⟨by decide +kernel, by decide +kernel⟩, List.mem_of_getElem? (i := 853) (by decide +kernel), List.mem_of_getElem? (i := 993) (by decide +kernel), List.mem_of_getElem? (i := 994) (by decide +kernel)⟩
theorem lw_p28 : lw_okq (⟨"SnowMoneyModel", "isNote", "(I)Z"⟩, 28) := ⟨⟨by decide +kernel, by decide +kernel⟩, List.mem_of_getElem? (i := 853) (by decide +kernel), List.mem_of_getElem? (i := 1001) (by decide +kernel), List.mem_of_getElem? (i := 1002) (by decide +kernel)⟩
theorem lw_p29 : lw_okq (⟨"SnowMoneyModel", "melts", "(I)I"⟩, 28) := ⟨⟨by decide +kernel, by decide +kernel⟩, List.mem_of_getElem? (i := 853) (by decide +kernel), List.mem_of_getElem? (i := 1005) (by decide +kernel), List.mem_of_getElem? (i := 1006) (by decide +kernel)⟩
theorem lw_p30 : lw_okq (⟨"SnowMoneyModel", "meltsAt", "(II)I"⟩, 28) := ⟨⟨by decide +kernel, by decide +kernel⟩, List.mem_of_getElem? (i := 853) (by decide +kernel), List.mem_of_getElem? (i := 1009) (by decide +kernel), List.mem_of_getElem? (i := 1010) (by decide +kernel)⟩
theorem lw_p31 : lw_okq (⟨"SnowMoneyModel", "lawOf", "(IIII)I"⟩, 28) := ⟨⟨by decide +kernel, by decide +kernel⟩, List.mem_of_getElem? (i := 853) (by decide +kernel), List.mem_of_getElem? (i := 1013) (by decide +kernel), List.mem_of_getElem? (i := 1014) (by decide +kernel)⟩
def lw_privs_2 : List (MethodName × Nat) := [(⟨"SnowMoney$Foresight", "isBetterSet", "(I)Z"⟩, 9), (⟨"SnowMoney$Foresight", "walk", "(IIIII)V"⟩, 9), (⟨"SnowMoney", "rowOf", "(I)LSnowMoney$Sheet;"⟩, 8), (⟨"SnowMoney$Foresight", "kindsThatLeave", "(III)I"⟩, 9), (⟨"SnowMoney$Voices", "speak", "(IIII)I"⟩, 5), (⟨"SnowMoney$Voices", "work", "(IIII)I"⟩, 5), (⟨"SnowMoneyModel", "errs", "(I)I"⟩, 28), (⟨"SnowMoneyModel", "isPlace", "(I)Z"⟩, 28), (⟨"SnowMoneyModel", "becomes", "(II)I"⟩, 28), (⟨"SnowMoneyModel", "notesAt", "(I)I"⟩, 28), (⟨"SnowMoneyModel", "its", "(II)I"⟩, 28), (⟨"SnowMoneyModel", "gets", "(III)V"⟩, 28), (⟨"SnowMoneyModel", "isNote", "(I)Z"⟩, 28), (⟨"SnowMoneyModel", "melts", "(I)I"⟩, 28), (⟨"SnowMoneyModel", "meltsAt", "(II)I"⟩, 28), (⟨"SnowMoneyModel", "lawOf", "(IIII)I"⟩, 28)]
theorem lw_r2 : ∀ q ∈ lw_privs_2, lw_okq q := List.forall_mem_cons.mpr ⟨lw_p16, List.forall_mem_cons.mpr ⟨lw_p17, List.forall_mem_cons.mpr ⟨lw_p18, List.forall_mem_cons.mpr ⟨lw_p19, List.forall_mem_cons.mpr ⟨lw_p20, List.forall_mem_cons.mpr ⟨lw_p21, List.forall_mem_cons.mpr ⟨lw_p22, List.forall_mem_cons.mpr ⟨lw_p23, List.forall_mem_cons.mpr ⟨lw_p24, List.forall_mem_cons.mpr ⟨lw_p25, List.forall_mem_cons.mpr ⟨lw_p26, List.forall_mem_cons.mpr ⟨lw_p27, List.forall_mem_cons.mpr ⟨lw_p28, List.forall_mem_cons.mpr ⟨lw_p29, List.forall_mem_cons.mpr ⟨lw_p30, List.forall_mem_cons.mpr ⟨lw_p31, fun _ h => absurd h List.not_mem_nil⟩⟩⟩⟩⟩⟩⟩⟩⟩⟩⟩⟩⟩⟩⟩⟩
theorem lw_p32 : lw_okq (⟨"SnowMoneyModel", "walks", "(IIII)I"⟩, 28) := ⟨⟨by decide +kernel, by decide +kernel⟩, List.mem_of_getElem? (i := 853) (by decide +kernel), List.mem_of_getElem? (i := 1017) (by decide +kernel), List.mem_of_getElem? (i := 1018) (by decide +kernel)⟩
theorem lw_p33 : lw_okq (⟨"SnowMoneyModel", "whole", "()I"⟩, 28) := ⟨⟨by decide +kernel, by decide +kernel⟩, List.mem_of_getElem? (i := 853) (by decide +kernel), List.mem_of_getElem? (i := 1021) (by decide +kernel), List.mem_of_getElem? (i := 1022) (by decide +kernel)⟩
theorem lw_p34 : lw_okq (⟨"SnowMoneyModel", "both", "()I"⟩, 28) := ⟨⟨by decide +kernel, by decide +kernel⟩, List.mem_of_getElem? (i := 853) (by decide +kernel), List.mem_of_getElem? (i := 1025) (by decide +kernel), List.mem_of_getElem? (i := 1026) (by decide +kernel)⟩
theorem lw_p35 : lw_okq (⟨"SnowMoneyModel", "compared", "()I"⟩, 28) := ⟨⟨by decide +kernel, by decide +kernel⟩, List.mem_of_getElem? (i := 853) (by decide +kernel), List.mem_of_getElem? (i := 1029) (by decide +kernel), List.mem_of_getElem? (i := 1030) (by decide +kernel)⟩
theorem lw_p36 : lw_okq (⟨"SnowMoneyModel", "sum", "()I"⟩, 28) := ⟨⟨by decide +kernel, by decide +kernel⟩, List.mem_of_getElem? (i := 853) (by decide +kernel), List.mem_of_getElem? (i := 1033) (by decide +kernel), List.mem_of_getElem? (i := 1034) (by decide +kernel)⟩
theorem lw_p37 : lw_okq (⟨"SnowMoneyModel", "product", "()I"⟩, 28) := ⟨⟨by decide +kernel, by decide +kernel⟩, List.mem_of_getElem? (i := 853) (by decide +kernel), List.mem_of_getElem? (i := 1037) (by decide +kernel), List.mem_of_getElem? (i := 1038) (by decide +kernel)⟩
theorem lw_p38 : lw_okq (⟨"SnowMoneyModel", "factor", "()I"⟩, 28) := ⟨⟨by decide +kernel, by decide +kernel⟩, List.mem_of_getElem? (i := 853) (by decide +kernel), List.mem_of_getElem? (i := 1041) (by decide +kernel), List.mem_of_getElem? (i := 1042) (by decide +kernel)⟩
theorem lw_p39 : lw_okq (⟨"SnowMoneyModel", "byteAt", "(I)I"⟩, 28) := ⟨⟨by decide +kernel, by decide +kernel⟩, List.mem_of_getElem? (i := 853) (by decide +kernel), List.mem_of_getElem? (i := 1045) (by decide +kernel), List.mem_of_getElem? (i := 1046) (by decide +kernel)⟩
theorem lw_p40 : lw_okq (⟨"SnowMoneyModel", "number", "()I"⟩, 28) := ⟨⟨by decide +kernel, by decide +kernel⟩, List.mem_of_getElem? (i := 853) (by decide +kernel), List.mem_of_getElem? (i := 1052) (by decide +kernel), List.mem_of_getElem? (i := 1053) (by decide +kernel)⟩
theorem lw_p41 : lw_okq (⟨"SnowMoneyModel", "named", "(I)I"⟩, 28) := ⟨⟨by decide +kernel, by decide +kernel⟩, List.mem_of_getElem? (i := 853) (by decide +kernel), List.mem_of_getElem? (i := 1056) (by decide +kernel), List.mem_of_getElem? (i := 1057) (by decide +kernel)⟩
theorem lw_p42 : lw_okq (⟨"SnowMoneyModel", "fails", "()I"⟩, 28) := ⟨⟨by decide +kernel, by decide +kernel⟩, List.mem_of_getElem? (i := 853) (by decide +kernel), List.mem_of_getElem? (i := 1060) (by decide +kernel), List.mem_of_getElem? (i := 1061) (by decide +kernel)⟩
theorem lw_p43 : lw_okq (⟨"SnowMoneyModel", "pays", "(I)I"⟩, 28) := ⟨⟨by decide +kernel, by decide +kernel⟩, List.mem_of_getElem? (i := 853) (by decide +kernel), List.mem_of_getElem? (i := 1067) (by decide +kernel), List.mem_of_getElem? (i := 1068) (by decide +kernel)⟩
theorem lw_p44 : lw_okq (⟨"SnowMoneyModel", "moveAll", "([I[I)V"⟩, 28) := ⟨⟨by decide +kernel, by decide +kernel⟩, List.mem_of_getElem? (i := 853) (by decide +kernel), List.mem_of_getElem? (i := 1104) (by decide +kernel), List.mem_of_getElem? (i := 1105) (by decide +kernel)⟩
theorem lw_p45 : lw_okq (⟨"SnowMoneyModel", "passes", "(I)V"⟩, 28) := ⟨⟨by decide +kernel, by decide +kernel⟩, List.mem_of_getElem? (i := 853) (by decide +kernel), List.mem_of_getElem? (i := 1113) (by decide +kernel), List.mem_of_getElem? (i := 1114) (by decide +kernel)⟩
theorem lw_p46 : lw_okq (⟨"SnowMoneyModel", "oneHour", "()V"⟩, 28) := ⟨⟨by decide +kernel, by decide +kernel⟩, List.mem_of_getElem? (i := 853) (by decide +kernel), List.mem_of_getElem? (i := 1117) (by decide +kernel), List.mem_of_getElem? (i := 1118) (by decide +kernel)⟩
theorem lw_p47 : lw_okq (⟨"SnowMoneyModel", "loses", "(II)V"⟩, 28) := ⟨⟨by decide +kernel, by decide +kernel⟩, List.mem_of_getElem? (i := 853) (by decide +kernel), List.mem_of_getElem? (i := 1121) (by decide +kernel), List.mem_of_getElem? (i := 1122) (by decide +kernel)⟩
def lw_privs_3 : List (MethodName × Nat) := [(⟨"SnowMoneyModel", "walks", "(IIII)I"⟩, 28), (⟨"SnowMoneyModel", "whole", "()I"⟩, 28), (⟨"SnowMoneyModel", "both", "()I"⟩, 28), (⟨"SnowMoneyModel", "compared", "()I"⟩, 28), (⟨"SnowMoneyModel", "sum", "()I"⟩, 28), (⟨"SnowMoneyModel", "product", "()I"⟩, 28), (⟨"SnowMoneyModel", "factor", "()I"⟩, 28), (⟨"SnowMoneyModel", "byteAt", "(I)I"⟩, 28), (⟨"SnowMoneyModel", "number", "()I"⟩, 28), (⟨"SnowMoneyModel", "named", "(I)I"⟩, 28), (⟨"SnowMoneyModel", "fails", "()I"⟩, 28), (⟨"SnowMoneyModel", "pays", "(I)I"⟩, 28), (⟨"SnowMoneyModel", "moveAll", "([I[I)V"⟩, 28), (⟨"SnowMoneyModel", "passes", "(I)V"⟩, 28), (⟨"SnowMoneyModel", "oneHour", "()V"⟩, 28), (⟨"SnowMoneyModel", "loses", "(II)V"⟩, 28)]
theorem lw_r3 : ∀ q ∈ lw_privs_3, lw_okq q := List.forall_mem_cons.mpr ⟨lw_p32, List.forall_mem_cons.mpr ⟨lw_p33, List.forall_mem_cons.mpr ⟨lw_p34, List.forall_mem_cons.mpr ⟨lw_p35, List.forall_mem_cons.mpr ⟨lw_p36, List.forall_mem_cons.mpr ⟨lw_p37, List.forall_mem_cons.mpr ⟨lw_p38, List.forall_mem_cons.mpr ⟨lw_p39, List.forall_mem_cons.mpr ⟨lw_p40, List.forall_mem_cons.mpr ⟨lw_p41, List.forall_mem_cons.mpr ⟨lw_p42, List.forall_mem_cons.mpr ⟨lw_p43, List.forall_mem_cons.mpr ⟨lw_p44, List.forall_mem_cons.mpr ⟨lw_p45, List.forall_mem_cons.mpr ⟨lw_p46, List.forall_mem_cons.mpr ⟨lw_p47, fun _ h => absurd h List.not_mem_nil⟩⟩⟩⟩⟩⟩⟩⟩⟩⟩⟩⟩⟩⟩⟩⟩
theorem lw_p48 : lw_okq (⟨"SnowMoneyModel", "snowOfAll", "()I"⟩, 28) := ⟨⟨by decide +kernel, by decide +kernel⟩, List.mem_of_getElem? (i := 853) (by decide +kernel), List.mem_of_getElem? (i := 1125) (by decide +kernel), List.mem_of_getElem? (i := 1126) (by decide +kernel)⟩
theorem lw_p49 : lw_okq (⟨"SnowMoneyModel", "drawn", "(I)I"⟩, 28) := ⟨⟨by decide +kernel, by decide +kernel⟩, List.mem_of_getElem? (i := 853) (by decide +kernel), List.mem_of_getElem? (i := 1133) (by decide +kernel), List.mem_of_getElem? (i := 1134) (by decide +kernel)⟩
theorem lw_p50 : lw_okq (⟨"SnowMoneyModel", "roadOf", "(II)I"⟩, 28) := ⟨⟨by decide +kernel, by decide +kernel⟩, List.mem_of_getElem? (i := 853) (by decide +kernel), List.mem_of_getElem? (i := 1142) (by decide +kernel), List.mem_of_getElem? (i := 1143) (by decide +kernel)⟩
theorem lw_p51 : lw_okq (⟨"SnowMoneyModel", "goneSince", "()I"⟩, 28) := ⟨⟨by decide +kernel, by decide +kernel⟩, List.mem_of_getElem? (i := 853) (by decide +kernel), List.mem_of_getElem? (i := 1154) (by decide +kernel), List.mem_of_getElem? (i := 1155) (by decide +kernel)⟩
theorem lw_p52 : lw_okq (⟨"SnowMoneyModel", "worthOf", "(I)I"⟩, 28) := ⟨⟨by decide +kernel, by decide +kernel⟩, List.mem_of_getElem? (i := 853) (by decide +kernel), List.mem_of_getElem? (i := 1163) (by decide +kernel), List.mem_of_getElem? (i := 1164) (by decide +kernel)⟩
theorem lw_p53 : lw_okq (⟨"SnowMoneyModel", "findWay", "(II)V"⟩, 28) := ⟨⟨by decide +kernel, by decide +kernel⟩, List.mem_of_getElem? (i := 853) (by decide +kernel), List.mem_of_getElem? (i := 1186) (by decide +kernel), List.mem_of_getElem? (i := 1187) (by decide +kernel)⟩
theorem lw_p54 : lw_okq (⟨"SnowMoneyModel", "measures", "(III)V"⟩, 28) := ⟨⟨by decide +kernel, by decide +kernel⟩, List.mem_of_getElem? (i := 853) (by decide +kernel), List.mem_of_getElem? (i := 1190) (by decide +kernel), List.mem_of_getElem? (i := 1191) (by decide +kernel)⟩
theorem lw_p55 : lw_okq (⟨"SnowMoneyModel", "hasThen", "(IIII)Z"⟩, 28) := ⟨⟨by decide +kernel, by decide +kernel⟩, List.mem_of_getElem? (i := 853) (by decide +kernel), List.mem_of_getElem? (i := 1201) (by decide +kernel), List.mem_of_getElem? (i := 1202) (by decide +kernel)⟩
theorem lw_p56 : lw_okq (⟨"SnowMoneyModel", "fallsIn", "(II)I"⟩, 28) := ⟨⟨by decide +kernel, by decide +kernel⟩, List.mem_of_getElem? (i := 853) (by decide +kernel), List.mem_of_getElem? (i := 1228) (by decide +kernel), List.mem_of_getElem? (i := 1229) (by decide +kernel)⟩
theorem lw_p57 : lw_okq (⟨"SnowMoneyModel", "ran", "(I)V"⟩, 28) := ⟨⟨by decide +kernel, by decide +kernel⟩, List.mem_of_getElem? (i := 853) (by decide +kernel), List.mem_of_getElem? (i := 1232) (by decide +kernel), List.mem_of_getElem? (i := 1233) (by decide +kernel)⟩
theorem lw_p58 : lw_okq (⟨"SnowMoneyModel", "meltsIn", "(II)I"⟩, 28) := ⟨⟨by decide +kernel, by decide +kernel⟩, List.mem_of_getElem? (i := 853) (by decide +kernel), List.mem_of_getElem? (i := 1236) (by decide +kernel), List.mem_of_getElem? (i := 1237) (by decide +kernel)⟩
theorem lw_p59 : lw_okq (⟨"SnowMoneyModel", "paysIn", "(II)I"⟩, 28) := ⟨⟨by decide +kernel, by decide +kernel⟩, List.mem_of_getElem? (i := 853) (by decide +kernel), List.mem_of_getElem? (i := 1240) (by decide +kernel), List.mem_of_getElem? (i := 1241) (by decide +kernel)⟩
theorem lw_p60 : lw_okq (⟨"SnowMoneyModel", "ringsIn", "(II)I"⟩, 28) := ⟨⟨by decide +kernel, by decide +kernel⟩, List.mem_of_getElem? (i := 853) (by decide +kernel), List.mem_of_getElem? (i := 1244) (by decide +kernel), List.mem_of_getElem? (i := 1245) (by decide +kernel)⟩
theorem lw_p61 : lw_okq (⟨"SnowMoneyModel", "gone", "()I"⟩, 28) := ⟨⟨by decide +kernel, by decide +kernel⟩, List.mem_of_getElem? (i := 853) (by decide +kernel), List.mem_of_getElem? (i := 1295) (by decide +kernel), List.mem_of_getElem? (i := 1296) (by decide +kernel)⟩
def lw_privs_4 : List (MethodName × Nat) := [(⟨"SnowMoneyModel", "snowOfAll", "()I"⟩, 28), (⟨"SnowMoneyModel", "drawn", "(I)I"⟩, 28), (⟨"SnowMoneyModel", "roadOf", "(II)I"⟩, 28), (⟨"SnowMoneyModel", "goneSince", "()I"⟩, 28), (⟨"SnowMoneyModel", "worthOf", "(I)I"⟩, 28), (⟨"SnowMoneyModel", "findWay", "(II)V"⟩, 28), (⟨"SnowMoneyModel", "measures", "(III)V"⟩, 28), (⟨"SnowMoneyModel", "hasThen", "(IIII)Z"⟩, 28), (⟨"SnowMoneyModel", "fallsIn", "(II)I"⟩, 28), (⟨"SnowMoneyModel", "ran", "(I)V"⟩, 28), (⟨"SnowMoneyModel", "meltsIn", "(II)I"⟩, 28), (⟨"SnowMoneyModel", "paysIn", "(II)I"⟩, 28), (⟨"SnowMoneyModel", "ringsIn", "(II)I"⟩, 28), (⟨"SnowMoneyModel", "gone", "()I"⟩, 28)]
theorem lw_r4 : ∀ q ∈ lw_privs_4, lw_okq q := List.forall_mem_cons.mpr ⟨lw_p48, List.forall_mem_cons.mpr ⟨lw_p49, List.forall_mem_cons.mpr ⟨lw_p50, List.forall_mem_cons.mpr ⟨lw_p51, List.forall_mem_cons.mpr ⟨lw_p52, List.forall_mem_cons.mpr ⟨lw_p53, List.forall_mem_cons.mpr ⟨lw_p54, List.forall_mem_cons.mpr ⟨lw_p55, List.forall_mem_cons.mpr ⟨lw_p56, List.forall_mem_cons.mpr ⟨lw_p57, List.forall_mem_cons.mpr ⟨lw_p58, List.forall_mem_cons.mpr ⟨lw_p59, List.forall_mem_cons.mpr ⟨lw_p60, List.forall_mem_cons.mpr ⟨lw_p61, fun _ h => absurd h List.not_mem_nil⟩⟩⟩⟩⟩⟩⟩⟩⟩⟩⟩⟩⟩⟩
def lw_privs : List (MethodName × Nat) := lw_privs_1 ++ (lw_privs_2 ++ (lw_privs_3 ++ (lw_privs_4)))
def lw_tbl : List Cond := k2_sels lw_privs ++ tables_1
theorem lw_privs_ok : ∀ q ∈ lw_privs, lw_okq q := by
  show ∀ q ∈ lw_privs_1 ++ (lw_privs_2 ++ (lw_privs_3 ++ (lw_privs_4))), lw_okq q
  exact List.forall_mem_append.mpr ⟨lw_r1, List.forall_mem_append.mpr ⟨lw_r2, List.forall_mem_append.mpr ⟨lw_r3, lw_r4⟩⟩⟩
end
section
def sm_T0 : u_T := fun k => match k with
  | 0 => ("SnowMoney$Duchy", "warmth", "[I", true)
  | 1 => ("SnowMoney$Duchy", "roads", "[I", true)
  | 2 => ("SnowMoney$Duchy", "kinds", "[I", true)
  | 3 => ("SnowMoney$Duchy", "ms", "[I", true)
  | 4 => ("SnowMoney$Duchy", "snow", "[I", true)
  | 5 => ("SnowMoney$Duchy", "at", "[I", true)
  | 6 => ("SnowMoney$Duchy", "owners", "[I", true)
  | 7 => ("SnowMoney$Duchy", "tape", "[I", true)
  | 8 => ("SnowMoney$Duchy", "waiting", "[I", true)
  | 9 => ("SnowMoney$Duchy", "heat", "LSnowMoney$Text;", true)
  | 10 => ("SnowMoney$Duchy", "found", "LSnowMoney$Text;", true)
  | 11 => ("SnowMoney$Duchy", "places", "I", false)
  | 12 => ("SnowMoney$Duchy", "notes", "I", false)
  | 13 => ("SnowMoney$Duchy", "weather", "I", false)
  | 14 => ("SnowMoney$Duchy", "hour", "I", false)
  | 15 => ("SnowMoney$Duchy", "taped", "I", false)
  | 16 => ("SnowMoney$Duchy", "waits", "I", false)
  | _ => ("SnowMoney$Duchy", "z", "I", false)
def sm_t0 : Nat → FieldType := fun k => match k with
  | 0 => .array .int
  | 1 => .array .int
  | 2 => .array .int
  | 3 => .array .int
  | 4 => .array .int
  | 5 => .array .int
  | 6 => .array .int
  | 7 => .array .int
  | 8 => .array .int
  | 9 => .object "SnowMoney$Text"
  | 10 => .object "SnowMoney$Text"
  | 11 => .int
  | 12 => .int
  | 13 => .int
  | 14 => .int
  | 15 => .int
  | 16 => .int
  | _ => .int
def sm_T1 : u_T := fun k => match k with
  | 0 => ("SnowMoney$Foresight", "duchy", "LSnowMoney$Duchy;", true)
  | 1 => ("SnowMoney$Foresight", "heats", "[I", true)
  | 2 => ("SnowMoney$Foresight", "course", "[I", true)
  | 3 => ("SnowMoney$Foresight", "totals", "[I", true)
  | 4 => ("SnowMoney$Foresight", "sums", "[I", true)
  | 5 => ("SnowMoney$Foresight", "steps", "[I", true)
  | 6 => ("SnowMoney$Foresight", "aim", "I", false)
  | 7 => ("SnowMoney$Foresight", "bestValue", "I", false)
  | _ => ("SnowMoney$Foresight", "bestNumber", "I", false)
def sm_t1 : Nat → FieldType := fun k => match k with
  | 0 => .object "SnowMoney$Duchy"
  | 1 => .array .int
  | 2 => .array .int
  | 3 => .array .int
  | 4 => .array .int
  | 5 => .array .int
  | 6 => .int
  | 7 => .int
  | _ => .int
def sm_T2 : u_T := fun k => match k with
  | 0 => ("SnowMoney$Reader", "text", "LSnowMoney$Text;", true)
  | 1 => ("SnowMoney$Reader", "tape", "[I", true)
  | 2 => ("SnowMoney$Reader", "size", "I", false)
  | 3 => ("SnowMoney$Reader", "at", "I", false)
  | _ => ("SnowMoney$Reader", "names", "Ljava/lang/String;", false)
def sm_t2 : Nat → FieldType := fun k => match k with
  | 0 => .object "SnowMoney$Text"
  | 1 => .array .int
  | 2 => .int
  | 3 => .int
  | _ => .object "java/lang/String"
def sm_T3 : u_T := fun k => match k with
  | 0 => ("SnowMoney$Sheet", "numbers", "[I", true)
  | 1 => ("SnowMoney$Sheet", "bits", "I", false)
  | _ => ("SnowMoney$Sheet", "length", "I", false)
def sm_t3 : Nat → FieldType := fun k => match k with
  | 0 => .array .int
  | 1 => .int
  | _ => .int
def sm_T4 : u_T := fun k => match k with
  | 0 => ("SnowMoney$Text", "signs", "[I", true)
  | 1 => ("SnowMoney$Text", "values", "[I", true)
  | 2 => ("SnowMoney$Text", "stack", "[I", true)
  | _ => ("SnowMoney$Text", "length", "I", false)
def sm_t4 : Nat → FieldType := fun k => match k with
  | 0 => .array .int
  | 1 => .array .int
  | 2 => .array .int
  | _ => .int
def sm_T5 : u_T := fun k => match k with
  | 0 => ("SnowMoney$Voices", "bodies", "[I", true)
  | 1 => ("SnowMoney$Voices", "traced", "I", false)
  | 2 => ("SnowMoney$Voices", "kind", "I", false)
  | 3 => ("SnowMoney$Voices", "number", "I", false)
  | _ => ("SnowMoney$Voices", "m", "I", false)
def sm_t5 : Nat → FieldType := fun k => match k with
  | 0 => .array .int
  | 1 => .int
  | 2 => .int
  | 3 => .int
  | _ => .int
def sm_T6 : u_T := fun k => match k with
  | 0 => ("SnowMoney", "duchy", "LSnowMoney$Duchy;", true)
  | 1 => ("SnowMoney", "kept", "LSnowMoney$Duchy;", true)
  | 2 => ("SnowMoney", "foresight", "LSnowMoney$Foresight;", true)
  | 3 => ("SnowMoney", "reader", "LSnowMoney$Reader;", true)
  | 4 => ("SnowMoney", "voices", "LSnowMoney$Voices;", true)
  | 5 => ("SnowMoney", "rows", "[LSnowMoney$Sheet;", true)
  | 6 => ("SnowMoney", "errors", "[I", true)
  | _ => ("SnowMoney", "images", "I", false)
def sm_t6 : Nat → FieldType := fun k => match k with
  | 0 => .object "SnowMoney$Duchy"
  | 1 => .object "SnowMoney$Duchy"
  | 2 => .object "SnowMoney$Foresight"
  | 3 => .object "SnowMoney$Reader"
  | 4 => .object "SnowMoney$Voices"
  | 5 => .array (.object "SnowMoney$Sheet")
  | 6 => .array .int
  | _ => .int
def sm_T7 : u_T := fun k => match k with
  | 0 => ("SnowMoneyModel", "row", "[I", true)
  | 1 => ("SnowMoneyModel", "kept", "[I", true)
  | 2 => ("SnowMoneyModel", "tried", "[I", true)
  | 3 => ("SnowMoneyModel", "before", "[I", true)
  | 4 => ("SnowMoneyModel", "isKept", "Z", false)
  | 5 => ("SnowMoneyModel", "images", "I", false)
  | 6 => ("SnowMoneyModel", "found", "[I", true)
  | 7 => ("SnowMoneyModel", "use", "I", false)
  | 8 => ("SnowMoneyModel", "at", "I", false)
  | 9 => ("SnowMoneyModel", "end", "I", false)
  | 10 => ("SnowMoneyModel", "open", "I", false)
  | 11 => ("SnowMoneyModel", "namedA", "I", false)
  | 12 => ("SnowMoneyModel", "namedB", "I", false)
  | 13 => ("SnowMoneyModel", "namedC", "I", false)
  | 14 => ("SnowMoneyModel", "good", "Z", false)
  | 15 => ("SnowMoneyModel", "warmer", "I", false)
  | 16 => ("SnowMoneyModel", "path", "[I", true)
  | 17 => ("SnowMoneyModel", "mostLeft", "I", false)
  | 18 => ("SnowMoneyModel", "nextOn", "I", false)
  | 19 => ("SnowMoneyModel", "bitsOf", "[I", true)
  | 20 => ("SnowMoneyModel", "sizeOf", "[I", true)
  | 21 => ("SnowMoneyModel", "sheets", "[I", true)
  | 22 => ("SnowMoneyModel", "moved", "[I", true)
  | 23 => ("SnowMoneyModel", "traced", "[I", true)
  | 24 => ("SnowMoneyModel", "tracedMany", "I", false)
  | 25 => ("SnowMoneyModel", "voiceKind", "I", false)
  | 26 => ("SnowMoneyModel", "voiceN", "I", false)
  | _ => ("SnowMoneyModel", "voiceM", "I", false)
def sm_t7 : Nat → FieldType := fun k => match k with
  | 0 => .array .int
  | 1 => .array .int
  | 2 => .array .int
  | 3 => .array .int
  | 4 => .boolean
  | 5 => .int
  | 6 => .array .int
  | 7 => .int
  | 8 => .int
  | 9 => .int
  | 10 => .int
  | 11 => .int
  | 12 => .int
  | 13 => .int
  | 14 => .boolean
  | 15 => .int
  | 16 => .array .int
  | 17 => .int
  | 18 => .int
  | 19 => .array .int
  | 20 => .array .int
  | 21 => .array .int
  | 22 => .array .int
  | 23 => .array .int
  | 24 => .int
  | 25 => .int
  | 26 => .int
  | _ => .int
abbrev sm_cls : List vw_C := [("SnowMoney$Duchy", sm_T0, 18), ("SnowMoney$Foresight", sm_T1, 9), ("SnowMoney$Reader", sm_T2, 5), ("SnowMoney$Sheet", sm_T3, 3), ("SnowMoney$Text", sm_T4, 4), ("SnowMoney$Voices", sm_T5, 5), ("SnowMoney", sm_T6, 8), ("SnowMoneyModel", sm_T7, 28)]
def sm_lays : List (Nat × Nat × List Nat) := [(1, 6, [3, 21, 39, 45, 51, 53, 62, 0]), (1, 0, [4, 5, 6, 7, 8, 9, 10, 11, 12, 13, 17, 0, 0, 0, 0, 0, 0, 0]), (0, 6, []), (0, 36, []), (0, 10, []), (0, 10, []), (0, 10, []), (0, 10, []), (0, 10, []), (0, 50, []), (0, 20, []), (1, 4, [14, 15, 16, 0]), (0, 50, []), (0, 50, []), (0, 50, []), (1, 4, [18, 19, 20, 0]), (0, 50, []), (0, 50, []), (0, 50, []), (1, 0, [22, 23, 24, 25, 26, 27, 28, 29, 30, 31, 35, 0, 0, 0, 0, 0, 0, 0]), (0, 6, []), (0, 36, []), (0, 10, []), (0, 10, []), (0, 10, []), (0, 10, []), (0, 10, []), (0, 50, []), (0, 20, []), (1, 4, [32, 33, 34, 0]), (0, 50, []), (0, 50, []), (0, 50, []), (1, 4, [36, 37, 38, 0]), (0, 50, []), (0, 50, []), (0, 50, []), (1, 1, [3, 40, 41, 42, 43, 44, 0, 0, 0]), (0, 24, []), (0, 61, []), (0, 61, []), (0, 1024, []), (0, 6, []), (1, 2, [46, 50, 0, 0, 1]), (1, 4, [47, 48, 49, 0]), (0, 50, []), (0, 50, []), (0, 50, []), (0, 50, []), (1, 5, [52, 0, 0, 0, 0]), (0, 40, []), (2, 4, [52, 54, 56, 58]), (1, 3, [55, 0, 0]), (0, 40, []), (1, 3, [57, 0, 0]), (0, 40, []), (1, 3, [59, 0, 0]), (0, 40, []), (1, 3, [61, 0, 0]), (0, 40, []), (0, 6, []), (1, 7, [64, 65, 66, 67, 0, 0, 68, 0, 0, 0, 0, 0, 0, 0, 0, 0, 69, 0, 0, 70, 71, 72, 73, 74, 0, 0, 0, 0]), (0, 271, []), (0, 271, []), (0, 271, []), (0, 271, []), (0, 6, []), (0, 6, []), (0, 4, []), (0, 4, []), (0, 160, []), (0, 40, []), (0, 40, [])]
theorem sm_l0 : sm_lays[0]? = some (1, 6, [3, 21, 39, 45, 51, 53, 62, 0]) := by decide +kernel
theorem sm_l1 : sm_lays[1]? = some (1, 0, [4, 5, 6, 7, 8, 9, 10, 11, 12, 13, 17, 0, 0, 0, 0, 0, 0, 0]) := by decide +kernel
theorem sm_l2 : sm_lays[2]? = some (0, 6, []) := by decide +kernel
theorem sm_l3 : sm_lays[3]? = some (0, 36, []) := by decide +kernel
theorem sm_l4 : sm_lays[4]? = some (0, 10, []) := by decide +kernel
theorem sm_l5 : sm_lays[5]? = some (0, 10, []) := by decide +kernel
theorem sm_l6 : sm_lays[6]? = some (0, 10, []) := by decide +kernel
theorem sm_l7 : sm_lays[7]? = some (0, 10, []) := by decide +kernel
theorem sm_l8 : sm_lays[8]? = some (0, 10, []) := by decide +kernel
theorem sm_l9 : sm_lays[9]? = some (0, 50, []) := by decide +kernel
theorem sm_l10 : sm_lays[10]? = some (0, 20, []) := by decide +kernel
theorem sm_l11 : sm_lays[11]? = some (1, 4, [14, 15, 16, 0]) := by decide +kernel
theorem sm_l12 : sm_lays[12]? = some (0, 50, []) := by decide +kernel
theorem sm_l13 : sm_lays[13]? = some (0, 50, []) := by decide +kernel
theorem sm_l14 : sm_lays[14]? = some (0, 50, []) := by decide +kernel
theorem sm_l15 : sm_lays[15]? = some (1, 4, [18, 19, 20, 0]) := by decide +kernel
theorem sm_l16 : sm_lays[16]? = some (0, 50, []) := by decide +kernel
theorem sm_l17 : sm_lays[17]? = some (0, 50, []) := by decide +kernel
theorem sm_l18 : sm_lays[18]? = some (0, 50, []) := by decide +kernel
theorem sm_l19 : sm_lays[19]? = some (1, 0, [22, 23, 24, 25, 26, 27, 28, 29, 30, 31, 35, 0, 0, 0, 0, 0, 0, 0]) := by decide +kernel
theorem sm_l20 : sm_lays[20]? = some (0, 6, []) := by decide +kernel
theorem sm_l21 : sm_lays[21]? = some (0, 36, []) := by decide +kernel
theorem sm_l22 : sm_lays[22]? = some (0, 10, []) := by decide +kernel
theorem sm_l23 : sm_lays[23]? = some (0, 10, []) := by decide +kernel
theorem sm_l24 : sm_lays[24]? = some (0, 10, []) := by decide +kernel
theorem sm_l25 : sm_lays[25]? = some (0, 10, []) := by decide +kernel
theorem sm_l26 : sm_lays[26]? = some (0, 10, []) := by decide +kernel
theorem sm_l27 : sm_lays[27]? = some (0, 50, []) := by decide +kernel
theorem sm_l28 : sm_lays[28]? = some (0, 20, []) := by decide +kernel
theorem sm_l29 : sm_lays[29]? = some (1, 4, [32, 33, 34, 0]) := by decide +kernel
theorem sm_l30 : sm_lays[30]? = some (0, 50, []) := by decide +kernel
theorem sm_l31 : sm_lays[31]? = some (0, 50, []) := by decide +kernel
theorem sm_l32 : sm_lays[32]? = some (0, 50, []) := by decide +kernel
theorem sm_l33 : sm_lays[33]? = some (1, 4, [36, 37, 38, 0]) := by decide +kernel
theorem sm_l34 : sm_lays[34]? = some (0, 50, []) := by decide +kernel
theorem sm_l35 : sm_lays[35]? = some (0, 50, []) := by decide +kernel
theorem sm_l36 : sm_lays[36]? = some (0, 50, []) := by decide +kernel
theorem sm_l37 : sm_lays[37]? = some (1, 1, [3, 40, 41, 42, 43, 44, 0, 0, 0]) := by decide +kernel
theorem sm_l38 : sm_lays[38]? = some (0, 24, []) := by decide +kernel
theorem sm_l39 : sm_lays[39]? = some (0, 61, []) := by decide +kernel
theorem sm_l40 : sm_lays[40]? = some (0, 61, []) := by decide +kernel
theorem sm_l41 : sm_lays[41]? = some (0, 1024, []) := by decide +kernel
theorem sm_l42 : sm_lays[42]? = some (0, 6, []) := by decide +kernel
theorem sm_l43 : sm_lays[43]? = some (1, 2, [46, 50, 0, 0, 1]) := by decide +kernel
theorem sm_l44 : sm_lays[44]? = some (1, 4, [47, 48, 49, 0]) := by decide +kernel
theorem sm_l45 : sm_lays[45]? = some (0, 50, []) := by decide +kernel
theorem sm_l46 : sm_lays[46]? = some (0, 50, []) := by decide +kernel
theorem sm_l47 : sm_lays[47]? = some (0, 50, []) := by decide +kernel
theorem sm_l48 : sm_lays[48]? = some (0, 50, []) := by decide +kernel
theorem sm_l49 : sm_lays[49]? = some (1, 5, [52, 0, 0, 0, 0]) := by decide +kernel
theorem sm_l50 : sm_lays[50]? = some (0, 40, []) := by decide +kernel
theorem sm_l51 : sm_lays[51]? = some (2, 4, [52, 54, 56, 58]) := by decide +kernel
theorem sm_l52 : sm_lays[52]? = some (1, 3, [55, 0, 0]) := by decide +kernel
theorem sm_l53 : sm_lays[53]? = some (0, 40, []) := by decide +kernel
theorem sm_l54 : sm_lays[54]? = some (1, 3, [57, 0, 0]) := by decide +kernel
theorem sm_l55 : sm_lays[55]? = some (0, 40, []) := by decide +kernel
theorem sm_l56 : sm_lays[56]? = some (1, 3, [59, 0, 0]) := by decide +kernel
theorem sm_l57 : sm_lays[57]? = some (0, 40, []) := by decide +kernel
theorem sm_l58 : sm_lays[58]? = some (1, 3, [61, 0, 0]) := by decide +kernel
theorem sm_l59 : sm_lays[59]? = some (0, 40, []) := by decide +kernel
theorem sm_l60 : sm_lays[60]? = some (0, 6, []) := by decide +kernel
theorem sm_l61 : sm_lays[61]? = some (1, 7, [64, 65, 66, 67, 0, 0, 68, 0, 0, 0, 0, 0, 0, 0, 0, 0, 69, 0, 0, 70, 71, 72, 73, 74, 0, 0, 0, 0]) := by decide +kernel
theorem sm_l62 : sm_lays[62]? = some (0, 271, []) := by decide +kernel
theorem sm_l63 : sm_lays[63]? = some (0, 271, []) := by decide +kernel
theorem sm_l64 : sm_lays[64]? = some (0, 271, []) := by decide +kernel
theorem sm_l65 : sm_lays[65]? = some (0, 271, []) := by decide +kernel
theorem sm_l66 : sm_lays[66]? = some (0, 6, []) := by decide +kernel
theorem sm_l67 : sm_lays[67]? = some (0, 6, []) := by decide +kernel
theorem sm_l68 : sm_lays[68]? = some (0, 4, []) := by decide +kernel
theorem sm_l69 : sm_lays[69]? = some (0, 4, []) := by decide +kernel
theorem sm_l70 : sm_lays[70]? = some (0, 160, []) := by decide +kernel
theorem sm_l71 : sm_lays[71]? = some (0, 40, []) := by decide +kernel
theorem sm_l72 : sm_lays[72]? = some (0, 40, []) := by decide +kernel
end
section

def sm_tbl : List Cond := lw_tbl.filter goodWord
theorem sm_good : sm_tbl.all goodWord = true := List.all_eq_true.mpr fun _ h => (List.mem_filter.mp h).2
theorem sm_in {w : Cond} (h : w ∈ lw_tbl) (g : goodWord w = true) : w ∈ sm_tbl := List.mem_filter.mpr ⟨h, g⟩
theorem sm_rem (x y : Int32) : x - x / y * y = x % y := by
  apply Int32.toInt_inj.mp
  have h1 : ((x % y).toInt).bmod (2 ^ 32) = (x % y).toInt := Int32.toInt_bmod _
  rw [← h1, Int32.toInt_mod, Int.tmod_def, Int32.toInt_sub, Int32.toInt_mul, Int32.toInt_div]
  simp [Int.mul_comm]
abbrev sm_V : Type := Int32 ⊕ (Option Nat ⊕ Int64)
abbrev sm_I (x : Int32) : sm_V := Sum.inl x
abbrev sm_R (k : Nat) : sm_V := Sum.inr (Sum.inl (some k))
abbrev sm_N : sm_V := Sum.inr (Sum.inl none)
abbrev sm_L (x : Int64) : sm_V := Sum.inr (Sum.inr x)
def sm_cv (ad : Nat → Nat) : sm_V → Value
  | Sum.inl x => .int x
  | Sum.inr (Sum.inl none) => .null
  | Sum.inr (Sum.inl (some k)) => .ref (ad k)
  | Sum.inr (Sum.inr x) => .long x
def sm_cat : sm_V → Nat
  | Sum.inr (Sum.inr _) => 2
  | _ => 1
theorem sm_cat_cv (ad : Nat → Nat) (v : sm_V) : (sm_cv ad v).category = sm_cat v := by
  rcases v with x | (_ | k) | x <;> rfl
abbrev sm_Mem : Type := Nat → Nat → Int32
def sm_st (μ : sm_Mem) (k j : Nat) (v : Int32) : sm_Mem := fun q => if q = k then upd (μ k) j v else μ q
def sm_cpy (μ : sm_Mem) (k0 k1 sp dp n : Nat) : sm_Mem := fun q => if q = k1 then va_cpy (μ k0) (μ k1) sp dp n else μ q
def sm_fv (ad : Nat → Nat) (f : Nat → Int32) (j d : Nat) : Value := if d = 0 then .int (f j) else if d = 1 then .ref (ad (100 + (f j).toNatClampNeg)) else .ref (ad (d - 2))
def sm_cE (ad : Nat → Nat) (cI cS : ClassId) (q : Nat × Nat × List Nat) (f : Nat → Int32) : va_E := match q with
  | (0, n, _) => .inl (cI, n, .inl f)
  | (1, ci, fl) => .inr (ci, fl.mapIdx (fun j d => sm_fv ad f j d))
  | (_, n, fl) => .inl (cS, n, .inr (.inr (.inr (.inr (fun i => (fl[i]?).map ad)))))
abbrev sm_G : Type := (Nat → Nat) × (Nat → ClassId) × (Nat → Nat → Nat) × ClassId × ClassId
def sm_wl (G : sm_G) (μ : sm_Mem) : va_W := sm_lays.mapIdx (fun k q => (G.1 k, sm_cE G.1 G.2.2.2.1 G.2.2.2.2 q (μ k)))
theorem sm_wl_get {G : sm_G} {μ : sm_Mem} {k : Nat} {q : Nat × Nat × List Nat} (h : sm_lays[k]? = some q) : (sm_wl G μ)[k]? = some (G.1 k, sm_cE G.1 G.2.2.2.1 G.2.2.2.2 q (μ k)) := by
  simp [sm_wl, h]
theorem sm_wl_set {G : sm_G} {μ : sm_Mem} {k : Nat} {q : Nat × Nat × List Nat} {f : Nat → Int32} (h : sm_lays[k]? = some q) : (sm_wl G μ).set k (G.1 k, sm_cE G.1 G.2.2.2.1 G.2.2.2.2 q f) = sm_wl G (fun z => if z = k then f else μ z) := by
  apply List.ext_getElem?
  intro i
  rw [List.getElem?_set]
  by_cases hi : k = i
  · subst hi
    obtain ⟨hk, hq⟩ := List.getElem?_eq_some_iff.mp h
    simp [sm_wl, hk, hq]
  · have hi' : ¬ i = k := fun q => hi q.symm
    simp [sm_wl, hi, hi']
theorem sm_fl_set {ad : Nat → Nat} {f : Nat → Int32} {fl : List Nat} {j : Nat} {v : Int32} (h : fl[j]? = some 0) : (fl.mapIdx (fun j d => sm_fv ad f j d)).set j (.int v) = fl.mapIdx (fun i d => sm_fv ad (upd f j v) i d) := by
  apply List.ext_getElem?
  intro i
  rw [List.getElem?_set]
  by_cases hi : j = i
  · subst hi
    obtain ⟨hk, hq⟩ := List.getElem?_eq_some_iff.mp h
    simp [hk, hq, sm_fv, upd]
  · have hi' : ¬ i = j := fun q => hi q.symm
    rw [if_neg hi, List.getElem?_mapIdx, List.getElem?_mapIdx]
    simp only [sm_fv, upd, if_neg hi']
theorem sm_fl_setS {ad : Nat → Nat} {f : Nat → Int32} {fl : List Nat} {j : Nat} {v : Int32} (h : fl[j]? = some 1) : (fl.mapIdx (fun j d => sm_fv ad f j d)).set j (.ref (ad (100 + v.toNatClampNeg))) = fl.mapIdx (fun i d => sm_fv ad (upd f j v) i d) := by
  apply List.ext_getElem?
  intro i
  rw [List.getElem?_set]
  by_cases hi : j = i
  · subst hi
    obtain ⟨hk, hq⟩ := List.getElem?_eq_some_iff.mp h
    simp [hk, hq, sm_fv, upd]
  · have hi' : ¬ i = j := fun q => hi q.symm
    rw [if_neg hi, List.getElem?_mapIdx, List.getElem?_mapIdx]
    simp only [sm_fv, upd, if_neg hi']
def sm_above : List Int32 := [-1, 0, 0, 0, 1, 2, 3]
def sm_bodies : List Int32 := [10, 11, 12, 13, 20, 0, 0, 0, 0, 30, 0, 0, 0, 0, 40, 0, 0, 0, 0, 50, 0, 60, 0, 0, 0, 0, 70, 71]
def sm_slen : List Nat := [0, 3, 3]
def sm_sbyt : List (List Int32) := [[], [119, 121, 104], [115, 109, 111]]
/-- what nobody writes: two tables, three texts, a flag of the JDK's -/
def sm_SF (ad : Nat → Nat) (A : Nat → Prop) (U : State) (H : Heap) : Prop :=
  va_Z "SnowMoney$Kinds" "ABOVE" "[I" (.ref (ad 110)) A U H ∧ va_T .int (ad 110) 7 (fun j => .int (sm_above.getD j 0)) A U H ∧
  va_Z "SnowMoney$Voices" "BODIES" "[I" (.ref (ad 111)) A U H ∧ va_T .int (ad 111) 28 (fun j => .int (sm_bodies.getD j 0)) A U H ∧
  vk_S 3 sm_slen sm_sbyt (fun i => ad (100 + i)) (fun i => ad (120 + i)) A U H ∧ va_Z "java/lang/String" "COMPACT_STRINGS" "Z" (.int 1) A U H
theorem sm_SF.moved {ad : Nat → Nat} {A : Nat → Prop} {u U : State} {H : Heap} (hvm : u.vm.Alike U.vm) (h : sm_SF ad A u H) : sm_SF ad A U H :=
  ⟨h.1.moved hvm, h.2.1.moved hvm, h.2.2.1.moved hvm, h.2.2.2.1.moved hvm, h.2.2.2.2.1.moved hvm, h.2.2.2.2.2.moved hvm⟩
theorem sm_SF.kept {ad : Nat → Nat} {A : Nat → Prop} {U : State} {H H1 : Heap} (h : sm_SF ad A U H) (hq : ∀ a : Nat, a < H.size → ¬ A a → H1[a]? = H[a]?) : sm_SF ad A U H1 :=
  ⟨h.1.kept hq, h.2.1.kept hq, h.2.2.1.kept hq, h.2.2.2.1.kept hq, h.2.2.2.2.1.kept hq, h.2.2.2.2.2.kept hq⟩
theorem sm_SF.narrow {ad : Nat → Nat} {A B : Nat → Prop} {U : State} {H : Heap} (h : sm_SF ad A U H) (hAB : ∀ q, B q → A q) : sm_SF ad B U H :=
  ⟨h.1.narrow hAB, h.2.1.narrow hAB, h.2.2.1.narrow hAB, h.2.2.2.1.narrow hAB, h.2.2.2.2.1.narrow hAB, h.2.2.2.2.2.narrow hAB⟩
/-- the String constants that instructions load -/
def sm_SR (ad : Nat → Nat) (U : State) : Prop := vk_R "SnowMoney$Reader" 22 "" (ad 100) U ∧ vk_R "SnowMoney" 129 "wyh" (ad 101) U ∧ vk_R "SnowMoney" 131 "smo" (ad 102) U
theorem sm_SR.warm {ad : Nat → Nat} {s U : State} (hW : s.WarmedH U.vm) (h : sm_SR ad s) : sm_SR ad U := ⟨h.1.warm hW, h.2.1.warm hW, h.2.2.warm hW⟩
theorem sm_SR.same {ad : Nat → Nat} {s U : State} (hv : U.vm = s.vm) (h : sm_SR ad s) : sm_SR ad U := ⟨h.1.same hv, h.2.1.same hv, h.2.2.same hv⟩
abbrev sm_tys (G : sm_G) : List (ClassId × FieldType) := [(G.2.2.2.1, .int), (G.2.2.2.2, .object "SnowMoney$Sheet")]
abbrev sm_D (G : sm_G) : va_G := (G.2.1, G.2.2.1)
/-- a frame's fixed facts -/
def sm_C (p : Program) (s : State) (m : MethodId) (args : Array Value) (c : Code) (cc : ByteArray) (nL : Nat) (own : String) (A : Nat → Prop) (G : sm_G) : Prop :=
  p.tables.exec = Jvm.exec ∧ c.code = cc ∧ c.maxLocals = nL ∧ s.vm.findClass own = some m.cls ∧ (∀ w ∈ sm_tbl, w.before args s = true) ∧ va_K (sm_D G) sm_cls (sm_tys G) s ∧ (∀ q : Nat, s.heap.size ≤ q → A q) ∧ sm_SF G.1 A s s.heap ∧ sm_SR G.1 s
/-- the machine at pc, with this stack, these locals, these cells, comes to Q -/
def sm_W (p : Program) (l : Launch) (e : Env) (R : Room) (s : State) (m : MethodId) (args : Array Value) (below : List Frame) (meth : Method) (c : Code) (A : Nat → Prop) (Q : State → Prop) (G : sm_G) (nL kc ks : Nat) (pc : Nat) (stk : List sm_V) (lo : List (Nat × sm_V)) (μ : sm_Mem) : Prop :=
  ∀ (H : Heap) (locs : List Loc) (ls : Array Slot), va_P (sm_D G) sm_cls (sm_wl G μ) H → va_D A (sm_wl G μ) → va_S A s.heap H locs → lv_has ls nL (lo.map fun q => (q.1, sm_cv G.1 q.2)) → W p l e R s m args below meth c H locs kc ks Q (F0 m pc ls (stk.map (sm_cv G.1)))
def sm_keep (i : Nat) (q : Nat × sm_V) : Bool := !(q.1 == i) && !(q.1 + 1 == i && sm_cat q.2 == 2)
theorem sm_filter (ad : Nat → Nat) (i : Nat) (lo : List (Nat × sm_V)) : (lo.map fun q => (q.1, sm_cv ad q.2)).filter (fun q => !(q.1 == i) && !(q.1 + 1 == i && q.2.category == 2)) = (lo.filter (sm_keep i)).map fun q => (q.1, sm_cv ad q.2) := by
  rw [List.filter_map]
  congr 1
  apply List.filter_congr
  intro q _
  simp [sm_keep, sm_cat_cv]
theorem sm_lo {ad : Nat → Nat} {ls : Array Slot} {nL : Nat} {lo : List (Nat × sm_V)} (h : lv_has ls nL (lo.map fun q => (q.1, sm_cv ad q.2))) {z i : Nat} {v : sm_V} (hl : lo[z]? = some (i, v)) : ls[i]? = some (.val (sm_cv ad v)) := by
  refine lv_at h z (i := i) ?_
  simp [hl]

section SMR
variable {p : Program} {l : Launch} {e : Env} {R : Room} {s : State} {m : MethodId} {args : Array Value} {below : List Frame} {meth : Method} {c : Code} {A : Nat → Prop} {Q : State → Prop} {G : sm_G} {nL kc ks : Nat} {cc : ByteArray} {own : String} {pc : Nat} {stk : List sm_V} {lo : List (Nat × sm_V)} {μ : sm_Mem}
theorem sr_iconst (C : sm_C p s m args c cc nL own A G) {n : Int} {v : Int32} (hd : decode cc pc = .ok (.iconst n, 1)) (hv : Int32.ofInt n = v) (k : sm_W p l e R s m args below meth c A Q G nL kc ks (pc + 1) (sm_I v :: stk) lo μ) : sm_W p l e R s m args below meth c A Q G nL kc ks pc stk lo μ := by
  intro H locs ls hP hD hS hL
  exact lv_iconst C.1 C.2.1 hd hv (k H locs ls hP hD hS hL)
theorem sr_bipush (C : sm_C p s m args c cc nL own A G) {n : Int} {v : Int32} (hd : decode cc pc = .ok (.bipush n, 2)) (hv : (Int8.ofInt n).toInt32 = v) (k : sm_W p l e R s m args below meth c A Q G nL kc ks (pc + 2) (sm_I v :: stk) lo μ) : sm_W p l e R s m args below meth c A Q G nL kc ks pc stk lo μ := by
  intro H locs ls hP hD hS hL
  exact lv_bipush C.1 C.2.1 hd hv (k H locs ls hP hD hS hL)
theorem sr_sipush (C : sm_C p s m args c cc nL own A G) {n : Int} {v : Int32} (hd : decode cc pc = .ok (.sipush n, 3)) (hv : (Int16.ofInt n).toInt32 = v) (k : sm_W p l e R s m args below meth c A Q G nL kc ks (pc + 3) (sm_I v :: stk) lo μ) : sm_W p l e R s m args below meth c A Q G nL kc ks pc stk lo μ := by
  intro H locs ls hP hD hS hL
  exact lv_sipush C.1 C.2.1 hd hv (k H locs ls hP hD hS hL)
theorem sr_ldc (C : sm_C p s m args c cc nL own A G) {ix : Nat} {v : Int32} (hw : Cond.constant own ix v ∈ sm_tbl) (hd : decode cc pc = .ok (.ldc ix, 2)) (k : sm_W p l e R s m args below meth c A Q G nL kc ks (pc + 2) (sm_I v :: stk) lo μ) : sm_W p l e R s m args below meth c A Q G nL kc ks pc stk lo μ := by
  intro H locs ls hP hD hS hL
  exact lv_ldc C.1 C.2.1 C.2.2.2.1 (C.2.2.2.2.1 _ hw) hd (k H locs ls hP hD hS hL)
theorem sr_ldcw (C : sm_C p s m args c cc nL own A G) {ix : Nat} {v : Int32} (hw : Cond.constant own ix v ∈ sm_tbl) (hd : decode cc pc = .ok (.ldc_w ix, 3)) (k : sm_W p l e R s m args below meth c A Q G nL kc ks (pc + 3) (sm_I v :: stk) lo μ) : sm_W p l e R s m args below meth c A Q G nL kc ks pc stk lo μ := by
  intro H locs ls hP hD hS hL
  exact lv_ldcw C.1 C.2.1 C.2.2.2.1 (C.2.2.2.2.1 _ hw) hd (k H locs ls hP hD hS hL)
theorem sr_ldcS (C : sm_C p s m args c cc nL own A G) {ix q : Nat} {tx : String} (hw : vk_R own ix tx (G.1 q) s) (hd : decode cc pc = .ok (.ldc ix, 2)) (k : sm_W p l e R s m args below meth c A Q G nL kc ks (pc + 2) (sm_R q :: stk) lo μ) : sm_W p l e R s m args below meth c A Q G nL kc ks pc stk lo μ := by
  intro H locs ls hP hD hS hL
  exact va_ldcS C.1 C.2.1 C.2.2.2.1 hw hd (k H locs ls hP hD hS hL)
theorem sr_null (C : sm_C p s m args c cc nL own A G) (hd : decode cc pc = .ok (.aconst_null, 1)) (k : sm_W p l e R s m args below meth c A Q G nL kc ks (pc + 1) (sm_N :: stk) lo μ) : sm_W p l e R s m args below meth c A Q G nL kc ks pc stk lo μ := by
  intro H locs ls hP hD hS hL
  exact lv_null C.1 C.2.1 hd (k H locs ls hP hD hS hL)
theorem sr_iload_n (C : sm_C p s m args c cc nL own A G) (z : Nat) {w : Fin 4} {i : Nat} {x : Int32} (hi : (w : Nat) = i) (hl : lo[z]? = some (i, sm_I x)) (hd : decode cc pc = .ok (.iload_n w, 1)) (k : sm_W p l e R s m args below meth c A Q G nL kc ks (pc + 1) (sm_I x :: stk) lo μ) : sm_W p l e R s m args below meth c A Q G nL kc ks pc stk lo μ := by
  intro H locs ls hP hD hS hL
  exact lv_iload_n C.1 C.2.1 hd hi (sm_lo hL hl) (k H locs ls hP hD hS hL)
theorem sr_iload (C : sm_C p s m args c cc nL own A G) (z : Nat) {i : Nat} {x : Int32} (hl : lo[z]? = some (i, sm_I x)) (hd : decode cc pc = .ok (.iload i, 2)) (k : sm_W p l e R s m args below meth c A Q G nL kc ks (pc + 2) (sm_I x :: stk) lo μ) : sm_W p l e R s m args below meth c A Q G nL kc ks pc stk lo μ := by
  intro H locs ls hP hD hS hL
  exact lv_iload C.1 C.2.1 hd (sm_lo hL hl) (k H locs ls hP hD hS hL)
theorem sr_aload_n (C : sm_C p s m args c cc nL own A G) (z : Nat) {w : Fin 4} {i : Nat} {x : Nat} (hi : (w : Nat) = i) (hl : lo[z]? = some (i, sm_R x)) (hd : decode cc pc = .ok (.aload_n w, 1)) (k : sm_W p l e R s m args below meth c A Q G nL kc ks (pc + 1) (sm_R x :: stk) lo μ) : sm_W p l e R s m args below meth c A Q G nL kc ks pc stk lo μ := by
  intro H locs ls hP hD hS hL
  exact lv_aload_n C.1 C.2.1 hd hi (sm_lo hL hl) (k H locs ls hP hD hS hL)
theorem sr_aload (C : sm_C p s m args c cc nL own A G) (z : Nat) {i : Nat} {x : Nat} (hl : lo[z]? = some (i, sm_R x)) (hd : decode cc pc = .ok (.aload i, 2)) (k : sm_W p l e R s m args below meth c A Q G nL kc ks (pc + 2) (sm_R x :: stk) lo μ) : sm_W p l e R s m args below meth c A Q G nL kc ks pc stk lo μ := by
  intro H locs ls hP hD hS hL
  exact lv_aload C.1 C.2.1 hd (sm_lo hL hl) (k H locs ls hP hD hS hL)
theorem sr_aloadN_n (C : sm_C p s m args c cc nL own A G) (z : Nat) {w : Fin 4} {i : Nat} (hi : (w : Nat) = i) (hl : lo[z]? = some (i, sm_N)) (hd : decode cc pc = .ok (.aload_n w, 1)) (k : sm_W p l e R s m args below meth c A Q G nL kc ks (pc + 1) (sm_N :: stk) lo μ) : sm_W p l e R s m args below meth c A Q G nL kc ks pc stk lo μ := by
  intro H locs ls hP hD hS hL
  exact lv_aload_nN C.1 C.2.1 hd hi (sm_lo hL hl) (k H locs ls hP hD hS hL)
theorem sr_aloadN (C : sm_C p s m args c cc nL own A G) (z : Nat) {i : Nat} (hl : lo[z]? = some (i, sm_N)) (hd : decode cc pc = .ok (.aload i, 2)) (k : sm_W p l e R s m args below meth c A Q G nL kc ks (pc + 2) (sm_N :: stk) lo μ) : sm_W p l e R s m args below meth c A Q G nL kc ks pc stk lo μ := by
  intro H locs ls hP hD hS hL
  exact lv_aloadN C.1 C.2.1 hd (sm_lo hL hl) (k H locs ls hP hD hS hL)
theorem sr_lload_n (C : sm_C p s m args c cc nL own A G) (z : Nat) {w : Fin 4} {i : Nat} {x : Int64} (hi : (w : Nat) = i) (hl : lo[z]? = some (i, sm_L x)) (hd : decode cc pc = .ok (.lload_n w, 1)) (k : sm_W p l e R s m args below meth c A Q G nL kc ks (pc + 1) (sm_L x :: stk) lo μ) : sm_W p l e R s m args below meth c A Q G nL kc ks pc stk lo μ := by
  intro H locs ls hP hD hS hL
  exact lv_lload_n C.1 C.2.1 hd hi (sm_lo hL hl) (k H locs ls hP hD hS hL)
theorem sr_istore_n (C : sm_C p s m args c cc nL own A G) {w : Fin 4} {i : Nat} {x : Int32} (hi : (w : Nat) = i) (hn : i < nL) (hd : decode cc pc = .ok (.istore_n w, 1)) (k : sm_W p l e R s m args below meth c A Q G nL kc ks (pc + 1) stk ((i, sm_I x) :: lo.filter (sm_keep i)) μ) : sm_W p l e R s m args below meth c A Q G nL kc ks pc (sm_I x :: stk) lo μ := by
  intro H locs ls hP hD hS hL
  exact lv_istore_n C.1 C.2.1 hd hi hL hn (by rw [sm_filter]; rfl) (fun ls hL => k H locs ls hP hD hS hL)
theorem sr_istore (C : sm_C p s m args c cc nL own A G) {i : Nat} {x : Int32} (hn : i < nL) (hd : decode cc pc = .ok (.istore i, 2)) (k : sm_W p l e R s m args below meth c A Q G nL kc ks (pc + 2) stk ((i, sm_I x) :: lo.filter (sm_keep i)) μ) : sm_W p l e R s m args below meth c A Q G nL kc ks pc (sm_I x :: stk) lo μ := by
  intro H locs ls hP hD hS hL
  exact lv_istore C.1 C.2.1 hd hL hn (by rw [sm_filter]; rfl) (fun ls hL => k H locs ls hP hD hS hL)
theorem sr_astore_n (C : sm_C p s m args c cc nL own A G) {w : Fin 4} {i : Nat} {x : Nat} (hi : (w : Nat) = i) (hn : i < nL) (hd : decode cc pc = .ok (.astore_n w, 1)) (k : sm_W p l e R s m args below meth c A Q G nL kc ks (pc + 1) stk ((i, sm_R x) :: lo.filter (sm_keep i)) μ) : sm_W p l e R s m args below meth c A Q G nL kc ks pc (sm_R x :: stk) lo μ := by
  intro H locs ls hP hD hS hL
  exact lv_astore_n C.1 C.2.1 hd hi hL hn (by rw [sm_filter]; rfl) (fun ls hL => k H locs ls hP hD hS hL)
theorem sr_astore (C : sm_C p s m args c cc nL own A G) {i : Nat} {x : Nat} (hn : i < nL) (hd : decode cc pc = .ok (.astore i, 2)) (k : sm_W p l e R s m args below meth c A Q G nL kc ks (pc + 2) stk ((i, sm_R x) :: lo.filter (sm_keep i)) μ) : sm_W p l e R s m args below meth c A Q G nL kc ks pc (sm_R x :: stk) lo μ := by
  intro H locs ls hP hD hS hL
  exact lv_astore C.1 C.2.1 hd hL hn (by rw [sm_filter]; rfl) (fun ls hL => k H locs ls hP hD hS hL)
theorem sr_astoreN_n (C : sm_C p s m args c cc nL own A G) {w : Fin 4} {i : Nat} (hi : (w : Nat) = i) (hn : i < nL) (hd : decode cc pc = .ok (.astore_n w, 1)) (k : sm_W p l e R s m args below meth c A Q G nL kc ks (pc + 1) stk ((i, sm_N) :: lo.filter (sm_keep i)) μ) : sm_W p l e R s m args below meth c A Q G nL kc ks pc (sm_N :: stk) lo μ := by
  intro H locs ls hP hD hS hL
  exact lv_astore_nN C.1 C.2.1 hd hi hL hn (by rw [sm_filter]; rfl) (fun ls hL => k H locs ls hP hD hS hL)
theorem sr_astoreN (C : sm_C p s m args c cc nL own A G) {i : Nat} (hn : i < nL) (hd : decode cc pc = .ok (.astore i, 2)) (k : sm_W p l e R s m args below meth c A Q G nL kc ks (pc + 2) stk ((i, sm_N) :: lo.filter (sm_keep i)) μ) : sm_W p l e R s m args below meth c A Q G nL kc ks pc (sm_N :: stk) lo μ := by
  intro H locs ls hP hD hS hL
  exact lv_astoreN C.1 C.2.1 hd hL hn (by rw [sm_filter]; rfl) (fun ls hL => k H locs ls hP hD hS hL)
theorem sr_iinc (C : sm_C p s m args c cc nL own A G) (z : Nat) {i : Nat} {n : Int} {x v : Int32} (hl : lo[z]? = some (i, sm_I x)) (hn : i < nL) (hd : decode cc pc = .ok (.iinc i n, 3)) (hv : x + Int32.ofInt n = v) (k : sm_W p l e R s m args below meth c A Q G nL kc ks (pc + 3) stk ((i, sm_I v) :: lo.filter (sm_keep i)) μ) : sm_W p l e R s m args below meth c A Q G nL kc ks pc stk lo μ := by
  intro H locs ls hP hD hS hL
  exact lv_iinc C.1 C.2.1 hd hL (k := z) (by simp [hl]; rfl) hv hn (by rw [sm_filter]; rfl) (fun ls hL => k H locs ls hP hD hS hL)
theorem sr_iadd (C : sm_C p s m args c cc nL own A G) {x y : Int32} (hd : decode cc pc = .ok (.iadd, 1)) (k : sm_W p l e R s m args below meth c A Q G nL kc ks (pc + 1) (sm_I (x + y) :: stk) lo μ) : sm_W p l e R s m args below meth c A Q G nL kc ks pc (sm_I y :: sm_I x :: stk) lo μ := by
  intro H locs ls hP hD hS hL
  exact lv_iadd C.1 C.2.1 hd (k H locs ls hP hD hS hL)
theorem sr_isub (C : sm_C p s m args c cc nL own A G) {x y : Int32} (hd : decode cc pc = .ok (.isub, 1)) (k : sm_W p l e R s m args below meth c A Q G nL kc ks (pc + 1) (sm_I (x - y) :: stk) lo μ) : sm_W p l e R s m args below meth c A Q G nL kc ks pc (sm_I y :: sm_I x :: stk) lo μ := by
  intro H locs ls hP hD hS hL
  exact lv_isub C.1 C.2.1 hd (k H locs ls hP hD hS hL)
theorem sr_imul (C : sm_C p s m args c cc nL own A G) {x y : Int32} (hd : decode cc pc = .ok (.imul, 1)) (k : sm_W p l e R s m args below meth c A Q G nL kc ks (pc + 1) (sm_I (x * y) :: stk) lo μ) : sm_W p l e R s m args below meth c A Q G nL kc ks pc (sm_I y :: sm_I x :: stk) lo μ := by
  intro H locs ls hP hD hS hL
  exact lv_imul C.1 C.2.1 hd (k H locs ls hP hD hS hL)
theorem sr_iand (C : sm_C p s m args c cc nL own A G) {x y : Int32} (hd : decode cc pc = .ok (.iand, 1)) (k : sm_W p l e R s m args below meth c A Q G nL kc ks (pc + 1) (sm_I (x &&& y) :: stk) lo μ) : sm_W p l e R s m args below meth c A Q G nL kc ks pc (sm_I y :: sm_I x :: stk) lo μ := by
  intro H locs ls hP hD hS hL
  exact lv_iand C.1 C.2.1 hd (k H locs ls hP hD hS hL)
theorem sr_ior (C : sm_C p s m args c cc nL own A G) {x y : Int32} (hd : decode cc pc = .ok (.ior, 1)) (k : sm_W p l e R s m args below meth c A Q G nL kc ks (pc + 1) (sm_I (x ||| y) :: stk) lo μ) : sm_W p l e R s m args below meth c A Q G nL kc ks pc (sm_I y :: sm_I x :: stk) lo μ := by
  intro H locs ls hP hD hS hL
  exact lv_ior C.1 C.2.1 hd (k H locs ls hP hD hS hL)
theorem sr_ixor (C : sm_C p s m args c cc nL own A G) {x y : Int32} (hd : decode cc pc = .ok (.ixor, 1)) (k : sm_W p l e R s m args below meth c A Q G nL kc ks (pc + 1) (sm_I (x ^^^ y) :: stk) lo μ) : sm_W p l e R s m args below meth c A Q G nL kc ks pc (sm_I y :: sm_I x :: stk) lo μ := by
  intro H locs ls hP hD hS hL
  exact lv_ixor C.1 C.2.1 hd (k H locs ls hP hD hS hL)
theorem sr_ishl (C : sm_C p s m args c cc nL own A G) {x y : Int32} (hd : decode cc pc = .ok (.ishl, 1)) (k : sm_W p l e R s m args below meth c A Q G nL kc ks (pc + 1) (sm_I (x <<< (y &&& 31)) :: stk) lo μ) : sm_W p l e R s m args below meth c A Q G nL kc ks pc (sm_I y :: sm_I x :: stk) lo μ := by
  intro H locs ls hP hD hS hL
  exact lv_ishl C.1 C.2.1 hd (k H locs ls hP hD hS hL)
theorem sr_ishr (C : sm_C p s m args c cc nL own A G) {x y : Int32} (hd : decode cc pc = .ok (.ishr, 1)) (k : sm_W p l e R s m args below meth c A Q G nL kc ks (pc + 1) (sm_I (x >>> (y &&& 31)) :: stk) lo μ) : sm_W p l e R s m args below meth c A Q G nL kc ks pc (sm_I y :: sm_I x :: stk) lo μ := by
  intro H locs ls hP hD hS hL
  exact lv_ishr C.1 C.2.1 hd (k H locs ls hP hD hS hL)
theorem sr_idiv (C : sm_C p s m args c cc nL own A G) {x y : Int32} (hz : ¬ y = 0) (hd : decode cc pc = .ok (.idiv, 1)) (k : sm_W p l e R s m args below meth c A Q G nL kc ks (pc + 1) (sm_I (x / y) :: stk) lo μ) : sm_W p l e R s m args below meth c A Q G nL kc ks pc (sm_I y :: sm_I x :: stk) lo μ := by
  intro H locs ls hP hD hS hL
  exact lv_idiv C.1 C.2.1 hd hz (k H locs ls hP hD hS hL)
theorem sr_irem (C : sm_C p s m args c cc nL own A G) {x y : Int32} (hz : ¬ y = 0) (hd : decode cc pc = .ok (.irem, 1)) (k : sm_W p l e R s m args below meth c A Q G nL kc ks (pc + 1) (sm_I (x % y) :: stk) lo μ) : sm_W p l e R s m args below meth c A Q G nL kc ks pc (sm_I y :: sm_I x :: stk) lo μ := by
  intro H locs ls hP hD hS hL
  exact lv_irem C.1 C.2.1 hd hz (by rw [sm_rem]; exact k H locs ls hP hD hS hL)
theorem sr_iushr (C : sm_C p s m args c cc nL own A G) {x y : Int32} (hd : decode cc pc = .ok (.iushr, 1)) (k : sm_W p l e R s m args below meth c A Q G nL kc ks (pc + 1) (sm_I (x.toUInt32 >>> (y.toUInt32 &&& Int32.toUInt32 31)).toInt32 :: stk) lo μ) : sm_W p l e R s m args below meth c A Q G nL kc ks pc (sm_I y :: sm_I x :: stk) lo μ := by
  intro H locs ls hP hD hS hL
  exact lv_iushr C.1 C.2.1 hd rfl (k H locs ls hP hD hS hL)
theorem sr_ineg (C : sm_C p s m args c cc nL own A G) {x : Int32} (hd : decode cc pc = .ok (.ineg, 1)) (k : sm_W p l e R s m args below meth c A Q G nL kc ks (pc + 1) (sm_I (-x) :: stk) lo μ) : sm_W p l e R s m args below meth c A Q G nL kc ks pc (sm_I x :: stk) lo μ := by
  intro H locs ls hP hD hS hL
  exact lv_ineg C.1 C.2.1 hd (k H locs ls hP hD hS hL)
theorem sr_i2b (C : sm_C p s m args c cc nL own A G) {x : Int32} (hd : decode cc pc = .ok (.i2b, 1)) (k : sm_W p l e R s m args below meth c A Q G nL kc ks (pc + 1) (sm_I x.toInt8.toInt32 :: stk) lo μ) : sm_W p l e R s m args below meth c A Q G nL kc ks pc (sm_I x :: stk) lo μ := by
  intro H locs ls hP hD hS hL
  exact lv_i2b C.1 C.2.1 hd rfl (k H locs ls hP hD hS hL)
theorem sr_i2s (C : sm_C p s m args c cc nL own A G) {x : Int32} (hd : decode cc pc = .ok (.i2s, 1)) (k : sm_W p l e R s m args below meth c A Q G nL kc ks (pc + 1) (sm_I x.toInt16.toInt32 :: stk) lo μ) : sm_W p l e R s m args below meth c A Q G nL kc ks pc (sm_I x :: stk) lo μ := by
  intro H locs ls hP hD hS hL
  exact lv_i2s C.1 C.2.1 hd rfl (k H locs ls hP hD hS hL)
theorem sr_i2c (C : sm_C p s m args c cc nL own A G) {x : Int32} (hd : decode cc pc = .ok (.i2c, 1)) (k : sm_W p l e R s m args below meth c A Q G nL kc ks (pc + 1) (sm_I (x.toUInt32 % 65536).toInt32 :: stk) lo μ) : sm_W p l e R s m args below meth c A Q G nL kc ks pc (sm_I x :: stk) lo μ := by
  intro H locs ls hP hD hS hL
  exact lv_i2c C.1 C.2.1 hd rfl (k H locs ls hP hD hS hL)
theorem sr_i2l (C : sm_C p s m args c cc nL own A G) {x : Int32} (hd : decode cc pc = .ok (.i2l, 1)) (k : sm_W p l e R s m args below meth c A Q G nL kc ks (pc + 1) (sm_L x.toInt64 :: stk) lo μ) : sm_W p l e R s m args below meth c A Q G nL kc ks pc (sm_I x :: stk) lo μ := by
  intro H locs ls hP hD hS hL
  exact lv_i2l C.1 C.2.1 hd rfl (k H locs ls hP hD hS hL)
theorem sr_l2i (C : sm_C p s m args c cc nL own A G) {x : Int64} (hd : decode cc pc = .ok (.l2i, 1)) (k : sm_W p l e R s m args below meth c A Q G nL kc ks (pc + 1) (sm_I x.toInt32 :: stk) lo μ) : sm_W p l e R s m args below meth c A Q G nL kc ks pc (sm_L x :: stk) lo μ := by
  intro H locs ls hP hD hS hL
  exact lv_l2i C.1 C.2.1 hd rfl (k H locs ls hP hD hS hL)
theorem sr_land (C : sm_C p s m args c cc nL own A G) {x y : Int64} (hd : decode cc pc = .ok (.land, 1)) (k : sm_W p l e R s m args below meth c A Q G nL kc ks (pc + 1) (sm_L (x &&& y) :: stk) lo μ) : sm_W p l e R s m args below meth c A Q G nL kc ks pc (sm_L y :: sm_L x :: stk) lo μ := by
  intro H locs ls hP hD hS hL
  exact lv_land C.1 C.2.1 hd (k H locs ls hP hD hS hL)
theorem sr_lor (C : sm_C p s m args c cc nL own A G) {x y : Int64} (hd : decode cc pc = .ok (.lor, 1)) (k : sm_W p l e R s m args below meth c A Q G nL kc ks (pc + 1) (sm_L (x ||| y) :: stk) lo μ) : sm_W p l e R s m args below meth c A Q G nL kc ks pc (sm_L y :: sm_L x :: stk) lo μ := by
  intro H locs ls hP hD hS hL
  exact lv_lor C.1 C.2.1 hd (k H locs ls hP hD hS hL)
theorem sr_lshl (C : sm_C p s m args c cc nL own A G) {x : Int64} {y : Int32} (hd : decode cc pc = .ok (.lshl, 1)) (k : sm_W p l e R s m args below meth c A Q G nL kc ks (pc + 1) (sm_L (x <<< (y.toInt64 &&& 63)) :: stk) lo μ) : sm_W p l e R s m args below meth c A Q G nL kc ks pc (sm_I y :: sm_L x :: stk) lo μ := by
  intro H locs ls hP hD hS hL
  exact lv_lshl C.1 C.2.1 hd rfl (k H locs ls hP hD hS hL)
theorem sr_lshr (C : sm_C p s m args c cc nL own A G) {x : Int64} {y : Int32} (hd : decode cc pc = .ok (.lshr, 1)) (k : sm_W p l e R s m args below meth c A Q G nL kc ks (pc + 1) (sm_L (x >>> (y.toInt64 &&& 63)) :: stk) lo μ) : sm_W p l e R s m args below meth c A Q G nL kc ks pc (sm_I y :: sm_L x :: stk) lo μ := by
  intro H locs ls hP hD hS hL
  exact lv_lshr C.1 C.2.1 hd rfl (k H locs ls hP hD hS hL)
theorem sr_lushr (C : sm_C p s m args c cc nL own A G) {x : Int64} {y : Int32} (hd : decode cc pc = .ok (.lushr, 1)) (k : sm_W p l e R s m args below meth c A Q G nL kc ks (pc + 1) (sm_L (x.toUInt64 >>> (y.toInt64.toUInt64 &&& Int64.toUInt64 63)).toInt64 :: stk) lo μ) : sm_W p l e R s m args below meth c A Q G nL kc ks pc (sm_I y :: sm_L x :: stk) lo μ := by
  intro H locs ls hP hD hS hL
  exact lv_lushr C.1 C.2.1 hd rfl (k H locs ls hP hD hS hL)
theorem sr_ldc2 (C : sm_C p s m args c cc nL own A G) {ix : Nat} {v : Int64} (hw : Cond.constantLong own ix v ∈ sm_tbl) (hd : decode cc pc = .ok (.ldc2_w ix, 3)) (k : sm_W p l e R s m args below meth c A Q G nL kc ks (pc + 3) (sm_L v :: stk) lo μ) : sm_W p l e R s m args below meth c A Q G nL kc ks pc stk lo μ := by
  intro H locs ls hP hD hS hL
  exact lv_ldc2 C.1 C.2.1 C.2.2.2.1 (C.2.2.2.2.1 _ hw) hd (k H locs ls hP hD hS hL)
theorem sr_dup (C : sm_C p s m args c cc nL own A G) {v : sm_V} (h1 : sm_cat v = 1) (hd : decode cc pc = .ok (.dup, 1)) (k : sm_W p l e R s m args below meth c A Q G nL kc ks (pc + 1) (v :: v :: stk) lo μ) : sm_W p l e R s m args below meth c A Q G nL kc ks pc (v :: stk) lo μ := by
  intro H locs ls hP hD hS hL
  exact lv_dup C.1 C.2.1 hd ((sm_cat_cv G.1 v).trans h1) (k H locs ls hP hD hS hL)
theorem sr_dup2 (C : sm_C p s m args c cc nL own A G) {v w : sm_V} (h1 : sm_cat v = 1) (h2 : sm_cat w = 1) (hd : decode cc pc = .ok (.dup2, 1)) (k : sm_W p l e R s m args below meth c A Q G nL kc ks (pc + 1) (v :: w :: v :: w :: stk) lo μ) : sm_W p l e R s m args below meth c A Q G nL kc ks pc (v :: w :: stk) lo μ := by
  intro H locs ls hP hD hS hL
  exact lv_dup2_11 C.1 C.2.1 hd ((sm_cat_cv G.1 v).trans h1) ((sm_cat_cv G.1 w).trans h2) (k H locs ls hP hD hS hL)
theorem sr_pop (C : sm_C p s m args c cc nL own A G) {v : sm_V} (h1 : sm_cat v = 1) (hd : decode cc pc = .ok (.pop, 1)) (k : sm_W p l e R s m args below meth c A Q G nL kc ks (pc + 1) stk lo μ) : sm_W p l e R s m args below meth c A Q G nL kc ks pc (v :: stk) lo μ := by
  intro H locs ls hP hD hS hL
  exact lv_pop C.1 C.2.1 hd ((sm_cat_cv G.1 v).trans h1) (k H locs ls hP hD hS hL)
theorem sr_goto (C : sm_C p s m args c cc nL own A G) {off : Int} {tgt : Nat} (ht : (pc : Int) + off = (tgt : Int)) (hd : decode cc pc = .ok (.goto off, 3)) (k : sm_W p l e R s m args below meth c A Q G nL kc ks tgt stk lo μ) : sm_W p l e R s m args below meth c A Q G nL kc ks pc stk lo μ := by
  intro H locs ls hP hD hS hL
  exact lv_goto C.1 C.2.1 hd ht (k H locs ls hP hD hS hL)
theorem sr_icmp_eq (C : sm_C p s m args c cc nL own A G) {x y : Int32} {off : Int} {tgt : Nat} (hd : decode cc pc = .ok (.if_icmp .eq off, 3)) (ht : (pc : Int) + off = (tgt : Int)) (kt : x = y → sm_W p l e R s m args below meth c A Q G nL kc ks tgt stk lo μ) (kf : ¬ x = y → sm_W p l e R s m args below meth c A Q G nL kc ks (pc + 3) stk lo μ) : sm_W p l e R s m args below meth c A Q G nL kc ks pc (sm_I y :: sm_I x :: stk) lo μ := by
  intro H locs ls hP hD hS hL
  exact lv_icmp_eq C.1 C.2.1 hd ht (fun q => kt q H locs ls hP hD hS hL) (fun q => kf q H locs ls hP hD hS hL)
theorem sr_if_eq (C : sm_C p s m args c cc nL own A G) {x : Int32} {off : Int} {tgt : Nat} (hd : decode cc pc = .ok (.ifCond .eq off, 3)) (ht : (pc : Int) + off = (tgt : Int)) (kt : x = 0 → sm_W p l e R s m args below meth c A Q G nL kc ks tgt stk lo μ) (kf : ¬ x = 0 → sm_W p l e R s m args below meth c A Q G nL kc ks (pc + 3) stk lo μ) : sm_W p l e R s m args below meth c A Q G nL kc ks pc (sm_I x :: stk) lo μ := by
  intro H locs ls hP hD hS hL
  exact lv_if_eq C.1 C.2.1 hd ht (fun q => kt q H locs ls hP hD hS hL) (fun q => kf q H locs ls hP hD hS hL)
theorem sr_icmp_ne (C : sm_C p s m args c cc nL own A G) {x y : Int32} {off : Int} {tgt : Nat} (hd : decode cc pc = .ok (.if_icmp .ne off, 3)) (ht : (pc : Int) + off = (tgt : Int)) (kt : ¬ x = y → sm_W p l e R s m args below meth c A Q G nL kc ks tgt stk lo μ) (kf : x = y → sm_W p l e R s m args below meth c A Q G nL kc ks (pc + 3) stk lo μ) : sm_W p l e R s m args below meth c A Q G nL kc ks pc (sm_I y :: sm_I x :: stk) lo μ := by
  intro H locs ls hP hD hS hL
  exact lv_icmp_ne C.1 C.2.1 hd ht (fun q => kt q H locs ls hP hD hS hL) (fun q => kf q H locs ls hP hD hS hL)
theorem sr_if_ne (C : sm_C p s m args c cc nL own A G) {x : Int32} {off : Int} {tgt : Nat} (hd : decode cc pc = .ok (.ifCond .ne off, 3)) (ht : (pc : Int) + off = (tgt : Int)) (kt : ¬ x = 0 → sm_W p l e R s m args below meth c A Q G nL kc ks tgt stk lo μ) (kf : x = 0 → sm_W p l e R s m args below meth c A Q G nL kc ks (pc + 3) stk lo μ) : sm_W p l e R s m args below meth c A Q G nL kc ks pc (sm_I x :: stk) lo μ := by
  intro H locs ls hP hD hS hL
  exact lv_if_ne C.1 C.2.1 hd ht (fun q => kt q H locs ls hP hD hS hL) (fun q => kf q H locs ls hP hD hS hL)
theorem sr_icmp_lt (C : sm_C p s m args c cc nL own A G) {x y : Int32} {off : Int} {tgt : Nat} (hd : decode cc pc = .ok (.if_icmp .lt off, 3)) (ht : (pc : Int) + off = (tgt : Int)) (kt : x < y → sm_W p l e R s m args below meth c A Q G nL kc ks tgt stk lo μ) (kf : ¬ x < y → sm_W p l e R s m args below meth c A Q G nL kc ks (pc + 3) stk lo μ) : sm_W p l e R s m args below meth c A Q G nL kc ks pc (sm_I y :: sm_I x :: stk) lo μ := by
  intro H locs ls hP hD hS hL
  exact lv_icmp_lt C.1 C.2.1 hd ht (fun q => kt q H locs ls hP hD hS hL) (fun q => kf q H locs ls hP hD hS hL)
theorem sr_if_lt (C : sm_C p s m args c cc nL own A G) {x : Int32} {off : Int} {tgt : Nat} (hd : decode cc pc = .ok (.ifCond .lt off, 3)) (ht : (pc : Int) + off = (tgt : Int)) (kt : x < 0 → sm_W p l e R s m args below meth c A Q G nL kc ks tgt stk lo μ) (kf : ¬ x < 0 → sm_W p l e R s m args below meth c A Q G nL kc ks (pc + 3) stk lo μ) : sm_W p l e R s m args below meth c A Q G nL kc ks pc (sm_I x :: stk) lo μ := by
  intro H locs ls hP hD hS hL
  exact lv_if_lt C.1 C.2.1 hd ht (fun q => kt q H locs ls hP hD hS hL) (fun q => kf q H locs ls hP hD hS hL)
theorem sr_icmp_ge (C : sm_C p s m args c cc nL own A G) {x y : Int32} {off : Int} {tgt : Nat} (hd : decode cc pc = .ok (.if_icmp .ge off, 3)) (ht : (pc : Int) + off = (tgt : Int)) (kt : y ≤ x → sm_W p l e R s m args below meth c A Q G nL kc ks tgt stk lo μ) (kf : ¬ y ≤ x → sm_W p l e R s m args below meth c A Q G nL kc ks (pc + 3) stk lo μ) : sm_W p l e R s m args below meth c A Q G nL kc ks pc (sm_I y :: sm_I x :: stk) lo μ := by
  intro H locs ls hP hD hS hL
  exact lv_icmp_ge C.1 C.2.1 hd ht (fun q => kt q H locs ls hP hD hS hL) (fun q => kf q H locs ls hP hD hS hL)
theorem sr_if_ge (C : sm_C p s m args c cc nL own A G) {x : Int32} {off : Int} {tgt : Nat} (hd : decode cc pc = .ok (.ifCond .ge off, 3)) (ht : (pc : Int) + off = (tgt : Int)) (kt : 0 ≤ x → sm_W p l e R s m args below meth c A Q G nL kc ks tgt stk lo μ) (kf : ¬ 0 ≤ x → sm_W p l e R s m args below meth c A Q G nL kc ks (pc + 3) stk lo μ) : sm_W p l e R s m args below meth c A Q G nL kc ks pc (sm_I x :: stk) lo μ := by
  intro H locs ls hP hD hS hL
  exact lv_if_ge C.1 C.2.1 hd ht (fun q => kt q H locs ls hP hD hS hL) (fun q => kf q H locs ls hP hD hS hL)
theorem sr_icmp_gt (C : sm_C p s m args c cc nL own A G) {x y : Int32} {off : Int} {tgt : Nat} (hd : decode cc pc = .ok (.if_icmp .gt off, 3)) (ht : (pc : Int) + off = (tgt : Int)) (kt : y < x → sm_W p l e R s m args below meth c A Q G nL kc ks tgt stk lo μ) (kf : ¬ y < x → sm_W p l e R s m args below meth c A Q G nL kc ks (pc + 3) stk lo μ) : sm_W p l e R s m args below meth c A Q G nL kc ks pc (sm_I y :: sm_I x :: stk) lo μ := by
  intro H locs ls hP hD hS hL
  exact lv_icmp_gt C.1 C.2.1 hd ht (fun q => kt q H locs ls hP hD hS hL) (fun q => kf q H locs ls hP hD hS hL)
theorem sr_if_gt (C : sm_C p s m args c cc nL own A G) {x : Int32} {off : Int} {tgt : Nat} (hd : decode cc pc = .ok (.ifCond .gt off, 3)) (ht : (pc : Int) + off = (tgt : Int)) (kt : 0 < x → sm_W p l e R s m args below meth c A Q G nL kc ks tgt stk lo μ) (kf : ¬ 0 < x → sm_W p l e R s m args below meth c A Q G nL kc ks (pc + 3) stk lo μ) : sm_W p l e R s m args below meth c A Q G nL kc ks pc (sm_I x :: stk) lo μ := by
  intro H locs ls hP hD hS hL
  exact lv_if_gt C.1 C.2.1 hd ht (fun q => kt q H locs ls hP hD hS hL) (fun q => kf q H locs ls hP hD hS hL)
theorem sr_icmp_le (C : sm_C p s m args c cc nL own A G) {x y : Int32} {off : Int} {tgt : Nat} (hd : decode cc pc = .ok (.if_icmp .le off, 3)) (ht : (pc : Int) + off = (tgt : Int)) (kt : x ≤ y → sm_W p l e R s m args below meth c A Q G nL kc ks tgt stk lo μ) (kf : ¬ x ≤ y → sm_W p l e R s m args below meth c A Q G nL kc ks (pc + 3) stk lo μ) : sm_W p l e R s m args below meth c A Q G nL kc ks pc (sm_I y :: sm_I x :: stk) lo μ := by
  intro H locs ls hP hD hS hL
  exact lv_icmp_le C.1 C.2.1 hd ht (fun q => kt q H locs ls hP hD hS hL) (fun q => kf q H locs ls hP hD hS hL)
theorem sr_if_le (C : sm_C p s m args c cc nL own A G) {x : Int32} {off : Int} {tgt : Nat} (hd : decode cc pc = .ok (.ifCond .le off, 3)) (ht : (pc : Int) + off = (tgt : Int)) (kt : x ≤ 0 → sm_W p l e R s m args below meth c A Q G nL kc ks tgt stk lo μ) (kf : ¬ x ≤ 0 → sm_W p l e R s m args below meth c A Q G nL kc ks (pc + 3) stk lo μ) : sm_W p l e R s m args below meth c A Q G nL kc ks pc (sm_I x :: stk) lo μ := by
  intro H locs ls hP hD hS hL
  exact lv_if_le C.1 C.2.1 hd ht (fun q => kt q H locs ls hP hD hS hL) (fun q => kf q H locs ls hP hD hS hL)
theorem sr_ifnullR (C : sm_C p s m args c cc nL own A G) {off : Int} {x : Nat} (hd : decode cc pc = .ok (.ifnull off, 3)) (k : sm_W p l e R s m args below meth c A Q G nL kc ks (pc + 3) stk lo μ) : sm_W p l e R s m args below meth c A Q G nL kc ks pc (sm_R x :: stk) lo μ := by
  intro H locs ls hP hD hS hL
  exact lv_ifnull C.1 C.2.1 hd (k H locs ls hP hD hS hL)
theorem sr_ifnullN (C : sm_C p s m args c cc nL own A G) {off : Int} {tgt : Nat} (ht : (pc : Int) + off = (tgt : Int)) (hd : decode cc pc = .ok (.ifnull off, 3)) (k : sm_W p l e R s m args below meth c A Q G nL kc ks tgt stk lo μ) : sm_W p l e R s m args below meth c A Q G nL kc ks pc (sm_N :: stk) lo μ := by
  intro H locs ls hP hD hS hL
  exact lv_ifnullN C.1 C.2.1 hd ht (k H locs ls hP hD hS hL)
theorem sr_ifnonnullR (C : sm_C p s m args c cc nL own A G) {off : Int} {tgt : Nat} {x : Nat} (ht : (pc : Int) + off = (tgt : Int)) (hd : decode cc pc = .ok (.ifnonnull off, 3)) (k : sm_W p l e R s m args below meth c A Q G nL kc ks tgt stk lo μ) : sm_W p l e R s m args below meth c A Q G nL kc ks pc (sm_R x :: stk) lo μ := by
  intro H locs ls hP hD hS hL
  exact lv_ifnonnull C.1 C.2.1 hd ht (k H locs ls hP hD hS hL)
theorem sr_ifnonnullN (C : sm_C p s m args c cc nL own A G) {off : Int} (hd : decode cc pc = .ok (.ifnonnull off, 3)) (k : sm_W p l e R s m args below meth c A Q G nL kc ks (pc + 3) stk lo μ) : sm_W p l e R s m args below meth c A Q G nL kc ks pc (sm_N :: stk) lo μ := by
  intro H locs ls hP hD hS hL
  exact lv_ifnonnullN C.1 C.2.1 hd (k H locs ls hP hD hS hL)
theorem sr_mask (C : sm_C p s m args c cc nL own A G) (zs : List Nat) {lo2 : List (Nat × sm_V)} (h : zs.filterMap (fun z => lo[z]?) = lo2) (k : sm_W p l e R s m args below meth c A Q G nL kc ks pc stk lo2 μ) : sm_W p l e R s m args below meth c A Q G nL kc ks pc stk lo μ := by
  intro H locs ls hP hD hS hL
  refine k H locs ls hP hD hS (lv_sub hL zs ?_)
  subst h
  simp [lv_pick, List.map_filterMap]
theorem sr_tableIn (C : sm_C p s m args c cc nL own A G) {dflt tl th : Int} {offs : Array Int} {len : Nat} {x : Int32} {off : Int} {tgt : Nat} (hd : decode cc pc = .ok (.tableswitch dflt tl th offs, len)) (h1 : ¬ x.toInt < tl) (h2 : ¬ th < x.toInt) (ho : offs[(x.toInt - tl).toNat]? = some off) (ht : (pc : Int) + off = (tgt : Int)) (k : sm_W p l e R s m args below meth c A Q G nL kc ks tgt stk lo μ) : sm_W p l e R s m args below meth c A Q G nL kc ks pc (sm_I x :: stk) lo μ := by
  intro H locs ls hP hD hS hL
  exact lv_tableIn C.1 C.2.1 hd h1 h2 ho ht (k H locs ls hP hD hS hL)
theorem sr_tableOut (C : sm_C p s m args c cc nL own A G) {dflt tl th : Int} {offs : Array Int} {len : Nat} {x : Int32} {tgt : Nat} (hd : decode cc pc = .ok (.tableswitch dflt tl th offs, len)) (h : x.toInt < tl ∨ th < x.toInt) (ht : (pc : Int) + dflt = (tgt : Int)) (k : sm_W p l e R s m args below meth c A Q G nL kc ks tgt stk lo μ) : sm_W p l e R s m args below meth c A Q G nL kc ks pc (sm_I x :: stk) lo μ := by
  intro H locs ls hP hD hS hL
  exact lv_tableOut C.1 C.2.1 hd h ht (k H locs ls hP hD hS hL)
theorem sr_lookup (C : sm_C p s m args c cc nL own A G) {dflt : Int} {ps : Array (Int × Int)} {len : Nat} {x : Int32} {off : Int} {tgt : Nat} (hd : decode cc pc = .ok (.lookupswitch dflt ps, len)) (hp : (ps.toList.zip (ps.toList.drop 1)).all (fun (a, next) => a.1 < next.1) = true) (ho : Op.lookupswitch.offset ps.toList dflt x.toInt = off) (ht : (pc : Int) + off = (tgt : Int)) (k : sm_W p l e R s m args below meth c A Q G nL kc ks tgt stk lo μ) : sm_W p l e R s m args below meth c A Q G nL kc ks pc (sm_I x :: stk) lo μ := by
  intro H locs ls hP hD hS hL
  exact lv_lookup C.1 C.2.1 hd hp ho ht (k H locs ls hP hD hS hL)

def sm_F (ci : Nat) (Cn : String) (T : u_T) (t : Nat → FieldType) (N : Nat) : Prop := sm_cls[ci]? = some (Cn, T, N) ∧ (∀ w ∈ u_ws Cn T N, w ∈ sm_tbl) ∧ (∀ k, k < N → parseFieldDescriptor (T k).2.2.1 = some (t k)) ∧ (∀ a, a < N → ∀ b, b < N → a ≠ b → (T a).2.1 ≠ (T b).2.1)
theorem sm_obj {k ci : Nat} {fl : List Nat} (hl : sm_lays[k]? = some (1, ci, fl)) : (sm_wl G μ)[k]? = some (G.1 k, .inr (ci, fl.mapIdx (fun j d => sm_fv G.1 (μ k) j d))) := sm_wl_get hl
theorem sm_arr {k n : Nat} {fl : List Nat} (hl : sm_lays[k]? = some (0, n, fl)) : (sm_wl G μ)[k]? = some (G.1 k, .inl (G.2.2.2.1, n, .inl (μ k))) := sm_wl_get hl
theorem sm_cE1 (ad : Nat → Nat) (cI cS : ClassId) (ci : Nat) (fl : List Nat) (f : Nat → Int32) : sm_cE ad cI cS (1, ci, fl) f = .inr (ci, fl.mapIdx (fun j d => sm_fv ad f j d)) := rfl
theorem sm_cE0 (ad : Nat → Nat) (cI cS : ClassId) (n : Nat) (fl : List Nat) (f : Nat → Int32) : sm_cE ad cI cS (0, n, fl) f = .inl (cI, n, .inl f) := rfl
theorem sm_setI {k ci j : Nat} {fl : List Nat} {v : Int32} (hl : sm_lays[k]? = some (1, ci, fl)) (hj : fl[j]? = some 0) : (sm_wl G μ).set k (G.1 k, .inr (ci, (fl.mapIdx (fun j d => sm_fv G.1 (μ k) j d)).set j (.int v))) = sm_wl G (sm_st μ k j v) := by
  have h := sm_wl_set (G := G) (μ := μ) (f := upd (μ k) j v) hl
  rw [sm_cE1] at h
  rw [sm_fl_set hj]
  exact h
theorem sm_setS {k ci j : Nat} {fl : List Nat} {v : Int32} (hl : sm_lays[k]? = some (1, ci, fl)) (hj : fl[j]? = some 1) : (sm_wl G μ).set k (G.1 k, .inr (ci, (fl.mapIdx (fun j d => sm_fv G.1 (μ k) j d)).set j (.ref (G.1 (100 + v.toNatClampNeg))))) = sm_wl G (sm_st μ k j v) := by
  have h := sm_wl_set (G := G) (μ := μ) (f := upd (μ k) j v) hl
  rw [sm_cE1] at h
  rw [sm_fl_setS hj]
  exact h
theorem sm_setA {k n i : Nat} {fl : List Nat} {v : Int32} (hl : sm_lays[k]? = some (0, n, fl)) : (sm_wl G μ).set k (G.1 k, .inl (G.2.2.2.1, n, .inl (upd (μ k) i v))) = sm_wl G (sm_st μ k i v) := by
  have h := sm_wl_set (G := G) (μ := μ) (f := upd (μ k) i v) hl
  rw [sm_cE0] at h
  exact h
theorem sm_setC {k0 k n a b z : Nat} {fl : List Nat} (hl : sm_lays[k]? = some (0, n, fl)) : (sm_wl G μ).set k (G.1 k, .inl (G.2.2.2.1, n, .inl (va_cpy (μ k0) (μ k) a b z))) = sm_wl G (sm_cpy μ k0 k a b z) := by
  have h := sm_wl_set (G := G) (μ := μ) (f := va_cpy (μ k0) (μ k) a b z) hl
  rw [sm_cE0] at h
  exact h
theorem sm_rows {k n : Nat} {fl : List Nat} (hl : sm_lays[k]? = some (2, n, fl)) : (sm_wl G μ)[k]? = some (G.1 k, .inl (G.2.2.2.2, n, .inr (.inr (.inr (.inr (fun i => (fl[i]?).map G.1)))))) := sm_wl_get hl

theorem sr_getI (C : sm_C p s m args c cc nL own A G) {ix k ci N : Nat} {Cn : String} {T : u_T} {t : Nat → FieldType} {fl : List Nat} (F : sm_F ci Cn T t N) (j : Nat) (hw : Cond.fieldLink own ix (T j).1 (T j).2.1 (T j).2.2.1 ∈ sm_tbl) (hl : sm_lays[k]? = some (1, ci, fl)) (hj : fl[j]? = some 0) (hN : j < N) (hd : decode cc pc = .ok (.getfield ix, 3)) (k2 : sm_W p l e R s m args below meth c A Q G nL kc ks (pc + 3) (sm_I (μ k j) :: stk) lo μ) : sm_W p l e R s m args below meth c A Q G nL kc ks pc (sm_R k :: stk) lo μ := by
  intro H locs ls hP hD hS hL
  exact va_get C.1 C.2.1 C.2.2.2.2.1 F.2.1 C.2.2.2.1 C.2.2.2.2.2.1 hP k (sm_obj hl) F.1 j hN (C.2.2.2.2.1 _ hw) (fun _ h => h) (v := sm_cv G.1 (sm_I (μ k j))) (by rw [List.getElem?_mapIdx, hj]; rfl) hd (k2 H locs ls hP hD hS hL)
theorem sr_getR (C : sm_C p s m args c cc nL own A G) {ix k ci N : Nat} {Cn : String} {T : u_T} {t : Nat → FieldType} {fl : List Nat} (F : sm_F ci Cn T t N) (j : Nat) (hw : Cond.fieldLink own ix (T j).1 (T j).2.1 (T j).2.2.1 ∈ sm_tbl) (hl : sm_lays[k]? = some (1, ci, fl)) {r : Nat} (hj : fl[j]? = some (r + 2)) (hN : j < N) (hd : decode cc pc = .ok (.getfield ix, 3)) (k2 : sm_W p l e R s m args below meth c A Q G nL kc ks (pc + 3) (sm_R r :: stk) lo μ) : sm_W p l e R s m args below meth c A Q G nL kc ks pc (sm_R k :: stk) lo μ := by
  intro H locs ls hP hD hS hL
  exact va_get C.1 C.2.1 C.2.2.2.2.1 F.2.1 C.2.2.2.1 C.2.2.2.2.2.1 hP k (sm_obj hl) F.1 j hN (C.2.2.2.2.1 _ hw) (fun _ h => h) (v := sm_cv G.1 (sm_R r)) (by rw [List.getElem?_mapIdx, hj]; rfl) hd (k2 H locs ls hP hD hS hL)
theorem sr_getS (C : sm_C p s m args c cc nL own A G) {ix k ci N : Nat} {Cn : String} {T : u_T} {t : Nat → FieldType} {fl : List Nat} (F : sm_F ci Cn T t N) (j : Nat) (hw : Cond.fieldLink own ix (T j).1 (T j).2.1 (T j).2.2.1 ∈ sm_tbl) (hl : sm_lays[k]? = some (1, ci, fl)) (hj : fl[j]? = some 1) (hN : j < N) (hd : decode cc pc = .ok (.getfield ix, 3)) (k2 : sm_W p l e R s m args below meth c A Q G nL kc ks (pc + 3) (sm_R (100 + (μ k j).toNatClampNeg) :: stk) lo μ) : sm_W p l e R s m args below meth c A Q G nL kc ks pc (sm_R k :: stk) lo μ := by
  intro H locs ls hP hD hS hL
  exact va_get C.1 C.2.1 C.2.2.2.2.1 F.2.1 C.2.2.2.1 C.2.2.2.2.2.1 hP k (sm_obj hl) F.1 j hN (C.2.2.2.2.1 _ hw) (fun _ h => h) (v := sm_cv G.1 (sm_R (100 + (μ k j).toNatClampNeg))) (by rw [List.getElem?_mapIdx, hj]; rfl) hd (k2 H locs ls hP hD hS hL)
theorem sr_putI (C : sm_C p s m args c cc nL own A G) {ix k ci N : Nat} {Cn : String} {T : u_T} {t : Nat → FieldType} {fl : List Nat} (F : sm_F ci Cn T t N) (j : Nat) (hw : Cond.fieldLink own ix (T j).1 (T j).2.1 (T j).2.2.1 ∈ sm_tbl) (hl : sm_lays[k]? = some (1, ci, fl)) {x : Int32} (hty : parseFieldDescriptor (T j).2.2.1 = some .int) (hj : fl[j]? = some 0) (hN : j < N) (hfin : (T j).2.2.2 = false) (hd : decode cc pc = .ok (.putfield ix, 3)) (k2 : sm_W p l e R s m args below meth c A Q G nL kc ks (pc + 3) stk lo (sm_st μ k j x)) : sm_W p l e R s m args below meth c A Q G nL kc ks pc (sm_I x :: sm_R k :: stk) lo μ := by
  intro H locs ls hP hD hS hL
  have hlen : j < (fl.mapIdx (fun j d => sm_fv G.1 (μ k) j d)).length := by rw [List.length_mapIdx]; exact (List.getElem?_eq_some_iff.mp hj).1
  refine va_put C.1 C.2.1 C.2.2.2.2.1 F.2.1 t F.2.2.1 F.2.2.2 C.2.2.2.1 C.2.2.2.2.2.1 hP hD hS k (sm_obj hl) F.1 j hN (C.2.2.2.2.1 _ hw) (fun _ h => h) hfin (v := .int x) hty rfl rfl hlen hd (fun H1 locs1 hP1 hD1 hS1 => ?_)
  rw [sm_setI hl hj] at hP1 hD1
  exact k2 H1 locs1 ls hP1 hD1 hS1 hL
theorem sr_putZ (C : sm_C p s m args c cc nL own A G) {ix k ci N : Nat} {Cn : String} {T : u_T} {t : Nat → FieldType} {fl : List Nat} (F : sm_F ci Cn T t N) (j : Nat) (hw : Cond.fieldLink own ix (T j).1 (T j).2.1 (T j).2.2.1 ∈ sm_tbl) (hl : sm_lays[k]? = some (1, ci, fl)) {x : Int32} (hx : x = 0 ∨ x = 1) (hty : parseFieldDescriptor (T j).2.2.1 = some .boolean) (hj : fl[j]? = some 0) (hN : j < N) (hfin : (T j).2.2.2 = false) (hd : decode cc pc = .ok (.putfield ix, 3)) (k2 : sm_W p l e R s m args below meth c A Q G nL kc ks (pc + 3) stk lo (sm_st μ k j x)) : sm_W p l e R s m args below meth c A Q G nL kc ks pc (sm_I x :: sm_R k :: stk) lo μ := by
  intro H locs ls hP hD hS hL
  have hlen : j < (fl.mapIdx (fun j d => sm_fv G.1 (μ k) j d)).length := by rw [List.length_mapIdx]; exact (List.getElem?_eq_some_iff.mp hj).1
  refine va_put C.1 C.2.1 C.2.2.2.2.1 F.2.1 t F.2.2.1 F.2.2.2 C.2.2.2.1 C.2.2.2.2.2.1 hP hD hS k (sm_obj hl) F.1 j hN (C.2.2.2.2.1 _ hw) (fun _ h => h) hfin (v := .int x) hty (by rcases hx with rfl | rfl <;> rfl) (by rcases hx with rfl | rfl <;> rfl) hlen hd (fun H1 locs1 hP1 hD1 hS1 => ?_)
  rw [sm_setI hl hj] at hP1 hD1
  exact k2 H1 locs1 ls hP1 hD1 hS1 hL
theorem sr_putS (C : sm_C p s m args c cc nL own A G) {ix k ci N : Nat} {Cn : String} {T : u_T} {t : Nat → FieldType} {fl : List Nat} (F : sm_F ci Cn T t N) (j : Nat) (hw : Cond.fieldLink own ix (T j).1 (T j).2.1 (T j).2.2.1 ∈ sm_tbl) (hl : sm_lays[k]? = some (1, ci, fl)) {x : Int32} (hty : parseFieldDescriptor (T j).2.2.1 = some (.object "java/lang/String")) (hj : fl[j]? = some 1) (hN : j < N) (hfin : (T j).2.2.2 = false) (hd : decode cc pc = .ok (.putfield ix, 3)) (k2 : sm_W p l e R s m args below meth c A Q G nL kc ks (pc + 3) stk lo (sm_st μ k j x)) : sm_W p l e R s m args below meth c A Q G nL kc ks pc (sm_R (100 + x.toNatClampNeg) :: sm_R k :: stk) lo μ := by
  intro H locs ls hP hD hS hL
  have hlen : j < (fl.mapIdx (fun j d => sm_fv G.1 (μ k) j d)).length := by rw [List.length_mapIdx]; exact (List.getElem?_eq_some_iff.mp hj).1
  refine va_put C.1 C.2.1 C.2.2.2.2.1 F.2.1 t F.2.2.1 F.2.2.2 C.2.2.2.1 C.2.2.2.2.2.1 hP hD hS k (sm_obj hl) F.1 j hN (C.2.2.2.2.1 _ hw) (fun _ h => h) hfin (v := .ref (G.1 (100 + x.toNatClampNeg))) hty rfl rfl hlen hd (fun H1 locs1 hP1 hD1 hS1 => ?_)
  rw [sm_setS hl hj] at hP1 hD1
  exact k2 H1 locs1 ls hP1 hD1 hS1 hL
theorem sr_iald (C : sm_C p s m args c cc nL own A G) {k n : Nat} {fl : List Nat} (hl : sm_lays[k]? = some (0, n, fl)) {i : Int32} (hi : vp_in i n) (hd : decode cc pc = .ok (.iaload, 1)) (k2 : sm_W p l e R s m args below meth c A Q G nL kc ks (pc + 1) (sm_I (μ k i.toNatClampNeg) :: stk) lo μ) : sm_W p l e R s m args below meth c A Q G nL kc ks pc (sm_I i :: sm_R k :: stk) lo μ := by
  intro H locs ls hP hD hS hL
  exact va_iald C.1 C.2.1 C.2.2.2.2.2.1 hP k 0 (sm_arr hl) rfl hi hd (k2 H locs ls hP hD hS hL)
theorem sr_iast (C : sm_C p s m args c cc nL own A G) {k n : Nat} {fl : List Nat} (hl : sm_lays[k]? = some (0, n, fl)) {i x : Int32} (hi : vp_in i n) (hd : decode cc pc = .ok (.iastore, 1)) (k2 : sm_W p l e R s m args below meth c A Q G nL kc ks (pc + 1) stk lo (sm_st μ k i.toNatClampNeg x)) : sm_W p l e R s m args below meth c A Q G nL kc ks pc (sm_I x :: sm_I i :: sm_R k :: stk) lo μ := by
  intro H locs ls hP hD hS hL
  refine va_iast C.1 C.2.1 C.2.2.2.2.2.1 hP hD hS k 0 (sm_arr hl) rfl hi hd (fun H1 locs1 hP1 hD1 hS1 => ?_)
  rw [sm_setA hl] at hP1 hD1
  exact k2 H1 locs1 ls hP1 hD1 hS1 hL
theorem sr_alen (C : sm_C p s m args c cc nL own A G) {k n : Nat} {fl : List Nat} (hl : sm_lays[k]? = some (0, n, fl)) {v : Int32} (hv : Int32.ofNat n = v) (hd : decode cc pc = .ok (.arraylength, 1)) (k2 : sm_W p l e R s m args below meth c A Q G nL kc ks (pc + 1) (sm_I v :: stk) lo μ) : sm_W p l e R s m args below meth c A Q G nL kc ks pc (sm_R k :: stk) lo μ := by
  intro H locs ls hP hD hS hL
  exact va_alen C.1 C.2.1 C.2.2.2.2.2.1 hP k 0 (sm_arr hl) rfl hv hd (k2 H locs ls hP hD hS hL)
theorem sr_alenR (C : sm_C p s m args c cc nL own A G) {k n : Nat} {fl : List Nat} (hl : sm_lays[k]? = some (2, n, fl)) {v : Int32} (hv : Int32.ofNat n = v) (hd : decode cc pc = .ok (.arraylength, 1)) (k2 : sm_W p l e R s m args below meth c A Q G nL kc ks (pc + 1) (sm_I v :: stk) lo μ) : sm_W p l e R s m args below meth c A Q G nL kc ks pc (sm_R k :: stk) lo μ := by
  intro H locs ls hP hD hS hL
  exact va_alen C.1 C.2.1 C.2.2.2.2.2.1 hP k 1 (sm_rows hl) rfl hv hd (k2 H locs ls hP hD hS hL)
theorem sr_aald (C : sm_C p s m args c cc nL own A G) {k n r : Nat} {fl : List Nat} (hl : sm_lays[k]? = some (2, n, fl)) {i : Int32} (hi : vp_in i n) (hr : fl[i.toNatClampNeg]? = some r) (hd : decode cc pc = .ok (.aaload, 1)) (k2 : sm_W p l e R s m args below meth c A Q G nL kc ks (pc + 1) (sm_R r :: stk) lo μ) : sm_W p l e R s m args below meth c A Q G nL kc ks pc (sm_I i :: sm_R k :: stk) lo μ := by
  intro H locs ls hP hD hS hL
  have h9 := k2 H locs ls hP hD hS hL
  refine va_aldq C.1 C.2.1 C.2.2.2.2.2.1 hP k 1 (sm_rows hl) rfl hi hd ?_
  rw [hr]
  exact h9
theorem sr_tlenA (C : sm_C p s m args c cc nL own A G) {v : Int32} (hv : Int32.ofNat 7 = v) (hd : decode cc pc = .ok (.arraylength, 1)) (k2 : sm_W p l e R s m args below meth c A Q G nL kc ks (pc + 1) (sm_I v :: stk) lo μ) : sm_W p l e R s m args below meth c A Q G nL kc ks pc (sm_R 110 :: stk) lo μ := by
  intro H locs ls hP hD hS hL
  exact va_tlen C.1 C.2.1 C.2.2.2.2.2.2.2.1.2.1 hS hv hd (k2 H locs ls hP hD hS hL)
theorem sr_tlenB (C : sm_C p s m args c cc nL own A G) {v : Int32} (hv : Int32.ofNat 28 = v) (hd : decode cc pc = .ok (.arraylength, 1)) (k2 : sm_W p l e R s m args below meth c A Q G nL kc ks (pc + 1) (sm_I v :: stk) lo μ) : sm_W p l e R s m args below meth c A Q G nL kc ks pc (sm_R 111 :: stk) lo μ := by
  intro H locs ls hP hD hS hL
  exact va_tlen C.1 C.2.1 C.2.2.2.2.2.2.2.1.2.2.2.1 hS hv hd (k2 H locs ls hP hD hS hL)
theorem sr_getsA (C : sm_C p s m args c cc nL own A G) {ix : Nat} (hw : Cond.fieldLink own ix "SnowMoney$Kinds" "ABOVE" "[I" ∈ sm_tbl) (hd : decode cc pc = .ok (.getstatic ix, 3)) (k2 : sm_W p l e R s m args below meth c A Q G nL kc ks (pc + 3) (sm_R 110 :: stk) lo μ) : sm_W p l e R s m args below meth c A Q G nL kc ks pc stk lo μ := by
  intro H locs ls hP hD hS hL
  exact va_gets C.1 C.2.1 C.2.2.2.2.2.2.2.1.1 hS C.2.2.2.1 (C.2.2.2.2.1 _ hw) (fun _ h => h) hd (k2 H locs ls hP hD hS hL)
theorem sr_getsB (C : sm_C p s m args c cc nL own A G) {ix : Nat} (hw : Cond.fieldLink own ix "SnowMoney$Voices" "BODIES" "[I" ∈ sm_tbl) (hd : decode cc pc = .ok (.getstatic ix, 3)) (k2 : sm_W p l e R s m args below meth c A Q G nL kc ks (pc + 3) (sm_R 111 :: stk) lo μ) : sm_W p l e R s m args below meth c A Q G nL kc ks pc stk lo μ := by
  intro H locs ls hP hD hS hL
  exact va_gets C.1 C.2.1 C.2.2.2.2.2.2.2.1.2.2.1 hS C.2.2.2.1 (C.2.2.2.2.1 _ hw) (fun _ h => h) hd (k2 H locs ls hP hD hS hL)
end SMR
end
section

def sm_args : Nat → List sm_V → List (Nat × sm_V)
  | _, [] => []
  | i, v :: vs => (i, v) :: sm_args (if sm_cat v = 2 then i + 2 else i + 1) vs
theorem sm_args_eq (ad : Nat → Nat) : ∀ (i : Nat) (vs : List sm_V), lv_args i (vs.map (sm_cv ad)) = (sm_args i vs).map fun q => (q.1, sm_cv ad q.2)
  | _, [] => rfl
  | i, v :: vs => by
    simp only [List.map_cons, lv_args, sm_args, sm_cat_cv]
    rw [sm_args_eq ad _ vs]
def sm_Pre (G : sm_G) (sz : Nat) (As : List sm_V) (μ : sm_Mem) : Array Value → State → Prop := va_Pc (As.map (sm_cv G.1)) (fun U => U.heap.size = sz ∧ va_P (sm_D G) sm_cls (sm_wl G μ) U.heap ∧ va_K (sm_D G) sm_cls (sm_tys G) U ∧ va_D (fun _ => True) (sm_wl G μ) ∧ sm_SF G.1 (va_A (sm_wl G μ) sz) U U.heap ∧ sm_SR G.1 U)
def sm_Po (G : sm_G) (A : Nat → Prop) (μ : sm_Mem) (t : State) : Prop := va_P (sm_D G) sm_cls (sm_wl G μ) t.heap ∧ va_K (sm_D G) sm_cls (sm_tys G) t ∧ va_D A (sm_wl G μ)
theorem sm_blind {G : sm_G} {sz : Nat} {As : List sm_V} {μ : sm_Mem} : FrameBlind (sm_Pre G sz As μ) := by
  intro a U g mk h
  obtain ⟨h0, h1, h2, h3, h4, h5, h6⟩ := h
  exact ⟨h0, h1, h2, va_K.moved (u := U) (U := U.calling g mk a) (Vm.Alike.refl U.vm) h3, h4, sm_SF.moved (u := U) (U := U.calling g mk a) (Vm.Alike.refl U.vm) h5, sm_SR.same (s := U) (U := U.calling g mk a) rfl h6⟩
def sm_MI (l : Launch) (y : MethodName) (cc : ByteArray) (nL : Nat) (ret : Option FieldType) (rm : Room) (As : List sm_V) (μ : sm_Mem) (K : Int32 → sm_Mem → Prop) : Prop := ∀ (G : sm_G) (sz : Nat), Met l y (.code y cc nL ret :: sm_tbl) rm (sm_Pre G sz As μ) (va_Qi K (fun μ' t => sm_Po G (va_A (sm_wl G μ) sz) μ' t) (va_A (sm_wl G μ) sz)) 0 0 (va_A (sm_wl G μ) sz)
def sm_MV (l : Launch) (y : MethodName) (cc : ByteArray) (nL : Nat) (rm : Room) (As : List sm_V) (μ : sm_Mem) (K : sm_Mem → Prop) : Prop := ∀ (G : sm_G) (sz : Nat), Met l y (.code y cc nL none :: sm_tbl) rm (sm_Pre G sz As μ) (va_Qv K (fun μ' t => sm_Po G (va_A (sm_wl G μ) sz) μ' t) (va_A (sm_wl G μ) sz)) 0 0 (va_A (sm_wl G μ) sz)
def sm_MR (l : Launch) (y : MethodName) (cc : ByteArray) (nL : Nat) (ret : Option FieldType) (rm : Room) (As : List sm_V) (μ : sm_Mem) (K : Option Nat → sm_Mem → Prop) : Prop := ∀ (G : sm_G) (sz : Nat), Met l y (.code y cc nL ret :: sm_tbl) rm (sm_Pre G sz As μ) (va_Qq (fun r μ' => ∃ k : Option Nat, r = k.map G.1 ∧ K k μ') (fun μ' t => sm_Po G (va_A (sm_wl G μ) sz) μ' t) (va_A (sm_wl G μ) sz)) 0 0 (va_A (sm_wl G μ) sz)

theorem sm_ofI {l : Launch} {y : MethodName} {cc : ByteArray} {nL : Nat} {ty : FieldType} {rm : Room} {As : List sm_V} {μ : sm_Mem} {K : Int32 → sm_Mem → Prop} (hy : plainName y.cls = true) (hn : ∀ ad : Nat → Nat, (lg_sl (As.map (sm_cv ad))).length ≤ nL) (body : ∀ (p : Program) (e : Env) (s : State) (m : MethodId) (args : Array Value) (below : List Frame) (meth : Method) (c : Code) (A : Nat → Prop) (Q : State → Prop) (G : sm_G), sm_C p s m args c cc nL y.cls A G → (∀ (pc : Nat) (v : Int32) (μ2 : sm_Mem) (lo : List (Nat × sm_V)), decode cc pc = .ok (.ireturn, 1) → narrow ty (.int v) = .int v → K v μ2 → sm_W p l e rm s m args below meth c A Q G nL 0 0 pc [sm_I v] lo μ2) → sm_W p l e rm s m args below meth c A Q G nL 0 0 0 [] (sm_args 0 As) μ) : sm_MI l y cc nL (some ty) rm As μ K := by
  intro G sz
  refine Met.ofW (cc := cc) (maxL := nL) (ret := (some ty)) hy rfl ?_
  intro p e s m args below meth c s₁ B hml hv
  obtain ⟨rfl, hsz, hP, hK, hD0, hSF, hSR⟩ := hv
  subst hsz
  have hts0 := atoms_spec (ws := (.code y cc nL (some ty) :: sm_tbl)) B.pre
  have C : sm_C p s m (As.map (sm_cv G.1)).toArray c cc nL y.cls (va_A (sm_wl G μ) s.heap.size) G := ⟨B.exec, B.bytes, hml, findClass_of_methodNamed B.named, fun w hw => hts0 w (List.mem_cons_of_mem _ hw), hK, fun q h => Or.inr h, hSF, hSR⟩
  have hl := lv_entry (As.map (sm_cv G.1)) (hn G.1)
  rw [sm_args_eq] at hl
  rw [lg_entry_eq]
  refine body p e s m _ below meth c _ _ G C ?_ s.heap [] _ hP hD0.self va_S.rf hl
  intro pc v μ2 lo hd hn hk H locs ls hP hD hS hL
  exact W.zret B.exec B.bytes B.returns hn (fun t ht hW => ⟨⟨v, μ2, rfl, hk, by rw [ht]; exact hP, va_K.moved hW.alike hK, hD⟩, hS.F ht⟩) hS.2.2 hd B.notSynchronized
theorem sm_ofV {l : Launch} {y : MethodName} {cc : ByteArray} {nL : Nat}  {rm : Room} {As : List sm_V} {μ : sm_Mem} {K : sm_Mem → Prop} (hy : plainName y.cls = true) (hn : ∀ ad : Nat → Nat, (lg_sl (As.map (sm_cv ad))).length ≤ nL) (body : ∀ (p : Program) (e : Env) (s : State) (m : MethodId) (args : Array Value) (below : List Frame) (meth : Method) (c : Code) (A : Nat → Prop) (Q : State → Prop) (G : sm_G), sm_C p s m args c cc nL y.cls A G → (∀ (pc : Nat) (μ2 : sm_Mem) (lo : List (Nat × sm_V)), decode cc pc = .ok (.return_, 1) → K μ2 → sm_W p l e rm s m args below meth c A Q G nL 0 0 pc [] lo μ2) → sm_W p l e rm s m args below meth c A Q G nL 0 0 0 [] (sm_args 0 As) μ) : sm_MV l y cc nL rm As μ K := by
  intro G sz
  refine Met.ofW (cc := cc) (maxL := nL) (ret := none) hy rfl ?_
  intro p e s m args below meth c s₁ B hml hv
  obtain ⟨rfl, hsz, hP, hK, hD0, hSF, hSR⟩ := hv
  subst hsz
  have hts0 := atoms_spec (ws := (.code y cc nL none :: sm_tbl)) B.pre
  have C : sm_C p s m (As.map (sm_cv G.1)).toArray c cc nL y.cls (va_A (sm_wl G μ) s.heap.size) G := ⟨B.exec, B.bytes, hml, findClass_of_methodNamed B.named, fun w hw => hts0 w (List.mem_cons_of_mem _ hw), hK, fun q h => Or.inr h, hSF, hSR⟩
  have hl := lv_entry (As.map (sm_cv G.1)) (hn G.1)
  rw [sm_args_eq] at hl
  rw [lg_entry_eq]
  refine body p e s m _ below meth c _ _ G C ?_ s.heap [] _ hP hD0.self va_S.rf hl
  intro pc μ2 lo hd hk H locs ls hP hD hS hL
  exact W.vret B.exec B.bytes B.returns (fun t ht hW => ⟨⟨μ2, rfl, hk, by rw [ht]; exact hP, va_K.moved hW.alike hK, hD⟩, hS.F ht⟩) hS.2.2 hd B.notSynchronized
def sm_ro : Option Nat → sm_V := fun k => Sum.inr (Sum.inl k)
theorem sm_ofR {l : Launch} {y : MethodName} {cc : ByteArray} {nL : Nat} {cn : String} {rm : Room} {As : List sm_V} {μ : sm_Mem} {K : Option Nat → sm_Mem → Prop} (hy : plainName y.cls = true) (hn : ∀ ad : Nat → Nat, (lg_sl (As.map (sm_cv ad))).length ≤ nL) (body : ∀ (p : Program) (e : Env) (s : State) (m : MethodId) (args : Array Value) (below : List Frame) (meth : Method) (c : Code) (A : Nat → Prop) (Q : State → Prop) (G : sm_G), sm_C p s m args c cc nL y.cls A G → (∀ (pc : Nat) (v : Option Nat) (μ2 : sm_Mem) (lo : List (Nat × sm_V)), decode cc pc = .ok (.areturn, 1) → K v μ2 → sm_W p l e rm s m args below meth c A Q G nL 0 0 pc [sm_ro v] lo μ2) → sm_W p l e rm s m args below meth c A Q G nL 0 0 0 [] (sm_args 0 As) μ) : sm_MR l y cc nL (some (.object cn)) rm As μ K := by
  intro G sz
  refine Met.ofW (cc := cc) (maxL := nL) (ret := (some (.object cn))) hy rfl ?_
  intro p e s m args below meth c s₁ B hml hv
  obtain ⟨rfl, hsz, hP, hK, hD0, hSF, hSR⟩ := hv
  subst hsz
  have hts0 := atoms_spec (ws := (.code y cc nL (some (.object cn)) :: sm_tbl)) B.pre
  have C : sm_C p s m (As.map (sm_cv G.1)).toArray c cc nL y.cls (va_A (sm_wl G μ) s.heap.size) G := ⟨B.exec, B.bytes, hml, findClass_of_methodNamed B.named, fun w hw => hts0 w (List.mem_cons_of_mem _ hw), hK, fun q h => Or.inr h, hSF, hSR⟩
  have hl := lv_entry (As.map (sm_cv G.1)) (hn G.1)
  rw [sm_args_eq] at hl
  rw [lg_entry_eq]
  refine body p e s m _ below meth c _ _ G C ?_ s.heap [] _ hP hD0.self va_S.rf hl
  intro pc v μ2 lo hd hk H locs ls hP hD hS hL
  have e1 : sm_cv G.1 (sm_ro v) = va_rf (v.map G.1) := by cases v <;> rfl
  show W _ _ _ _ _ _ _ _ _ _ _ _ _ _ _ (F0 m pc ls [sm_cv G.1 (sm_ro v)])
  rw [e1]
  exact W.aret B.exec B.bytes B.returns (Or.inl ⟨cn, rfl⟩) (va_rf_or _) (fun t ht hW => ⟨⟨v.map G.1, μ2, rfl, ⟨v, rfl, hk⟩, by rw [ht]; exact hP, va_K.moved hW.alike hK, hD⟩, hS.F ht⟩) hS.2.2 hd B.notSynchronized

def sm_okB (own : String) (idx : Nat) (y : MethodName) (cc : ByteArray) (nL : Nat) (ret : Option FieldType) (n : Nat) : Prop := Cond.methodLink own idx y ∈ sm_tbl ∧ Cond.initialized y.cls ∈ sm_tbl ∧ Cond.code y cc nL ret ∈ sm_tbl ∧ (y.cls ≠ "java/lang/invoke/MethodHandle" ∧ y.cls ≠ "java/lang/invoke/VarHandle" ∧ (parseMethodDescriptor y.desc).map (fun d => d.parameters.length) = some n)
def sm_okV (own : String) (idx : Nat) (y : MethodName) (cc : ByteArray) (nL : Nat) (ret : Option FieldType) (n : Nat) : Prop := sm_okB own idx y cc nL ret n ∧ Cond.instanceMethod y ∈ sm_tbl ∧ Cond.selects y.cls y y ∈ sm_tbl
def sm_okS (own : String) (idx : Nat) (y : MethodName) (cc : ByteArray) (nL : Nat) (ret : Option FieldType) (n : Nat) : Prop := sm_okB own idx y cc nL ret n ∧ Cond.static y ∈ sm_tbl
theorem sm_goodIn {y : MethodName} {cc : ByteArray} {nL : Nat} {ret : Option FieldType} (h : Cond.code y cc nL ret ∈ sm_tbl) : GoodIn sm_tbl (.code y cc nL ret :: sm_tbl) := by
  refine goodIn_of _ ?_ |> fun (hh : GoodIn sm_tbl sm_tbl) => ?_
  · intro w hw
    rcases List.mem_cons.mp hw with rfl | hw
    · exact hh _ h
    · exact hh _ hw
  · exact List.all_eq_true.mpr fun w hw => by
      have h1 := List.all_eq_true.mp sm_good w hw
      simp [hw, h1]
theorem sm_isC {G : sm_G} {μ : sm_Mem} : (List.range (sm_wl G μ).length).map (fun i => (sm_wl G μ)[i]?) = (sm_wl G μ).map some := by
  apply List.ext_getElem?
  intro i
  simp only [List.getElem?_map, List.getElem?_range]
  by_cases hi : i < (sm_wl G μ).length
  · simp [hi]
  · simp [hi]

section SMC
variable {p : Program} {l : Launch} {e : Env} {R : Room} {s : State} {m : MethodId} {args : Array Value} {below : List Frame} {meth : Method} {c : Code} {A : Nat → Prop} {Q : State → Prop} {G : sm_G} {nL kc ks : Nat} {cc : ByteArray} {own : String} {pc : Nat} {stk : List sm_V} {lo : List (Nat × sm_V)} {μ : sm_Mem}

theorem sm_callB (C : sm_C p s m args c cc nL own A G) {ix n yL : Nat} {y : MethodName} {yc : ByteArray} {ret : Option FieldType} {rm : Room} (ok : sm_okB own ix y yc yL ret n) (hrc : rm.cells = 0) (hrs : rm.slots = 0) (hR : rm.frames + 1 ≤ R.frames ∧ 8 + (yL + 11) + rm.locals ≤ R.locals) : CallB R s args own ix y yc yL ret (.code y yc yL ret :: sm_tbl) rm 0 0 n :=
  callB_of n C.2.2.2.2.1 (sm_goodIn ok.2.2.1) rfl hrc hrs (C.2.2.2.2.1 _ ok.2.1) (C.2.2.2.2.1 _ ok.1) ok.2.2.2 hR
theorem sm_pre (C : sm_C p s m args c cc nL own A G) {As : List sm_V} {H : Heap} {locs : List Loc} (hP : va_P (sm_D G) sm_cls (sm_wl G μ) H) (hD : va_D A (sm_wl G μ)) (hS : va_S A s.heap H locs) : ∀ U : State, U.heap = H → s.WarmedH U.vm → sm_Pre G H.size As μ (As.map (sm_cv G.1)).toArray U := by
  intro U hU hW
  have hF := va_free (wc := sm_wl G μ) hD hS C.2.2.2.2.2.2.1 _ sm_isC
  refine ⟨rfl, by rw [hU], by rw [hU]; exact hP, va_K.moved hW.alike C.2.2.2.2.2.1, hD.weaken (fun _ _ _ _ => trivial), ?_, C.2.2.2.2.2.2.2.2.warm hW⟩
  rw [hU]
  exact ((C.2.2.2.2.2.2.2.1.kept hS.2.1).narrow hF).moved hW.alike
theorem sm_back {μ2 : sm_Mem} {H H1 : Heap} {t : State} {locs : List Loc} (C : sm_C p s m args c cc nL own A G) (hP : va_P (sm_D G) sm_cls (sm_wl G μ) H) (hD : va_D A (sm_wl G μ)) (hS : va_S A s.heap H locs) (ht : t.heap = H1) (hk : ∀ q : Nat, q < H.size → ¬ va_A (sm_wl G μ) H.size q → H1[q]? = H[q]?) (hB : sm_Po G (va_A (sm_wl G μ) H.size) μ2 t) : va_P (sm_D G) sm_cls (sm_wl G μ2) H1 ∧ va_D A (sm_wl G μ2) := by
  have hF := va_free (wc := sm_wl G μ) hD hS C.2.2.2.2.2.2.1 _ sm_isC
  obtain ⟨hP1, hK1, hD1⟩ := hB
  rw [ht] at hP1
  have hj := va_join (wr := []) (w1 := sm_wl G μ2) (wc := sm_wl G μ) hP hD (List.range (sm_wl G μ).length) [] sm_isC rfl rfl (fun _ h => nomatch h) hk hF hP1 hD1
  rw [List.nil_append] at hj
  exact hj

theorem sr_callVI (C : sm_C p s m args c cc nL own A G) {ix n yL : Nat} {y : MethodName} {yc : ByteArray} {ret : Option FieldType} {rm : Room} (As : List sm_V) {k ci N : Nat} {fl : List Nat} {T : u_T} {K : Int32 → sm_Mem → Prop} (hM : sm_MI l y yc yL ret rm (sm_R k :: As) μ K) (ok : sm_okV own ix y yc yL ret n) (hl : sm_lays[k]? = some (1, ci, fl)) (hcl : sm_cls[ci]? = some (y.cls, T, N)) (hn : As.length = n) (hrc : rm.cells = 0) (hrs : rm.slots = 0) (hR : rm.frames + 1 ≤ R.frames ∧ 8 + (yL + 11) + rm.locals ≤ R.locals) (hcat : (stk.map sm_cat).sum ≤ 8) (hf : kc ≤ R.cells ∧ ks ≤ R.slots) (hd : decode cc pc = .ok (.invokevirtual ix, 3)) (kk : ∀ (r : Int32) (μ2 : sm_Mem), K r μ2 → sm_W p l e R s m args below meth c A Q G nL kc ks (pc + 3) (sm_I r :: stk) lo μ2) : sm_W p l e R s m args below meth c A Q G nL kc ks pc (As.reverse ++ sm_R k :: stk) lo μ := by
  intro H locs ls hP hD hS hL
  have hF := va_free (wc := sm_wl G μ) hD hS C.2.2.2.2.2.2.1 _ sm_isC
  have hc : ((stk.map (sm_cv G.1)).map fun v => v.category).sum ≤ 8 := by
    have e1 : (stk.map (sm_cv G.1)).map (fun v => v.category) = stk.map sm_cat := by rw [List.map_map]; exact List.map_congr_left fun v _ => sm_cat_cv G.1 v
    rw [e1]; exact hcat
  have hrun := va_runV (H := H) (locs := locs) (cells := kc) (slots := ks) (g := F0 m pc ls ((As.reverse ++ sm_R k :: stk).map (sm_cv G.1))) (rest := stk.map (sm_cv G.1)) (As := As.map (sm_cv G.1)) (e := e) (below := below) (meth := meth) (nL := nL) ⟨C.1, C.2.1, C.2.2.1, C.2.2.2.1, C.2.2.2.2.1⟩ (hM G H.size) ⟨sm_callB C ok.1 hrc hrs hR, C.2.2.2.2.1 _ ok.2.1, C.2.2.2.2.1 _ ok.2.2⟩ ⟨sm_blind, va_recv C.2.2.2.2.2.1 hP hcl (sm_obj hl), sm_pre C (As := sm_R k :: As) hP hD hS⟩ rfl (List.length_map (as := As) (sm_cv G.1) |>.trans hn) hL.1 (by simp [List.map_reverse, sm_cv]) (lv_room hc) hd hf
  refine va_calli hrun hS (fun q _ h => hF q h) hF (fun r u t H1 locs1 ht hvm hw hB hz1 hk1 hS1 => ?_)
  obtain ⟨hP1, hD1⟩ := sm_back C hP hD hS ht hk1 hB
  exact kk r u hw H1 locs1 ls hP1 hD1 hS1 hL
theorem sr_callSI (C : sm_C p s m args c cc nL own A G) {ix n yL : Nat} {y : MethodName} {yc : ByteArray} {ret : Option FieldType} {rm : Room} (As : List sm_V) {K : Int32 → sm_Mem → Prop} (hM : sm_MI l y yc yL ret rm As μ K) (ok : sm_okS own ix y yc yL ret n) (hn : As.length = n) (hrc : rm.cells = 0) (hrs : rm.slots = 0) (hR : rm.frames + 1 ≤ R.frames ∧ 8 + (yL + 11) + rm.locals ≤ R.locals) (hcat : (stk.map sm_cat).sum ≤ 8) (hf : kc ≤ R.cells ∧ ks ≤ R.slots) (hd : decode cc pc = .ok (.invokestatic ix, 3)) (kk : ∀ (r : Int32) (μ2 : sm_Mem), K r μ2 → sm_W p l e R s m args below meth c A Q G nL kc ks (pc + 3) (sm_I r :: stk) lo μ2) : sm_W p l e R s m args below meth c A Q G nL kc ks pc (As.reverse ++ stk) lo μ := by
  intro H locs ls hP hD hS hL
  have hF := va_free (wc := sm_wl G μ) hD hS C.2.2.2.2.2.2.1 _ sm_isC
  have hc : ((stk.map (sm_cv G.1)).map fun v => v.category).sum ≤ 8 := by
    have e1 : (stk.map (sm_cv G.1)).map (fun v => v.category) = stk.map sm_cat := by rw [List.map_map]; exact List.map_congr_left fun v _ => sm_cat_cv G.1 v
    rw [e1]; exact hcat
  have hrun := va_runS (H := H) (locs := locs) (cells := kc) (slots := ks) (g := F0 m pc ls ((As.reverse ++ stk).map (sm_cv G.1))) (rest := stk.map (sm_cv G.1)) (As := As.map (sm_cv G.1)) (e := e) (below := below) (meth := meth) (nL := nL) ⟨C.1, C.2.1, C.2.2.1, C.2.2.2.1, C.2.2.2.2.1⟩ (hM G H.size) ⟨sm_callB C ok.1 hrc hrs hR, C.2.2.2.2.1 _ ok.2⟩ ⟨sm_blind, sm_pre C (As := As) hP hD hS⟩ rfl (List.length_map (as := As) (sm_cv G.1) |>.trans hn) hL.1 (by simp [List.map_reverse, sm_cv]) (lv_room hc) hd hf
  refine va_calli hrun hS (fun q _ h => hF q h) hF (fun r u t H1 locs1 ht hvm hw hB hz1 hk1 hS1 => ?_)
  obtain ⟨hP1, hD1⟩ := sm_back C hP hD hS ht hk1 hB
  exact kk r u hw H1 locs1 ls hP1 hD1 hS1 hL
theorem sr_callVV (C : sm_C p s m args c cc nL own A G) {ix n yL : Nat} {y : MethodName} {yc : ByteArray} {rm : Room} (As : List sm_V) {k ci N : Nat} {fl : List Nat} {T : u_T} {K : sm_Mem → Prop} (hM : sm_MV l y yc yL rm (sm_R k :: As) μ K) (ok : sm_okV own ix y yc yL none n) (hl : sm_lays[k]? = some (1, ci, fl)) (hcl : sm_cls[ci]? = some (y.cls, T, N)) (hn : As.length = n) (hrc : rm.cells = 0) (hrs : rm.slots = 0) (hR : rm.frames + 1 ≤ R.frames ∧ 8 + (yL + 11) + rm.locals ≤ R.locals) (hcat : (stk.map sm_cat).sum ≤ 8) (hf : kc ≤ R.cells ∧ ks ≤ R.slots) (hd : decode cc pc = .ok (.invokevirtual ix, 3)) (kk : ∀ (μ2 : sm_Mem), K μ2 → sm_W p l e R s m args below meth c A Q G nL kc ks (pc + 3) stk lo μ2) : sm_W p l e R s m args below meth c A Q G nL kc ks pc (As.reverse ++ sm_R k :: stk) lo μ := by
  intro H locs ls hP hD hS hL
  have hF := va_free (wc := sm_wl G μ) hD hS C.2.2.2.2.2.2.1 _ sm_isC
  have hc : ((stk.map (sm_cv G.1)).map fun v => v.category).sum ≤ 8 := by
    have e1 : (stk.map (sm_cv G.1)).map (fun v => v.category) = stk.map sm_cat := by rw [List.map_map]; exact List.map_congr_left fun v _ => sm_cat_cv G.1 v
    rw [e1]; exact hcat
  have hrun := va_runV (H := H) (locs := locs) (cells := kc) (slots := ks) (g := F0 m pc ls ((As.reverse ++ sm_R k :: stk).map (sm_cv G.1))) (rest := stk.map (sm_cv G.1)) (As := As.map (sm_cv G.1)) (e := e) (below := below) (meth := meth) (nL := nL) ⟨C.1, C.2.1, C.2.2.1, C.2.2.2.1, C.2.2.2.2.1⟩ (hM G H.size) ⟨sm_callB C ok.1 hrc hrs hR, C.2.2.2.2.1 _ ok.2.1, C.2.2.2.2.1 _ ok.2.2⟩ ⟨sm_blind, va_recv C.2.2.2.2.2.1 hP hcl (sm_obj hl), sm_pre C (As := sm_R k :: As) hP hD hS⟩ rfl (List.length_map (as := As) (sm_cv G.1) |>.trans hn) hL.1 (by simp [List.map_reverse, sm_cv]) (lv_room hc) hd hf
  refine va_callv hrun hS (fun q _ h => hF q h) hF (fun u t H1 locs1 ht hvm hw hB hz1 hk1 hS1 => ?_)
  obtain ⟨hP1, hD1⟩ := sm_back C hP hD hS ht hk1 hB
  exact kk u hw H1 locs1 ls hP1 hD1 hS1 hL
theorem sr_callSV (C : sm_C p s m args c cc nL own A G) {ix n yL : Nat} {y : MethodName} {yc : ByteArray} {rm : Room} (As : List sm_V) {K : sm_Mem → Prop} (hM : sm_MV l y yc yL rm As μ K) (ok : sm_okS own ix y yc yL none n) (hn : As.length = n) (hrc : rm.cells = 0) (hrs : rm.slots = 0) (hR : rm.frames + 1 ≤ R.frames ∧ 8 + (yL + 11) + rm.locals ≤ R.locals) (hcat : (stk.map sm_cat).sum ≤ 8) (hf : kc ≤ R.cells ∧ ks ≤ R.slots) (hd : decode cc pc = .ok (.invokestatic ix, 3)) (kk : ∀ (μ2 : sm_Mem), K μ2 → sm_W p l e R s m args below meth c A Q G nL kc ks (pc + 3) stk lo μ2) : sm_W p l e R s m args below meth c A Q G nL kc ks pc (As.reverse ++ stk) lo μ := by
  intro H locs ls hP hD hS hL
  have hF := va_free (wc := sm_wl G μ) hD hS C.2.2.2.2.2.2.1 _ sm_isC
  have hc : ((stk.map (sm_cv G.1)).map fun v => v.category).sum ≤ 8 := by
    have e1 : (stk.map (sm_cv G.1)).map (fun v => v.category) = stk.map sm_cat := by rw [List.map_map]; exact List.map_congr_left fun v _ => sm_cat_cv G.1 v
    rw [e1]; exact hcat
  have hrun := va_runS (H := H) (locs := locs) (cells := kc) (slots := ks) (g := F0 m pc ls ((As.reverse ++ stk).map (sm_cv G.1))) (rest := stk.map (sm_cv G.1)) (As := As.map (sm_cv G.1)) (e := e) (below := below) (meth := meth) (nL := nL) ⟨C.1, C.2.1, C.2.2.1, C.2.2.2.1, C.2.2.2.2.1⟩ (hM G H.size) ⟨sm_callB C ok.1 hrc hrs hR, C.2.2.2.2.1 _ ok.2⟩ ⟨sm_blind, sm_pre C (As := As) hP hD hS⟩ rfl (List.length_map (as := As) (sm_cv G.1) |>.trans hn) hL.1 (by simp [List.map_reverse, sm_cv]) (lv_room hc) hd hf
  refine va_callv hrun hS (fun q _ h => hF q h) hF (fun u t H1 locs1 ht hvm hw hB hz1 hk1 hS1 => ?_)
  obtain ⟨hP1, hD1⟩ := sm_back C hP hD hS ht hk1 hB
  exact kk u hw H1 locs1 ls hP1 hD1 hS1 hL
theorem sr_callVR (C : sm_C p s m args c cc nL own A G) {ix n yL : Nat} {y : MethodName} {yc : ByteArray} {ret : Option FieldType} {rm : Room} (As : List sm_V) {k ci N : Nat} {fl : List Nat} {T : u_T} {K : Option Nat → sm_Mem → Prop} (hM : sm_MR l y yc yL ret rm (sm_R k :: As) μ K) (ok : sm_okV own ix y yc yL ret n) (hl : sm_lays[k]? = some (1, ci, fl)) (hcl : sm_cls[ci]? = some (y.cls, T, N)) (hn : As.length = n) (hrc : rm.cells = 0) (hrs : rm.slots = 0) (hR : rm.frames + 1 ≤ R.frames ∧ 8 + (yL + 11) + rm.locals ≤ R.locals) (hcat : (stk.map sm_cat).sum ≤ 8) (hf : kc ≤ R.cells ∧ ks ≤ R.slots) (hd : decode cc pc = .ok (.invokevirtual ix, 3)) (kk : ∀ (r : Option Nat) (μ2 : sm_Mem), K r μ2 → sm_W p l e R s m args below meth c A Q G nL kc ks (pc + 3) (sm_ro r :: stk) lo μ2) : sm_W p l e R s m args below meth c A Q G nL kc ks pc (As.reverse ++ sm_R k :: stk) lo μ := by
  intro H locs ls hP hD hS hL
  have hF := va_free (wc := sm_wl G μ) hD hS C.2.2.2.2.2.2.1 _ sm_isC
  have hc : ((stk.map (sm_cv G.1)).map fun v => v.category).sum ≤ 8 := by
    have e1 : (stk.map (sm_cv G.1)).map (fun v => v.category) = stk.map sm_cat := by rw [List.map_map]; exact List.map_congr_left fun v _ => sm_cat_cv G.1 v
    rw [e1]; exact hcat
  have hrun := va_runV (H := H) (locs := locs) (cells := kc) (slots := ks) (g := F0 m pc ls ((As.reverse ++ sm_R k :: stk).map (sm_cv G.1))) (rest := stk.map (sm_cv G.1)) (As := As.map (sm_cv G.1)) (e := e) (below := below) (meth := meth) (nL := nL) ⟨C.1, C.2.1, C.2.2.1, C.2.2.2.1, C.2.2.2.2.1⟩ (hM G H.size) ⟨sm_callB C ok.1 hrc hrs hR, C.2.2.2.2.1 _ ok.2.1, C.2.2.2.2.1 _ ok.2.2⟩ ⟨sm_blind, va_recv C.2.2.2.2.2.1 hP hcl (sm_obj hl), sm_pre C (As := sm_R k :: As) hP hD hS⟩ rfl (List.length_map (as := As) (sm_cv G.1) |>.trans hn) hL.1 (by simp [List.map_reverse, sm_cv]) (lv_room hc) hd hf
  refine va_callq hrun hS (fun q _ h => hF q h) hF (fun r u t H1 locs1 ht hvm hw hB hz1 hk1 hS1 => ?_)
  obtain ⟨hP1, hD1⟩ := sm_back C hP hD hS ht hk1 hB
  obtain ⟨k9, rfl, hw⟩ := hw
  have e1 : va_rf (k9.map G.1) = sm_cv G.1 (sm_ro k9) := by cases k9 <;> rfl
  rw [e1]
  exact kk k9 u hw H1 locs1 ls hP1 hD1 hS1 hL
theorem sr_mmax (C : sm_C p s m args c cc nL own A G) {ix : Nat} {x y : Int32} (hw : Cond.methodLink own ix Lib.Math.max.name ∈ sm_tbl) (hw2 : Cond.static Lib.Math.max.name ∈ sm_tbl) (hw3 : Cond.initialized "java/lang/Math" ∈ sm_tbl) (hw4 : Cond.code Lib.Math.max.name Lib.Math.max.code 2 (some .int) ∈ sm_tbl) (hfr : 1 ≤ R.frames) (hlo : (stk.map sm_cat).sum + 13 ≤ R.locals) (hf : kc ≤ R.cells ∧ ks ≤ R.slots) (hd : decode cc pc = .ok (.invokestatic ix, 3)) (k : sm_W p l e R s m args below meth c A Q G nL kc ks (pc + 3) (sm_I (if x < y then y else x) :: stk) lo μ) : sm_W p l e R s m args below meth c A Q G nL kc ks pc (sm_I y :: sm_I x :: stk) lo μ := by
  intro H locs ls hP hD hS hL
  have e1 : (stk.map (sm_cv G.1)).map (fun v => v.category) = stk.map sm_cat := by rw [List.map_map]; exact List.map_congr_left fun v _ => sm_cat_cv G.1 v
  exact va_mmax C.1 C.2.1 (C.2.2.1.trans hL.1.symm) C.2.2.2.1 (C.2.2.2.2.1 _ hw) (C.2.2.2.2.1 _ hw2) (C.2.2.2.2.1 _ hw3) (C.2.2.2.2.1 _ hw4) hfr (by rw [e1]; exact hlo) hf.1 hf.2 hd (k H locs ls hP hD hS hL)
theorem sr_mmin (C : sm_C p s m args c cc nL own A G) {ix : Nat} {x y : Int32} (hw : Cond.methodLink own ix Lib.Math.min.name ∈ sm_tbl) (hw2 : Cond.static Lib.Math.min.name ∈ sm_tbl) (hw3 : Cond.initialized "java/lang/Math" ∈ sm_tbl) (hw4 : Cond.code Lib.Math.min.name Lib.Math.min.code 2 (some .int) ∈ sm_tbl) (hfr : 1 ≤ R.frames) (hlo : (stk.map sm_cat).sum + 13 ≤ R.locals) (hf : kc ≤ R.cells ∧ ks ≤ R.slots) (hd : decode cc pc = .ok (.invokestatic ix, 3)) (k : sm_W p l e R s m args below meth c A Q G nL kc ks (pc + 3) (sm_I (if y < x then y else x) :: stk) lo μ) : sm_W p l e R s m args below meth c A Q G nL kc ks pc (sm_I y :: sm_I x :: stk) lo μ := by
  intro H locs ls hP hD hS hL
  have e1 : (stk.map (sm_cv G.1)).map (fun v => v.category) = stk.map sm_cat := by rw [List.map_map]; exact List.map_congr_left fun v _ => sm_cat_cv G.1 v
  exact va_mmin C.1 C.2.1 (C.2.2.1.trans hL.1.symm) C.2.2.2.1 (C.2.2.2.2.1 _ hw) (C.2.2.2.2.1 _ hw2) (C.2.2.2.2.1 _ hw3) (C.2.2.2.2.1 _ hw4) hfr (by rw [e1]; exact hlo) hf.1 hf.2 hd (k H locs ls hP hD hS hL)
theorem sr_copy (C : sm_C p s m args c cc nL own A G) {ix k0 k1 n0 n1 : Nat} {f0 f1 : List Nat} {sp dp n : Int32} (hl0 : sm_lays[k0]? = some (0, n0, f0)) (hl1 : sm_lays[k1]? = some (0, n1, f1)) (h1 : ¬ sp < 0) (h2 : ¬ dp < 0) (h3 : ¬ n < 0) (h4 : sp.toNatClampNeg + n.toNatClampNeg ≤ n0) (h5 : dp.toNatClampNeg + n.toNatClampNeg ≤ n1) (hw : Cond.methodLink own ix arraycopyName ∈ sm_tbl) (hw1 : Cond.native arraycopyName ∈ sm_tbl) (hw2 : Cond.static arraycopyName ∈ sm_tbl) (hw3 : Cond.initialized "java/lang/System" ∈ sm_tbl) (hfr : 1 ≤ R.frames) (hlo : (stk.map sm_cat).sum + (nativeFrameWords "java/lang/System" "arraycopy" 5 + 11) ≤ R.locals) (hd : decode cc pc = .ok (.invokestatic ix, 3)) (k : sm_W p l e R s m args below meth c A Q G nL kc ks (pc + 3) stk lo (sm_cpy μ k0 k1 sp.toNatClampNeg dp.toNatClampNeg n.toNatClampNeg)) : sm_W p l e R s m args below meth c A Q G nL kc ks pc (sm_I n :: sm_I dp :: sm_R k1 :: sm_I sp :: sm_R k0 :: stk) lo μ := by
  intro H locs ls hP hD hS hL
  have e1 : (stk.map (sm_cv G.1)).map (fun v => v.category) = stk.map sm_cat := by rw [List.map_map]; exact List.map_congr_left fun v _ => sm_cat_cv G.1 v
  refine va_copyi C.1 C.2.1 (C.2.2.1.trans hL.1.symm) C.2.2.2.1 (C.2.2.2.2.1 _ hw) (C.2.2.2.2.1 _ hw1) (C.2.2.2.2.1 _ hw2) (C.2.2.2.2.1 _ hw3) C.2.2.2.2.2.1 hP hD hS k0 k1 0 0 (sm_arr hl0) (sm_arr hl1) rfl rfl rfl h1 h2 h3 h4 h5 (fun _ _ => rfl) hfr (by rw [e1]; exact hlo) hd (fun H1 locs1 hP1 hD1 hS1 => ?_)
  rw [sm_setC hl1] at hP1 hD1
  exact k H1 locs1 ls hP1 hD1 hS1 hL
theorem sr_tabA (C : sm_C p s m args c cc nL own A G) {i : Int32} (hi : vp_in i 7) (hd : decode cc pc = .ok (.iaload, 1)) (k2 : sm_W p l e R s m args below meth c A Q G nL kc ks (pc + 1) (sm_I (sm_above.getD i.toNatClampNeg 0) :: stk) lo μ) : sm_W p l e R s m args below meth c A Q G nL kc ks pc (sm_I i :: sm_R 110 :: stk) lo μ := by
  intro H locs ls hP hD hS hL
  exact va_ti C.1 C.2.1 C.2.2.2.2.2.2.2.1.2.1 hS hi rfl hd (k2 H locs ls hP hD hS hL)
theorem sr_tabB (C : sm_C p s m args c cc nL own A G) {i : Int32} (hi : vp_in i 28) (hd : decode cc pc = .ok (.iaload, 1)) (k2 : sm_W p l e R s m args below meth c A Q G nL kc ks (pc + 1) (sm_I (sm_bodies.getD i.toNatClampNeg 0) :: stk) lo μ) : sm_W p l e R s m args below meth c A Q G nL kc ks pc (sm_I i :: sm_R 111 :: stk) lo μ := by
  intro H locs ls hP hD hS hL
  exact va_ti C.1 C.2.1 C.2.2.2.2.2.2.2.1.2.2.2.1 hS hi rfl hd (k2 H locs ls hP hD hS hL)
theorem sm_vin {i : Int32} {n : Nat} (h : decide (¬ (i < 0 ∨ n ≤ i.toNatClampNeg)) = true) : vp_in i n := of_decide_eq_true (p := ¬ (i < 0 ∨ n ≤ i.toNatClampNeg)) h
theorem sm_ne {x v : Int32} {z : Int} (h : ¬ x = v) (hv : v.toInt = z) : x.toInt ≠ z := fun q => h (Int32.toInt_inj.mp (q.trans hv.symm))
theorem sr_ialdJ (C : sm_C p s m args c cc nL own A G) {k n j : Nat} {fl : List Nat} (hl : sm_lays[k]? = some (0, n, fl)) {i : Int32} (hi : vp_in i n) (hj : i.toNatClampNeg = j) (hd : decode cc pc = .ok (.iaload, 1)) (k2 : sm_W p l e R s m args below meth c A Q G nL kc ks (pc + 1) (sm_I (μ k j) :: stk) lo μ) : sm_W p l e R s m args below meth c A Q G nL kc ks pc (sm_I i :: sm_R k :: stk) lo μ := by
  subst hj
  exact sr_iald C hl hi hd k2
theorem sr_iastJ (C : sm_C p s m args c cc nL own A G) {k n j : Nat} {fl : List Nat} (hl : sm_lays[k]? = some (0, n, fl)) {i x : Int32} (hi : vp_in i n) (hj : i.toNatClampNeg = j) (hd : decode cc pc = .ok (.iastore, 1)) (k2 : sm_W p l e R s m args below meth c A Q G nL kc ks (pc + 1) stk lo (sm_st μ k j x)) : sm_W p l e R s m args below meth c A Q G nL kc ks pc (sm_I x :: sm_I i :: sm_R k :: stk) lo μ := by
  subst hj
  exact sr_iast C hl hi hd k2
end SMC
def sm_lp0 (body : (sm_Mem → Prop) → sm_Mem → Prop) (μ : sm_Mem) : Prop := ∃ I : Nat → sm_Mem → Prop, (∃ n, I n μ) ∧ ∀ (n : Nat) (μ : sm_Mem), I n μ → body (fun μ => ∃ k, k < n ∧ I k μ) μ
theorem sm_lp0_sound {body : (sm_Mem → Prop) → sm_Mem → Prop} {P : sm_Mem → Prop} (hb : ∀ (J : sm_Mem → Prop) (μ : sm_Mem), (∀ (μ : sm_Mem), J μ → P μ) → body J μ → P μ) { μ : sm_Mem} (h : sm_lp0 body μ) : P μ := by
  obtain ⟨I, ⟨n, hn⟩, hI⟩ := h
  have key : ∀ (n : Nat) (μ : sm_Mem), I n μ → P μ := by
    intro n
    induction n using Nat.strongRecOn with
    | _ n ih =>
      intro μ hy
      exact hb _ μ (fun μ hz => by obtain ⟨k, hk, hz⟩ := hz; exact ih k hk μ hz) (hI n μ hy)
  exact key n μ hn
def sm_lp1 (body : (Int32 → sm_Mem → Prop) → Int32 → sm_Mem → Prop) (a0 : Int32) (μ : sm_Mem) : Prop := ∃ I : Nat → Int32 → sm_Mem → Prop, (∃ n, I n a0 μ) ∧ ∀ (n : Nat) (a0 : Int32) (μ : sm_Mem), I n a0 μ → body (fun a0 μ => ∃ k, k < n ∧ I k a0 μ) a0 μ
theorem sm_lp1_sound {body : (Int32 → sm_Mem → Prop) → Int32 → sm_Mem → Prop} {P : Int32 → sm_Mem → Prop} (hb : ∀ (J : Int32 → sm_Mem → Prop) (a0 : Int32) (μ : sm_Mem), (∀ (a0 : Int32) (μ : sm_Mem), J a0 μ → P a0 μ) → body J a0 μ → P a0 μ) {a0 : Int32} { μ : sm_Mem} (h : sm_lp1 body a0 μ) : P a0 μ := by
  obtain ⟨I, ⟨n, hn⟩, hI⟩ := h
  have key : ∀ (n : Nat) (a0 : Int32) (μ : sm_Mem), I n a0 μ → P a0 μ := by
    intro n
    induction n using Nat.strongRecOn with
    | _ n ih =>
      intro a0 μ hy
      exact hb _ a0 μ (fun a0 μ hz => by obtain ⟨k, hk, hz⟩ := hz; exact ih k hk a0 μ hz) (hI n a0 μ hy)
  exact key n a0 μ hn
def sm_lp2 (body : (Int32 → Int32 → sm_Mem → Prop) → Int32 → Int32 → sm_Mem → Prop) (a0 a1 : Int32) (μ : sm_Mem) : Prop := ∃ I : Nat → Int32 → Int32 → sm_Mem → Prop, (∃ n, I n a0 a1 μ) ∧ ∀ (n : Nat) (a0 a1 : Int32) (μ : sm_Mem), I n a0 a1 μ → body (fun a0 a1 μ => ∃ k, k < n ∧ I k a0 a1 μ) a0 a1 μ
theorem sm_lp2_sound {body : (Int32 → Int32 → sm_Mem → Prop) → Int32 → Int32 → sm_Mem → Prop} {P : Int32 → Int32 → sm_Mem → Prop} (hb : ∀ (J : Int32 → Int32 → sm_Mem → Prop) (a0 a1 : Int32) (μ : sm_Mem), (∀ (a0 a1 : Int32) (μ : sm_Mem), J a0 a1 μ → P a0 a1 μ) → body J a0 a1 μ → P a0 a1 μ) {a0 a1 : Int32} { μ : sm_Mem} (h : sm_lp2 body a0 a1 μ) : P a0 a1 μ := by
  obtain ⟨I, ⟨n, hn⟩, hI⟩ := h
  have key : ∀ (n : Nat) (a0 a1 : Int32) (μ : sm_Mem), I n a0 a1 μ → P a0 a1 μ := by
    intro n
    induction n using Nat.strongRecOn with
    | _ n ih =>
      intro a0 a1 μ hy
      exact hb _ a0 a1 μ (fun a0 a1 μ hz => by obtain ⟨k, hk, hz⟩ := hz; exact ih k hk a0 a1 μ hz) (hI n a0 a1 μ hy)
  exact key n a0 a1 μ hn
def sm_lp3 (body : (Int32 → Int32 → Int32 → sm_Mem → Prop) → Int32 → Int32 → Int32 → sm_Mem → Prop) (a0 a1 a2 : Int32) (μ : sm_Mem) : Prop := ∃ I : Nat → Int32 → Int32 → Int32 → sm_Mem → Prop, (∃ n, I n a0 a1 a2 μ) ∧ ∀ (n : Nat) (a0 a1 a2 : Int32) (μ : sm_Mem), I n a0 a1 a2 μ → body (fun a0 a1 a2 μ => ∃ k, k < n ∧ I k a0 a1 a2 μ) a0 a1 a2 μ
theorem sm_lp3_sound {body : (Int32 → Int32 → Int32 → sm_Mem → Prop) → Int32 → Int32 → Int32 → sm_Mem → Prop} {P : Int32 → Int32 → Int32 → sm_Mem → Prop} (hb : ∀ (J : Int32 → Int32 → Int32 → sm_Mem → Prop) (a0 a1 a2 : Int32) (μ : sm_Mem), (∀ (a0 a1 a2 : Int32) (μ : sm_Mem), J a0 a1 a2 μ → P a0 a1 a2 μ) → body J a0 a1 a2 μ → P a0 a1 a2 μ) {a0 a1 a2 : Int32} { μ : sm_Mem} (h : sm_lp3 body a0 a1 a2 μ) : P a0 a1 a2 μ := by
  obtain ⟨I, ⟨n, hn⟩, hI⟩ := h
  have key : ∀ (n : Nat) (a0 a1 a2 : Int32) (μ : sm_Mem), I n a0 a1 a2 μ → P a0 a1 a2 μ := by
    intro n
    induction n using Nat.strongRecOn with
    | _ n ih =>
      intro a0 a1 a2 μ hy
      exact hb _ a0 a1 a2 μ (fun a0 a1 a2 μ hz => by obtain ⟨k, hk, hz⟩ := hz; exact ih k hk a0 a1 a2 μ hz) (hI n a0 a1 a2 μ hy)
  exact key n a0 a1 a2 μ hn
def sm_lp4 (body : (Int32 → Int32 → Int32 → Int32 → sm_Mem → Prop) → Int32 → Int32 → Int32 → Int32 → sm_Mem → Prop) (a0 a1 a2 a3 : Int32) (μ : sm_Mem) : Prop := ∃ I : Nat → Int32 → Int32 → Int32 → Int32 → sm_Mem → Prop, (∃ n, I n a0 a1 a2 a3 μ) ∧ ∀ (n : Nat) (a0 a1 a2 a3 : Int32) (μ : sm_Mem), I n a0 a1 a2 a3 μ → body (fun a0 a1 a2 a3 μ => ∃ k, k < n ∧ I k a0 a1 a2 a3 μ) a0 a1 a2 a3 μ
theorem sm_lp4_sound {body : (Int32 → Int32 → Int32 → Int32 → sm_Mem → Prop) → Int32 → Int32 → Int32 → Int32 → sm_Mem → Prop} {P : Int32 → Int32 → Int32 → Int32 → sm_Mem → Prop} (hb : ∀ (J : Int32 → Int32 → Int32 → Int32 → sm_Mem → Prop) (a0 a1 a2 a3 : Int32) (μ : sm_Mem), (∀ (a0 a1 a2 a3 : Int32) (μ : sm_Mem), J a0 a1 a2 a3 μ → P a0 a1 a2 a3 μ) → body J a0 a1 a2 a3 μ → P a0 a1 a2 a3 μ) {a0 a1 a2 a3 : Int32} { μ : sm_Mem} (h : sm_lp4 body a0 a1 a2 a3 μ) : P a0 a1 a2 a3 μ := by
  obtain ⟨I, ⟨n, hn⟩, hI⟩ := h
  have key : ∀ (n : Nat) (a0 a1 a2 a3 : Int32) (μ : sm_Mem), I n a0 a1 a2 a3 μ → P a0 a1 a2 a3 μ := by
    intro n
    induction n using Nat.strongRecOn with
    | _ n ih =>
      intro a0 a1 a2 a3 μ hy
      exact hb _ a0 a1 a2 a3 μ (fun a0 a1 a2 a3 μ hz => by obtain ⟨k, hk, hz⟩ := hz; exact ih k hk a0 a1 a2 a3 μ hz) (hI n a0 a1 a2 a3 μ hy)
  exact key n a0 a1 a2 a3 μ hn
def sm_lp5 (body : (Int32 → Int32 → Int32 → Int32 → Int32 → sm_Mem → Prop) → Int32 → Int32 → Int32 → Int32 → Int32 → sm_Mem → Prop) (a0 a1 a2 a3 a4 : Int32) (μ : sm_Mem) : Prop := ∃ I : Nat → Int32 → Int32 → Int32 → Int32 → Int32 → sm_Mem → Prop, (∃ n, I n a0 a1 a2 a3 a4 μ) ∧ ∀ (n : Nat) (a0 a1 a2 a3 a4 : Int32) (μ : sm_Mem), I n a0 a1 a2 a3 a4 μ → body (fun a0 a1 a2 a3 a4 μ => ∃ k, k < n ∧ I k a0 a1 a2 a3 a4 μ) a0 a1 a2 a3 a4 μ
theorem sm_lp5_sound {body : (Int32 → Int32 → Int32 → Int32 → Int32 → sm_Mem → Prop) → Int32 → Int32 → Int32 → Int32 → Int32 → sm_Mem → Prop} {P : Int32 → Int32 → Int32 → Int32 → Int32 → sm_Mem → Prop} (hb : ∀ (J : Int32 → Int32 → Int32 → Int32 → Int32 → sm_Mem → Prop) (a0 a1 a2 a3 a4 : Int32) (μ : sm_Mem), (∀ (a0 a1 a2 a3 a4 : Int32) (μ : sm_Mem), J a0 a1 a2 a3 a4 μ → P a0 a1 a2 a3 a4 μ) → body J a0 a1 a2 a3 a4 μ → P a0 a1 a2 a3 a4 μ) {a0 a1 a2 a3 a4 : Int32} { μ : sm_Mem} (h : sm_lp5 body a0 a1 a2 a3 a4 μ) : P a0 a1 a2 a3 a4 μ := by
  obtain ⟨I, ⟨n, hn⟩, hI⟩ := h
  have key : ∀ (n : Nat) (a0 a1 a2 a3 a4 : Int32) (μ : sm_Mem), I n a0 a1 a2 a3 a4 μ → P a0 a1 a2 a3 a4 μ := by
    intro n
    induction n using Nat.strongRecOn with
    | _ n ih =>
      intro a0 a1 a2 a3 a4 μ hy
      exact hb _ a0 a1 a2 a3 a4 μ (fun a0 a1 a2 a3 a4 μ hz => by obtain ⟨k, hk, hz⟩ := hz; exact ih k hk a0 a1 a2 a3 a4 μ hz) (hI n a0 a1 a2 a3 a4 μ hy)
  exact key n a0 a1 a2 a3 a4 μ hn
def sm_lp6 (body : (Int32 → Int32 → Int32 → Int32 → Int32 → Int32 → sm_Mem → Prop) → Int32 → Int32 → Int32 → Int32 → Int32 → Int32 → sm_Mem → Prop) (a0 a1 a2 a3 a4 a5 : Int32) (μ : sm_Mem) : Prop := ∃ I : Nat → Int32 → Int32 → Int32 → Int32 → Int32 → Int32 → sm_Mem → Prop, (∃ n, I n a0 a1 a2 a3 a4 a5 μ) ∧ ∀ (n : Nat) (a0 a1 a2 a3 a4 a5 : Int32) (μ : sm_Mem), I n a0 a1 a2 a3 a4 a5 μ → body (fun a0 a1 a2 a3 a4 a5 μ => ∃ k, k < n ∧ I k a0 a1 a2 a3 a4 a5 μ) a0 a1 a2 a3 a4 a5 μ
theorem sm_lp6_sound {body : (Int32 → Int32 → Int32 → Int32 → Int32 → Int32 → sm_Mem → Prop) → Int32 → Int32 → Int32 → Int32 → Int32 → Int32 → sm_Mem → Prop} {P : Int32 → Int32 → Int32 → Int32 → Int32 → Int32 → sm_Mem → Prop} (hb : ∀ (J : Int32 → Int32 → Int32 → Int32 → Int32 → Int32 → sm_Mem → Prop) (a0 a1 a2 a3 a4 a5 : Int32) (μ : sm_Mem), (∀ (a0 a1 a2 a3 a4 a5 : Int32) (μ : sm_Mem), J a0 a1 a2 a3 a4 a5 μ → P a0 a1 a2 a3 a4 a5 μ) → body J a0 a1 a2 a3 a4 a5 μ → P a0 a1 a2 a3 a4 a5 μ) {a0 a1 a2 a3 a4 a5 : Int32} { μ : sm_Mem} (h : sm_lp6 body a0 a1 a2 a3 a4 a5 μ) : P a0 a1 a2 a3 a4 a5 μ := by
  obtain ⟨I, ⟨n, hn⟩, hI⟩ := h
  have key : ∀ (n : Nat) (a0 a1 a2 a3 a4 a5 : Int32) (μ : sm_Mem), I n a0 a1 a2 a3 a4 a5 μ → P a0 a1 a2 a3 a4 a5 μ := by
    intro n
    induction n using Nat.strongRecOn with
    | _ n ih =>
      intro a0 a1 a2 a3 a4 a5 μ hy
      exact hb _ a0 a1 a2 a3 a4 a5 μ (fun a0 a1 a2 a3 a4 a5 μ hz => by obtain ⟨k, hk, hz⟩ := hz; exact ih k hk a0 a1 a2 a3 a4 a5 μ hz) (hI n a0 a1 a2 a3 a4 a5 μ hy)
  exact key n a0 a1 a2 a3 a4 a5 μ hn
def isText (k : Nat) : Prop := sm_lays[k]? = some (1, 4, [k + 3, k + 4, k + 5, 0]) ∧ sm_lays[k + 1]? = some (0, 50, []) ∧ sm_lays[k + 2]? = some (0, 50, []) ∧ sm_lays[k + 3]? = some (0, 50, [])
def isSheet (k : Nat) : Prop := sm_lays[k]? = some (1, 3, [k + 3, 0, 0]) ∧ sm_lays[k + 1]? = some (0, 40, [])
def isArr (k n : Nat) : Prop := sm_lays[k]? = some (0, n, [])
def sm_find (x : Int32) : List Int32 → Int32 → Int32
  | [], _ => -1
  | y :: ys, i => if x = y then i else sm_find x ys (i + 1)
/-- where a sign stands in the c-th of the three texts, -1: nowhere -/
def sm_idx (c : Nat) (x : Int32) : Int32 := sm_find x (sm_sbyt.getD c []) 0
end
section
theorem q_mini : Cond.initialized "java/lang/Math" ∈ sm_tbl := sm_in (List.mem_append_right _ (List.mem_of_getElem? (i := 9) (by decide +kernel))) (by decide +kernel)
theorem q_mmax1 : Cond.static Lib.Math.max.name ∈ sm_tbl := sm_in (List.mem_append_right _ (List.mem_of_getElem? (i := 349) (by decide +kernel))) (by decide +kernel)
theorem q_mmax2 : Cond.code Lib.Math.max.name Lib.Math.max.code 2 (some .int) ∈ sm_tbl := sm_in (List.mem_append_right _ (List.mem_of_getElem? (i := 350) (by decide +kernel))) (by decide +kernel)
theorem q_mmin1 : Cond.static Lib.Math.min.name ∈ sm_tbl := sm_in (List.mem_append_right _ (List.mem_of_getElem? (i := 352) (by decide +kernel))) (by decide +kernel)
theorem q_mmin2 : Cond.code Lib.Math.min.name Lib.Math.min.code 2 (some .int) ∈ sm_tbl := sm_in (List.mem_append_right _ (List.mem_of_getElem? (i := 353) (by decide +kernel))) (by decide +kernel)
theorem q_sysn : Cond.native arraycopyName ∈ sm_tbl := sm_in (List.mem_append_right _ (List.mem_of_getElem? (i := 418) (by decide +kernel))) (by decide +kernel)
theorem q_syss : Cond.static arraycopyName ∈ sm_tbl := sm_in (List.mem_append_right _ (List.mem_of_getElem? (i := 417) (by decide +kernel))) (by decide +kernel)
theorem q_sysi : Cond.initialized "java/lang/System" ∈ sm_tbl := sm_in (List.mem_append_right _ (List.mem_of_getElem? (i := 11) (by decide +kernel))) (by decide +kernel)
theorem q_0 : Cond.methodLink "SnowMoney" 53 ⟨"SnowMoney", "within", "(III)Z"⟩ ∈ sm_tbl := sm_in (List.mem_append_right _ (List.mem_of_getElem? (i := 272) (by decide +kernel))) (by decide +kernel)
theorem q_1 : Cond.initialized "SnowMoney" ∈ sm_tbl := sm_in (List.mem_append_right _ (List.mem_of_getElem? (i := 1) (by decide +kernel))) (by decide +kernel)
theorem q_2 : Cond.code ⟨"SnowMoney", "within", "(III)Z"⟩ prog_1_method_44_code 3 (some .boolean) ∈ sm_tbl := sm_in (List.mem_append_right _ (List.mem_of_getElem? (i := 274) (by decide +kernel))) (by decide +kernel)
theorem q_3 : Cond.static ⟨"SnowMoney", "within", "(III)Z"⟩ ∈ sm_tbl := sm_in (List.mem_append_right _ (List.mem_of_getElem? (i := 273) (by decide +kernel))) (by decide +kernel)
theorem ok_0 : sm_okS "SnowMoney" 53 ⟨"SnowMoney", "within", "(III)Z"⟩ prog_1_method_44_code 3 (some .boolean) 3 := ⟨⟨q_0, q_1, q_2, by decide +kernel⟩, q_3⟩
theorem q_4 : Cond.fieldLink "SnowMoney" 10 (sm_T6 0).1 (sm_T6 0).2.1 (sm_T6 0).2.2.1 ∈ sm_tbl := sm_in (List.mem_append_right _ (List.mem_of_getElem? (i := 243) (by decide +kernel))) (by decide +kernel)
theorem q_5 : Cond.fieldLink "SnowMoney" 61 (sm_T0 11).1 (sm_T0 11).2.1 (sm_T0 11).2.2.1 ∈ sm_tbl := sm_in (List.mem_append_right _ (List.mem_of_getElem? (i := 80) (by decide +kernel))) (by decide +kernel)
theorem q_6 : Cond.fieldLink "SnowMoney" 65 (sm_T0 0).1 (sm_T0 0).2.1 (sm_T0 0).2.2.1 ∈ sm_tbl := sm_in (List.mem_append_right _ (List.mem_of_getElem? (i := 54) (by decide +kernel))) (by decide +kernel)
theorem q_7 : Cond.methodLink "SnowMoney" 57 ⟨"SnowMoney", "error", "(I)I"⟩ ∈ sm_tbl := sm_in (List.mem_append_right _ (List.mem_of_getElem? (i := 275) (by decide +kernel))) (by decide +kernel)
theorem q_8 : Cond.code ⟨"SnowMoney", "error", "(I)I"⟩ prog_1_method_43_code 2 (some .int) ∈ sm_tbl := sm_in (List.mem_append_right _ (List.mem_of_getElem? (i := 278) (by decide +kernel))) (by decide +kernel)
theorem q_9 : Cond.selects "SnowMoney" ⟨"SnowMoney", "error", "(I)I"⟩ ⟨"SnowMoney", "error", "(I)I"⟩ ∈ sm_tbl := sm_in (List.mem_append_left _ (List.mem_of_getElem? (i := 0) (by decide +kernel))) (by decide +kernel)
theorem q_10 : Cond.instanceMethod ⟨"SnowMoney", "error", "(I)I"⟩ ∈ sm_tbl := sm_in (List.mem_append_right _ (List.mem_of_getElem? (i := 277) (by decide +kernel))) (by decide +kernel)
theorem ok_1 : sm_okV "SnowMoney" 57 ⟨"SnowMoney", "error", "(I)I"⟩ prog_1_method_43_code 2 (some .int) 1 := ⟨⟨q_7, q_1, q_8, by decide +kernel⟩, q_10, q_9⟩
theorem q_11 : Cond.constant "SnowMoney" 295 (-1000000000) ∈ sm_tbl := sm_in (List.mem_append_right _ (List.mem_of_getElem? (i := 279) (by decide +kernel))) (by decide +kernel)
theorem q_12 : Cond.fieldLink "SnowMoney" 49 (sm_T6 6).1 (sm_T6 6).2.1 (sm_T6 6).2.2.1 ∈ sm_tbl := sm_in (List.mem_append_right _ (List.mem_of_getElem? (i := 249) (by decide +kernel))) (by decide +kernel)
theorem q_13 : Cond.methodLink "SnowMoney" 68 ⟨"SnowMoney$Duchy", "hasPlace", "(I)Z"⟩ ∈ sm_tbl := sm_in (List.mem_append_right _ (List.mem_of_getElem? (i := 284) (by decide +kernel))) (by decide +kernel)
theorem q_14 : Cond.initialized "SnowMoney$Duchy" ∈ sm_tbl := sm_in (List.mem_append_right _ (List.mem_of_getElem? (i := 2) (by decide +kernel))) (by decide +kernel)
theorem q_15 : Cond.code ⟨"SnowMoney$Duchy", "hasPlace", "(I)Z"⟩ prog_2_method_3_code 2 (some .boolean) ∈ sm_tbl := sm_in (List.mem_append_right _ (List.mem_of_getElem? (i := 287) (by decide +kernel))) (by decide +kernel)
theorem q_16 : Cond.selects "SnowMoney$Duchy" ⟨"SnowMoney$Duchy", "hasPlace", "(I)Z"⟩ ⟨"SnowMoney$Duchy", "hasPlace", "(I)Z"⟩ ∈ sm_tbl := sm_in (List.mem_append_right _ (List.mem_of_getElem? (i := 286) (by decide +kernel))) (by decide +kernel)
theorem q_17 : Cond.instanceMethod ⟨"SnowMoney$Duchy", "hasPlace", "(I)Z"⟩ ∈ sm_tbl := sm_in (List.mem_append_right _ (List.mem_of_getElem? (i := 285) (by decide +kernel))) (by decide +kernel)
theorem ok_2 : sm_okV "SnowMoney" 68 ⟨"SnowMoney$Duchy", "hasPlace", "(I)Z"⟩ prog_2_method_3_code 2 (some .boolean) 1 := ⟨⟨q_13, q_14, q_15, by decide +kernel⟩, q_17, q_16⟩
theorem q_18 : Cond.fieldLink "SnowMoney$Duchy" 64 (sm_T0 11).1 (sm_T0 11).2.1 (sm_T0 11).2.2.1 ∈ sm_tbl := sm_in (List.mem_append_right _ (List.mem_of_getElem? (i := 81) (by decide +kernel))) (by decide +kernel)
theorem q_19 : Cond.methodLink "SnowMoney" 72 ⟨"SnowMoney$Duchy", "notesAt", "(I)I"⟩ ∈ sm_tbl := sm_in (List.mem_append_right _ (List.mem_of_getElem? (i := 292) (by decide +kernel))) (by decide +kernel)
theorem q_20 : Cond.code ⟨"SnowMoney$Duchy", "notesAt", "(I)I"⟩ prog_2_method_7_code 4 (some .int) ∈ sm_tbl := sm_in (List.mem_append_right _ (List.mem_of_getElem? (i := 295) (by decide +kernel))) (by decide +kernel)
theorem q_21 : Cond.selects "SnowMoney$Duchy" ⟨"SnowMoney$Duchy", "notesAt", "(I)I"⟩ ⟨"SnowMoney$Duchy", "notesAt", "(I)I"⟩ ∈ sm_tbl := sm_in (List.mem_append_right _ (List.mem_of_getElem? (i := 294) (by decide +kernel))) (by decide +kernel)
theorem q_22 : Cond.instanceMethod ⟨"SnowMoney$Duchy", "notesAt", "(I)I"⟩ ∈ sm_tbl := sm_in (List.mem_append_right _ (List.mem_of_getElem? (i := 293) (by decide +kernel))) (by decide +kernel)
theorem ok_3 : sm_okV "SnowMoney" 72 ⟨"SnowMoney$Duchy", "notesAt", "(I)I"⟩ prog_2_method_7_code 4 (some .int) 1 := ⟨⟨q_19, q_14, q_20, by decide +kernel⟩, q_22, q_21⟩
theorem q_23 : Cond.fieldLink "SnowMoney$Duchy" 67 (sm_T0 12).1 (sm_T0 12).2.1 (sm_T0 12).2.2.1 ∈ sm_tbl := sm_in (List.mem_append_right _ (List.mem_of_getElem? (i := 83) (by decide +kernel))) (by decide +kernel)
theorem q_24 : Cond.fieldLink "SnowMoney$Duchy" 25 (sm_T0 5).1 (sm_T0 5).2.1 (sm_T0 5).2.2.1 ∈ sm_tbl := sm_in (List.mem_append_right _ (List.mem_of_getElem? (i := 65) (by decide +kernel))) (by decide +kernel)
theorem q_25 : Cond.methodLink "SnowMoney" 75 ⟨"SnowMoney$Duchy", "roadBetween", "(II)I"⟩ ∈ sm_tbl := sm_in (List.mem_append_right _ (List.mem_of_getElem? (i := 300) (by decide +kernel))) (by decide +kernel)
theorem q_26 : Cond.code ⟨"SnowMoney$Duchy", "roadBetween", "(II)I"⟩ prog_2_method_8_code 3 (some .int) ∈ sm_tbl := sm_in (List.mem_append_right _ (List.mem_of_getElem? (i := 303) (by decide +kernel))) (by decide +kernel)
theorem q_27 : Cond.selects "SnowMoney$Duchy" ⟨"SnowMoney$Duchy", "roadBetween", "(II)I"⟩ ⟨"SnowMoney$Duchy", "roadBetween", "(II)I"⟩ ∈ sm_tbl := sm_in (List.mem_append_right _ (List.mem_of_getElem? (i := 302) (by decide +kernel))) (by decide +kernel)
theorem q_28 : Cond.instanceMethod ⟨"SnowMoney$Duchy", "roadBetween", "(II)I"⟩ ∈ sm_tbl := sm_in (List.mem_append_right _ (List.mem_of_getElem? (i := 301) (by decide +kernel))) (by decide +kernel)
theorem ok_4 : sm_okV "SnowMoney" 75 ⟨"SnowMoney$Duchy", "roadBetween", "(II)I"⟩ prog_2_method_8_code 3 (some .int) 2 := ⟨⟨q_25, q_14, q_26, by decide +kernel⟩, q_28, q_27⟩
theorem q_29 : Cond.methodLink "SnowMoney" 79 ⟨"SnowMoney$Duchy", "setRoad", "(III)V"⟩ ∈ sm_tbl := sm_in (List.mem_append_right _ (List.mem_of_getElem? (i := 305) (by decide +kernel))) (by decide +kernel)
theorem q_30 : Cond.code ⟨"SnowMoney$Duchy", "setRoad", "(III)V"⟩ prog_2_method_9_code 4 none ∈ sm_tbl := sm_in (List.mem_append_right _ (List.mem_of_getElem? (i := 308) (by decide +kernel))) (by decide +kernel)
theorem q_31 : Cond.selects "SnowMoney$Duchy" ⟨"SnowMoney$Duchy", "setRoad", "(III)V"⟩ ⟨"SnowMoney$Duchy", "setRoad", "(III)V"⟩ ∈ sm_tbl := sm_in (List.mem_append_right _ (List.mem_of_getElem? (i := 307) (by decide +kernel))) (by decide +kernel)
theorem q_32 : Cond.instanceMethod ⟨"SnowMoney$Duchy", "setRoad", "(III)V"⟩ ∈ sm_tbl := sm_in (List.mem_append_right _ (List.mem_of_getElem? (i := 306) (by decide +kernel))) (by decide +kernel)
theorem ok_5 : sm_okV "SnowMoney" 79 ⟨"SnowMoney$Duchy", "setRoad", "(III)V"⟩ prog_2_method_9_code 4 none 3 := ⟨⟨q_29, q_14, q_30, by decide +kernel⟩, q_32, q_31⟩
theorem q_33 : Cond.methodLink "SnowMoney$Duchy" 79 ⟨"SnowMoney$Duchy", "hasPlace", "(I)Z"⟩ ∈ sm_tbl := sm_in (List.mem_append_right _ (List.mem_of_getElem? (i := 304) (by decide +kernel))) (by decide +kernel)
theorem ok_6 : sm_okV "SnowMoney$Duchy" 79 ⟨"SnowMoney$Duchy", "hasPlace", "(I)Z"⟩ prog_2_method_3_code 2 (some .boolean) 1 := ⟨⟨q_33, q_14, q_15, by decide +kernel⟩, q_17, q_16⟩
theorem q_34 : Cond.fieldLink "SnowMoney$Duchy" 13 (sm_T0 1).1 (sm_T0 1).2.1 (sm_T0 1).2.2.1 ∈ sm_tbl := sm_in (List.mem_append_right _ (List.mem_of_getElem? (i := 55) (by decide +kernel))) (by decide +kernel)
theorem q_35 : Cond.fieldLink "SnowMoney" 83 (sm_T0 12).1 (sm_T0 12).2.1 (sm_T0 12).2.2.1 ∈ sm_tbl := sm_in (List.mem_append_right _ (List.mem_of_getElem? (i := 85) (by decide +kernel))) (by decide +kernel)
theorem q_36 : Cond.fieldLink "SnowMoney" 86 (sm_T0 2).1 (sm_T0 2).2.1 (sm_T0 2).2.2.1 ∈ sm_tbl := sm_in (List.mem_append_right _ (List.mem_of_getElem? (i := 58) (by decide +kernel))) (by decide +kernel)
theorem q_37 : Cond.fieldLink "SnowMoney" 89 (sm_T0 3).1 (sm_T0 3).2.1 (sm_T0 3).2.2.1 ∈ sm_tbl := sm_in (List.mem_append_right _ (List.mem_of_getElem? (i := 61) (by decide +kernel))) (by decide +kernel)
theorem q_38 : Cond.fieldLink "SnowMoney" 92 (sm_T0 4).1 (sm_T0 4).2.1 (sm_T0 4).2.2.1 ∈ sm_tbl := sm_in (List.mem_append_right _ (List.mem_of_getElem? (i := 64) (by decide +kernel))) (by decide +kernel)
theorem q_39 : Cond.fieldLink "SnowMoney" 95 (sm_T0 5).1 (sm_T0 5).2.1 (sm_T0 5).2.2.1 ∈ sm_tbl := sm_in (List.mem_append_right _ (List.mem_of_getElem? (i := 66) (by decide +kernel))) (by decide +kernel)
theorem q_40 : Cond.fieldLink "SnowMoney" 98 (sm_T0 6).1 (sm_T0 6).2.1 (sm_T0 6).2.2.1 ∈ sm_tbl := sm_in (List.mem_append_right _ (List.mem_of_getElem? (i := 70) (by decide +kernel))) (by decide +kernel)
theorem q_41 : Cond.methodLink "SnowMoney" 101 ⟨"SnowMoney$Duchy", "hasNote", "(I)Z"⟩ ∈ sm_tbl := sm_in (List.mem_append_right _ (List.mem_of_getElem? (i := 317) (by decide +kernel))) (by decide +kernel)
theorem q_42 : Cond.code ⟨"SnowMoney$Duchy", "hasNote", "(I)Z"⟩ prog_2_method_4_code 2 (some .boolean) ∈ sm_tbl := sm_in (List.mem_append_right _ (List.mem_of_getElem? (i := 320) (by decide +kernel))) (by decide +kernel)
theorem q_43 : Cond.selects "SnowMoney$Duchy" ⟨"SnowMoney$Duchy", "hasNote", "(I)Z"⟩ ⟨"SnowMoney$Duchy", "hasNote", "(I)Z"⟩ ∈ sm_tbl := sm_in (List.mem_append_right _ (List.mem_of_getElem? (i := 319) (by decide +kernel))) (by decide +kernel)
theorem q_44 : Cond.instanceMethod ⟨"SnowMoney$Duchy", "hasNote", "(I)Z"⟩ ∈ sm_tbl := sm_in (List.mem_append_right _ (List.mem_of_getElem? (i := 318) (by decide +kernel))) (by decide +kernel)
theorem ok_7 : sm_okV "SnowMoney" 101 ⟨"SnowMoney$Duchy", "hasNote", "(I)Z"⟩ prog_2_method_4_code 2 (some .boolean) 1 := ⟨⟨q_41, q_14, q_42, by decide +kernel⟩, q_44, q_43⟩
theorem q_45 : Cond.methodLink "SnowMoney" 104 ⟨"SnowMoney$Duchy", "meltsNow", "(II)I"⟩ ∈ sm_tbl := sm_in (List.mem_append_right _ (List.mem_of_getElem? (i := 321) (by decide +kernel))) (by decide +kernel)
theorem q_46 : Cond.code ⟨"SnowMoney$Duchy", "meltsNow", "(II)I"⟩ prog_2_method_12_code 3 (some .int) ∈ sm_tbl := sm_in (List.mem_append_right _ (List.mem_of_getElem? (i := 324) (by decide +kernel))) (by decide +kernel)
theorem q_47 : Cond.selects "SnowMoney$Duchy" ⟨"SnowMoney$Duchy", "meltsNow", "(II)I"⟩ ⟨"SnowMoney$Duchy", "meltsNow", "(II)I"⟩ ∈ sm_tbl := sm_in (List.mem_append_right _ (List.mem_of_getElem? (i := 323) (by decide +kernel))) (by decide +kernel)
theorem q_48 : Cond.instanceMethod ⟨"SnowMoney$Duchy", "meltsNow", "(II)I"⟩ ∈ sm_tbl := sm_in (List.mem_append_right _ (List.mem_of_getElem? (i := 322) (by decide +kernel))) (by decide +kernel)
theorem ok_8 : sm_okV "SnowMoney" 104 ⟨"SnowMoney$Duchy", "meltsNow", "(II)I"⟩ prog_2_method_12_code 3 (some .int) 2 := ⟨⟨q_45, q_14, q_46, by decide +kernel⟩, q_48, q_47⟩
theorem q_49 : Cond.methodLink "SnowMoney" 107 ⟨"SnowMoney$Duchy", "paysWith", "(II)I"⟩ ∈ sm_tbl := sm_in (List.mem_append_right _ (List.mem_of_getElem? (i := 361) (by decide +kernel))) (by decide +kernel)
theorem q_50 : Cond.code ⟨"SnowMoney$Duchy", "paysWith", "(II)I"⟩ prog_2_method_13_code 4 (some .int) ∈ sm_tbl := sm_in (List.mem_append_right _ (List.mem_of_getElem? (i := 364) (by decide +kernel))) (by decide +kernel)
theorem q_51 : Cond.selects "SnowMoney$Duchy" ⟨"SnowMoney$Duchy", "paysWith", "(II)I"⟩ ⟨"SnowMoney$Duchy", "paysWith", "(II)I"⟩ ∈ sm_tbl := sm_in (List.mem_append_right _ (List.mem_of_getElem? (i := 363) (by decide +kernel))) (by decide +kernel)
theorem q_52 : Cond.instanceMethod ⟨"SnowMoney$Duchy", "paysWith", "(II)I"⟩ ∈ sm_tbl := sm_in (List.mem_append_right _ (List.mem_of_getElem? (i := 362) (by decide +kernel))) (by decide +kernel)
theorem ok_9 : sm_okV "SnowMoney" 107 ⟨"SnowMoney$Duchy", "paysWith", "(II)I"⟩ prog_2_method_13_code 4 (some .int) 2 := ⟨⟨q_49, q_14, q_50, by decide +kernel⟩, q_52, q_51⟩
theorem q_53 : Cond.methodLink "SnowMoney$Duchy" 83 ⟨"SnowMoney$Duchy", "hasNote", "(I)Z"⟩ ∈ sm_tbl := sm_in (List.mem_append_right _ (List.mem_of_getElem? (i := 325) (by decide +kernel))) (by decide +kernel)
theorem ok_10 : sm_okV "SnowMoney$Duchy" 83 ⟨"SnowMoney$Duchy", "hasNote", "(I)Z"⟩ prog_2_method_4_code 2 (some .boolean) 1 := ⟨⟨q_53, q_14, q_42, by decide +kernel⟩, q_44, q_43⟩
theorem q_54 : Cond.fieldLink "SnowMoney$Duchy" 16 (sm_T0 2).1 (sm_T0 2).2.1 (sm_T0 2).2.2.1 ∈ sm_tbl := sm_in (List.mem_append_right _ (List.mem_of_getElem? (i := 56) (by decide +kernel))) (by decide +kernel)
theorem q_55 : Cond.fieldLink "SnowMoney$Duchy" 19 (sm_T0 3).1 (sm_T0 3).2.1 (sm_T0 3).2.2.1 ∈ sm_tbl := sm_in (List.mem_append_right _ (List.mem_of_getElem? (i := 59) (by decide +kernel))) (by decide +kernel)
theorem q_56 : Cond.methodLink "SnowMoney$Duchy" 86 ⟨"SnowMoney$Duchy", "warmthOf", "(I)I"⟩ ∈ sm_tbl := sm_in (List.mem_append_right _ (List.mem_of_getElem? (i := 326) (by decide +kernel))) (by decide +kernel)
theorem q_57 : Cond.code ⟨"SnowMoney$Duchy", "warmthOf", "(I)I"⟩ prog_2_method_5_code 2 (some .int) ∈ sm_tbl := sm_in (List.mem_append_right _ (List.mem_of_getElem? (i := 329) (by decide +kernel))) (by decide +kernel)
theorem q_58 : Cond.selects "SnowMoney$Duchy" ⟨"SnowMoney$Duchy", "warmthOf", "(I)I"⟩ ⟨"SnowMoney$Duchy", "warmthOf", "(I)I"⟩ ∈ sm_tbl := sm_in (List.mem_append_right _ (List.mem_of_getElem? (i := 328) (by decide +kernel))) (by decide +kernel)
theorem q_59 : Cond.instanceMethod ⟨"SnowMoney$Duchy", "warmthOf", "(I)I"⟩ ∈ sm_tbl := sm_in (List.mem_append_right _ (List.mem_of_getElem? (i := 327) (by decide +kernel))) (by decide +kernel)
theorem ok_11 : sm_okV "SnowMoney$Duchy" 86 ⟨"SnowMoney$Duchy", "warmthOf", "(I)I"⟩ prog_2_method_5_code 2 (some .int) 1 := ⟨⟨q_56, q_14, q_57, by decide +kernel⟩, q_59, q_58⟩
theorem q_60 : Cond.fieldLink "SnowMoney$Duchy" 47 (sm_T0 13).1 (sm_T0 13).2.1 (sm_T0 13).2.2.1 ∈ sm_tbl := sm_in (List.mem_append_right _ (List.mem_of_getElem? (i := 86) (by decide +kernel))) (by decide +kernel)
theorem q_61 : Cond.fieldLink "SnowMoney$Duchy" 70 (sm_T0 14).1 (sm_T0 14).2.1 (sm_T0 14).2.2.1 ∈ sm_tbl := sm_in (List.mem_append_right _ (List.mem_of_getElem? (i := 90) (by decide +kernel))) (by decide +kernel)
theorem q_62 : Cond.methodLink "SnowMoney$Duchy" 107 ⟨"SnowMoney$Duchy", "heatBy", "(III)I"⟩ ∈ sm_tbl := sm_in (List.mem_append_right _ (List.mem_of_getElem? (i := 330) (by decide +kernel))) (by decide +kernel)
theorem q_63 : Cond.code ⟨"SnowMoney$Duchy", "heatBy", "(III)I"⟩ prog_2_method_10_code 5 (some .int) ∈ sm_tbl := sm_in (List.mem_append_right _ (List.mem_of_getElem? (i := 333) (by decide +kernel))) (by decide +kernel)
theorem q_64 : Cond.selects "SnowMoney$Duchy" ⟨"SnowMoney$Duchy", "heatBy", "(III)I"⟩ ⟨"SnowMoney$Duchy", "heatBy", "(III)I"⟩ ∈ sm_tbl := sm_in (List.mem_append_right _ (List.mem_of_getElem? (i := 332) (by decide +kernel))) (by decide +kernel)
theorem q_65 : Cond.instanceMethod ⟨"SnowMoney$Duchy", "heatBy", "(III)I"⟩ ∈ sm_tbl := sm_in (List.mem_append_right _ (List.mem_of_getElem? (i := 331) (by decide +kernel))) (by decide +kernel)
theorem ok_12 : sm_okV "SnowMoney$Duchy" 107 ⟨"SnowMoney$Duchy", "heatBy", "(III)I"⟩ prog_2_method_10_code 5 (some .int) 3 := ⟨⟨q_62, q_14, q_63, by decide +kernel⟩, q_65, q_64⟩
theorem q_66 : Cond.methodLink "SnowMoney$Duchy" 110 ⟨"SnowMoney$Kinds", "melts", "(III)I"⟩ ∈ sm_tbl := sm_in (List.mem_append_right _ (List.mem_of_getElem? (i := 354) (by decide +kernel))) (by decide +kernel)
theorem q_67 : Cond.initialized "SnowMoney$Kinds" ∈ sm_tbl := sm_in (List.mem_append_right _ (List.mem_of_getElem? (i := 10) (by decide +kernel))) (by decide +kernel)
theorem q_68 : Cond.code ⟨"SnowMoney$Kinds", "melts", "(III)I"⟩ prog_4_method_4_code 3 (some .int) ∈ sm_tbl := sm_in (List.mem_append_right _ (List.mem_of_getElem? (i := 356) (by decide +kernel))) (by decide +kernel)
theorem q_69 : Cond.static ⟨"SnowMoney$Kinds", "melts", "(III)I"⟩ ∈ sm_tbl := sm_in (List.mem_append_right _ (List.mem_of_getElem? (i := 355) (by decide +kernel))) (by decide +kernel)
theorem ok_13 : sm_okS "SnowMoney$Duchy" 110 ⟨"SnowMoney$Kinds", "melts", "(III)I"⟩ prog_4_method_4_code 3 (some .int) 3 := ⟨⟨q_66, q_67, q_68, by decide +kernel⟩, q_69⟩
theorem q_70 : Cond.fieldLink "SnowMoney$Duchy" 40 (sm_T0 9).1 (sm_T0 9).2.1 (sm_T0 9).2.2.1 ∈ sm_tbl := sm_in (List.mem_append_right _ (List.mem_of_getElem? (i := 76) (by decide +kernel))) (by decide +kernel)
theorem q_71 : Cond.methodLink "SnowMoney$Duchy" 90 ⟨"SnowMoney$Text", "isMissing", "()Z"⟩ ∈ sm_tbl := sm_in (List.mem_append_right _ (List.mem_of_getElem? (i := 334) (by decide +kernel))) (by decide +kernel)
theorem q_72 : Cond.initialized "SnowMoney$Text" ∈ sm_tbl := sm_in (List.mem_append_right _ (List.mem_of_getElem? (i := 3) (by decide +kernel))) (by decide +kernel)
theorem q_73 : Cond.code ⟨"SnowMoney$Text", "isMissing", "()Z"⟩ prog_7_method_2_code 1 (some .boolean) ∈ sm_tbl := sm_in (List.mem_append_right _ (List.mem_of_getElem? (i := 337) (by decide +kernel))) (by decide +kernel)
theorem q_74 : Cond.selects "SnowMoney$Text" ⟨"SnowMoney$Text", "isMissing", "()Z"⟩ ⟨"SnowMoney$Text", "isMissing", "()Z"⟩ ∈ sm_tbl := sm_in (List.mem_append_right _ (List.mem_of_getElem? (i := 336) (by decide +kernel))) (by decide +kernel)
theorem q_75 : Cond.instanceMethod ⟨"SnowMoney$Text", "isMissing", "()Z"⟩ ∈ sm_tbl := sm_in (List.mem_append_right _ (List.mem_of_getElem? (i := 335) (by decide +kernel))) (by decide +kernel)
theorem ok_14 : sm_okV "SnowMoney$Duchy" 90 ⟨"SnowMoney$Text", "isMissing", "()Z"⟩ prog_7_method_2_code 1 (some .boolean) 0 := ⟨⟨q_71, q_72, q_73, by decide +kernel⟩, q_75, q_74⟩
theorem q_76 : Cond.methodLink "SnowMoney$Duchy" 94 ⟨"SnowMoney$Text", "valueWith", "(III)I"⟩ ∈ sm_tbl := sm_in (List.mem_append_right _ (List.mem_of_getElem? (i := 338) (by decide +kernel))) (by decide +kernel)
theorem q_77 : Cond.code ⟨"SnowMoney$Text", "valueWith", "(III)I"⟩ prog_7_method_6_code 7 (some .int) ∈ sm_tbl := sm_in (List.mem_append_right _ (List.mem_of_getElem? (i := 341) (by decide +kernel))) (by decide +kernel)
theorem q_78 : Cond.selects "SnowMoney$Text" ⟨"SnowMoney$Text", "valueWith", "(III)I"⟩ ⟨"SnowMoney$Text", "valueWith", "(III)I"⟩ ∈ sm_tbl := sm_in (List.mem_append_right _ (List.mem_of_getElem? (i := 340) (by decide +kernel))) (by decide +kernel)
theorem q_79 : Cond.instanceMethod ⟨"SnowMoney$Text", "valueWith", "(III)I"⟩ ∈ sm_tbl := sm_in (List.mem_append_right _ (List.mem_of_getElem? (i := 339) (by decide +kernel))) (by decide +kernel)
theorem ok_15 : sm_okV "SnowMoney$Duchy" 94 ⟨"SnowMoney$Text", "valueWith", "(III)I"⟩ prog_7_method_6_code 7 (some .int) 3 := ⟨⟨q_76, q_72, q_77, by decide +kernel⟩, q_79, q_78⟩
theorem q_80 : Cond.methodLink "SnowMoney$Duchy" 98 Lib.Math.max.name ∈ sm_tbl := sm_in (List.mem_append_right _ (List.mem_of_getElem? (i := 348) (by decide +kernel))) (by decide +kernel)
theorem q_81 : Cond.methodLink "SnowMoney$Duchy" 104 Lib.Math.min.name ∈ sm_tbl := sm_in (List.mem_append_right _ (List.mem_of_getElem? (i := 351) (by decide +kernel))) (by decide +kernel)
theorem q_82 : Cond.fieldLink "SnowMoney$Text" 19 (sm_T4 3).1 (sm_T4 3).2.1 (sm_T4 3).2.2.1 ∈ sm_tbl := sm_in (List.mem_append_right _ (List.mem_of_getElem? (i := 42) (by decide +kernel))) (by decide +kernel)
theorem q_83 : Cond.fieldLink "SnowMoney$Text" 16 (sm_T4 2).1 (sm_T4 2).2.1 (sm_T4 2).2.2.1 ∈ sm_tbl := sm_in (List.mem_append_right _ (List.mem_of_getElem? (i := 41) (by decide +kernel))) (by decide +kernel)
theorem q_84 : Cond.fieldLink "SnowMoney$Text" 9 (sm_T4 0).1 (sm_T4 0).2.1 (sm_T4 0).2.2.1 ∈ sm_tbl := sm_in (List.mem_append_right _ (List.mem_of_getElem? (i := 39) (by decide +kernel))) (by decide +kernel)
theorem q_85 : Cond.fieldLink "SnowMoney$Text" 13 (sm_T4 1).1 (sm_T4 1).2.1 (sm_T4 1).2.2.1 ∈ sm_tbl := sm_in (List.mem_append_right _ (List.mem_of_getElem? (i := 40) (by decide +kernel))) (by decide +kernel)
theorem q_86 : Cond.methodLink "SnowMoney$Text" 29 ⟨"SnowMoney$Text", "named", "(IIII)I"⟩ ∈ sm_tbl := sm_in (List.mem_append_right _ (List.mem_of_getElem? (i := 342) (by decide +kernel))) (by decide +kernel)
theorem q_87 : Cond.code ⟨"SnowMoney$Text", "named", "(IIII)I"⟩ prog_7_method_7_code 4 (some .int) ∈ sm_tbl := sm_in (List.mem_append_right _ (List.mem_of_getElem? (i := 344) (by decide +kernel))) (by decide +kernel)
theorem q_88 : Cond.static ⟨"SnowMoney$Text", "named", "(IIII)I"⟩ ∈ sm_tbl := sm_in (List.mem_append_right _ (List.mem_of_getElem? (i := 343) (by decide +kernel))) (by decide +kernel)
theorem ok_16 : sm_okS "SnowMoney$Text" 29 ⟨"SnowMoney$Text", "named", "(IIII)I"⟩ prog_7_method_7_code 4 (some .int) 4 := ⟨⟨q_86, q_72, q_87, by decide +kernel⟩, q_88⟩
theorem q_89 : Cond.methodLink "SnowMoney$Text" 33 ⟨"SnowMoney$Text", "joined", "(III)I"⟩ ∈ sm_tbl := sm_in (List.mem_append_right _ (List.mem_of_getElem? (i := 345) (by decide +kernel))) (by decide +kernel)
theorem q_90 : Cond.code ⟨"SnowMoney$Text", "joined", "(III)I"⟩ prog_7_method_8_code 3 (some .int) ∈ sm_tbl := sm_in (List.mem_append_right _ (List.mem_of_getElem? (i := 347) (by decide +kernel))) (by decide +kernel)
theorem q_91 : Cond.static ⟨"SnowMoney$Text", "joined", "(III)I"⟩ ∈ sm_tbl := sm_in (List.mem_append_right _ (List.mem_of_getElem? (i := 346) (by decide +kernel))) (by decide +kernel)
theorem ok_17 : sm_okS "SnowMoney$Text" 33 ⟨"SnowMoney$Text", "joined", "(III)I"⟩ prog_7_method_8_code 3 (some .int) 3 := ⟨⟨q_89, q_72, q_90, by decide +kernel⟩, q_91⟩
theorem q_92 : Cond.fieldLink "SnowMoney$Duchy" 9 (sm_T0 0).1 (sm_T0 0).2.1 (sm_T0 0).2.2.1 ∈ sm_tbl := sm_in (List.mem_append_right _ (List.mem_of_getElem? (i := 53) (by decide +kernel))) (by decide +kernel)
theorem q_93 : Cond.methodLink "SnowMoney$Kinds" 17 ⟨"SnowMoney$Kinds", "meltsBelowZeroToo", "(III)I"⟩ ∈ sm_tbl := sm_in (List.mem_append_right _ (List.mem_of_getElem? (i := 357) (by decide +kernel))) (by decide +kernel)
theorem q_94 : Cond.code ⟨"SnowMoney$Kinds", "meltsBelowZeroToo", "(III)I"⟩ prog_4_method_5_code 3 (some .int) ∈ sm_tbl := sm_in (List.mem_append_right _ (List.mem_of_getElem? (i := 359) (by decide +kernel))) (by decide +kernel)
theorem q_95 : Cond.static ⟨"SnowMoney$Kinds", "meltsBelowZeroToo", "(III)I"⟩ ∈ sm_tbl := sm_in (List.mem_append_right _ (List.mem_of_getElem? (i := 358) (by decide +kernel))) (by decide +kernel)
theorem ok_18 : sm_okS "SnowMoney$Kinds" 17 ⟨"SnowMoney$Kinds", "meltsBelowZeroToo", "(III)I"⟩ prog_4_method_5_code 3 (some .int) 3 := ⟨⟨q_93, q_67, q_94, by decide +kernel⟩, q_95⟩
theorem q_96 : Cond.methodLink "SnowMoney$Kinds" 21 Lib.Math.max.name ∈ sm_tbl := sm_in (List.mem_append_right _ (List.mem_of_getElem? (i := 360) (by decide +kernel))) (by decide +kernel)
theorem q_97 : Cond.methodLink "SnowMoney$Duchy" 115 ⟨"SnowMoney$Kinds", "isOf", "(II)Z"⟩ ∈ sm_tbl := sm_in (List.mem_append_right _ (List.mem_of_getElem? (i := 365) (by decide +kernel))) (by decide +kernel)
theorem q_98 : Cond.code ⟨"SnowMoney$Kinds", "isOf", "(II)Z"⟩ prog_4_method_3_code 4 (some .boolean) ∈ sm_tbl := sm_in (List.mem_append_right _ (List.mem_of_getElem? (i := 367) (by decide +kernel))) (by decide +kernel)
theorem q_99 : Cond.static ⟨"SnowMoney$Kinds", "isOf", "(II)Z"⟩ ∈ sm_tbl := sm_in (List.mem_append_right _ (List.mem_of_getElem? (i := 366) (by decide +kernel))) (by decide +kernel)
theorem ok_19 : sm_okS "SnowMoney$Duchy" 115 ⟨"SnowMoney$Kinds", "isOf", "(II)Z"⟩ prog_4_method_3_code 4 (some .boolean) 2 := ⟨⟨q_97, q_67, q_98, by decide +kernel⟩, q_99⟩
theorem q_100 : Cond.methodLink "SnowMoney$Duchy" 122 ⟨"SnowMoney$Kinds", "pays", "(IIIZ)I"⟩ ∈ sm_tbl := sm_in (List.mem_append_right _ (List.mem_of_getElem? (i := 377) (by decide +kernel))) (by decide +kernel)
theorem q_101 : Cond.code ⟨"SnowMoney$Kinds", "pays", "(IIIZ)I"⟩ prog_4_method_6_code 4 (some .int) ∈ sm_tbl := sm_in (List.mem_append_right _ (List.mem_of_getElem? (i := 379) (by decide +kernel))) (by decide +kernel)
theorem q_102 : Cond.static ⟨"SnowMoney$Kinds", "pays", "(IIIZ)I"⟩ ∈ sm_tbl := sm_in (List.mem_append_right _ (List.mem_of_getElem? (i := 378) (by decide +kernel))) (by decide +kernel)
theorem ok_20 : sm_okS "SnowMoney$Duchy" 122 ⟨"SnowMoney$Kinds", "pays", "(IIIZ)I"⟩ prog_4_method_6_code 4 (some .int) 4 := ⟨⟨q_100, q_67, q_101, by decide +kernel⟩, q_102⟩
theorem q_103 : Cond.fieldLink "SnowMoney$Duchy" 28 (sm_T0 6).1 (sm_T0 6).2.1 (sm_T0 6).2.2.1 ∈ sm_tbl := sm_in (List.mem_append_right _ (List.mem_of_getElem? (i := 68) (by decide +kernel))) (by decide +kernel)
theorem q_104 : Cond.methodLink "SnowMoney$Duchy" 119 ⟨"SnowMoney$Duchy", "foundBy", "(III)I"⟩ ∈ sm_tbl := sm_in (List.mem_append_right _ (List.mem_of_getElem? (i := 373) (by decide +kernel))) (by decide +kernel)
theorem q_105 : Cond.code ⟨"SnowMoney$Duchy", "foundBy", "(III)I"⟩ prog_2_method_11_code 4 (some .int) ∈ sm_tbl := sm_in (List.mem_append_right _ (List.mem_of_getElem? (i := 376) (by decide +kernel))) (by decide +kernel)
theorem q_106 : Cond.selects "SnowMoney$Duchy" ⟨"SnowMoney$Duchy", "foundBy", "(III)I"⟩ ⟨"SnowMoney$Duchy", "foundBy", "(III)I"⟩ ∈ sm_tbl := sm_in (List.mem_append_right _ (List.mem_of_getElem? (i := 375) (by decide +kernel))) (by decide +kernel)
theorem q_107 : Cond.instanceMethod ⟨"SnowMoney$Duchy", "foundBy", "(III)I"⟩ ∈ sm_tbl := sm_in (List.mem_append_right _ (List.mem_of_getElem? (i := 374) (by decide +kernel))) (by decide +kernel)
theorem ok_21 : sm_okV "SnowMoney$Duchy" 119 ⟨"SnowMoney$Duchy", "foundBy", "(III)I"⟩ prog_2_method_11_code 4 (some .int) 3 := ⟨⟨q_104, q_14, q_105, by decide +kernel⟩, q_107, q_106⟩
theorem q_108 : Cond.fieldLink "SnowMoney$Duchy" 44 (sm_T0 10).1 (sm_T0 10).2.1 (sm_T0 10).2.2.1 ∈ sm_tbl := sm_in (List.mem_append_right _ (List.mem_of_getElem? (i := 78) (by decide +kernel))) (by decide +kernel)
theorem q_109 : Cond.fieldLink "SnowMoney$Kinds" 7 "SnowMoney$Kinds" "ABOVE" "[I" ∈ sm_tbl := sm_in (List.mem_append_right _ (List.mem_of_getElem? (i := 368) (by decide +kernel))) (by decide +kernel)
theorem q_110 : Cond.methodLink "SnowMoney$Kinds" 13 ⟨"SnowMoney$Kinds", "above", "(I)I"⟩ ∈ sm_tbl := sm_in (List.mem_append_right _ (List.mem_of_getElem? (i := 370) (by decide +kernel))) (by decide +kernel)
theorem q_111 : Cond.code ⟨"SnowMoney$Kinds", "above", "(I)I"⟩ prog_4_method_2_code 1 (some .int) ∈ sm_tbl := sm_in (List.mem_append_right _ (List.mem_of_getElem? (i := 372) (by decide +kernel))) (by decide +kernel)
theorem q_112 : Cond.static ⟨"SnowMoney$Kinds", "above", "(I)I"⟩ ∈ sm_tbl := sm_in (List.mem_append_right _ (List.mem_of_getElem? (i := 371) (by decide +kernel))) (by decide +kernel)
theorem ok_22 : sm_okS "SnowMoney$Kinds" 13 ⟨"SnowMoney$Kinds", "above", "(I)I"⟩ prog_4_method_2_code 1 (some .int) 1 := ⟨⟨q_110, q_67, q_111, by decide +kernel⟩, q_112⟩
theorem q_113 : Cond.methodLink "SnowMoney" 110 ⟨"SnowMoney", "swap", "([III)I"⟩ ∈ sm_tbl := sm_in (List.mem_append_right _ (List.mem_of_getElem? (i := 384) (by decide +kernel))) (by decide +kernel)
theorem q_114 : Cond.code ⟨"SnowMoney", "swap", "([III)I"⟩ prog_1_method_45_code 4 (some .int) ∈ sm_tbl := sm_in (List.mem_append_right _ (List.mem_of_getElem? (i := 386) (by decide +kernel))) (by decide +kernel)
theorem q_115 : Cond.static ⟨"SnowMoney", "swap", "([III)I"⟩ ∈ sm_tbl := sm_in (List.mem_append_right _ (List.mem_of_getElem? (i := 385) (by decide +kernel))) (by decide +kernel)
theorem ok_23 : sm_okS "SnowMoney" 110 ⟨"SnowMoney", "swap", "([III)I"⟩ prog_1_method_45_code 4 (some .int) 3 := ⟨⟨q_113, q_1, q_114, by decide +kernel⟩, q_115⟩
theorem q_116 : Cond.methodLink "SnowMoney" 116 ⟨"SnowMoney$Kinds", "isOf", "(II)Z"⟩ ∈ sm_tbl := sm_in (List.mem_append_right _ (List.mem_of_getElem? (i := 395) (by decide +kernel))) (by decide +kernel)
theorem ok_24 : sm_okS "SnowMoney" 116 ⟨"SnowMoney$Kinds", "isOf", "(II)Z"⟩ prog_4_method_3_code 4 (some .boolean) 2 := ⟨⟨q_116, q_67, q_98, by decide +kernel⟩, q_99⟩
theorem q_117 : Cond.fieldLink "SnowMoney" 120 (sm_T0 13).1 (sm_T0 13).2.1 (sm_T0 13).2.2.1 ∈ sm_tbl := sm_in (List.mem_append_right _ (List.mem_of_getElem? (i := 88) (by decide +kernel))) (by decide +kernel)
theorem q_118 : Cond.fieldLink "SnowMoney" 123 (sm_T0 15).1 (sm_T0 15).2.1 (sm_T0 15).2.2.1 ∈ sm_tbl := sm_in (List.mem_append_right _ (List.mem_of_getElem? (i := 93) (by decide +kernel))) (by decide +kernel)
theorem q_119 : Cond.fieldLink "SnowMoney" 126 (sm_T0 7).1 (sm_T0 7).2.1 (sm_T0 7).2.2.1 ∈ sm_tbl := sm_in (List.mem_append_right _ (List.mem_of_getElem? (i := 72) (by decide +kernel))) (by decide +kernel)
theorem q_120 : Cond.fieldLink "SnowMoney" 31 (sm_T6 3).1 (sm_T6 3).2.1 (sm_T6 3).2.2.1 ∈ sm_tbl := sm_in (List.mem_append_right _ (List.mem_of_getElem? (i := 246) (by decide +kernel))) (by decide +kernel)
theorem q_121 : Cond.methodLink "SnowMoney" 133 ⟨"SnowMoney$Reader", "read", "([IILjava/lang/String;)I"⟩ ∈ sm_tbl := sm_in (List.mem_append_right _ (List.mem_of_getElem? (i := 410) (by decide +kernel))) (by decide +kernel)
theorem q_122 : Cond.initialized "SnowMoney$Reader" ∈ sm_tbl := sm_in (List.mem_append_right _ (List.mem_of_getElem? (i := 5) (by decide +kernel))) (by decide +kernel)
theorem q_123 : Cond.code ⟨"SnowMoney$Reader", "read", "([IILjava/lang/String;)I"⟩ prog_5_method_2_code 4 (some .int) ∈ sm_tbl := sm_in (List.mem_append_right _ (List.mem_of_getElem? (i := 413) (by decide +kernel))) (by decide +kernel)
theorem q_124 : Cond.selects "SnowMoney$Reader" ⟨"SnowMoney$Reader", "read", "([IILjava/lang/String;)I"⟩ ⟨"SnowMoney$Reader", "read", "([IILjava/lang/String;)I"⟩ ∈ sm_tbl := sm_in (List.mem_append_right _ (List.mem_of_getElem? (i := 412) (by decide +kernel))) (by decide +kernel)
theorem q_125 : Cond.instanceMethod ⟨"SnowMoney$Reader", "read", "([IILjava/lang/String;)I"⟩ ∈ sm_tbl := sm_in (List.mem_append_right _ (List.mem_of_getElem? (i := 411) (by decide +kernel))) (by decide +kernel)
theorem ok_25 : sm_okV "SnowMoney" 133 ⟨"SnowMoney$Reader", "read", "([IILjava/lang/String;)I"⟩ prog_5_method_2_code 4 (some .int) 3 := ⟨⟨q_121, q_122, q_123, by decide +kernel⟩, q_125, q_124⟩
theorem q_126 : Cond.fieldLink "SnowMoney" 141 (sm_T0 10).1 (sm_T0 10).2.1 (sm_T0 10).2.2.1 ∈ sm_tbl := sm_in (List.mem_append_right _ (List.mem_of_getElem? (i := 79) (by decide +kernel))) (by decide +kernel)
theorem q_127 : Cond.fieldLink "SnowMoney" 144 (sm_T2 0).1 (sm_T2 0).2.1 (sm_T2 0).2.2.1 ∈ sm_tbl := sm_in (List.mem_append_right _ (List.mem_of_getElem? (i := 182) (by decide +kernel))) (by decide +kernel)
theorem q_128 : Cond.methodLink "SnowMoney" 147 ⟨"SnowMoney$Text", "take", "(LSnowMoney$Text;)V"⟩ ∈ sm_tbl := sm_in (List.mem_append_right _ (List.mem_of_getElem? (i := 552) (by decide +kernel))) (by decide +kernel)
theorem q_129 : Cond.code ⟨"SnowMoney$Text", "take", "(LSnowMoney$Text;)V"⟩ prog_7_method_4_code 2 none ∈ sm_tbl := sm_in (List.mem_append_right _ (List.mem_of_getElem? (i := 555) (by decide +kernel))) (by decide +kernel)
theorem q_130 : Cond.selects "SnowMoney$Text" ⟨"SnowMoney$Text", "take", "(LSnowMoney$Text;)V"⟩ ⟨"SnowMoney$Text", "take", "(LSnowMoney$Text;)V"⟩ ∈ sm_tbl := sm_in (List.mem_append_right _ (List.mem_of_getElem? (i := 554) (by decide +kernel))) (by decide +kernel)
theorem q_131 : Cond.instanceMethod ⟨"SnowMoney$Text", "take", "(LSnowMoney$Text;)V"⟩ ∈ sm_tbl := sm_in (List.mem_append_right _ (List.mem_of_getElem? (i := 553) (by decide +kernel))) (by decide +kernel)
theorem ok_26 : sm_okV "SnowMoney" 147 ⟨"SnowMoney$Text", "take", "(LSnowMoney$Text;)V"⟩ prog_7_method_4_code 2 none 1 := ⟨⟨q_128, q_72, q_129, by decide +kernel⟩, q_131, q_130⟩
theorem q_132 : Cond.fieldLink "SnowMoney" 137 (sm_T0 9).1 (sm_T0 9).2.1 (sm_T0 9).2.2.1 ∈ sm_tbl := sm_in (List.mem_append_right _ (List.mem_of_getElem? (i := 77) (by decide +kernel))) (by decide +kernel)
theorem q_133 : Cond.fieldLink "SnowMoney$Reader" 18 (sm_T2 1).1 (sm_T2 1).2.1 (sm_T2 1).2.2.1 ∈ sm_tbl := sm_in (List.mem_append_right _ (List.mem_of_getElem? (i := 183) (by decide +kernel))) (by decide +kernel)
theorem q_134 : Cond.methodLink "SnowMoney$Reader" 28 Lib.Math.min.name ∈ sm_tbl := sm_in (List.mem_append_right _ (List.mem_of_getElem? (i := 414) (by decide +kernel))) (by decide +kernel)
theorem q_135 : Cond.methodLink "SnowMoney$Reader" 34 Lib.Math.max.name ∈ sm_tbl := sm_in (List.mem_append_right _ (List.mem_of_getElem? (i := 415) (by decide +kernel))) (by decide +kernel)
theorem q_136 : Cond.fieldLink "SnowMoney$Reader" 37 (sm_T2 2).1 (sm_T2 2).2.1 (sm_T2 2).2.2.1 ∈ sm_tbl := sm_in (List.mem_append_right _ (List.mem_of_getElem? (i := 184) (by decide +kernel))) (by decide +kernel)
theorem q_137 : Cond.methodLink "SnowMoney$Reader" 41 arraycopyName ∈ sm_tbl := sm_in (List.mem_append_right _ (List.mem_of_getElem? (i := 416) (by decide +kernel))) (by decide +kernel)
theorem q_138 : Cond.fieldLink "SnowMoney$Reader" 24 (sm_T2 4).1 (sm_T2 4).2.1 (sm_T2 4).2.2.1 ∈ sm_tbl := sm_in (List.mem_append_right _ (List.mem_of_getElem? (i := 186) (by decide +kernel))) (by decide +kernel)
theorem q_139 : Cond.fieldLink "SnowMoney$Reader" 47 (sm_T2 3).1 (sm_T2 3).2.1 (sm_T2 3).2.2.1 ∈ sm_tbl := sm_in (List.mem_append_right _ (List.mem_of_getElem? (i := 185) (by decide +kernel))) (by decide +kernel)
theorem q_140 : Cond.fieldLink "SnowMoney$Reader" 10 (sm_T2 0).1 (sm_T2 0).2.1 (sm_T2 0).2.2.1 ∈ sm_tbl := sm_in (List.mem_append_right _ (List.mem_of_getElem? (i := 181) (by decide +kernel))) (by decide +kernel)
theorem q_141 : Cond.methodLink "SnowMoney$Reader" 50 ⟨"SnowMoney$Text", "clear", "()V"⟩ ∈ sm_tbl := sm_in (List.mem_append_right _ (List.mem_of_getElem? (i := 419) (by decide +kernel))) (by decide +kernel)
theorem q_142 : Cond.code ⟨"SnowMoney$Text", "clear", "()V"⟩ prog_7_method_3_code 1 none ∈ sm_tbl := sm_in (List.mem_append_right _ (List.mem_of_getElem? (i := 422) (by decide +kernel))) (by decide +kernel)
theorem q_143 : Cond.selects "SnowMoney$Text" ⟨"SnowMoney$Text", "clear", "()V"⟩ ⟨"SnowMoney$Text", "clear", "()V"⟩ ∈ sm_tbl := sm_in (List.mem_append_right _ (List.mem_of_getElem? (i := 421) (by decide +kernel))) (by decide +kernel)
theorem q_144 : Cond.instanceMethod ⟨"SnowMoney$Text", "clear", "()V"⟩ ∈ sm_tbl := sm_in (List.mem_append_right _ (List.mem_of_getElem? (i := 420) (by decide +kernel))) (by decide +kernel)
theorem ok_27 : sm_okV "SnowMoney$Reader" 50 ⟨"SnowMoney$Text", "clear", "()V"⟩ prog_7_method_3_code 1 none 0 := ⟨⟨q_141, q_72, q_142, by decide +kernel⟩, q_144, q_143⟩
theorem q_145 : Cond.methodLink "SnowMoney$Reader" 53 ⟨"SnowMoney$Reader", "readOr", "(I)Z"⟩ ∈ sm_tbl := sm_in (List.mem_append_right _ (List.mem_of_getElem? (i := 423) (by decide +kernel))) (by decide +kernel)
theorem q_146 : Cond.code ⟨"SnowMoney$Reader", "readOr", "(I)Z"⟩ prog_5_method_4_code 4 (some .boolean) ∈ sm_tbl := sm_in (List.mem_append_right _ (List.mem_of_getElem? (i := 426) (by decide +kernel))) (by decide +kernel)
theorem q_147 : Cond.selects "SnowMoney$Reader" ⟨"SnowMoney$Reader", "readOr", "(I)Z"⟩ ⟨"SnowMoney$Reader", "readOr", "(I)Z"⟩ ∈ sm_tbl := sm_in (List.mem_append_left _ (List.mem_of_getElem? (i := 1) (by decide +kernel))) (by decide +kernel)
theorem q_148 : Cond.instanceMethod ⟨"SnowMoney$Reader", "readOr", "(I)Z"⟩ ∈ sm_tbl := sm_in (List.mem_append_right _ (List.mem_of_getElem? (i := 425) (by decide +kernel))) (by decide +kernel)
theorem ok_28 : sm_okV "SnowMoney$Reader" 53 ⟨"SnowMoney$Reader", "readOr", "(I)Z"⟩ prog_5_method_4_code 4 (some .boolean) 1 := ⟨⟨q_145, q_122, q_146, by decide +kernel⟩, q_148, q_147⟩
theorem q_149 : Cond.methodLink "SnowMoney$Reader" 57 ⟨"SnowMoney$Reader", "readAnd", "(I)Z"⟩ ∈ sm_tbl := sm_in (List.mem_append_right _ (List.mem_of_getElem? (i := 427) (by decide +kernel))) (by decide +kernel)
theorem q_150 : Cond.code ⟨"SnowMoney$Reader", "readAnd", "(I)Z"⟩ prog_5_method_5_code 4 (some .boolean) ∈ sm_tbl := sm_in (List.mem_append_right _ (List.mem_of_getElem? (i := 430) (by decide +kernel))) (by decide +kernel)
theorem q_151 : Cond.selects "SnowMoney$Reader" ⟨"SnowMoney$Reader", "readAnd", "(I)Z"⟩ ⟨"SnowMoney$Reader", "readAnd", "(I)Z"⟩ ∈ sm_tbl := sm_in (List.mem_append_left _ (List.mem_of_getElem? (i := 2) (by decide +kernel))) (by decide +kernel)
theorem q_152 : Cond.instanceMethod ⟨"SnowMoney$Reader", "readAnd", "(I)Z"⟩ ∈ sm_tbl := sm_in (List.mem_append_right _ (List.mem_of_getElem? (i := 429) (by decide +kernel))) (by decide +kernel)
theorem ok_29 : sm_okV "SnowMoney$Reader" 57 ⟨"SnowMoney$Reader", "readAnd", "(I)Z"⟩ prog_5_method_5_code 4 (some .boolean) 1 := ⟨⟨q_149, q_122, q_150, by decide +kernel⟩, q_152, q_151⟩
theorem q_153 : Cond.methodLink "SnowMoney$Reader" 60 ⟨"SnowMoney$Reader", "next", "()I"⟩ ∈ sm_tbl := sm_in (List.mem_append_right _ (List.mem_of_getElem? (i := 447) (by decide +kernel))) (by decide +kernel)
theorem q_154 : Cond.code ⟨"SnowMoney$Reader", "next", "()I"⟩ prog_5_method_3_code 1 (some .int) ∈ sm_tbl := sm_in (List.mem_append_right _ (List.mem_of_getElem? (i := 450) (by decide +kernel))) (by decide +kernel)
theorem q_155 : Cond.selects "SnowMoney$Reader" ⟨"SnowMoney$Reader", "next", "()I"⟩ ⟨"SnowMoney$Reader", "next", "()I"⟩ ∈ sm_tbl := sm_in (List.mem_append_left _ (List.mem_of_getElem? (i := 7) (by decide +kernel))) (by decide +kernel)
theorem q_156 : Cond.instanceMethod ⟨"SnowMoney$Reader", "next", "()I"⟩ ∈ sm_tbl := sm_in (List.mem_append_right _ (List.mem_of_getElem? (i := 449) (by decide +kernel))) (by decide +kernel)
theorem ok_30 : sm_okV "SnowMoney$Reader" 60 ⟨"SnowMoney$Reader", "next", "()I"⟩ prog_5_method_3_code 1 (some .int) 0 := ⟨⟨q_153, q_122, q_154, by decide +kernel⟩, q_156, q_155⟩
theorem q_157 : Cond.methodLink "SnowMoney$Reader" 64 ⟨"SnowMoney$Text", "add", "(II)V"⟩ ∈ sm_tbl := sm_in (List.mem_append_right _ (List.mem_of_getElem? (i := 458) (by decide +kernel))) (by decide +kernel)
theorem q_158 : Cond.code ⟨"SnowMoney$Text", "add", "(II)V"⟩ prog_7_method_5_code 3 none ∈ sm_tbl := sm_in (List.mem_append_right _ (List.mem_of_getElem? (i := 461) (by decide +kernel))) (by decide +kernel)
theorem q_159 : Cond.selects "SnowMoney$Text" ⟨"SnowMoney$Text", "add", "(II)V"⟩ ⟨"SnowMoney$Text", "add", "(II)V"⟩ ∈ sm_tbl := sm_in (List.mem_append_right _ (List.mem_of_getElem? (i := 460) (by decide +kernel))) (by decide +kernel)
theorem q_160 : Cond.instanceMethod ⟨"SnowMoney$Text", "add", "(II)V"⟩ ∈ sm_tbl := sm_in (List.mem_append_right _ (List.mem_of_getElem? (i := 459) (by decide +kernel))) (by decide +kernel)
theorem ok_31 : sm_okV "SnowMoney$Reader" 64 ⟨"SnowMoney$Text", "add", "(II)V"⟩ prog_7_method_5_code 3 none 2 := ⟨⟨q_157, q_72, q_158, by decide +kernel⟩, q_160, q_159⟩
theorem q_161 : Cond.methodLink "SnowMoney$Reader" 68 ⟨"SnowMoney$Reader", "readComparison", "(I)Z"⟩ ∈ sm_tbl := sm_in (List.mem_append_right _ (List.mem_of_getElem? (i := 431) (by decide +kernel))) (by decide +kernel)
theorem q_162 : Cond.code ⟨"SnowMoney$Reader", "readComparison", "(I)Z"⟩ prog_5_method_6_code 4 (some .boolean) ∈ sm_tbl := sm_in (List.mem_append_right _ (List.mem_of_getElem? (i := 434) (by decide +kernel))) (by decide +kernel)
theorem q_163 : Cond.selects "SnowMoney$Reader" ⟨"SnowMoney$Reader", "readComparison", "(I)Z"⟩ ⟨"SnowMoney$Reader", "readComparison", "(I)Z"⟩ ∈ sm_tbl := sm_in (List.mem_append_left _ (List.mem_of_getElem? (i := 3) (by decide +kernel))) (by decide +kernel)
theorem q_164 : Cond.instanceMethod ⟨"SnowMoney$Reader", "readComparison", "(I)Z"⟩ ∈ sm_tbl := sm_in (List.mem_append_right _ (List.mem_of_getElem? (i := 433) (by decide +kernel))) (by decide +kernel)
theorem ok_32 : sm_okV "SnowMoney$Reader" 68 ⟨"SnowMoney$Reader", "readComparison", "(I)Z"⟩ prog_5_method_6_code 4 (some .boolean) 1 := ⟨⟨q_161, q_122, q_162, by decide +kernel⟩, q_164, q_163⟩
theorem q_165 : Cond.methodLink "SnowMoney$Reader" 71 ⟨"SnowMoney$Reader", "readSum", "(I)Z"⟩ ∈ sm_tbl := sm_in (List.mem_append_right _ (List.mem_of_getElem? (i := 435) (by decide +kernel))) (by decide +kernel)
theorem q_166 : Cond.code ⟨"SnowMoney$Reader", "readSum", "(I)Z"⟩ prog_5_method_7_code 5 (some .boolean) ∈ sm_tbl := sm_in (List.mem_append_right _ (List.mem_of_getElem? (i := 438) (by decide +kernel))) (by decide +kernel)
theorem q_167 : Cond.selects "SnowMoney$Reader" ⟨"SnowMoney$Reader", "readSum", "(I)Z"⟩ ⟨"SnowMoney$Reader", "readSum", "(I)Z"⟩ ∈ sm_tbl := sm_in (List.mem_append_left _ (List.mem_of_getElem? (i := 4) (by decide +kernel))) (by decide +kernel)
theorem q_168 : Cond.instanceMethod ⟨"SnowMoney$Reader", "readSum", "(I)Z"⟩ ∈ sm_tbl := sm_in (List.mem_append_right _ (List.mem_of_getElem? (i := 437) (by decide +kernel))) (by decide +kernel)
theorem ok_33 : sm_okV "SnowMoney$Reader" 71 ⟨"SnowMoney$Reader", "readSum", "(I)Z"⟩ prog_5_method_7_code 5 (some .boolean) 1 := ⟨⟨q_165, q_122, q_166, by decide +kernel⟩, q_168, q_167⟩
theorem q_169 : Cond.methodLink "SnowMoney$Reader" 74 ⟨"SnowMoney$Reader", "readProduct", "(I)Z"⟩ ∈ sm_tbl := sm_in (List.mem_append_right _ (List.mem_of_getElem? (i := 439) (by decide +kernel))) (by decide +kernel)
theorem q_170 : Cond.code ⟨"SnowMoney$Reader", "readProduct", "(I)Z"⟩ prog_5_method_8_code 5 (some .boolean) ∈ sm_tbl := sm_in (List.mem_append_right _ (List.mem_of_getElem? (i := 442) (by decide +kernel))) (by decide +kernel)
theorem q_171 : Cond.selects "SnowMoney$Reader" ⟨"SnowMoney$Reader", "readProduct", "(I)Z"⟩ ⟨"SnowMoney$Reader", "readProduct", "(I)Z"⟩ ∈ sm_tbl := sm_in (List.mem_append_left _ (List.mem_of_getElem? (i := 5) (by decide +kernel))) (by decide +kernel)
theorem q_172 : Cond.instanceMethod ⟨"SnowMoney$Reader", "readProduct", "(I)Z"⟩ ∈ sm_tbl := sm_in (List.mem_append_right _ (List.mem_of_getElem? (i := 441) (by decide +kernel))) (by decide +kernel)
theorem ok_34 : sm_okV "SnowMoney$Reader" 74 ⟨"SnowMoney$Reader", "readProduct", "(I)Z"⟩ prog_5_method_8_code 5 (some .boolean) 1 := ⟨⟨q_169, q_122, q_170, by decide +kernel⟩, q_172, q_171⟩
theorem q_173 : Cond.methodLink "SnowMoney$Reader" 77 ⟨"SnowMoney$Reader", "readPart", "(I)Z"⟩ ∈ sm_tbl := sm_in (List.mem_append_right _ (List.mem_of_getElem? (i := 443) (by decide +kernel))) (by decide +kernel)
theorem q_174 : Cond.code ⟨"SnowMoney$Reader", "readPart", "(I)Z"⟩ prog_5_method_9_code 4 (some .boolean) ∈ sm_tbl := sm_in (List.mem_append_right _ (List.mem_of_getElem? (i := 446) (by decide +kernel))) (by decide +kernel)
theorem q_175 : Cond.selects "SnowMoney$Reader" ⟨"SnowMoney$Reader", "readPart", "(I)Z"⟩ ⟨"SnowMoney$Reader", "readPart", "(I)Z"⟩ ∈ sm_tbl := sm_in (List.mem_append_left _ (List.mem_of_getElem? (i := 6) (by decide +kernel))) (by decide +kernel)
theorem q_176 : Cond.instanceMethod ⟨"SnowMoney$Reader", "readPart", "(I)Z"⟩ ∈ sm_tbl := sm_in (List.mem_append_right _ (List.mem_of_getElem? (i := 445) (by decide +kernel))) (by decide +kernel)
theorem ok_35 : sm_okV "SnowMoney$Reader" 77 ⟨"SnowMoney$Reader", "readPart", "(I)Z"⟩ prog_5_method_9_code 4 (some .boolean) 1 := ⟨⟨q_173, q_122, q_174, by decide +kernel⟩, q_176, q_175⟩
theorem q_177 : Cond.methodLink "SnowMoney$Reader" 80 ⟨"SnowMoney$Reader", "isDigit", "(I)Z"⟩ ∈ sm_tbl := sm_in (List.mem_append_right _ (List.mem_of_getElem? (i := 451) (by decide +kernel))) (by decide +kernel)
theorem q_178 : Cond.code ⟨"SnowMoney$Reader", "isDigit", "(I)Z"⟩ prog_5_method_13_code 1 (some .boolean) ∈ sm_tbl := sm_in (List.mem_append_right _ (List.mem_of_getElem? (i := 453) (by decide +kernel))) (by decide +kernel)
theorem q_179 : Cond.static ⟨"SnowMoney$Reader", "isDigit", "(I)Z"⟩ ∈ sm_tbl := sm_in (List.mem_append_right _ (List.mem_of_getElem? (i := 452) (by decide +kernel))) (by decide +kernel)
theorem ok_36 : sm_okS "SnowMoney$Reader" 80 ⟨"SnowMoney$Reader", "isDigit", "(I)Z"⟩ prog_5_method_13_code 1 (some .boolean) 1 := ⟨⟨q_177, q_122, q_178, by decide +kernel⟩, q_179⟩
theorem q_180 : Cond.methodLink "SnowMoney$Reader" 86 ⟨"java/lang/String", "indexOf", "(I)I"⟩ ∈ sm_tbl := sm_in (List.mem_append_right _ (List.mem_of_getElem? (i := 462) (by decide +kernel))) (by decide +kernel)
theorem q_181 : Cond.initialized "java/lang/String" ∈ sm_tbl := sm_in (List.mem_append_right _ (List.mem_of_getElem? (i := 12) (by decide +kernel))) (by decide +kernel)
theorem q_182 : Cond.code ⟨"java/lang/String", "indexOf", "(I)I"⟩ prog_14_method_79_code 2 (some .int) ∈ sm_tbl := sm_in (List.mem_append_right _ (List.mem_of_getElem? (i := 465) (by decide +kernel))) (by decide +kernel)
theorem q_183 : Cond.selects "java/lang/String" ⟨"java/lang/String", "indexOf", "(I)I"⟩ ⟨"java/lang/String", "indexOf", "(I)I"⟩ ∈ sm_tbl := sm_in (List.mem_append_right _ (List.mem_of_getElem? (i := 464) (by decide +kernel))) (by decide +kernel)
theorem q_184 : Cond.instanceMethod ⟨"java/lang/String", "indexOf", "(I)I"⟩ ∈ sm_tbl := sm_in (List.mem_append_right _ (List.mem_of_getElem? (i := 463) (by decide +kernel))) (by decide +kernel)
theorem ok_37 : sm_okV "SnowMoney$Reader" 86 ⟨"java/lang/String", "indexOf", "(I)I"⟩ prog_14_method_79_code 2 (some .int) 1 := ⟨⟨q_180, q_181, q_182, by decide +kernel⟩, q_184, q_183⟩
theorem q_185 : Cond.methodLink "SnowMoney$Reader" 95 ⟨"SnowMoney$Reader", "readClosed", "(I)Z"⟩ ∈ sm_tbl := sm_in (List.mem_append_right _ (List.mem_of_getElem? (i := 548) (by decide +kernel))) (by decide +kernel)
theorem q_186 : Cond.code ⟨"SnowMoney$Reader", "readClosed", "(I)Z"⟩ prog_5_method_11_code 2 (some .boolean) ∈ sm_tbl := sm_in (List.mem_append_right _ (List.mem_of_getElem? (i := 551) (by decide +kernel))) (by decide +kernel)
theorem q_187 : Cond.selects "SnowMoney$Reader" ⟨"SnowMoney$Reader", "readClosed", "(I)Z"⟩ ⟨"SnowMoney$Reader", "readClosed", "(I)Z"⟩ ∈ sm_tbl := sm_in (List.mem_append_left _ (List.mem_of_getElem? (i := 10) (by decide +kernel))) (by decide +kernel)
theorem q_188 : Cond.instanceMethod ⟨"SnowMoney$Reader", "readClosed", "(I)Z"⟩ ∈ sm_tbl := sm_in (List.mem_append_right _ (List.mem_of_getElem? (i := 550) (by decide +kernel))) (by decide +kernel)
theorem ok_38 : sm_okV "SnowMoney$Reader" 95 ⟨"SnowMoney$Reader", "readClosed", "(I)Z"⟩ prog_5_method_11_code 2 (some .boolean) 1 := ⟨⟨q_185, q_122, q_186, by decide +kernel⟩, q_188, q_187⟩
theorem q_189 : Cond.methodLink "SnowMoney$Reader" 92 ⟨"SnowMoney$Reader", "readDenied", "(I)Z"⟩ ∈ sm_tbl := sm_in (List.mem_append_right _ (List.mem_of_getElem? (i := 544) (by decide +kernel))) (by decide +kernel)
theorem q_190 : Cond.code ⟨"SnowMoney$Reader", "readDenied", "(I)Z"⟩ prog_5_method_10_code 3 (some .boolean) ∈ sm_tbl := sm_in (List.mem_append_right _ (List.mem_of_getElem? (i := 547) (by decide +kernel))) (by decide +kernel)
theorem q_191 : Cond.selects "SnowMoney$Reader" ⟨"SnowMoney$Reader", "readDenied", "(I)Z"⟩ ⟨"SnowMoney$Reader", "readDenied", "(I)Z"⟩ ∈ sm_tbl := sm_in (List.mem_append_left _ (List.mem_of_getElem? (i := 9) (by decide +kernel))) (by decide +kernel)
theorem q_192 : Cond.instanceMethod ⟨"SnowMoney$Reader", "readDenied", "(I)Z"⟩ ∈ sm_tbl := sm_in (List.mem_append_right _ (List.mem_of_getElem? (i := 546) (by decide +kernel))) (by decide +kernel)
theorem ok_39 : sm_okV "SnowMoney$Reader" 92 ⟨"SnowMoney$Reader", "readDenied", "(I)Z"⟩ prog_5_method_10_code 3 (some .boolean) 1 := ⟨⟨q_189, q_122, q_190, by decide +kernel⟩, q_192, q_191⟩
theorem q_193 : Cond.methodLink "SnowMoney$Reader" 83 ⟨"SnowMoney$Reader", "readNumber", "()V"⟩ ∈ sm_tbl := sm_in (List.mem_append_right _ (List.mem_of_getElem? (i := 454) (by decide +kernel))) (by decide +kernel)
theorem q_194 : Cond.code ⟨"SnowMoney$Reader", "readNumber", "()V"⟩ prog_5_method_12_code 3 none ∈ sm_tbl := sm_in (List.mem_append_right _ (List.mem_of_getElem? (i := 457) (by decide +kernel))) (by decide +kernel)
theorem q_195 : Cond.selects "SnowMoney$Reader" ⟨"SnowMoney$Reader", "readNumber", "()V"⟩ ⟨"SnowMoney$Reader", "readNumber", "()V"⟩ ∈ sm_tbl := sm_in (List.mem_append_left _ (List.mem_of_getElem? (i := 8) (by decide +kernel))) (by decide +kernel)
theorem q_196 : Cond.instanceMethod ⟨"SnowMoney$Reader", "readNumber", "()V"⟩ ∈ sm_tbl := sm_in (List.mem_append_right _ (List.mem_of_getElem? (i := 456) (by decide +kernel))) (by decide +kernel)
theorem ok_40 : sm_okV "SnowMoney$Reader" 83 ⟨"SnowMoney$Reader", "readNumber", "()V"⟩ prog_5_method_12_code 3 none 0 := ⟨⟨q_193, q_122, q_194, by decide +kernel⟩, q_196, q_195⟩
theorem q_197 : Cond.methodLink "SnowMoney$Text" 23 arraycopyName ∈ sm_tbl := sm_in (List.mem_append_right _ (List.mem_of_getElem? (i := 556) (by decide +kernel))) (by decide +kernel)
theorem q_198 : Cond.methodLink "SnowMoney" 153 ⟨"SnowMoney$Duchy", "heatBy", "(III)I"⟩ ∈ sm_tbl := sm_in (List.mem_append_right _ (List.mem_of_getElem? (i := 561) (by decide +kernel))) (by decide +kernel)
theorem ok_41 : sm_okV "SnowMoney" 153 ⟨"SnowMoney$Duchy", "heatBy", "(III)I"⟩ prog_2_method_10_code 5 (some .int) 3 := ⟨⟨q_198, q_14, q_63, by decide +kernel⟩, q_65, q_64⟩
theorem q_199 : Cond.methodLink "SnowMoney" 157 ⟨"SnowMoney$Duchy", "foundBy", "(III)I"⟩ ∈ sm_tbl := sm_in (List.mem_append_right _ (List.mem_of_getElem? (i := 562) (by decide +kernel))) (by decide +kernel)
theorem ok_42 : sm_okV "SnowMoney" 157 ⟨"SnowMoney$Duchy", "foundBy", "(III)I"⟩ prog_2_method_11_code 4 (some .int) 3 := ⟨⟨q_199, q_14, q_105, by decide +kernel⟩, q_107, q_106⟩
theorem q_200 : Cond.fieldLink "SnowMoney" 160 (sm_T0 14).1 (sm_T0 14).2.1 (sm_T0 14).2.2.1 ∈ sm_tbl := sm_in (List.mem_append_right _ (List.mem_of_getElem? (i := 91) (by decide +kernel))) (by decide +kernel)
theorem q_201 : Cond.methodLink "SnowMoney" 163 ⟨"SnowMoney", "pass", "(I)V"⟩ ∈ sm_tbl := sm_in (List.mem_append_right _ (List.mem_of_getElem? (i := 567) (by decide +kernel))) (by decide +kernel)
theorem q_202 : Cond.code ⟨"SnowMoney", "pass", "(I)V"⟩ prog_1_method_47_code 3 none ∈ sm_tbl := sm_in (List.mem_append_right _ (List.mem_of_getElem? (i := 570) (by decide +kernel))) (by decide +kernel)
theorem q_203 : Cond.selects "SnowMoney" ⟨"SnowMoney", "pass", "(I)V"⟩ ⟨"SnowMoney", "pass", "(I)V"⟩ ∈ sm_tbl := sm_in (List.mem_append_left _ (List.mem_of_getElem? (i := 11) (by decide +kernel))) (by decide +kernel)
theorem q_204 : Cond.instanceMethod ⟨"SnowMoney", "pass", "(I)V"⟩ ∈ sm_tbl := sm_in (List.mem_append_right _ (List.mem_of_getElem? (i := 569) (by decide +kernel))) (by decide +kernel)
theorem ok_43 : sm_okV "SnowMoney" 163 ⟨"SnowMoney", "pass", "(I)V"⟩ prog_1_method_47_code 3 none 1 := ⟨⟨q_201, q_1, q_202, by decide +kernel⟩, q_204, q_203⟩
theorem q_205 : Cond.methodLink "SnowMoney" 167 ⟨"SnowMoney$Duchy", "snowOfAll", "()I"⟩ ∈ sm_tbl := sm_in (List.mem_append_right _ (List.mem_of_getElem? (i := 592) (by decide +kernel))) (by decide +kernel)
theorem q_206 : Cond.code ⟨"SnowMoney$Duchy", "snowOfAll", "()I"⟩ prog_2_method_14_code 3 (some .int) ∈ sm_tbl := sm_in (List.mem_append_right _ (List.mem_of_getElem? (i := 595) (by decide +kernel))) (by decide +kernel)
theorem q_207 : Cond.selects "SnowMoney$Duchy" ⟨"SnowMoney$Duchy", "snowOfAll", "()I"⟩ ⟨"SnowMoney$Duchy", "snowOfAll", "()I"⟩ ∈ sm_tbl := sm_in (List.mem_append_right _ (List.mem_of_getElem? (i := 594) (by decide +kernel))) (by decide +kernel)
theorem q_208 : Cond.instanceMethod ⟨"SnowMoney$Duchy", "snowOfAll", "()I"⟩ ∈ sm_tbl := sm_in (List.mem_append_right _ (List.mem_of_getElem? (i := 593) (by decide +kernel))) (by decide +kernel)
theorem ok_44 : sm_okV "SnowMoney" 167 ⟨"SnowMoney$Duchy", "snowOfAll", "()I"⟩ prog_2_method_14_code 3 (some .int) 0 := ⟨⟨q_205, q_14, q_206, by decide +kernel⟩, q_208, q_207⟩
theorem q_209 : Cond.fieldLink "SnowMoney$Duchy" 22 (sm_T0 4).1 (sm_T0 4).2.1 (sm_T0 4).2.2.1 ∈ sm_tbl := sm_in (List.mem_append_right _ (List.mem_of_getElem? (i := 62) (by decide +kernel))) (by decide +kernel)
theorem q_210 : Cond.fieldLink "SnowMoney" 24 (sm_T6 2).1 (sm_T6 2).2.1 (sm_T6 2).2.2.1 ∈ sm_tbl := sm_in (List.mem_append_right _ (List.mem_of_getElem? (i := 245) (by decide +kernel))) (by decide +kernel)
theorem q_211 : Cond.methodLink "SnowMoney" 179 ⟨"SnowMoney$Duchy", "warmthAround", "(I)I"⟩ ∈ sm_tbl := sm_in (List.mem_append_right _ (List.mem_of_getElem? (i := 571) (by decide +kernel))) (by decide +kernel)
theorem q_212 : Cond.code ⟨"SnowMoney$Duchy", "warmthAround", "(I)I"⟩ prog_2_method_6_code 2 (some .int) ∈ sm_tbl := sm_in (List.mem_append_right _ (List.mem_of_getElem? (i := 574) (by decide +kernel))) (by decide +kernel)
theorem q_213 : Cond.selects "SnowMoney$Duchy" ⟨"SnowMoney$Duchy", "warmthAround", "(I)I"⟩ ⟨"SnowMoney$Duchy", "warmthAround", "(I)I"⟩ ∈ sm_tbl := sm_in (List.mem_append_right _ (List.mem_of_getElem? (i := 573) (by decide +kernel))) (by decide +kernel)
theorem q_214 : Cond.instanceMethod ⟨"SnowMoney$Duchy", "warmthAround", "(I)I"⟩ ∈ sm_tbl := sm_in (List.mem_append_right _ (List.mem_of_getElem? (i := 572) (by decide +kernel))) (by decide +kernel)
theorem ok_45 : sm_okV "SnowMoney" 179 ⟨"SnowMoney$Duchy", "warmthAround", "(I)I"⟩ prog_2_method_6_code 2 (some .int) 1 := ⟨⟨q_211, q_14, q_212, by decide +kernel⟩, q_214, q_213⟩
theorem q_215 : Cond.methodLink "SnowMoney" 182 ⟨"SnowMoney$Foresight", "leftBy", "(IIII)I"⟩ ∈ sm_tbl := sm_in (List.mem_append_right _ (List.mem_of_getElem? (i := 575) (by decide +kernel))) (by decide +kernel)
theorem q_216 : Cond.initialized "SnowMoney$Foresight" ∈ sm_tbl := sm_in (List.mem_append_right _ (List.mem_of_getElem? (i := 4) (by decide +kernel))) (by decide +kernel)
theorem q_217 : Cond.code ⟨"SnowMoney$Foresight", "leftBy", "(IIII)I"⟩ prog_3_method_4_code 5 (some .int) ∈ sm_tbl := sm_in (List.mem_append_right _ (List.mem_of_getElem? (i := 578) (by decide +kernel))) (by decide +kernel)
theorem q_218 : Cond.selects "SnowMoney$Foresight" ⟨"SnowMoney$Foresight", "leftBy", "(IIII)I"⟩ ⟨"SnowMoney$Foresight", "leftBy", "(IIII)I"⟩ ∈ sm_tbl := sm_in (List.mem_append_right _ (List.mem_of_getElem? (i := 577) (by decide +kernel))) (by decide +kernel)
theorem q_219 : Cond.instanceMethod ⟨"SnowMoney$Foresight", "leftBy", "(IIII)I"⟩ ∈ sm_tbl := sm_in (List.mem_append_right _ (List.mem_of_getElem? (i := 576) (by decide +kernel))) (by decide +kernel)
theorem ok_46 : sm_okV "SnowMoney" 182 ⟨"SnowMoney$Foresight", "leftBy", "(IIII)I"⟩ prog_3_method_4_code 5 (some .int) 4 := ⟨⟨q_215, q_216, q_217, by decide +kernel⟩, q_219, q_218⟩
theorem q_220 : Cond.fieldLink "SnowMoney$Foresight" 29 (sm_T1 0).1 (sm_T1 0).2.1 (sm_T1 0).2.2.1 ∈ sm_tbl := sm_in (List.mem_append_right _ (List.mem_of_getElem? (i := 142) (by decide +kernel))) (by decide +kernel)
theorem q_221 : Cond.methodLink "SnowMoney$Foresight" 55 ⟨"SnowMoney$Duchy", "hasNote", "(I)Z"⟩ ∈ sm_tbl := sm_in (List.mem_append_right _ (List.mem_of_getElem? (i := 579) (by decide +kernel))) (by decide +kernel)
theorem ok_47 : sm_okV "SnowMoney$Foresight" 55 ⟨"SnowMoney$Duchy", "hasNote", "(I)Z"⟩ prog_2_method_4_code 2 (some .boolean) 1 := ⟨⟨q_221, q_14, q_42, by decide +kernel⟩, q_44, q_43⟩
theorem q_222 : Cond.methodLink "SnowMoney$Foresight" 59 ⟨"SnowMoney$Foresight", "feel", "(III)V"⟩ ∈ sm_tbl := sm_in (List.mem_append_right _ (List.mem_of_getElem? (i := 580) (by decide +kernel))) (by decide +kernel)
theorem q_223 : Cond.code ⟨"SnowMoney$Foresight", "feel", "(III)V"⟩ prog_3_method_2_code 7 none ∈ sm_tbl := sm_in (List.mem_append_right _ (List.mem_of_getElem? (i := 583) (by decide +kernel))) (by decide +kernel)
theorem q_224 : Cond.selects "SnowMoney$Foresight" ⟨"SnowMoney$Foresight", "feel", "(III)V"⟩ ⟨"SnowMoney$Foresight", "feel", "(III)V"⟩ ∈ sm_tbl := sm_in (List.mem_append_left _ (List.mem_of_getElem? (i := 12) (by decide +kernel))) (by decide +kernel)
theorem q_225 : Cond.instanceMethod ⟨"SnowMoney$Foresight", "feel", "(III)V"⟩ ∈ sm_tbl := sm_in (List.mem_append_right _ (List.mem_of_getElem? (i := 582) (by decide +kernel))) (by decide +kernel)
theorem ok_48 : sm_okV "SnowMoney$Foresight" 59 ⟨"SnowMoney$Foresight", "feel", "(III)V"⟩ prog_3_method_2_code 7 none 3 := ⟨⟨q_222, q_216, q_223, by decide +kernel⟩, q_225, q_224⟩
theorem q_226 : Cond.fieldLink "SnowMoney$Foresight" 63 (sm_T0 2).1 (sm_T0 2).2.1 (sm_T0 2).2.2.1 ∈ sm_tbl := sm_in (List.mem_append_right _ (List.mem_of_getElem? (i := 57) (by decide +kernel))) (by decide +kernel)
theorem q_227 : Cond.fieldLink "SnowMoney$Foresight" 66 (sm_T0 3).1 (sm_T0 3).2.1 (sm_T0 3).2.2.1 ∈ sm_tbl := sm_in (List.mem_append_right _ (List.mem_of_getElem? (i := 60) (by decide +kernel))) (by decide +kernel)
theorem q_228 : Cond.fieldLink "SnowMoney$Foresight" 69 (sm_T0 4).1 (sm_T0 4).2.1 (sm_T0 4).2.2.1 ∈ sm_tbl := sm_in (List.mem_append_right _ (List.mem_of_getElem? (i := 63) (by decide +kernel))) (by decide +kernel)
theorem q_229 : Cond.methodLink "SnowMoney$Foresight" 72 ⟨"SnowMoney$Foresight", "melt", "(IIII)I"⟩ ∈ sm_tbl := sm_in (List.mem_append_right _ (List.mem_of_getElem? (i := 586) (by decide +kernel))) (by decide +kernel)
theorem q_230 : Cond.code ⟨"SnowMoney$Foresight", "melt", "(IIII)I"⟩ prog_3_method_3_code 9 (some .int) ∈ sm_tbl := sm_in (List.mem_append_right _ (List.mem_of_getElem? (i := 589) (by decide +kernel))) (by decide +kernel)
theorem q_231 : Cond.selects "SnowMoney$Foresight" ⟨"SnowMoney$Foresight", "melt", "(IIII)I"⟩ ⟨"SnowMoney$Foresight", "melt", "(IIII)I"⟩ ∈ sm_tbl := sm_in (List.mem_append_left _ (List.mem_of_getElem? (i := 13) (by decide +kernel))) (by decide +kernel)
theorem q_232 : Cond.instanceMethod ⟨"SnowMoney$Foresight", "melt", "(IIII)I"⟩ ∈ sm_tbl := sm_in (List.mem_append_right _ (List.mem_of_getElem? (i := 588) (by decide +kernel))) (by decide +kernel)
theorem ok_49 : sm_okV "SnowMoney$Foresight" 72 ⟨"SnowMoney$Foresight", "melt", "(IIII)I"⟩ prog_3_method_3_code 9 (some .int) 4 := ⟨⟨q_229, q_216, q_230, by decide +kernel⟩, q_232, q_231⟩
theorem q_233 : Cond.methodLink "SnowMoney$Foresight" 33 Lib.Math.min.name ∈ sm_tbl := sm_in (List.mem_append_right _ (List.mem_of_getElem? (i := 584) (by decide +kernel))) (by decide +kernel)
theorem q_234 : Cond.fieldLink "SnowMoney$Foresight" 39 (sm_T0 14).1 (sm_T0 14).2.1 (sm_T0 14).2.2.1 ∈ sm_tbl := sm_in (List.mem_append_right _ (List.mem_of_getElem? (i := 89) (by decide +kernel))) (by decide +kernel)
theorem q_235 : Cond.fieldLink "SnowMoney$Foresight" 11 (sm_T1 1).1 (sm_T1 1).2.1 (sm_T1 1).2.2.1 ∈ sm_tbl := sm_in (List.mem_append_right _ (List.mem_of_getElem? (i := 143) (by decide +kernel))) (by decide +kernel)
theorem q_236 : Cond.methodLink "SnowMoney$Foresight" 43 ⟨"SnowMoney$Duchy", "heatBy", "(III)I"⟩ ∈ sm_tbl := sm_in (List.mem_append_right _ (List.mem_of_getElem? (i := 585) (by decide +kernel))) (by decide +kernel)
theorem ok_50 : sm_okV "SnowMoney$Foresight" 43 ⟨"SnowMoney$Duchy", "heatBy", "(III)I"⟩ prog_2_method_10_code 5 (some .int) 3 := ⟨⟨q_236, q_14, q_63, by decide +kernel⟩, q_65, q_64⟩
theorem q_237 : Cond.fieldLink "SnowMoney$Foresight" 17 (sm_T1 2).1 (sm_T1 2).2.1 (sm_T1 2).2.2.1 ∈ sm_tbl := sm_in (List.mem_append_right _ (List.mem_of_getElem? (i := 144) (by decide +kernel))) (by decide +kernel)
theorem q_238 : Cond.methodLink "SnowMoney$Foresight" 47 ⟨"SnowMoney$Kinds", "melts", "(III)I"⟩ ∈ sm_tbl := sm_in (List.mem_append_right _ (List.mem_of_getElem? (i := 590) (by decide +kernel))) (by decide +kernel)
theorem ok_51 : sm_okS "SnowMoney$Foresight" 47 ⟨"SnowMoney$Kinds", "melts", "(III)I"⟩ prog_4_method_4_code 3 (some .int) 3 := ⟨⟨q_238, q_67, q_68, by decide +kernel⟩, q_69⟩
theorem q_239 : Cond.methodLink "SnowMoney$Foresight" 52 Lib.Math.max.name ∈ sm_tbl := sm_in (List.mem_append_right _ (List.mem_of_getElem? (i := 591) (by decide +kernel))) (by decide +kernel)
theorem q_240 : Cond.methodLink "SnowMoney" 171 ⟨"SnowMoney$Duchy", "draw", "()I"⟩ ∈ sm_tbl := sm_in (List.mem_append_right _ (List.mem_of_getElem? (i := 600) (by decide +kernel))) (by decide +kernel)
theorem q_241 : Cond.code ⟨"SnowMoney$Duchy", "draw", "()I"⟩ prog_2_method_16_code 1 (some .int) ∈ sm_tbl := sm_in (List.mem_append_right _ (List.mem_of_getElem? (i := 603) (by decide +kernel))) (by decide +kernel)
theorem q_242 : Cond.selects "SnowMoney$Duchy" ⟨"SnowMoney$Duchy", "draw", "()I"⟩ ⟨"SnowMoney$Duchy", "draw", "()I"⟩ ∈ sm_tbl := sm_in (List.mem_append_right _ (List.mem_of_getElem? (i := 602) (by decide +kernel))) (by decide +kernel)
theorem q_243 : Cond.instanceMethod ⟨"SnowMoney$Duchy", "draw", "()I"⟩ ∈ sm_tbl := sm_in (List.mem_append_right _ (List.mem_of_getElem? (i := 601) (by decide +kernel))) (by decide +kernel)
theorem ok_52 : sm_okV "SnowMoney" 171 ⟨"SnowMoney$Duchy", "draw", "()I"⟩ prog_2_method_16_code 1 (some .int) 0 := ⟨⟨q_240, q_14, q_241, by decide +kernel⟩, q_243, q_242⟩
theorem q_244 : Cond.fieldLink "SnowMoney$Duchy" 51 (sm_T0 17).1 (sm_T0 17).2.1 (sm_T0 17).2.2.1 ∈ sm_tbl := sm_in (List.mem_append_right _ (List.mem_of_getElem? (i := 97) (by decide +kernel))) (by decide +kernel)
theorem q_245 : Cond.constant "SnowMoney$Duchy" 126 (1103515245) ∈ sm_tbl := sm_in (List.mem_append_right _ (List.mem_of_getElem? (i := 604) (by decide +kernel))) (by decide +kernel)
theorem q_246 : Cond.methodLink "SnowMoney" 174 Lib.Math.max.name ∈ sm_tbl := sm_in (List.mem_append_right _ (List.mem_of_getElem? (i := 609) (by decide +kernel))) (by decide +kernel)
theorem q_247 : Cond.methodLink "SnowMoney" 186 ⟨"SnowMoney$Foresight", "findFirstGone", "()Z"⟩ ∈ sm_tbl := sm_in (List.mem_append_right _ (List.mem_of_getElem? (i := 618) (by decide +kernel))) (by decide +kernel)
theorem q_248 : Cond.code ⟨"SnowMoney$Foresight", "findFirstGone", "()Z"⟩ prog_3_method_7_code 3 (some .boolean) ∈ sm_tbl := sm_in (List.mem_append_right _ (List.mem_of_getElem? (i := 621) (by decide +kernel))) (by decide +kernel)
theorem q_249 : Cond.selects "SnowMoney$Foresight" ⟨"SnowMoney$Foresight", "findFirstGone", "()Z"⟩ ⟨"SnowMoney$Foresight", "findFirstGone", "()Z"⟩ ∈ sm_tbl := sm_in (List.mem_append_right _ (List.mem_of_getElem? (i := 620) (by decide +kernel))) (by decide +kernel)
theorem q_250 : Cond.instanceMethod ⟨"SnowMoney$Foresight", "findFirstGone", "()Z"⟩ ∈ sm_tbl := sm_in (List.mem_append_right _ (List.mem_of_getElem? (i := 619) (by decide +kernel))) (by decide +kernel)
theorem ok_53 : sm_okV "SnowMoney" 186 ⟨"SnowMoney$Foresight", "findFirstGone", "()Z"⟩ prog_3_method_7_code 3 (some .boolean) 0 := ⟨⟨q_247, q_216, q_248, by decide +kernel⟩, q_250, q_249⟩
theorem q_251 : Cond.fieldLink "SnowMoney" 193 (sm_T1 8).1 (sm_T1 8).2.1 (sm_T1 8).2.2.1 ∈ sm_tbl := sm_in (List.mem_append_right _ (List.mem_of_getElem? (i := 152) (by decide +kernel))) (by decide +kernel)
theorem q_252 : Cond.fieldLink "SnowMoney" 190 (sm_T1 7).1 (sm_T1 7).2.1 (sm_T1 7).2.2.1 ∈ sm_tbl := sm_in (List.mem_append_right _ (List.mem_of_getElem? (i := 150) (by decide +kernel))) (by decide +kernel)
theorem q_253 : Cond.fieldLink "SnowMoney$Foresight" 95 (sm_T1 7).1 (sm_T1 7).2.1 (sm_T1 7).2.2.1 ∈ sm_tbl := sm_in (List.mem_append_right _ (List.mem_of_getElem? (i := 149) (by decide +kernel))) (by decide +kernel)
theorem q_254 : Cond.fieldLink "SnowMoney$Foresight" 98 (sm_T1 8).1 (sm_T1 8).2.1 (sm_T1 8).2.2.1 ∈ sm_tbl := sm_in (List.mem_append_right _ (List.mem_of_getElem? (i := 151) (by decide +kernel))) (by decide +kernel)
theorem q_255 : Cond.fieldLink "SnowMoney$Foresight" 76 (sm_T0 12).1 (sm_T0 12).2.1 (sm_T0 12).2.2.1 ∈ sm_tbl := sm_in (List.mem_append_right _ (List.mem_of_getElem? (i := 84) (by decide +kernel))) (by decide +kernel)
theorem q_256 : Cond.methodLink "SnowMoney$Foresight" 101 ⟨"SnowMoney$Foresight", "hoursUntilGone", "(I)I"⟩ ∈ sm_tbl := sm_in (List.mem_append_right _ (List.mem_of_getElem? (i := 622) (by decide +kernel))) (by decide +kernel)
theorem q_257 : Cond.code ⟨"SnowMoney$Foresight", "hoursUntilGone", "(I)I"⟩ prog_3_method_8_code 5 (some .int) ∈ sm_tbl := sm_in (List.mem_append_right _ (List.mem_of_getElem? (i := 625) (by decide +kernel))) (by decide +kernel)
theorem q_258 : Cond.selects "SnowMoney$Foresight" ⟨"SnowMoney$Foresight", "hoursUntilGone", "(I)I"⟩ ⟨"SnowMoney$Foresight", "hoursUntilGone", "(I)I"⟩ ∈ sm_tbl := sm_in (List.mem_append_left _ (List.mem_of_getElem? (i := 14) (by decide +kernel))) (by decide +kernel)
theorem q_259 : Cond.instanceMethod ⟨"SnowMoney$Foresight", "hoursUntilGone", "(I)I"⟩ ∈ sm_tbl := sm_in (List.mem_append_right _ (List.mem_of_getElem? (i := 624) (by decide +kernel))) (by decide +kernel)
theorem ok_54 : sm_okV "SnowMoney$Foresight" 101 ⟨"SnowMoney$Foresight", "hoursUntilGone", "(I)I"⟩ prog_3_method_8_code 5 (some .int) 1 := ⟨⟨q_256, q_216, q_257, by decide +kernel⟩, q_259, q_258⟩
theorem q_260 : Cond.methodLink "SnowMoney$Foresight" 79 ⟨"SnowMoney$Duchy", "warmthAround", "(I)I"⟩ ∈ sm_tbl := sm_in (List.mem_append_right _ (List.mem_of_getElem? (i := 626) (by decide +kernel))) (by decide +kernel)
theorem ok_55 : sm_okV "SnowMoney$Foresight" 79 ⟨"SnowMoney$Duchy", "warmthAround", "(I)I"⟩ prog_2_method_6_code 2 (some .int) 1 := ⟨⟨q_260, q_14, q_212, by decide +kernel⟩, q_214, q_213⟩
theorem q_261 : Cond.fieldLink "SnowMoney$Foresight" 83 (sm_T0 13).1 (sm_T0 13).2.1 (sm_T0 13).2.2.1 ∈ sm_tbl := sm_in (List.mem_append_right _ (List.mem_of_getElem? (i := 87) (by decide +kernel))) (by decide +kernel)
theorem q_262 : Cond.methodLink "SnowMoney$Foresight" 86 ⟨"SnowMoney$Foresight", "leftBy", "(IIII)I"⟩ ∈ sm_tbl := sm_in (List.mem_append_right _ (List.mem_of_getElem? (i := 627) (by decide +kernel))) (by decide +kernel)
theorem ok_56 : sm_okV "SnowMoney$Foresight" 86 ⟨"SnowMoney$Foresight", "leftBy", "(IIII)I"⟩ prog_3_method_4_code 5 (some .int) 4 := ⟨⟨q_262, q_216, q_217, by decide +kernel⟩, q_219, q_218⟩
theorem q_263 : Cond.methodLink "SnowMoney" 196 ⟨"SnowMoney$Foresight", "worthBehind", "(II)I"⟩ ∈ sm_tbl := sm_in (List.mem_append_right _ (List.mem_of_getElem? (i := 632) (by decide +kernel))) (by decide +kernel)
theorem q_264 : Cond.code ⟨"SnowMoney$Foresight", "worthBehind", "(II)I"⟩ prog_3_method_6_code 6 (some .int) ∈ sm_tbl := sm_in (List.mem_append_right _ (List.mem_of_getElem? (i := 635) (by decide +kernel))) (by decide +kernel)
theorem q_265 : Cond.selects "SnowMoney$Foresight" ⟨"SnowMoney$Foresight", "worthBehind", "(II)I"⟩ ⟨"SnowMoney$Foresight", "worthBehind", "(II)I"⟩ ∈ sm_tbl := sm_in (List.mem_append_right _ (List.mem_of_getElem? (i := 634) (by decide +kernel))) (by decide +kernel)
theorem q_266 : Cond.instanceMethod ⟨"SnowMoney$Foresight", "worthBehind", "(II)I"⟩ ∈ sm_tbl := sm_in (List.mem_append_right _ (List.mem_of_getElem? (i := 633) (by decide +kernel))) (by decide +kernel)
theorem ok_57 : sm_okV "SnowMoney" 196 ⟨"SnowMoney$Foresight", "worthBehind", "(II)I"⟩ prog_3_method_6_code 6 (some .int) 2 := ⟨⟨q_263, q_216, q_264, by decide +kernel⟩, q_266, q_265⟩
theorem q_267 : Cond.fieldLink "SnowMoney$Foresight" 89 (sm_T0 6).1 (sm_T0 6).2.1 (sm_T0 6).2.2.1 ∈ sm_tbl := sm_in (List.mem_append_right _ (List.mem_of_getElem? (i := 69) (by decide +kernel))) (by decide +kernel)
theorem q_268 : Cond.methodLink "SnowMoney$Foresight" 92 ⟨"SnowMoney$Duchy", "paysWith", "(II)I"⟩ ∈ sm_tbl := sm_in (List.mem_append_right _ (List.mem_of_getElem? (i := 636) (by decide +kernel))) (by decide +kernel)
theorem ok_58 : sm_okV "SnowMoney$Foresight" 92 ⟨"SnowMoney$Duchy", "paysWith", "(II)I"⟩ prog_2_method_13_code 4 (some .int) 2 := ⟨⟨q_268, q_14, q_50, by decide +kernel⟩, q_52, q_51⟩
theorem q_269 : Cond.methodLink "SnowMoney" 199 ⟨"SnowMoney$Foresight", "findColdest", "(II)V"⟩ ∈ sm_tbl := sm_in (List.mem_append_right _ (List.mem_of_getElem? (i := 641) (by decide +kernel))) (by decide +kernel)
theorem q_270 : Cond.code ⟨"SnowMoney$Foresight", "findColdest", "(II)V"⟩ prog_3_method_9_code 5 none ∈ sm_tbl := sm_in (List.mem_append_right _ (List.mem_of_getElem? (i := 644) (by decide +kernel))) (by decide +kernel)
theorem q_271 : Cond.selects "SnowMoney$Foresight" ⟨"SnowMoney$Foresight", "findColdest", "(II)V"⟩ ⟨"SnowMoney$Foresight", "findColdest", "(II)V"⟩ ∈ sm_tbl := sm_in (List.mem_append_right _ (List.mem_of_getElem? (i := 643) (by decide +kernel))) (by decide +kernel)
theorem q_272 : Cond.instanceMethod ⟨"SnowMoney$Foresight", "findColdest", "(II)V"⟩ ∈ sm_tbl := sm_in (List.mem_append_right _ (List.mem_of_getElem? (i := 642) (by decide +kernel))) (by decide +kernel)
theorem ok_59 : sm_okV "SnowMoney" 199 ⟨"SnowMoney$Foresight", "findColdest", "(II)V"⟩ prog_3_method_9_code 5 none 2 := ⟨⟨q_269, q_216, q_270, by decide +kernel⟩, q_272, q_271⟩
theorem q_273 : Cond.fieldLink "SnowMoney$Foresight" 104 (sm_T0 11).1 (sm_T0 11).2.1 (sm_T0 11).2.2.1 ∈ sm_tbl := sm_in (List.mem_append_right _ (List.mem_of_getElem? (i := 82) (by decide +kernel))) (by decide +kernel)
theorem q_274 : Cond.methodLink "SnowMoney$Foresight" 107 ⟨"SnowMoney$Duchy", "warmthOf", "(I)I"⟩ ∈ sm_tbl := sm_in (List.mem_append_right _ (List.mem_of_getElem? (i := 645) (by decide +kernel))) (by decide +kernel)
theorem ok_60 : sm_okV "SnowMoney$Foresight" 107 ⟨"SnowMoney$Duchy", "warmthOf", "(I)I"⟩ prog_2_method_5_code 2 (some .int) 1 := ⟨⟨q_274, q_14, q_57, by decide +kernel⟩, q_59, q_58⟩
theorem q_275 : Cond.methodLink "SnowMoney" 203 ⟨"SnowMoney$Foresight", "findPayment", "(II)Z"⟩ ∈ sm_tbl := sm_in (List.mem_append_right _ (List.mem_of_getElem? (i := 650) (by decide +kernel))) (by decide +kernel)
theorem q_276 : Cond.code ⟨"SnowMoney$Foresight", "findPayment", "(II)Z"⟩ prog_3_method_10_code 5 (some .boolean) ∈ sm_tbl := sm_in (List.mem_append_right _ (List.mem_of_getElem? (i := 653) (by decide +kernel))) (by decide +kernel)
theorem q_277 : Cond.selects "SnowMoney$Foresight" ⟨"SnowMoney$Foresight", "findPayment", "(II)Z"⟩ ⟨"SnowMoney$Foresight", "findPayment", "(II)Z"⟩ ∈ sm_tbl := sm_in (List.mem_append_right _ (List.mem_of_getElem? (i := 652) (by decide +kernel))) (by decide +kernel)
theorem q_278 : Cond.instanceMethod ⟨"SnowMoney$Foresight", "findPayment", "(II)Z"⟩ ∈ sm_tbl := sm_in (List.mem_append_right _ (List.mem_of_getElem? (i := 651) (by decide +kernel))) (by decide +kernel)
theorem ok_61 : sm_okV "SnowMoney" 203 ⟨"SnowMoney$Foresight", "findPayment", "(II)Z"⟩ prog_3_method_10_code 5 (some .boolean) 2 := ⟨⟨q_275, q_216, q_276, by decide +kernel⟩, q_278, q_277⟩
theorem q_279 : Cond.methodLink "SnowMoney$Foresight" 110 ⟨"SnowMoney$Foresight", "sumSets", "(I)I"⟩ ∈ sm_tbl := sm_in (List.mem_append_right _ (List.mem_of_getElem? (i := 654) (by decide +kernel))) (by decide +kernel)
theorem q_280 : Cond.code ⟨"SnowMoney$Foresight", "sumSets", "(I)I"⟩ prog_3_method_12_code 7 (some .int) ∈ sm_tbl := sm_in (List.mem_append_right _ (List.mem_of_getElem? (i := 657) (by decide +kernel))) (by decide +kernel)
theorem q_281 : Cond.selects "SnowMoney$Foresight" ⟨"SnowMoney$Foresight", "sumSets", "(I)I"⟩ ⟨"SnowMoney$Foresight", "sumSets", "(I)I"⟩ ∈ sm_tbl := sm_in (List.mem_append_left _ (List.mem_of_getElem? (i := 15) (by decide +kernel))) (by decide +kernel)
theorem q_282 : Cond.instanceMethod ⟨"SnowMoney$Foresight", "sumSets", "(I)I"⟩ ∈ sm_tbl := sm_in (List.mem_append_right _ (List.mem_of_getElem? (i := 656) (by decide +kernel))) (by decide +kernel)
theorem ok_62 : sm_okV "SnowMoney$Foresight" 110 ⟨"SnowMoney$Foresight", "sumSets", "(I)I"⟩ prog_3_method_12_code 7 (some .int) 1 := ⟨⟨q_279, q_216, q_280, by decide +kernel⟩, q_282, q_281⟩
theorem q_283 : Cond.fieldLink "SnowMoney$Foresight" 23 (sm_T1 4).1 (sm_T1 4).2.1 (sm_T1 4).2.2.1 ∈ sm_tbl := sm_in (List.mem_append_right _ (List.mem_of_getElem? (i := 146) (by decide +kernel))) (by decide +kernel)
theorem q_284 : Cond.methodLink "SnowMoney$Foresight" 113 ⟨"SnowMoney$Foresight", "isBetterSet", "(I)Z"⟩ ∈ sm_tbl := sm_in (List.mem_append_right _ (List.mem_of_getElem? (i := 658) (by decide +kernel))) (by decide +kernel)
theorem q_285 : Cond.code ⟨"SnowMoney$Foresight", "isBetterSet", "(I)Z"⟩ prog_3_method_11_code 2 (some .boolean) ∈ sm_tbl := sm_in (List.mem_append_right _ (List.mem_of_getElem? (i := 661) (by decide +kernel))) (by decide +kernel)
theorem q_286 : Cond.selects "SnowMoney$Foresight" ⟨"SnowMoney$Foresight", "isBetterSet", "(I)Z"⟩ ⟨"SnowMoney$Foresight", "isBetterSet", "(I)Z"⟩ ∈ sm_tbl := sm_in (List.mem_append_left _ (List.mem_of_getElem? (i := 16) (by decide +kernel))) (by decide +kernel)
theorem q_287 : Cond.instanceMethod ⟨"SnowMoney$Foresight", "isBetterSet", "(I)Z"⟩ ∈ sm_tbl := sm_in (List.mem_append_right _ (List.mem_of_getElem? (i := 660) (by decide +kernel))) (by decide +kernel)
theorem ok_63 : sm_okV "SnowMoney$Foresight" 113 ⟨"SnowMoney$Foresight", "isBetterSet", "(I)Z"⟩ prog_3_method_11_code 2 (some .boolean) 1 := ⟨⟨q_284, q_216, q_285, by decide +kernel⟩, q_287, q_286⟩
theorem q_288 : Cond.methodLink "SnowMoney$Foresight" 116 ⟨"java/lang/Integer", "bitCount", "(I)I"⟩ ∈ sm_tbl := sm_in (List.mem_append_right _ (List.mem_of_getElem? (i := 662) (by decide +kernel))) (by decide +kernel)
theorem q_289 : Cond.initialized "java/lang/Integer" ∈ sm_tbl := sm_in (List.mem_append_right _ (List.mem_of_getElem? (i := 17) (by decide +kernel))) (by decide +kernel)
theorem q_290 : Cond.code ⟨"java/lang/Integer", "bitCount", "(I)I"⟩ prog_12_method_49_code 1 (some .int) ∈ sm_tbl := sm_in (List.mem_append_right _ (List.mem_of_getElem? (i := 664) (by decide +kernel))) (by decide +kernel)
theorem q_291 : Cond.static ⟨"java/lang/Integer", "bitCount", "(I)I"⟩ ∈ sm_tbl := sm_in (List.mem_append_right _ (List.mem_of_getElem? (i := 663) (by decide +kernel))) (by decide +kernel)
theorem ok_64 : sm_okS "SnowMoney$Foresight" 116 ⟨"java/lang/Integer", "bitCount", "(I)I"⟩ prog_12_method_49_code 1 (some .int) 1 := ⟨⟨q_288, q_289, q_290, by decide +kernel⟩, q_291⟩
theorem q_292 : Cond.constant "java/lang/Integer" 265 (1431655765) ∈ sm_tbl := sm_in (List.mem_append_right _ (List.mem_of_getElem? (i := 665) (by decide +kernel))) (by decide +kernel)
theorem q_293 : Cond.constant "java/lang/Integer" 266 (858993459) ∈ sm_tbl := sm_in (List.mem_append_right _ (List.mem_of_getElem? (i := 666) (by decide +kernel))) (by decide +kernel)
theorem q_294 : Cond.constant "java/lang/Integer" 267 (252645135) ∈ sm_tbl := sm_in (List.mem_append_right _ (List.mem_of_getElem? (i := 667) (by decide +kernel))) (by decide +kernel)
theorem q_295 : Cond.methodLink "SnowMoney" 206 ⟨"SnowMoney$Foresight", "lastHourWorth", "(II)I"⟩ ∈ sm_tbl := sm_in (List.mem_append_right _ (List.mem_of_getElem? (i := 672) (by decide +kernel))) (by decide +kernel)
theorem q_296 : Cond.code ⟨"SnowMoney$Foresight", "lastHourWorth", "(II)I"⟩ prog_3_method_13_code 5 (some .int) ∈ sm_tbl := sm_in (List.mem_append_right _ (List.mem_of_getElem? (i := 675) (by decide +kernel))) (by decide +kernel)
theorem q_297 : Cond.selects "SnowMoney$Foresight" ⟨"SnowMoney$Foresight", "lastHourWorth", "(II)I"⟩ ⟨"SnowMoney$Foresight", "lastHourWorth", "(II)I"⟩ ∈ sm_tbl := sm_in (List.mem_append_right _ (List.mem_of_getElem? (i := 674) (by decide +kernel))) (by decide +kernel)
theorem q_298 : Cond.instanceMethod ⟨"SnowMoney$Foresight", "lastHourWorth", "(II)I"⟩ ∈ sm_tbl := sm_in (List.mem_append_right _ (List.mem_of_getElem? (i := 673) (by decide +kernel))) (by decide +kernel)
theorem ok_65 : sm_okV "SnowMoney" 206 ⟨"SnowMoney$Foresight", "lastHourWorth", "(II)I"⟩ prog_3_method_13_code 5 (some .int) 2 := ⟨⟨q_295, q_216, q_296, by decide +kernel⟩, q_298, q_297⟩
theorem q_299 : Cond.fieldLink "SnowMoney$Foresight" 20 (sm_T1 3).1 (sm_T1 3).2.1 (sm_T1 3).2.2.1 ∈ sm_tbl := sm_in (List.mem_append_right _ (List.mem_of_getElem? (i := 145) (by decide +kernel))) (by decide +kernel)
theorem q_300 : Cond.methodLink "SnowMoney$Foresight" 121 ⟨"java/util/Arrays", "fill", "([II)V"⟩ ∈ sm_tbl := sm_in (List.mem_append_right _ (List.mem_of_getElem? (i := 676) (by decide +kernel))) (by decide +kernel)
theorem q_301 : Cond.initialized "java/util/Arrays" ∈ sm_tbl := sm_in (List.mem_append_right _ (List.mem_of_getElem? (i := 18) (by decide +kernel))) (by decide +kernel)
theorem q_302 : Cond.code ⟨"java/util/Arrays", "fill", "([II)V"⟩ prog_18_method_103_code 4 none ∈ sm_tbl := sm_in (List.mem_append_right _ (List.mem_of_getElem? (i := 678) (by decide +kernel))) (by decide +kernel)
theorem q_303 : Cond.static ⟨"java/util/Arrays", "fill", "([II)V"⟩ ∈ sm_tbl := sm_in (List.mem_append_right _ (List.mem_of_getElem? (i := 677) (by decide +kernel))) (by decide +kernel)
theorem ok_66 : sm_okS "SnowMoney$Foresight" 121 ⟨"java/util/Arrays", "fill", "([II)V"⟩ prog_18_method_103_code 4 none 2 := ⟨⟨q_300, q_301, q_302, by decide +kernel⟩, q_303⟩
theorem q_304 : Cond.methodLink "SnowMoney" 209 ⟨"SnowMoney$Foresight", "findWay", "(II)Z"⟩ ∈ sm_tbl := sm_in (List.mem_append_right _ (List.mem_of_getElem? (i := 683) (by decide +kernel))) (by decide +kernel)
theorem q_305 : Cond.code ⟨"SnowMoney$Foresight", "findWay", "(II)Z"⟩ prog_3_method_14_code 5 (some .boolean) ∈ sm_tbl := sm_in (List.mem_append_right _ (List.mem_of_getElem? (i := 686) (by decide +kernel))) (by decide +kernel)
theorem q_306 : Cond.selects "SnowMoney$Foresight" ⟨"SnowMoney$Foresight", "findWay", "(II)Z"⟩ ⟨"SnowMoney$Foresight", "findWay", "(II)Z"⟩ ∈ sm_tbl := sm_in (List.mem_append_right _ (List.mem_of_getElem? (i := 685) (by decide +kernel))) (by decide +kernel)
theorem q_307 : Cond.instanceMethod ⟨"SnowMoney$Foresight", "findWay", "(II)Z"⟩ ∈ sm_tbl := sm_in (List.mem_append_right _ (List.mem_of_getElem? (i := 684) (by decide +kernel))) (by decide +kernel)
theorem ok_67 : sm_okV "SnowMoney" 209 ⟨"SnowMoney$Foresight", "findWay", "(II)Z"⟩ prog_3_method_14_code 5 (some .boolean) 2 := ⟨⟨q_304, q_216, q_305, by decide +kernel⟩, q_307, q_306⟩
theorem q_308 : Cond.fieldLink "SnowMoney$Foresight" 127 (sm_T0 5).1 (sm_T0 5).2.1 (sm_T0 5).2.2.1 ∈ sm_tbl := sm_in (List.mem_append_right _ (List.mem_of_getElem? (i := 67) (by decide +kernel))) (by decide +kernel)
theorem q_309 : Cond.fieldLink "SnowMoney$Foresight" 130 (sm_T1 6).1 (sm_T1 6).2.1 (sm_T1 6).2.2.1 ∈ sm_tbl := sm_in (List.mem_append_right _ (List.mem_of_getElem? (i := 148) (by decide +kernel))) (by decide +kernel)
theorem q_310 : Cond.methodLink "SnowMoney$Foresight" 136 ⟨"SnowMoney$Duchy", "hasPlace", "(I)Z"⟩ ∈ sm_tbl := sm_in (List.mem_append_right _ (List.mem_of_getElem? (i := 688) (by decide +kernel))) (by decide +kernel)
theorem ok_68 : sm_okV "SnowMoney$Foresight" 136 ⟨"SnowMoney$Duchy", "hasPlace", "(I)Z"⟩ prog_2_method_3_code 2 (some .boolean) 1 := ⟨⟨q_310, q_14, q_15, by decide +kernel⟩, q_17, q_16⟩
theorem q_311 : Cond.methodLink "SnowMoney$Foresight" 139 ⟨"SnowMoney$Foresight", "walk", "(IIIII)V"⟩ ∈ sm_tbl := sm_in (List.mem_append_right _ (List.mem_of_getElem? (i := 689) (by decide +kernel))) (by decide +kernel)
theorem q_312 : Cond.code ⟨"SnowMoney$Foresight", "walk", "(IIIII)V"⟩ prog_3_method_15_code 9 none ∈ sm_tbl := sm_in (List.mem_append_right _ (List.mem_of_getElem? (i := 692) (by decide +kernel))) (by decide +kernel)
theorem q_313 : Cond.selects "SnowMoney$Foresight" ⟨"SnowMoney$Foresight", "walk", "(IIIII)V"⟩ ⟨"SnowMoney$Foresight", "walk", "(IIIII)V"⟩ ∈ sm_tbl := sm_in (List.mem_append_left _ (List.mem_of_getElem? (i := 17) (by decide +kernel))) (by decide +kernel)
theorem q_314 : Cond.instanceMethod ⟨"SnowMoney$Foresight", "walk", "(IIIII)V"⟩ ∈ sm_tbl := sm_in (List.mem_append_right _ (List.mem_of_getElem? (i := 691) (by decide +kernel))) (by decide +kernel)
theorem ok_69 : sm_okV "SnowMoney$Foresight" 139 ⟨"SnowMoney$Foresight", "walk", "(IIIII)V"⟩ prog_3_method_15_code 9 none 5 := ⟨⟨q_311, q_216, q_312, by decide +kernel⟩, q_314, q_313⟩
theorem q_315 : Cond.fieldLink "SnowMoney$Foresight" 26 (sm_T1 5).1 (sm_T1 5).2.1 (sm_T1 5).2.2.1 ∈ sm_tbl := sm_in (List.mem_append_right _ (List.mem_of_getElem? (i := 147) (by decide +kernel))) (by decide +kernel)
theorem q_316 : Cond.methodLink "SnowMoney$Foresight" 133 ⟨"SnowMoney$Duchy", "meltsNow", "(II)I"⟩ ∈ sm_tbl := sm_in (List.mem_append_right _ (List.mem_of_getElem? (i := 687) (by decide +kernel))) (by decide +kernel)
theorem ok_70 : sm_okV "SnowMoney$Foresight" 133 ⟨"SnowMoney$Duchy", "meltsNow", "(II)I"⟩ prog_2_method_12_code 3 (some .int) 2 := ⟨⟨q_316, q_14, q_46, by decide +kernel⟩, q_48, q_47⟩
theorem q_317 : Cond.methodLink "SnowMoney$Foresight" 143 ⟨"SnowMoney$Duchy", "roadBetween", "(II)I"⟩ ∈ sm_tbl := sm_in (List.mem_append_right _ (List.mem_of_getElem? (i := 693) (by decide +kernel))) (by decide +kernel)
theorem ok_71 : sm_okV "SnowMoney$Foresight" 143 ⟨"SnowMoney$Duchy", "roadBetween", "(II)I"⟩ prog_2_method_8_code 3 (some .int) 2 := ⟨⟨q_317, q_14, q_26, by decide +kernel⟩, q_28, q_27⟩
theorem q_318 : Cond.methodLink "SnowMoney" 212 ⟨"SnowMoney", "rowOf", "(I)LSnowMoney$Sheet;"⟩ ∈ sm_tbl := sm_in (List.mem_append_right _ (List.mem_of_getElem? (i := 698) (by decide +kernel))) (by decide +kernel)
theorem q_319 : Cond.code ⟨"SnowMoney", "rowOf", "(I)LSnowMoney$Sheet;"⟩ prog_1_method_46_code 2 (some (.object "SnowMoney$Sheet")) ∈ sm_tbl := sm_in (List.mem_append_right _ (List.mem_of_getElem? (i := 701) (by decide +kernel))) (by decide +kernel)
theorem q_320 : Cond.selects "SnowMoney" ⟨"SnowMoney", "rowOf", "(I)LSnowMoney$Sheet;"⟩ ⟨"SnowMoney", "rowOf", "(I)LSnowMoney$Sheet;"⟩ ∈ sm_tbl := sm_in (List.mem_append_left _ (List.mem_of_getElem? (i := 18) (by decide +kernel))) (by decide +kernel)
theorem q_321 : Cond.instanceMethod ⟨"SnowMoney", "rowOf", "(I)LSnowMoney$Sheet;"⟩ ∈ sm_tbl := sm_in (List.mem_append_right _ (List.mem_of_getElem? (i := 700) (by decide +kernel))) (by decide +kernel)
theorem ok_72 : sm_okV "SnowMoney" 212 ⟨"SnowMoney", "rowOf", "(I)LSnowMoney$Sheet;"⟩ prog_1_method_46_code 2 (some (.object "SnowMoney$Sheet")) 1 := ⟨⟨q_318, q_1, q_319, by decide +kernel⟩, q_321, q_320⟩
theorem q_322 : Cond.methodLink "SnowMoney" 216 ⟨"SnowMoney$Sheet", "isMissing", "()Z"⟩ ∈ sm_tbl := sm_in (List.mem_append_right _ (List.mem_of_getElem? (i := 702) (by decide +kernel))) (by decide +kernel)
theorem q_323 : Cond.initialized "SnowMoney$Sheet" ∈ sm_tbl := sm_in (List.mem_append_right _ (List.mem_of_getElem? (i := 7) (by decide +kernel))) (by decide +kernel)
theorem q_324 : Cond.code ⟨"SnowMoney$Sheet", "isMissing", "()Z"⟩ prog_6_method_2_code 1 (some .boolean) ∈ sm_tbl := sm_in (List.mem_append_right _ (List.mem_of_getElem? (i := 705) (by decide +kernel))) (by decide +kernel)
theorem q_325 : Cond.selects "SnowMoney$Sheet" ⟨"SnowMoney$Sheet", "isMissing", "()Z"⟩ ⟨"SnowMoney$Sheet", "isMissing", "()Z"⟩ ∈ sm_tbl := sm_in (List.mem_append_right _ (List.mem_of_getElem? (i := 704) (by decide +kernel))) (by decide +kernel)
theorem q_326 : Cond.instanceMethod ⟨"SnowMoney$Sheet", "isMissing", "()Z"⟩ ∈ sm_tbl := sm_in (List.mem_append_right _ (List.mem_of_getElem? (i := 703) (by decide +kernel))) (by decide +kernel)
theorem ok_73 : sm_okV "SnowMoney" 216 ⟨"SnowMoney$Sheet", "isMissing", "()Z"⟩ prog_6_method_2_code 1 (some .boolean) 0 := ⟨⟨q_322, q_323, q_324, by decide +kernel⟩, q_326, q_325⟩
theorem q_327 : Cond.fieldLink "SnowMoney" 219 (sm_T3 2).1 (sm_T3 2).2.1 (sm_T3 2).2.2.1 ∈ sm_tbl := sm_in (List.mem_append_right _ (List.mem_of_getElem? (i := 235) (by decide +kernel))) (by decide +kernel)
theorem q_328 : Cond.methodLink "SnowMoney" 222 ⟨"SnowMoney$Sheet", "numberAt", "(I)I"⟩ ∈ sm_tbl := sm_in (List.mem_append_right _ (List.mem_of_getElem? (i := 706) (by decide +kernel))) (by decide +kernel)
theorem q_329 : Cond.code ⟨"SnowMoney$Sheet", "numberAt", "(I)I"⟩ prog_6_method_4_code 2 (some .int) ∈ sm_tbl := sm_in (List.mem_append_right _ (List.mem_of_getElem? (i := 709) (by decide +kernel))) (by decide +kernel)
theorem q_330 : Cond.selects "SnowMoney$Sheet" ⟨"SnowMoney$Sheet", "numberAt", "(I)I"⟩ ⟨"SnowMoney$Sheet", "numberAt", "(I)I"⟩ ∈ sm_tbl := sm_in (List.mem_append_right _ (List.mem_of_getElem? (i := 708) (by decide +kernel))) (by decide +kernel)
theorem q_331 : Cond.instanceMethod ⟨"SnowMoney$Sheet", "numberAt", "(I)I"⟩ ∈ sm_tbl := sm_in (List.mem_append_right _ (List.mem_of_getElem? (i := 707) (by decide +kernel))) (by decide +kernel)
theorem ok_74 : sm_okV "SnowMoney" 222 ⟨"SnowMoney$Sheet", "numberAt", "(I)I"⟩ prog_6_method_4_code 2 (some .int) 1 := ⟨⟨q_328, q_323, q_329, by decide +kernel⟩, q_331, q_330⟩
theorem q_332 : Cond.methodLink "SnowMoney" 225 ⟨"SnowMoney$Foresight", "findForged", "(LSnowMoney$Sheet;)V"⟩ ∈ sm_tbl := sm_in (List.mem_append_right _ (List.mem_of_getElem? (i := 710) (by decide +kernel))) (by decide +kernel)
theorem q_333 : Cond.code ⟨"SnowMoney$Foresight", "findForged", "(LSnowMoney$Sheet;)V"⟩ prog_3_method_16_code 5 none ∈ sm_tbl := sm_in (List.mem_append_right _ (List.mem_of_getElem? (i := 713) (by decide +kernel))) (by decide +kernel)
theorem q_334 : Cond.selects "SnowMoney$Foresight" ⟨"SnowMoney$Foresight", "findForged", "(LSnowMoney$Sheet;)V"⟩ ⟨"SnowMoney$Foresight", "findForged", "(LSnowMoney$Sheet;)V"⟩ ∈ sm_tbl := sm_in (List.mem_append_right _ (List.mem_of_getElem? (i := 712) (by decide +kernel))) (by decide +kernel)
theorem q_335 : Cond.instanceMethod ⟨"SnowMoney$Foresight", "findForged", "(LSnowMoney$Sheet;)V"⟩ ∈ sm_tbl := sm_in (List.mem_append_right _ (List.mem_of_getElem? (i := 711) (by decide +kernel))) (by decide +kernel)
theorem ok_75 : sm_okV "SnowMoney" 225 ⟨"SnowMoney$Foresight", "findForged", "(LSnowMoney$Sheet;)V"⟩ prog_3_method_16_code 5 none 1 := ⟨⟨q_332, q_216, q_333, by decide +kernel⟩, q_335, q_334⟩
theorem q_336 : Cond.methodLink "SnowMoney$Foresight" 146 ⟨"SnowMoney$Sheet", "numberAt", "(I)I"⟩ ∈ sm_tbl := sm_in (List.mem_append_right _ (List.mem_of_getElem? (i := 714) (by decide +kernel))) (by decide +kernel)
theorem ok_76 : sm_okV "SnowMoney$Foresight" 146 ⟨"SnowMoney$Sheet", "numberAt", "(I)I"⟩ prog_6_method_4_code 2 (some .int) 1 := ⟨⟨q_336, q_323, q_329, by decide +kernel⟩, q_331, q_330⟩
theorem q_337 : Cond.methodLink "SnowMoney$Foresight" 151 ⟨"SnowMoney$Foresight", "kindsThatLeave", "(III)I"⟩ ∈ sm_tbl := sm_in (List.mem_append_right _ (List.mem_of_getElem? (i := 715) (by decide +kernel))) (by decide +kernel)
theorem q_338 : Cond.code ⟨"SnowMoney$Foresight", "kindsThatLeave", "(III)I"⟩ prog_3_method_17_code 6 (some .int) ∈ sm_tbl := sm_in (List.mem_append_right _ (List.mem_of_getElem? (i := 718) (by decide +kernel))) (by decide +kernel)
theorem q_339 : Cond.selects "SnowMoney$Foresight" ⟨"SnowMoney$Foresight", "kindsThatLeave", "(III)I"⟩ ⟨"SnowMoney$Foresight", "kindsThatLeave", "(III)I"⟩ ∈ sm_tbl := sm_in (List.mem_append_left _ (List.mem_of_getElem? (i := 19) (by decide +kernel))) (by decide +kernel)
theorem q_340 : Cond.instanceMethod ⟨"SnowMoney$Foresight", "kindsThatLeave", "(III)I"⟩ ∈ sm_tbl := sm_in (List.mem_append_right _ (List.mem_of_getElem? (i := 717) (by decide +kernel))) (by decide +kernel)
theorem ok_77 : sm_okV "SnowMoney$Foresight" 151 ⟨"SnowMoney$Foresight", "kindsThatLeave", "(III)I"⟩ prog_3_method_17_code 6 (some .int) 3 := ⟨⟨q_337, q_216, q_338, by decide +kernel⟩, q_340, q_339⟩
theorem q_341 : Cond.fieldLink "SnowMoney$Sheet" 32 (sm_T3 2).1 (sm_T3 2).2.1 (sm_T3 2).2.2.1 ∈ sm_tbl := sm_in (List.mem_append_right _ (List.mem_of_getElem? (i := 234) (by decide +kernel))) (by decide +kernel)
theorem q_342 : Cond.fieldLink "SnowMoney$Sheet" 9 (sm_T3 0).1 (sm_T3 0).2.1 (sm_T3 0).2.2.1 ∈ sm_tbl := sm_in (List.mem_append_right _ (List.mem_of_getElem? (i := 230) (by decide +kernel))) (by decide +kernel)
theorem q_343 : Cond.fieldLink "SnowMoney$Sheet" 13 (sm_T3 1).1 (sm_T3 1).2.1 (sm_T3 1).2.2.1 ∈ sm_tbl := sm_in (List.mem_append_right _ (List.mem_of_getElem? (i := 232) (by decide +kernel))) (by decide +kernel)
theorem q_344 : Cond.fieldLink "SnowMoney" 44 (sm_T6 5).1 (sm_T6 5).2.1 (sm_T6 5).2.2.1 ∈ sm_tbl := sm_in (List.mem_append_right _ (List.mem_of_getElem? (i := 248) (by decide +kernel))) (by decide +kernel)
theorem q_345 : Cond.methodLink "SnowMoney" 229 ⟨"SnowMoney$Foresight", "findRichest", "(II)V"⟩ ∈ sm_tbl := sm_in (List.mem_append_right _ (List.mem_of_getElem? (i := 723) (by decide +kernel))) (by decide +kernel)
theorem q_346 : Cond.code ⟨"SnowMoney$Foresight", "findRichest", "(II)V"⟩ prog_3_method_18_code 5 none ∈ sm_tbl := sm_in (List.mem_append_right _ (List.mem_of_getElem? (i := 726) (by decide +kernel))) (by decide +kernel)
theorem q_347 : Cond.selects "SnowMoney$Foresight" ⟨"SnowMoney$Foresight", "findRichest", "(II)V"⟩ ⟨"SnowMoney$Foresight", "findRichest", "(II)V"⟩ ∈ sm_tbl := sm_in (List.mem_append_right _ (List.mem_of_getElem? (i := 725) (by decide +kernel))) (by decide +kernel)
theorem q_348 : Cond.instanceMethod ⟨"SnowMoney$Foresight", "findRichest", "(II)V"⟩ ∈ sm_tbl := sm_in (List.mem_append_right _ (List.mem_of_getElem? (i := 724) (by decide +kernel))) (by decide +kernel)
theorem ok_78 : sm_okV "SnowMoney" 229 ⟨"SnowMoney$Foresight", "findRichest", "(II)V"⟩ prog_3_method_18_code 5 none 2 := ⟨⟨q_345, q_216, q_346, by decide +kernel⟩, q_348, q_347⟩
theorem q_349 : Cond.methodLink "SnowMoney$Foresight" 154 ⟨"SnowMoney$Foresight", "worthBehind", "(II)I"⟩ ∈ sm_tbl := sm_in (List.mem_append_right _ (List.mem_of_getElem? (i := 727) (by decide +kernel))) (by decide +kernel)
theorem ok_79 : sm_okV "SnowMoney$Foresight" 154 ⟨"SnowMoney$Foresight", "worthBehind", "(II)I"⟩ prog_3_method_6_code 6 (some .int) 2 := ⟨⟨q_349, q_216, q_264, by decide +kernel⟩, q_266, q_265⟩
theorem q_350 : Cond.methodLink "SnowMoney" 232 ⟨"SnowMoney$Foresight", "leftOfAll", "(II)I"⟩ ∈ sm_tbl := sm_in (List.mem_append_right _ (List.mem_of_getElem? (i := 732) (by decide +kernel))) (by decide +kernel)
theorem q_351 : Cond.code ⟨"SnowMoney$Foresight", "leftOfAll", "(II)I"⟩ prog_3_method_5_code 5 (some .int) ∈ sm_tbl := sm_in (List.mem_append_right _ (List.mem_of_getElem? (i := 735) (by decide +kernel))) (by decide +kernel)
theorem q_352 : Cond.selects "SnowMoney$Foresight" ⟨"SnowMoney$Foresight", "leftOfAll", "(II)I"⟩ ⟨"SnowMoney$Foresight", "leftOfAll", "(II)I"⟩ ∈ sm_tbl := sm_in (List.mem_append_right _ (List.mem_of_getElem? (i := 734) (by decide +kernel))) (by decide +kernel)
theorem q_353 : Cond.instanceMethod ⟨"SnowMoney$Foresight", "leftOfAll", "(II)I"⟩ ∈ sm_tbl := sm_in (List.mem_append_right _ (List.mem_of_getElem? (i := 733) (by decide +kernel))) (by decide +kernel)
theorem ok_80 : sm_okV "SnowMoney" 232 ⟨"SnowMoney$Foresight", "leftOfAll", "(II)I"⟩ prog_3_method_5_code 5 (some .int) 2 := ⟨⟨q_350, q_216, q_351, by decide +kernel⟩, q_353, q_352⟩
theorem q_354 : Cond.methodLink "SnowMoney" 235 ⟨"SnowMoney$Foresight", "weathersThatLeave", "(II)I"⟩ ∈ sm_tbl := sm_in (List.mem_append_right _ (List.mem_of_getElem? (i := 740) (by decide +kernel))) (by decide +kernel)
theorem q_355 : Cond.code ⟨"SnowMoney$Foresight", "weathersThatLeave", "(II)I"⟩ prog_3_method_19_code 5 (some .int) ∈ sm_tbl := sm_in (List.mem_append_right _ (List.mem_of_getElem? (i := 743) (by decide +kernel))) (by decide +kernel)
theorem q_356 : Cond.selects "SnowMoney$Foresight" ⟨"SnowMoney$Foresight", "weathersThatLeave", "(II)I"⟩ ⟨"SnowMoney$Foresight", "weathersThatLeave", "(II)I"⟩ ∈ sm_tbl := sm_in (List.mem_append_right _ (List.mem_of_getElem? (i := 742) (by decide +kernel))) (by decide +kernel)
theorem q_357 : Cond.instanceMethod ⟨"SnowMoney$Foresight", "weathersThatLeave", "(II)I"⟩ ∈ sm_tbl := sm_in (List.mem_append_right _ (List.mem_of_getElem? (i := 741) (by decide +kernel))) (by decide +kernel)
theorem ok_81 : sm_okV "SnowMoney" 235 ⟨"SnowMoney$Foresight", "weathersThatLeave", "(II)I"⟩ prog_3_method_19_code 5 (some .int) 2 := ⟨⟨q_354, q_216, q_355, by decide +kernel⟩, q_357, q_356⟩
theorem q_358 : Cond.methodLink "SnowMoney" 238 ⟨"SnowMoney", "greatestDivisor", "(II)I"⟩ ∈ sm_tbl := sm_in (List.mem_append_right _ (List.mem_of_getElem? (i := 744) (by decide +kernel))) (by decide +kernel)
theorem q_359 : Cond.code ⟨"SnowMoney", "greatestDivisor", "(II)I"⟩ prog_1_method_48_code 3 (some .int) ∈ sm_tbl := sm_in (List.mem_append_right _ (List.mem_of_getElem? (i := 746) (by decide +kernel))) (by decide +kernel)
theorem q_360 : Cond.static ⟨"SnowMoney", "greatestDivisor", "(II)I"⟩ ∈ sm_tbl := sm_in (List.mem_append_right _ (List.mem_of_getElem? (i := 745) (by decide +kernel))) (by decide +kernel)
theorem ok_82 : sm_okS "SnowMoney" 238 ⟨"SnowMoney", "greatestDivisor", "(II)I"⟩ prog_1_method_48_code 3 (some .int) 2 := ⟨⟨q_358, q_1, q_359, by decide +kernel⟩, q_360⟩
theorem q_361 : Cond.fieldLink "SnowMoney" 241 (sm_T0 17).1 (sm_T0 17).2.1 (sm_T0 17).2.2.1 ∈ sm_tbl := sm_in (List.mem_append_right _ (List.mem_of_getElem? (i := 98) (by decide +kernel))) (by decide +kernel)
theorem q_362 : Cond.fieldLink "SnowMoney" 38 (sm_T6 4).1 (sm_T6 4).2.1 (sm_T6 4).2.2.1 ∈ sm_tbl := sm_in (List.mem_append_right _ (List.mem_of_getElem? (i := 247) (by decide +kernel))) (by decide +kernel)
theorem q_363 : Cond.methodLink "SnowMoney" 244 ⟨"SnowMoney$Voices", "begin", "(IIIII)I"⟩ ∈ sm_tbl := sm_in (List.mem_append_right _ (List.mem_of_getElem? (i := 755) (by decide +kernel))) (by decide +kernel)
theorem q_364 : Cond.initialized "SnowMoney$Voices" ∈ sm_tbl := sm_in (List.mem_append_right _ (List.mem_of_getElem? (i := 6) (by decide +kernel))) (by decide +kernel)
theorem q_365 : Cond.code ⟨"SnowMoney$Voices", "begin", "(IIIII)I"⟩ prog_8_method_2_code 6 (some .int) ∈ sm_tbl := sm_in (List.mem_append_right _ (List.mem_of_getElem? (i := 758) (by decide +kernel))) (by decide +kernel)
theorem q_366 : Cond.selects "SnowMoney$Voices" ⟨"SnowMoney$Voices", "begin", "(IIIII)I"⟩ ⟨"SnowMoney$Voices", "begin", "(IIIII)I"⟩ ∈ sm_tbl := sm_in (List.mem_append_right _ (List.mem_of_getElem? (i := 757) (by decide +kernel))) (by decide +kernel)
theorem q_367 : Cond.instanceMethod ⟨"SnowMoney$Voices", "begin", "(IIIII)I"⟩ ∈ sm_tbl := sm_in (List.mem_append_right _ (List.mem_of_getElem? (i := 756) (by decide +kernel))) (by decide +kernel)
theorem ok_83 : sm_okV "SnowMoney" 244 ⟨"SnowMoney$Voices", "begin", "(IIIII)I"⟩ prog_8_method_2_code 6 (some .int) 5 := ⟨⟨q_363, q_364, q_365, by decide +kernel⟩, q_367, q_366⟩
theorem q_368 : Cond.fieldLink "SnowMoney$Voices" 13 (sm_T5 2).1 (sm_T5 2).2.1 (sm_T5 2).2.2.1 ∈ sm_tbl := sm_in (List.mem_append_right _ (List.mem_of_getElem? (i := 209) (by decide +kernel))) (by decide +kernel)
theorem q_369 : Cond.fieldLink "SnowMoney$Voices" 17 (sm_T5 3).1 (sm_T5 3).2.1 (sm_T5 3).2.2.1 ∈ sm_tbl := sm_in (List.mem_append_right _ (List.mem_of_getElem? (i := 210) (by decide +kernel))) (by decide +kernel)
theorem q_370 : Cond.fieldLink "SnowMoney$Voices" 20 (sm_T5 4).1 (sm_T5 4).2.1 (sm_T5 4).2.2.1 ∈ sm_tbl := sm_in (List.mem_append_right _ (List.mem_of_getElem? (i := 211) (by decide +kernel))) (by decide +kernel)
theorem q_371 : Cond.fieldLink "SnowMoney$Voices" 23 (sm_T5 1).1 (sm_T5 1).2.1 (sm_T5 1).2.2.1 ∈ sm_tbl := sm_in (List.mem_append_right _ (List.mem_of_getElem? (i := 207) (by decide +kernel))) (by decide +kernel)
theorem q_372 : Cond.methodLink "SnowMoney$Voices" 26 ⟨"SnowMoney$Voices", "speak", "(IIII)I"⟩ ∈ sm_tbl := sm_in (List.mem_append_right _ (List.mem_of_getElem? (i := 759) (by decide +kernel))) (by decide +kernel)
theorem q_373 : Cond.code ⟨"SnowMoney$Voices", "speak", "(IIII)I"⟩ prog_8_method_4_code 7 (some .int) ∈ sm_tbl := sm_in (List.mem_append_right _ (List.mem_of_getElem? (i := 762) (by decide +kernel))) (by decide +kernel)
theorem q_374 : Cond.selects "SnowMoney$Voices" ⟨"SnowMoney$Voices", "speak", "(IIII)I"⟩ ⟨"SnowMoney$Voices", "speak", "(IIII)I"⟩ ∈ sm_tbl := sm_in (List.mem_append_left _ (List.mem_of_getElem? (i := 20) (by decide +kernel))) (by decide +kernel)
theorem q_375 : Cond.instanceMethod ⟨"SnowMoney$Voices", "speak", "(IIII)I"⟩ ∈ sm_tbl := sm_in (List.mem_append_right _ (List.mem_of_getElem? (i := 761) (by decide +kernel))) (by decide +kernel)
theorem ok_84 : sm_okV "SnowMoney$Voices" 26 ⟨"SnowMoney$Voices", "speak", "(IIII)I"⟩ prog_8_method_4_code 7 (some .int) 4 := ⟨⟨q_372, q_364, q_373, by decide +kernel⟩, q_375, q_374⟩
theorem q_376 : Cond.methodLink "SnowMoney$Voices" 35 ⟨"SnowMoney$Voices", "bodyOf", "(II)I"⟩ ∈ sm_tbl := sm_in (List.mem_append_right _ (List.mem_of_getElem? (i := 763) (by decide +kernel))) (by decide +kernel)
theorem q_377 : Cond.code ⟨"SnowMoney$Voices", "bodyOf", "(II)I"⟩ prog_8_method_3_code 3 (some .int) ∈ sm_tbl := sm_in (List.mem_append_right _ (List.mem_of_getElem? (i := 765) (by decide +kernel))) (by decide +kernel)
theorem q_378 : Cond.static ⟨"SnowMoney$Voices", "bodyOf", "(II)I"⟩ ∈ sm_tbl := sm_in (List.mem_append_right _ (List.mem_of_getElem? (i := 764) (by decide +kernel))) (by decide +kernel)
theorem ok_85 : sm_okS "SnowMoney$Voices" 35 ⟨"SnowMoney$Voices", "bodyOf", "(II)I"⟩ prog_8_method_3_code 3 (some .int) 2 := ⟨⟨q_376, q_364, q_377, by decide +kernel⟩, q_378⟩
theorem q_379 : Cond.methodLink "SnowMoney$Voices" 39 ⟨"SnowMoney$Kinds", "above", "(I)I"⟩ ∈ sm_tbl := sm_in (List.mem_append_right _ (List.mem_of_getElem? (i := 768) (by decide +kernel))) (by decide +kernel)
theorem ok_86 : sm_okS "SnowMoney$Voices" 39 ⟨"SnowMoney$Kinds", "above", "(I)I"⟩ prog_4_method_2_code 1 (some .int) 1 := ⟨⟨q_379, q_67, q_111, by decide +kernel⟩, q_112⟩
theorem q_380 : Cond.methodLink "SnowMoney$Voices" 43 ⟨"SnowMoney$Voices", "work", "(IIII)I"⟩ ∈ sm_tbl := sm_in (List.mem_append_right _ (List.mem_of_getElem? (i := 769) (by decide +kernel))) (by decide +kernel)
theorem q_381 : Cond.code ⟨"SnowMoney$Voices", "work", "(IIII)I"⟩ prog_8_method_5_code 5 (some .int) ∈ sm_tbl := sm_in (List.mem_append_right _ (List.mem_of_getElem? (i := 772) (by decide +kernel))) (by decide +kernel)
theorem q_382 : Cond.selects "SnowMoney$Voices" ⟨"SnowMoney$Voices", "work", "(IIII)I"⟩ ⟨"SnowMoney$Voices", "work", "(IIII)I"⟩ ∈ sm_tbl := sm_in (List.mem_append_left _ (List.mem_of_getElem? (i := 21) (by decide +kernel))) (by decide +kernel)
theorem q_383 : Cond.instanceMethod ⟨"SnowMoney$Voices", "work", "(IIII)I"⟩ ∈ sm_tbl := sm_in (List.mem_append_right _ (List.mem_of_getElem? (i := 771) (by decide +kernel))) (by decide +kernel)
theorem ok_87 : sm_okV "SnowMoney$Voices" 43 ⟨"SnowMoney$Voices", "work", "(IIII)I"⟩ prog_8_method_5_code 5 (some .int) 4 := ⟨⟨q_380, q_364, q_381, by decide +kernel⟩, q_383, q_382⟩
theorem q_384 : Cond.fieldLink "SnowMoney$Voices" 9 (sm_T5 0).1 (sm_T5 0).2.1 (sm_T5 0).2.2.1 ∈ sm_tbl := sm_in (List.mem_append_right _ (List.mem_of_getElem? (i := 205) (by decide +kernel))) (by decide +kernel)
theorem q_385 : Cond.fieldLink "SnowMoney$Voices" 30 "SnowMoney$Voices" "BODIES" "[I" ∈ sm_tbl := sm_in (List.mem_append_right _ (List.mem_of_getElem? (i := 766) (by decide +kernel))) (by decide +kernel)
theorem q_386 : Cond.fieldLink "SnowMoney" 248 (sm_T5 1).1 (sm_T5 1).2.1 (sm_T5 1).2.2.1 ∈ sm_tbl := sm_in (List.mem_append_right _ (List.mem_of_getElem? (i := 208) (by decide +kernel))) (by decide +kernel)
theorem q_387 : Cond.fieldLink "SnowMoney" 251 (sm_T5 0).1 (sm_T5 0).2.1 (sm_T5 0).2.2.1 ∈ sm_tbl := sm_in (List.mem_append_right _ (List.mem_of_getElem? (i := 206) (by decide +kernel))) (by decide +kernel)
theorem q_388 : Cond.methodLink "SnowMoney" 254 ⟨"SnowMoney$Sheet", "makeAnew", "(II)V"⟩ ∈ sm_tbl := sm_in (List.mem_append_right _ (List.mem_of_getElem? (i := 781) (by decide +kernel))) (by decide +kernel)
theorem q_389 : Cond.code ⟨"SnowMoney$Sheet", "makeAnew", "(II)V"⟩ prog_6_method_3_code 3 none ∈ sm_tbl := sm_in (List.mem_append_right _ (List.mem_of_getElem? (i := 784) (by decide +kernel))) (by decide +kernel)
theorem q_390 : Cond.selects "SnowMoney$Sheet" ⟨"SnowMoney$Sheet", "makeAnew", "(II)V"⟩ ⟨"SnowMoney$Sheet", "makeAnew", "(II)V"⟩ ∈ sm_tbl := sm_in (List.mem_append_right _ (List.mem_of_getElem? (i := 783) (by decide +kernel))) (by decide +kernel)
theorem q_391 : Cond.instanceMethod ⟨"SnowMoney$Sheet", "makeAnew", "(II)V"⟩ ∈ sm_tbl := sm_in (List.mem_append_right _ (List.mem_of_getElem? (i := 782) (by decide +kernel))) (by decide +kernel)
theorem ok_88 : sm_okV "SnowMoney" 254 ⟨"SnowMoney$Sheet", "makeAnew", "(II)V"⟩ prog_6_method_3_code 3 none 2 := ⟨⟨q_388, q_323, q_389, by decide +kernel⟩, q_391, q_390⟩
theorem q_392 : Cond.methodLink "SnowMoney$Sheet" 17 ⟨"java/util/Arrays", "fill", "([II)V"⟩ ∈ sm_tbl := sm_in (List.mem_append_right _ (List.mem_of_getElem? (i := 785) (by decide +kernel))) (by decide +kernel)
theorem ok_89 : sm_okS "SnowMoney$Sheet" 17 ⟨"java/util/Arrays", "fill", "([II)V"⟩ prog_18_method_103_code 4 none 2 := ⟨⟨q_392, q_301, q_302, by decide +kernel⟩, q_303⟩
theorem q_393 : Cond.methodLink "SnowMoney$Sheet" 23 Lib.Math.min.name ∈ sm_tbl := sm_in (List.mem_append_right _ (List.mem_of_getElem? (i := 786) (by decide +kernel))) (by decide +kernel)
theorem q_394 : Cond.methodLink "SnowMoney$Sheet" 29 Lib.Math.max.name ∈ sm_tbl := sm_in (List.mem_append_right _ (List.mem_of_getElem? (i := 787) (by decide +kernel))) (by decide +kernel)
theorem q_395 : Cond.fieldLink "SnowMoney" 257 (sm_T3 0).1 (sm_T3 0).2.1 (sm_T3 0).2.2.1 ∈ sm_tbl := sm_in (List.mem_append_right _ (List.mem_of_getElem? (i := 231) (by decide +kernel))) (by decide +kernel)
theorem q_396 : Cond.methodLink "SnowMoney" 260 ⟨"SnowMoney$Sheet", "lowestBits", "(I)I"⟩ ∈ sm_tbl := sm_in (List.mem_append_right _ (List.mem_of_getElem? (i := 792) (by decide +kernel))) (by decide +kernel)
theorem q_397 : Cond.code ⟨"SnowMoney$Sheet", "lowestBits", "(I)I"⟩ prog_6_method_6_code 2 (some .int) ∈ sm_tbl := sm_in (List.mem_append_right _ (List.mem_of_getElem? (i := 795) (by decide +kernel))) (by decide +kernel)
theorem q_398 : Cond.selects "SnowMoney$Sheet" ⟨"SnowMoney$Sheet", "lowestBits", "(I)I"⟩ ⟨"SnowMoney$Sheet", "lowestBits", "(I)I"⟩ ∈ sm_tbl := sm_in (List.mem_append_right _ (List.mem_of_getElem? (i := 794) (by decide +kernel))) (by decide +kernel)
theorem q_399 : Cond.instanceMethod ⟨"SnowMoney$Sheet", "lowestBits", "(I)I"⟩ ∈ sm_tbl := sm_in (List.mem_append_right _ (List.mem_of_getElem? (i := 793) (by decide +kernel))) (by decide +kernel)
theorem ok_90 : sm_okV "SnowMoney" 260 ⟨"SnowMoney$Sheet", "lowestBits", "(I)I"⟩ prog_6_method_6_code 2 (some .int) 1 := ⟨⟨q_396, q_323, q_397, by decide +kernel⟩, q_399, q_398⟩
theorem q_400 : Cond.fieldLink "SnowMoney" 263 (sm_T3 1).1 (sm_T3 1).2.1 (sm_T3 1).2.2.1 ∈ sm_tbl := sm_in (List.mem_append_right _ (List.mem_of_getElem? (i := 233) (by decide +kernel))) (by decide +kernel)
theorem q_401 : Cond.methodLink "SnowMoney" 266 ⟨"SnowMoney$Sheet", "hasRun", "(II)Z"⟩ ∈ sm_tbl := sm_in (List.mem_append_right _ (List.mem_of_getElem? (i := 800) (by decide +kernel))) (by decide +kernel)
theorem q_402 : Cond.code ⟨"SnowMoney$Sheet", "hasRun", "(II)Z"⟩ prog_6_method_5_code 3 (some .boolean) ∈ sm_tbl := sm_in (List.mem_append_right _ (List.mem_of_getElem? (i := 803) (by decide +kernel))) (by decide +kernel)
theorem q_403 : Cond.selects "SnowMoney$Sheet" ⟨"SnowMoney$Sheet", "hasRun", "(II)Z"⟩ ⟨"SnowMoney$Sheet", "hasRun", "(II)Z"⟩ ∈ sm_tbl := sm_in (List.mem_append_right _ (List.mem_of_getElem? (i := 802) (by decide +kernel))) (by decide +kernel)
theorem q_404 : Cond.instanceMethod ⟨"SnowMoney$Sheet", "hasRun", "(II)Z"⟩ ∈ sm_tbl := sm_in (List.mem_append_right _ (List.mem_of_getElem? (i := 801) (by decide +kernel))) (by decide +kernel)
theorem ok_91 : sm_okV "SnowMoney" 266 ⟨"SnowMoney$Sheet", "hasRun", "(II)Z"⟩ prog_6_method_5_code 3 (some .boolean) 2 := ⟨⟨q_401, q_323, q_402, by decide +kernel⟩, q_404, q_403⟩
theorem q_405 : Cond.methodLink "SnowMoney" 269 arraycopyName ∈ sm_tbl := sm_in (List.mem_append_right _ (List.mem_of_getElem? (i := 804) (by decide +kernel))) (by decide +kernel)
theorem q_406 : Cond.methodLink "SnowMoney" 275 Lib.Math.min.name ∈ sm_tbl := sm_in (List.mem_append_right _ (List.mem_of_getElem? (i := 809) (by decide +kernel))) (by decide +kernel)
theorem q_407 : Cond.fieldLink "SnowMoney" 16 (sm_T6 1).1 (sm_T6 1).2.1 (sm_T6 1).2.2.1 ∈ sm_tbl := sm_in (List.mem_append_right _ (List.mem_of_getElem? (i := 244) (by decide +kernel))) (by decide +kernel)
theorem q_408 : Cond.methodLink "SnowMoney" 278 ⟨"SnowMoney$Duchy", "take", "(LSnowMoney$Duchy;)V"⟩ ∈ sm_tbl := sm_in (List.mem_append_right _ (List.mem_of_getElem? (i := 818) (by decide +kernel))) (by decide +kernel)
theorem q_409 : Cond.code ⟨"SnowMoney$Duchy", "take", "(LSnowMoney$Duchy;)V"⟩ prog_2_method_2_code 2 none ∈ sm_tbl := sm_in (List.mem_append_right _ (List.mem_of_getElem? (i := 821) (by decide +kernel))) (by decide +kernel)
theorem q_410 : Cond.selects "SnowMoney$Duchy" ⟨"SnowMoney$Duchy", "take", "(LSnowMoney$Duchy;)V"⟩ ⟨"SnowMoney$Duchy", "take", "(LSnowMoney$Duchy;)V"⟩ ∈ sm_tbl := sm_in (List.mem_append_right _ (List.mem_of_getElem? (i := 820) (by decide +kernel))) (by decide +kernel)
theorem q_411 : Cond.instanceMethod ⟨"SnowMoney$Duchy", "take", "(LSnowMoney$Duchy;)V"⟩ ∈ sm_tbl := sm_in (List.mem_append_right _ (List.mem_of_getElem? (i := 819) (by decide +kernel))) (by decide +kernel)
theorem ok_92 : sm_okV "SnowMoney" 278 ⟨"SnowMoney$Duchy", "take", "(LSnowMoney$Duchy;)V"⟩ prog_2_method_2_code 2 none 1 := ⟨⟨q_408, q_14, q_409, by decide +kernel⟩, q_411, q_410⟩
theorem q_412 : Cond.fieldLink "SnowMoney" 280 (sm_T6 7).1 (sm_T6 7).2.1 (sm_T6 7).2.2.1 ∈ sm_tbl := sm_in (List.mem_append_right _ (List.mem_of_getElem? (i := 250) (by decide +kernel))) (by decide +kernel)
theorem q_413 : Cond.methodLink "SnowMoney$Duchy" 54 arraycopyName ∈ sm_tbl := sm_in (List.mem_append_right _ (List.mem_of_getElem? (i := 822) (by decide +kernel))) (by decide +kernel)
theorem q_414 : Cond.fieldLink "SnowMoney$Duchy" 31 (sm_T0 7).1 (sm_T0 7).2.1 (sm_T0 7).2.2.1 ∈ sm_tbl := sm_in (List.mem_append_right _ (List.mem_of_getElem? (i := 71) (by decide +kernel))) (by decide +kernel)
theorem q_415 : Cond.fieldLink "SnowMoney$Duchy" 34 (sm_T0 8).1 (sm_T0 8).2.1 (sm_T0 8).2.2.1 ∈ sm_tbl := sm_in (List.mem_append_right _ (List.mem_of_getElem? (i := 73) (by decide +kernel))) (by decide +kernel)
theorem q_416 : Cond.methodLink "SnowMoney$Duchy" 60 ⟨"SnowMoney$Text", "take", "(LSnowMoney$Text;)V"⟩ ∈ sm_tbl := sm_in (List.mem_append_right _ (List.mem_of_getElem? (i := 823) (by decide +kernel))) (by decide +kernel)
theorem ok_93 : sm_okV "SnowMoney$Duchy" 60 ⟨"SnowMoney$Text", "take", "(LSnowMoney$Text;)V"⟩ prog_7_method_4_code 2 none 1 := ⟨⟨q_416, q_72, q_129, by decide +kernel⟩, q_131, q_130⟩
theorem q_417 : Cond.fieldLink "SnowMoney$Duchy" 73 (sm_T0 15).1 (sm_T0 15).2.1 (sm_T0 15).2.2.1 ∈ sm_tbl := sm_in (List.mem_append_right _ (List.mem_of_getElem? (i := 92) (by decide +kernel))) (by decide +kernel)
theorem q_418 : Cond.fieldLink "SnowMoney$Duchy" 76 (sm_T0 16).1 (sm_T0 16).2.1 (sm_T0 16).2.2.1 ∈ sm_tbl := sm_in (List.mem_append_right _ (List.mem_of_getElem? (i := 94) (by decide +kernel))) (by decide +kernel)
theorem q_419 : Cond.fieldLink "SnowMoney" 283 (sm_T0 16).1 (sm_T0 16).2.1 (sm_T0 16).2.2.1 ∈ sm_tbl := sm_in (List.mem_append_right _ (List.mem_of_getElem? (i := 96) (by decide +kernel))) (by decide +kernel)
theorem q_420 : Cond.fieldLink "SnowMoney" 286 (sm_T0 8).1 (sm_T0 8).2.1 (sm_T0 8).2.2.1 ∈ sm_tbl := sm_in (List.mem_append_right _ (List.mem_of_getElem? (i := 75) (by decide +kernel))) (by decide +kernel)
theorem q_421 : Cond.methodLink "SnowMoney" 289 ⟨"SnowMoney$Foresight", "firstWrongTold", "()I"⟩ ∈ sm_tbl := sm_in (List.mem_append_right _ (List.mem_of_getElem? (i := 836) (by decide +kernel))) (by decide +kernel)
theorem q_422 : Cond.code ⟨"SnowMoney$Foresight", "firstWrongTold", "()I"⟩ prog_3_method_20_code 3 (some .int) ∈ sm_tbl := sm_in (List.mem_append_right _ (List.mem_of_getElem? (i := 839) (by decide +kernel))) (by decide +kernel)
theorem q_423 : Cond.selects "SnowMoney$Foresight" ⟨"SnowMoney$Foresight", "firstWrongTold", "()I"⟩ ⟨"SnowMoney$Foresight", "firstWrongTold", "()I"⟩ ∈ sm_tbl := sm_in (List.mem_append_right _ (List.mem_of_getElem? (i := 838) (by decide +kernel))) (by decide +kernel)
theorem q_424 : Cond.instanceMethod ⟨"SnowMoney$Foresight", "firstWrongTold", "()I"⟩ ∈ sm_tbl := sm_in (List.mem_append_right _ (List.mem_of_getElem? (i := 837) (by decide +kernel))) (by decide +kernel)
theorem ok_94 : sm_okV "SnowMoney" 289 ⟨"SnowMoney$Foresight", "firstWrongTold", "()I"⟩ prog_3_method_20_code 3 (some .int) 0 := ⟨⟨q_421, q_216, q_422, by decide +kernel⟩, q_424, q_423⟩
theorem q_425 : Cond.fieldLink "SnowMoney$Foresight" 157 (sm_T0 16).1 (sm_T0 16).2.1 (sm_T0 16).2.2.1 ∈ sm_tbl := sm_in (List.mem_append_right _ (List.mem_of_getElem? (i := 95) (by decide +kernel))) (by decide +kernel)
theorem q_426 : Cond.fieldLink "SnowMoney$Foresight" 160 (sm_T0 8).1 (sm_T0 8).2.1 (sm_T0 8).2.2.1 ∈ sm_tbl := sm_in (List.mem_append_right _ (List.mem_of_getElem? (i := 74) (by decide +kernel))) (by decide +kernel)
theorem q_427 : Cond.methodLink "SnowMoney" 292 ⟨"SnowMoney$Duchy", "gone", "()I"⟩ ∈ sm_tbl := sm_in (List.mem_append_right _ (List.mem_of_getElem? (i := 844) (by decide +kernel))) (by decide +kernel)
theorem q_428 : Cond.code ⟨"SnowMoney$Duchy", "gone", "()I"⟩ prog_2_method_15_code 3 (some .int) ∈ sm_tbl := sm_in (List.mem_append_right _ (List.mem_of_getElem? (i := 847) (by decide +kernel))) (by decide +kernel)
theorem q_429 : Cond.selects "SnowMoney$Duchy" ⟨"SnowMoney$Duchy", "gone", "()I"⟩ ⟨"SnowMoney$Duchy", "gone", "()I"⟩ ∈ sm_tbl := sm_in (List.mem_append_right _ (List.mem_of_getElem? (i := 846) (by decide +kernel))) (by decide +kernel)
theorem q_430 : Cond.instanceMethod ⟨"SnowMoney$Duchy", "gone", "()I"⟩ ∈ sm_tbl := sm_in (List.mem_append_right _ (List.mem_of_getElem? (i := 845) (by decide +kernel))) (by decide +kernel)
theorem ok_95 : sm_okV "SnowMoney" 292 ⟨"SnowMoney$Duchy", "gone", "()I"⟩ prog_2_method_15_code 3 (some .int) 0 := ⟨⟨q_427, q_14, q_428, by decide +kernel⟩, q_430, q_429⟩
theorem q_431 : Cond.methodLink "SnowMoneyModel" 44 ⟨"SnowMoneyModel", "in", "(III)Z"⟩ ∈ sm_tbl := sm_in (List.mem_append_right _ (List.mem_of_getElem? (i := 947) (by decide +kernel))) (by decide +kernel)
theorem q_432 : Cond.initialized "SnowMoneyModel" ∈ sm_tbl := sm_in (List.mem_append_right _ (List.mem_of_getElem? (i := 8) (by decide +kernel))) (by decide +kernel)
theorem q_433 : Cond.code ⟨"SnowMoneyModel", "in", "(III)Z"⟩ prog_10_method_2_code 3 (some .boolean) ∈ sm_tbl := sm_in (List.mem_append_right _ (List.mem_of_getElem? (i := 949) (by decide +kernel))) (by decide +kernel)
theorem q_434 : Cond.static ⟨"SnowMoneyModel", "in", "(III)Z"⟩ ∈ sm_tbl := sm_in (List.mem_append_right _ (List.mem_of_getElem? (i := 948) (by decide +kernel))) (by decide +kernel)
theorem ok_96 : sm_okS "SnowMoneyModel" 44 ⟨"SnowMoneyModel", "in", "(III)Z"⟩ prog_10_method_2_code 3 (some .boolean) 3 := ⟨⟨q_431, q_432, q_433, by decide +kernel⟩, q_434⟩
theorem q_435 : Cond.fieldLink "SnowMoneyModel" 7 (sm_T7 0).1 (sm_T7 0).2.1 (sm_T7 0).2.2.1 ∈ sm_tbl := sm_in (List.mem_append_right _ (List.mem_of_getElem? (i := 858) (by decide +kernel))) (by decide +kernel)
theorem q_436 : Cond.constant "SnowMoneyModel" 53 (-1000000004) ∈ sm_tbl := sm_in (List.mem_append_right _ (List.mem_of_getElem? (i := 956) (by decide +kernel))) (by decide +kernel)
theorem q_437 : Cond.methodLink "SnowMoneyModel" 49 ⟨"SnowMoneyModel", "errs", "(I)I"⟩ ∈ sm_tbl := sm_in (List.mem_append_right _ (List.mem_of_getElem? (i := 951) (by decide +kernel))) (by decide +kernel)
theorem q_438 : Cond.code ⟨"SnowMoneyModel", "errs", "(I)I"⟩ prog_10_method_3_code 2 (some .int) ∈ sm_tbl := sm_in (List.mem_append_right _ (List.mem_of_getElem? (i := 954) (by decide +kernel))) (by decide +kernel)
theorem q_439 : Cond.selects "SnowMoneyModel" ⟨"SnowMoneyModel", "errs", "(I)I"⟩ ⟨"SnowMoneyModel", "errs", "(I)I"⟩ ∈ sm_tbl := sm_in (List.mem_append_left _ (List.mem_of_getElem? (i := 22) (by decide +kernel))) (by decide +kernel)
theorem q_440 : Cond.instanceMethod ⟨"SnowMoneyModel", "errs", "(I)I"⟩ ∈ sm_tbl := sm_in (List.mem_append_right _ (List.mem_of_getElem? (i := 953) (by decide +kernel))) (by decide +kernel)
theorem ok_97 : sm_okV "SnowMoneyModel" 49 ⟨"SnowMoneyModel", "errs", "(I)I"⟩ prog_10_method_3_code 2 (some .int) 1 := ⟨⟨q_437, q_432, q_438, by decide +kernel⟩, q_440, q_439⟩
theorem q_441 : Cond.constant "SnowMoneyModel" 48 (-1000000001) ∈ sm_tbl := sm_in (List.mem_append_right _ (List.mem_of_getElem? (i := 950) (by decide +kernel))) (by decide +kernel)
theorem q_442 : Cond.fieldLink "SnowMoneyModel" 22 (sm_T7 6).1 (sm_T7 6).2.1 (sm_T7 6).2.2.1 ∈ sm_tbl := sm_in (List.mem_append_right _ (List.mem_of_getElem? (i := 864) (by decide +kernel))) (by decide +kernel)
theorem q_443 : Cond.constant "SnowMoneyModel" 43 (-1000000000) ∈ sm_tbl := sm_in (List.mem_append_right _ (List.mem_of_getElem? (i := 955) (by decide +kernel))) (by decide +kernel)
theorem q_444 : Cond.methodLink "SnowMoneyModel" 54 ⟨"SnowMoneyModel", "isPlace", "(I)Z"⟩ ∈ sm_tbl := sm_in (List.mem_append_right _ (List.mem_of_getElem? (i := 961) (by decide +kernel))) (by decide +kernel)
theorem q_445 : Cond.code ⟨"SnowMoneyModel", "isPlace", "(I)Z"⟩ prog_10_method_9_code 2 (some .boolean) ∈ sm_tbl := sm_in (List.mem_append_right _ (List.mem_of_getElem? (i := 964) (by decide +kernel))) (by decide +kernel)
theorem q_446 : Cond.selects "SnowMoneyModel" ⟨"SnowMoneyModel", "isPlace", "(I)Z"⟩ ⟨"SnowMoneyModel", "isPlace", "(I)Z"⟩ ∈ sm_tbl := sm_in (List.mem_append_left _ (List.mem_of_getElem? (i := 23) (by decide +kernel))) (by decide +kernel)
theorem q_447 : Cond.instanceMethod ⟨"SnowMoneyModel", "isPlace", "(I)Z"⟩ ∈ sm_tbl := sm_in (List.mem_append_right _ (List.mem_of_getElem? (i := 963) (by decide +kernel))) (by decide +kernel)
theorem ok_98 : sm_okV "SnowMoneyModel" 54 ⟨"SnowMoneyModel", "isPlace", "(I)Z"⟩ prog_10_method_9_code 2 (some .boolean) 1 := ⟨⟨q_444, q_432, q_445, by decide +kernel⟩, q_447, q_446⟩
theorem q_448 : Cond.methodLink "SnowMoneyModel" 58 ⟨"SnowMoneyModel", "becomes", "(II)I"⟩ ∈ sm_tbl := sm_in (List.mem_append_right _ (List.mem_of_getElem? (i := 965) (by decide +kernel))) (by decide +kernel)
theorem q_449 : Cond.code ⟨"SnowMoneyModel", "becomes", "(II)I"⟩ prog_10_method_13_code 4 (some .int) ∈ sm_tbl := sm_in (List.mem_append_right _ (List.mem_of_getElem? (i := 968) (by decide +kernel))) (by decide +kernel)
theorem q_450 : Cond.selects "SnowMoneyModel" ⟨"SnowMoneyModel", "becomes", "(II)I"⟩ ⟨"SnowMoneyModel", "becomes", "(II)I"⟩ ∈ sm_tbl := sm_in (List.mem_append_left _ (List.mem_of_getElem? (i := 24) (by decide +kernel))) (by decide +kernel)
theorem q_451 : Cond.instanceMethod ⟨"SnowMoneyModel", "becomes", "(II)I"⟩ ∈ sm_tbl := sm_in (List.mem_append_right _ (List.mem_of_getElem? (i := 967) (by decide +kernel))) (by decide +kernel)
theorem ok_99 : sm_okV "SnowMoneyModel" 58 ⟨"SnowMoneyModel", "becomes", "(II)I"⟩ prog_10_method_13_code 4 (some .int) 2 := ⟨⟨q_448, q_432, q_449, by decide +kernel⟩, q_451, q_450⟩
theorem q_452 : Cond.methodLink "SnowMoneyModel" 65 ⟨"SnowMoneyModel", "notesAt", "(I)I"⟩ ∈ sm_tbl := sm_in (List.mem_append_right _ (List.mem_of_getElem? (i := 973) (by decide +kernel))) (by decide +kernel)
theorem q_453 : Cond.code ⟨"SnowMoneyModel", "notesAt", "(I)I"⟩ prog_10_method_16_code 4 (some .int) ∈ sm_tbl := sm_in (List.mem_append_right _ (List.mem_of_getElem? (i := 976) (by decide +kernel))) (by decide +kernel)
theorem q_454 : Cond.selects "SnowMoneyModel" ⟨"SnowMoneyModel", "notesAt", "(I)I"⟩ ⟨"SnowMoneyModel", "notesAt", "(I)I"⟩ ∈ sm_tbl := sm_in (List.mem_append_left _ (List.mem_of_getElem? (i := 25) (by decide +kernel))) (by decide +kernel)
theorem q_455 : Cond.instanceMethod ⟨"SnowMoneyModel", "notesAt", "(I)I"⟩ ∈ sm_tbl := sm_in (List.mem_append_right _ (List.mem_of_getElem? (i := 975) (by decide +kernel))) (by decide +kernel)
theorem ok_100 : sm_okV "SnowMoneyModel" 65 ⟨"SnowMoneyModel", "notesAt", "(I)I"⟩ prog_10_method_16_code 4 (some .int) 1 := ⟨⟨q_452, q_432, q_453, by decide +kernel⟩, q_455, q_454⟩
theorem q_456 : Cond.methodLink "SnowMoneyModel" 62 ⟨"SnowMoneyModel", "its", "(II)I"⟩ ∈ sm_tbl := sm_in (List.mem_append_right _ (List.mem_of_getElem? (i := 977) (by decide +kernel))) (by decide +kernel)
theorem q_457 : Cond.code ⟨"SnowMoneyModel", "its", "(II)I"⟩ prog_10_method_7_code 3 (some .int) ∈ sm_tbl := sm_in (List.mem_append_right _ (List.mem_of_getElem? (i := 980) (by decide +kernel))) (by decide +kernel)
theorem q_458 : Cond.selects "SnowMoneyModel" ⟨"SnowMoneyModel", "its", "(II)I"⟩ ⟨"SnowMoneyModel", "its", "(II)I"⟩ ∈ sm_tbl := sm_in (List.mem_append_left _ (List.mem_of_getElem? (i := 26) (by decide +kernel))) (by decide +kernel)
theorem q_459 : Cond.instanceMethod ⟨"SnowMoneyModel", "its", "(II)I"⟩ ∈ sm_tbl := sm_in (List.mem_append_right _ (List.mem_of_getElem? (i := 979) (by decide +kernel))) (by decide +kernel)
theorem ok_101 : sm_okV "SnowMoneyModel" 62 ⟨"SnowMoneyModel", "its", "(II)I"⟩ prog_10_method_7_code 3 (some .int) 2 := ⟨⟨q_456, q_432, q_457, by decide +kernel⟩, q_459, q_458⟩
theorem q_460 : Cond.methodLink "SnowMoneyModel" 68 ⟨"SnowMoneyModel", "isOwner", "(I)Z"⟩ ∈ sm_tbl := sm_in (List.mem_append_right _ (List.mem_of_getElem? (i := 989) (by decide +kernel))) (by decide +kernel)
theorem q_461 : Cond.code ⟨"SnowMoneyModel", "isOwner", "(I)Z"⟩ prog_10_method_11_code 1 (some .boolean) ∈ sm_tbl := sm_in (List.mem_append_right _ (List.mem_of_getElem? (i := 991) (by decide +kernel))) (by decide +kernel)
theorem q_462 : Cond.static ⟨"SnowMoneyModel", "isOwner", "(I)Z"⟩ ∈ sm_tbl := sm_in (List.mem_append_right _ (List.mem_of_getElem? (i := 990) (by decide +kernel))) (by decide +kernel)
theorem ok_102 : sm_okS "SnowMoneyModel" 68 ⟨"SnowMoneyModel", "isOwner", "(I)Z"⟩ prog_10_method_11_code 1 (some .boolean) 1 := ⟨⟨q_460, q_432, q_461, by decide +kernel⟩, q_462⟩
theorem q_463 : Cond.methodLink "SnowMoneyModel" 71 ⟨"SnowMoneyModel", "gets", "(III)V"⟩ ∈ sm_tbl := sm_in (List.mem_append_right _ (List.mem_of_getElem? (i := 992) (by decide +kernel))) (by decide +kernel)
theorem q_464 : Cond.code ⟨"SnowMoneyModel", "gets", "(III)V"⟩ prog_10_method_8_code 4 none ∈ sm_tbl := sm_in (List.mem_append_right _ (List.mem_of_getElem? (i := 995) (by decide +kernel))) (by decide +kernel)
theorem q_465 : Cond.selects "SnowMoneyModel" ⟨"SnowMoneyModel", "gets", "(III)V"⟩ ⟨"SnowMoneyModel", "gets", "(III)V"⟩ ∈ sm_tbl := sm_in (List.mem_append_left _ (List.mem_of_getElem? (i := 27) (by decide +kernel))) (by decide +kernel)
theorem q_466 : Cond.instanceMethod ⟨"SnowMoneyModel", "gets", "(III)V"⟩ ∈ sm_tbl := sm_in (List.mem_append_right _ (List.mem_of_getElem? (i := 994) (by decide +kernel))) (by decide +kernel)
theorem ok_103 : sm_okV "SnowMoneyModel" 71 ⟨"SnowMoneyModel", "gets", "(III)V"⟩ prog_10_method_8_code 4 none 3 := ⟨⟨q_463, q_432, q_464, by decide +kernel⟩, q_466, q_465⟩
theorem q_467 : Cond.methodLink "SnowMoneyModel" 75 ⟨"SnowMoneyModel", "isNote", "(I)Z"⟩ ∈ sm_tbl := sm_in (List.mem_append_right _ (List.mem_of_getElem? (i := 1000) (by decide +kernel))) (by decide +kernel)
theorem q_468 : Cond.code ⟨"SnowMoneyModel", "isNote", "(I)Z"⟩ prog_10_method_10_code 2 (some .boolean) ∈ sm_tbl := sm_in (List.mem_append_right _ (List.mem_of_getElem? (i := 1003) (by decide +kernel))) (by decide +kernel)
theorem q_469 : Cond.selects "SnowMoneyModel" ⟨"SnowMoneyModel", "isNote", "(I)Z"⟩ ⟨"SnowMoneyModel", "isNote", "(I)Z"⟩ ∈ sm_tbl := sm_in (List.mem_append_left _ (List.mem_of_getElem? (i := 28) (by decide +kernel))) (by decide +kernel)
theorem q_470 : Cond.instanceMethod ⟨"SnowMoneyModel", "isNote", "(I)Z"⟩ ∈ sm_tbl := sm_in (List.mem_append_right _ (List.mem_of_getElem? (i := 1002) (by decide +kernel))) (by decide +kernel)
theorem ok_104 : sm_okV "SnowMoneyModel" 75 ⟨"SnowMoneyModel", "isNote", "(I)Z"⟩ prog_10_method_10_code 2 (some .boolean) 1 := ⟨⟨q_467, q_432, q_468, by decide +kernel⟩, q_470, q_469⟩
theorem q_471 : Cond.methodLink "SnowMoneyModel" 81 ⟨"SnowMoneyModel", "pays", "(I)I"⟩ ∈ sm_tbl := sm_in (List.mem_append_right _ (List.mem_of_getElem? (i := 1066) (by decide +kernel))) (by decide +kernel)
theorem q_472 : Cond.code ⟨"SnowMoneyModel", "pays", "(I)I"⟩ prog_10_method_44_code 4 (some .int) ∈ sm_tbl := sm_in (List.mem_append_right _ (List.mem_of_getElem? (i := 1069) (by decide +kernel))) (by decide +kernel)
theorem q_473 : Cond.selects "SnowMoneyModel" ⟨"SnowMoneyModel", "pays", "(I)I"⟩ ⟨"SnowMoneyModel", "pays", "(I)I"⟩ ∈ sm_tbl := sm_in (List.mem_append_left _ (List.mem_of_getElem? (i := 43) (by decide +kernel))) (by decide +kernel)
theorem q_474 : Cond.instanceMethod ⟨"SnowMoneyModel", "pays", "(I)I"⟩ ∈ sm_tbl := sm_in (List.mem_append_right _ (List.mem_of_getElem? (i := 1068) (by decide +kernel))) (by decide +kernel)
theorem ok_105 : sm_okV "SnowMoneyModel" 81 ⟨"SnowMoneyModel", "pays", "(I)I"⟩ prog_10_method_44_code 4 (some .int) 1 := ⟨⟨q_471, q_432, q_472, by decide +kernel⟩, q_474, q_473⟩
theorem q_475 : Cond.methodLink "SnowMoneyModel" 78 ⟨"SnowMoneyModel", "melts", "(I)I"⟩ ∈ sm_tbl := sm_in (List.mem_append_right _ (List.mem_of_getElem? (i := 1004) (by decide +kernel))) (by decide +kernel)
theorem q_476 : Cond.code ⟨"SnowMoneyModel", "melts", "(I)I"⟩ prog_10_method_43_code 2 (some .int) ∈ sm_tbl := sm_in (List.mem_append_right _ (List.mem_of_getElem? (i := 1007) (by decide +kernel))) (by decide +kernel)
theorem q_477 : Cond.selects "SnowMoneyModel" ⟨"SnowMoneyModel", "melts", "(I)I"⟩ ⟨"SnowMoneyModel", "melts", "(I)I"⟩ ∈ sm_tbl := sm_in (List.mem_append_left _ (List.mem_of_getElem? (i := 29) (by decide +kernel))) (by decide +kernel)
theorem q_478 : Cond.instanceMethod ⟨"SnowMoneyModel", "melts", "(I)I"⟩ ∈ sm_tbl := sm_in (List.mem_append_right _ (List.mem_of_getElem? (i := 1006) (by decide +kernel))) (by decide +kernel)
theorem ok_106 : sm_okV "SnowMoneyModel" 78 ⟨"SnowMoneyModel", "melts", "(I)I"⟩ prog_10_method_43_code 2 (some .int) 1 := ⟨⟨q_475, q_432, q_476, by decide +kernel⟩, q_478, q_477⟩
theorem q_479 : Cond.methodLink "SnowMoneyModel" 168 ⟨"SnowMoneyModel", "meltsAt", "(II)I"⟩ ∈ sm_tbl := sm_in (List.mem_append_right _ (List.mem_of_getElem? (i := 1008) (by decide +kernel))) (by decide +kernel)
theorem q_480 : Cond.code ⟨"SnowMoneyModel", "meltsAt", "(II)I"⟩ prog_10_method_42_code 6 (some .int) ∈ sm_tbl := sm_in (List.mem_append_right _ (List.mem_of_getElem? (i := 1011) (by decide +kernel))) (by decide +kernel)
theorem q_481 : Cond.selects "SnowMoneyModel" ⟨"SnowMoneyModel", "meltsAt", "(II)I"⟩ ⟨"SnowMoneyModel", "meltsAt", "(II)I"⟩ ∈ sm_tbl := sm_in (List.mem_append_left _ (List.mem_of_getElem? (i := 30) (by decide +kernel))) (by decide +kernel)
theorem q_482 : Cond.instanceMethod ⟨"SnowMoneyModel", "meltsAt", "(II)I"⟩ ∈ sm_tbl := sm_in (List.mem_append_right _ (List.mem_of_getElem? (i := 1010) (by decide +kernel))) (by decide +kernel)
theorem ok_107 : sm_okV "SnowMoneyModel" 168 ⟨"SnowMoneyModel", "meltsAt", "(II)I"⟩ prog_10_method_42_code 6 (some .int) 2 := ⟨⟨q_479, q_432, q_480, by decide +kernel⟩, q_482, q_481⟩
theorem q_483 : Cond.fieldLink "SnowMoneyModel" 165 (sm_T7 15).1 (sm_T7 15).2.1 (sm_T7 15).2.2.1 ∈ sm_tbl := sm_in (List.mem_append_right _ (List.mem_of_getElem? (i := 873) (by decide +kernel))) (by decide +kernel)
theorem q_484 : Cond.methodLink "SnowMoneyModel" 156 ⟨"SnowMoneyModel", "lawOf", "(IIII)I"⟩ ∈ sm_tbl := sm_in (List.mem_append_right _ (List.mem_of_getElem? (i := 1012) (by decide +kernel))) (by decide +kernel)
theorem q_485 : Cond.code ⟨"SnowMoneyModel", "lawOf", "(IIII)I"⟩ prog_10_method_38_code 6 (some .int) ∈ sm_tbl := sm_in (List.mem_append_right _ (List.mem_of_getElem? (i := 1015) (by decide +kernel))) (by decide +kernel)
theorem q_486 : Cond.selects "SnowMoneyModel" ⟨"SnowMoneyModel", "lawOf", "(IIII)I"⟩ ⟨"SnowMoneyModel", "lawOf", "(IIII)I"⟩ ∈ sm_tbl := sm_in (List.mem_append_left _ (List.mem_of_getElem? (i := 31) (by decide +kernel))) (by decide +kernel)
theorem q_487 : Cond.instanceMethod ⟨"SnowMoneyModel", "lawOf", "(IIII)I"⟩ ∈ sm_tbl := sm_in (List.mem_append_right _ (List.mem_of_getElem? (i := 1014) (by decide +kernel))) (by decide +kernel)
theorem ok_108 : sm_okV "SnowMoneyModel" 156 ⟨"SnowMoneyModel", "lawOf", "(IIII)I"⟩ prog_10_method_38_code 6 (some .int) 4 := ⟨⟨q_484, q_432, q_485, by decide +kernel⟩, q_487, q_486⟩
theorem q_488 : Cond.methodLink "SnowMoneyModel" 152 ⟨"SnowMoneyModel", "held", "(III)I"⟩ ∈ sm_tbl := sm_in (List.mem_append_right _ (List.mem_of_getElem? (i := 1063) (by decide +kernel))) (by decide +kernel)
theorem q_489 : Cond.code ⟨"SnowMoneyModel", "held", "(III)I"⟩ prog_10_method_4_code 3 (some .int) ∈ sm_tbl := sm_in (List.mem_append_right _ (List.mem_of_getElem? (i := 1065) (by decide +kernel))) (by decide +kernel)
theorem q_490 : Cond.static ⟨"SnowMoneyModel", "held", "(III)I"⟩ ∈ sm_tbl := sm_in (List.mem_append_right _ (List.mem_of_getElem? (i := 1064) (by decide +kernel))) (by decide +kernel)
theorem ok_109 : sm_okS "SnowMoneyModel" 152 ⟨"SnowMoneyModel", "held", "(III)I"⟩ prog_10_method_4_code 3 (some .int) 3 := ⟨⟨q_488, q_432, q_489, by decide +kernel⟩, q_490⟩
theorem q_491 : Cond.methodLink "SnowMoneyModel" 148 ⟨"SnowMoneyModel", "walks", "(IIII)I"⟩ ∈ sm_tbl := sm_in (List.mem_append_right _ (List.mem_of_getElem? (i := 1016) (by decide +kernel))) (by decide +kernel)
theorem q_492 : Cond.code ⟨"SnowMoneyModel", "walks", "(IIII)I"⟩ prog_10_method_37_code 6 (some .int) ∈ sm_tbl := sm_in (List.mem_append_right _ (List.mem_of_getElem? (i := 1019) (by decide +kernel))) (by decide +kernel)
theorem q_493 : Cond.selects "SnowMoneyModel" ⟨"SnowMoneyModel", "walks", "(IIII)I"⟩ ⟨"SnowMoneyModel", "walks", "(IIII)I"⟩ ∈ sm_tbl := sm_in (List.mem_append_left _ (List.mem_of_getElem? (i := 32) (by decide +kernel))) (by decide +kernel)
theorem q_494 : Cond.instanceMethod ⟨"SnowMoneyModel", "walks", "(IIII)I"⟩ ∈ sm_tbl := sm_in (List.mem_append_right _ (List.mem_of_getElem? (i := 1018) (by decide +kernel))) (by decide +kernel)
theorem ok_110 : sm_okV "SnowMoneyModel" 148 ⟨"SnowMoneyModel", "walks", "(IIII)I"⟩ prog_10_method_37_code 6 (some .int) 4 := ⟨⟨q_491, q_432, q_492, by decide +kernel⟩, q_494, q_493⟩
theorem q_495 : Cond.fieldLink "SnowMoneyModel" 92 (sm_T7 7).1 (sm_T7 7).2.1 (sm_T7 7).2.2.1 ∈ sm_tbl := sm_in (List.mem_append_right _ (List.mem_of_getElem? (i := 865) (by decide +kernel))) (by decide +kernel)
theorem q_496 : Cond.fieldLink "SnowMoneyModel" 99 (sm_T7 8).1 (sm_T7 8).2.1 (sm_T7 8).2.2.1 ∈ sm_tbl := sm_in (List.mem_append_right _ (List.mem_of_getElem? (i := 866) (by decide +kernel))) (by decide +kernel)
theorem q_497 : Cond.fieldLink "SnowMoneyModel" 88 (sm_T7 9).1 (sm_T7 9).2.1 (sm_T7 9).2.2.1 ∈ sm_tbl := sm_in (List.mem_append_right _ (List.mem_of_getElem? (i := 867) (by decide +kernel))) (by decide +kernel)
theorem q_498 : Cond.fieldLink "SnowMoneyModel" 127 (sm_T7 10).1 (sm_T7 10).2.1 (sm_T7 10).2.2.1 ∈ sm_tbl := sm_in (List.mem_append_right _ (List.mem_of_getElem? (i := 868) (by decide +kernel))) (by decide +kernel)
theorem q_499 : Cond.fieldLink "SnowMoneyModel" 95 (sm_T7 14).1 (sm_T7 14).2.1 (sm_T7 14).2.2.1 ∈ sm_tbl := sm_in (List.mem_append_right _ (List.mem_of_getElem? (i := 872) (by decide +kernel))) (by decide +kernel)
theorem q_500 : Cond.fieldLink "SnowMoneyModel" 112 (sm_T7 11).1 (sm_T7 11).2.1 (sm_T7 11).2.2.1 ∈ sm_tbl := sm_in (List.mem_append_right _ (List.mem_of_getElem? (i := 869) (by decide +kernel))) (by decide +kernel)
theorem q_501 : Cond.fieldLink "SnowMoneyModel" 115 (sm_T7 12).1 (sm_T7 12).2.1 (sm_T7 12).2.2.1 ∈ sm_tbl := sm_in (List.mem_append_right _ (List.mem_of_getElem? (i := 870) (by decide +kernel))) (by decide +kernel)
theorem q_502 : Cond.fieldLink "SnowMoneyModel" 118 (sm_T7 13).1 (sm_T7 13).2.1 (sm_T7 13).2.2.1 ∈ sm_tbl := sm_in (List.mem_append_right _ (List.mem_of_getElem? (i := 871) (by decide +kernel))) (by decide +kernel)
theorem q_503 : Cond.methodLink "SnowMoneyModel" 133 ⟨"SnowMoneyModel", "whole", "()I"⟩ ∈ sm_tbl := sm_in (List.mem_append_right _ (List.mem_of_getElem? (i := 1020) (by decide +kernel))) (by decide +kernel)
theorem q_504 : Cond.code ⟨"SnowMoneyModel", "whole", "()I"⟩ prog_10_method_36_code 3 (some .int) ∈ sm_tbl := sm_in (List.mem_append_right _ (List.mem_of_getElem? (i := 1023) (by decide +kernel))) (by decide +kernel)
theorem q_505 : Cond.selects "SnowMoneyModel" ⟨"SnowMoneyModel", "whole", "()I"⟩ ⟨"SnowMoneyModel", "whole", "()I"⟩ ∈ sm_tbl := sm_in (List.mem_append_left _ (List.mem_of_getElem? (i := 33) (by decide +kernel))) (by decide +kernel)
theorem q_506 : Cond.instanceMethod ⟨"SnowMoneyModel", "whole", "()I"⟩ ∈ sm_tbl := sm_in (List.mem_append_right _ (List.mem_of_getElem? (i := 1022) (by decide +kernel))) (by decide +kernel)
theorem ok_111 : sm_okV "SnowMoneyModel" 133 ⟨"SnowMoneyModel", "whole", "()I"⟩ prog_10_method_36_code 3 (some .int) 0 := ⟨⟨q_503, q_432, q_504, by decide +kernel⟩, q_506, q_505⟩
theorem q_507 : Cond.methodLink "SnowMoneyModel" 145 ⟨"SnowMoneyModel", "both", "()I"⟩ ∈ sm_tbl := sm_in (List.mem_append_right _ (List.mem_of_getElem? (i := 1024) (by decide +kernel))) (by decide +kernel)
theorem q_508 : Cond.code ⟨"SnowMoneyModel", "both", "()I"⟩ prog_10_method_35_code 3 (some .int) ∈ sm_tbl := sm_in (List.mem_append_right _ (List.mem_of_getElem? (i := 1027) (by decide +kernel))) (by decide +kernel)
theorem q_509 : Cond.selects "SnowMoneyModel" ⟨"SnowMoneyModel", "both", "()I"⟩ ⟨"SnowMoneyModel", "both", "()I"⟩ ∈ sm_tbl := sm_in (List.mem_append_left _ (List.mem_of_getElem? (i := 34) (by decide +kernel))) (by decide +kernel)
theorem q_510 : Cond.instanceMethod ⟨"SnowMoneyModel", "both", "()I"⟩ ∈ sm_tbl := sm_in (List.mem_append_right _ (List.mem_of_getElem? (i := 1026) (by decide +kernel))) (by decide +kernel)
theorem ok_112 : sm_okV "SnowMoneyModel" 145 ⟨"SnowMoneyModel", "both", "()I"⟩ prog_10_method_35_code 3 (some .int) 0 := ⟨⟨q_507, q_432, q_508, by decide +kernel⟩, q_510, q_509⟩
theorem q_511 : Cond.methodLink "SnowMoneyModel" 102 ⟨"SnowMoneyModel", "byteAt", "(I)I"⟩ ∈ sm_tbl := sm_in (List.mem_append_right _ (List.mem_of_getElem? (i := 1044) (by decide +kernel))) (by decide +kernel)
theorem q_512 : Cond.code ⟨"SnowMoneyModel", "byteAt", "(I)I"⟩ prog_10_method_26_code 2 (some .int) ∈ sm_tbl := sm_in (List.mem_append_right _ (List.mem_of_getElem? (i := 1047) (by decide +kernel))) (by decide +kernel)
theorem q_513 : Cond.selects "SnowMoneyModel" ⟨"SnowMoneyModel", "byteAt", "(I)I"⟩ ⟨"SnowMoneyModel", "byteAt", "(I)I"⟩ ∈ sm_tbl := sm_in (List.mem_append_left _ (List.mem_of_getElem? (i := 39) (by decide +kernel))) (by decide +kernel)
theorem q_514 : Cond.instanceMethod ⟨"SnowMoneyModel", "byteAt", "(I)I"⟩ ∈ sm_tbl := sm_in (List.mem_append_right _ (List.mem_of_getElem? (i := 1046) (by decide +kernel))) (by decide +kernel)
theorem ok_113 : sm_okV "SnowMoneyModel" 102 ⟨"SnowMoneyModel", "byteAt", "(I)I"⟩ prog_10_method_26_code 2 (some .int) 1 := ⟨⟨q_511, q_432, q_512, by decide +kernel⟩, q_514, q_513⟩
theorem q_515 : Cond.methodLink "SnowMoneyModel" 142 ⟨"SnowMoneyModel", "compared", "()I"⟩ ∈ sm_tbl := sm_in (List.mem_append_right _ (List.mem_of_getElem? (i := 1028) (by decide +kernel))) (by decide +kernel)
theorem q_516 : Cond.code ⟨"SnowMoneyModel", "compared", "()I"⟩ prog_10_method_34_code 5 (some .int) ∈ sm_tbl := sm_in (List.mem_append_right _ (List.mem_of_getElem? (i := 1031) (by decide +kernel))) (by decide +kernel)
theorem q_517 : Cond.selects "SnowMoneyModel" ⟨"SnowMoneyModel", "compared", "()I"⟩ ⟨"SnowMoneyModel", "compared", "()I"⟩ ∈ sm_tbl := sm_in (List.mem_append_left _ (List.mem_of_getElem? (i := 35) (by decide +kernel))) (by decide +kernel)
theorem q_518 : Cond.instanceMethod ⟨"SnowMoneyModel", "compared", "()I"⟩ ∈ sm_tbl := sm_in (List.mem_append_right _ (List.mem_of_getElem? (i := 1030) (by decide +kernel))) (by decide +kernel)
theorem ok_114 : sm_okV "SnowMoneyModel" 142 ⟨"SnowMoneyModel", "compared", "()I"⟩ prog_10_method_34_code 5 (some .int) 0 := ⟨⟨q_515, q_432, q_516, by decide +kernel⟩, q_518, q_517⟩
theorem q_519 : Cond.methodLink "SnowMoneyModel" 139 ⟨"SnowMoneyModel", "sum", "()I"⟩ ∈ sm_tbl := sm_in (List.mem_append_right _ (List.mem_of_getElem? (i := 1032) (by decide +kernel))) (by decide +kernel)
theorem q_520 : Cond.code ⟨"SnowMoneyModel", "sum", "()I"⟩ prog_10_method_33_code 4 (some .int) ∈ sm_tbl := sm_in (List.mem_append_right _ (List.mem_of_getElem? (i := 1035) (by decide +kernel))) (by decide +kernel)
theorem q_521 : Cond.selects "SnowMoneyModel" ⟨"SnowMoneyModel", "sum", "()I"⟩ ⟨"SnowMoneyModel", "sum", "()I"⟩ ∈ sm_tbl := sm_in (List.mem_append_left _ (List.mem_of_getElem? (i := 36) (by decide +kernel))) (by decide +kernel)
theorem q_522 : Cond.instanceMethod ⟨"SnowMoneyModel", "sum", "()I"⟩ ∈ sm_tbl := sm_in (List.mem_append_right _ (List.mem_of_getElem? (i := 1034) (by decide +kernel))) (by decide +kernel)
theorem ok_115 : sm_okV "SnowMoneyModel" 139 ⟨"SnowMoneyModel", "sum", "()I"⟩ prog_10_method_33_code 4 (some .int) 0 := ⟨⟨q_519, q_432, q_520, by decide +kernel⟩, q_522, q_521⟩
theorem q_523 : Cond.methodLink "SnowMoneyModel" 136 ⟨"SnowMoneyModel", "product", "()I"⟩ ∈ sm_tbl := sm_in (List.mem_append_right _ (List.mem_of_getElem? (i := 1036) (by decide +kernel))) (by decide +kernel)
theorem q_524 : Cond.code ⟨"SnowMoneyModel", "product", "()I"⟩ prog_10_method_32_code 4 (some .int) ∈ sm_tbl := sm_in (List.mem_append_right _ (List.mem_of_getElem? (i := 1039) (by decide +kernel))) (by decide +kernel)
theorem q_525 : Cond.selects "SnowMoneyModel" ⟨"SnowMoneyModel", "product", "()I"⟩ ⟨"SnowMoneyModel", "product", "()I"⟩ ∈ sm_tbl := sm_in (List.mem_append_left _ (List.mem_of_getElem? (i := 37) (by decide +kernel))) (by decide +kernel)
theorem q_526 : Cond.instanceMethod ⟨"SnowMoneyModel", "product", "()I"⟩ ∈ sm_tbl := sm_in (List.mem_append_right _ (List.mem_of_getElem? (i := 1038) (by decide +kernel))) (by decide +kernel)
theorem ok_116 : sm_okV "SnowMoneyModel" 136 ⟨"SnowMoneyModel", "product", "()I"⟩ prog_10_method_32_code 4 (some .int) 0 := ⟨⟨q_523, q_432, q_524, by decide +kernel⟩, q_526, q_525⟩
theorem q_527 : Cond.methodLink "SnowMoneyModel" 130 ⟨"SnowMoneyModel", "factor", "()I"⟩ ∈ sm_tbl := sm_in (List.mem_append_right _ (List.mem_of_getElem? (i := 1040) (by decide +kernel))) (by decide +kernel)
theorem q_528 : Cond.code ⟨"SnowMoneyModel", "factor", "()I"⟩ prog_10_method_31_code 3 (some .int) ∈ sm_tbl := sm_in (List.mem_append_right _ (List.mem_of_getElem? (i := 1043) (by decide +kernel))) (by decide +kernel)
theorem q_529 : Cond.selects "SnowMoneyModel" ⟨"SnowMoneyModel", "factor", "()I"⟩ ⟨"SnowMoneyModel", "factor", "()I"⟩ ∈ sm_tbl := sm_in (List.mem_append_left _ (List.mem_of_getElem? (i := 38) (by decide +kernel))) (by decide +kernel)
theorem q_530 : Cond.instanceMethod ⟨"SnowMoneyModel", "factor", "()I"⟩ ∈ sm_tbl := sm_in (List.mem_append_right _ (List.mem_of_getElem? (i := 1042) (by decide +kernel))) (by decide +kernel)
theorem ok_117 : sm_okV "SnowMoneyModel" 130 ⟨"SnowMoneyModel", "factor", "()I"⟩ prog_10_method_31_code 3 (some .int) 0 := ⟨⟨q_527, q_432, q_528, by decide +kernel⟩, q_530, q_529⟩
theorem q_531 : Cond.methodLink "SnowMoneyModel" 105 ⟨"SnowMoneyModel", "isDigit", "(I)Z"⟩ ∈ sm_tbl := sm_in (List.mem_append_right _ (List.mem_of_getElem? (i := 1048) (by decide +kernel))) (by decide +kernel)
theorem q_532 : Cond.code ⟨"SnowMoneyModel", "isDigit", "(I)Z"⟩ prog_10_method_27_code 1 (some .boolean) ∈ sm_tbl := sm_in (List.mem_append_right _ (List.mem_of_getElem? (i := 1050) (by decide +kernel))) (by decide +kernel)
theorem q_533 : Cond.static ⟨"SnowMoneyModel", "isDigit", "(I)Z"⟩ ∈ sm_tbl := sm_in (List.mem_append_right _ (List.mem_of_getElem? (i := 1049) (by decide +kernel))) (by decide +kernel)
theorem ok_118 : sm_okS "SnowMoneyModel" 105 ⟨"SnowMoneyModel", "isDigit", "(I)Z"⟩ prog_10_method_27_code 1 (some .boolean) 1 := ⟨⟨q_531, q_432, q_532, by decide +kernel⟩, q_533⟩
theorem q_534 : Cond.methodLink "SnowMoneyModel" 108 ⟨"SnowMoneyModel", "fails", "()I"⟩ ∈ sm_tbl := sm_in (List.mem_append_right _ (List.mem_of_getElem? (i := 1059) (by decide +kernel))) (by decide +kernel)
theorem q_535 : Cond.code ⟨"SnowMoneyModel", "fails", "()I"⟩ prog_10_method_28_code 1 (some .int) ∈ sm_tbl := sm_in (List.mem_append_right _ (List.mem_of_getElem? (i := 1062) (by decide +kernel))) (by decide +kernel)
theorem q_536 : Cond.selects "SnowMoneyModel" ⟨"SnowMoneyModel", "fails", "()I"⟩ ⟨"SnowMoneyModel", "fails", "()I"⟩ ∈ sm_tbl := sm_in (List.mem_append_left _ (List.mem_of_getElem? (i := 42) (by decide +kernel))) (by decide +kernel)
theorem q_537 : Cond.instanceMethod ⟨"SnowMoneyModel", "fails", "()I"⟩ ∈ sm_tbl := sm_in (List.mem_append_right _ (List.mem_of_getElem? (i := 1061) (by decide +kernel))) (by decide +kernel)
theorem ok_119 : sm_okV "SnowMoneyModel" 108 ⟨"SnowMoneyModel", "fails", "()I"⟩ prog_10_method_28_code 1 (some .int) 0 := ⟨⟨q_534, q_432, q_535, by decide +kernel⟩, q_537, q_536⟩
theorem q_538 : Cond.methodLink "SnowMoneyModel" 124 ⟨"SnowMoneyModel", "named", "(I)I"⟩ ∈ sm_tbl := sm_in (List.mem_append_right _ (List.mem_of_getElem? (i := 1055) (by decide +kernel))) (by decide +kernel)
theorem q_539 : Cond.code ⟨"SnowMoneyModel", "named", "(I)I"⟩ prog_10_method_30_code 5 (some .int) ∈ sm_tbl := sm_in (List.mem_append_right _ (List.mem_of_getElem? (i := 1058) (by decide +kernel))) (by decide +kernel)
theorem q_540 : Cond.selects "SnowMoneyModel" ⟨"SnowMoneyModel", "named", "(I)I"⟩ ⟨"SnowMoneyModel", "named", "(I)I"⟩ ∈ sm_tbl := sm_in (List.mem_append_left _ (List.mem_of_getElem? (i := 41) (by decide +kernel))) (by decide +kernel)
theorem q_541 : Cond.instanceMethod ⟨"SnowMoneyModel", "named", "(I)I"⟩ ∈ sm_tbl := sm_in (List.mem_append_right _ (List.mem_of_getElem? (i := 1057) (by decide +kernel))) (by decide +kernel)
theorem ok_120 : sm_okV "SnowMoneyModel" 124 ⟨"SnowMoneyModel", "named", "(I)I"⟩ prog_10_method_30_code 5 (some .int) 1 := ⟨⟨q_538, q_432, q_539, by decide +kernel⟩, q_541, q_540⟩
theorem q_542 : Cond.methodLink "SnowMoneyModel" 121 ⟨"SnowMoneyModel", "number", "()I"⟩ ∈ sm_tbl := sm_in (List.mem_append_right _ (List.mem_of_getElem? (i := 1051) (by decide +kernel))) (by decide +kernel)
theorem q_543 : Cond.code ⟨"SnowMoneyModel", "number", "()I"⟩ prog_10_method_29_code 3 (some .int) ∈ sm_tbl := sm_in (List.mem_append_right _ (List.mem_of_getElem? (i := 1054) (by decide +kernel))) (by decide +kernel)
theorem q_544 : Cond.selects "SnowMoneyModel" ⟨"SnowMoneyModel", "number", "()I"⟩ ⟨"SnowMoneyModel", "number", "()I"⟩ ∈ sm_tbl := sm_in (List.mem_append_left _ (List.mem_of_getElem? (i := 40) (by decide +kernel))) (by decide +kernel)
theorem q_545 : Cond.instanceMethod ⟨"SnowMoneyModel", "number", "()I"⟩ ∈ sm_tbl := sm_in (List.mem_append_right _ (List.mem_of_getElem? (i := 1053) (by decide +kernel))) (by decide +kernel)
theorem ok_121 : sm_okV "SnowMoneyModel" 121 ⟨"SnowMoneyModel", "number", "()I"⟩ prog_10_method_29_code 3 (some .int) 0 := ⟨⟨q_542, q_432, q_543, by decide +kernel⟩, q_545, q_544⟩
theorem q_546 : Cond.constant "SnowMoneyModel" 87 (-1000000005) ∈ sm_tbl := sm_in (List.mem_append_right _ (List.mem_of_getElem? (i := 1085) (by decide +kernel))) (by decide +kernel)
theorem q_547 : Cond.methodLink "SnowMoneyModel" 84 ⟨"SnowMoneyModel", "above", "(I)I"⟩ ∈ sm_tbl := sm_in (List.mem_append_right _ (List.mem_of_getElem? (i := 1082) (by decide +kernel))) (by decide +kernel)
theorem q_548 : Cond.code ⟨"SnowMoneyModel", "above", "(I)I"⟩ prog_10_method_23_code 1 (some .int) ∈ sm_tbl := sm_in (List.mem_append_right _ (List.mem_of_getElem? (i := 1084) (by decide +kernel))) (by decide +kernel)
theorem q_549 : Cond.static ⟨"SnowMoneyModel", "above", "(I)I"⟩ ∈ sm_tbl := sm_in (List.mem_append_right _ (List.mem_of_getElem? (i := 1083) (by decide +kernel))) (by decide +kernel)
theorem ok_122 : sm_okS "SnowMoneyModel" 84 ⟨"SnowMoneyModel", "above", "(I)I"⟩ prog_10_method_23_code 1 (some .int) 1 := ⟨⟨q_547, q_432, q_548, by decide +kernel⟩, q_549⟩
theorem q_550 : Cond.constantLong "SnowMoneyModel" 159 (255) ∈ sm_tbl := sm_in (List.mem_append_right _ (List.mem_of_getElem? (i := 1098) (by decide +kernel))) (by decide +kernel)
theorem q_551 : Cond.fieldLink "SnowMoneyModel" 19 (sm_T7 3).1 (sm_T7 3).2.1 (sm_T7 3).2.2.1 ∈ sm_tbl := sm_in (List.mem_append_right _ (List.mem_of_getElem? (i := 861) (by decide +kernel))) (by decide +kernel)
theorem q_552 : Cond.methodLink "SnowMoneyModel" 161 ⟨"SnowMoneyModel", "moveAll", "([I[I)V"⟩ ∈ sm_tbl := sm_in (List.mem_append_right _ (List.mem_of_getElem? (i := 1103) (by decide +kernel))) (by decide +kernel)
theorem q_553 : Cond.code ⟨"SnowMoneyModel", "moveAll", "([I[I)V"⟩ prog_10_method_5_code 4 none ∈ sm_tbl := sm_in (List.mem_append_right _ (List.mem_of_getElem? (i := 1106) (by decide +kernel))) (by decide +kernel)
theorem q_554 : Cond.selects "SnowMoneyModel" ⟨"SnowMoneyModel", "moveAll", "([I[I)V"⟩ ⟨"SnowMoneyModel", "moveAll", "([I[I)V"⟩ ∈ sm_tbl := sm_in (List.mem_append_left _ (List.mem_of_getElem? (i := 44) (by decide +kernel))) (by decide +kernel)
theorem q_555 : Cond.instanceMethod ⟨"SnowMoneyModel", "moveAll", "([I[I)V"⟩ ∈ sm_tbl := sm_in (List.mem_append_right _ (List.mem_of_getElem? (i := 1105) (by decide +kernel))) (by decide +kernel)
theorem ok_123 : sm_okV "SnowMoneyModel" 161 ⟨"SnowMoneyModel", "moveAll", "([I[I)V"⟩ prog_10_method_5_code 4 none 2 := ⟨⟨q_552, q_432, q_553, by decide +kernel⟩, q_555, q_554⟩
theorem q_556 : Cond.methodLink "SnowMoneyModel" 179 ⟨"SnowMoneyModel", "passes", "(I)V"⟩ ∈ sm_tbl := sm_in (List.mem_append_right _ (List.mem_of_getElem? (i := 1112) (by decide +kernel))) (by decide +kernel)
theorem q_557 : Cond.code ⟨"SnowMoneyModel", "passes", "(I)V"⟩ prog_10_method_47_code 3 none ∈ sm_tbl := sm_in (List.mem_append_right _ (List.mem_of_getElem? (i := 1115) (by decide +kernel))) (by decide +kernel)
theorem q_558 : Cond.selects "SnowMoneyModel" ⟨"SnowMoneyModel", "passes", "(I)V"⟩ ⟨"SnowMoneyModel", "passes", "(I)V"⟩ ∈ sm_tbl := sm_in (List.mem_append_left _ (List.mem_of_getElem? (i := 45) (by decide +kernel))) (by decide +kernel)
theorem q_559 : Cond.instanceMethod ⟨"SnowMoneyModel", "passes", "(I)V"⟩ ∈ sm_tbl := sm_in (List.mem_append_right _ (List.mem_of_getElem? (i := 1114) (by decide +kernel))) (by decide +kernel)
theorem ok_124 : sm_okV "SnowMoneyModel" 179 ⟨"SnowMoneyModel", "passes", "(I)V"⟩ prog_10_method_47_code 3 none 1 := ⟨⟨q_556, q_432, q_557, by decide +kernel⟩, q_559, q_558⟩
theorem q_560 : Cond.methodLink "SnowMoneyModel" 183 ⟨"SnowMoneyModel", "snowOfAll", "()I"⟩ ∈ sm_tbl := sm_in (List.mem_append_right _ (List.mem_of_getElem? (i := 1124) (by decide +kernel))) (by decide +kernel)
theorem q_561 : Cond.code ⟨"SnowMoneyModel", "snowOfAll", "()I"⟩ prog_10_method_48_code 3 (some .int) ∈ sm_tbl := sm_in (List.mem_append_right _ (List.mem_of_getElem? (i := 1127) (by decide +kernel))) (by decide +kernel)
theorem q_562 : Cond.selects "SnowMoneyModel" ⟨"SnowMoneyModel", "snowOfAll", "()I"⟩ ⟨"SnowMoneyModel", "snowOfAll", "()I"⟩ ∈ sm_tbl := sm_in (List.mem_append_left _ (List.mem_of_getElem? (i := 48) (by decide +kernel))) (by decide +kernel)
theorem q_563 : Cond.instanceMethod ⟨"SnowMoneyModel", "snowOfAll", "()I"⟩ ∈ sm_tbl := sm_in (List.mem_append_right _ (List.mem_of_getElem? (i := 1126) (by decide +kernel))) (by decide +kernel)
theorem ok_125 : sm_okV "SnowMoneyModel" 183 ⟨"SnowMoneyModel", "snowOfAll", "()I"⟩ prog_10_method_48_code 3 (some .int) 0 := ⟨⟨q_560, q_432, q_561, by decide +kernel⟩, q_563, q_562⟩
theorem q_564 : Cond.constant "SnowMoneyModel" 178 (-1000000003) ∈ sm_tbl := sm_in (List.mem_append_right _ (List.mem_of_getElem? (i := 1111) (by decide +kernel))) (by decide +kernel)
theorem q_565 : Cond.methodLink "SnowMoneyModel" 175 ⟨"SnowMoneyModel", "oneHour", "()V"⟩ ∈ sm_tbl := sm_in (List.mem_append_right _ (List.mem_of_getElem? (i := 1116) (by decide +kernel))) (by decide +kernel)
theorem q_566 : Cond.code ⟨"SnowMoneyModel", "oneHour", "()V"⟩ prog_10_method_46_code 2 none ∈ sm_tbl := sm_in (List.mem_append_right _ (List.mem_of_getElem? (i := 1119) (by decide +kernel))) (by decide +kernel)
theorem q_567 : Cond.selects "SnowMoneyModel" ⟨"SnowMoneyModel", "oneHour", "()V"⟩ ⟨"SnowMoneyModel", "oneHour", "()V"⟩ ∈ sm_tbl := sm_in (List.mem_append_left _ (List.mem_of_getElem? (i := 46) (by decide +kernel))) (by decide +kernel)
theorem q_568 : Cond.instanceMethod ⟨"SnowMoneyModel", "oneHour", "()V"⟩ ∈ sm_tbl := sm_in (List.mem_append_right _ (List.mem_of_getElem? (i := 1118) (by decide +kernel))) (by decide +kernel)
theorem ok_126 : sm_okV "SnowMoneyModel" 175 ⟨"SnowMoneyModel", "oneHour", "()V"⟩ prog_10_method_46_code 2 none 0 := ⟨⟨q_565, q_432, q_566, by decide +kernel⟩, q_568, q_567⟩
theorem q_569 : Cond.methodLink "SnowMoneyModel" 171 ⟨"SnowMoneyModel", "loses", "(II)V"⟩ ∈ sm_tbl := sm_in (List.mem_append_right _ (List.mem_of_getElem? (i := 1120) (by decide +kernel))) (by decide +kernel)
theorem q_570 : Cond.code ⟨"SnowMoneyModel", "loses", "(II)V"⟩ prog_10_method_45_code 3 none ∈ sm_tbl := sm_in (List.mem_append_right _ (List.mem_of_getElem? (i := 1123) (by decide +kernel))) (by decide +kernel)
theorem q_571 : Cond.selects "SnowMoneyModel" ⟨"SnowMoneyModel", "loses", "(II)V"⟩ ⟨"SnowMoneyModel", "loses", "(II)V"⟩ ∈ sm_tbl := sm_in (List.mem_append_left _ (List.mem_of_getElem? (i := 47) (by decide +kernel))) (by decide +kernel)
theorem q_572 : Cond.instanceMethod ⟨"SnowMoneyModel", "loses", "(II)V"⟩ ∈ sm_tbl := sm_in (List.mem_append_right _ (List.mem_of_getElem? (i := 1122) (by decide +kernel))) (by decide +kernel)
theorem ok_127 : sm_okV "SnowMoneyModel" 171 ⟨"SnowMoneyModel", "loses", "(II)V"⟩ prog_10_method_45_code 3 none 2 := ⟨⟨q_569, q_432, q_570, by decide +kernel⟩, q_572, q_571⟩
theorem q_573 : Cond.methodLink "SnowMoneyModel" 187 ⟨"SnowMoneyModel", "drawn", "(I)I"⟩ ∈ sm_tbl := sm_in (List.mem_append_right _ (List.mem_of_getElem? (i := 1132) (by decide +kernel))) (by decide +kernel)
theorem q_574 : Cond.code ⟨"SnowMoneyModel", "drawn", "(I)I"⟩ prog_10_method_50_code 2 (some .int) ∈ sm_tbl := sm_in (List.mem_append_right _ (List.mem_of_getElem? (i := 1135) (by decide +kernel))) (by decide +kernel)
theorem q_575 : Cond.selects "SnowMoneyModel" ⟨"SnowMoneyModel", "drawn", "(I)I"⟩ ⟨"SnowMoneyModel", "drawn", "(I)I"⟩ ∈ sm_tbl := sm_in (List.mem_append_left _ (List.mem_of_getElem? (i := 49) (by decide +kernel))) (by decide +kernel)
theorem q_576 : Cond.instanceMethod ⟨"SnowMoneyModel", "drawn", "(I)I"⟩ ∈ sm_tbl := sm_in (List.mem_append_right _ (List.mem_of_getElem? (i := 1134) (by decide +kernel))) (by decide +kernel)
theorem ok_128 : sm_okV "SnowMoneyModel" 187 ⟨"SnowMoneyModel", "drawn", "(I)I"⟩ prog_10_method_50_code 2 (some .int) 1 := ⟨⟨q_573, q_432, q_574, by decide +kernel⟩, q_576, q_575⟩
theorem q_577 : Cond.constant "SnowMoneyModel" 186 (1103515245) ∈ sm_tbl := sm_in (List.mem_append_right _ (List.mem_of_getElem? (i := 1136) (by decide +kernel))) (by decide +kernel)
theorem q_578 : Cond.methodLink "SnowMoneyModel" 190 ⟨"SnowMoneyModel", "roadOf", "(II)I"⟩ ∈ sm_tbl := sm_in (List.mem_append_right _ (List.mem_of_getElem? (i := 1141) (by decide +kernel))) (by decide +kernel)
theorem q_579 : Cond.code ⟨"SnowMoneyModel", "roadOf", "(II)I"⟩ prog_10_method_12_code 3 (some .int) ∈ sm_tbl := sm_in (List.mem_append_right _ (List.mem_of_getElem? (i := 1144) (by decide +kernel))) (by decide +kernel)
theorem q_580 : Cond.selects "SnowMoneyModel" ⟨"SnowMoneyModel", "roadOf", "(II)I"⟩ ⟨"SnowMoneyModel", "roadOf", "(II)I"⟩ ∈ sm_tbl := sm_in (List.mem_append_left _ (List.mem_of_getElem? (i := 50) (by decide +kernel))) (by decide +kernel)
theorem q_581 : Cond.instanceMethod ⟨"SnowMoneyModel", "roadOf", "(II)I"⟩ ∈ sm_tbl := sm_in (List.mem_append_right _ (List.mem_of_getElem? (i := 1143) (by decide +kernel))) (by decide +kernel)
theorem ok_129 : sm_okV "SnowMoneyModel" 190 ⟨"SnowMoneyModel", "roadOf", "(II)I"⟩ prog_10_method_12_code 3 (some .int) 2 := ⟨⟨q_578, q_432, q_579, by decide +kernel⟩, q_581, q_580⟩
theorem q_582 : Cond.fieldLink "SnowMoneyModel" 16 (sm_T7 2).1 (sm_T7 2).2.1 (sm_T7 2).2.2.1 ∈ sm_tbl := sm_in (List.mem_append_right _ (List.mem_of_getElem? (i := 860) (by decide +kernel))) (by decide +kernel)
theorem q_583 : Cond.methodLink "SnowMoneyModel" 193 ⟨"SnowMoneyModel", "goneSince", "()I"⟩ ∈ sm_tbl := sm_in (List.mem_append_right _ (List.mem_of_getElem? (i := 1153) (by decide +kernel))) (by decide +kernel)
theorem q_584 : Cond.code ⟨"SnowMoneyModel", "goneSince", "()I"⟩ prog_10_method_54_code 2 (some .int) ∈ sm_tbl := sm_in (List.mem_append_right _ (List.mem_of_getElem? (i := 1156) (by decide +kernel))) (by decide +kernel)
theorem q_585 : Cond.selects "SnowMoneyModel" ⟨"SnowMoneyModel", "goneSince", "()I"⟩ ⟨"SnowMoneyModel", "goneSince", "()I"⟩ ∈ sm_tbl := sm_in (List.mem_append_left _ (List.mem_of_getElem? (i := 51) (by decide +kernel))) (by decide +kernel)
theorem q_586 : Cond.instanceMethod ⟨"SnowMoneyModel", "goneSince", "()I"⟩ ∈ sm_tbl := sm_in (List.mem_append_right _ (List.mem_of_getElem? (i := 1155) (by decide +kernel))) (by decide +kernel)
theorem ok_130 : sm_okV "SnowMoneyModel" 193 ⟨"SnowMoneyModel", "goneSince", "()I"⟩ prog_10_method_54_code 2 (some .int) 0 := ⟨⟨q_583, q_432, q_584, by decide +kernel⟩, q_586, q_585⟩
theorem q_587 : Cond.constant "SnowMoneyModel" 196 (-1000000002) ∈ sm_tbl := sm_in (List.mem_append_right _ (List.mem_of_getElem? (i := 1157) (by decide +kernel))) (by decide +kernel)
theorem q_588 : Cond.methodLink "SnowMoneyModel" 197 ⟨"SnowMoneyModel", "worthOf", "(I)I"⟩ ∈ sm_tbl := sm_in (List.mem_append_right _ (List.mem_of_getElem? (i := 1162) (by decide +kernel))) (by decide +kernel)
theorem q_589 : Cond.code ⟨"SnowMoneyModel", "worthOf", "(I)I"⟩ prog_10_method_56_code 4 (some .int) ∈ sm_tbl := sm_in (List.mem_append_right _ (List.mem_of_getElem? (i := 1165) (by decide +kernel))) (by decide +kernel)
theorem q_590 : Cond.selects "SnowMoneyModel" ⟨"SnowMoneyModel", "worthOf", "(I)I"⟩ ⟨"SnowMoneyModel", "worthOf", "(I)I"⟩ ∈ sm_tbl := sm_in (List.mem_append_left _ (List.mem_of_getElem? (i := 52) (by decide +kernel))) (by decide +kernel)
theorem q_591 : Cond.instanceMethod ⟨"SnowMoneyModel", "worthOf", "(I)I"⟩ ∈ sm_tbl := sm_in (List.mem_append_right _ (List.mem_of_getElem? (i := 1164) (by decide +kernel))) (by decide +kernel)
theorem ok_131 : sm_okV "SnowMoneyModel" 197 ⟨"SnowMoneyModel", "worthOf", "(I)I"⟩ prog_10_method_56_code 4 (some .int) 1 := ⟨⟨q_588, q_432, q_589, by decide +kernel⟩, q_591, q_590⟩
theorem q_592 : Cond.methodLink "SnowMoneyModel" 200 ⟨"SnowMoneyModel", "bits", "(I)I"⟩ ∈ sm_tbl := sm_in (List.mem_append_right _ (List.mem_of_getElem? (i := 1174) (by decide +kernel))) (by decide +kernel)
theorem q_593 : Cond.code ⟨"SnowMoneyModel", "bits", "(I)I"⟩ prog_10_method_6_code 3 (some .int) ∈ sm_tbl := sm_in (List.mem_append_right _ (List.mem_of_getElem? (i := 1176) (by decide +kernel))) (by decide +kernel)
theorem q_594 : Cond.static ⟨"SnowMoneyModel", "bits", "(I)I"⟩ ∈ sm_tbl := sm_in (List.mem_append_right _ (List.mem_of_getElem? (i := 1175) (by decide +kernel))) (by decide +kernel)
theorem ok_132 : sm_okS "SnowMoneyModel" 200 ⟨"SnowMoneyModel", "bits", "(I)I"⟩ prog_10_method_6_code 3 (some .int) 1 := ⟨⟨q_592, q_432, q_593, by decide +kernel⟩, q_594⟩
theorem q_595 : Cond.methodLink "SnowMoneyModel" 212 ⟨"SnowMoneyModel", "findWay", "(II)V"⟩ ∈ sm_tbl := sm_in (List.mem_append_right _ (List.mem_of_getElem? (i := 1185) (by decide +kernel))) (by decide +kernel)
theorem q_596 : Cond.code ⟨"SnowMoneyModel", "findWay", "(II)V"⟩ prog_10_method_61_code 7 none ∈ sm_tbl := sm_in (List.mem_append_right _ (List.mem_of_getElem? (i := 1188) (by decide +kernel))) (by decide +kernel)
theorem q_597 : Cond.selects "SnowMoneyModel" ⟨"SnowMoneyModel", "findWay", "(II)V"⟩ ⟨"SnowMoneyModel", "findWay", "(II)V"⟩ ∈ sm_tbl := sm_in (List.mem_append_left _ (List.mem_of_getElem? (i := 53) (by decide +kernel))) (by decide +kernel)
theorem q_598 : Cond.instanceMethod ⟨"SnowMoneyModel", "findWay", "(II)V"⟩ ∈ sm_tbl := sm_in (List.mem_append_right _ (List.mem_of_getElem? (i := 1187) (by decide +kernel))) (by decide +kernel)
theorem ok_133 : sm_okV "SnowMoneyModel" 212 ⟨"SnowMoneyModel", "findWay", "(II)V"⟩ prog_10_method_61_code 7 none 2 := ⟨⟨q_595, q_432, q_596, by decide +kernel⟩, q_598, q_597⟩
theorem q_599 : Cond.fieldLink "SnowMoneyModel" 203 (sm_T7 17).1 (sm_T7 17).2.1 (sm_T7 17).2.2.1 ∈ sm_tbl := sm_in (List.mem_append_right _ (List.mem_of_getElem? (i := 875) (by decide +kernel))) (by decide +kernel)
theorem q_600 : Cond.fieldLink "SnowMoneyModel" 206 (sm_T7 18).1 (sm_T7 18).2.1 (sm_T7 18).2.2.1 ∈ sm_tbl := sm_in (List.mem_append_right _ (List.mem_of_getElem? (i := 876) (by decide +kernel))) (by decide +kernel)
theorem q_601 : Cond.fieldLink "SnowMoneyModel" 25 (sm_T7 16).1 (sm_T7 16).2.1 (sm_T7 16).2.2.1 ∈ sm_tbl := sm_in (List.mem_append_right _ (List.mem_of_getElem? (i := 874) (by decide +kernel))) (by decide +kernel)
theorem q_602 : Cond.methodLink "SnowMoneyModel" 209 ⟨"SnowMoneyModel", "measures", "(III)V"⟩ ∈ sm_tbl := sm_in (List.mem_append_right _ (List.mem_of_getElem? (i := 1189) (by decide +kernel))) (by decide +kernel)
theorem q_603 : Cond.code ⟨"SnowMoneyModel", "measures", "(III)V"⟩ prog_10_method_62_code 7 none ∈ sm_tbl := sm_in (List.mem_append_right _ (List.mem_of_getElem? (i := 1192) (by decide +kernel))) (by decide +kernel)
theorem q_604 : Cond.selects "SnowMoneyModel" ⟨"SnowMoneyModel", "measures", "(III)V"⟩ ⟨"SnowMoneyModel", "measures", "(III)V"⟩ ∈ sm_tbl := sm_in (List.mem_append_left _ (List.mem_of_getElem? (i := 54) (by decide +kernel))) (by decide +kernel)
theorem q_605 : Cond.instanceMethod ⟨"SnowMoneyModel", "measures", "(III)V"⟩ ∈ sm_tbl := sm_in (List.mem_append_right _ (List.mem_of_getElem? (i := 1191) (by decide +kernel))) (by decide +kernel)
theorem ok_134 : sm_okV "SnowMoneyModel" 209 ⟨"SnowMoneyModel", "measures", "(III)V"⟩ prog_10_method_62_code 7 none 3 := ⟨⟨q_602, q_432, q_603, by decide +kernel⟩, q_605, q_604⟩
theorem q_606 : Cond.methodLink "SnowMoneyModel" 215 ⟨"SnowMoneyModel", "isSheet", "(I)Z"⟩ ∈ sm_tbl := sm_in (List.mem_append_right _ (List.mem_of_getElem? (i := 1197) (by decide +kernel))) (by decide +kernel)
theorem q_607 : Cond.code ⟨"SnowMoneyModel", "isSheet", "(I)Z"⟩ prog_10_method_64_code 1 (some .boolean) ∈ sm_tbl := sm_in (List.mem_append_right _ (List.mem_of_getElem? (i := 1199) (by decide +kernel))) (by decide +kernel)
theorem q_608 : Cond.static ⟨"SnowMoneyModel", "isSheet", "(I)Z"⟩ ∈ sm_tbl := sm_in (List.mem_append_right _ (List.mem_of_getElem? (i := 1198) (by decide +kernel))) (by decide +kernel)
theorem ok_135 : sm_okS "SnowMoneyModel" 215 ⟨"SnowMoneyModel", "isSheet", "(I)Z"⟩ prog_10_method_64_code 1 (some .boolean) 1 := ⟨⟨q_606, q_432, q_607, by decide +kernel⟩, q_608⟩
theorem q_609 : Cond.fieldLink "SnowMoneyModel" 28 (sm_T7 19).1 (sm_T7 19).2.1 (sm_T7 19).2.2.1 ∈ sm_tbl := sm_in (List.mem_append_right _ (List.mem_of_getElem? (i := 877) (by decide +kernel))) (by decide +kernel)
theorem q_610 : Cond.fieldLink "SnowMoneyModel" 31 (sm_T7 20).1 (sm_T7 20).2.1 (sm_T7 20).2.2.1 ∈ sm_tbl := sm_in (List.mem_append_right _ (List.mem_of_getElem? (i := 878) (by decide +kernel))) (by decide +kernel)
theorem q_611 : Cond.fieldLink "SnowMoneyModel" 34 (sm_T7 21).1 (sm_T7 21).2.1 (sm_T7 21).2.2.1 ∈ sm_tbl := sm_in (List.mem_append_right _ (List.mem_of_getElem? (i := 879) (by decide +kernel))) (by decide +kernel)
theorem q_612 : Cond.methodLink "SnowMoneyModel" 218 ⟨"SnowMoneyModel", "hasThen", "(IIII)Z"⟩ ∈ sm_tbl := sm_in (List.mem_append_right _ (List.mem_of_getElem? (i := 1200) (by decide +kernel))) (by decide +kernel)
theorem q_613 : Cond.code ⟨"SnowMoneyModel", "hasThen", "(IIII)Z"⟩ prog_10_method_65_code 6 (some .boolean) ∈ sm_tbl := sm_in (List.mem_append_right _ (List.mem_of_getElem? (i := 1203) (by decide +kernel))) (by decide +kernel)
theorem q_614 : Cond.selects "SnowMoneyModel" ⟨"SnowMoneyModel", "hasThen", "(IIII)Z"⟩ ⟨"SnowMoneyModel", "hasThen", "(IIII)Z"⟩ ∈ sm_tbl := sm_in (List.mem_append_left _ (List.mem_of_getElem? (i := 55) (by decide +kernel))) (by decide +kernel)
theorem q_615 : Cond.instanceMethod ⟨"SnowMoneyModel", "hasThen", "(IIII)Z"⟩ ∈ sm_tbl := sm_in (List.mem_append_right _ (List.mem_of_getElem? (i := 1202) (by decide +kernel))) (by decide +kernel)
theorem ok_136 : sm_okV "SnowMoneyModel" 218 ⟨"SnowMoneyModel", "hasThen", "(IIII)Z"⟩ prog_10_method_65_code 6 (some .boolean) 4 := ⟨⟨q_612, q_432, q_613, by decide +kernel⟩, q_615, q_614⟩
theorem q_616 : Cond.methodLink "SnowMoneyModel" 222 ⟨"SnowMoneyModel", "divisor", "(II)I"⟩ ∈ sm_tbl := sm_in (List.mem_append_right _ (List.mem_of_getElem? (i := 1216) (by decide +kernel))) (by decide +kernel)
theorem q_617 : Cond.code ⟨"SnowMoneyModel", "divisor", "(II)I"⟩ prog_10_method_69_code 5 (some .int) ∈ sm_tbl := sm_in (List.mem_append_right _ (List.mem_of_getElem? (i := 1218) (by decide +kernel))) (by decide +kernel)
theorem q_618 : Cond.static ⟨"SnowMoneyModel", "divisor", "(II)I"⟩ ∈ sm_tbl := sm_in (List.mem_append_right _ (List.mem_of_getElem? (i := 1217) (by decide +kernel))) (by decide +kernel)
theorem ok_137 : sm_okS "SnowMoneyModel" 222 ⟨"SnowMoneyModel", "divisor", "(II)I"⟩ prog_10_method_69_code 5 (some .int) 2 := ⟨⟨q_616, q_432, q_617, by decide +kernel⟩, q_618⟩
theorem q_619 : Cond.fieldLink "SnowMoneyModel" 225 (sm_T7 24).1 (sm_T7 24).2.1 (sm_T7 24).2.2.1 ∈ sm_tbl := sm_in (List.mem_append_right _ (List.mem_of_getElem? (i := 882) (by decide +kernel))) (by decide +kernel)
theorem q_620 : Cond.fieldLink "SnowMoneyModel" 243 (sm_T7 25).1 (sm_T7 25).2.1 (sm_T7 25).2.2.1 ∈ sm_tbl := sm_in (List.mem_append_right _ (List.mem_of_getElem? (i := 883) (by decide +kernel))) (by decide +kernel)
theorem q_621 : Cond.fieldLink "SnowMoneyModel" 231 (sm_T7 26).1 (sm_T7 26).2.1 (sm_T7 26).2.2.1 ∈ sm_tbl := sm_in (List.mem_append_right _ (List.mem_of_getElem? (i := 884) (by decide +kernel))) (by decide +kernel)
theorem q_622 : Cond.fieldLink "SnowMoneyModel" 237 (sm_T7 27).1 (sm_T7 27).2.1 (sm_T7 27).2.2.1 ∈ sm_tbl := sm_in (List.mem_append_right _ (List.mem_of_getElem? (i := 885) (by decide +kernel))) (by decide +kernel)
theorem q_623 : Cond.methodLink "SnowMoneyModel" 234 ⟨"SnowMoneyModel", "fallsIn", "(II)I"⟩ ∈ sm_tbl := sm_in (List.mem_append_right _ (List.mem_of_getElem? (i := 1227) (by decide +kernel))) (by decide +kernel)
theorem q_624 : Cond.code ⟨"SnowMoneyModel", "fallsIn", "(II)I"⟩ prog_10_method_73_code 3 (some .int) ∈ sm_tbl := sm_in (List.mem_append_right _ (List.mem_of_getElem? (i := 1230) (by decide +kernel))) (by decide +kernel)
theorem q_625 : Cond.selects "SnowMoneyModel" ⟨"SnowMoneyModel", "fallsIn", "(II)I"⟩ ⟨"SnowMoneyModel", "fallsIn", "(II)I"⟩ ∈ sm_tbl := sm_in (List.mem_append_left _ (List.mem_of_getElem? (i := 56) (by decide +kernel))) (by decide +kernel)
theorem q_626 : Cond.instanceMethod ⟨"SnowMoneyModel", "fallsIn", "(II)I"⟩ ∈ sm_tbl := sm_in (List.mem_append_right _ (List.mem_of_getElem? (i := 1229) (by decide +kernel))) (by decide +kernel)
theorem ok_138 : sm_okV "SnowMoneyModel" 234 ⟨"SnowMoneyModel", "fallsIn", "(II)I"⟩ prog_10_method_73_code 3 (some .int) 2 := ⟨⟨q_623, q_432, q_624, by decide +kernel⟩, q_626, q_625⟩
theorem q_627 : Cond.methodLink "SnowMoneyModel" 246 ⟨"SnowMoneyModel", "meltsIn", "(II)I"⟩ ∈ sm_tbl := sm_in (List.mem_append_right _ (List.mem_of_getElem? (i := 1235) (by decide +kernel))) (by decide +kernel)
theorem q_628 : Cond.code ⟨"SnowMoneyModel", "meltsIn", "(II)I"⟩ prog_10_method_75_code 4 (some .int) ∈ sm_tbl := sm_in (List.mem_append_right _ (List.mem_of_getElem? (i := 1238) (by decide +kernel))) (by decide +kernel)
theorem q_629 : Cond.selects "SnowMoneyModel" ⟨"SnowMoneyModel", "meltsIn", "(II)I"⟩ ⟨"SnowMoneyModel", "meltsIn", "(II)I"⟩ ∈ sm_tbl := sm_in (List.mem_append_left _ (List.mem_of_getElem? (i := 58) (by decide +kernel))) (by decide +kernel)
theorem q_630 : Cond.instanceMethod ⟨"SnowMoneyModel", "meltsIn", "(II)I"⟩ ∈ sm_tbl := sm_in (List.mem_append_right _ (List.mem_of_getElem? (i := 1237) (by decide +kernel))) (by decide +kernel)
theorem ok_139 : sm_okV "SnowMoneyModel" 246 ⟨"SnowMoneyModel", "meltsIn", "(II)I"⟩ prog_10_method_75_code 4 (some .int) 2 := ⟨⟨q_627, q_432, q_628, by decide +kernel⟩, q_630, q_629⟩
theorem q_631 : Cond.methodLink "SnowMoneyModel" 240 ⟨"SnowMoneyModel", "paysIn", "(II)I"⟩ ∈ sm_tbl := sm_in (List.mem_append_right _ (List.mem_of_getElem? (i := 1239) (by decide +kernel))) (by decide +kernel)
theorem q_632 : Cond.code ⟨"SnowMoneyModel", "paysIn", "(II)I"⟩ prog_10_method_74_code 3 (some .int) ∈ sm_tbl := sm_in (List.mem_append_right _ (List.mem_of_getElem? (i := 1242) (by decide +kernel))) (by decide +kernel)
theorem q_633 : Cond.selects "SnowMoneyModel" ⟨"SnowMoneyModel", "paysIn", "(II)I"⟩ ⟨"SnowMoneyModel", "paysIn", "(II)I"⟩ ∈ sm_tbl := sm_in (List.mem_append_left _ (List.mem_of_getElem? (i := 59) (by decide +kernel))) (by decide +kernel)
theorem q_634 : Cond.instanceMethod ⟨"SnowMoneyModel", "paysIn", "(II)I"⟩ ∈ sm_tbl := sm_in (List.mem_append_right _ (List.mem_of_getElem? (i := 1241) (by decide +kernel))) (by decide +kernel)
theorem ok_140 : sm_okV "SnowMoneyModel" 240 ⟨"SnowMoneyModel", "paysIn", "(II)I"⟩ prog_10_method_74_code 3 (some .int) 2 := ⟨⟨q_631, q_432, q_632, by decide +kernel⟩, q_634, q_633⟩
theorem q_635 : Cond.methodLink "SnowMoneyModel" 249 ⟨"SnowMoneyModel", "ringsIn", "(II)I"⟩ ∈ sm_tbl := sm_in (List.mem_append_right _ (List.mem_of_getElem? (i := 1243) (by decide +kernel))) (by decide +kernel)
theorem q_636 : Cond.code ⟨"SnowMoneyModel", "ringsIn", "(II)I"⟩ prog_10_method_76_code 4 (some .int) ∈ sm_tbl := sm_in (List.mem_append_right _ (List.mem_of_getElem? (i := 1246) (by decide +kernel))) (by decide +kernel)
theorem q_637 : Cond.selects "SnowMoneyModel" ⟨"SnowMoneyModel", "ringsIn", "(II)I"⟩ ⟨"SnowMoneyModel", "ringsIn", "(II)I"⟩ ∈ sm_tbl := sm_in (List.mem_append_left _ (List.mem_of_getElem? (i := 60) (by decide +kernel))) (by decide +kernel)
theorem q_638 : Cond.instanceMethod ⟨"SnowMoneyModel", "ringsIn", "(II)I"⟩ ∈ sm_tbl := sm_in (List.mem_append_right _ (List.mem_of_getElem? (i := 1245) (by decide +kernel))) (by decide +kernel)
theorem ok_141 : sm_okV "SnowMoneyModel" 249 ⟨"SnowMoneyModel", "ringsIn", "(II)I"⟩ prog_10_method_76_code 4 (some .int) 2 := ⟨⟨q_635, q_432, q_636, by decide +kernel⟩, q_638, q_637⟩
theorem q_639 : Cond.methodLink "SnowMoneyModel" 228 ⟨"SnowMoneyModel", "ran", "(I)V"⟩ ∈ sm_tbl := sm_in (List.mem_append_right _ (List.mem_of_getElem? (i := 1231) (by decide +kernel))) (by decide +kernel)
theorem q_640 : Cond.code ⟨"SnowMoneyModel", "ran", "(I)V"⟩ prog_10_method_72_code 2 none ∈ sm_tbl := sm_in (List.mem_append_right _ (List.mem_of_getElem? (i := 1234) (by decide +kernel))) (by decide +kernel)
theorem q_641 : Cond.selects "SnowMoneyModel" ⟨"SnowMoneyModel", "ran", "(I)V"⟩ ⟨"SnowMoneyModel", "ran", "(I)V"⟩ ∈ sm_tbl := sm_in (List.mem_append_left _ (List.mem_of_getElem? (i := 57) (by decide +kernel))) (by decide +kernel)
theorem q_642 : Cond.instanceMethod ⟨"SnowMoneyModel", "ran", "(I)V"⟩ ∈ sm_tbl := sm_in (List.mem_append_right _ (List.mem_of_getElem? (i := 1233) (by decide +kernel))) (by decide +kernel)
theorem ok_142 : sm_okV "SnowMoneyModel" 228 ⟨"SnowMoneyModel", "ran", "(I)V"⟩ prog_10_method_72_code 2 none 1 := ⟨⟨q_639, q_432, q_640, by decide +kernel⟩, q_642, q_641⟩
theorem q_643 : Cond.fieldLink "SnowMoneyModel" 40 (sm_T7 23).1 (sm_T7 23).2.1 (sm_T7 23).2.2.1 ∈ sm_tbl := sm_in (List.mem_append_right _ (List.mem_of_getElem? (i := 881) (by decide +kernel))) (by decide +kernel)
theorem q_644 : Cond.methodLink "SnowMoneyModel" 252 ⟨"SnowMoneyModel", "narrow", "(II)I"⟩ ∈ sm_tbl := sm_in (List.mem_append_right _ (List.mem_of_getElem? (i := 1259) (by decide +kernel))) (by decide +kernel)
theorem q_645 : Cond.code ⟨"SnowMoneyModel", "narrow", "(II)I"⟩ prog_10_method_79_code 2 (some .int) ∈ sm_tbl := sm_in (List.mem_append_right _ (List.mem_of_getElem? (i := 1261) (by decide +kernel))) (by decide +kernel)
theorem q_646 : Cond.static ⟨"SnowMoneyModel", "narrow", "(II)I"⟩ ∈ sm_tbl := sm_in (List.mem_append_right _ (List.mem_of_getElem? (i := 1260) (by decide +kernel))) (by decide +kernel)
theorem ok_143 : sm_okS "SnowMoneyModel" 252 ⟨"SnowMoneyModel", "narrow", "(II)I"⟩ prog_10_method_79_code 2 (some .int) 2 := ⟨⟨q_644, q_432, q_645, by decide +kernel⟩, q_646⟩
theorem q_647 : Cond.fieldLink "SnowMoneyModel" 37 (sm_T7 22).1 (sm_T7 22).2.1 (sm_T7 22).2.2.1 ∈ sm_tbl := sm_in (List.mem_append_right _ (List.mem_of_getElem? (i := 880) (by decide +kernel))) (by decide +kernel)
theorem q_648 : Cond.fieldLink "SnowMoneyModel" 13 (sm_T7 1).1 (sm_T7 1).2.1 (sm_T7 1).2.2.1 ∈ sm_tbl := sm_in (List.mem_append_right _ (List.mem_of_getElem? (i := 859) (by decide +kernel))) (by decide +kernel)
theorem q_649 : Cond.fieldLink "SnowMoneyModel" 255 (sm_T7 4).1 (sm_T7 4).2.1 (sm_T7 4).2.2.1 ∈ sm_tbl := sm_in (List.mem_append_right _ (List.mem_of_getElem? (i := 862) (by decide +kernel))) (by decide +kernel)
theorem q_650 : Cond.fieldLink "SnowMoneyModel" 258 (sm_T7 5).1 (sm_T7 5).2.1 (sm_T7 5).2.2.1 ∈ sm_tbl := sm_in (List.mem_append_right _ (List.mem_of_getElem? (i := 863) (by decide +kernel))) (by decide +kernel)
theorem q_651 : Cond.methodLink "SnowMoneyModel" 261 ⟨"SnowMoneyModel", "gone", "()I"⟩ ∈ sm_tbl := sm_in (List.mem_append_right _ (List.mem_of_getElem? (i := 1294) (by decide +kernel))) (by decide +kernel)
theorem q_652 : Cond.code ⟨"SnowMoneyModel", "gone", "()I"⟩ prog_10_method_89_code 3 (some .int) ∈ sm_tbl := sm_in (List.mem_append_right _ (List.mem_of_getElem? (i := 1297) (by decide +kernel))) (by decide +kernel)
theorem q_653 : Cond.selects "SnowMoneyModel" ⟨"SnowMoneyModel", "gone", "()I"⟩ ⟨"SnowMoneyModel", "gone", "()I"⟩ ∈ sm_tbl := sm_in (List.mem_append_left _ (List.mem_of_getElem? (i := 61) (by decide +kernel))) (by decide +kernel)
theorem q_654 : Cond.instanceMethod ⟨"SnowMoneyModel", "gone", "()I"⟩ ∈ sm_tbl := sm_in (List.mem_append_right _ (List.mem_of_getElem? (i := 1296) (by decide +kernel))) (by decide +kernel)
theorem ok_144 : sm_okV "SnowMoneyModel" 261 ⟨"SnowMoneyModel", "gone", "()I"⟩ prog_10_method_89_code 3 (some .int) 0 := ⟨⟨q_651, q_432, q_652, by decide +kernel⟩, q_654, q_653⟩
theorem sm_name {p : Program} {l : Launch} {e : Env} {R : Room} {s : State} {m : MethodId} {args : Array Value} {below : List Frame} {meth : Method} {c : Code} {A : Nat → Prop} {Q : State → Prop} {G : sm_G} {nL kc ks pc : Nat} {stk : List sm_V} {lo : List (Nat × sm_V)} {μ : sm_Mem} {x : Int32} (h : ∀ z : Int32, z = x → sm_W p l e R s m args below meth c A Q G nL kc ks pc (sm_I z :: stk) lo μ) : sm_W p l e R s m args below meth c A Q G nL kc ks pc (sm_I x :: stk) lo μ := h x rfl
theorem sm_narZ {v : Int32} (h : v = 0 ∨ v = 1) : narrow .boolean (.int v) = .int v := by rcases h with rfl | rfl <;> rfl
theorem sm_row4 {i : Int32} (h : vp_in i 4) : ∃ k : Nat, ([52, 54, 56, 58] : List Nat)[i.toNatClampNeg]? = some k := by
  have h1 : i.toNatClampNeg < 4 := Nat.not_le.mp fun q => h (Or.inr q)
  exact ⟨_, List.getElem?_eq_getElem (l := ([52, 54, 56, 58] : List Nat)) h1⟩
theorem sm_F0 : sm_F 0 "SnowMoney$Duchy" sm_T0 sm_t0 18 := ⟨rfl, fun w hw => sm_in ((show ∀ w ∈ u_ws "SnowMoney$Duchy" sm_T0 18, w ∈ lw_tbl by decide +kernel) w hw) ((show ∀ w ∈ u_ws "SnowMoney$Duchy" sm_T0 18, goodWord w = true by decide +kernel) w hw), by decide +kernel, by decide +kernel⟩
theorem sm_F1 : sm_F 1 "SnowMoney$Foresight" sm_T1 sm_t1 9 := ⟨rfl, fun w hw => sm_in ((show ∀ w ∈ u_ws "SnowMoney$Foresight" sm_T1 9, w ∈ lw_tbl by decide +kernel) w hw) ((show ∀ w ∈ u_ws "SnowMoney$Foresight" sm_T1 9, goodWord w = true by decide +kernel) w hw), by decide +kernel, by decide +kernel⟩
theorem sm_F2 : sm_F 2 "SnowMoney$Reader" sm_T2 sm_t2 5 := ⟨rfl, fun w hw => sm_in ((show ∀ w ∈ u_ws "SnowMoney$Reader" sm_T2 5, w ∈ lw_tbl by decide +kernel) w hw) ((show ∀ w ∈ u_ws "SnowMoney$Reader" sm_T2 5, goodWord w = true by decide +kernel) w hw), by decide +kernel, by decide +kernel⟩
theorem sm_F3 : sm_F 3 "SnowMoney$Sheet" sm_T3 sm_t3 3 := ⟨rfl, fun w hw => sm_in ((show ∀ w ∈ u_ws "SnowMoney$Sheet" sm_T3 3, w ∈ lw_tbl by decide +kernel) w hw) ((show ∀ w ∈ u_ws "SnowMoney$Sheet" sm_T3 3, goodWord w = true by decide +kernel) w hw), by decide +kernel, by decide +kernel⟩
theorem sm_F4 : sm_F 4 "SnowMoney$Text" sm_T4 sm_t4 4 := ⟨rfl, fun w hw => sm_in ((show ∀ w ∈ u_ws "SnowMoney$Text" sm_T4 4, w ∈ lw_tbl by decide +kernel) w hw) ((show ∀ w ∈ u_ws "SnowMoney$Text" sm_T4 4, goodWord w = true by decide +kernel) w hw), by decide +kernel, by decide +kernel⟩
theorem sm_F5 : sm_F 5 "SnowMoney$Voices" sm_T5 sm_t5 5 := ⟨rfl, fun w hw => sm_in ((show ∀ w ∈ u_ws "SnowMoney$Voices" sm_T5 5, w ∈ lw_tbl by decide +kernel) w hw) ((show ∀ w ∈ u_ws "SnowMoney$Voices" sm_T5 5, goodWord w = true by decide +kernel) w hw), by decide +kernel, by decide +kernel⟩
theorem sm_F6 : sm_F 6 "SnowMoney" sm_T6 sm_t6 8 := ⟨rfl, fun w hw => sm_in ((show ∀ w ∈ u_ws "SnowMoney" sm_T6 8, w ∈ lw_tbl by decide +kernel) w hw) ((show ∀ w ∈ u_ws "SnowMoney" sm_T6 8, goodWord w = true by decide +kernel) w hw), by decide +kernel, by decide +kernel⟩
theorem sm_F7 : sm_F 7 "SnowMoneyModel" sm_T7 sm_t7 28 := ⟨rfl, fun w hw => sm_in ((show ∀ w ∈ u_ws "SnowMoneyModel" sm_T7 28, w ∈ lw_tbl by decide +kernel) w hw) ((show ∀ w ∈ u_ws "SnowMoneyModel" sm_T7 28, goodWord w = true by decide +kernel) w hw), by decide +kernel, by decide +kernel⟩
end
section
theorem sr_indexOf {p : Program} {l : Launch} {e : Env} {R : Room} {s : State} {m : MethodId} {args : Array Value} {below : List Frame} {meth : Method} {c : Code} {A : Nat → Prop} {Q : State → Prop} {G : sm_G} {nL kc ks pc : Nat} {stk : List sm_V} {lo : List (Nat × sm_V)} {μ : sm_Mem} {cc : ByteArray} {own : String} (C : sm_C p s m args c cc nL own A G) {ix : Nat} {cI x : Int32} (ok : sm_okV own ix ⟨"java/lang/String", "indexOf", "(I)I"⟩ prog_14_method_79_code 2 (some .int) 1) (h1 : cI.toNatClampNeg < 3) (h2 : 0 ≤ x ∧ x < 65536) (hfr : 10 ≤ R.frames) (hlo : 400 ≤ R.locals) (hd : decode cc pc = .ok (.invokevirtual ix, 3)) (k : sm_W p l e R s m args below meth c A Q G nL kc ks (pc + 3) (sm_I (sm_idx cI.toNatClampNeg x) :: stk) lo μ) : sm_W p l e R s m args below meth c A Q G nL kc ks pc (sm_I x :: sm_R (100 + cI.toNatClampNeg) :: stk) lo μ := by
  sorry
end
section
theorem d_T_isMissing_0 : decode prog_7_method_2_code 0 = .ok (.aload_n 0, 1) := by decide +kernel
theorem d_T_isMissing_1 : decode prog_7_method_2_code 1 = .ok (.getfield 19, 3) := by decide +kernel
theorem d_T_isMissing_4 : decode prog_7_method_2_code 4 = .ok (.ifCond .ne 7, 3) := by decide +kernel
theorem d_T_isMissing_7 : decode prog_7_method_2_code 7 = .ok (.iconst 1, 1) := by decide +kernel
theorem d_T_isMissing_8 : decode prog_7_method_2_code 8 = .ok (.goto 4, 3) := by decide +kernel
theorem d_T_isMissing_11 : decode prog_7_method_2_code 11 = .ok (.iconst 0, 1) := by decide +kernel
theorem d_T_isMissing_12 : decode prog_7_method_2_code 12 = .ok (.ireturn, 1) := by decide +kernel
def w_T_isMissing (K : Int32 → sm_Mem → Prop) (k : Nat) (μ : sm_Mem) : Prop := isText k ∧ if (μ k 3) = 0 then K 1 μ else K 0 μ
set_option maxHeartbeats 4000000 in
set_option maxRecDepth 100000 in
theorem P_T_isMissing (l : Launch) {K : Int32 → sm_Mem → Prop} {k : Nat} {μ : sm_Mem} (h : w_T_isMissing K k μ) : sm_MI l ⟨"SnowMoney$Text", "isMissing", "()Z"⟩ prog_7_method_2_code 1 (some .boolean) { frames := 0, cells := 0, slots := 0, locals := 0 } [sm_R k] μ K := by
  refine sm_ofI (by decide +kernel) (fun _ => Nat.le_of_ble_eq_true rfl) ?_
  intro p e s m args below meth c A Q G C hR
  obtain ⟨t_k, h⟩ := h
  refine sr_aload_n C 0 rfl rfl d_T_isMissing_0 ?_
  refine sr_getI C sm_F4 3 q_82 t_k.1 rfl (by decide) d_T_isMissing_1 ?_
  refine sr_if_ne C (tgt := 11) d_T_isMissing_4 (by decide) (fun c1 => ?_) (fun c1 => ?_)
  · replace h := Eq.mp (if_neg c1) h
    refine sr_iconst C (v := 0) d_T_isMissing_11 (by decide) ?_
    exact hR _ _ _ _ d_T_isMissing_12 rfl h
  · replace h := Eq.mp (if_pos c1) h
    refine sr_iconst C (v := 1) d_T_isMissing_7 (by decide) ?_
    refine sr_goto C (tgt := 12) (by decide) d_T_isMissing_8 ?_
    exact hR _ _ _ _ d_T_isMissing_12 rfl h
theorem d_T_joined_0 : decode prog_7_method_8_code 0 = .ok (.iload_n 0, 1) := by decide +kernel
theorem d_T_joined_1 : decode prog_7_method_8_code 1 = .ok (.lookupswitch 188 #[(37, 115), (38, 160), (42, 99), (43, 91), (45, 95), (47, 103), (60, 127), (61, 138), (62, 149), (124, 174)], 91) := by decide +kernel
theorem d_T_joined_92 : decode prog_7_method_8_code 92 = .ok (.iload_n 1, 1) := by decide +kernel
theorem d_T_joined_93 : decode prog_7_method_8_code 93 = .ok (.iload_n 2, 1) := by decide +kernel
theorem d_T_joined_94 : decode prog_7_method_8_code 94 = .ok (.iadd, 1) := by decide +kernel
theorem d_T_joined_95 : decode prog_7_method_8_code 95 = .ok (.ireturn, 1) := by decide +kernel
theorem d_T_joined_96 : decode prog_7_method_8_code 96 = .ok (.iload_n 1, 1) := by decide +kernel
theorem d_T_joined_97 : decode prog_7_method_8_code 97 = .ok (.iload_n 2, 1) := by decide +kernel
theorem d_T_joined_98 : decode prog_7_method_8_code 98 = .ok (.isub, 1) := by decide +kernel
theorem d_T_joined_99 : decode prog_7_method_8_code 99 = .ok (.ireturn, 1) := by decide +kernel
theorem d_T_joined_100 : decode prog_7_method_8_code 100 = .ok (.iload_n 1, 1) := by decide +kernel
theorem d_T_joined_101 : decode prog_7_method_8_code 101 = .ok (.iload_n 2, 1) := by decide +kernel
theorem d_T_joined_102 : decode prog_7_method_8_code 102 = .ok (.imul, 1) := by decide +kernel
theorem d_T_joined_103 : decode prog_7_method_8_code 103 = .ok (.ireturn, 1) := by decide +kernel
theorem d_T_joined_104 : decode prog_7_method_8_code 104 = .ok (.iload_n 2, 1) := by decide +kernel
theorem d_T_joined_105 : decode prog_7_method_8_code 105 = .ok (.ifCond .ne 7, 3) := by decide +kernel
theorem d_T_joined_108 : decode prog_7_method_8_code 108 = .ok (.iconst 0, 1) := by decide +kernel
theorem d_T_joined_109 : decode prog_7_method_8_code 109 = .ok (.goto 6, 3) := by decide +kernel
theorem d_T_joined_112 : decode prog_7_method_8_code 112 = .ok (.iload_n 1, 1) := by decide +kernel
theorem d_T_joined_113 : decode prog_7_method_8_code 113 = .ok (.iload_n 2, 1) := by decide +kernel
theorem d_T_joined_114 : decode prog_7_method_8_code 114 = .ok (.idiv, 1) := by decide +kernel
theorem d_T_joined_115 : decode prog_7_method_8_code 115 = .ok (.ireturn, 1) := by decide +kernel
theorem d_T_joined_116 : decode prog_7_method_8_code 116 = .ok (.iload_n 2, 1) := by decide +kernel
theorem d_T_joined_117 : decode prog_7_method_8_code 117 = .ok (.ifCond .ne 7, 3) := by decide +kernel
theorem d_T_joined_120 : decode prog_7_method_8_code 120 = .ok (.iconst 0, 1) := by decide +kernel
theorem d_T_joined_121 : decode prog_7_method_8_code 121 = .ok (.goto 6, 3) := by decide +kernel
theorem d_T_joined_124 : decode prog_7_method_8_code 124 = .ok (.iload_n 1, 1) := by decide +kernel
theorem d_T_joined_125 : decode prog_7_method_8_code 125 = .ok (.iload_n 2, 1) := by decide +kernel
theorem d_T_joined_126 : decode prog_7_method_8_code 126 = .ok (.irem, 1) := by decide +kernel
theorem d_T_joined_127 : decode prog_7_method_8_code 127 = .ok (.ireturn, 1) := by decide +kernel
theorem d_T_joined_128 : decode prog_7_method_8_code 128 = .ok (.iload_n 1, 1) := by decide +kernel
theorem d_T_joined_129 : decode prog_7_method_8_code 129 = .ok (.iload_n 2, 1) := by decide +kernel
theorem d_T_joined_130 : decode prog_7_method_8_code 130 = .ok (.if_icmp .ge 7, 3) := by decide +kernel
theorem d_T_joined_133 : decode prog_7_method_8_code 133 = .ok (.iconst 1, 1) := by decide +kernel
theorem d_T_joined_134 : decode prog_7_method_8_code 134 = .ok (.goto 4, 3) := by decide +kernel
theorem d_T_joined_137 : decode prog_7_method_8_code 137 = .ok (.iconst 0, 1) := by decide +kernel
theorem d_T_joined_138 : decode prog_7_method_8_code 138 = .ok (.ireturn, 1) := by decide +kernel
theorem d_T_joined_139 : decode prog_7_method_8_code 139 = .ok (.iload_n 1, 1) := by decide +kernel
theorem d_T_joined_140 : decode prog_7_method_8_code 140 = .ok (.iload_n 2, 1) := by decide +kernel
theorem d_T_joined_141 : decode prog_7_method_8_code 141 = .ok (.if_icmp .ne 7, 3) := by decide +kernel
theorem d_T_joined_144 : decode prog_7_method_8_code 144 = .ok (.iconst 1, 1) := by decide +kernel
theorem d_T_joined_145 : decode prog_7_method_8_code 145 = .ok (.goto 4, 3) := by decide +kernel
theorem d_T_joined_148 : decode prog_7_method_8_code 148 = .ok (.iconst 0, 1) := by decide +kernel
theorem d_T_joined_149 : decode prog_7_method_8_code 149 = .ok (.ireturn, 1) := by decide +kernel
theorem d_T_joined_150 : decode prog_7_method_8_code 150 = .ok (.iload_n 1, 1) := by decide +kernel
theorem d_T_joined_151 : decode prog_7_method_8_code 151 = .ok (.iload_n 2, 1) := by decide +kernel
theorem d_T_joined_152 : decode prog_7_method_8_code 152 = .ok (.if_icmp .le 7, 3) := by decide +kernel
theorem d_T_joined_155 : decode prog_7_method_8_code 155 = .ok (.iconst 1, 1) := by decide +kernel
theorem d_T_joined_156 : decode prog_7_method_8_code 156 = .ok (.goto 4, 3) := by decide +kernel
theorem d_T_joined_159 : decode prog_7_method_8_code 159 = .ok (.iconst 0, 1) := by decide +kernel
theorem d_T_joined_160 : decode prog_7_method_8_code 160 = .ok (.ireturn, 1) := by decide +kernel
theorem d_T_joined_161 : decode prog_7_method_8_code 161 = .ok (.iload_n 1, 1) := by decide +kernel
theorem d_T_joined_162 : decode prog_7_method_8_code 162 = .ok (.ifCond .eq 11, 3) := by decide +kernel
theorem d_T_joined_165 : decode prog_7_method_8_code 165 = .ok (.iload_n 2, 1) := by decide +kernel
theorem d_T_joined_166 : decode prog_7_method_8_code 166 = .ok (.ifCond .eq 7, 3) := by decide +kernel
theorem d_T_joined_169 : decode prog_7_method_8_code 169 = .ok (.iconst 1, 1) := by decide +kernel
theorem d_T_joined_170 : decode prog_7_method_8_code 170 = .ok (.goto 4, 3) := by decide +kernel
theorem d_T_joined_173 : decode prog_7_method_8_code 173 = .ok (.iconst 0, 1) := by decide +kernel
theorem d_T_joined_174 : decode prog_7_method_8_code 174 = .ok (.ireturn, 1) := by decide +kernel
theorem d_T_joined_175 : decode prog_7_method_8_code 175 = .ok (.iload_n 1, 1) := by decide +kernel
theorem d_T_joined_176 : decode prog_7_method_8_code 176 = .ok (.ifCond .ne 7, 3) := by decide +kernel
theorem d_T_joined_179 : decode prog_7_method_8_code 179 = .ok (.iload_n 2, 1) := by decide +kernel
theorem d_T_joined_180 : decode prog_7_method_8_code 180 = .ok (.ifCond .eq 7, 3) := by decide +kernel
theorem d_T_joined_183 : decode prog_7_method_8_code 183 = .ok (.iconst 1, 1) := by decide +kernel
theorem d_T_joined_184 : decode prog_7_method_8_code 184 = .ok (.goto 4, 3) := by decide +kernel
theorem d_T_joined_187 : decode prog_7_method_8_code 187 = .ok (.iconst 0, 1) := by decide +kernel
theorem d_T_joined_188 : decode prog_7_method_8_code 188 = .ok (.ireturn, 1) := by decide +kernel
theorem d_T_joined_189 : decode prog_7_method_8_code 189 = .ok (.iconst 0, 1) := by decide +kernel
theorem d_T_joined_190 : decode prog_7_method_8_code 190 = .ok (.ireturn, 1) := by decide +kernel
def w_T_joined (K : Int32 → sm_Mem → Prop) (p0 : Int32) (p1 : Int32) (p2 : Int32) (μ : sm_Mem) : Prop := ∀ v1 : Int32, v1 = p0 → if v1 = 37 then (if p2 = 0 then K 0 μ else ((¬ p2 = 0) ∧ K (p1 % p2) μ)) else (if v1 = 38 then (if p1 = 0 then K 0 μ else (if p2 = 0 then K 0 μ else K 1 μ)) else (if v1 = 42 then K (p1 * p2) μ else (if v1 = 43 then K (p1 + p2) μ else (if v1 = 45 then K (p1 - p2) μ else (if v1 = 47 then (if p2 = 0 then K 0 μ else ((¬ p2 = 0) ∧ K (p1 / p2) μ)) else (if v1 = 60 then (if p2 ≤ p1 then K 0 μ else K 1 μ) else (if v1 = 61 then (if p1 = p2 then K 1 μ else K 0 μ) else (if v1 = 62 then (if p1 ≤ p2 then K 0 μ else K 1 μ) else (if v1 = 124 then (if p1 = 0 then (if p2 = 0 then K 0 μ else K 1 μ) else K 1 μ) else K 0 μ)))))))))
set_option maxHeartbeats 4000000 in
set_option maxRecDepth 100000 in
theorem P_T_joined (l : Launch) {K : Int32 → sm_Mem → Prop} {p0 : Int32} {p1 : Int32} {p2 : Int32} {μ : sm_Mem} (h : w_T_joined K p0 p1 p2 μ) : sm_MI l ⟨"SnowMoney$Text", "joined", "(III)I"⟩ prog_7_method_8_code 3 (some .int) { frames := 0, cells := 0, slots := 0, locals := 0 } [sm_I p0, sm_I p1, sm_I p2] μ K := by
  refine sm_ofI (by decide +kernel) (fun _ => Nat.le_of_ble_eq_true rfl) ?_
  intro p e s m args below meth c A Q G C hR
  refine sr_iload_n C 0 rfl rfl d_T_joined_0 ?_
  refine sm_name (fun v1 ev1 => ?_)
  replace h := h v1 ev1
  by_cases c2 : v1 = 37
  · replace h := Eq.mp (if_pos c2) h
    refine sr_lookup C (tgt := 116) (off := 115) d_T_joined_1 (by decide) (by rw [c2]; decide) (by decide) ?_
    refine sr_iload_n C 2 rfl rfl d_T_joined_116 ?_
    refine sr_if_ne C (tgt := 124) d_T_joined_117 (by decide) (fun c3 => ?_) (fun c3 => ?_)
    · replace h := Eq.mp (if_neg c3) h
      refine sr_iload_n C 1 rfl rfl d_T_joined_124 ?_
      refine sr_iload_n C 2 rfl rfl d_T_joined_125 ?_
      obtain ⟨g4, h⟩ := h
      refine sr_irem C g4 d_T_joined_126 ?_
      exact hR _ _ _ _ d_T_joined_127 rfl h
    · replace h := Eq.mp (if_pos c3) h
      refine sr_iconst C (v := 0) d_T_joined_120 (by decide) ?_
      refine sr_goto C (tgt := 127) (by decide) d_T_joined_121 ?_
      exact hR _ _ _ _ d_T_joined_127 rfl h
  · replace h := Eq.mp (if_neg c2) h
    by_cases c5 : v1 = 38
    · replace h := Eq.mp (if_pos c5) h
      refine sr_lookup C (tgt := 161) (off := 160) d_T_joined_1 (by decide) (by rw [c5]; decide) (by decide) ?_
      refine sr_iload_n C 1 rfl rfl d_T_joined_161 ?_
      refine sr_if_eq C (tgt := 173) d_T_joined_162 (by decide) (fun c6 => ?_) (fun c6 => ?_)
      · replace h := Eq.mp (if_pos c6) h
        refine sr_iconst C (v := 0) d_T_joined_173 (by decide) ?_
        exact hR _ _ _ _ d_T_joined_174 rfl h
      · replace h := Eq.mp (if_neg c6) h
        refine sr_iload_n C 2 rfl rfl d_T_joined_165 ?_
        refine sr_if_eq C (tgt := 173) d_T_joined_166 (by decide) (fun c7 => ?_) (fun c7 => ?_)
        · replace h := Eq.mp (if_pos c7) h
          refine sr_iconst C (v := 0) d_T_joined_173 (by decide) ?_
          exact hR _ _ _ _ d_T_joined_174 rfl h
        · replace h := Eq.mp (if_neg c7) h
          refine sr_iconst C (v := 1) d_T_joined_169 (by decide) ?_
          refine sr_goto C (tgt := 174) (by decide) d_T_joined_170 ?_
          exact hR _ _ _ _ d_T_joined_174 rfl h
    · replace h := Eq.mp (if_neg c5) h
      by_cases c8 : v1 = 42
      · replace h := Eq.mp (if_pos c8) h
        refine sr_lookup C (tgt := 100) (off := 99) d_T_joined_1 (by decide) (by rw [c8]; decide) (by decide) ?_
        refine sr_iload_n C 1 rfl rfl d_T_joined_100 ?_
        refine sr_iload_n C 2 rfl rfl d_T_joined_101 ?_
        refine sr_imul C d_T_joined_102 ?_
        exact hR _ _ _ _ d_T_joined_103 rfl h
      · replace h := Eq.mp (if_neg c8) h
        by_cases c9 : v1 = 43
        · replace h := Eq.mp (if_pos c9) h
          refine sr_lookup C (tgt := 92) (off := 91) d_T_joined_1 (by decide) (by rw [c9]; decide) (by decide) ?_
          refine sr_iload_n C 1 rfl rfl d_T_joined_92 ?_
          refine sr_iload_n C 2 rfl rfl d_T_joined_93 ?_
          refine sr_iadd C d_T_joined_94 ?_
          exact hR _ _ _ _ d_T_joined_95 rfl h
        · replace h := Eq.mp (if_neg c9) h
          by_cases c10 : v1 = 45
          · replace h := Eq.mp (if_pos c10) h
            refine sr_lookup C (tgt := 96) (off := 95) d_T_joined_1 (by decide) (by rw [c10]; decide) (by decide) ?_
            refine sr_iload_n C 1 rfl rfl d_T_joined_96 ?_
            refine sr_iload_n C 2 rfl rfl d_T_joined_97 ?_
            refine sr_isub C d_T_joined_98 ?_
            exact hR _ _ _ _ d_T_joined_99 rfl h
          · replace h := Eq.mp (if_neg c10) h
            by_cases c11 : v1 = 47
            · replace h := Eq.mp (if_pos c11) h
              refine sr_lookup C (tgt := 104) (off := 103) d_T_joined_1 (by decide) (by rw [c11]; decide) (by decide) ?_
              refine sr_iload_n C 2 rfl rfl d_T_joined_104 ?_
              refine sr_if_ne C (tgt := 112) d_T_joined_105 (by decide) (fun c12 => ?_) (fun c12 => ?_)
              · replace h := Eq.mp (if_neg c12) h
                refine sr_iload_n C 1 rfl rfl d_T_joined_112 ?_
                refine sr_iload_n C 2 rfl rfl d_T_joined_113 ?_
                obtain ⟨g13, h⟩ := h
                refine sr_idiv C g13 d_T_joined_114 ?_
                exact hR _ _ _ _ d_T_joined_115 rfl h
              · replace h := Eq.mp (if_pos c12) h
                refine sr_iconst C (v := 0) d_T_joined_108 (by decide) ?_
                refine sr_goto C (tgt := 115) (by decide) d_T_joined_109 ?_
                exact hR _ _ _ _ d_T_joined_115 rfl h
            · replace h := Eq.mp (if_neg c11) h
              by_cases c14 : v1 = 60
              · replace h := Eq.mp (if_pos c14) h
                refine sr_lookup C (tgt := 128) (off := 127) d_T_joined_1 (by decide) (by rw [c14]; decide) (by decide) ?_
                refine sr_iload_n C 1 rfl rfl d_T_joined_128 ?_
                refine sr_iload_n C 2 rfl rfl d_T_joined_129 ?_
                refine sr_icmp_ge C (tgt := 137) d_T_joined_130 (by decide) (fun c15 => ?_) (fun c15 => ?_)
                · replace h := Eq.mp (if_pos c15) h
                  refine sr_iconst C (v := 0) d_T_joined_137 (by decide) ?_
                  exact hR _ _ _ _ d_T_joined_138 rfl h
                · replace h := Eq.mp (if_neg c15) h
                  refine sr_iconst C (v := 1) d_T_joined_133 (by decide) ?_
                  refine sr_goto C (tgt := 138) (by decide) d_T_joined_134 ?_
                  exact hR _ _ _ _ d_T_joined_138 rfl h
              · replace h := Eq.mp (if_neg c14) h
                by_cases c16 : v1 = 61
                · replace h := Eq.mp (if_pos c16) h
                  refine sr_lookup C (tgt := 139) (off := 138) d_T_joined_1 (by decide) (by rw [c16]; decide) (by decide) ?_
                  refine sr_iload_n C 1 rfl rfl d_T_joined_139 ?_
                  refine sr_iload_n C 2 rfl rfl d_T_joined_140 ?_
                  refine sr_icmp_ne C (tgt := 148) d_T_joined_141 (by decide) (fun c17 => ?_) (fun c17 => ?_)
                  · replace h := Eq.mp (if_neg c17) h
                    refine sr_iconst C (v := 0) d_T_joined_148 (by decide) ?_
                    exact hR _ _ _ _ d_T_joined_149 rfl h
                  · replace h := Eq.mp (if_pos c17) h
                    refine sr_iconst C (v := 1) d_T_joined_144 (by decide) ?_
                    refine sr_goto C (tgt := 149) (by decide) d_T_joined_145 ?_
                    exact hR _ _ _ _ d_T_joined_149 rfl h
                · replace h := Eq.mp (if_neg c16) h
                  by_cases c18 : v1 = 62
                  · replace h := Eq.mp (if_pos c18) h
                    refine sr_lookup C (tgt := 150) (off := 149) d_T_joined_1 (by decide) (by rw [c18]; decide) (by decide) ?_
                    refine sr_iload_n C 1 rfl rfl d_T_joined_150 ?_
                    refine sr_iload_n C 2 rfl rfl d_T_joined_151 ?_
                    refine sr_icmp_le C (tgt := 159) d_T_joined_152 (by decide) (fun c19 => ?_) (fun c19 => ?_)
                    · replace h := Eq.mp (if_pos c19) h
                      refine sr_iconst C (v := 0) d_T_joined_159 (by decide) ?_
                      exact hR _ _ _ _ d_T_joined_160 rfl h
                    · replace h := Eq.mp (if_neg c19) h
                      refine sr_iconst C (v := 1) d_T_joined_155 (by decide) ?_
                      refine sr_goto C (tgt := 160) (by decide) d_T_joined_156 ?_
                      exact hR _ _ _ _ d_T_joined_160 rfl h
                  · replace h := Eq.mp (if_neg c18) h
                    by_cases c20 : v1 = 124
                    · replace h := Eq.mp (if_pos c20) h
                      refine sr_lookup C (tgt := 175) (off := 174) d_T_joined_1 (by decide) (by rw [c20]; decide) (by decide) ?_
                      refine sr_iload_n C 1 rfl rfl d_T_joined_175 ?_
                      refine sr_if_ne C (tgt := 183) d_T_joined_176 (by decide) (fun c21 => ?_) (fun c21 => ?_)
                      · replace h := Eq.mp (if_neg c21) h
                        refine sr_iconst C (v := 1) d_T_joined_183 (by decide) ?_
                        refine sr_goto C (tgt := 188) (by decide) d_T_joined_184 ?_
                        exact hR _ _ _ _ d_T_joined_188 rfl h
                      · replace h := Eq.mp (if_pos c21) h
                        refine sr_iload_n C 2 rfl rfl d_T_joined_179 ?_
                        refine sr_if_eq C (tgt := 187) d_T_joined_180 (by decide) (fun c22 => ?_) (fun c22 => ?_)
                        · replace h := Eq.mp (if_pos c22) h
                          refine sr_iconst C (v := 0) d_T_joined_187 (by decide) ?_
                          exact hR _ _ _ _ d_T_joined_188 rfl h
                        · replace h := Eq.mp (if_neg c22) h
                          refine sr_iconst C (v := 1) d_T_joined_183 (by decide) ?_
                          refine sr_goto C (tgt := 188) (by decide) d_T_joined_184 ?_
                          exact hR _ _ _ _ d_T_joined_188 rfl h
                    · replace h := Eq.mp (if_neg c20) h
                      have i0 := sm_ne c2 (z := 37) (by decide)
                      have i1 := sm_ne c5 (z := 38) (by decide)
                      have i2 := sm_ne c8 (z := 42) (by decide)
                      have i3 := sm_ne c9 (z := 43) (by decide)
                      have i4 := sm_ne c10 (z := 45) (by decide)
                      have i5 := sm_ne c11 (z := 47) (by decide)
                      have i6 := sm_ne c14 (z := 60) (by decide)
                      have i7 := sm_ne c16 (z := 61) (by decide)
                      have i8 := sm_ne c18 (z := 62) (by decide)
                      have i9 := sm_ne c20 (z := 124) (by decide)
                      refine sr_lookup C (tgt := 189) (off := 188) d_T_joined_1 (by decide) (by simp [Op.lookupswitch.offset, Ne.symm i0, Ne.symm i1, Ne.symm i2, Ne.symm i3, Ne.symm i4, Ne.symm i5, Ne.symm i6, Ne.symm i7, Ne.symm i8, Ne.symm i9]) (by decide) ?_
                      refine sr_iconst C (v := 0) d_T_joined_189 (by decide) ?_
                      exact hR _ _ _ _ d_T_joined_190 rfl h
theorem d_T_named_0 : decode prog_7_method_7_code 0 = .ok (.iload_n 0, 1) := by decide +kernel
theorem d_T_named_1 : decode prog_7_method_7_code 1 = .ok (.ifCond .ne 7, 3) := by decide +kernel
theorem d_T_named_4 : decode prog_7_method_7_code 4 = .ok (.iload_n 1, 1) := by decide +kernel
theorem d_T_named_5 : decode prog_7_method_7_code 5 = .ok (.goto 13, 3) := by decide +kernel
theorem d_T_named_8 : decode prog_7_method_7_code 8 = .ok (.iload_n 0, 1) := by decide +kernel
theorem d_T_named_9 : decode prog_7_method_7_code 9 = .ok (.iconst 1, 1) := by decide +kernel
theorem d_T_named_10 : decode prog_7_method_7_code 10 = .ok (.if_icmp .ne 7, 3) := by decide +kernel
theorem d_T_named_13 : decode prog_7_method_7_code 13 = .ok (.iload_n 2, 1) := by decide +kernel
theorem d_T_named_14 : decode prog_7_method_7_code 14 = .ok (.goto 4, 3) := by decide +kernel
theorem d_T_named_17 : decode prog_7_method_7_code 17 = .ok (.iload_n 3, 1) := by decide +kernel
theorem d_T_named_18 : decode prog_7_method_7_code 18 = .ok (.ireturn, 1) := by decide +kernel
def w_T_named (K : Int32 → sm_Mem → Prop) (p0 : Int32) (p1 : Int32) (p2 : Int32) (p3 : Int32) (μ : sm_Mem) : Prop := if p0 = 0 then K p1 μ else (if p0 = 1 then K p2 μ else K p3 μ)
set_option maxHeartbeats 4000000 in
set_option maxRecDepth 100000 in
theorem P_T_named (l : Launch) {K : Int32 → sm_Mem → Prop} {p0 : Int32} {p1 : Int32} {p2 : Int32} {p3 : Int32} {μ : sm_Mem} (h : w_T_named K p0 p1 p2 p3 μ) : sm_MI l ⟨"SnowMoney$Text", "named", "(IIII)I"⟩ prog_7_method_7_code 4 (some .int) { frames := 0, cells := 0, slots := 0, locals := 0 } [sm_I p0, sm_I p1, sm_I p2, sm_I p3] μ K := by
  refine sm_ofI (by decide +kernel) (fun _ => Nat.le_of_ble_eq_true rfl) ?_
  intro p e s m args below meth c A Q G C hR
  refine sr_iload_n C 0 rfl rfl d_T_named_0 ?_
  refine sr_if_ne C (tgt := 8) d_T_named_1 (by decide) (fun c1 => ?_) (fun c1 => ?_)
  · replace h := Eq.mp (if_neg c1) h
    refine sr_iload_n C 0 rfl rfl d_T_named_8 ?_
    refine sr_iconst C (v := 1) d_T_named_9 (by decide) ?_
    refine sr_icmp_ne C (tgt := 17) d_T_named_10 (by decide) (fun c2 => ?_) (fun c2 => ?_)
    · replace h := Eq.mp (if_neg c2) h
      refine sr_iload_n C 3 rfl rfl d_T_named_17 ?_
      exact hR _ _ _ _ d_T_named_18 rfl h
    · replace h := Eq.mp (if_pos c2) h
      refine sr_iload_n C 2 rfl rfl d_T_named_13 ?_
      refine sr_goto C (tgt := 18) (by decide) d_T_named_14 ?_
      exact hR _ _ _ _ d_T_named_18 rfl h
  · replace h := Eq.mp (if_pos c1) h
    refine sr_iload_n C 1 rfl rfl d_T_named_4 ?_
    refine sr_goto C (tgt := 18) (by decide) d_T_named_5 ?_
    exact hR _ _ _ _ d_T_named_18 rfl h
theorem d_T_valueWith_0 : decode prog_7_method_6_code 0 = .ok (.iconst 0, 1) := by decide +kernel
theorem d_T_valueWith_1 : decode prog_7_method_6_code 1 = .ok (.istore 4, 2) := by decide +kernel
theorem d_T_valueWith_3 : decode prog_7_method_6_code 3 = .ok (.iconst 0, 1) := by decide +kernel
theorem d_T_valueWith_4 : decode prog_7_method_6_code 4 = .ok (.istore 5, 2) := by decide +kernel
theorem d_T_valueWith_6 : decode prog_7_method_6_code 6 = .ok (.iload 5, 2) := by decide +kernel
theorem d_T_valueWith_8 : decode prog_7_method_6_code 8 = .ok (.aload_n 0, 1) := by decide +kernel
theorem d_T_valueWith_9 : decode prog_7_method_6_code 9 = .ok (.getfield 19, 3) := by decide +kernel
theorem d_T_valueWith_12 : decode prog_7_method_6_code 12 = .ok (.if_icmp .ge 165, 3) := by decide +kernel
theorem d_T_valueWith_15 : decode prog_7_method_6_code 15 = .ok (.aload_n 0, 1) := by decide +kernel
theorem d_T_valueWith_16 : decode prog_7_method_6_code 16 = .ok (.getfield 9, 3) := by decide +kernel
theorem d_T_valueWith_19 : decode prog_7_method_6_code 19 = .ok (.iload 5, 2) := by decide +kernel
theorem d_T_valueWith_21 : decode prog_7_method_6_code 21 = .ok (.iaload, 1) := by decide +kernel
theorem d_T_valueWith_22 : decode prog_7_method_6_code 22 = .ok (.istore 6, 2) := by decide +kernel
theorem d_T_valueWith_24 : decode prog_7_method_6_code 24 = .ok (.iload 6, 2) := by decide +kernel
theorem d_T_valueWith_26 : decode prog_7_method_6_code 26 = .ok (.bipush 110, 2) := by decide +kernel
theorem d_T_valueWith_28 : decode prog_7_method_6_code 28 = .ok (.if_icmp .eq 10, 3) := by decide +kernel
theorem d_T_valueWith_31 : decode prog_7_method_6_code 31 = .ok (.iload 6, 2) := by decide +kernel
theorem d_T_valueWith_33 : decode prog_7_method_6_code 33 = .ok (.bipush 97, 2) := by decide +kernel
theorem d_T_valueWith_35 : decode prog_7_method_6_code 35 = .ok (.if_icmp .ne 53, 3) := by decide +kernel
theorem d_T_valueWith_38 : decode prog_7_method_6_code 38 = .ok (.iload 4, 2) := by decide +kernel
theorem d_T_valueWith_40 : decode prog_7_method_6_code 40 = .ok (.bipush 50, 2) := by decide +kernel
theorem d_T_valueWith_42 : decode prog_7_method_6_code 42 = .ok (.if_icmp .ge 129, 3) := by decide +kernel
theorem d_T_valueWith_45 : decode prog_7_method_6_code 45 = .ok (.aload_n 0, 1) := by decide +kernel
theorem d_T_valueWith_46 : decode prog_7_method_6_code 46 = .ok (.getfield 16, 3) := by decide +kernel
theorem d_T_valueWith_49 : decode prog_7_method_6_code 49 = .ok (.iload 4, 2) := by decide +kernel
theorem d_T_valueWith_51 : decode prog_7_method_6_code 51 = .ok (.iload 6, 2) := by decide +kernel
theorem d_T_valueWith_53 : decode prog_7_method_6_code 53 = .ok (.bipush 110, 2) := by decide +kernel
theorem d_T_valueWith_55 : decode prog_7_method_6_code 55 = .ok (.if_icmp .ne 13, 3) := by decide +kernel
theorem d_T_valueWith_58 : decode prog_7_method_6_code 58 = .ok (.aload_n 0, 1) := by decide +kernel
theorem d_T_valueWith_59 : decode prog_7_method_6_code 59 = .ok (.getfield 13, 3) := by decide +kernel
theorem d_T_valueWith_62 : decode prog_7_method_6_code 62 = .ok (.iload 5, 2) := by decide +kernel
theorem d_T_valueWith_64 : decode prog_7_method_6_code 64 = .ok (.iaload, 1) := by decide +kernel
theorem d_T_valueWith_65 : decode prog_7_method_6_code 65 = .ok (.goto 16, 3) := by decide +kernel
theorem d_T_valueWith_68 : decode prog_7_method_6_code 68 = .ok (.aload_n 0, 1) := by decide +kernel
theorem d_T_valueWith_69 : decode prog_7_method_6_code 69 = .ok (.getfield 13, 3) := by decide +kernel
theorem d_T_valueWith_72 : decode prog_7_method_6_code 72 = .ok (.iload 5, 2) := by decide +kernel
theorem d_T_valueWith_74 : decode prog_7_method_6_code 74 = .ok (.iaload, 1) := by decide +kernel
theorem d_T_valueWith_75 : decode prog_7_method_6_code 75 = .ok (.iload_n 1, 1) := by decide +kernel
theorem d_T_valueWith_76 : decode prog_7_method_6_code 76 = .ok (.iload_n 2, 1) := by decide +kernel
theorem d_T_valueWith_77 : decode prog_7_method_6_code 77 = .ok (.iload_n 3, 1) := by decide +kernel
theorem d_T_valueWith_78 : decode prog_7_method_6_code 78 = .ok (.invokestatic 29, 3) := by decide +kernel
theorem d_T_valueWith_81 : decode prog_7_method_6_code 81 = .ok (.iastore, 1) := by decide +kernel
theorem d_T_valueWith_82 : decode prog_7_method_6_code 82 = .ok (.iinc 4 1, 3) := by decide +kernel
theorem d_T_valueWith_85 : decode prog_7_method_6_code 85 = .ok (.goto 86, 3) := by decide +kernel
theorem d_T_valueWith_88 : decode prog_7_method_6_code 88 = .ok (.iload 6, 2) := by decide +kernel
theorem d_T_valueWith_90 : decode prog_7_method_6_code 90 = .ok (.bipush 33, 2) := by decide +kernel
theorem d_T_valueWith_92 : decode prog_7_method_6_code 92 = .ok (.if_icmp .ne 38, 3) := by decide +kernel
theorem d_T_valueWith_95 : decode prog_7_method_6_code 95 = .ok (.iload 4, 2) := by decide +kernel
theorem d_T_valueWith_97 : decode prog_7_method_6_code 97 = .ok (.iconst 1, 1) := by decide +kernel
theorem d_T_valueWith_98 : decode prog_7_method_6_code 98 = .ok (.if_icmp .lt 73, 3) := by decide +kernel
theorem d_T_valueWith_101 : decode prog_7_method_6_code 101 = .ok (.aload_n 0, 1) := by decide +kernel
theorem d_T_valueWith_102 : decode prog_7_method_6_code 102 = .ok (.getfield 16, 3) := by decide +kernel
theorem d_T_valueWith_105 : decode prog_7_method_6_code 105 = .ok (.iload 4, 2) := by decide +kernel
theorem d_T_valueWith_107 : decode prog_7_method_6_code 107 = .ok (.iconst 1, 1) := by decide +kernel
theorem d_T_valueWith_108 : decode prog_7_method_6_code 108 = .ok (.isub, 1) := by decide +kernel
theorem d_T_valueWith_109 : decode prog_7_method_6_code 109 = .ok (.aload_n 0, 1) := by decide +kernel
theorem d_T_valueWith_110 : decode prog_7_method_6_code 110 = .ok (.getfield 16, 3) := by decide +kernel
theorem d_T_valueWith_113 : decode prog_7_method_6_code 113 = .ok (.iload 4, 2) := by decide +kernel
theorem d_T_valueWith_115 : decode prog_7_method_6_code 115 = .ok (.iconst 1, 1) := by decide +kernel
theorem d_T_valueWith_116 : decode prog_7_method_6_code 116 = .ok (.isub, 1) := by decide +kernel
theorem d_T_valueWith_117 : decode prog_7_method_6_code 117 = .ok (.iaload, 1) := by decide +kernel
theorem d_T_valueWith_118 : decode prog_7_method_6_code 118 = .ok (.ifCond .ne 7, 3) := by decide +kernel
theorem d_T_valueWith_121 : decode prog_7_method_6_code 121 = .ok (.iconst 1, 1) := by decide +kernel
theorem d_T_valueWith_122 : decode prog_7_method_6_code 122 = .ok (.goto 4, 3) := by decide +kernel
theorem d_T_valueWith_125 : decode prog_7_method_6_code 125 = .ok (.iconst 0, 1) := by decide +kernel
theorem d_T_valueWith_126 : decode prog_7_method_6_code 126 = .ok (.iastore, 1) := by decide +kernel
theorem d_T_valueWith_127 : decode prog_7_method_6_code 127 = .ok (.goto 44, 3) := by decide +kernel
theorem d_T_valueWith_130 : decode prog_7_method_6_code 130 = .ok (.iload 4, 2) := by decide +kernel
theorem d_T_valueWith_132 : decode prog_7_method_6_code 132 = .ok (.iconst 2, 1) := by decide +kernel
theorem d_T_valueWith_133 : decode prog_7_method_6_code 133 = .ok (.if_icmp .lt 38, 3) := by decide +kernel
theorem d_T_valueWith_136 : decode prog_7_method_6_code 136 = .ok (.aload_n 0, 1) := by decide +kernel
theorem d_T_valueWith_137 : decode prog_7_method_6_code 137 = .ok (.getfield 16, 3) := by decide +kernel
theorem d_T_valueWith_140 : decode prog_7_method_6_code 140 = .ok (.iload 4, 2) := by decide +kernel
theorem d_T_valueWith_142 : decode prog_7_method_6_code 142 = .ok (.iconst 2, 1) := by decide +kernel
theorem d_T_valueWith_143 : decode prog_7_method_6_code 143 = .ok (.isub, 1) := by decide +kernel
theorem d_T_valueWith_144 : decode prog_7_method_6_code 144 = .ok (.iload 6, 2) := by decide +kernel
theorem d_T_valueWith_146 : decode prog_7_method_6_code 146 = .ok (.aload_n 0, 1) := by decide +kernel
theorem d_T_valueWith_147 : decode prog_7_method_6_code 147 = .ok (.getfield 16, 3) := by decide +kernel
theorem d_T_valueWith_150 : decode prog_7_method_6_code 150 = .ok (.iload 4, 2) := by decide +kernel
theorem d_T_valueWith_152 : decode prog_7_method_6_code 152 = .ok (.iconst 2, 1) := by decide +kernel
theorem d_T_valueWith_153 : decode prog_7_method_6_code 153 = .ok (.isub, 1) := by decide +kernel
theorem d_T_valueWith_154 : decode prog_7_method_6_code 154 = .ok (.iaload, 1) := by decide +kernel
theorem d_T_valueWith_155 : decode prog_7_method_6_code 155 = .ok (.aload_n 0, 1) := by decide +kernel
theorem d_T_valueWith_156 : decode prog_7_method_6_code 156 = .ok (.getfield 16, 3) := by decide +kernel
theorem d_T_valueWith_159 : decode prog_7_method_6_code 159 = .ok (.iload 4, 2) := by decide +kernel
theorem d_T_valueWith_161 : decode prog_7_method_6_code 161 = .ok (.iconst 1, 1) := by decide +kernel
theorem d_T_valueWith_162 : decode prog_7_method_6_code 162 = .ok (.isub, 1) := by decide +kernel
theorem d_T_valueWith_163 : decode prog_7_method_6_code 163 = .ok (.iaload, 1) := by decide +kernel
theorem d_T_valueWith_164 : decode prog_7_method_6_code 164 = .ok (.invokestatic 33, 3) := by decide +kernel
theorem d_T_valueWith_167 : decode prog_7_method_6_code 167 = .ok (.iastore, 1) := by decide +kernel
theorem d_T_valueWith_168 : decode prog_7_method_6_code 168 = .ok (.iinc 4 (-1), 3) := by decide +kernel
theorem d_T_valueWith_171 : decode prog_7_method_6_code 171 = .ok (.iinc 5 1, 3) := by decide +kernel
theorem d_T_valueWith_174 : decode prog_7_method_6_code 174 = .ok (.goto (-168), 3) := by decide +kernel
theorem d_T_valueWith_177 : decode prog_7_method_6_code 177 = .ok (.aload_n 0, 1) := by decide +kernel
theorem d_T_valueWith_178 : decode prog_7_method_6_code 178 = .ok (.getfield 16, 3) := by decide +kernel
theorem d_T_valueWith_181 : decode prog_7_method_6_code 181 = .ok (.iconst 0, 1) := by decide +kernel
theorem d_T_valueWith_182 : decode prog_7_method_6_code 182 = .ok (.iaload, 1) := by decide +kernel
theorem d_T_valueWith_183 : decode prog_7_method_6_code 183 = .ok (.ireturn, 1) := by decide +kernel
def w_T_valueWith_171 (K : Int32 → sm_Mem → Prop) (J6 : Int32 → Int32 → sm_Mem → Prop) (k : Nat) (p0 : Int32) (p1 : Int32) (p2 : Int32) (x4 : Int32) (x5 : Int32) (μ : sm_Mem) : Prop := J6 x4 (x5 + 1) μ
def w_T_valueWith_81 (K : Int32 → sm_Mem → Prop) (J6 : Int32 → Int32 → sm_Mem → Prop) (k : Nat) (p0 : Int32) (p1 : Int32) (p2 : Int32) (x4 : Int32) (x5 : Int32) (s0 : Int32) (s1 : Int32) (μ : sm_Mem) : Prop := vp_in s1 50 ∧ ∀ μ11 : sm_Mem, μ11 = sm_st μ (k + 3) (s1.toNatClampNeg) s0 → w_T_valueWith_171 K J6 k p0 p1 p2 (x4 + 1) x5 μ11
def w_T_valueWith_38 (K : Int32 → sm_Mem → Prop) (J6 : Int32 → Int32 → sm_Mem → Prop) (k : Nat) (p0 : Int32) (p1 : Int32) (p2 : Int32) (x4 : Int32) (x5 : Int32) (x6 : Int32) (μ : sm_Mem) : Prop := if 50 ≤ x4 then w_T_valueWith_171 K J6 k p0 p1 p2 x4 x5 μ else (if x6 = 110 then (vp_in x5 50 ∧ w_T_valueWith_81 K J6 k p0 p1 p2 x4 x5 (μ (k + 2) x5.toNatClampNeg) x4 μ) else (vp_in x5 50 ∧ w_T_named (fun r9 μ8 => w_T_valueWith_81 K J6 k p0 p1 p2 x4 x5 r9 x4 μ8) (μ (k + 2) x5.toNatClampNeg) p0 p1 p2 μ))
def w_T_valueWith_126 (K : Int32 → sm_Mem → Prop) (J6 : Int32 → Int32 → sm_Mem → Prop) (k : Nat) (p0 : Int32) (p1 : Int32) (p2 : Int32) (x4 : Int32) (x5 : Int32) (s0 : Int32) (s1 : Int32) (μ : sm_Mem) : Prop := vp_in s1 50 ∧ ∀ μ26 : sm_Mem, μ26 = sm_st μ (k + 3) (s1.toNatClampNeg) s0 → w_T_valueWith_171 K J6 k p0 p1 p2 x4 x5 μ26
def w_T_valueWith_6 (K : Int32 → sm_Mem → Prop) (k : Nat) (p0 : Int32) (p1 : Int32) (p2 : Int32) (x4 : Int32) (x5 : Int32) (μ : sm_Mem) : Prop := sm_lp2 (fun J6 x4 x5 μ => if (μ k 3) ≤ x5 then K (μ (k + 3) 0) μ else (vp_in x5 50 ∧ ∀ v3 : Int32, v3 = (μ (k + 1) x5.toNatClampNeg) → if v3 = 110 then w_T_valueWith_38 K J6 k p0 p1 p2 x4 x5 v3 μ else (if v3 = 97 then w_T_valueWith_38 K J6 k p0 p1 p2 x4 x5 v3 μ else (if v3 = 33 then (if x4 < 1 then w_T_valueWith_171 K J6 k p0 p1 p2 x4 x5 μ else (vp_in (x4 - 1) 50 ∧ if (μ (k + 3) (x4 - 1).toNatClampNeg) = 0 then w_T_valueWith_126 K J6 k p0 p1 p2 x4 x5 1 (x4 - 1) μ else w_T_valueWith_126 K J6 k p0 p1 p2 x4 x5 0 (x4 - 1) μ)) else (if x4 < 2 then w_T_valueWith_171 K J6 k p0 p1 p2 x4 x5 μ else (vp_in (x4 - 2) 50 ∧ vp_in (x4 - 1) 50 ∧ w_T_joined (fun r19 μ18 => vp_in (x4 - 2) 50 ∧ ∀ μ21 : sm_Mem, μ21 = sm_st μ18 (k + 3) ((x4 - 2).toNatClampNeg) r19 → w_T_valueWith_171 K J6 k p0 p1 p2 (x4 + (-1)) x5 μ21) v3 (μ (k + 3) (x4 - 2).toNatClampNeg) (μ (k + 3) (x4 - 1).toNatClampNeg) μ)))))) x4 x5 μ
def w_T_valueWith (K : Int32 → sm_Mem → Prop) (k : Nat) (p0 : Int32) (p1 : Int32) (p2 : Int32) (μ : sm_Mem) : Prop := isText k ∧ w_T_valueWith_6 K k p0 p1 p2 0 0 μ
set_option maxHeartbeats 4000000 in
set_option maxRecDepth 100000 in
theorem P_T_valueWith (l : Launch) {K : Int32 → sm_Mem → Prop} {k : Nat} {p0 : Int32} {p1 : Int32} {p2 : Int32} {μ : sm_Mem} (h : w_T_valueWith K k p0 p1 p2 μ) : sm_MI l ⟨"SnowMoney$Text", "valueWith", "(III)I"⟩ prog_7_method_6_code 7 (some .int) { frames := 1, cells := 0, slots := 0, locals := 23 } [sm_R k, sm_I p0, sm_I p1, sm_I p2] μ K := by
  refine sm_ofI (by decide +kernel) (fun _ => Nat.le_of_ble_eq_true rfl) ?_
  intro p e s m args below meth c A Q G C hR
  obtain ⟨t_k, h⟩ := h
  have B171 : ∀ (J6 : Int32 → Int32 → sm_Mem → Prop) (hJ6 : ∀ (x4 : Int32) (x5 : Int32) (μ : sm_Mem), J6 x4 x5 μ → sm_W p l e { frames := 1, cells := 0, slots := 0, locals := 23 } s m args below meth c A Q G 7 0 0 6 [] [(0, sm_R k), (1, sm_I p0), (2, sm_I p1), (3, sm_I p2), (4, sm_I x4), (5, sm_I x5)] μ) (x4 : Int32) (x5 : Int32) (μ : sm_Mem), w_T_valueWith_171 K J6 k p0 p1 p2 x4 x5 μ → sm_W p l e { frames := 1, cells := 0, slots := 0, locals := 23 } s m args below meth c A Q G 7 0 0 171 [] [(0, sm_R k), (1, sm_I p0), (2, sm_I p1), (3, sm_I p2), (4, sm_I x4), (5, sm_I x5)] μ := by
    intro J6 hJ6 x4 x5 μ h
    refine sr_iinc C 5 rfl (by decide) d_T_valueWith_171 rfl ?_
    refine sr_goto C (tgt := 6) (by decide) d_T_valueWith_174 ?_
    refine sr_mask C [1, 2, 3, 4, 5, 0] rfl ?_
    exact hJ6 _ _ _ h
  have B81 : ∀ (J6 : Int32 → Int32 → sm_Mem → Prop) (hJ6 : ∀ (x4 : Int32) (x5 : Int32) (μ : sm_Mem), J6 x4 x5 μ → sm_W p l e { frames := 1, cells := 0, slots := 0, locals := 23 } s m args below meth c A Q G 7 0 0 6 [] [(0, sm_R k), (1, sm_I p0), (2, sm_I p1), (3, sm_I p2), (4, sm_I x4), (5, sm_I x5)] μ) (x4 : Int32) (x5 : Int32) (s0 : Int32) (s1 : Int32) (μ : sm_Mem), w_T_valueWith_81 K J6 k p0 p1 p2 x4 x5 s0 s1 μ → sm_W p l e { frames := 1, cells := 0, slots := 0, locals := 23 } s m args below meth c A Q G 7 0 0 81 [sm_I s0, sm_I s1, sm_R (k + 3)] [(0, sm_R k), (1, sm_I p0), (2, sm_I p1), (3, sm_I p2), (4, sm_I x4), (5, sm_I x5)] μ := by
    intro J6 hJ6 x4 x5 s0 s1 μ h
    obtain ⟨g10, h⟩ := h
    refine sr_iast C t_k.2.2.2 g10 d_T_valueWith_81 ?_
    replace h := h _ rfl
    refine sr_iinc C 4 rfl (by decide) d_T_valueWith_82 rfl ?_
    refine sr_goto C (tgt := 171) (by decide) d_T_valueWith_85 ?_
    refine sr_mask C [1, 2, 3, 4, 0, 5] rfl ?_
    exact B171 _ hJ6 _ _ _ h
  have B38 : ∀ (J6 : Int32 → Int32 → sm_Mem → Prop) (hJ6 : ∀ (x4 : Int32) (x5 : Int32) (μ : sm_Mem), J6 x4 x5 μ → sm_W p l e { frames := 1, cells := 0, slots := 0, locals := 23 } s m args below meth c A Q G 7 0 0 6 [] [(0, sm_R k), (1, sm_I p0), (2, sm_I p1), (3, sm_I p2), (4, sm_I x4), (5, sm_I x5)] μ) (x4 : Int32) (x5 : Int32) (x6 : Int32) (μ : sm_Mem), w_T_valueWith_38 K J6 k p0 p1 p2 x4 x5 x6 μ → sm_W p l e { frames := 1, cells := 0, slots := 0, locals := 23 } s m args below meth c A Q G 7 0 0 38 [] [(0, sm_R k), (1, sm_I p0), (2, sm_I p1), (3, sm_I p2), (4, sm_I x4), (5, sm_I x5), (6, sm_I x6)] μ := by
    intro J6 hJ6 x4 x5 x6 μ h
    refine sr_iload C 4 rfl d_T_valueWith_38 ?_
    refine sr_bipush C (v := 50) d_T_valueWith_40 (by decide) ?_
    refine sr_icmp_ge C (tgt := 171) d_T_valueWith_42 (by decide) (fun c5 => ?_) (fun c5 => ?_)
    · replace h := Eq.mp (if_pos c5) h
      refine sr_mask C [0, 1, 2, 3, 4, 5] rfl ?_
      exact B171 _ hJ6 _ _ _ h
    · replace h := Eq.mp (if_neg c5) h
      refine sr_aload_n C 0 rfl rfl d_T_valueWith_45 ?_
      refine sr_getR C sm_F4 2 q_83 t_k.1 (r := k + 3) rfl (by decide) d_T_valueWith_46 ?_
      refine sr_iload C 4 rfl d_T_valueWith_49 ?_
      refine sr_iload C 6 rfl d_T_valueWith_51 ?_
      refine sr_bipush C (v := 110) d_T_valueWith_53 (by decide) ?_
      refine sr_icmp_ne C (tgt := 68) d_T_valueWith_55 (by decide) (fun c6 => ?_) (fun c6 => ?_)
      · replace h := Eq.mp (if_neg c6) h
        refine sr_aload_n C 0 rfl rfl d_T_valueWith_68 ?_
        refine sr_getR C sm_F4 1 q_85 t_k.1 (r := k + 2) rfl (by decide) d_T_valueWith_69 ?_
        refine sr_iload C 5 rfl d_T_valueWith_72 ?_
        obtain ⟨g7, h⟩ := h
        refine sr_iald C t_k.2.2.1 g7 d_T_valueWith_74 ?_
        refine sr_iload_n C 1 rfl rfl d_T_valueWith_75 ?_
        refine sr_iload_n C 2 rfl rfl d_T_valueWith_76 ?_
        refine sr_iload_n C 3 rfl rfl d_T_valueWith_77 ?_
        refine sr_callSI C [sm_I _, sm_I _, sm_I _, sm_I _] (P_T_named l h) ok_16 rfl rfl rfl ⟨Nat.le_of_ble_eq_true rfl, Nat.le_of_ble_eq_true rfl⟩ (Nat.le_of_ble_eq_true rfl) ⟨Nat.zero_le _, Nat.zero_le _⟩ d_T_valueWith_78 (fun r9 μ8 h => ?_)
        refine sr_mask C [0, 1, 2, 3, 4, 5] rfl ?_
        exact B81 _ hJ6 _ _ _ _ _ h
      · replace h := Eq.mp (if_pos c6) h
        refine sr_aload_n C 0 rfl rfl d_T_valueWith_58 ?_
        refine sr_getR C sm_F4 1 q_85 t_k.1 (r := k + 2) rfl (by decide) d_T_valueWith_59 ?_
        refine sr_iload C 5 rfl d_T_valueWith_62 ?_
        obtain ⟨g12, h⟩ := h
        refine sr_iald C t_k.2.2.1 g12 d_T_valueWith_64 ?_
        refine sr_goto C (tgt := 81) (by decide) d_T_valueWith_65 ?_
        refine sr_mask C [0, 1, 2, 3, 4, 5] rfl ?_
        exact B81 _ hJ6 _ _ _ _ _ h
  have B126 : ∀ (J6 : Int32 → Int32 → sm_Mem → Prop) (hJ6 : ∀ (x4 : Int32) (x5 : Int32) (μ : sm_Mem), J6 x4 x5 μ → sm_W p l e { frames := 1, cells := 0, slots := 0, locals := 23 } s m args below meth c A Q G 7 0 0 6 [] [(0, sm_R k), (1, sm_I p0), (2, sm_I p1), (3, sm_I p2), (4, sm_I x4), (5, sm_I x5)] μ) (x4 : Int32) (x5 : Int32) (s0 : Int32) (s1 : Int32) (μ : sm_Mem), w_T_valueWith_126 K J6 k p0 p1 p2 x4 x5 s0 s1 μ → sm_W p l e { frames := 1, cells := 0, slots := 0, locals := 23 } s m args below meth c A Q G 7 0 0 126 [sm_I s0, sm_I s1, sm_R (k + 3)] [(0, sm_R k), (1, sm_I p0), (2, sm_I p1), (3, sm_I p2), (4, sm_I x4), (5, sm_I x5)] μ := by
    intro J6 hJ6 x4 x5 s0 s1 μ h
    obtain ⟨g25, h⟩ := h
    refine sr_iast C t_k.2.2.2 g25 d_T_valueWith_126 ?_
    replace h := h _ rfl
    refine sr_goto C (tgt := 171) (by decide) d_T_valueWith_127 ?_
    exact B171 _ hJ6 _ _ _ h
  have B6 : ∀ (x4 : Int32) (x5 : Int32) (μ : sm_Mem), w_T_valueWith_6 K k p0 p1 p2 x4 x5 μ → sm_W p l e { frames := 1, cells := 0, slots := 0, locals := 23 } s m args below meth c A Q G 7 0 0 6 [] [(0, sm_R k), (1, sm_I p0), (2, sm_I p1), (3, sm_I p2), (4, sm_I x4), (5, sm_I x5)] μ := by
    intro x4 x5 μ h
    refine sm_lp2_sound (P := fun x4 x5 μ => sm_W p l e { frames := 1, cells := 0, slots := 0, locals := 23 } s m args below meth c A Q G 7 0 0 6 [] [(0, sm_R k), (1, sm_I p0), (2, sm_I p1), (3, sm_I p2), (4, sm_I x4), (5, sm_I x5)] μ) (fun J6 x4 x5 μ hJ6 h => ?_) h
    refine sr_iload C 5 rfl d_T_valueWith_6 ?_
    refine sr_aload_n C 0 rfl rfl d_T_valueWith_8 ?_
    refine sr_getI C sm_F4 3 q_82 t_k.1 rfl (by decide) d_T_valueWith_9 ?_
    refine sr_icmp_ge C (tgt := 177) d_T_valueWith_12 (by decide) (fun c1 => ?_) (fun c1 => ?_)
    · replace h := Eq.mp (if_pos c1) h
      refine sr_aload_n C 0 rfl rfl d_T_valueWith_177 ?_
      refine sr_getR C sm_F4 2 q_83 t_k.1 (r := k + 3) rfl (by decide) d_T_valueWith_178 ?_
      refine sr_iconst C (v := 0) d_T_valueWith_181 (by decide) ?_
      refine sr_ialdJ C t_k.2.2.2 (j := 0) (sm_vin (by decide)) (by decide) d_T_valueWith_182 ?_
      exact hR _ _ _ _ d_T_valueWith_183 rfl h
    · replace h := Eq.mp (if_neg c1) h
      refine sr_aload_n C 0 rfl rfl d_T_valueWith_15 ?_
      refine sr_getR C sm_F4 0 q_84 t_k.1 (r := k + 1) rfl (by decide) d_T_valueWith_16 ?_
      refine sr_iload C 5 rfl d_T_valueWith_19 ?_
      obtain ⟨g2, h⟩ := h
      refine sr_iald C t_k.2.1 g2 d_T_valueWith_21 ?_
      replace h := h _ rfl
      refine sr_istore C (by decide) d_T_valueWith_22 ?_
      refine sr_iload C 0 rfl d_T_valueWith_24 ?_
      refine sr_bipush C (v := 110) d_T_valueWith_26 (by decide) ?_
      refine sr_icmp_eq C (tgt := 38) d_T_valueWith_28 (by decide) (fun c4 => ?_) (fun c4 => ?_)
      · replace h := Eq.mp (if_pos c4) h
        refine sr_mask C [1, 2, 3, 4, 5, 6, 0] rfl ?_
        exact B38 _ hJ6 _ _ _ _ h
      · replace h := Eq.mp (if_neg c4) h
        refine sr_iload C 0 rfl d_T_valueWith_31 ?_
        refine sr_bipush C (v := 97) d_T_valueWith_33 (by decide) ?_
        refine sr_icmp_ne C (tgt := 88) d_T_valueWith_35 (by decide) (fun c13 => ?_) (fun c13 => ?_)
        · replace h := Eq.mp (if_neg c13) h
          refine sr_iload C 0 rfl d_T_valueWith_88 ?_
          refine sr_bipush C (v := 33) d_T_valueWith_90 (by decide) ?_
          refine sr_icmp_ne C (tgt := 130) d_T_valueWith_92 (by decide) (fun c14 => ?_) (fun c14 => ?_)
          · replace h := Eq.mp (if_neg c14) h
            refine sr_iload C 5 rfl d_T_valueWith_130 ?_
            refine sr_iconst C (v := 2) d_T_valueWith_132 (by decide) ?_
            refine sr_icmp_lt C (tgt := 171) d_T_valueWith_133 (by decide) (fun c15 => ?_) (fun c15 => ?_)
            · replace h := Eq.mp (if_pos c15) h
              refine sr_mask C [1, 2, 3, 4, 5, 6] rfl ?_
              exact B171 _ hJ6 _ _ _ h
            · replace h := Eq.mp (if_neg c15) h
              refine sr_aload_n C 1 rfl rfl d_T_valueWith_136 ?_
              refine sr_getR C sm_F4 2 q_83 t_k.1 (r := k + 3) rfl (by decide) d_T_valueWith_137 ?_
              refine sr_iload C 5 rfl d_T_valueWith_140 ?_
              refine sr_iconst C (v := 2) d_T_valueWith_142 (by decide) ?_
              refine sr_isub C d_T_valueWith_143 ?_
              refine sr_iload C 0 rfl d_T_valueWith_144 ?_
              refine sr_aload_n C 1 rfl rfl d_T_valueWith_146 ?_
              refine sr_getR C sm_F4 2 q_83 t_k.1 (r := k + 3) rfl (by decide) d_T_valueWith_147 ?_
              refine sr_iload C 5 rfl d_T_valueWith_150 ?_
              refine sr_iconst C (v := 2) d_T_valueWith_152 (by decide) ?_
              refine sr_isub C d_T_valueWith_153 ?_
              obtain ⟨g16, h⟩ := h
              refine sr_iald C t_k.2.2.2 g16 d_T_valueWith_154 ?_
              refine sr_aload_n C 1 rfl rfl d_T_valueWith_155 ?_
              refine sr_getR C sm_F4 2 q_83 t_k.1 (r := k + 3) rfl (by decide) d_T_valueWith_156 ?_
              refine sr_iload C 5 rfl d_T_valueWith_159 ?_
              refine sr_iconst C (v := 1) d_T_valueWith_161 (by decide) ?_
              refine sr_isub C d_T_valueWith_162 ?_
              obtain ⟨g17, h⟩ := h
              refine sr_iald C t_k.2.2.2 g17 d_T_valueWith_163 ?_
              refine sr_callSI C [sm_I _, sm_I _, sm_I _] (P_T_joined l h) ok_17 rfl rfl rfl ⟨Nat.le_of_ble_eq_true rfl, Nat.le_of_ble_eq_true rfl⟩ (Nat.le_of_ble_eq_true rfl) ⟨Nat.zero_le _, Nat.zero_le _⟩ d_T_valueWith_164 (fun r19 μ18 h => ?_)
              obtain ⟨g20, h⟩ := h
              refine sr_iast C t_k.2.2.2 g20 d_T_valueWith_167 ?_
              replace h := h _ rfl
              refine sr_iinc C 5 rfl (by decide) d_T_valueWith_168 rfl ?_
              refine sr_mask C [2, 3, 4, 5, 0, 6] rfl ?_
              exact B171 _ hJ6 _ _ _ h
          · replace h := Eq.mp (if_pos c14) h
            refine sr_iload C 5 rfl d_T_valueWith_95 ?_
            refine sr_iconst C (v := 1) d_T_valueWith_97 (by decide) ?_
            refine sr_icmp_lt C (tgt := 171) d_T_valueWith_98 (by decide) (fun c22 => ?_) (fun c22 => ?_)
            · replace h := Eq.mp (if_pos c22) h
              refine sr_mask C [1, 2, 3, 4, 5, 6] rfl ?_
              exact B171 _ hJ6 _ _ _ h
            · replace h := Eq.mp (if_neg c22) h
              refine sr_aload_n C 1 rfl rfl d_T_valueWith_101 ?_
              refine sr_getR C sm_F4 2 q_83 t_k.1 (r := k + 3) rfl (by decide) d_T_valueWith_102 ?_
              refine sr_iload C 5 rfl d_T_valueWith_105 ?_
              refine sr_iconst C (v := 1) d_T_valueWith_107 (by decide) ?_
              refine sr_isub C d_T_valueWith_108 ?_
              refine sr_aload_n C 1 rfl rfl d_T_valueWith_109 ?_
              refine sr_getR C sm_F4 2 q_83 t_k.1 (r := k + 3) rfl (by decide) d_T_valueWith_110 ?_
              refine sr_iload C 5 rfl d_T_valueWith_113 ?_
              refine sr_iconst C (v := 1) d_T_valueWith_115 (by decide) ?_
              refine sr_isub C d_T_valueWith_116 ?_
              obtain ⟨g23, h⟩ := h
              refine sr_iald C t_k.2.2.2 g23 d_T_valueWith_117 ?_
              refine sr_if_ne C (tgt := 125) d_T_valueWith_118 (by decide) (fun c24 => ?_) (fun c24 => ?_)
              · replace h := Eq.mp (if_neg c24) h
                refine sr_iconst C (v := 0) d_T_valueWith_125 (by decide) ?_
                refine sr_mask C [1, 2, 3, 4, 5, 6] rfl ?_
                exact B126 _ hJ6 _ _ _ _ _ h
              · replace h := Eq.mp (if_pos c24) h
                refine sr_iconst C (v := 1) d_T_valueWith_121 (by decide) ?_
                refine sr_goto C (tgt := 126) (by decide) d_T_valueWith_122 ?_
                refine sr_mask C [1, 2, 3, 4, 5, 6] rfl ?_
                exact B126 _ hJ6 _ _ _ _ _ h
        · replace h := Eq.mp (if_pos c13) h
          refine sr_mask C [1, 2, 3, 4, 5, 6, 0] rfl ?_
          exact B38 _ hJ6 _ _ _ _ h
  refine sr_iconst C (v := 0) d_T_valueWith_0 (by decide) ?_
  refine sr_istore C (by decide) d_T_valueWith_1 ?_
  refine sr_iconst C (v := 0) d_T_valueWith_3 (by decide) ?_
  refine sr_istore C (by decide) d_T_valueWith_4 ?_
  refine sr_mask C [2, 3, 4, 5, 1, 0] rfl ?_
  exact B6 _ _ _ h
theorem d_K_meltsBelowZeroToo_0 : decode prog_4_method_5_code 0 = .ok (.iload_n 0, 1) := by decide +kernel
theorem d_K_meltsBelowZeroToo_1 : decode prog_4_method_5_code 1 = .ok (.tableswitch 70 1 6 #[39, 43, 47, 51, 57, 63], 39) := by decide +kernel
theorem d_K_meltsBelowZeroToo_40 : decode prog_4_method_5_code 40 = .ok (.iload_n 2, 1) := by decide +kernel
theorem d_K_meltsBelowZeroToo_41 : decode prog_4_method_5_code 41 = .ok (.iconst 2, 1) := by decide +kernel
theorem d_K_meltsBelowZeroToo_42 : decode prog_4_method_5_code 42 = .ok (.idiv, 1) := by decide +kernel
theorem d_K_meltsBelowZeroToo_43 : decode prog_4_method_5_code 43 = .ok (.ireturn, 1) := by decide +kernel
theorem d_K_meltsBelowZeroToo_44 : decode prog_4_method_5_code 44 = .ok (.iload_n 2, 1) := by decide +kernel
theorem d_K_meltsBelowZeroToo_45 : decode prog_4_method_5_code 45 = .ok (.iconst 2, 1) := by decide +kernel
theorem d_K_meltsBelowZeroToo_46 : decode prog_4_method_5_code 46 = .ok (.iadd, 1) := by decide +kernel
theorem d_K_meltsBelowZeroToo_47 : decode prog_4_method_5_code 47 = .ok (.ireturn, 1) := by decide +kernel
theorem d_K_meltsBelowZeroToo_48 : decode prog_4_method_5_code 48 = .ok (.iload_n 2, 1) := by decide +kernel
theorem d_K_meltsBelowZeroToo_49 : decode prog_4_method_5_code 49 = .ok (.iload_n 1, 1) := by decide +kernel
theorem d_K_meltsBelowZeroToo_50 : decode prog_4_method_5_code 50 = .ok (.isub, 1) := by decide +kernel
theorem d_K_meltsBelowZeroToo_51 : decode prog_4_method_5_code 51 = .ok (.ireturn, 1) := by decide +kernel
theorem d_K_meltsBelowZeroToo_52 : decode prog_4_method_5_code 52 = .ok (.iload_n 2, 1) := by decide +kernel
theorem d_K_meltsBelowZeroToo_53 : decode prog_4_method_5_code 53 = .ok (.iconst 2, 1) := by decide +kernel
theorem d_K_meltsBelowZeroToo_54 : decode prog_4_method_5_code 54 = .ok (.idiv, 1) := by decide +kernel
theorem d_K_meltsBelowZeroToo_55 : decode prog_4_method_5_code 55 = .ok (.iconst 1, 1) := by decide +kernel
theorem d_K_meltsBelowZeroToo_56 : decode prog_4_method_5_code 56 = .ok (.isub, 1) := by decide +kernel
theorem d_K_meltsBelowZeroToo_57 : decode prog_4_method_5_code 57 = .ok (.ireturn, 1) := by decide +kernel
theorem d_K_meltsBelowZeroToo_58 : decode prog_4_method_5_code 58 = .ok (.iconst 2, 1) := by decide +kernel
theorem d_K_meltsBelowZeroToo_59 : decode prog_4_method_5_code 59 = .ok (.iload_n 2, 1) := by decide +kernel
theorem d_K_meltsBelowZeroToo_60 : decode prog_4_method_5_code 60 = .ok (.iconst 2, 1) := by decide +kernel
theorem d_K_meltsBelowZeroToo_61 : decode prog_4_method_5_code 61 = .ok (.iadd, 1) := by decide +kernel
theorem d_K_meltsBelowZeroToo_62 : decode prog_4_method_5_code 62 = .ok (.imul, 1) := by decide +kernel
theorem d_K_meltsBelowZeroToo_63 : decode prog_4_method_5_code 63 = .ok (.ireturn, 1) := by decide +kernel
theorem d_K_meltsBelowZeroToo_64 : decode prog_4_method_5_code 64 = .ok (.iload_n 2, 1) := by decide +kernel
theorem d_K_meltsBelowZeroToo_65 : decode prog_4_method_5_code 65 = .ok (.iload_n 1, 1) := by decide +kernel
theorem d_K_meltsBelowZeroToo_66 : decode prog_4_method_5_code 66 = .ok (.isub, 1) := by decide +kernel
theorem d_K_meltsBelowZeroToo_67 : decode prog_4_method_5_code 67 = .ok (.bipush 9, 2) := by decide +kernel
theorem d_K_meltsBelowZeroToo_69 : decode prog_4_method_5_code 69 = .ok (.iadd, 1) := by decide +kernel
theorem d_K_meltsBelowZeroToo_70 : decode prog_4_method_5_code 70 = .ok (.ireturn, 1) := by decide +kernel
theorem d_K_meltsBelowZeroToo_71 : decode prog_4_method_5_code 71 = .ok (.iload_n 2, 1) := by decide +kernel
theorem d_K_meltsBelowZeroToo_72 : decode prog_4_method_5_code 72 = .ok (.ireturn, 1) := by decide +kernel
def w_K_meltsBelowZeroToo (K : Int32 → sm_Mem → Prop) (p0 : Int32) (p1 : Int32) (p2 : Int32) (μ : sm_Mem) : Prop := ∀ v1 : Int32, v1 = p0 → if v1 = 1 then K (p2 / 2) μ else (if v1 = 2 then K (p2 + 2) μ else (if v1 = 3 then K (p2 - p1) μ else (if v1 = 4 then K ((p2 / 2) - 1) μ else (if v1 = 5 then K (2 * (p2 + 2)) μ else (if v1 = 6 then K ((p2 - p1) + 9) μ else K p2 μ)))))
set_option maxHeartbeats 4000000 in
set_option maxRecDepth 100000 in
theorem P_K_meltsBelowZeroToo (l : Launch) {K : Int32 → sm_Mem → Prop} {p0 : Int32} {p1 : Int32} {p2 : Int32} {μ : sm_Mem} (h : w_K_meltsBelowZeroToo K p0 p1 p2 μ) : sm_MI l ⟨"SnowMoney$Kinds", "meltsBelowZeroToo", "(III)I"⟩ prog_4_method_5_code 3 (some .int) { frames := 0, cells := 0, slots := 0, locals := 0 } [sm_I p0, sm_I p1, sm_I p2] μ K := by
  refine sm_ofI (by decide +kernel) (fun _ => Nat.le_of_ble_eq_true rfl) ?_
  intro p e s m args below meth c A Q G C hR
  refine sr_iload_n C 0 rfl rfl d_K_meltsBelowZeroToo_0 ?_
  refine sm_name (fun v1 ev1 => ?_)
  replace h := h v1 ev1
  by_cases c2 : v1 = 1
  · replace h := Eq.mp (if_pos c2) h
    refine sr_tableIn C (tgt := 40) (off := 39) d_K_meltsBelowZeroToo_1 (by rw [c2]; decide) (by rw [c2]; decide) (by rw [c2]; decide) (by decide) ?_
    refine sr_iload_n C 2 rfl rfl d_K_meltsBelowZeroToo_40 ?_
    refine sr_iconst C (v := 2) d_K_meltsBelowZeroToo_41 (by decide) ?_
    refine sr_idiv C (by decide) d_K_meltsBelowZeroToo_42 ?_
    exact hR _ _ _ _ d_K_meltsBelowZeroToo_43 rfl h
  · replace h := Eq.mp (if_neg c2) h
    by_cases c3 : v1 = 2
    · replace h := Eq.mp (if_pos c3) h
      refine sr_tableIn C (tgt := 44) (off := 43) d_K_meltsBelowZeroToo_1 (by rw [c3]; decide) (by rw [c3]; decide) (by rw [c3]; decide) (by decide) ?_
      refine sr_iload_n C 2 rfl rfl d_K_meltsBelowZeroToo_44 ?_
      refine sr_iconst C (v := 2) d_K_meltsBelowZeroToo_45 (by decide) ?_
      refine sr_iadd C d_K_meltsBelowZeroToo_46 ?_
      exact hR _ _ _ _ d_K_meltsBelowZeroToo_47 rfl h
    · replace h := Eq.mp (if_neg c3) h
      by_cases c4 : v1 = 3
      · replace h := Eq.mp (if_pos c4) h
        refine sr_tableIn C (tgt := 48) (off := 47) d_K_meltsBelowZeroToo_1 (by rw [c4]; decide) (by rw [c4]; decide) (by rw [c4]; decide) (by decide) ?_
        refine sr_iload_n C 2 rfl rfl d_K_meltsBelowZeroToo_48 ?_
        refine sr_iload_n C 1 rfl rfl d_K_meltsBelowZeroToo_49 ?_
        refine sr_isub C d_K_meltsBelowZeroToo_50 ?_
        exact hR _ _ _ _ d_K_meltsBelowZeroToo_51 rfl h
      · replace h := Eq.mp (if_neg c4) h
        by_cases c5 : v1 = 4
        · replace h := Eq.mp (if_pos c5) h
          refine sr_tableIn C (tgt := 52) (off := 51) d_K_meltsBelowZeroToo_1 (by rw [c5]; decide) (by rw [c5]; decide) (by rw [c5]; decide) (by decide) ?_
          refine sr_iload_n C 2 rfl rfl d_K_meltsBelowZeroToo_52 ?_
          refine sr_iconst C (v := 2) d_K_meltsBelowZeroToo_53 (by decide) ?_
          refine sr_idiv C (by decide) d_K_meltsBelowZeroToo_54 ?_
          refine sr_iconst C (v := 1) d_K_meltsBelowZeroToo_55 (by decide) ?_
          refine sr_isub C d_K_meltsBelowZeroToo_56 ?_
          exact hR _ _ _ _ d_K_meltsBelowZeroToo_57 rfl h
        · replace h := Eq.mp (if_neg c5) h
          by_cases c6 : v1 = 5
          · replace h := Eq.mp (if_pos c6) h
            refine sr_tableIn C (tgt := 58) (off := 57) d_K_meltsBelowZeroToo_1 (by rw [c6]; decide) (by rw [c6]; decide) (by rw [c6]; decide) (by decide) ?_
            refine sr_iconst C (v := 2) d_K_meltsBelowZeroToo_58 (by decide) ?_
            refine sr_iload_n C 2 rfl rfl d_K_meltsBelowZeroToo_59 ?_
            refine sr_iconst C (v := 2) d_K_meltsBelowZeroToo_60 (by decide) ?_
            refine sr_iadd C d_K_meltsBelowZeroToo_61 ?_
            refine sr_imul C d_K_meltsBelowZeroToo_62 ?_
            exact hR _ _ _ _ d_K_meltsBelowZeroToo_63 rfl h
          · replace h := Eq.mp (if_neg c6) h
            by_cases c7 : v1 = 6
            · replace h := Eq.mp (if_pos c7) h
              refine sr_tableIn C (tgt := 64) (off := 63) d_K_meltsBelowZeroToo_1 (by rw [c7]; decide) (by rw [c7]; decide) (by rw [c7]; decide) (by decide) ?_
              refine sr_iload_n C 2 rfl rfl d_K_meltsBelowZeroToo_64 ?_
              refine sr_iload_n C 1 rfl rfl d_K_meltsBelowZeroToo_65 ?_
              refine sr_isub C d_K_meltsBelowZeroToo_66 ?_
              refine sr_bipush C (v := 9) d_K_meltsBelowZeroToo_67 (by decide) ?_
              refine sr_iadd C d_K_meltsBelowZeroToo_69 ?_
              exact hR _ _ _ _ d_K_meltsBelowZeroToo_70 rfl h
            · replace h := Eq.mp (if_neg c7) h
              have i0 := sm_ne c2 (z := 1) (by decide)
              have i1 := sm_ne c3 (z := 2) (by decide)
              have i2 := sm_ne c4 (z := 3) (by decide)
              have i3 := sm_ne c5 (z := 4) (by decide)
              have i4 := sm_ne c6 (z := 5) (by decide)
              have i5 := sm_ne c7 (z := 6) (by decide)
              refine sr_tableOut C (tgt := 71) d_K_meltsBelowZeroToo_1 (by omega) (by decide) ?_
              refine sr_iload_n C 2 rfl rfl d_K_meltsBelowZeroToo_71 ?_
              exact hR _ _ _ _ d_K_meltsBelowZeroToo_72 rfl h
theorem d_K_melts_0 : decode prog_4_method_4_code 0 = .ok (.iconst 0, 1) := by decide +kernel
theorem d_K_melts_1 : decode prog_4_method_4_code 1 = .ok (.iload_n 0, 1) := by decide +kernel
theorem d_K_melts_2 : decode prog_4_method_4_code 2 = .ok (.iload_n 1, 1) := by decide +kernel
theorem d_K_melts_3 : decode prog_4_method_4_code 3 = .ok (.iload_n 2, 1) := by decide +kernel
theorem d_K_melts_4 : decode prog_4_method_4_code 4 = .ok (.invokestatic 17, 3) := by decide +kernel
theorem d_K_melts_7 : decode prog_4_method_4_code 7 = .ok (.invokestatic 21, 3) := by decide +kernel
theorem d_K_melts_10 : decode prog_4_method_4_code 10 = .ok (.ireturn, 1) := by decide +kernel
def w_K_melts (K : Int32 → sm_Mem → Prop) (p0 : Int32) (p1 : Int32) (p2 : Int32) (μ : sm_Mem) : Prop := w_K_meltsBelowZeroToo (fun r2 μ1 => K (if 0 < r2 then r2 else 0) μ1) p0 p1 p2 μ
set_option maxHeartbeats 4000000 in
set_option maxRecDepth 100000 in
theorem P_K_melts (l : Launch) {K : Int32 → sm_Mem → Prop} {p0 : Int32} {p1 : Int32} {p2 : Int32} {μ : sm_Mem} (h : w_K_melts K p0 p1 p2 μ) : sm_MI l ⟨"SnowMoney$Kinds", "melts", "(III)I"⟩ prog_4_method_4_code 3 (some .int) { frames := 1, cells := 0, slots := 0, locals := 24 } [sm_I p0, sm_I p1, sm_I p2] μ K := by
  refine sm_ofI (by decide +kernel) (fun _ => Nat.le_of_ble_eq_true rfl) ?_
  intro p e s m args below meth c A Q G C hR
  refine sr_iconst C (v := 0) d_K_melts_0 (by decide) ?_
  refine sr_iload_n C 0 rfl rfl d_K_melts_1 ?_
  refine sr_iload_n C 1 rfl rfl d_K_melts_2 ?_
  refine sr_iload_n C 2 rfl rfl d_K_melts_3 ?_
  refine sr_callSI C [sm_I _, sm_I _, sm_I _] (P_K_meltsBelowZeroToo l h) ok_18 rfl rfl rfl ⟨Nat.le_of_ble_eq_true rfl, Nat.le_of_ble_eq_true rfl⟩ (Nat.le_of_ble_eq_true rfl) ⟨Nat.zero_le _, Nat.zero_le _⟩ d_K_melts_4 (fun r2 μ1 h => ?_)
  refine sr_mmax C q_96 q_mmax1 q_mini q_mmax2 (Nat.le_of_ble_eq_true rfl) (Nat.le_of_ble_eq_true rfl) ⟨Nat.zero_le _, Nat.zero_le _⟩ d_K_melts_7 ?_
  exact hR _ _ _ _ d_K_melts_10 rfl h
theorem d_K_above_0 : decode prog_4_method_2_code 0 = .ok (.iload_n 0, 1) := by decide +kernel
theorem d_K_above_1 : decode prog_4_method_2_code 1 = .ok (.ifCond .lt 19, 3) := by decide +kernel
theorem d_K_above_4 : decode prog_4_method_2_code 4 = .ok (.iload_n 0, 1) := by decide +kernel
theorem d_K_above_5 : decode prog_4_method_2_code 5 = .ok (.getstatic 7, 3) := by decide +kernel
theorem d_K_above_8 : decode prog_4_method_2_code 8 = .ok (.arraylength, 1) := by decide +kernel
theorem d_K_above_9 : decode prog_4_method_2_code 9 = .ok (.if_icmp .ge 11, 3) := by decide +kernel
theorem d_K_above_12 : decode prog_4_method_2_code 12 = .ok (.getstatic 7, 3) := by decide +kernel
theorem d_K_above_15 : decode prog_4_method_2_code 15 = .ok (.iload_n 0, 1) := by decide +kernel
theorem d_K_above_16 : decode prog_4_method_2_code 16 = .ok (.iaload, 1) := by decide +kernel
theorem d_K_above_17 : decode prog_4_method_2_code 17 = .ok (.goto 4, 3) := by decide +kernel
theorem d_K_above_20 : decode prog_4_method_2_code 20 = .ok (.iconst (-1), 1) := by decide +kernel
theorem d_K_above_21 : decode prog_4_method_2_code 21 = .ok (.ireturn, 1) := by decide +kernel
def w_K_above (K : Int32 → sm_Mem → Prop) (p0 : Int32) (μ : sm_Mem) : Prop := if p0 < 0 then K (-1) μ else (if 7 ≤ p0 then K (-1) μ else (vp_in p0 7 ∧ K (sm_above.getD p0.toNatClampNeg 0) μ))
set_option maxHeartbeats 4000000 in
set_option maxRecDepth 100000 in
theorem P_K_above (l : Launch) {K : Int32 → sm_Mem → Prop} {p0 : Int32} {μ : sm_Mem} (h : w_K_above K p0 μ) : sm_MI l ⟨"SnowMoney$Kinds", "above", "(I)I"⟩ prog_4_method_2_code 1 (some .int) { frames := 0, cells := 0, slots := 0, locals := 0 } [sm_I p0] μ K := by
  refine sm_ofI (by decide +kernel) (fun _ => Nat.le_of_ble_eq_true rfl) ?_
  intro p e s m args below meth c A Q G C hR
  refine sr_iload_n C 0 rfl rfl d_K_above_0 ?_
  refine sr_if_lt C (tgt := 20) d_K_above_1 (by decide) (fun c1 => ?_) (fun c1 => ?_)
  · replace h := Eq.mp (if_pos c1) h
    refine sr_iconst C (v := (-1)) d_K_above_20 (by decide) ?_
    exact hR _ _ _ _ d_K_above_21 rfl h
  · replace h := Eq.mp (if_neg c1) h
    refine sr_iload_n C 0 rfl rfl d_K_above_4 ?_
    refine sr_getsA C q_109 d_K_above_5 ?_
    refine sr_tlenA C (v := 7) (by decide) d_K_above_8 ?_
    refine sr_icmp_ge C (tgt := 20) d_K_above_9 (by decide) (fun c2 => ?_) (fun c2 => ?_)
    · replace h := Eq.mp (if_pos c2) h
      refine sr_iconst C (v := (-1)) d_K_above_20 (by decide) ?_
      exact hR _ _ _ _ d_K_above_21 rfl h
    · replace h := Eq.mp (if_neg c2) h
      refine sr_getsA C q_109 d_K_above_12 ?_
      refine sr_iload_n C 0 rfl rfl d_K_above_15 ?_
      obtain ⟨g3, h⟩ := h
      refine sr_tabA C g3 d_K_above_16 ?_
      refine sr_goto C (tgt := 21) (by decide) d_K_above_17 ?_
      exact hR _ _ _ _ d_K_above_21 rfl h
theorem d_K_isOf_0 : decode prog_4_method_3_code 0 = .ok (.iload_n 0, 1) := by decide +kernel
theorem d_K_isOf_1 : decode prog_4_method_3_code 1 = .ok (.istore_n 2, 1) := by decide +kernel
theorem d_K_isOf_2 : decode prog_4_method_3_code 2 = .ok (.iconst 0, 1) := by decide +kernel
theorem d_K_isOf_3 : decode prog_4_method_3_code 3 = .ok (.istore_n 3, 1) := by decide +kernel
theorem d_K_isOf_4 : decode prog_4_method_3_code 4 = .ok (.iload_n 3, 1) := by decide +kernel
theorem d_K_isOf_5 : decode prog_4_method_3_code 5 = .ok (.getstatic 7, 3) := by decide +kernel
theorem d_K_isOf_8 : decode prog_4_method_3_code 8 = .ok (.arraylength, 1) := by decide +kernel
theorem d_K_isOf_9 : decode prog_4_method_3_code 9 = .ok (.if_icmp .ge 25, 3) := by decide +kernel
theorem d_K_isOf_12 : decode prog_4_method_3_code 12 = .ok (.iload_n 2, 1) := by decide +kernel
theorem d_K_isOf_13 : decode prog_4_method_3_code 13 = .ok (.ifCond .lt 21, 3) := by decide +kernel
theorem d_K_isOf_16 : decode prog_4_method_3_code 16 = .ok (.iload_n 2, 1) := by decide +kernel
theorem d_K_isOf_17 : decode prog_4_method_3_code 17 = .ok (.iload_n 1, 1) := by decide +kernel
theorem d_K_isOf_18 : decode prog_4_method_3_code 18 = .ok (.if_icmp .ne 5, 3) := by decide +kernel
theorem d_K_isOf_21 : decode prog_4_method_3_code 21 = .ok (.iconst 1, 1) := by decide +kernel
theorem d_K_isOf_22 : decode prog_4_method_3_code 22 = .ok (.ireturn, 1) := by decide +kernel
theorem d_K_isOf_23 : decode prog_4_method_3_code 23 = .ok (.iload_n 2, 1) := by decide +kernel
theorem d_K_isOf_24 : decode prog_4_method_3_code 24 = .ok (.invokestatic 13, 3) := by decide +kernel
theorem d_K_isOf_27 : decode prog_4_method_3_code 27 = .ok (.istore_n 2, 1) := by decide +kernel
theorem d_K_isOf_28 : decode prog_4_method_3_code 28 = .ok (.iinc 3 1, 3) := by decide +kernel
theorem d_K_isOf_31 : decode prog_4_method_3_code 31 = .ok (.goto (-27), 3) := by decide +kernel
theorem d_K_isOf_34 : decode prog_4_method_3_code 34 = .ok (.iconst 0, 1) := by decide +kernel
theorem d_K_isOf_35 : decode prog_4_method_3_code 35 = .ok (.ireturn, 1) := by decide +kernel
def w_K_isOf_4 (K : Int32 → sm_Mem → Prop) (p0 : Int32) (p1 : Int32) (x2 : Int32) (x3 : Int32) (μ : sm_Mem) : Prop := sm_lp2 (fun J4 x2 x3 μ => if 7 ≤ x3 then K 0 μ else (if x2 < 0 then K 0 μ else (if x2 = p1 then K 1 μ else w_K_above (fun r5 μ4 => J4 r5 (x3 + 1) μ4) x2 μ))) x2 x3 μ
def w_K_isOf (K : Int32 → sm_Mem → Prop) (p0 : Int32) (p1 : Int32) (μ : sm_Mem) : Prop := w_K_isOf_4 K p0 p1 p0 0 μ
set_option maxHeartbeats 4000000 in
set_option maxRecDepth 100000 in
theorem P_K_isOf (l : Launch) {K : Int32 → sm_Mem → Prop} {p0 : Int32} {p1 : Int32} {μ : sm_Mem} (h : w_K_isOf K p0 p1 μ) : sm_MI l ⟨"SnowMoney$Kinds", "isOf", "(II)Z"⟩ prog_4_method_3_code 4 (some .boolean) { frames := 1, cells := 0, slots := 0, locals := 20 } [sm_I p0, sm_I p1] μ K := by
  refine sm_ofI (by decide +kernel) (fun _ => Nat.le_of_ble_eq_true rfl) ?_
  intro p e s m args below meth c A Q G C hR
  have B4 : ∀ (x2 : Int32) (x3 : Int32) (μ : sm_Mem), w_K_isOf_4 K p0 p1 x2 x3 μ → sm_W p l e { frames := 1, cells := 0, slots := 0, locals := 20 } s m args below meth c A Q G 4 0 0 4 [] [(1, sm_I p1), (2, sm_I x2), (3, sm_I x3)] μ := by
    intro x2 x3 μ h
    refine sm_lp2_sound (P := fun x2 x3 μ => sm_W p l e { frames := 1, cells := 0, slots := 0, locals := 20 } s m args below meth c A Q G 4 0 0 4 [] [(1, sm_I p1), (2, sm_I x2), (3, sm_I x3)] μ) (fun J4 x2 x3 μ hJ4 h => ?_) h
    refine sr_iload_n C 2 rfl rfl d_K_isOf_4 ?_
    refine sr_getsA C q_109 d_K_isOf_5 ?_
    refine sr_tlenA C (v := 7) (by decide) d_K_isOf_8 ?_
    refine sr_icmp_ge C (tgt := 34) d_K_isOf_9 (by decide) (fun c1 => ?_) (fun c1 => ?_)
    · replace h := Eq.mp (if_pos c1) h
      refine sr_iconst C (v := 0) d_K_isOf_34 (by decide) ?_
      exact hR _ _ _ _ d_K_isOf_35 rfl h
    · replace h := Eq.mp (if_neg c1) h
      refine sr_iload_n C 1 rfl rfl d_K_isOf_12 ?_
      refine sr_if_lt C (tgt := 34) d_K_isOf_13 (by decide) (fun c2 => ?_) (fun c2 => ?_)
      · replace h := Eq.mp (if_pos c2) h
        refine sr_iconst C (v := 0) d_K_isOf_34 (by decide) ?_
        exact hR _ _ _ _ d_K_isOf_35 rfl h
      · replace h := Eq.mp (if_neg c2) h
        refine sr_iload_n C 1 rfl rfl d_K_isOf_16 ?_
        refine sr_iload_n C 0 rfl rfl d_K_isOf_17 ?_
        refine sr_icmp_ne C (tgt := 23) d_K_isOf_18 (by decide) (fun c3 => ?_) (fun c3 => ?_)
        · replace h := Eq.mp (if_neg c3) h
          refine sr_iload_n C 1 rfl rfl d_K_isOf_23 ?_
          refine sr_callSI C [sm_I _] (P_K_above l h) ok_22 rfl rfl rfl ⟨Nat.le_of_ble_eq_true rfl, Nat.le_of_ble_eq_true rfl⟩ (Nat.le_of_ble_eq_true rfl) ⟨Nat.zero_le _, Nat.zero_le _⟩ d_K_isOf_24 (fun r5 μ4 h => ?_)
          refine sr_istore_n C rfl (by decide) d_K_isOf_27 ?_
          refine sr_iinc C 2 rfl (by decide) d_K_isOf_28 rfl ?_
          refine sr_goto C (tgt := 4) (by decide) d_K_isOf_31 ?_
          refine sr_mask C [2, 1, 0] rfl ?_
          exact hJ4 _ _ _ h
        · replace h := Eq.mp (if_pos c3) h
          refine sr_iconst C (v := 1) d_K_isOf_21 (by decide) ?_
          exact hR _ _ _ _ d_K_isOf_22 rfl h
  refine sr_iload_n C 0 rfl rfl d_K_isOf_0 ?_
  refine sr_istore_n C rfl (by decide) d_K_isOf_1 ?_
  refine sr_iconst C (v := 0) d_K_isOf_2 (by decide) ?_
  refine sr_istore_n C rfl (by decide) d_K_isOf_3 ?_
  refine sr_mask C [3, 1, 0] rfl ?_
  exact B4 _ _ _ h
theorem d_K_pays_0 : decode prog_4_method_6_code 0 = .ok (.iload_n 0, 1) := by decide +kernel
theorem d_K_pays_1 : decode prog_4_method_6_code 1 = .ok (.tableswitch 87 1 5 #[35, 39, 49, 61, 75], 35) := by decide +kernel
theorem d_K_pays_36 : decode prog_4_method_6_code 36 = .ok (.iconst 2, 1) := by decide +kernel
theorem d_K_pays_37 : decode prog_4_method_6_code 37 = .ok (.iload_n 2, 1) := by decide +kernel
theorem d_K_pays_38 : decode prog_4_method_6_code 38 = .ok (.imul, 1) := by decide +kernel
theorem d_K_pays_39 : decode prog_4_method_6_code 39 = .ok (.ireturn, 1) := by decide +kernel
theorem d_K_pays_40 : decode prog_4_method_6_code 40 = .ok (.iload_n 3, 1) := by decide +kernel
theorem d_K_pays_41 : decode prog_4_method_6_code 41 = .ok (.ifCond .eq 7, 3) := by decide +kernel
theorem d_K_pays_44 : decode prog_4_method_6_code 44 = .ok (.iconst 0, 1) := by decide +kernel
theorem d_K_pays_45 : decode prog_4_method_6_code 45 = .ok (.goto 4, 3) := by decide +kernel
theorem d_K_pays_48 : decode prog_4_method_6_code 48 = .ok (.iload_n 2, 1) := by decide +kernel
theorem d_K_pays_49 : decode prog_4_method_6_code 49 = .ok (.ireturn, 1) := by decide +kernel
theorem d_K_pays_50 : decode prog_4_method_6_code 50 = .ok (.iload_n 2, 1) := by decide +kernel
theorem d_K_pays_51 : decode prog_4_method_6_code 51 = .ok (.ifCond .le 9, 3) := by decide +kernel
theorem d_K_pays_54 : decode prog_4_method_6_code 54 = .ok (.iload_n 2, 1) := by decide +kernel
theorem d_K_pays_55 : decode prog_4_method_6_code 55 = .ok (.iload_n 1, 1) := by decide +kernel
theorem d_K_pays_56 : decode prog_4_method_6_code 56 = .ok (.iadd, 1) := by decide +kernel
theorem d_K_pays_57 : decode prog_4_method_6_code 57 = .ok (.goto 4, 3) := by decide +kernel
theorem d_K_pays_60 : decode prog_4_method_6_code 60 = .ok (.iconst 0, 1) := by decide +kernel
theorem d_K_pays_61 : decode prog_4_method_6_code 61 = .ok (.ireturn, 1) := by decide +kernel
theorem d_K_pays_62 : decode prog_4_method_6_code 62 = .ok (.iload_n 2, 1) := by decide +kernel
theorem d_K_pays_63 : decode prog_4_method_6_code 63 = .ok (.ifCond .le 11, 3) := by decide +kernel
theorem d_K_pays_66 : decode prog_4_method_6_code 66 = .ok (.iconst 2, 1) := by decide +kernel
theorem d_K_pays_67 : decode prog_4_method_6_code 67 = .ok (.iload_n 2, 1) := by decide +kernel
theorem d_K_pays_68 : decode prog_4_method_6_code 68 = .ok (.imul, 1) := by decide +kernel
theorem d_K_pays_69 : decode prog_4_method_6_code 69 = .ok (.iconst 5, 1) := by decide +kernel
theorem d_K_pays_70 : decode prog_4_method_6_code 70 = .ok (.iadd, 1) := by decide +kernel
theorem d_K_pays_71 : decode prog_4_method_6_code 71 = .ok (.goto 4, 3) := by decide +kernel
theorem d_K_pays_74 : decode prog_4_method_6_code 74 = .ok (.iconst 0, 1) := by decide +kernel
theorem d_K_pays_75 : decode prog_4_method_6_code 75 = .ok (.ireturn, 1) := by decide +kernel
theorem d_K_pays_76 : decode prog_4_method_6_code 76 = .ok (.iload_n 3, 1) := by decide +kernel
theorem d_K_pays_77 : decode prog_4_method_6_code 77 = .ok (.ifCond .eq 7, 3) := by decide +kernel
theorem d_K_pays_80 : decode prog_4_method_6_code 80 = .ok (.iconst 0, 1) := by decide +kernel
theorem d_K_pays_81 : decode prog_4_method_6_code 81 = .ok (.goto 6, 3) := by decide +kernel
theorem d_K_pays_84 : decode prog_4_method_6_code 84 = .ok (.iload_n 2, 1) := by decide +kernel
theorem d_K_pays_85 : decode prog_4_method_6_code 85 = .ok (.iconst 2, 1) := by decide +kernel
theorem d_K_pays_86 : decode prog_4_method_6_code 86 = .ok (.idiv, 1) := by decide +kernel
theorem d_K_pays_87 : decode prog_4_method_6_code 87 = .ok (.ireturn, 1) := by decide +kernel
theorem d_K_pays_88 : decode prog_4_method_6_code 88 = .ok (.iload_n 2, 1) := by decide +kernel
theorem d_K_pays_89 : decode prog_4_method_6_code 89 = .ok (.ireturn, 1) := by decide +kernel
def w_K_pays (K : Int32 → sm_Mem → Prop) (p0 : Int32) (p1 : Int32) (p2 : Int32) (p3 : Int32) (μ : sm_Mem) : Prop := ∀ v1 : Int32, v1 = p0 → if v1 = 1 then K (2 * p2) μ else (if v1 = 2 then (if p3 = 0 then K p2 μ else K 0 μ) else (if v1 = 3 then (if p2 ≤ 0 then K 0 μ else K (p2 + p1) μ) else (if v1 = 4 then (if p2 ≤ 0 then K 0 μ else K ((2 * p2) + 5) μ) else (if v1 = 5 then (if p3 = 0 then K (p2 / 2) μ else K 0 μ) else K p2 μ))))
set_option maxHeartbeats 4000000 in
set_option maxRecDepth 100000 in
theorem P_K_pays (l : Launch) {K : Int32 → sm_Mem → Prop} {p0 : Int32} {p1 : Int32} {p2 : Int32} {p3 : Int32} {μ : sm_Mem} (h : w_K_pays K p0 p1 p2 p3 μ) : sm_MI l ⟨"SnowMoney$Kinds", "pays", "(IIIZ)I"⟩ prog_4_method_6_code 4 (some .int) { frames := 0, cells := 0, slots := 0, locals := 0 } [sm_I p0, sm_I p1, sm_I p2, sm_I p3] μ K := by
  refine sm_ofI (by decide +kernel) (fun _ => Nat.le_of_ble_eq_true rfl) ?_
  intro p e s m args below meth c A Q G C hR
  refine sr_iload_n C 0 rfl rfl d_K_pays_0 ?_
  refine sm_name (fun v1 ev1 => ?_)
  replace h := h v1 ev1
  by_cases c2 : v1 = 1
  · replace h := Eq.mp (if_pos c2) h
    refine sr_tableIn C (tgt := 36) (off := 35) d_K_pays_1 (by rw [c2]; decide) (by rw [c2]; decide) (by rw [c2]; decide) (by decide) ?_
    refine sr_iconst C (v := 2) d_K_pays_36 (by decide) ?_
    refine sr_iload_n C 2 rfl rfl d_K_pays_37 ?_
    refine sr_imul C d_K_pays_38 ?_
    exact hR _ _ _ _ d_K_pays_39 rfl h
  · replace h := Eq.mp (if_neg c2) h
    by_cases c3 : v1 = 2
    · replace h := Eq.mp (if_pos c3) h
      refine sr_tableIn C (tgt := 40) (off := 39) d_K_pays_1 (by rw [c3]; decide) (by rw [c3]; decide) (by rw [c3]; decide) (by decide) ?_
      refine sr_iload_n C 3 rfl rfl d_K_pays_40 ?_
      refine sr_if_eq C (tgt := 48) d_K_pays_41 (by decide) (fun c4 => ?_) (fun c4 => ?_)
      · replace h := Eq.mp (if_pos c4) h
        refine sr_iload_n C 2 rfl rfl d_K_pays_48 ?_
        exact hR _ _ _ _ d_K_pays_49 rfl h
      · replace h := Eq.mp (if_neg c4) h
        refine sr_iconst C (v := 0) d_K_pays_44 (by decide) ?_
        refine sr_goto C (tgt := 49) (by decide) d_K_pays_45 ?_
        exact hR _ _ _ _ d_K_pays_49 rfl h
    · replace h := Eq.mp (if_neg c3) h
      by_cases c5 : v1 = 3
      · replace h := Eq.mp (if_pos c5) h
        refine sr_tableIn C (tgt := 50) (off := 49) d_K_pays_1 (by rw [c5]; decide) (by rw [c5]; decide) (by rw [c5]; decide) (by decide) ?_
        refine sr_iload_n C 2 rfl rfl d_K_pays_50 ?_
        refine sr_if_le C (tgt := 60) d_K_pays_51 (by decide) (fun c6 => ?_) (fun c6 => ?_)
        · replace h := Eq.mp (if_pos c6) h
          refine sr_iconst C (v := 0) d_K_pays_60 (by decide) ?_
          exact hR _ _ _ _ d_K_pays_61 rfl h
        · replace h := Eq.mp (if_neg c6) h
          refine sr_iload_n C 2 rfl rfl d_K_pays_54 ?_
          refine sr_iload_n C 1 rfl rfl d_K_pays_55 ?_
          refine sr_iadd C d_K_pays_56 ?_
          refine sr_goto C (tgt := 61) (by decide) d_K_pays_57 ?_
          exact hR _ _ _ _ d_K_pays_61 rfl h
      · replace h := Eq.mp (if_neg c5) h
        by_cases c7 : v1 = 4
        · replace h := Eq.mp (if_pos c7) h
          refine sr_tableIn C (tgt := 62) (off := 61) d_K_pays_1 (by rw [c7]; decide) (by rw [c7]; decide) (by rw [c7]; decide) (by decide) ?_
          refine sr_iload_n C 2 rfl rfl d_K_pays_62 ?_
          refine sr_if_le C (tgt := 74) d_K_pays_63 (by decide) (fun c8 => ?_) (fun c8 => ?_)
          · replace h := Eq.mp (if_pos c8) h
            refine sr_iconst C (v := 0) d_K_pays_74 (by decide) ?_
            exact hR _ _ _ _ d_K_pays_75 rfl h
          · replace h := Eq.mp (if_neg c8) h
            refine sr_iconst C (v := 2) d_K_pays_66 (by decide) ?_
            refine sr_iload_n C 2 rfl rfl d_K_pays_67 ?_
            refine sr_imul C d_K_pays_68 ?_
            refine sr_iconst C (v := 5) d_K_pays_69 (by decide) ?_
            refine sr_iadd C d_K_pays_70 ?_
            refine sr_goto C (tgt := 75) (by decide) d_K_pays_71 ?_
            exact hR _ _ _ _ d_K_pays_75 rfl h
        · replace h := Eq.mp (if_neg c7) h
          by_cases c9 : v1 = 5
          · replace h := Eq.mp (if_pos c9) h
            refine sr_tableIn C (tgt := 76) (off := 75) d_K_pays_1 (by rw [c9]; decide) (by rw [c9]; decide) (by rw [c9]; decide) (by decide) ?_
            refine sr_iload_n C 3 rfl rfl d_K_pays_76 ?_
            refine sr_if_eq C (tgt := 84) d_K_pays_77 (by decide) (fun c10 => ?_) (fun c10 => ?_)
            · replace h := Eq.mp (if_pos c10) h
              refine sr_iload_n C 2 rfl rfl d_K_pays_84 ?_
              refine sr_iconst C (v := 2) d_K_pays_85 (by decide) ?_
              refine sr_idiv C (by decide) d_K_pays_86 ?_
              exact hR _ _ _ _ d_K_pays_87 rfl h
            · replace h := Eq.mp (if_neg c10) h
              refine sr_iconst C (v := 0) d_K_pays_80 (by decide) ?_
              refine sr_goto C (tgt := 87) (by decide) d_K_pays_81 ?_
              exact hR _ _ _ _ d_K_pays_87 rfl h
          · replace h := Eq.mp (if_neg c9) h
            have i0 := sm_ne c2 (z := 1) (by decide)
            have i1 := sm_ne c3 (z := 2) (by decide)
            have i2 := sm_ne c5 (z := 3) (by decide)
            have i3 := sm_ne c7 (z := 4) (by decide)
            have i4 := sm_ne c9 (z := 5) (by decide)
            refine sr_tableOut C (tgt := 88) d_K_pays_1 (by omega) (by decide) ?_
            refine sr_iload_n C 2 rfl rfl d_K_pays_88 ?_
            exact hR _ _ _ _ d_K_pays_89 rfl h
theorem d_T_add_0 : decode prog_7_method_5_code 0 = .ok (.aload_n 0, 1) := by decide +kernel
theorem d_T_add_1 : decode prog_7_method_5_code 1 = .ok (.getfield 19, 3) := by decide +kernel
theorem d_T_add_4 : decode prog_7_method_5_code 4 = .ok (.bipush 50, 2) := by decide +kernel
theorem d_T_add_6 : decode prog_7_method_5_code 6 = .ok (.if_icmp .ge 33, 3) := by decide +kernel
theorem d_T_add_9 : decode prog_7_method_5_code 9 = .ok (.aload_n 0, 1) := by decide +kernel
theorem d_T_add_10 : decode prog_7_method_5_code 10 = .ok (.getfield 9, 3) := by decide +kernel
theorem d_T_add_13 : decode prog_7_method_5_code 13 = .ok (.aload_n 0, 1) := by decide +kernel
theorem d_T_add_14 : decode prog_7_method_5_code 14 = .ok (.getfield 19, 3) := by decide +kernel
theorem d_T_add_17 : decode prog_7_method_5_code 17 = .ok (.iload_n 1, 1) := by decide +kernel
theorem d_T_add_18 : decode prog_7_method_5_code 18 = .ok (.iastore, 1) := by decide +kernel
theorem d_T_add_19 : decode prog_7_method_5_code 19 = .ok (.aload_n 0, 1) := by decide +kernel
theorem d_T_add_20 : decode prog_7_method_5_code 20 = .ok (.getfield 13, 3) := by decide +kernel
theorem d_T_add_23 : decode prog_7_method_5_code 23 = .ok (.aload_n 0, 1) := by decide +kernel
theorem d_T_add_24 : decode prog_7_method_5_code 24 = .ok (.getfield 19, 3) := by decide +kernel
theorem d_T_add_27 : decode prog_7_method_5_code 27 = .ok (.iload_n 2, 1) := by decide +kernel
theorem d_T_add_28 : decode prog_7_method_5_code 28 = .ok (.iastore, 1) := by decide +kernel
theorem d_T_add_29 : decode prog_7_method_5_code 29 = .ok (.aload_n 0, 1) := by decide +kernel
theorem d_T_add_30 : decode prog_7_method_5_code 30 = .ok (.dup, 1) := by decide +kernel
theorem d_T_add_31 : decode prog_7_method_5_code 31 = .ok (.getfield 19, 3) := by decide +kernel
theorem d_T_add_34 : decode prog_7_method_5_code 34 = .ok (.iconst 1, 1) := by decide +kernel
theorem d_T_add_35 : decode prog_7_method_5_code 35 = .ok (.iadd, 1) := by decide +kernel
theorem d_T_add_36 : decode prog_7_method_5_code 36 = .ok (.putfield 19, 3) := by decide +kernel
theorem d_T_add_39 : decode prog_7_method_5_code 39 = .ok (.return_, 1) := by decide +kernel
def w_T_add (K : sm_Mem → Prop) (k : Nat) (p0 : Int32) (p1 : Int32) (μ : sm_Mem) : Prop := isText k ∧ if 50 ≤ (μ k 3) then K μ else (vp_in (μ k 3) 50 ∧ ∀ μ3 : sm_Mem, μ3 = sm_st μ (k + 1) ((μ k 3).toNatClampNeg) p0 → vp_in (μ3 k 3) 50 ∧ ∀ μ5 : sm_Mem, μ5 = sm_st μ3 (k + 2) ((μ3 k 3).toNatClampNeg) p1 → ∀ μ6 : sm_Mem, μ6 = sm_st μ5 k 3 ((μ5 k 3) + 1) → K μ6)
set_option maxHeartbeats 4000000 in
set_option maxRecDepth 100000 in
theorem P_T_add (l : Launch) {K : sm_Mem → Prop} {k : Nat} {p0 : Int32} {p1 : Int32} {μ : sm_Mem} (h : w_T_add K k p0 p1 μ) : sm_MV l ⟨"SnowMoney$Text", "add", "(II)V"⟩ prog_7_method_5_code 3 { frames := 0, cells := 0, slots := 0, locals := 0 } [sm_R k, sm_I p0, sm_I p1] μ K := by
  refine sm_ofV (by decide +kernel) (fun _ => Nat.le_of_ble_eq_true rfl) ?_
  intro p e s m args below meth c A Q G C hR
  obtain ⟨t_k, h⟩ := h
  refine sr_aload_n C 0 rfl rfl d_T_add_0 ?_
  refine sr_getI C sm_F4 3 q_82 t_k.1 rfl (by decide) d_T_add_1 ?_
  refine sr_bipush C (v := 50) d_T_add_4 (by decide) ?_
  refine sr_icmp_ge C (tgt := 39) d_T_add_6 (by decide) (fun c1 => ?_) (fun c1 => ?_)
  · replace h := Eq.mp (if_pos c1) h
    exact hR _ _ _ d_T_add_39 h
  · replace h := Eq.mp (if_neg c1) h
    refine sr_aload_n C 0 rfl rfl d_T_add_9 ?_
    refine sr_getR C sm_F4 0 q_84 t_k.1 (r := k + 1) rfl (by decide) d_T_add_10 ?_
    refine sr_aload_n C 0 rfl rfl d_T_add_13 ?_
    refine sr_getI C sm_F4 3 q_82 t_k.1 rfl (by decide) d_T_add_14 ?_
    refine sr_iload_n C 1 rfl rfl d_T_add_17 ?_
    obtain ⟨g2, h⟩ := h
    refine sr_iast C t_k.2.1 g2 d_T_add_18 ?_
    replace h := h _ rfl
    refine sr_aload_n C 0 rfl rfl d_T_add_19 ?_
    refine sr_getR C sm_F4 1 q_85 t_k.1 (r := k + 2) rfl (by decide) d_T_add_20 ?_
    refine sr_aload_n C 0 rfl rfl d_T_add_23 ?_
    refine sr_getI C sm_F4 3 q_82 t_k.1 rfl (by decide) d_T_add_24 ?_
    refine sr_iload_n C 2 rfl rfl d_T_add_27 ?_
    obtain ⟨g4, h⟩ := h
    refine sr_iast C t_k.2.2.1 g4 d_T_add_28 ?_
    replace h := h _ rfl
    refine sr_aload_n C 0 rfl rfl d_T_add_29 ?_
    refine sr_dup C rfl d_T_add_30 ?_
    refine sr_getI C sm_F4 3 q_82 t_k.1 rfl (by decide) d_T_add_31 ?_
    refine sr_iconst C (v := 1) d_T_add_34 (by decide) ?_
    refine sr_iadd C d_T_add_35 ?_
    refine sr_putI C sm_F4 3 q_82 t_k.1 rfl rfl (by decide) rfl d_T_add_36 ?_
    replace h := h _ rfl
    exact hR _ _ _ d_T_add_39 h
theorem d_T_clear_0 : decode prog_7_method_3_code 0 = .ok (.aload_n 0, 1) := by decide +kernel
theorem d_T_clear_1 : decode prog_7_method_3_code 1 = .ok (.iconst 0, 1) := by decide +kernel
theorem d_T_clear_2 : decode prog_7_method_3_code 2 = .ok (.putfield 19, 3) := by decide +kernel
theorem d_T_clear_5 : decode prog_7_method_3_code 5 = .ok (.return_, 1) := by decide +kernel
def w_T_clear (K : sm_Mem → Prop) (k : Nat) (μ : sm_Mem) : Prop := isText k ∧ ∀ μ1 : sm_Mem, μ1 = sm_st μ k 3 0 → K μ1
set_option maxHeartbeats 4000000 in
set_option maxRecDepth 100000 in
theorem P_T_clear (l : Launch) {K : sm_Mem → Prop} {k : Nat} {μ : sm_Mem} (h : w_T_clear K k μ) : sm_MV l ⟨"SnowMoney$Text", "clear", "()V"⟩ prog_7_method_3_code 1 { frames := 0, cells := 0, slots := 0, locals := 0 } [sm_R k] μ K := by
  refine sm_ofV (by decide +kernel) (fun _ => Nat.le_of_ble_eq_true rfl) ?_
  intro p e s m args below meth c A Q G C hR
  obtain ⟨t_k, h⟩ := h
  refine sr_aload_n C 0 rfl rfl d_T_clear_0 ?_
  refine sr_iconst C (v := 0) d_T_clear_1 (by decide) ?_
  refine sr_putI C sm_F4 3 q_82 t_k.1 rfl rfl (by decide) rfl d_T_clear_2 ?_
  replace h := h _ rfl
  exact hR _ _ _ d_T_clear_5 h
theorem d_T_take_0 : decode prog_7_method_4_code 0 = .ok (.aload_n 1, 1) := by decide +kernel
theorem d_T_take_1 : decode prog_7_method_4_code 1 = .ok (.getfield 9, 3) := by decide +kernel
theorem d_T_take_4 : decode prog_7_method_4_code 4 = .ok (.iconst 0, 1) := by decide +kernel
theorem d_T_take_5 : decode prog_7_method_4_code 5 = .ok (.aload_n 0, 1) := by decide +kernel
theorem d_T_take_6 : decode prog_7_method_4_code 6 = .ok (.getfield 9, 3) := by decide +kernel
theorem d_T_take_9 : decode prog_7_method_4_code 9 = .ok (.iconst 0, 1) := by decide +kernel
theorem d_T_take_10 : decode prog_7_method_4_code 10 = .ok (.bipush 50, 2) := by decide +kernel
theorem d_T_take_12 : decode prog_7_method_4_code 12 = .ok (.invokestatic 23, 3) := by decide +kernel
theorem d_T_take_15 : decode prog_7_method_4_code 15 = .ok (.aload_n 1, 1) := by decide +kernel
theorem d_T_take_16 : decode prog_7_method_4_code 16 = .ok (.getfield 13, 3) := by decide +kernel
theorem d_T_take_19 : decode prog_7_method_4_code 19 = .ok (.iconst 0, 1) := by decide +kernel
theorem d_T_take_20 : decode prog_7_method_4_code 20 = .ok (.aload_n 0, 1) := by decide +kernel
theorem d_T_take_21 : decode prog_7_method_4_code 21 = .ok (.getfield 13, 3) := by decide +kernel
theorem d_T_take_24 : decode prog_7_method_4_code 24 = .ok (.iconst 0, 1) := by decide +kernel
theorem d_T_take_25 : decode prog_7_method_4_code 25 = .ok (.bipush 50, 2) := by decide +kernel
theorem d_T_take_27 : decode prog_7_method_4_code 27 = .ok (.invokestatic 23, 3) := by decide +kernel
theorem d_T_take_30 : decode prog_7_method_4_code 30 = .ok (.aload_n 0, 1) := by decide +kernel
theorem d_T_take_31 : decode prog_7_method_4_code 31 = .ok (.aload_n 1, 1) := by decide +kernel
theorem d_T_take_32 : decode prog_7_method_4_code 32 = .ok (.getfield 19, 3) := by decide +kernel
theorem d_T_take_35 : decode prog_7_method_4_code 35 = .ok (.putfield 19, 3) := by decide +kernel
theorem d_T_take_38 : decode prog_7_method_4_code 38 = .ok (.return_, 1) := by decide +kernel
def w_T_take (K : sm_Mem → Prop) (k : Nat) (o0 : Nat) (μ : sm_Mem) : Prop := isText k ∧ isText o0 ∧ ∀ μ6 : sm_Mem, μ6 = sm_cpy μ (o0 + 1) (k + 1) ((0 : Int32).toNatClampNeg) ((0 : Int32).toNatClampNeg) ((50 : Int32).toNatClampNeg) → ∀ μ12 : sm_Mem, μ12 = sm_cpy μ6 (o0 + 2) (k + 2) ((0 : Int32).toNatClampNeg) ((0 : Int32).toNatClampNeg) ((50 : Int32).toNatClampNeg) → ∀ μ13 : sm_Mem, μ13 = sm_st μ12 k 3 (μ12 o0 3) → K μ13
set_option maxHeartbeats 4000000 in
set_option maxRecDepth 100000 in
theorem P_T_take (l : Launch) {K : sm_Mem → Prop} {k : Nat} {o0 : Nat} {μ : sm_Mem} (h : w_T_take K k o0 μ) : sm_MV l ⟨"SnowMoney$Text", "take", "(LSnowMoney$Text;)V"⟩ prog_7_method_4_code 2 { frames := 1, cells := 0, slots := 0, locals := 40 } [sm_R k, sm_R o0] μ K := by
  refine sm_ofV (by decide +kernel) (fun _ => Nat.le_of_ble_eq_true rfl) ?_
  intro p e s m args below meth c A Q G C hR
  obtain ⟨t_k, h⟩ := h
  obtain ⟨t_o0, h⟩ := h
  refine sr_aload_n C 1 rfl rfl d_T_take_0 ?_
  refine sr_getR C sm_F4 0 q_84 t_o0.1 (r := o0 + 1) rfl (by decide) d_T_take_1 ?_
  refine sr_iconst C (v := 0) d_T_take_4 (by decide) ?_
  refine sr_aload_n C 0 rfl rfl d_T_take_5 ?_
  refine sr_getR C sm_F4 0 q_84 t_k.1 (r := k + 1) rfl (by decide) d_T_take_6 ?_
  refine sr_iconst C (v := 0) d_T_take_9 (by decide) ?_
  refine sr_bipush C (v := 50) d_T_take_10 (by decide) ?_
  refine sr_copy C t_o0.2.1 t_k.2.1 (by decide) (by decide) (by decide) (by decide) (by decide) q_197 q_sysn q_syss q_sysi (Nat.le_of_ble_eq_true rfl) (Nat.le_of_ble_eq_true rfl) d_T_take_12 ?_
  replace h := h _ rfl
  refine sr_aload_n C 1 rfl rfl d_T_take_15 ?_
  refine sr_getR C sm_F4 1 q_85 t_o0.1 (r := o0 + 2) rfl (by decide) d_T_take_16 ?_
  refine sr_iconst C (v := 0) d_T_take_19 (by decide) ?_
  refine sr_aload_n C 0 rfl rfl d_T_take_20 ?_
  refine sr_getR C sm_F4 1 q_85 t_k.1 (r := k + 2) rfl (by decide) d_T_take_21 ?_
  refine sr_iconst C (v := 0) d_T_take_24 (by decide) ?_
  refine sr_bipush C (v := 50) d_T_take_25 (by decide) ?_
  refine sr_copy C t_o0.2.2.1 t_k.2.2.1 (by decide) (by decide) (by decide) (by decide) (by decide) q_197 q_sysn q_syss q_sysi (Nat.le_of_ble_eq_true rfl) (Nat.le_of_ble_eq_true rfl) d_T_take_27 ?_
  replace h := h _ rfl
  refine sr_aload_n C 0 rfl rfl d_T_take_30 ?_
  refine sr_aload_n C 1 rfl rfl d_T_take_31 ?_
  refine sr_getI C sm_F4 3 q_82 t_o0.1 rfl (by decide) d_T_take_32 ?_
  refine sr_putI C sm_F4 3 q_82 t_k.1 rfl rfl (by decide) rfl d_T_take_35 ?_
  replace h := h _ rfl
  exact hR _ _ _ d_T_take_38 h
theorem d_JI_bitCount_0 : decode prog_12_method_49_code 0 = .ok (.iload_n 0, 1) := by decide +kernel
theorem d_JI_bitCount_1 : decode prog_12_method_49_code 1 = .ok (.iload_n 0, 1) := by decide +kernel
theorem d_JI_bitCount_2 : decode prog_12_method_49_code 2 = .ok (.iconst 1, 1) := by decide +kernel
theorem d_JI_bitCount_3 : decode prog_12_method_49_code 3 = .ok (.iushr, 1) := by decide +kernel
theorem d_JI_bitCount_4 : decode prog_12_method_49_code 4 = .ok (.ldc_w 265, 3) := by decide +kernel
theorem d_JI_bitCount_7 : decode prog_12_method_49_code 7 = .ok (.iand, 1) := by decide +kernel
theorem d_JI_bitCount_8 : decode prog_12_method_49_code 8 = .ok (.isub, 1) := by decide +kernel
theorem d_JI_bitCount_9 : decode prog_12_method_49_code 9 = .ok (.istore_n 0, 1) := by decide +kernel
theorem d_JI_bitCount_10 : decode prog_12_method_49_code 10 = .ok (.iload_n 0, 1) := by decide +kernel
theorem d_JI_bitCount_11 : decode prog_12_method_49_code 11 = .ok (.ldc_w 266, 3) := by decide +kernel
theorem d_JI_bitCount_14 : decode prog_12_method_49_code 14 = .ok (.iand, 1) := by decide +kernel
theorem d_JI_bitCount_15 : decode prog_12_method_49_code 15 = .ok (.iload_n 0, 1) := by decide +kernel
theorem d_JI_bitCount_16 : decode prog_12_method_49_code 16 = .ok (.iconst 2, 1) := by decide +kernel
theorem d_JI_bitCount_17 : decode prog_12_method_49_code 17 = .ok (.iushr, 1) := by decide +kernel
theorem d_JI_bitCount_18 : decode prog_12_method_49_code 18 = .ok (.ldc_w 266, 3) := by decide +kernel
theorem d_JI_bitCount_21 : decode prog_12_method_49_code 21 = .ok (.iand, 1) := by decide +kernel
theorem d_JI_bitCount_22 : decode prog_12_method_49_code 22 = .ok (.iadd, 1) := by decide +kernel
theorem d_JI_bitCount_23 : decode prog_12_method_49_code 23 = .ok (.istore_n 0, 1) := by decide +kernel
theorem d_JI_bitCount_24 : decode prog_12_method_49_code 24 = .ok (.iload_n 0, 1) := by decide +kernel
theorem d_JI_bitCount_25 : decode prog_12_method_49_code 25 = .ok (.iload_n 0, 1) := by decide +kernel
theorem d_JI_bitCount_26 : decode prog_12_method_49_code 26 = .ok (.iconst 4, 1) := by decide +kernel
theorem d_JI_bitCount_27 : decode prog_12_method_49_code 27 = .ok (.iushr, 1) := by decide +kernel
theorem d_JI_bitCount_28 : decode prog_12_method_49_code 28 = .ok (.iadd, 1) := by decide +kernel
theorem d_JI_bitCount_29 : decode prog_12_method_49_code 29 = .ok (.ldc_w 267, 3) := by decide +kernel
theorem d_JI_bitCount_32 : decode prog_12_method_49_code 32 = .ok (.iand, 1) := by decide +kernel
theorem d_JI_bitCount_33 : decode prog_12_method_49_code 33 = .ok (.istore_n 0, 1) := by decide +kernel
theorem d_JI_bitCount_34 : decode prog_12_method_49_code 34 = .ok (.iload_n 0, 1) := by decide +kernel
theorem d_JI_bitCount_35 : decode prog_12_method_49_code 35 = .ok (.iload_n 0, 1) := by decide +kernel
theorem d_JI_bitCount_36 : decode prog_12_method_49_code 36 = .ok (.bipush 8, 2) := by decide +kernel
theorem d_JI_bitCount_38 : decode prog_12_method_49_code 38 = .ok (.iushr, 1) := by decide +kernel
theorem d_JI_bitCount_39 : decode prog_12_method_49_code 39 = .ok (.iadd, 1) := by decide +kernel
theorem d_JI_bitCount_40 : decode prog_12_method_49_code 40 = .ok (.istore_n 0, 1) := by decide +kernel
theorem d_JI_bitCount_41 : decode prog_12_method_49_code 41 = .ok (.iload_n 0, 1) := by decide +kernel
theorem d_JI_bitCount_42 : decode prog_12_method_49_code 42 = .ok (.iload_n 0, 1) := by decide +kernel
theorem d_JI_bitCount_43 : decode prog_12_method_49_code 43 = .ok (.bipush 16, 2) := by decide +kernel
theorem d_JI_bitCount_45 : decode prog_12_method_49_code 45 = .ok (.iushr, 1) := by decide +kernel
theorem d_JI_bitCount_46 : decode prog_12_method_49_code 46 = .ok (.iadd, 1) := by decide +kernel
theorem d_JI_bitCount_47 : decode prog_12_method_49_code 47 = .ok (.istore_n 0, 1) := by decide +kernel
theorem d_JI_bitCount_48 : decode prog_12_method_49_code 48 = .ok (.iload_n 0, 1) := by decide +kernel
theorem d_JI_bitCount_49 : decode prog_12_method_49_code 49 = .ok (.bipush 63, 2) := by decide +kernel
theorem d_JI_bitCount_51 : decode prog_12_method_49_code 51 = .ok (.iand, 1) := by decide +kernel
theorem d_JI_bitCount_52 : decode prog_12_method_49_code 52 = .ok (.ireturn, 1) := by decide +kernel
def w_JI_bitCount (K : Int32 → sm_Mem → Prop) (p0 : Int32) (μ : sm_Mem) : Prop := ∀ v1 : Int32, v1 = (p0 - ((p0.toUInt32 >>> ((1 : Int32).toUInt32 &&& Int32.toUInt32 31)).toInt32 &&& 1431655765)) → ∀ v2 : Int32, v2 = ((v1 &&& 858993459) + ((v1.toUInt32 >>> ((2 : Int32).toUInt32 &&& Int32.toUInt32 31)).toInt32 &&& 858993459)) → ∀ v3 : Int32, v3 = ((v2 + (v2.toUInt32 >>> ((4 : Int32).toUInt32 &&& Int32.toUInt32 31)).toInt32) &&& 252645135) → ∀ v4 : Int32, v4 = (v3 + (v3.toUInt32 >>> ((8 : Int32).toUInt32 &&& Int32.toUInt32 31)).toInt32) → ∀ v5 : Int32, v5 = (v4 + (v4.toUInt32 >>> ((16 : Int32).toUInt32 &&& Int32.toUInt32 31)).toInt32) → K (v5 &&& 63) μ
set_option maxHeartbeats 4000000 in
set_option maxRecDepth 100000 in
theorem P_JI_bitCount (l : Launch) {K : Int32 → sm_Mem → Prop} {p0 : Int32} {μ : sm_Mem} (h : w_JI_bitCount K p0 μ) : sm_MI l ⟨"java/lang/Integer", "bitCount", "(I)I"⟩ prog_12_method_49_code 1 (some .int) { frames := 0, cells := 0, slots := 0, locals := 0 } [sm_I p0] μ K := by
  refine sm_ofI (by decide +kernel) (fun _ => Nat.le_of_ble_eq_true rfl) ?_
  intro p e s m args below meth c A Q G C hR
  refine sr_iload_n C 0 rfl rfl d_JI_bitCount_0 ?_
  refine sr_iload_n C 0 rfl rfl d_JI_bitCount_1 ?_
  refine sr_iconst C (v := 1) d_JI_bitCount_2 (by decide) ?_
  refine sr_iushr C d_JI_bitCount_3 ?_
  refine sr_ldcw C q_292 d_JI_bitCount_4 ?_
  refine sr_iand C d_JI_bitCount_7 ?_
  refine sr_isub C d_JI_bitCount_8 ?_
  replace h := h _ rfl
  refine sr_istore_n C rfl (by decide) d_JI_bitCount_9 ?_
  refine sr_iload_n C 0 rfl rfl d_JI_bitCount_10 ?_
  refine sr_ldcw C q_293 d_JI_bitCount_11 ?_
  refine sr_iand C d_JI_bitCount_14 ?_
  refine sr_iload_n C 0 rfl rfl d_JI_bitCount_15 ?_
  refine sr_iconst C (v := 2) d_JI_bitCount_16 (by decide) ?_
  refine sr_iushr C d_JI_bitCount_17 ?_
  refine sr_ldcw C q_293 d_JI_bitCount_18 ?_
  refine sr_iand C d_JI_bitCount_21 ?_
  refine sr_iadd C d_JI_bitCount_22 ?_
  replace h := h _ rfl
  refine sr_istore_n C rfl (by decide) d_JI_bitCount_23 ?_
  refine sr_iload_n C 0 rfl rfl d_JI_bitCount_24 ?_
  refine sr_iload_n C 0 rfl rfl d_JI_bitCount_25 ?_
  refine sr_iconst C (v := 4) d_JI_bitCount_26 (by decide) ?_
  refine sr_iushr C d_JI_bitCount_27 ?_
  refine sr_iadd C d_JI_bitCount_28 ?_
  refine sr_ldcw C q_294 d_JI_bitCount_29 ?_
  refine sr_iand C d_JI_bitCount_32 ?_
  replace h := h _ rfl
  refine sr_istore_n C rfl (by decide) d_JI_bitCount_33 ?_
  refine sr_iload_n C 0 rfl rfl d_JI_bitCount_34 ?_
  refine sr_iload_n C 0 rfl rfl d_JI_bitCount_35 ?_
  refine sr_bipush C (v := 8) d_JI_bitCount_36 (by decide) ?_
  refine sr_iushr C d_JI_bitCount_38 ?_
  refine sr_iadd C d_JI_bitCount_39 ?_
  replace h := h _ rfl
  refine sr_istore_n C rfl (by decide) d_JI_bitCount_40 ?_
  refine sr_iload_n C 0 rfl rfl d_JI_bitCount_41 ?_
  refine sr_iload_n C 0 rfl rfl d_JI_bitCount_42 ?_
  refine sr_bipush C (v := 16) d_JI_bitCount_43 (by decide) ?_
  refine sr_iushr C d_JI_bitCount_45 ?_
  refine sr_iadd C d_JI_bitCount_46 ?_
  replace h := h _ rfl
  refine sr_istore_n C rfl (by decide) d_JI_bitCount_47 ?_
  refine sr_iload_n C 0 rfl rfl d_JI_bitCount_48 ?_
  refine sr_bipush C (v := 63) d_JI_bitCount_49 (by decide) ?_
  refine sr_iand C d_JI_bitCount_51 ?_
  exact hR _ _ _ _ d_JI_bitCount_52 rfl h
theorem d_JA_fill_0 : decode prog_18_method_103_code 0 = .ok (.iconst 0, 1) := by decide +kernel
theorem d_JA_fill_1 : decode prog_18_method_103_code 1 = .ok (.istore_n 2, 1) := by decide +kernel
theorem d_JA_fill_2 : decode prog_18_method_103_code 2 = .ok (.aload_n 0, 1) := by decide +kernel
theorem d_JA_fill_3 : decode prog_18_method_103_code 3 = .ok (.arraylength, 1) := by decide +kernel
theorem d_JA_fill_4 : decode prog_18_method_103_code 4 = .ok (.istore_n 3, 1) := by decide +kernel
theorem d_JA_fill_5 : decode prog_18_method_103_code 5 = .ok (.iload_n 2, 1) := by decide +kernel
theorem d_JA_fill_6 : decode prog_18_method_103_code 6 = .ok (.iload_n 3, 1) := by decide +kernel
theorem d_JA_fill_7 : decode prog_18_method_103_code 7 = .ok (.if_icmp .ge 13, 3) := by decide +kernel
theorem d_JA_fill_10 : decode prog_18_method_103_code 10 = .ok (.aload_n 0, 1) := by decide +kernel
theorem d_JA_fill_11 : decode prog_18_method_103_code 11 = .ok (.iload_n 2, 1) := by decide +kernel
theorem d_JA_fill_12 : decode prog_18_method_103_code 12 = .ok (.iload_n 1, 1) := by decide +kernel
theorem d_JA_fill_13 : decode prog_18_method_103_code 13 = .ok (.iastore, 1) := by decide +kernel
theorem d_JA_fill_14 : decode prog_18_method_103_code 14 = .ok (.iinc 2 1, 3) := by decide +kernel
theorem d_JA_fill_17 : decode prog_18_method_103_code 17 = .ok (.goto (-12), 3) := by decide +kernel
theorem d_JA_fill_20 : decode prog_18_method_103_code 20 = .ok (.return_, 1) := by decide +kernel
def w_JA_fill_5 (K : sm_Mem → Prop) (a0 : Nat) (n : Nat) (p1 : Int32) (x2 : Int32) (x3 : Int32) (μ : sm_Mem) : Prop := sm_lp1 (fun J5 x2 μ => if x3 ≤ x2 then K μ else (vp_in x2 n ∧ ∀ μ4 : sm_Mem, μ4 = sm_st μ a0 (x2.toNatClampNeg) p1 → J5 (x2 + 1) μ4)) x2 μ
def w_JA_fill (K : sm_Mem → Prop) (a0 : Nat) (p1 : Int32) (n : Nat) (μ : sm_Mem) : Prop := isArr a0 n ∧ ∀ v1 : Int32, v1 = (Int32.ofNat n) → w_JA_fill_5 K a0 n p1 0 v1 μ
set_option maxHeartbeats 4000000 in
set_option maxRecDepth 100000 in
theorem P_JA_fill (l : Launch) {K : sm_Mem → Prop} {a0 : Nat} {p1 : Int32} {n : Nat} {μ : sm_Mem} (h : w_JA_fill K a0 p1 n μ) : sm_MV l ⟨"java/util/Arrays", "fill", "([II)V"⟩ prog_18_method_103_code 4 { frames := 0, cells := 0, slots := 0, locals := 0 } [sm_R a0, sm_I p1] μ K := by
  refine sm_ofV (by decide +kernel) (fun _ => Nat.le_of_ble_eq_true rfl) ?_
  intro p e s m args below meth c A Q G C hR
  obtain ⟨t_a0, h⟩ := h
  have B5 : ∀ (x2 : Int32) (x3 : Int32) (μ : sm_Mem), w_JA_fill_5 K a0 n p1 x2 x3 μ → sm_W p l e { frames := 0, cells := 0, slots := 0, locals := 0 } s m args below meth c A Q G 4 0 0 5 [] [(0, sm_R a0), (1, sm_I p1), (2, sm_I x2), (3, sm_I x3)] μ := by
    intro x2 x3 μ h
    refine sm_lp1_sound (P := fun x2 μ => sm_W p l e { frames := 0, cells := 0, slots := 0, locals := 0 } s m args below meth c A Q G 4 0 0 5 [] [(0, sm_R a0), (1, sm_I p1), (2, sm_I x2), (3, sm_I x3)] μ) (fun J5 x2 μ hJ5 h => ?_) h
    refine sr_iload_n C 2 rfl rfl d_JA_fill_5 ?_
    refine sr_iload_n C 3 rfl rfl d_JA_fill_6 ?_
    refine sr_icmp_ge C (tgt := 20) d_JA_fill_7 (by decide) (fun c2 => ?_) (fun c2 => ?_)
    · replace h := Eq.mp (if_pos c2) h
      exact hR _ _ _ d_JA_fill_20 h
    · replace h := Eq.mp (if_neg c2) h
      refine sr_aload_n C 0 rfl rfl d_JA_fill_10 ?_
      refine sr_iload_n C 2 rfl rfl d_JA_fill_11 ?_
      refine sr_iload_n C 1 rfl rfl d_JA_fill_12 ?_
      obtain ⟨g3, h⟩ := h
      refine sr_iast C t_a0 g3 d_JA_fill_13 ?_
      replace h := h _ rfl
      refine sr_iinc C 2 rfl (by decide) d_JA_fill_14 rfl ?_
      refine sr_goto C (tgt := 5) (by decide) d_JA_fill_17 ?_
      refine sr_mask C [1, 2, 0, 3] rfl ?_
      exact hJ5 _ _ h
  refine sr_iconst C (v := 0) d_JA_fill_0 (by decide) ?_
  refine sr_istore_n C rfl (by decide) d_JA_fill_1 ?_
  refine sr_aload_n C 1 rfl rfl d_JA_fill_2 ?_
  refine sr_alen C t_a0 (v := Int32.ofNat n) rfl d_JA_fill_3 ?_
  replace h := h _ rfl
  refine sr_istore_n C rfl (by decide) d_JA_fill_4 ?_
  refine sr_mask C [2, 3, 1, 0] rfl ?_
  exact B5 _ _ _ h
theorem d_S_numberAt_0 : decode prog_6_method_4_code 0 = .ok (.iload_n 1, 1) := by decide +kernel
theorem d_S_numberAt_1 : decode prog_6_method_4_code 1 = .ok (.ifCond .lt 20, 3) := by decide +kernel
theorem d_S_numberAt_4 : decode prog_6_method_4_code 4 = .ok (.iload_n 1, 1) := by decide +kernel
theorem d_S_numberAt_5 : decode prog_6_method_4_code 5 = .ok (.aload_n 0, 1) := by decide +kernel
theorem d_S_numberAt_6 : decode prog_6_method_4_code 6 = .ok (.getfield 32, 3) := by decide +kernel
theorem d_S_numberAt_9 : decode prog_6_method_4_code 9 = .ok (.if_icmp .ge 12, 3) := by decide +kernel
theorem d_S_numberAt_12 : decode prog_6_method_4_code 12 = .ok (.aload_n 0, 1) := by decide +kernel
theorem d_S_numberAt_13 : decode prog_6_method_4_code 13 = .ok (.getfield 9, 3) := by decide +kernel
theorem d_S_numberAt_16 : decode prog_6_method_4_code 16 = .ok (.iload_n 1, 1) := by decide +kernel
theorem d_S_numberAt_17 : decode prog_6_method_4_code 17 = .ok (.iaload, 1) := by decide +kernel
theorem d_S_numberAt_18 : decode prog_6_method_4_code 18 = .ok (.goto 4, 3) := by decide +kernel
theorem d_S_numberAt_21 : decode prog_6_method_4_code 21 = .ok (.iconst 0, 1) := by decide +kernel
theorem d_S_numberAt_22 : decode prog_6_method_4_code 22 = .ok (.ireturn, 1) := by decide +kernel
def w_S_numberAt (K : Int32 → sm_Mem → Prop) (k : Nat) (p0 : Int32) (μ : sm_Mem) : Prop := isSheet k ∧ if p0 < 0 then K 0 μ else (if (μ k 2) ≤ p0 then K 0 μ else (vp_in p0 40 ∧ K (μ (k + 1) p0.toNatClampNeg) μ))
set_option maxHeartbeats 4000000 in
set_option maxRecDepth 100000 in
theorem P_S_numberAt (l : Launch) {K : Int32 → sm_Mem → Prop} {k : Nat} {p0 : Int32} {μ : sm_Mem} (h : w_S_numberAt K k p0 μ) : sm_MI l ⟨"SnowMoney$Sheet", "numberAt", "(I)I"⟩ prog_6_method_4_code 2 (some .int) { frames := 0, cells := 0, slots := 0, locals := 0 } [sm_R k, sm_I p0] μ K := by
  refine sm_ofI (by decide +kernel) (fun _ => Nat.le_of_ble_eq_true rfl) ?_
  intro p e s m args below meth c A Q G C hR
  obtain ⟨t_k, h⟩ := h
  refine sr_iload_n C 1 rfl rfl d_S_numberAt_0 ?_
  refine sr_if_lt C (tgt := 21) d_S_numberAt_1 (by decide) (fun c1 => ?_) (fun c1 => ?_)
  · replace h := Eq.mp (if_pos c1) h
    refine sr_iconst C (v := 0) d_S_numberAt_21 (by decide) ?_
    exact hR _ _ _ _ d_S_numberAt_22 rfl h
  · replace h := Eq.mp (if_neg c1) h
    refine sr_iload_n C 1 rfl rfl d_S_numberAt_4 ?_
    refine sr_aload_n C 0 rfl rfl d_S_numberAt_5 ?_
    refine sr_getI C sm_F3 2 q_341 t_k.1 rfl (by decide) d_S_numberAt_6 ?_
    refine sr_icmp_ge C (tgt := 21) d_S_numberAt_9 (by decide) (fun c2 => ?_) (fun c2 => ?_)
    · replace h := Eq.mp (if_pos c2) h
      refine sr_iconst C (v := 0) d_S_numberAt_21 (by decide) ?_
      exact hR _ _ _ _ d_S_numberAt_22 rfl h
    · replace h := Eq.mp (if_neg c2) h
      refine sr_aload_n C 0 rfl rfl d_S_numberAt_12 ?_
      refine sr_getR C sm_F3 0 q_342 t_k.1 (r := k + 1) rfl (by decide) d_S_numberAt_13 ?_
      refine sr_iload_n C 1 rfl rfl d_S_numberAt_16 ?_
      obtain ⟨g3, h⟩ := h
      refine sr_iald C t_k.2 g3 d_S_numberAt_17 ?_
      refine sr_goto C (tgt := 22) (by decide) d_S_numberAt_18 ?_
      exact hR _ _ _ _ d_S_numberAt_22 rfl h
theorem d_S_isMissing_0 : decode prog_6_method_2_code 0 = .ok (.aload_n 0, 1) := by decide +kernel
theorem d_S_isMissing_1 : decode prog_6_method_2_code 1 = .ok (.getfield 13, 3) := by decide +kernel
theorem d_S_isMissing_4 : decode prog_6_method_2_code 4 = .ok (.ifCond .ne 7, 3) := by decide +kernel
theorem d_S_isMissing_7 : decode prog_6_method_2_code 7 = .ok (.iconst 1, 1) := by decide +kernel
theorem d_S_isMissing_8 : decode prog_6_method_2_code 8 = .ok (.goto 4, 3) := by decide +kernel
theorem d_S_isMissing_11 : decode prog_6_method_2_code 11 = .ok (.iconst 0, 1) := by decide +kernel
theorem d_S_isMissing_12 : decode prog_6_method_2_code 12 = .ok (.ireturn, 1) := by decide +kernel
def w_S_isMissing (K : Int32 → sm_Mem → Prop) (k : Nat) (μ : sm_Mem) : Prop := isSheet k ∧ if (μ k 1) = 0 then K 1 μ else K 0 μ
set_option maxHeartbeats 4000000 in
set_option maxRecDepth 100000 in
theorem P_S_isMissing (l : Launch) {K : Int32 → sm_Mem → Prop} {k : Nat} {μ : sm_Mem} (h : w_S_isMissing K k μ) : sm_MI l ⟨"SnowMoney$Sheet", "isMissing", "()Z"⟩ prog_6_method_2_code 1 (some .boolean) { frames := 0, cells := 0, slots := 0, locals := 0 } [sm_R k] μ K := by
  refine sm_ofI (by decide +kernel) (fun _ => Nat.le_of_ble_eq_true rfl) ?_
  intro p e s m args below meth c A Q G C hR
  obtain ⟨t_k, h⟩ := h
  refine sr_aload_n C 0 rfl rfl d_S_isMissing_0 ?_
  refine sr_getI C sm_F3 1 q_343 t_k.1 rfl (by decide) d_S_isMissing_1 ?_
  refine sr_if_ne C (tgt := 11) d_S_isMissing_4 (by decide) (fun c1 => ?_) (fun c1 => ?_)
  · replace h := Eq.mp (if_neg c1) h
    refine sr_iconst C (v := 0) d_S_isMissing_11 (by decide) ?_
    exact hR _ _ _ _ d_S_isMissing_12 rfl h
  · replace h := Eq.mp (if_pos c1) h
    refine sr_iconst C (v := 1) d_S_isMissing_7 (by decide) ?_
    refine sr_goto C (tgt := 12) (by decide) d_S_isMissing_8 ?_
    exact hR _ _ _ _ d_S_isMissing_12 rfl h
theorem d_S_makeAnew_0 : decode prog_6_method_3_code 0 = .ok (.aload_n 0, 1) := by decide +kernel
theorem d_S_makeAnew_1 : decode prog_6_method_3_code 1 = .ok (.getfield 9, 3) := by decide +kernel
theorem d_S_makeAnew_4 : decode prog_6_method_3_code 4 = .ok (.iconst 0, 1) := by decide +kernel
theorem d_S_makeAnew_5 : decode prog_6_method_3_code 5 = .ok (.invokestatic 17, 3) := by decide +kernel
theorem d_S_makeAnew_8 : decode prog_6_method_3_code 8 = .ok (.aload_n 0, 1) := by decide +kernel
theorem d_S_makeAnew_9 : decode prog_6_method_3_code 9 = .ok (.iload_n 1, 1) := by decide +kernel
theorem d_S_makeAnew_10 : decode prog_6_method_3_code 10 = .ok (.putfield 13, 3) := by decide +kernel
theorem d_S_makeAnew_13 : decode prog_6_method_3_code 13 = .ok (.aload_n 0, 1) := by decide +kernel
theorem d_S_makeAnew_14 : decode prog_6_method_3_code 14 = .ok (.iconst 0, 1) := by decide +kernel
theorem d_S_makeAnew_15 : decode prog_6_method_3_code 15 = .ok (.iload_n 2, 1) := by decide +kernel
theorem d_S_makeAnew_16 : decode prog_6_method_3_code 16 = .ok (.bipush 40, 2) := by decide +kernel
theorem d_S_makeAnew_18 : decode prog_6_method_3_code 18 = .ok (.invokestatic 23, 3) := by decide +kernel
theorem d_S_makeAnew_21 : decode prog_6_method_3_code 21 = .ok (.invokestatic 29, 3) := by decide +kernel
theorem d_S_makeAnew_24 : decode prog_6_method_3_code 24 = .ok (.putfield 32, 3) := by decide +kernel
theorem d_S_makeAnew_27 : decode prog_6_method_3_code 27 = .ok (.return_, 1) := by decide +kernel
def w_S_makeAnew (K : sm_Mem → Prop) (k : Nat) (p0 : Int32) (p1 : Int32) (μ : sm_Mem) : Prop := isSheet k ∧ w_JA_fill (fun μ1 => ∀ μ2 : sm_Mem, μ2 = sm_st μ1 k 1 p0 → ∀ μ3 : sm_Mem, μ3 = sm_st μ2 k 2 (if 0 < (if 40 < p1 then 40 else p1) then (if 40 < p1 then 40 else p1) else 0) → K μ3) (k + 1) 0 40 μ
set_option maxHeartbeats 4000000 in
set_option maxRecDepth 100000 in
theorem P_S_makeAnew (l : Launch) {K : sm_Mem → Prop} {k : Nat} {p0 : Int32} {p1 : Int32} {μ : sm_Mem} (h : w_S_makeAnew K k p0 p1 μ) : sm_MV l ⟨"SnowMoney$Sheet", "makeAnew", "(II)V"⟩ prog_6_method_3_code 3 { frames := 1, cells := 0, slots := 0, locals := 24 } [sm_R k, sm_I p0, sm_I p1] μ K := by
  refine sm_ofV (by decide +kernel) (fun _ => Nat.le_of_ble_eq_true rfl) ?_
  intro p e s m args below meth c A Q G C hR
  obtain ⟨t_k, h⟩ := h
  refine sr_aload_n C 0 rfl rfl d_S_makeAnew_0 ?_
  refine sr_getR C sm_F3 0 q_342 t_k.1 (r := k + 1) rfl (by decide) d_S_makeAnew_1 ?_
  refine sr_iconst C (v := 0) d_S_makeAnew_4 (by decide) ?_
  refine sr_callSV C [sm_R _, sm_I _] (P_JA_fill l h) ok_89 rfl rfl rfl ⟨Nat.le_of_ble_eq_true rfl, Nat.le_of_ble_eq_true rfl⟩ (Nat.le_of_ble_eq_true rfl) ⟨Nat.zero_le _, Nat.zero_le _⟩ d_S_makeAnew_5 (fun μ1 h => ?_)
  refine sr_aload_n C 0 rfl rfl d_S_makeAnew_8 ?_
  refine sr_iload_n C 1 rfl rfl d_S_makeAnew_9 ?_
  refine sr_putI C sm_F3 1 q_343 t_k.1 rfl rfl (by decide) rfl d_S_makeAnew_10 ?_
  replace h := h _ rfl
  refine sr_aload_n C 0 rfl rfl d_S_makeAnew_13 ?_
  refine sr_iconst C (v := 0) d_S_makeAnew_14 (by decide) ?_
  refine sr_iload_n C 2 rfl rfl d_S_makeAnew_15 ?_
  refine sr_bipush C (v := 40) d_S_makeAnew_16 (by decide) ?_
  refine sr_mmin C q_393 q_mmin1 q_mini q_mmin2 (Nat.le_of_ble_eq_true rfl) (Nat.le_of_ble_eq_true rfl) ⟨Nat.zero_le _, Nat.zero_le _⟩ d_S_makeAnew_18 ?_
  refine sr_mmax C q_394 q_mmax1 q_mini q_mmax2 (Nat.le_of_ble_eq_true rfl) (Nat.le_of_ble_eq_true rfl) ⟨Nat.zero_le _, Nat.zero_le _⟩ d_S_makeAnew_21 ?_
  refine sr_putI C sm_F3 2 q_341 t_k.1 rfl rfl (by decide) rfl d_S_makeAnew_24 ?_
  replace h := h _ rfl
  exact hR _ _ _ d_S_makeAnew_27 h
theorem d_S_lowestBits_0 : decode prog_6_method_6_code 0 = .ok (.aload_n 0, 1) := by decide +kernel
theorem d_S_lowestBits_1 : decode prog_6_method_6_code 1 = .ok (.getfield 13, 3) := by decide +kernel
theorem d_S_lowestBits_4 : decode prog_6_method_6_code 4 = .ok (.lookupswitch 34 #[(8, 28), (16, 31)], 28) := by decide +kernel
theorem d_S_lowestBits_32 : decode prog_6_method_6_code 32 = .ok (.iload_n 1, 1) := by decide +kernel
theorem d_S_lowestBits_33 : decode prog_6_method_6_code 33 = .ok (.i2b, 1) := by decide +kernel
theorem d_S_lowestBits_34 : decode prog_6_method_6_code 34 = .ok (.ireturn, 1) := by decide +kernel
theorem d_S_lowestBits_35 : decode prog_6_method_6_code 35 = .ok (.iload_n 1, 1) := by decide +kernel
theorem d_S_lowestBits_36 : decode prog_6_method_6_code 36 = .ok (.i2s, 1) := by decide +kernel
theorem d_S_lowestBits_37 : decode prog_6_method_6_code 37 = .ok (.ireturn, 1) := by decide +kernel
theorem d_S_lowestBits_38 : decode prog_6_method_6_code 38 = .ok (.iload_n 1, 1) := by decide +kernel
theorem d_S_lowestBits_39 : decode prog_6_method_6_code 39 = .ok (.ireturn, 1) := by decide +kernel
def w_S_lowestBits (K : Int32 → sm_Mem → Prop) (k : Nat) (p0 : Int32) (μ : sm_Mem) : Prop := isSheet k ∧ ∀ v1 : Int32, v1 = (μ k 1) → if v1 = 8 then K p0.toInt8.toInt32 μ else (if v1 = 16 then K p0.toInt16.toInt32 μ else K p0 μ)
set_option maxHeartbeats 4000000 in
set_option maxRecDepth 100000 in
theorem P_S_lowestBits (l : Launch) {K : Int32 → sm_Mem → Prop} {k : Nat} {p0 : Int32} {μ : sm_Mem} (h : w_S_lowestBits K k p0 μ) : sm_MI l ⟨"SnowMoney$Sheet", "lowestBits", "(I)I"⟩ prog_6_method_6_code 2 (some .int) { frames := 0, cells := 0, slots := 0, locals := 0 } [sm_R k, sm_I p0] μ K := by
  refine sm_ofI (by decide +kernel) (fun _ => Nat.le_of_ble_eq_true rfl) ?_
  intro p e s m args below meth c A Q G C hR
  obtain ⟨t_k, h⟩ := h
  refine sr_aload_n C 0 rfl rfl d_S_lowestBits_0 ?_
  refine sr_getI C sm_F3 1 q_343 t_k.1 rfl (by decide) d_S_lowestBits_1 ?_
  refine sm_name (fun v1 ev1 => ?_)
  replace h := h v1 ev1
  by_cases c2 : v1 = 8
  · replace h := Eq.mp (if_pos c2) h
    refine sr_lookup C (tgt := 32) (off := 28) d_S_lowestBits_4 (by decide) (by rw [c2]; decide) (by decide) ?_
    refine sr_iload_n C 1 rfl rfl d_S_lowestBits_32 ?_
    refine sr_i2b C d_S_lowestBits_33 ?_
    exact hR _ _ _ _ d_S_lowestBits_34 rfl h
  · replace h := Eq.mp (if_neg c2) h
    by_cases c3 : v1 = 16
    · replace h := Eq.mp (if_pos c3) h
      refine sr_lookup C (tgt := 35) (off := 31) d_S_lowestBits_4 (by decide) (by rw [c3]; decide) (by decide) ?_
      refine sr_iload_n C 1 rfl rfl d_S_lowestBits_35 ?_
      refine sr_i2s C d_S_lowestBits_36 ?_
      exact hR _ _ _ _ d_S_lowestBits_37 rfl h
    · replace h := Eq.mp (if_neg c3) h
      have i0 := sm_ne c2 (z := 8) (by decide)
      have i1 := sm_ne c3 (z := 16) (by decide)
      refine sr_lookup C (tgt := 38) (off := 34) d_S_lowestBits_4 (by decide) (by simp [Op.lookupswitch.offset, Ne.symm i0, Ne.symm i1]) (by decide) ?_
      refine sr_iload_n C 1 rfl rfl d_S_lowestBits_38 ?_
      exact hR _ _ _ _ d_S_lowestBits_39 rfl h
theorem d_S_hasRun_0 : decode prog_6_method_5_code 0 = .ok (.iload_n 1, 1) := by decide +kernel
theorem d_S_hasRun_1 : decode prog_6_method_5_code 1 = .ok (.ifCond .lt 29, 3) := by decide +kernel
theorem d_S_hasRun_4 : decode prog_6_method_5_code 4 = .ok (.iload_n 2, 1) := by decide +kernel
theorem d_S_hasRun_5 : decode prog_6_method_5_code 5 = .ok (.ifCond .lt 25, 3) := by decide +kernel
theorem d_S_hasRun_8 : decode prog_6_method_5_code 8 = .ok (.iload_n 2, 1) := by decide +kernel
theorem d_S_hasRun_9 : decode prog_6_method_5_code 9 = .ok (.aload_n 0, 1) := by decide +kernel
theorem d_S_hasRun_10 : decode prog_6_method_5_code 10 = .ok (.getfield 32, 3) := by decide +kernel
theorem d_S_hasRun_13 : decode prog_6_method_5_code 13 = .ok (.if_icmp .gt 17, 3) := by decide +kernel
theorem d_S_hasRun_16 : decode prog_6_method_5_code 16 = .ok (.iload_n 1, 1) := by decide +kernel
theorem d_S_hasRun_17 : decode prog_6_method_5_code 17 = .ok (.aload_n 0, 1) := by decide +kernel
theorem d_S_hasRun_18 : decode prog_6_method_5_code 18 = .ok (.getfield 32, 3) := by decide +kernel
theorem d_S_hasRun_21 : decode prog_6_method_5_code 21 = .ok (.iload_n 2, 1) := by decide +kernel
theorem d_S_hasRun_22 : decode prog_6_method_5_code 22 = .ok (.isub, 1) := by decide +kernel
theorem d_S_hasRun_23 : decode prog_6_method_5_code 23 = .ok (.if_icmp .gt 7, 3) := by decide +kernel
theorem d_S_hasRun_26 : decode prog_6_method_5_code 26 = .ok (.iconst 1, 1) := by decide +kernel
theorem d_S_hasRun_27 : decode prog_6_method_5_code 27 = .ok (.goto 4, 3) := by decide +kernel
theorem d_S_hasRun_30 : decode prog_6_method_5_code 30 = .ok (.iconst 0, 1) := by decide +kernel
theorem d_S_hasRun_31 : decode prog_6_method_5_code 31 = .ok (.ireturn, 1) := by decide +kernel
def w_S_hasRun (K : Int32 → sm_Mem → Prop) (k : Nat) (p0 : Int32) (p1 : Int32) (μ : sm_Mem) : Prop := isSheet k ∧ if p0 < 0 then K 0 μ else (if p1 < 0 then K 0 μ else (if (μ k 2) < p1 then K 0 μ else (if ((μ k 2) - p1) < p0 then K 0 μ else K 1 μ)))
set_option maxHeartbeats 4000000 in
set_option maxRecDepth 100000 in
theorem P_S_hasRun (l : Launch) {K : Int32 → sm_Mem → Prop} {k : Nat} {p0 : Int32} {p1 : Int32} {μ : sm_Mem} (h : w_S_hasRun K k p0 p1 μ) : sm_MI l ⟨"SnowMoney$Sheet", "hasRun", "(II)Z"⟩ prog_6_method_5_code 3 (some .boolean) { frames := 0, cells := 0, slots := 0, locals := 0 } [sm_R k, sm_I p0, sm_I p1] μ K := by
  refine sm_ofI (by decide +kernel) (fun _ => Nat.le_of_ble_eq_true rfl) ?_
  intro p e s m args below meth c A Q G C hR
  obtain ⟨t_k, h⟩ := h
  refine sr_iload_n C 1 rfl rfl d_S_hasRun_0 ?_
  refine sr_if_lt C (tgt := 30) d_S_hasRun_1 (by decide) (fun c1 => ?_) (fun c1 => ?_)
  · replace h := Eq.mp (if_pos c1) h
    refine sr_iconst C (v := 0) d_S_hasRun_30 (by decide) ?_
    exact hR _ _ _ _ d_S_hasRun_31 rfl h
  · replace h := Eq.mp (if_neg c1) h
    refine sr_iload_n C 2 rfl rfl d_S_hasRun_4 ?_
    refine sr_if_lt C (tgt := 30) d_S_hasRun_5 (by decide) (fun c2 => ?_) (fun c2 => ?_)
    · replace h := Eq.mp (if_pos c2) h
      refine sr_iconst C (v := 0) d_S_hasRun_30 (by decide) ?_
      exact hR _ _ _ _ d_S_hasRun_31 rfl h
    · replace h := Eq.mp (if_neg c2) h
      refine sr_iload_n C 2 rfl rfl d_S_hasRun_8 ?_
      refine sr_aload_n C 0 rfl rfl d_S_hasRun_9 ?_
      refine sr_getI C sm_F3 2 q_341 t_k.1 rfl (by decide) d_S_hasRun_10 ?_
      refine sr_icmp_gt C (tgt := 30) d_S_hasRun_13 (by decide) (fun c3 => ?_) (fun c3 => ?_)
      · replace h := Eq.mp (if_pos c3) h
        refine sr_iconst C (v := 0) d_S_hasRun_30 (by decide) ?_
        exact hR _ _ _ _ d_S_hasRun_31 rfl h
      · replace h := Eq.mp (if_neg c3) h
        refine sr_iload_n C 1 rfl rfl d_S_hasRun_16 ?_
        refine sr_aload_n C 0 rfl rfl d_S_hasRun_17 ?_
        refine sr_getI C sm_F3 2 q_341 t_k.1 rfl (by decide) d_S_hasRun_18 ?_
        refine sr_iload_n C 2 rfl rfl d_S_hasRun_21 ?_
        refine sr_isub C d_S_hasRun_22 ?_
        refine sr_icmp_gt C (tgt := 30) d_S_hasRun_23 (by decide) (fun c4 => ?_) (fun c4 => ?_)
        · replace h := Eq.mp (if_pos c4) h
          refine sr_iconst C (v := 0) d_S_hasRun_30 (by decide) ?_
          exact hR _ _ _ _ d_S_hasRun_31 rfl h
        · replace h := Eq.mp (if_neg c4) h
          refine sr_iconst C (v := 1) d_S_hasRun_26 (by decide) ?_
          refine sr_goto C (tgt := 31) (by decide) d_S_hasRun_27 ?_
          exact hR _ _ _ _ d_S_hasRun_31 rfl h
end
section
theorem d_D_hasPlace_0 : decode prog_2_method_3_code 0 = .ok (.iload_n 1, 1) := by decide +kernel
theorem d_D_hasPlace_1 : decode prog_2_method_3_code 1 = .ok (.ifCond .lt 15, 3) := by decide +kernel
theorem d_D_hasPlace_4 : decode prog_2_method_3_code 4 = .ok (.iload_n 1, 1) := by decide +kernel
theorem d_D_hasPlace_5 : decode prog_2_method_3_code 5 = .ok (.aload_n 0, 1) := by decide +kernel
theorem d_D_hasPlace_6 : decode prog_2_method_3_code 6 = .ok (.getfield 64, 3) := by decide +kernel
theorem d_D_hasPlace_9 : decode prog_2_method_3_code 9 = .ok (.if_icmp .ge 7, 3) := by decide +kernel
theorem d_D_hasPlace_12 : decode prog_2_method_3_code 12 = .ok (.iconst 1, 1) := by decide +kernel
theorem d_D_hasPlace_13 : decode prog_2_method_3_code 13 = .ok (.goto 4, 3) := by decide +kernel
theorem d_D_hasPlace_16 : decode prog_2_method_3_code 16 = .ok (.iconst 0, 1) := by decide +kernel
theorem d_D_hasPlace_17 : decode prog_2_method_3_code 17 = .ok (.ireturn, 1) := by decide +kernel
def w_D_hasPlace (K : Int32 → sm_Mem → Prop) (p0 : Int32) (μ : sm_Mem) : Prop := if p0 < 0 then K 0 μ else (if (μ 1 11) ≤ p0 then K 0 μ else K 1 μ)
set_option maxHeartbeats 4000000 in
set_option maxRecDepth 100000 in
theorem P_D_hasPlace (l : Launch) {K : Int32 → sm_Mem → Prop} {p0 : Int32} {μ : sm_Mem} (h : w_D_hasPlace K p0 μ) : sm_MI l ⟨"SnowMoney$Duchy", "hasPlace", "(I)Z"⟩ prog_2_method_3_code 2 (some .boolean) { frames := 0, cells := 0, slots := 0, locals := 0 } [sm_R 1, sm_I p0] μ K := by
  refine sm_ofI (by decide +kernel) (fun _ => Nat.le_of_ble_eq_true rfl) ?_
  intro p e s m args below meth c A Q G C hR
  refine sr_iload_n C 1 rfl rfl d_D_hasPlace_0 ?_
  refine sr_if_lt C (tgt := 16) d_D_hasPlace_1 (by decide) (fun c1 => ?_) (fun c1 => ?_)
  · replace h := Eq.mp (if_pos c1) h
    refine sr_iconst C (v := 0) d_D_hasPlace_16 (by decide) ?_
    exact hR _ _ _ _ d_D_hasPlace_17 rfl h
  · replace h := Eq.mp (if_neg c1) h
    refine sr_iload_n C 1 rfl rfl d_D_hasPlace_4 ?_
    refine sr_aload_n C 0 rfl rfl d_D_hasPlace_5 ?_
    refine sr_getI C sm_F0 11 q_18 sm_l1 rfl (by decide) d_D_hasPlace_6 ?_
    refine sr_icmp_ge C (tgt := 16) d_D_hasPlace_9 (by decide) (fun c2 => ?_) (fun c2 => ?_)
    · replace h := Eq.mp (if_pos c2) h
      refine sr_iconst C (v := 0) d_D_hasPlace_16 (by decide) ?_
      exact hR _ _ _ _ d_D_hasPlace_17 rfl h
    · replace h := Eq.mp (if_neg c2) h
      refine sr_iconst C (v := 1) d_D_hasPlace_12 (by decide) ?_
      refine sr_goto C (tgt := 17) (by decide) d_D_hasPlace_13 ?_
      exact hR _ _ _ _ d_D_hasPlace_17 rfl h
theorem d_D_notesAt_0 : decode prog_2_method_7_code 0 = .ok (.iconst 0, 1) := by decide +kernel
theorem d_D_notesAt_1 : decode prog_2_method_7_code 1 = .ok (.istore_n 2, 1) := by decide +kernel
theorem d_D_notesAt_2 : decode prog_2_method_7_code 2 = .ok (.iconst 0, 1) := by decide +kernel
theorem d_D_notesAt_3 : decode prog_2_method_7_code 3 = .ok (.istore_n 3, 1) := by decide +kernel
theorem d_D_notesAt_4 : decode prog_2_method_7_code 4 = .ok (.iload_n 3, 1) := by decide +kernel
theorem d_D_notesAt_5 : decode prog_2_method_7_code 5 = .ok (.aload_n 0, 1) := by decide +kernel
theorem d_D_notesAt_6 : decode prog_2_method_7_code 6 = .ok (.getfield 67, 3) := by decide +kernel
theorem d_D_notesAt_9 : decode prog_2_method_7_code 9 = .ok (.if_icmp .ge 25, 3) := by decide +kernel
theorem d_D_notesAt_12 : decode prog_2_method_7_code 12 = .ok (.aload_n 0, 1) := by decide +kernel
theorem d_D_notesAt_13 : decode prog_2_method_7_code 13 = .ok (.getfield 25, 3) := by decide +kernel
theorem d_D_notesAt_16 : decode prog_2_method_7_code 16 = .ok (.iload_n 3, 1) := by decide +kernel
theorem d_D_notesAt_17 : decode prog_2_method_7_code 17 = .ok (.iaload, 1) := by decide +kernel
theorem d_D_notesAt_18 : decode prog_2_method_7_code 18 = .ok (.iload_n 1, 1) := by decide +kernel
theorem d_D_notesAt_19 : decode prog_2_method_7_code 19 = .ok (.if_icmp .ne 9, 3) := by decide +kernel
theorem d_D_notesAt_22 : decode prog_2_method_7_code 22 = .ok (.iload_n 2, 1) := by decide +kernel
theorem d_D_notesAt_23 : decode prog_2_method_7_code 23 = .ok (.iconst 1, 1) := by decide +kernel
theorem d_D_notesAt_24 : decode prog_2_method_7_code 24 = .ok (.iload_n 3, 1) := by decide +kernel
theorem d_D_notesAt_25 : decode prog_2_method_7_code 25 = .ok (.ishl, 1) := by decide +kernel
theorem d_D_notesAt_26 : decode prog_2_method_7_code 26 = .ok (.ior, 1) := by decide +kernel
theorem d_D_notesAt_27 : decode prog_2_method_7_code 27 = .ok (.istore_n 2, 1) := by decide +kernel
theorem d_D_notesAt_28 : decode prog_2_method_7_code 28 = .ok (.iinc 3 1, 3) := by decide +kernel
theorem d_D_notesAt_31 : decode prog_2_method_7_code 31 = .ok (.goto (-27), 3) := by decide +kernel
theorem d_D_notesAt_34 : decode prog_2_method_7_code 34 = .ok (.iload_n 2, 1) := by decide +kernel
theorem d_D_notesAt_35 : decode prog_2_method_7_code 35 = .ok (.ireturn, 1) := by decide +kernel
def w_D_notesAt_28 (K : Int32 → sm_Mem → Prop) (J4 : Int32 → Int32 → sm_Mem → Prop) (p0 : Int32) (x2 : Int32) (x3 : Int32) (μ : sm_Mem) : Prop := J4 x2 (x3 + 1) μ
def w_D_notesAt_4 (K : Int32 → sm_Mem → Prop) (p0 : Int32) (x2 : Int32) (x3 : Int32) (μ : sm_Mem) : Prop := sm_lp2 (fun J4 x2 x3 μ => if (μ 1 12) ≤ x3 then K x2 μ else (vp_in x3 10 ∧ if (μ 7 x3.toNatClampNeg) = p0 then (∀ v4 : Int32, v4 = (x2 ||| (1 <<< (x3 &&& 31))) → w_D_notesAt_28 K J4 p0 v4 x3 μ) else w_D_notesAt_28 K J4 p0 x2 x3 μ)) x2 x3 μ
def w_D_notesAt (K : Int32 → sm_Mem → Prop) (p0 : Int32) (μ : sm_Mem) : Prop := w_D_notesAt_4 K p0 0 0 μ
set_option maxHeartbeats 4000000 in
set_option maxRecDepth 100000 in
theorem P_D_notesAt (l : Launch) {K : Int32 → sm_Mem → Prop} {p0 : Int32} {μ : sm_Mem} (h : w_D_notesAt K p0 μ) : sm_MI l ⟨"SnowMoney$Duchy", "notesAt", "(I)I"⟩ prog_2_method_7_code 4 (some .int) { frames := 0, cells := 0, slots := 0, locals := 0 } [sm_R 1, sm_I p0] μ K := by
  refine sm_ofI (by decide +kernel) (fun _ => Nat.le_of_ble_eq_true rfl) ?_
  intro p e s m args below meth c A Q G C hR
  have B28 : ∀ (J4 : Int32 → Int32 → sm_Mem → Prop) (hJ4 : ∀ (x2 : Int32) (x3 : Int32) (μ : sm_Mem), J4 x2 x3 μ → sm_W p l e { frames := 0, cells := 0, slots := 0, locals := 0 } s m args below meth c A Q G 4 0 0 4 [] [(0, sm_R 1), (1, sm_I p0), (2, sm_I x2), (3, sm_I x3)] μ) (x2 : Int32) (x3 : Int32) (μ : sm_Mem), w_D_notesAt_28 K J4 p0 x2 x3 μ → sm_W p l e { frames := 0, cells := 0, slots := 0, locals := 0 } s m args below meth c A Q G 4 0 0 28 [] [(0, sm_R 1), (1, sm_I p0), (2, sm_I x2), (3, sm_I x3)] μ := by
    intro J4 hJ4 x2 x3 μ h
    refine sr_iinc C 3 rfl (by decide) d_D_notesAt_28 rfl ?_
    refine sr_goto C (tgt := 4) (by decide) d_D_notesAt_31 ?_
    refine sr_mask C [1, 2, 3, 0] rfl ?_
    exact hJ4 _ _ _ h
  have B4 : ∀ (x2 : Int32) (x3 : Int32) (μ : sm_Mem), w_D_notesAt_4 K p0 x2 x3 μ → sm_W p l e { frames := 0, cells := 0, slots := 0, locals := 0 } s m args below meth c A Q G 4 0 0 4 [] [(0, sm_R 1), (1, sm_I p0), (2, sm_I x2), (3, sm_I x3)] μ := by
    intro x2 x3 μ h
    refine sm_lp2_sound (P := fun x2 x3 μ => sm_W p l e { frames := 0, cells := 0, slots := 0, locals := 0 } s m args below meth c A Q G 4 0 0 4 [] [(0, sm_R 1), (1, sm_I p0), (2, sm_I x2), (3, sm_I x3)] μ) (fun J4 x2 x3 μ hJ4 h => ?_) h
    refine sr_iload_n C 3 rfl rfl d_D_notesAt_4 ?_
    refine sr_aload_n C 0 rfl rfl d_D_notesAt_5 ?_
    refine sr_getI C sm_F0 12 q_23 sm_l1 rfl (by decide) d_D_notesAt_6 ?_
    refine sr_icmp_ge C (tgt := 34) d_D_notesAt_9 (by decide) (fun c1 => ?_) (fun c1 => ?_)
    · replace h := Eq.mp (if_pos c1) h
      refine sr_iload_n C 2 rfl rfl d_D_notesAt_34 ?_
      exact hR _ _ _ _ d_D_notesAt_35 rfl h
    · replace h := Eq.mp (if_neg c1) h
      refine sr_aload_n C 0 rfl rfl d_D_notesAt_12 ?_
      refine sr_getR C sm_F0 5 q_24 sm_l1 (r := 7) rfl (by decide) d_D_notesAt_13 ?_
      refine sr_iload_n C 3 rfl rfl d_D_notesAt_16 ?_
      obtain ⟨g2, h⟩ := h
      refine sr_iald C sm_l7 g2 d_D_notesAt_17 ?_
      refine sr_iload_n C 1 rfl rfl d_D_notesAt_18 ?_
      refine sr_icmp_ne C (tgt := 28) d_D_notesAt_19 (by decide) (fun c3 => ?_) (fun c3 => ?_)
      · replace h := Eq.mp (if_neg c3) h
        exact B28 _ hJ4 _ _ _ h
      · replace h := Eq.mp (if_pos c3) h
        refine sr_iload_n C 2 rfl rfl d_D_notesAt_22 ?_
        refine sr_iconst C (v := 1) d_D_notesAt_23 (by decide) ?_
        refine sr_iload_n C 3 rfl rfl d_D_notesAt_24 ?_
        refine sr_ishl C d_D_notesAt_25 ?_
        refine sr_ior C d_D_notesAt_26 ?_
        replace h := h _ rfl
        refine sr_istore_n C rfl (by decide) d_D_notesAt_27 ?_
        refine sr_mask C [1, 2, 0, 3] rfl ?_
        exact B28 _ hJ4 _ _ _ h
  refine sr_iconst C (v := 0) d_D_notesAt_0 (by decide) ?_
  refine sr_istore_n C rfl (by decide) d_D_notesAt_1 ?_
  refine sr_iconst C (v := 0) d_D_notesAt_2 (by decide) ?_
  refine sr_istore_n C rfl (by decide) d_D_notesAt_3 ?_
  refine sr_mask C [2, 3, 1, 0] rfl ?_
  exact B4 _ _ _ h
theorem d_D_roadBetween_0 : decode prog_2_method_8_code 0 = .ok (.aload_n 0, 1) := by decide +kernel
theorem d_D_roadBetween_1 : decode prog_2_method_8_code 1 = .ok (.iload_n 1, 1) := by decide +kernel
theorem d_D_roadBetween_2 : decode prog_2_method_8_code 2 = .ok (.invokevirtual 79, 3) := by decide +kernel
theorem d_D_roadBetween_5 : decode prog_2_method_8_code 5 = .ok (.ifCond .eq 25, 3) := by decide +kernel
theorem d_D_roadBetween_8 : decode prog_2_method_8_code 8 = .ok (.aload_n 0, 1) := by decide +kernel
theorem d_D_roadBetween_9 : decode prog_2_method_8_code 9 = .ok (.iload_n 2, 1) := by decide +kernel
theorem d_D_roadBetween_10 : decode prog_2_method_8_code 10 = .ok (.invokevirtual 79, 3) := by decide +kernel
theorem d_D_roadBetween_13 : decode prog_2_method_8_code 13 = .ok (.ifCond .eq 17, 3) := by decide +kernel
theorem d_D_roadBetween_16 : decode prog_2_method_8_code 16 = .ok (.aload_n 0, 1) := by decide +kernel
theorem d_D_roadBetween_17 : decode prog_2_method_8_code 17 = .ok (.getfield 13, 3) := by decide +kernel
theorem d_D_roadBetween_20 : decode prog_2_method_8_code 20 = .ok (.iload_n 1, 1) := by decide +kernel
theorem d_D_roadBetween_21 : decode prog_2_method_8_code 21 = .ok (.bipush 6, 2) := by decide +kernel
theorem d_D_roadBetween_23 : decode prog_2_method_8_code 23 = .ok (.imul, 1) := by decide +kernel
theorem d_D_roadBetween_24 : decode prog_2_method_8_code 24 = .ok (.iload_n 2, 1) := by decide +kernel
theorem d_D_roadBetween_25 : decode prog_2_method_8_code 25 = .ok (.iadd, 1) := by decide +kernel
theorem d_D_roadBetween_26 : decode prog_2_method_8_code 26 = .ok (.iaload, 1) := by decide +kernel
theorem d_D_roadBetween_27 : decode prog_2_method_8_code 27 = .ok (.goto 4, 3) := by decide +kernel
theorem d_D_roadBetween_30 : decode prog_2_method_8_code 30 = .ok (.iconst 0, 1) := by decide +kernel
theorem d_D_roadBetween_31 : decode prog_2_method_8_code 31 = .ok (.ireturn, 1) := by decide +kernel
def w_D_roadBetween (K : Int32 → sm_Mem → Prop) (p0 : Int32) (p1 : Int32) (μ : sm_Mem) : Prop := w_D_hasPlace (fun r2 μ1 => if r2 = 0 then K 0 μ1 else (w_D_hasPlace (fun r5 μ4 => if r5 = 0 then K 0 μ4 else (vp_in ((p0 * 6) + p1) 36 ∧ K (μ4 3 ((p0 * 6) + p1).toNatClampNeg) μ4)) p1 μ1)) p0 μ
set_option maxHeartbeats 4000000 in
set_option maxRecDepth 100000 in
theorem P_D_roadBetween (l : Launch) {K : Int32 → sm_Mem → Prop} {p0 : Int32} {p1 : Int32} {μ : sm_Mem} (h : w_D_roadBetween K p0 p1 μ) : sm_MI l ⟨"SnowMoney$Duchy", "roadBetween", "(II)I"⟩ prog_2_method_8_code 3 (some .int) { frames := 1, cells := 0, slots := 0, locals := 21 } [sm_R 1, sm_I p0, sm_I p1] μ K := by
  refine sm_ofI (by decide +kernel) (fun _ => Nat.le_of_ble_eq_true rfl) ?_
  intro p e s m args below meth c A Q G C hR
  refine sr_aload_n C 0 rfl rfl d_D_roadBetween_0 ?_
  refine sr_iload_n C 1 rfl rfl d_D_roadBetween_1 ?_
  refine sr_callVI C [sm_I _] (P_D_hasPlace l h) ok_6 sm_l1 rfl rfl rfl rfl ⟨Nat.le_of_ble_eq_true rfl, Nat.le_of_ble_eq_true rfl⟩ (Nat.le_of_ble_eq_true rfl) ⟨Nat.zero_le _, Nat.zero_le _⟩ d_D_roadBetween_2 (fun r2 μ1 h => ?_)
  refine sr_if_eq C (tgt := 30) d_D_roadBetween_5 (by decide) (fun c3 => ?_) (fun c3 => ?_)
  · replace h := Eq.mp (if_pos c3) h
    refine sr_iconst C (v := 0) d_D_roadBetween_30 (by decide) ?_
    exact hR _ _ _ _ d_D_roadBetween_31 rfl h
  · replace h := Eq.mp (if_neg c3) h
    refine sr_aload_n C 0 rfl rfl d_D_roadBetween_8 ?_
    refine sr_iload_n C 2 rfl rfl d_D_roadBetween_9 ?_
    refine sr_callVI C [sm_I _] (P_D_hasPlace l h) ok_6 sm_l1 rfl rfl rfl rfl ⟨Nat.le_of_ble_eq_true rfl, Nat.le_of_ble_eq_true rfl⟩ (Nat.le_of_ble_eq_true rfl) ⟨Nat.zero_le _, Nat.zero_le _⟩ d_D_roadBetween_10 (fun r5 μ4 h => ?_)
    refine sr_if_eq C (tgt := 30) d_D_roadBetween_13 (by decide) (fun c6 => ?_) (fun c6 => ?_)
    · replace h := Eq.mp (if_pos c6) h
      refine sr_iconst C (v := 0) d_D_roadBetween_30 (by decide) ?_
      exact hR _ _ _ _ d_D_roadBetween_31 rfl h
    · replace h := Eq.mp (if_neg c6) h
      refine sr_aload_n C 0 rfl rfl d_D_roadBetween_16 ?_
      refine sr_getR C sm_F0 1 q_34 sm_l1 (r := 3) rfl (by decide) d_D_roadBetween_17 ?_
      refine sr_iload_n C 1 rfl rfl d_D_roadBetween_20 ?_
      refine sr_bipush C (v := 6) d_D_roadBetween_21 (by decide) ?_
      refine sr_imul C d_D_roadBetween_23 ?_
      refine sr_iload_n C 2 rfl rfl d_D_roadBetween_24 ?_
      refine sr_iadd C d_D_roadBetween_25 ?_
      obtain ⟨g7, h⟩ := h
      refine sr_iald C sm_l3 g7 d_D_roadBetween_26 ?_
      refine sr_goto C (tgt := 31) (by decide) d_D_roadBetween_27 ?_
      exact hR _ _ _ _ d_D_roadBetween_31 rfl h
theorem d_D_setRoad_0 : decode prog_2_method_9_code 0 = .ok (.aload_n 0, 1) := by decide +kernel
theorem d_D_setRoad_1 : decode prog_2_method_9_code 1 = .ok (.iload_n 1, 1) := by decide +kernel
theorem d_D_setRoad_2 : decode prog_2_method_9_code 2 = .ok (.invokevirtual 79, 3) := by decide +kernel
theorem d_D_setRoad_5 : decode prog_2_method_9_code 5 = .ok (.ifCond .eq 35, 3) := by decide +kernel
theorem d_D_setRoad_8 : decode prog_2_method_9_code 8 = .ok (.aload_n 0, 1) := by decide +kernel
theorem d_D_setRoad_9 : decode prog_2_method_9_code 9 = .ok (.iload_n 2, 1) := by decide +kernel
theorem d_D_setRoad_10 : decode prog_2_method_9_code 10 = .ok (.invokevirtual 79, 3) := by decide +kernel
theorem d_D_setRoad_13 : decode prog_2_method_9_code 13 = .ok (.ifCond .eq 27, 3) := by decide +kernel
theorem d_D_setRoad_16 : decode prog_2_method_9_code 16 = .ok (.aload_n 0, 1) := by decide +kernel
theorem d_D_setRoad_17 : decode prog_2_method_9_code 17 = .ok (.getfield 13, 3) := by decide +kernel
theorem d_D_setRoad_20 : decode prog_2_method_9_code 20 = .ok (.iload_n 1, 1) := by decide +kernel
theorem d_D_setRoad_21 : decode prog_2_method_9_code 21 = .ok (.bipush 6, 2) := by decide +kernel
theorem d_D_setRoad_23 : decode prog_2_method_9_code 23 = .ok (.imul, 1) := by decide +kernel
theorem d_D_setRoad_24 : decode prog_2_method_9_code 24 = .ok (.iload_n 2, 1) := by decide +kernel
theorem d_D_setRoad_25 : decode prog_2_method_9_code 25 = .ok (.iadd, 1) := by decide +kernel
theorem d_D_setRoad_26 : decode prog_2_method_9_code 26 = .ok (.iload_n 3, 1) := by decide +kernel
theorem d_D_setRoad_27 : decode prog_2_method_9_code 27 = .ok (.iastore, 1) := by decide +kernel
theorem d_D_setRoad_28 : decode prog_2_method_9_code 28 = .ok (.aload_n 0, 1) := by decide +kernel
theorem d_D_setRoad_29 : decode prog_2_method_9_code 29 = .ok (.getfield 13, 3) := by decide +kernel
theorem d_D_setRoad_32 : decode prog_2_method_9_code 32 = .ok (.iload_n 2, 1) := by decide +kernel
theorem d_D_setRoad_33 : decode prog_2_method_9_code 33 = .ok (.bipush 6, 2) := by decide +kernel
theorem d_D_setRoad_35 : decode prog_2_method_9_code 35 = .ok (.imul, 1) := by decide +kernel
theorem d_D_setRoad_36 : decode prog_2_method_9_code 36 = .ok (.iload_n 1, 1) := by decide +kernel
theorem d_D_setRoad_37 : decode prog_2_method_9_code 37 = .ok (.iadd, 1) := by decide +kernel
theorem d_D_setRoad_38 : decode prog_2_method_9_code 38 = .ok (.iload_n 3, 1) := by decide +kernel
theorem d_D_setRoad_39 : decode prog_2_method_9_code 39 = .ok (.iastore, 1) := by decide +kernel
theorem d_D_setRoad_40 : decode prog_2_method_9_code 40 = .ok (.return_, 1) := by decide +kernel
def w_D_setRoad (K : sm_Mem → Prop) (p0 : Int32) (p1 : Int32) (p2 : Int32) (μ : sm_Mem) : Prop := w_D_hasPlace (fun r2 μ1 => if r2 = 0 then K μ1 else (w_D_hasPlace (fun r5 μ4 => if r5 = 0 then K μ4 else (vp_in ((p0 * 6) + p1) 36 ∧ ∀ μ8 : sm_Mem, μ8 = sm_st μ4 3 (((p0 * 6) + p1).toNatClampNeg) p2 → vp_in ((p1 * 6) + p0) 36 ∧ ∀ μ10 : sm_Mem, μ10 = sm_st μ8 3 (((p1 * 6) + p0).toNatClampNeg) p2 → K μ10)) p1 μ1)) p0 μ
set_option maxHeartbeats 4000000 in
set_option maxRecDepth 100000 in
theorem P_D_setRoad (l : Launch) {K : sm_Mem → Prop} {p0 : Int32} {p1 : Int32} {p2 : Int32} {μ : sm_Mem} (h : w_D_setRoad K p0 p1 p2 μ) : sm_MV l ⟨"SnowMoney$Duchy", "setRoad", "(III)V"⟩ prog_2_method_9_code 4 { frames := 1, cells := 0, slots := 0, locals := 21 } [sm_R 1, sm_I p0, sm_I p1, sm_I p2] μ K := by
  refine sm_ofV (by decide +kernel) (fun _ => Nat.le_of_ble_eq_true rfl) ?_
  intro p e s m args below meth c A Q G C hR
  refine sr_aload_n C 0 rfl rfl d_D_setRoad_0 ?_
  refine sr_iload_n C 1 rfl rfl d_D_setRoad_1 ?_
  refine sr_callVI C [sm_I _] (P_D_hasPlace l h) ok_6 sm_l1 rfl rfl rfl rfl ⟨Nat.le_of_ble_eq_true rfl, Nat.le_of_ble_eq_true rfl⟩ (Nat.le_of_ble_eq_true rfl) ⟨Nat.zero_le _, Nat.zero_le _⟩ d_D_setRoad_2 (fun r2 μ1 h => ?_)
  refine sr_if_eq C (tgt := 40) d_D_setRoad_5 (by decide) (fun c3 => ?_) (fun c3 => ?_)
  · replace h := Eq.mp (if_pos c3) h
    exact hR _ _ _ d_D_setRoad_40 h
  · replace h := Eq.mp (if_neg c3) h
    refine sr_aload_n C 0 rfl rfl d_D_setRoad_8 ?_
    refine sr_iload_n C 2 rfl rfl d_D_setRoad_9 ?_
    refine sr_callVI C [sm_I _] (P_D_hasPlace l h) ok_6 sm_l1 rfl rfl rfl rfl ⟨Nat.le_of_ble_eq_true rfl, Nat.le_of_ble_eq_true rfl⟩ (Nat.le_of_ble_eq_true rfl) ⟨Nat.zero_le _, Nat.zero_le _⟩ d_D_setRoad_10 (fun r5 μ4 h => ?_)
    refine sr_if_eq C (tgt := 40) d_D_setRoad_13 (by decide) (fun c6 => ?_) (fun c6 => ?_)
    · replace h := Eq.mp (if_pos c6) h
      exact hR _ _ _ d_D_setRoad_40 h
    · replace h := Eq.mp (if_neg c6) h
      refine sr_aload_n C 0 rfl rfl d_D_setRoad_16 ?_
      refine sr_getR C sm_F0 1 q_34 sm_l1 (r := 3) rfl (by decide) d_D_setRoad_17 ?_
      refine sr_iload_n C 1 rfl rfl d_D_setRoad_20 ?_
      refine sr_bipush C (v := 6) d_D_setRoad_21 (by decide) ?_
      refine sr_imul C d_D_setRoad_23 ?_
      refine sr_iload_n C 2 rfl rfl d_D_setRoad_24 ?_
      refine sr_iadd C d_D_setRoad_25 ?_
      refine sr_iload_n C 3 rfl rfl d_D_setRoad_26 ?_
      obtain ⟨g7, h⟩ := h
      refine sr_iast C sm_l3 g7 d_D_setRoad_27 ?_
      replace h := h _ rfl
      refine sr_aload_n C 0 rfl rfl d_D_setRoad_28 ?_
      refine sr_getR C sm_F0 1 q_34 sm_l1 (r := 3) rfl (by decide) d_D_setRoad_29 ?_
      refine sr_iload_n C 2 rfl rfl d_D_setRoad_32 ?_
      refine sr_bipush C (v := 6) d_D_setRoad_33 (by decide) ?_
      refine sr_imul C d_D_setRoad_35 ?_
      refine sr_iload_n C 1 rfl rfl d_D_setRoad_36 ?_
      refine sr_iadd C d_D_setRoad_37 ?_
      refine sr_iload_n C 3 rfl rfl d_D_setRoad_38 ?_
      obtain ⟨g9, h⟩ := h
      refine sr_iast C sm_l3 g9 d_D_setRoad_39 ?_
      replace h := h _ rfl
      exact hR _ _ _ d_D_setRoad_40 h
theorem d_D_hasNote_0 : decode prog_2_method_4_code 0 = .ok (.iload_n 1, 1) := by decide +kernel
theorem d_D_hasNote_1 : decode prog_2_method_4_code 1 = .ok (.ifCond .lt 15, 3) := by decide +kernel
theorem d_D_hasNote_4 : decode prog_2_method_4_code 4 = .ok (.iload_n 1, 1) := by decide +kernel
theorem d_D_hasNote_5 : decode prog_2_method_4_code 5 = .ok (.aload_n 0, 1) := by decide +kernel
theorem d_D_hasNote_6 : decode prog_2_method_4_code 6 = .ok (.getfield 67, 3) := by decide +kernel
theorem d_D_hasNote_9 : decode prog_2_method_4_code 9 = .ok (.if_icmp .ge 7, 3) := by decide +kernel
theorem d_D_hasNote_12 : decode prog_2_method_4_code 12 = .ok (.iconst 1, 1) := by decide +kernel
theorem d_D_hasNote_13 : decode prog_2_method_4_code 13 = .ok (.goto 4, 3) := by decide +kernel
theorem d_D_hasNote_16 : decode prog_2_method_4_code 16 = .ok (.iconst 0, 1) := by decide +kernel
theorem d_D_hasNote_17 : decode prog_2_method_4_code 17 = .ok (.ireturn, 1) := by decide +kernel
def w_D_hasNote (K : Int32 → sm_Mem → Prop) (p0 : Int32) (μ : sm_Mem) : Prop := if p0 < 0 then K 0 μ else (if (μ 1 12) ≤ p0 then K 0 μ else K 1 μ)
set_option maxHeartbeats 4000000 in
set_option maxRecDepth 100000 in
theorem P_D_hasNote (l : Launch) {K : Int32 → sm_Mem → Prop} {p0 : Int32} {μ : sm_Mem} (h : w_D_hasNote K p0 μ) : sm_MI l ⟨"SnowMoney$Duchy", "hasNote", "(I)Z"⟩ prog_2_method_4_code 2 (some .boolean) { frames := 0, cells := 0, slots := 0, locals := 0 } [sm_R 1, sm_I p0] μ K := by
  refine sm_ofI (by decide +kernel) (fun _ => Nat.le_of_ble_eq_true rfl) ?_
  intro p e s m args below meth c A Q G C hR
  refine sr_iload_n C 1 rfl rfl d_D_hasNote_0 ?_
  refine sr_if_lt C (tgt := 16) d_D_hasNote_1 (by decide) (fun c1 => ?_) (fun c1 => ?_)
  · replace h := Eq.mp (if_pos c1) h
    refine sr_iconst C (v := 0) d_D_hasNote_16 (by decide) ?_
    exact hR _ _ _ _ d_D_hasNote_17 rfl h
  · replace h := Eq.mp (if_neg c1) h
    refine sr_iload_n C 1 rfl rfl d_D_hasNote_4 ?_
    refine sr_aload_n C 0 rfl rfl d_D_hasNote_5 ?_
    refine sr_getI C sm_F0 12 q_23 sm_l1 rfl (by decide) d_D_hasNote_6 ?_
    refine sr_icmp_ge C (tgt := 16) d_D_hasNote_9 (by decide) (fun c2 => ?_) (fun c2 => ?_)
    · replace h := Eq.mp (if_pos c2) h
      refine sr_iconst C (v := 0) d_D_hasNote_16 (by decide) ?_
      exact hR _ _ _ _ d_D_hasNote_17 rfl h
    · replace h := Eq.mp (if_neg c2) h
      refine sr_iconst C (v := 1) d_D_hasNote_12 (by decide) ?_
      refine sr_goto C (tgt := 17) (by decide) d_D_hasNote_13 ?_
      exact hR _ _ _ _ d_D_hasNote_17 rfl h
theorem d_D_heatBy_0 : decode prog_2_method_10_code 0 = .ok (.aload_n 0, 1) := by decide +kernel
theorem d_D_heatBy_1 : decode prog_2_method_10_code 1 = .ok (.getfield 40, 3) := by decide +kernel
theorem d_D_heatBy_4 : decode prog_2_method_10_code 4 = .ok (.invokevirtual 90, 3) := by decide +kernel
theorem d_D_heatBy_7 : decode prog_2_method_10_code 7 = .ok (.ifCond .eq 11, 3) := by decide +kernel
theorem d_D_heatBy_10 : decode prog_2_method_10_code 10 = .ok (.iload_n 1, 1) := by decide +kernel
theorem d_D_heatBy_11 : decode prog_2_method_10_code 11 = .ok (.iload_n 2, 1) := by decide +kernel
theorem d_D_heatBy_12 : decode prog_2_method_10_code 12 = .ok (.iadd, 1) := by decide +kernel
theorem d_D_heatBy_13 : decode prog_2_method_10_code 13 = .ok (.iconst 3, 1) := by decide +kernel
theorem d_D_heatBy_14 : decode prog_2_method_10_code 14 = .ok (.isub, 1) := by decide +kernel
theorem d_D_heatBy_15 : decode prog_2_method_10_code 15 = .ok (.goto 13, 3) := by decide +kernel
theorem d_D_heatBy_18 : decode prog_2_method_10_code 18 = .ok (.aload_n 0, 1) := by decide +kernel
theorem d_D_heatBy_19 : decode prog_2_method_10_code 19 = .ok (.getfield 40, 3) := by decide +kernel
theorem d_D_heatBy_22 : decode prog_2_method_10_code 22 = .ok (.iload_n 1, 1) := by decide +kernel
theorem d_D_heatBy_23 : decode prog_2_method_10_code 23 = .ok (.iload_n 2, 1) := by decide +kernel
theorem d_D_heatBy_24 : decode prog_2_method_10_code 24 = .ok (.iload_n 3, 1) := by decide +kernel
theorem d_D_heatBy_25 : decode prog_2_method_10_code 25 = .ok (.invokevirtual 94, 3) := by decide +kernel
theorem d_D_heatBy_28 : decode prog_2_method_10_code 28 = .ok (.istore 4, 2) := by decide +kernel
theorem d_D_heatBy_30 : decode prog_2_method_10_code 30 = .ok (.bipush 99, 2) := by decide +kernel
theorem d_D_heatBy_32 : decode prog_2_method_10_code 32 = .ok (.iconst 0, 1) := by decide +kernel
theorem d_D_heatBy_33 : decode prog_2_method_10_code 33 = .ok (.iload 4, 2) := by decide +kernel
theorem d_D_heatBy_35 : decode prog_2_method_10_code 35 = .ok (.invokestatic 98, 3) := by decide +kernel
theorem d_D_heatBy_38 : decode prog_2_method_10_code 38 = .ok (.invokestatic 104, 3) := by decide +kernel
theorem d_D_heatBy_41 : decode prog_2_method_10_code 41 = .ok (.ireturn, 1) := by decide +kernel
def w_D_heatBy_28 (K : Int32 → sm_Mem → Prop) (p0 : Int32) (p1 : Int32) (p2 : Int32) (s0 : Int32) (μ : sm_Mem) : Prop := K (if (if 0 < s0 then s0 else 0) < 99 then (if 0 < s0 then s0 else 0) else 99) μ
def w_D_heatBy (K : Int32 → sm_Mem → Prop) (p0 : Int32) (p1 : Int32) (p2 : Int32) (μ : sm_Mem) : Prop := w_T_isMissing (fun r2 μ1 => if r2 = 0 then w_T_valueWith (fun r5 μ4 => w_D_heatBy_28 K p0 p1 p2 r5 μ4) 11 p0 p1 p2 μ1 else w_D_heatBy_28 K p0 p1 p2 ((p0 + p1) - 3) μ1) 11 μ
set_option maxHeartbeats 4000000 in
set_option maxRecDepth 100000 in
theorem P_D_heatBy (l : Launch) {K : Int32 → sm_Mem → Prop} {p0 : Int32} {p1 : Int32} {p2 : Int32} {μ : sm_Mem} (h : w_D_heatBy K p0 p1 p2 μ) : sm_MI l ⟨"SnowMoney$Duchy", "heatBy", "(III)I"⟩ prog_2_method_10_code 5 (some .int) { frames := 2, cells := 0, slots := 0, locals := 49 } [sm_R 1, sm_I p0, sm_I p1, sm_I p2] μ K := by
  refine sm_ofI (by decide +kernel) (fun _ => Nat.le_of_ble_eq_true rfl) ?_
  intro p e s m args below meth c A Q G C hR
  have B28 : ∀ (s0 : Int32) (μ : sm_Mem), w_D_heatBy_28 K p0 p1 p2 s0 μ → sm_W p l e { frames := 2, cells := 0, slots := 0, locals := 49 } s m args below meth c A Q G 5 0 0 28 [sm_I s0] [] μ := by
    intro s0 μ h
    refine sr_istore C (by decide) d_D_heatBy_28 ?_
    refine sr_bipush C (v := 99) d_D_heatBy_30 (by decide) ?_
    refine sr_iconst C (v := 0) d_D_heatBy_32 (by decide) ?_
    refine sr_iload C 0 rfl d_D_heatBy_33 ?_
    refine sr_mmax C q_80 q_mmax1 q_mini q_mmax2 (Nat.le_of_ble_eq_true rfl) (Nat.le_of_ble_eq_true rfl) ⟨Nat.zero_le _, Nat.zero_le _⟩ d_D_heatBy_35 ?_
    refine sr_mmin C q_81 q_mmin1 q_mini q_mmin2 (Nat.le_of_ble_eq_true rfl) (Nat.le_of_ble_eq_true rfl) ⟨Nat.zero_le _, Nat.zero_le _⟩ d_D_heatBy_38 ?_
    exact hR _ _ _ _ d_D_heatBy_41 rfl h
  refine sr_aload_n C 0 rfl rfl d_D_heatBy_0 ?_
  refine sr_getR C sm_F0 9 q_70 sm_l1 (r := 11) rfl (by decide) d_D_heatBy_1 ?_
  refine sr_callVI C [] (P_T_isMissing l h) ok_14 sm_l11 rfl rfl rfl rfl ⟨Nat.le_of_ble_eq_true rfl, Nat.le_of_ble_eq_true rfl⟩ (Nat.le_of_ble_eq_true rfl) ⟨Nat.zero_le _, Nat.zero_le _⟩ d_D_heatBy_4 (fun r2 μ1 h => ?_)
  refine sr_if_eq C (tgt := 18) d_D_heatBy_7 (by decide) (fun c3 => ?_) (fun c3 => ?_)
  · replace h := Eq.mp (if_pos c3) h
    refine sr_aload_n C 0 rfl rfl d_D_heatBy_18 ?_
    refine sr_getR C sm_F0 9 q_70 sm_l1 (r := 11) rfl (by decide) d_D_heatBy_19 ?_
    refine sr_iload_n C 1 rfl rfl d_D_heatBy_22 ?_
    refine sr_iload_n C 2 rfl rfl d_D_heatBy_23 ?_
    refine sr_iload_n C 3 rfl rfl d_D_heatBy_24 ?_
    refine sr_callVI C [sm_I _, sm_I _, sm_I _] (P_T_valueWith l h) ok_15 sm_l11 rfl rfl rfl rfl ⟨Nat.le_of_ble_eq_true rfl, Nat.le_of_ble_eq_true rfl⟩ (Nat.le_of_ble_eq_true rfl) ⟨Nat.zero_le _, Nat.zero_le _⟩ d_D_heatBy_25 (fun r5 μ4 h => ?_)
    refine sr_mask C [] rfl ?_
    exact B28 _ _ h
  · replace h := Eq.mp (if_neg c3) h
    refine sr_iload_n C 1 rfl rfl d_D_heatBy_10 ?_
    refine sr_iload_n C 2 rfl rfl d_D_heatBy_11 ?_
    refine sr_iadd C d_D_heatBy_12 ?_
    refine sr_iconst C (v := 3) d_D_heatBy_13 (by decide) ?_
    refine sr_isub C d_D_heatBy_14 ?_
    refine sr_goto C (tgt := 28) (by decide) d_D_heatBy_15 ?_
    refine sr_mask C [] rfl ?_
    exact B28 _ _ h
theorem d_D_warmthOf_0 : decode prog_2_method_5_code 0 = .ok (.aload_n 0, 1) := by decide +kernel
theorem d_D_warmthOf_1 : decode prog_2_method_5_code 1 = .ok (.iload_n 1, 1) := by decide +kernel
theorem d_D_warmthOf_2 : decode prog_2_method_5_code 2 = .ok (.invokevirtual 79, 3) := by decide +kernel
theorem d_D_warmthOf_5 : decode prog_2_method_5_code 5 = .ok (.ifCond .eq 12, 3) := by decide +kernel
theorem d_D_warmthOf_8 : decode prog_2_method_5_code 8 = .ok (.aload_n 0, 1) := by decide +kernel
theorem d_D_warmthOf_9 : decode prog_2_method_5_code 9 = .ok (.getfield 9, 3) := by decide +kernel
theorem d_D_warmthOf_12 : decode prog_2_method_5_code 12 = .ok (.iload_n 1, 1) := by decide +kernel
theorem d_D_warmthOf_13 : decode prog_2_method_5_code 13 = .ok (.iaload, 1) := by decide +kernel
theorem d_D_warmthOf_14 : decode prog_2_method_5_code 14 = .ok (.goto 4, 3) := by decide +kernel
theorem d_D_warmthOf_17 : decode prog_2_method_5_code 17 = .ok (.iconst 0, 1) := by decide +kernel
theorem d_D_warmthOf_18 : decode prog_2_method_5_code 18 = .ok (.ireturn, 1) := by decide +kernel
def w_D_warmthOf (K : Int32 → sm_Mem → Prop) (p0 : Int32) (μ : sm_Mem) : Prop := w_D_hasPlace (fun r2 μ1 => if r2 = 0 then K 0 μ1 else (vp_in p0 6 ∧ K (μ1 2 p0.toNatClampNeg) μ1)) p0 μ
set_option maxHeartbeats 4000000 in
set_option maxRecDepth 100000 in
theorem P_D_warmthOf (l : Launch) {K : Int32 → sm_Mem → Prop} {p0 : Int32} {μ : sm_Mem} (h : w_D_warmthOf K p0 μ) : sm_MI l ⟨"SnowMoney$Duchy", "warmthOf", "(I)I"⟩ prog_2_method_5_code 2 (some .int) { frames := 1, cells := 0, slots := 0, locals := 21 } [sm_R 1, sm_I p0] μ K := by
  refine sm_ofI (by decide +kernel) (fun _ => Nat.le_of_ble_eq_true rfl) ?_
  intro p e s m args below meth c A Q G C hR
  refine sr_aload_n C 0 rfl rfl d_D_warmthOf_0 ?_
  refine sr_iload_n C 1 rfl rfl d_D_warmthOf_1 ?_
  refine sr_callVI C [sm_I _] (P_D_hasPlace l h) ok_6 sm_l1 rfl rfl rfl rfl ⟨Nat.le_of_ble_eq_true rfl, Nat.le_of_ble_eq_true rfl⟩ (Nat.le_of_ble_eq_true rfl) ⟨Nat.zero_le _, Nat.zero_le _⟩ d_D_warmthOf_2 (fun r2 μ1 h => ?_)
  refine sr_if_eq C (tgt := 17) d_D_warmthOf_5 (by decide) (fun c3 => ?_) (fun c3 => ?_)
  · replace h := Eq.mp (if_pos c3) h
    refine sr_iconst C (v := 0) d_D_warmthOf_17 (by decide) ?_
    exact hR _ _ _ _ d_D_warmthOf_18 rfl h
  · replace h := Eq.mp (if_neg c3) h
    refine sr_aload_n C 0 rfl rfl d_D_warmthOf_8 ?_
    refine sr_getR C sm_F0 0 q_92 sm_l1 (r := 2) rfl (by decide) d_D_warmthOf_9 ?_
    refine sr_iload_n C 1 rfl rfl d_D_warmthOf_12 ?_
    obtain ⟨g4, h⟩ := h
    refine sr_iald C sm_l2 g4 d_D_warmthOf_13 ?_
    refine sr_goto C (tgt := 18) (by decide) d_D_warmthOf_14 ?_
    exact hR _ _ _ _ d_D_warmthOf_18 rfl h
theorem d_D_meltsNow_0 : decode prog_2_method_12_code 0 = .ok (.aload_n 0, 1) := by decide +kernel
theorem d_D_meltsNow_1 : decode prog_2_method_12_code 1 = .ok (.iload_n 1, 1) := by decide +kernel
theorem d_D_meltsNow_2 : decode prog_2_method_12_code 2 = .ok (.invokevirtual 83, 3) := by decide +kernel
theorem d_D_meltsNow_5 : decode prog_2_method_12_code 5 = .ok (.ifCond .ne 5, 3) := by decide +kernel
theorem d_D_meltsNow_8 : decode prog_2_method_12_code 8 = .ok (.iconst 0, 1) := by decide +kernel
theorem d_D_meltsNow_9 : decode prog_2_method_12_code 9 = .ok (.ireturn, 1) := by decide +kernel
theorem d_D_meltsNow_10 : decode prog_2_method_12_code 10 = .ok (.aload_n 0, 1) := by decide +kernel
theorem d_D_meltsNow_11 : decode prog_2_method_12_code 11 = .ok (.getfield 16, 3) := by decide +kernel
theorem d_D_meltsNow_14 : decode prog_2_method_12_code 14 = .ok (.iload_n 1, 1) := by decide +kernel
theorem d_D_meltsNow_15 : decode prog_2_method_12_code 15 = .ok (.iaload, 1) := by decide +kernel
theorem d_D_meltsNow_16 : decode prog_2_method_12_code 16 = .ok (.aload_n 0, 1) := by decide +kernel
theorem d_D_meltsNow_17 : decode prog_2_method_12_code 17 = .ok (.getfield 19, 3) := by decide +kernel
theorem d_D_meltsNow_20 : decode prog_2_method_12_code 20 = .ok (.iload_n 1, 1) := by decide +kernel
theorem d_D_meltsNow_21 : decode prog_2_method_12_code 21 = .ok (.iaload, 1) := by decide +kernel
theorem d_D_meltsNow_22 : decode prog_2_method_12_code 22 = .ok (.aload_n 0, 1) := by decide +kernel
theorem d_D_meltsNow_23 : decode prog_2_method_12_code 23 = .ok (.aload_n 0, 1) := by decide +kernel
theorem d_D_meltsNow_24 : decode prog_2_method_12_code 24 = .ok (.iload_n 2, 1) := by decide +kernel
theorem d_D_meltsNow_25 : decode prog_2_method_12_code 25 = .ok (.invokevirtual 86, 3) := by decide +kernel
theorem d_D_meltsNow_28 : decode prog_2_method_12_code 28 = .ok (.aload_n 0, 1) := by decide +kernel
theorem d_D_meltsNow_29 : decode prog_2_method_12_code 29 = .ok (.getfield 47, 3) := by decide +kernel
theorem d_D_meltsNow_32 : decode prog_2_method_12_code 32 = .ok (.aload_n 0, 1) := by decide +kernel
theorem d_D_meltsNow_33 : decode prog_2_method_12_code 33 = .ok (.getfield 70, 3) := by decide +kernel
theorem d_D_meltsNow_36 : decode prog_2_method_12_code 36 = .ok (.bipush 24, 2) := by decide +kernel
theorem d_D_meltsNow_38 : decode prog_2_method_12_code 38 = .ok (.irem, 1) := by decide +kernel
theorem d_D_meltsNow_39 : decode prog_2_method_12_code 39 = .ok (.invokevirtual 107, 3) := by decide +kernel
theorem d_D_meltsNow_42 : decode prog_2_method_12_code 42 = .ok (.invokestatic 110, 3) := by decide +kernel
theorem d_D_meltsNow_45 : decode prog_2_method_12_code 45 = .ok (.ireturn, 1) := by decide +kernel
def w_D_meltsNow (K : Int32 → sm_Mem → Prop) (p0 : Int32) (p1 : Int32) (μ : sm_Mem) : Prop := w_D_hasNote (fun r2 μ1 => if r2 = 0 then K 0 μ1 else (vp_in p0 10 ∧ vp_in p0 10 ∧ w_D_warmthOf (fun r7 μ6 => w_D_heatBy (fun r9 μ8 => w_K_melts (fun r11 μ10 => K r11 μ10) (μ1 4 p0.toNatClampNeg) (μ1 5 p0.toNatClampNeg) r9 μ8) r7 (μ6 1 13) ((μ6 1 14) % 24) μ6) p1 μ1)) p0 μ
set_option maxHeartbeats 4000000 in
set_option maxRecDepth 100000 in
theorem P_D_meltsNow (l : Launch) {K : Int32 → sm_Mem → Prop} {p0 : Int32} {p1 : Int32} {μ : sm_Mem} (h : w_D_meltsNow K p0 p1 μ) : sm_MI l ⟨"SnowMoney$Duchy", "meltsNow", "(II)I"⟩ prog_2_method_12_code 3 (some .int) { frames := 3, cells := 0, slots := 0, locals := 73 } [sm_R 1, sm_I p0, sm_I p1] μ K := by
  refine sm_ofI (by decide +kernel) (fun _ => Nat.le_of_ble_eq_true rfl) ?_
  intro p e s m args below meth c A Q G C hR
  refine sr_aload_n C 0 rfl rfl d_D_meltsNow_0 ?_
  refine sr_iload_n C 1 rfl rfl d_D_meltsNow_1 ?_
  refine sr_callVI C [sm_I _] (P_D_hasNote l h) ok_10 sm_l1 rfl rfl rfl rfl ⟨Nat.le_of_ble_eq_true rfl, Nat.le_of_ble_eq_true rfl⟩ (Nat.le_of_ble_eq_true rfl) ⟨Nat.zero_le _, Nat.zero_le _⟩ d_D_meltsNow_2 (fun r2 μ1 h => ?_)
  refine sr_if_ne C (tgt := 10) d_D_meltsNow_5 (by decide) (fun c3 => ?_) (fun c3 => ?_)
  · replace h := Eq.mp (if_neg c3) h
    refine sr_aload_n C 0 rfl rfl d_D_meltsNow_10 ?_
    refine sr_getR C sm_F0 2 q_54 sm_l1 (r := 4) rfl (by decide) d_D_meltsNow_11 ?_
    refine sr_iload_n C 1 rfl rfl d_D_meltsNow_14 ?_
    obtain ⟨g4, h⟩ := h
    refine sr_iald C sm_l4 g4 d_D_meltsNow_15 ?_
    refine sr_aload_n C 0 rfl rfl d_D_meltsNow_16 ?_
    refine sr_getR C sm_F0 3 q_55 sm_l1 (r := 5) rfl (by decide) d_D_meltsNow_17 ?_
    refine sr_iload_n C 1 rfl rfl d_D_meltsNow_20 ?_
    obtain ⟨g5, h⟩ := h
    refine sr_iald C sm_l5 g5 d_D_meltsNow_21 ?_
    refine sr_aload_n C 0 rfl rfl d_D_meltsNow_22 ?_
    refine sr_aload_n C 0 rfl rfl d_D_meltsNow_23 ?_
    refine sr_iload_n C 2 rfl rfl d_D_meltsNow_24 ?_
    refine sr_callVI C [sm_I _] (P_D_warmthOf l h) ok_11 sm_l1 rfl rfl rfl rfl ⟨Nat.le_of_ble_eq_true rfl, Nat.le_of_ble_eq_true rfl⟩ (Nat.le_of_ble_eq_true rfl) ⟨Nat.zero_le _, Nat.zero_le _⟩ d_D_meltsNow_25 (fun r7 μ6 h => ?_)
    refine sr_aload_n C 0 rfl rfl d_D_meltsNow_28 ?_
    refine sr_getI C sm_F0 13 q_60 sm_l1 rfl (by decide) d_D_meltsNow_29 ?_
    refine sr_aload_n C 0 rfl rfl d_D_meltsNow_32 ?_
    refine sr_getI C sm_F0 14 q_61 sm_l1 rfl (by decide) d_D_meltsNow_33 ?_
    refine sr_bipush C (v := 24) d_D_meltsNow_36 (by decide) ?_
    refine sr_irem C (by decide) d_D_meltsNow_38 ?_
    refine sr_callVI C [sm_I _, sm_I _, sm_I _] (P_D_heatBy l h) ok_12 sm_l1 rfl rfl rfl rfl ⟨Nat.le_of_ble_eq_true rfl, Nat.le_of_ble_eq_true rfl⟩ (Nat.le_of_ble_eq_true rfl) ⟨Nat.zero_le _, Nat.zero_le _⟩ d_D_meltsNow_39 (fun r9 μ8 h => ?_)
    refine sr_callSI C [sm_I _, sm_I _, sm_I _] (P_K_melts l h) ok_13 rfl rfl rfl ⟨Nat.le_of_ble_eq_true rfl, Nat.le_of_ble_eq_true rfl⟩ (Nat.le_of_ble_eq_true rfl) ⟨Nat.zero_le _, Nat.zero_le _⟩ d_D_meltsNow_42 (fun r11 μ10 h => ?_)
    exact hR _ _ _ _ d_D_meltsNow_45 rfl h
  · replace h := Eq.mp (if_pos c3) h
    refine sr_iconst C (v := 0) d_D_meltsNow_8 (by decide) ?_
    exact hR _ _ _ _ d_D_meltsNow_9 rfl h
theorem d_D_foundBy_0 : decode prog_2_method_11_code 0 = .ok (.aload_n 0, 1) := by decide +kernel
theorem d_D_foundBy_1 : decode prog_2_method_11_code 1 = .ok (.getfield 44, 3) := by decide +kernel
theorem d_D_foundBy_4 : decode prog_2_method_11_code 4 = .ok (.invokevirtual 90, 3) := by decide +kernel
theorem d_D_foundBy_7 : decode prog_2_method_11_code 7 = .ok (.ifCond .eq 14, 3) := by decide +kernel
theorem d_D_foundBy_10 : decode prog_2_method_11_code 10 = .ok (.iload_n 1, 1) := by decide +kernel
theorem d_D_foundBy_11 : decode prog_2_method_11_code 11 = .ok (.iconst 5, 1) := by decide +kernel
theorem d_D_foundBy_12 : decode prog_2_method_11_code 12 = .ok (.if_icmp .ge 7, 3) := by decide +kernel
theorem d_D_foundBy_15 : decode prog_2_method_11_code 15 = .ok (.iconst 1, 1) := by decide +kernel
theorem d_D_foundBy_16 : decode prog_2_method_11_code 16 = .ok (.goto 4, 3) := by decide +kernel
theorem d_D_foundBy_19 : decode prog_2_method_11_code 19 = .ok (.iconst 0, 1) := by decide +kernel
theorem d_D_foundBy_20 : decode prog_2_method_11_code 20 = .ok (.ireturn, 1) := by decide +kernel
theorem d_D_foundBy_21 : decode prog_2_method_11_code 21 = .ok (.iconst 1, 1) := by decide +kernel
theorem d_D_foundBy_22 : decode prog_2_method_11_code 22 = .ok (.iconst 0, 1) := by decide +kernel
theorem d_D_foundBy_23 : decode prog_2_method_11_code 23 = .ok (.aload_n 0, 1) := by decide +kernel
theorem d_D_foundBy_24 : decode prog_2_method_11_code 24 = .ok (.getfield 44, 3) := by decide +kernel
theorem d_D_foundBy_27 : decode prog_2_method_11_code 27 = .ok (.iload_n 1, 1) := by decide +kernel
theorem d_D_foundBy_28 : decode prog_2_method_11_code 28 = .ok (.iload_n 2, 1) := by decide +kernel
theorem d_D_foundBy_29 : decode prog_2_method_11_code 29 = .ok (.iload_n 3, 1) := by decide +kernel
theorem d_D_foundBy_30 : decode prog_2_method_11_code 30 = .ok (.invokevirtual 94, 3) := by decide +kernel
theorem d_D_foundBy_33 : decode prog_2_method_11_code 33 = .ok (.invokestatic 98, 3) := by decide +kernel
theorem d_D_foundBy_36 : decode prog_2_method_11_code 36 = .ok (.invokestatic 104, 3) := by decide +kernel
theorem d_D_foundBy_39 : decode prog_2_method_11_code 39 = .ok (.ireturn, 1) := by decide +kernel
def w_D_foundBy (K : Int32 → sm_Mem → Prop) (p0 : Int32) (p1 : Int32) (p2 : Int32) (μ : sm_Mem) : Prop := w_T_isMissing (fun r2 μ1 => if r2 = 0 then w_T_valueWith (fun r5 μ4 => K (if (if 0 < r5 then r5 else 0) < 1 then (if 0 < r5 then r5 else 0) else 1) μ4) 15 p0 p1 p2 μ1 else (if 5 ≤ p0 then K 0 μ1 else K 1 μ1)) 15 μ
set_option maxHeartbeats 4000000 in
set_option maxRecDepth 100000 in
theorem P_D_foundBy (l : Launch) {K : Int32 → sm_Mem → Prop} {p0 : Int32} {p1 : Int32} {p2 : Int32} {μ : sm_Mem} (h : w_D_foundBy K p0 p1 p2 μ) : sm_MI l ⟨"SnowMoney$Duchy", "foundBy", "(III)I"⟩ prog_2_method_11_code 4 (some .int) { frames := 2, cells := 0, slots := 0, locals := 49 } [sm_R 1, sm_I p0, sm_I p1, sm_I p2] μ K := by
  refine sm_ofI (by decide +kernel) (fun _ => Nat.le_of_ble_eq_true rfl) ?_
  intro p e s m args below meth c A Q G C hR
  refine sr_aload_n C 0 rfl rfl d_D_foundBy_0 ?_
  refine sr_getR C sm_F0 10 q_108 sm_l1 (r := 15) rfl (by decide) d_D_foundBy_1 ?_
  refine sr_callVI C [] (P_T_isMissing l h) ok_14 sm_l15 rfl rfl rfl rfl ⟨Nat.le_of_ble_eq_true rfl, Nat.le_of_ble_eq_true rfl⟩ (Nat.le_of_ble_eq_true rfl) ⟨Nat.zero_le _, Nat.zero_le _⟩ d_D_foundBy_4 (fun r2 μ1 h => ?_)
  refine sr_if_eq C (tgt := 21) d_D_foundBy_7 (by decide) (fun c3 => ?_) (fun c3 => ?_)
  · replace h := Eq.mp (if_pos c3) h
    refine sr_iconst C (v := 1) d_D_foundBy_21 (by decide) ?_
    refine sr_iconst C (v := 0) d_D_foundBy_22 (by decide) ?_
    refine sr_aload_n C 0 rfl rfl d_D_foundBy_23 ?_
    refine sr_getR C sm_F0 10 q_108 sm_l1 (r := 15) rfl (by decide) d_D_foundBy_24 ?_
    refine sr_iload_n C 1 rfl rfl d_D_foundBy_27 ?_
    refine sr_iload_n C 2 rfl rfl d_D_foundBy_28 ?_
    refine sr_iload_n C 3 rfl rfl d_D_foundBy_29 ?_
    refine sr_callVI C [sm_I _, sm_I _, sm_I _] (P_T_valueWith l h) ok_15 sm_l15 rfl rfl rfl rfl ⟨Nat.le_of_ble_eq_true rfl, Nat.le_of_ble_eq_true rfl⟩ (Nat.le_of_ble_eq_true rfl) ⟨Nat.zero_le _, Nat.zero_le _⟩ d_D_foundBy_30 (fun r5 μ4 h => ?_)
    refine sr_mmax C q_80 q_mmax1 q_mini q_mmax2 (Nat.le_of_ble_eq_true rfl) (Nat.le_of_ble_eq_true rfl) ⟨Nat.zero_le _, Nat.zero_le _⟩ d_D_foundBy_33 ?_
    refine sr_mmin C q_81 q_mmin1 q_mini q_mmin2 (Nat.le_of_ble_eq_true rfl) (Nat.le_of_ble_eq_true rfl) ⟨Nat.zero_le _, Nat.zero_le _⟩ d_D_foundBy_36 ?_
    exact hR _ _ _ _ d_D_foundBy_39 rfl h
  · replace h := Eq.mp (if_neg c3) h
    refine sr_iload_n C 1 rfl rfl d_D_foundBy_10 ?_
    refine sr_iconst C (v := 5) d_D_foundBy_11 (by decide) ?_
    refine sr_icmp_ge C (tgt := 19) d_D_foundBy_12 (by decide) (fun c6 => ?_) (fun c6 => ?_)
    · replace h := Eq.mp (if_pos c6) h
      refine sr_iconst C (v := 0) d_D_foundBy_19 (by decide) ?_
      exact hR _ _ _ _ d_D_foundBy_20 rfl h
    · replace h := Eq.mp (if_neg c6) h
      refine sr_iconst C (v := 1) d_D_foundBy_15 (by decide) ?_
      refine sr_goto C (tgt := 20) (by decide) d_D_foundBy_16 ?_
      exact hR _ _ _ _ d_D_foundBy_20 rfl h
theorem d_D_paysWith_0 : decode prog_2_method_13_code 0 = .ok (.aload_n 0, 1) := by decide +kernel
theorem d_D_paysWith_1 : decode prog_2_method_13_code 1 = .ok (.iload_n 1, 1) := by decide +kernel
theorem d_D_paysWith_2 : decode prog_2_method_13_code 2 = .ok (.invokevirtual 83, 3) := by decide +kernel
theorem d_D_paysWith_5 : decode prog_2_method_13_code 5 = .ok (.ifCond .ne 5, 3) := by decide +kernel
theorem d_D_paysWith_8 : decode prog_2_method_13_code 8 = .ok (.iconst 0, 1) := by decide +kernel
theorem d_D_paysWith_9 : decode prog_2_method_13_code 9 = .ok (.ireturn, 1) := by decide +kernel
theorem d_D_paysWith_10 : decode prog_2_method_13_code 10 = .ok (.aload_n 0, 1) := by decide +kernel
theorem d_D_paysWith_11 : decode prog_2_method_13_code 11 = .ok (.getfield 16, 3) := by decide +kernel
theorem d_D_paysWith_14 : decode prog_2_method_13_code 14 = .ok (.iload_n 1, 1) := by decide +kernel
theorem d_D_paysWith_15 : decode prog_2_method_13_code 15 = .ok (.iaload, 1) := by decide +kernel
theorem d_D_paysWith_16 : decode prog_2_method_13_code 16 = .ok (.iconst 2, 1) := by decide +kernel
theorem d_D_paysWith_17 : decode prog_2_method_13_code 17 = .ok (.invokestatic 115, 3) := by decide +kernel
theorem d_D_paysWith_20 : decode prog_2_method_13_code 20 = .ok (.ifCond .eq 27, 3) := by decide +kernel
theorem d_D_paysWith_23 : decode prog_2_method_13_code 23 = .ok (.aload_n 0, 1) := by decide +kernel
theorem d_D_paysWith_24 : decode prog_2_method_13_code 24 = .ok (.iload_n 2, 1) := by decide +kernel
theorem d_D_paysWith_25 : decode prog_2_method_13_code 25 = .ok (.aload_n 0, 1) := by decide +kernel
theorem d_D_paysWith_26 : decode prog_2_method_13_code 26 = .ok (.getfield 19, 3) := by decide +kernel
theorem d_D_paysWith_29 : decode prog_2_method_13_code 29 = .ok (.iload_n 1, 1) := by decide +kernel
theorem d_D_paysWith_30 : decode prog_2_method_13_code 30 = .ok (.iaload, 1) := by decide +kernel
theorem d_D_paysWith_31 : decode prog_2_method_13_code 31 = .ok (.aload_n 0, 1) := by decide +kernel
theorem d_D_paysWith_32 : decode prog_2_method_13_code 32 = .ok (.getfield 28, 3) := by decide +kernel
theorem d_D_paysWith_35 : decode prog_2_method_13_code 35 = .ok (.iload_n 1, 1) := by decide +kernel
theorem d_D_paysWith_36 : decode prog_2_method_13_code 36 = .ok (.iaload, 1) := by decide +kernel
theorem d_D_paysWith_37 : decode prog_2_method_13_code 37 = .ok (.invokevirtual 119, 3) := by decide +kernel
theorem d_D_paysWith_40 : decode prog_2_method_13_code 40 = .ok (.ifCond .eq 7, 3) := by decide +kernel
theorem d_D_paysWith_43 : decode prog_2_method_13_code 43 = .ok (.iconst 1, 1) := by decide +kernel
theorem d_D_paysWith_44 : decode prog_2_method_13_code 44 = .ok (.goto 4, 3) := by decide +kernel
theorem d_D_paysWith_47 : decode prog_2_method_13_code 47 = .ok (.iconst 0, 1) := by decide +kernel
theorem d_D_paysWith_48 : decode prog_2_method_13_code 48 = .ok (.istore_n 3, 1) := by decide +kernel
theorem d_D_paysWith_49 : decode prog_2_method_13_code 49 = .ok (.aload_n 0, 1) := by decide +kernel
theorem d_D_paysWith_50 : decode prog_2_method_13_code 50 = .ok (.getfield 16, 3) := by decide +kernel
theorem d_D_paysWith_53 : decode prog_2_method_13_code 53 = .ok (.iload_n 1, 1) := by decide +kernel
theorem d_D_paysWith_54 : decode prog_2_method_13_code 54 = .ok (.iaload, 1) := by decide +kernel
theorem d_D_paysWith_55 : decode prog_2_method_13_code 55 = .ok (.aload_n 0, 1) := by decide +kernel
theorem d_D_paysWith_56 : decode prog_2_method_13_code 56 = .ok (.getfield 19, 3) := by decide +kernel
theorem d_D_paysWith_59 : decode prog_2_method_13_code 59 = .ok (.iload_n 1, 1) := by decide +kernel
theorem d_D_paysWith_60 : decode prog_2_method_13_code 60 = .ok (.iaload, 1) := by decide +kernel
theorem d_D_paysWith_61 : decode prog_2_method_13_code 61 = .ok (.iload_n 2, 1) := by decide +kernel
theorem d_D_paysWith_62 : decode prog_2_method_13_code 62 = .ok (.iload_n 3, 1) := by decide +kernel
theorem d_D_paysWith_63 : decode prog_2_method_13_code 63 = .ok (.invokestatic 122, 3) := by decide +kernel
theorem d_D_paysWith_66 : decode prog_2_method_13_code 66 = .ok (.ireturn, 1) := by decide +kernel
def w_D_paysWith_48 (K : Int32 → sm_Mem → Prop) (p0 : Int32) (p1 : Int32) (s0 : Int32) (μ : sm_Mem) : Prop := vp_in p0 10 ∧ vp_in p0 10 ∧ w_K_pays (fun r11 μ10 => K r11 μ10) (μ 4 p0.toNatClampNeg) (μ 5 p0.toNatClampNeg) p1 s0 μ
def w_D_paysWith_47 (K : Int32 → sm_Mem → Prop) (p0 : Int32) (p1 : Int32) (μ : sm_Mem) : Prop := w_D_paysWith_48 K p0 p1 0 μ
def w_D_paysWith (K : Int32 → sm_Mem → Prop) (p0 : Int32) (p1 : Int32) (μ : sm_Mem) : Prop := w_D_hasNote (fun r2 μ1 => if r2 = 0 then K 0 μ1 else (vp_in p0 10 ∧ w_K_isOf (fun r6 μ5 => if r6 = 0 then w_D_paysWith_47 K p0 p1 μ5 else (vp_in p0 10 ∧ vp_in p0 10 ∧ w_D_foundBy (fun r15 μ14 => if r15 = 0 then w_D_paysWith_47 K p0 p1 μ14 else w_D_paysWith_48 K p0 p1 1 μ14) p1 (μ5 5 p0.toNatClampNeg) (μ5 8 p0.toNatClampNeg) μ5)) (μ1 4 p0.toNatClampNeg) 2 μ1)) p0 μ
set_option maxHeartbeats 4000000 in
set_option maxRecDepth 100000 in
theorem P_D_paysWith (l : Launch) {K : Int32 → sm_Mem → Prop} {p0 : Int32} {p1 : Int32} {μ : sm_Mem} (h : w_D_paysWith K p0 p1 μ) : sm_MI l ⟨"SnowMoney$Duchy", "paysWith", "(II)I"⟩ prog_2_method_13_code 4 (some .int) { frames := 3, cells := 0, slots := 0, locals := 72 } [sm_R 1, sm_I p0, sm_I p1] μ K := by
  refine sm_ofI (by decide +kernel) (fun _ => Nat.le_of_ble_eq_true rfl) ?_
  intro p e s m args below meth c A Q G C hR
  have B48 : ∀ (s0 : Int32) (μ : sm_Mem), w_D_paysWith_48 K p0 p1 s0 μ → sm_W p l e { frames := 3, cells := 0, slots := 0, locals := 72 } s m args below meth c A Q G 4 0 0 48 [sm_I s0] [(0, sm_R 1), (1, sm_I p0), (2, sm_I p1)] μ := by
    intro s0 μ h
    refine sr_istore_n C rfl (by decide) d_D_paysWith_48 ?_
    refine sr_aload_n C 1 rfl rfl d_D_paysWith_49 ?_
    refine sr_getR C sm_F0 2 q_54 sm_l1 (r := 4) rfl (by decide) d_D_paysWith_50 ?_
    refine sr_iload_n C 2 rfl rfl d_D_paysWith_53 ?_
    obtain ⟨g8, h⟩ := h
    refine sr_iald C sm_l4 g8 d_D_paysWith_54 ?_
    refine sr_aload_n C 1 rfl rfl d_D_paysWith_55 ?_
    refine sr_getR C sm_F0 3 q_55 sm_l1 (r := 5) rfl (by decide) d_D_paysWith_56 ?_
    refine sr_iload_n C 2 rfl rfl d_D_paysWith_59 ?_
    obtain ⟨g9, h⟩ := h
    refine sr_iald C sm_l5 g9 d_D_paysWith_60 ?_
    refine sr_iload_n C 3 rfl rfl d_D_paysWith_61 ?_
    refine sr_iload_n C 0 rfl rfl d_D_paysWith_62 ?_
    refine sr_callSI C [sm_I _, sm_I _, sm_I _, sm_I _] (P_K_pays l h) ok_20 rfl rfl rfl ⟨Nat.le_of_ble_eq_true rfl, Nat.le_of_ble_eq_true rfl⟩ (Nat.le_of_ble_eq_true rfl) ⟨Nat.zero_le _, Nat.zero_le _⟩ d_D_paysWith_63 (fun r11 μ10 h => ?_)
    exact hR _ _ _ _ d_D_paysWith_66 rfl h
  have B47 : ∀ (μ : sm_Mem), w_D_paysWith_47 K p0 p1 μ → sm_W p l e { frames := 3, cells := 0, slots := 0, locals := 72 } s m args below meth c A Q G 4 0 0 47 [] [(0, sm_R 1), (1, sm_I p0), (2, sm_I p1)] μ := by
    intro μ h
    refine sr_iconst C (v := 0) d_D_paysWith_47 (by decide) ?_
    exact B48 _ _ h
  refine sr_aload_n C 0 rfl rfl d_D_paysWith_0 ?_
  refine sr_iload_n C 1 rfl rfl d_D_paysWith_1 ?_
  refine sr_callVI C [sm_I _] (P_D_hasNote l h) ok_10 sm_l1 rfl rfl rfl rfl ⟨Nat.le_of_ble_eq_true rfl, Nat.le_of_ble_eq_true rfl⟩ (Nat.le_of_ble_eq_true rfl) ⟨Nat.zero_le _, Nat.zero_le _⟩ d_D_paysWith_2 (fun r2 μ1 h => ?_)
  refine sr_if_ne C (tgt := 10) d_D_paysWith_5 (by decide) (fun c3 => ?_) (fun c3 => ?_)
  · replace h := Eq.mp (if_neg c3) h
    refine sr_aload_n C 0 rfl rfl d_D_paysWith_10 ?_
    refine sr_getR C sm_F0 2 q_54 sm_l1 (r := 4) rfl (by decide) d_D_paysWith_11 ?_
    refine sr_iload_n C 1 rfl rfl d_D_paysWith_14 ?_
    obtain ⟨g4, h⟩ := h
    refine sr_iald C sm_l4 g4 d_D_paysWith_15 ?_
    refine sr_iconst C (v := 2) d_D_paysWith_16 (by decide) ?_
    refine sr_callSI C [sm_I _, sm_I _] (P_K_isOf l h) ok_19 rfl rfl rfl ⟨Nat.le_of_ble_eq_true rfl, Nat.le_of_ble_eq_true rfl⟩ (Nat.le_of_ble_eq_true rfl) ⟨Nat.zero_le _, Nat.zero_le _⟩ d_D_paysWith_17 (fun r6 μ5 h => ?_)
    refine sr_if_eq C (tgt := 47) d_D_paysWith_20 (by decide) (fun c7 => ?_) (fun c7 => ?_)
    · replace h := Eq.mp (if_pos c7) h
      exact B47 _ h
    · replace h := Eq.mp (if_neg c7) h
      refine sr_aload_n C 0 rfl rfl d_D_paysWith_23 ?_
      refine sr_iload_n C 2 rfl rfl d_D_paysWith_24 ?_
      refine sr_aload_n C 0 rfl rfl d_D_paysWith_25 ?_
      refine sr_getR C sm_F0 3 q_55 sm_l1 (r := 5) rfl (by decide) d_D_paysWith_26 ?_
      refine sr_iload_n C 1 rfl rfl d_D_paysWith_29 ?_
      obtain ⟨g12, h⟩ := h
      refine sr_iald C sm_l5 g12 d_D_paysWith_30 ?_
      refine sr_aload_n C 0 rfl rfl d_D_paysWith_31 ?_
      refine sr_getR C sm_F0 6 q_103 sm_l1 (r := 8) rfl (by decide) d_D_paysWith_32 ?_
      refine sr_iload_n C 1 rfl rfl d_D_paysWith_35 ?_
      obtain ⟨g13, h⟩ := h
      refine sr_iald C sm_l8 g13 d_D_paysWith_36 ?_
      refine sr_callVI C [sm_I _, sm_I _, sm_I _] (P_D_foundBy l h) ok_21 sm_l1 rfl rfl rfl rfl ⟨Nat.le_of_ble_eq_true rfl, Nat.le_of_ble_eq_true rfl⟩ (Nat.le_of_ble_eq_true rfl) ⟨Nat.zero_le _, Nat.zero_le _⟩ d_D_paysWith_37 (fun r15 μ14 h => ?_)
      refine sr_if_eq C (tgt := 47) d_D_paysWith_40 (by decide) (fun c16 => ?_) (fun c16 => ?_)
      · replace h := Eq.mp (if_pos c16) h
        exact B47 _ h
      · replace h := Eq.mp (if_neg c16) h
        refine sr_iconst C (v := 1) d_D_paysWith_43 (by decide) ?_
        refine sr_goto C (tgt := 48) (by decide) d_D_paysWith_44 ?_
        exact B48 _ _ h
  · replace h := Eq.mp (if_pos c3) h
    refine sr_iconst C (v := 0) d_D_paysWith_8 (by decide) ?_
    exact hR _ _ _ _ d_D_paysWith_9 rfl h
theorem d_D_snowOfAll_0 : decode prog_2_method_14_code 0 = .ok (.iconst 0, 1) := by decide +kernel
theorem d_D_snowOfAll_1 : decode prog_2_method_14_code 1 = .ok (.istore_n 1, 1) := by decide +kernel
theorem d_D_snowOfAll_2 : decode prog_2_method_14_code 2 = .ok (.iconst 0, 1) := by decide +kernel
theorem d_D_snowOfAll_3 : decode prog_2_method_14_code 3 = .ok (.istore_n 2, 1) := by decide +kernel
theorem d_D_snowOfAll_4 : decode prog_2_method_14_code 4 = .ok (.iload_n 2, 1) := by decide +kernel
theorem d_D_snowOfAll_5 : decode prog_2_method_14_code 5 = .ok (.aload_n 0, 1) := by decide +kernel
theorem d_D_snowOfAll_6 : decode prog_2_method_14_code 6 = .ok (.getfield 67, 3) := by decide +kernel
theorem d_D_snowOfAll_9 : decode prog_2_method_14_code 9 = .ok (.if_icmp .ge 18, 3) := by decide +kernel
theorem d_D_snowOfAll_12 : decode prog_2_method_14_code 12 = .ok (.iload_n 1, 1) := by decide +kernel
theorem d_D_snowOfAll_13 : decode prog_2_method_14_code 13 = .ok (.aload_n 0, 1) := by decide +kernel
theorem d_D_snowOfAll_14 : decode prog_2_method_14_code 14 = .ok (.getfield 22, 3) := by decide +kernel
theorem d_D_snowOfAll_17 : decode prog_2_method_14_code 17 = .ok (.iload_n 2, 1) := by decide +kernel
theorem d_D_snowOfAll_18 : decode prog_2_method_14_code 18 = .ok (.iaload, 1) := by decide +kernel
theorem d_D_snowOfAll_19 : decode prog_2_method_14_code 19 = .ok (.iadd, 1) := by decide +kernel
theorem d_D_snowOfAll_20 : decode prog_2_method_14_code 20 = .ok (.istore_n 1, 1) := by decide +kernel
theorem d_D_snowOfAll_21 : decode prog_2_method_14_code 21 = .ok (.iinc 2 1, 3) := by decide +kernel
theorem d_D_snowOfAll_24 : decode prog_2_method_14_code 24 = .ok (.goto (-20), 3) := by decide +kernel
theorem d_D_snowOfAll_27 : decode prog_2_method_14_code 27 = .ok (.iload_n 1, 1) := by decide +kernel
theorem d_D_snowOfAll_28 : decode prog_2_method_14_code 28 = .ok (.ireturn, 1) := by decide +kernel
def w_D_snowOfAll_4 (K : Int32 → sm_Mem → Prop) (x1 : Int32) (x2 : Int32) (μ : sm_Mem) : Prop := sm_lp2 (fun J4 x1 x2 μ => if (μ 1 12) ≤ x2 then K x1 μ else (vp_in x2 10 ∧ ∀ v3 : Int32, v3 = (x1 + (μ 6 x2.toNatClampNeg)) → J4 v3 (x2 + 1) μ)) x1 x2 μ
def w_D_snowOfAll (K : Int32 → sm_Mem → Prop) (μ : sm_Mem) : Prop := w_D_snowOfAll_4 K 0 0 μ
set_option maxHeartbeats 4000000 in
set_option maxRecDepth 100000 in
theorem P_D_snowOfAll (l : Launch) {K : Int32 → sm_Mem → Prop} {μ : sm_Mem} (h : w_D_snowOfAll K μ) : sm_MI l ⟨"SnowMoney$Duchy", "snowOfAll", "()I"⟩ prog_2_method_14_code 3 (some .int) { frames := 0, cells := 0, slots := 0, locals := 0 } [sm_R 1] μ K := by
  refine sm_ofI (by decide +kernel) (fun _ => Nat.le_of_ble_eq_true rfl) ?_
  intro p e s m args below meth c A Q G C hR
  have B4 : ∀ (x1 : Int32) (x2 : Int32) (μ : sm_Mem), w_D_snowOfAll_4 K x1 x2 μ → sm_W p l e { frames := 0, cells := 0, slots := 0, locals := 0 } s m args below meth c A Q G 3 0 0 4 [] [(0, sm_R 1), (1, sm_I x1), (2, sm_I x2)] μ := by
    intro x1 x2 μ h
    refine sm_lp2_sound (P := fun x1 x2 μ => sm_W p l e { frames := 0, cells := 0, slots := 0, locals := 0 } s m args below meth c A Q G 3 0 0 4 [] [(0, sm_R 1), (1, sm_I x1), (2, sm_I x2)] μ) (fun J4 x1 x2 μ hJ4 h => ?_) h
    refine sr_iload_n C 2 rfl rfl d_D_snowOfAll_4 ?_
    refine sr_aload_n C 0 rfl rfl d_D_snowOfAll_5 ?_
    refine sr_getI C sm_F0 12 q_23 sm_l1 rfl (by decide) d_D_snowOfAll_6 ?_
    refine sr_icmp_ge C (tgt := 27) d_D_snowOfAll_9 (by decide) (fun c1 => ?_) (fun c1 => ?_)
    · replace h := Eq.mp (if_pos c1) h
      refine sr_iload_n C 1 rfl rfl d_D_snowOfAll_27 ?_
      exact hR _ _ _ _ d_D_snowOfAll_28 rfl h
    · replace h := Eq.mp (if_neg c1) h
      refine sr_iload_n C 1 rfl rfl d_D_snowOfAll_12 ?_
      refine sr_aload_n C 0 rfl rfl d_D_snowOfAll_13 ?_
      refine sr_getR C sm_F0 4 q_209 sm_l1 (r := 6) rfl (by decide) d_D_snowOfAll_14 ?_
      refine sr_iload_n C 2 rfl rfl d_D_snowOfAll_17 ?_
      obtain ⟨g2, h⟩ := h
      refine sr_iald C sm_l6 g2 d_D_snowOfAll_18 ?_
      refine sr_iadd C d_D_snowOfAll_19 ?_
      replace h := h _ rfl
      refine sr_istore_n C rfl (by decide) d_D_snowOfAll_20 ?_
      refine sr_iinc C 2 rfl (by decide) d_D_snowOfAll_21 rfl ?_
      refine sr_goto C (tgt := 4) (by decide) d_D_snowOfAll_24 ?_
      refine sr_mask C [2, 1, 0] rfl ?_
      exact hJ4 _ _ _ h
  refine sr_iconst C (v := 0) d_D_snowOfAll_0 (by decide) ?_
  refine sr_istore_n C rfl (by decide) d_D_snowOfAll_1 ?_
  refine sr_iconst C (v := 0) d_D_snowOfAll_2 (by decide) ?_
  refine sr_istore_n C rfl (by decide) d_D_snowOfAll_3 ?_
  refine sr_mask C [2, 1, 0] rfl ?_
  exact B4 _ _ _ h
theorem d_D_warmthAround_0 : decode prog_2_method_6_code 0 = .ok (.aload_n 0, 1) := by decide +kernel
theorem d_D_warmthAround_1 : decode prog_2_method_6_code 1 = .ok (.iload_n 1, 1) := by decide +kernel
theorem d_D_warmthAround_2 : decode prog_2_method_6_code 2 = .ok (.invokevirtual 83, 3) := by decide +kernel
theorem d_D_warmthAround_5 : decode prog_2_method_6_code 5 = .ok (.ifCond .eq 16, 3) := by decide +kernel
theorem d_D_warmthAround_8 : decode prog_2_method_6_code 8 = .ok (.aload_n 0, 1) := by decide +kernel
theorem d_D_warmthAround_9 : decode prog_2_method_6_code 9 = .ok (.aload_n 0, 1) := by decide +kernel
theorem d_D_warmthAround_10 : decode prog_2_method_6_code 10 = .ok (.getfield 25, 3) := by decide +kernel
theorem d_D_warmthAround_13 : decode prog_2_method_6_code 13 = .ok (.iload_n 1, 1) := by decide +kernel
theorem d_D_warmthAround_14 : decode prog_2_method_6_code 14 = .ok (.iaload, 1) := by decide +kernel
theorem d_D_warmthAround_15 : decode prog_2_method_6_code 15 = .ok (.invokevirtual 86, 3) := by decide +kernel
theorem d_D_warmthAround_18 : decode prog_2_method_6_code 18 = .ok (.goto 4, 3) := by decide +kernel
theorem d_D_warmthAround_21 : decode prog_2_method_6_code 21 = .ok (.iconst 0, 1) := by decide +kernel
theorem d_D_warmthAround_22 : decode prog_2_method_6_code 22 = .ok (.ireturn, 1) := by decide +kernel
def w_D_warmthAround (K : Int32 → sm_Mem → Prop) (p0 : Int32) (μ : sm_Mem) : Prop := w_D_hasNote (fun r2 μ1 => if r2 = 0 then K 0 μ1 else (vp_in p0 10 ∧ w_D_warmthOf (fun r6 μ5 => K r6 μ5) (μ1 7 p0.toNatClampNeg) μ1)) p0 μ
set_option maxHeartbeats 4000000 in
set_option maxRecDepth 100000 in
theorem P_D_warmthAround (l : Launch) {K : Int32 → sm_Mem → Prop} {p0 : Int32} {μ : sm_Mem} (h : w_D_warmthAround K p0 μ) : sm_MI l ⟨"SnowMoney$Duchy", "warmthAround", "(I)I"⟩ prog_2_method_6_code 2 (some .int) { frames := 2, cells := 0, slots := 0, locals := 42 } [sm_R 1, sm_I p0] μ K := by
  refine sm_ofI (by decide +kernel) (fun _ => Nat.le_of_ble_eq_true rfl) ?_
  intro p e s m args below meth c A Q G C hR
  refine sr_aload_n C 0 rfl rfl d_D_warmthAround_0 ?_
  refine sr_iload_n C 1 rfl rfl d_D_warmthAround_1 ?_
  refine sr_callVI C [sm_I _] (P_D_hasNote l h) ok_10 sm_l1 rfl rfl rfl rfl ⟨Nat.le_of_ble_eq_true rfl, Nat.le_of_ble_eq_true rfl⟩ (Nat.le_of_ble_eq_true rfl) ⟨Nat.zero_le _, Nat.zero_le _⟩ d_D_warmthAround_2 (fun r2 μ1 h => ?_)
  refine sr_if_eq C (tgt := 21) d_D_warmthAround_5 (by decide) (fun c3 => ?_) (fun c3 => ?_)
  · replace h := Eq.mp (if_pos c3) h
    refine sr_iconst C (v := 0) d_D_warmthAround_21 (by decide) ?_
    exact hR _ _ _ _ d_D_warmthAround_22 rfl h
  · replace h := Eq.mp (if_neg c3) h
    refine sr_aload_n C 0 rfl rfl d_D_warmthAround_8 ?_
    refine sr_aload_n C 0 rfl rfl d_D_warmthAround_9 ?_
    refine sr_getR C sm_F0 5 q_24 sm_l1 (r := 7) rfl (by decide) d_D_warmthAround_10 ?_
    refine sr_iload_n C 1 rfl rfl d_D_warmthAround_13 ?_
    obtain ⟨g4, h⟩ := h
    refine sr_iald C sm_l7 g4 d_D_warmthAround_14 ?_
    refine sr_callVI C [sm_I _] (P_D_warmthOf l h) ok_11 sm_l1 rfl rfl rfl rfl ⟨Nat.le_of_ble_eq_true rfl, Nat.le_of_ble_eq_true rfl⟩ (Nat.le_of_ble_eq_true rfl) ⟨Nat.zero_le _, Nat.zero_le _⟩ d_D_warmthAround_15 (fun r6 μ5 h => ?_)
    refine sr_goto C (tgt := 22) (by decide) d_D_warmthAround_18 ?_
    exact hR _ _ _ _ d_D_warmthAround_22 rfl h
theorem d_D_draw_0 : decode prog_2_method_16_code 0 = .ok (.aload_n 0, 1) := by decide +kernel
theorem d_D_draw_1 : decode prog_2_method_16_code 1 = .ok (.aload_n 0, 1) := by decide +kernel
theorem d_D_draw_2 : decode prog_2_method_16_code 2 = .ok (.getfield 51, 3) := by decide +kernel
theorem d_D_draw_5 : decode prog_2_method_16_code 5 = .ok (.ldc 126, 2) := by decide +kernel
theorem d_D_draw_7 : decode prog_2_method_16_code 7 = .ok (.imul, 1) := by decide +kernel
theorem d_D_draw_8 : decode prog_2_method_16_code 8 = .ok (.sipush 12345, 3) := by decide +kernel
theorem d_D_draw_11 : decode prog_2_method_16_code 11 = .ok (.iadd, 1) := by decide +kernel
theorem d_D_draw_12 : decode prog_2_method_16_code 12 = .ok (.putfield 51, 3) := by decide +kernel
theorem d_D_draw_15 : decode prog_2_method_16_code 15 = .ok (.aload_n 0, 1) := by decide +kernel
theorem d_D_draw_16 : decode prog_2_method_16_code 16 = .ok (.getfield 51, 3) := by decide +kernel
theorem d_D_draw_19 : decode prog_2_method_16_code 19 = .ok (.bipush 8, 2) := by decide +kernel
theorem d_D_draw_21 : decode prog_2_method_16_code 21 = .ok (.iushr, 1) := by decide +kernel
theorem d_D_draw_22 : decode prog_2_method_16_code 22 = .ok (.ireturn, 1) := by decide +kernel
def w_D_draw (K : Int32 → sm_Mem → Prop) (μ : sm_Mem) : Prop := ∀ μ1 : sm_Mem, μ1 = sm_st μ 1 17 (((μ 1 17) * 1103515245) + 12345) → K (((μ1 1 17).toUInt32 >>> ((8 : Int32).toUInt32 &&& Int32.toUInt32 31)).toInt32) μ1
set_option maxHeartbeats 4000000 in
set_option maxRecDepth 100000 in
theorem P_D_draw (l : Launch) {K : Int32 → sm_Mem → Prop} {μ : sm_Mem} (h : w_D_draw K μ) : sm_MI l ⟨"SnowMoney$Duchy", "draw", "()I"⟩ prog_2_method_16_code 1 (some .int) { frames := 0, cells := 0, slots := 0, locals := 0 } [sm_R 1] μ K := by
  refine sm_ofI (by decide +kernel) (fun _ => Nat.le_of_ble_eq_true rfl) ?_
  intro p e s m args below meth c A Q G C hR
  refine sr_aload_n C 0 rfl rfl d_D_draw_0 ?_
  refine sr_aload_n C 0 rfl rfl d_D_draw_1 ?_
  refine sr_getI C sm_F0 17 q_244 sm_l1 rfl (by decide) d_D_draw_2 ?_
  refine sr_ldc C q_245 d_D_draw_5 ?_
  refine sr_imul C d_D_draw_7 ?_
  refine sr_sipush C (v := 12345) d_D_draw_8 (by decide) ?_
  refine sr_iadd C d_D_draw_11 ?_
  refine sr_putI C sm_F0 17 q_244 sm_l1 rfl rfl (by decide) rfl d_D_draw_12 ?_
  replace h := h _ rfl
  refine sr_aload_n C 0 rfl rfl d_D_draw_15 ?_
  refine sr_getI C sm_F0 17 q_244 sm_l1 rfl (by decide) d_D_draw_16 ?_
  refine sr_bipush C (v := 8) d_D_draw_19 (by decide) ?_
  refine sr_iushr C d_D_draw_21 ?_
  exact hR _ _ _ _ d_D_draw_22 rfl h
theorem d_D_take_19_1_0 : decode prog_2_method_2_code 0 = .ok (.aload_n 1, 1) := by decide +kernel
theorem d_D_take_19_1_1 : decode prog_2_method_2_code 1 = .ok (.getfield 9, 3) := by decide +kernel
theorem d_D_take_19_1_4 : decode prog_2_method_2_code 4 = .ok (.iconst 0, 1) := by decide +kernel
theorem d_D_take_19_1_5 : decode prog_2_method_2_code 5 = .ok (.aload_n 0, 1) := by decide +kernel
theorem d_D_take_19_1_6 : decode prog_2_method_2_code 6 = .ok (.getfield 9, 3) := by decide +kernel
theorem d_D_take_19_1_9 : decode prog_2_method_2_code 9 = .ok (.iconst 0, 1) := by decide +kernel
theorem d_D_take_19_1_10 : decode prog_2_method_2_code 10 = .ok (.bipush 6, 2) := by decide +kernel
theorem d_D_take_19_1_12 : decode prog_2_method_2_code 12 = .ok (.invokestatic 54, 3) := by decide +kernel
theorem d_D_take_19_1_15 : decode prog_2_method_2_code 15 = .ok (.aload_n 1, 1) := by decide +kernel
theorem d_D_take_19_1_16 : decode prog_2_method_2_code 16 = .ok (.getfield 13, 3) := by decide +kernel
theorem d_D_take_19_1_19 : decode prog_2_method_2_code 19 = .ok (.iconst 0, 1) := by decide +kernel
theorem d_D_take_19_1_20 : decode prog_2_method_2_code 20 = .ok (.aload_n 0, 1) := by decide +kernel
theorem d_D_take_19_1_21 : decode prog_2_method_2_code 21 = .ok (.getfield 13, 3) := by decide +kernel
theorem d_D_take_19_1_24 : decode prog_2_method_2_code 24 = .ok (.iconst 0, 1) := by decide +kernel
theorem d_D_take_19_1_25 : decode prog_2_method_2_code 25 = .ok (.bipush 36, 2) := by decide +kernel
theorem d_D_take_19_1_27 : decode prog_2_method_2_code 27 = .ok (.invokestatic 54, 3) := by decide +kernel
theorem d_D_take_19_1_30 : decode prog_2_method_2_code 30 = .ok (.aload_n 1, 1) := by decide +kernel
theorem d_D_take_19_1_31 : decode prog_2_method_2_code 31 = .ok (.getfield 16, 3) := by decide +kernel
theorem d_D_take_19_1_34 : decode prog_2_method_2_code 34 = .ok (.iconst 0, 1) := by decide +kernel
theorem d_D_take_19_1_35 : decode prog_2_method_2_code 35 = .ok (.aload_n 0, 1) := by decide +kernel
theorem d_D_take_19_1_36 : decode prog_2_method_2_code 36 = .ok (.getfield 16, 3) := by decide +kernel
theorem d_D_take_19_1_39 : decode prog_2_method_2_code 39 = .ok (.iconst 0, 1) := by decide +kernel
theorem d_D_take_19_1_40 : decode prog_2_method_2_code 40 = .ok (.bipush 10, 2) := by decide +kernel
theorem d_D_take_19_1_42 : decode prog_2_method_2_code 42 = .ok (.invokestatic 54, 3) := by decide +kernel
theorem d_D_take_19_1_45 : decode prog_2_method_2_code 45 = .ok (.aload_n 1, 1) := by decide +kernel
theorem d_D_take_19_1_46 : decode prog_2_method_2_code 46 = .ok (.getfield 19, 3) := by decide +kernel
theorem d_D_take_19_1_49 : decode prog_2_method_2_code 49 = .ok (.iconst 0, 1) := by decide +kernel
theorem d_D_take_19_1_50 : decode prog_2_method_2_code 50 = .ok (.aload_n 0, 1) := by decide +kernel
theorem d_D_take_19_1_51 : decode prog_2_method_2_code 51 = .ok (.getfield 19, 3) := by decide +kernel
theorem d_D_take_19_1_54 : decode prog_2_method_2_code 54 = .ok (.iconst 0, 1) := by decide +kernel
theorem d_D_take_19_1_55 : decode prog_2_method_2_code 55 = .ok (.bipush 10, 2) := by decide +kernel
theorem d_D_take_19_1_57 : decode prog_2_method_2_code 57 = .ok (.invokestatic 54, 3) := by decide +kernel
theorem d_D_take_19_1_60 : decode prog_2_method_2_code 60 = .ok (.aload_n 1, 1) := by decide +kernel
theorem d_D_take_19_1_61 : decode prog_2_method_2_code 61 = .ok (.getfield 22, 3) := by decide +kernel
theorem d_D_take_19_1_64 : decode prog_2_method_2_code 64 = .ok (.iconst 0, 1) := by decide +kernel
theorem d_D_take_19_1_65 : decode prog_2_method_2_code 65 = .ok (.aload_n 0, 1) := by decide +kernel
theorem d_D_take_19_1_66 : decode prog_2_method_2_code 66 = .ok (.getfield 22, 3) := by decide +kernel
theorem d_D_take_19_1_69 : decode prog_2_method_2_code 69 = .ok (.iconst 0, 1) := by decide +kernel
theorem d_D_take_19_1_70 : decode prog_2_method_2_code 70 = .ok (.bipush 10, 2) := by decide +kernel
theorem d_D_take_19_1_72 : decode prog_2_method_2_code 72 = .ok (.invokestatic 54, 3) := by decide +kernel
theorem d_D_take_19_1_75 : decode prog_2_method_2_code 75 = .ok (.aload_n 1, 1) := by decide +kernel
theorem d_D_take_19_1_76 : decode prog_2_method_2_code 76 = .ok (.getfield 25, 3) := by decide +kernel
theorem d_D_take_19_1_79 : decode prog_2_method_2_code 79 = .ok (.iconst 0, 1) := by decide +kernel
theorem d_D_take_19_1_80 : decode prog_2_method_2_code 80 = .ok (.aload_n 0, 1) := by decide +kernel
theorem d_D_take_19_1_81 : decode prog_2_method_2_code 81 = .ok (.getfield 25, 3) := by decide +kernel
theorem d_D_take_19_1_84 : decode prog_2_method_2_code 84 = .ok (.iconst 0, 1) := by decide +kernel
theorem d_D_take_19_1_85 : decode prog_2_method_2_code 85 = .ok (.bipush 10, 2) := by decide +kernel
theorem d_D_take_19_1_87 : decode prog_2_method_2_code 87 = .ok (.invokestatic 54, 3) := by decide +kernel
theorem d_D_take_19_1_90 : decode prog_2_method_2_code 90 = .ok (.aload_n 1, 1) := by decide +kernel
theorem d_D_take_19_1_91 : decode prog_2_method_2_code 91 = .ok (.getfield 28, 3) := by decide +kernel
theorem d_D_take_19_1_94 : decode prog_2_method_2_code 94 = .ok (.iconst 0, 1) := by decide +kernel
theorem d_D_take_19_1_95 : decode prog_2_method_2_code 95 = .ok (.aload_n 0, 1) := by decide +kernel
theorem d_D_take_19_1_96 : decode prog_2_method_2_code 96 = .ok (.getfield 28, 3) := by decide +kernel
theorem d_D_take_19_1_99 : decode prog_2_method_2_code 99 = .ok (.iconst 0, 1) := by decide +kernel
theorem d_D_take_19_1_100 : decode prog_2_method_2_code 100 = .ok (.bipush 10, 2) := by decide +kernel
theorem d_D_take_19_1_102 : decode prog_2_method_2_code 102 = .ok (.invokestatic 54, 3) := by decide +kernel
theorem d_D_take_19_1_105 : decode prog_2_method_2_code 105 = .ok (.aload_n 1, 1) := by decide +kernel
theorem d_D_take_19_1_106 : decode prog_2_method_2_code 106 = .ok (.getfield 31, 3) := by decide +kernel
theorem d_D_take_19_1_109 : decode prog_2_method_2_code 109 = .ok (.iconst 0, 1) := by decide +kernel
theorem d_D_take_19_1_110 : decode prog_2_method_2_code 110 = .ok (.aload_n 0, 1) := by decide +kernel
theorem d_D_take_19_1_111 : decode prog_2_method_2_code 111 = .ok (.getfield 31, 3) := by decide +kernel
theorem d_D_take_19_1_114 : decode prog_2_method_2_code 114 = .ok (.iconst 0, 1) := by decide +kernel
theorem d_D_take_19_1_115 : decode prog_2_method_2_code 115 = .ok (.bipush 50, 2) := by decide +kernel
theorem d_D_take_19_1_117 : decode prog_2_method_2_code 117 = .ok (.invokestatic 54, 3) := by decide +kernel
theorem d_D_take_19_1_120 : decode prog_2_method_2_code 120 = .ok (.aload_n 1, 1) := by decide +kernel
theorem d_D_take_19_1_121 : decode prog_2_method_2_code 121 = .ok (.getfield 34, 3) := by decide +kernel
theorem d_D_take_19_1_124 : decode prog_2_method_2_code 124 = .ok (.iconst 0, 1) := by decide +kernel
theorem d_D_take_19_1_125 : decode prog_2_method_2_code 125 = .ok (.aload_n 0, 1) := by decide +kernel
theorem d_D_take_19_1_126 : decode prog_2_method_2_code 126 = .ok (.getfield 34, 3) := by decide +kernel
theorem d_D_take_19_1_129 : decode prog_2_method_2_code 129 = .ok (.iconst 0, 1) := by decide +kernel
theorem d_D_take_19_1_130 : decode prog_2_method_2_code 130 = .ok (.bipush 20, 2) := by decide +kernel
theorem d_D_take_19_1_132 : decode prog_2_method_2_code 132 = .ok (.invokestatic 54, 3) := by decide +kernel
theorem d_D_take_19_1_135 : decode prog_2_method_2_code 135 = .ok (.aload_n 0, 1) := by decide +kernel
theorem d_D_take_19_1_136 : decode prog_2_method_2_code 136 = .ok (.getfield 40, 3) := by decide +kernel
theorem d_D_take_19_1_139 : decode prog_2_method_2_code 139 = .ok (.aload_n 1, 1) := by decide +kernel
theorem d_D_take_19_1_140 : decode prog_2_method_2_code 140 = .ok (.getfield 40, 3) := by decide +kernel
theorem d_D_take_19_1_143 : decode prog_2_method_2_code 143 = .ok (.invokevirtual 60, 3) := by decide +kernel
theorem d_D_take_19_1_146 : decode prog_2_method_2_code 146 = .ok (.aload_n 0, 1) := by decide +kernel
theorem d_D_take_19_1_147 : decode prog_2_method_2_code 147 = .ok (.getfield 44, 3) := by decide +kernel
theorem d_D_take_19_1_150 : decode prog_2_method_2_code 150 = .ok (.aload_n 1, 1) := by decide +kernel
theorem d_D_take_19_1_151 : decode prog_2_method_2_code 151 = .ok (.getfield 44, 3) := by decide +kernel
theorem d_D_take_19_1_154 : decode prog_2_method_2_code 154 = .ok (.invokevirtual 60, 3) := by decide +kernel
theorem d_D_take_19_1_157 : decode prog_2_method_2_code 157 = .ok (.aload_n 0, 1) := by decide +kernel
theorem d_D_take_19_1_158 : decode prog_2_method_2_code 158 = .ok (.aload_n 1, 1) := by decide +kernel
theorem d_D_take_19_1_159 : decode prog_2_method_2_code 159 = .ok (.getfield 64, 3) := by decide +kernel
theorem d_D_take_19_1_162 : decode prog_2_method_2_code 162 = .ok (.putfield 64, 3) := by decide +kernel
theorem d_D_take_19_1_165 : decode prog_2_method_2_code 165 = .ok (.aload_n 0, 1) := by decide +kernel
theorem d_D_take_19_1_166 : decode prog_2_method_2_code 166 = .ok (.aload_n 1, 1) := by decide +kernel
theorem d_D_take_19_1_167 : decode prog_2_method_2_code 167 = .ok (.getfield 67, 3) := by decide +kernel
theorem d_D_take_19_1_170 : decode prog_2_method_2_code 170 = .ok (.putfield 67, 3) := by decide +kernel
theorem d_D_take_19_1_173 : decode prog_2_method_2_code 173 = .ok (.aload_n 0, 1) := by decide +kernel
theorem d_D_take_19_1_174 : decode prog_2_method_2_code 174 = .ok (.aload_n 1, 1) := by decide +kernel
theorem d_D_take_19_1_175 : decode prog_2_method_2_code 175 = .ok (.getfield 47, 3) := by decide +kernel
theorem d_D_take_19_1_178 : decode prog_2_method_2_code 178 = .ok (.putfield 47, 3) := by decide +kernel
theorem d_D_take_19_1_181 : decode prog_2_method_2_code 181 = .ok (.aload_n 0, 1) := by decide +kernel
theorem d_D_take_19_1_182 : decode prog_2_method_2_code 182 = .ok (.aload_n 1, 1) := by decide +kernel
theorem d_D_take_19_1_183 : decode prog_2_method_2_code 183 = .ok (.getfield 70, 3) := by decide +kernel
theorem d_D_take_19_1_186 : decode prog_2_method_2_code 186 = .ok (.putfield 70, 3) := by decide +kernel
theorem d_D_take_19_1_189 : decode prog_2_method_2_code 189 = .ok (.aload_n 0, 1) := by decide +kernel
theorem d_D_take_19_1_190 : decode prog_2_method_2_code 190 = .ok (.aload_n 1, 1) := by decide +kernel
theorem d_D_take_19_1_191 : decode prog_2_method_2_code 191 = .ok (.getfield 73, 3) := by decide +kernel
theorem d_D_take_19_1_194 : decode prog_2_method_2_code 194 = .ok (.putfield 73, 3) := by decide +kernel
theorem d_D_take_19_1_197 : decode prog_2_method_2_code 197 = .ok (.aload_n 0, 1) := by decide +kernel
theorem d_D_take_19_1_198 : decode prog_2_method_2_code 198 = .ok (.aload_n 1, 1) := by decide +kernel
theorem d_D_take_19_1_199 : decode prog_2_method_2_code 199 = .ok (.getfield 76, 3) := by decide +kernel
theorem d_D_take_19_1_202 : decode prog_2_method_2_code 202 = .ok (.putfield 76, 3) := by decide +kernel
theorem d_D_take_19_1_205 : decode prog_2_method_2_code 205 = .ok (.aload_n 0, 1) := by decide +kernel
theorem d_D_take_19_1_206 : decode prog_2_method_2_code 206 = .ok (.aload_n 1, 1) := by decide +kernel
theorem d_D_take_19_1_207 : decode prog_2_method_2_code 207 = .ok (.getfield 51, 3) := by decide +kernel
theorem d_D_take_19_1_210 : decode prog_2_method_2_code 210 = .ok (.putfield 51, 3) := by decide +kernel
theorem d_D_take_19_1_213 : decode prog_2_method_2_code 213 = .ok (.return_, 1) := by decide +kernel
def w_D_take_19_1 (K : sm_Mem → Prop) (μ : sm_Mem) : Prop := ∀ μ6 : sm_Mem, μ6 = sm_cpy μ 2 20 ((0 : Int32).toNatClampNeg) ((0 : Int32).toNatClampNeg) ((6 : Int32).toNatClampNeg) → ∀ μ12 : sm_Mem, μ12 = sm_cpy μ6 3 21 ((0 : Int32).toNatClampNeg) ((0 : Int32).toNatClampNeg) ((36 : Int32).toNatClampNeg) → ∀ μ18 : sm_Mem, μ18 = sm_cpy μ12 4 22 ((0 : Int32).toNatClampNeg) ((0 : Int32).toNatClampNeg) ((10 : Int32).toNatClampNeg) → ∀ μ24 : sm_Mem, μ24 = sm_cpy μ18 5 23 ((0 : Int32).toNatClampNeg) ((0 : Int32).toNatClampNeg) ((10 : Int32).toNatClampNeg) → ∀ μ30 : sm_Mem, μ30 = sm_cpy μ24 6 24 ((0 : Int32).toNatClampNeg) ((0 : Int32).toNatClampNeg) ((10 : Int32).toNatClampNeg) → ∀ μ36 : sm_Mem, μ36 = sm_cpy μ30 7 25 ((0 : Int32).toNatClampNeg) ((0 : Int32).toNatClampNeg) ((10 : Int32).toNatClampNeg) → ∀ μ42 : sm_Mem, μ42 = sm_cpy μ36 8 26 ((0 : Int32).toNatClampNeg) ((0 : Int32).toNatClampNeg) ((10 : Int32).toNatClampNeg) → ∀ μ48 : sm_Mem, μ48 = sm_cpy μ42 9 27 ((0 : Int32).toNatClampNeg) ((0 : Int32).toNatClampNeg) ((50 : Int32).toNatClampNeg) → ∀ μ54 : sm_Mem, μ54 = sm_cpy μ48 10 28 ((0 : Int32).toNatClampNeg) ((0 : Int32).toNatClampNeg) ((20 : Int32).toNatClampNeg) → w_T_take (fun μ55 => w_T_take (fun μ56 => ∀ μ57 : sm_Mem, μ57 = sm_st μ56 19 11 (μ56 1 11) → ∀ μ58 : sm_Mem, μ58 = sm_st μ57 19 12 (μ57 1 12) → ∀ μ59 : sm_Mem, μ59 = sm_st μ58 19 13 (μ58 1 13) → ∀ μ60 : sm_Mem, μ60 = sm_st μ59 19 14 (μ59 1 14) → ∀ μ61 : sm_Mem, μ61 = sm_st μ60 19 15 (μ60 1 15) → ∀ μ62 : sm_Mem, μ62 = sm_st μ61 19 16 (μ61 1 16) → ∀ μ63 : sm_Mem, μ63 = sm_st μ62 19 17 (μ62 1 17) → K μ63) 33 15 μ55) 29 11 μ54
set_option maxHeartbeats 4000000 in
set_option maxRecDepth 100000 in
theorem P_D_take_19_1 (l : Launch) {K : sm_Mem → Prop} {μ : sm_Mem} (h : w_D_take_19_1 K μ) : sm_MV l ⟨"SnowMoney$Duchy", "take", "(LSnowMoney$Duchy;)V"⟩ prog_2_method_2_code 2 { frames := 2, cells := 0, slots := 0, locals := 61 } [sm_R 19, sm_R 1] μ K := by
  refine sm_ofV (by decide +kernel) (fun _ => Nat.le_of_ble_eq_true rfl) ?_
  intro p e s m args below meth c A Q G C hR
  refine sr_aload_n C 1 rfl rfl d_D_take_19_1_0 ?_
  refine sr_getR C sm_F0 0 q_92 sm_l1 (r := 2) rfl (by decide) d_D_take_19_1_1 ?_
  refine sr_iconst C (v := 0) d_D_take_19_1_4 (by decide) ?_
  refine sr_aload_n C 0 rfl rfl d_D_take_19_1_5 ?_
  refine sr_getR C sm_F0 0 q_92 sm_l19 (r := 20) rfl (by decide) d_D_take_19_1_6 ?_
  refine sr_iconst C (v := 0) d_D_take_19_1_9 (by decide) ?_
  refine sr_bipush C (v := 6) d_D_take_19_1_10 (by decide) ?_
  refine sr_copy C sm_l2 sm_l20 (by decide) (by decide) (by decide) (by decide) (by decide) q_413 q_sysn q_syss q_sysi (Nat.le_of_ble_eq_true rfl) (Nat.le_of_ble_eq_true rfl) d_D_take_19_1_12 ?_
  replace h := h _ rfl
  refine sr_aload_n C 1 rfl rfl d_D_take_19_1_15 ?_
  refine sr_getR C sm_F0 1 q_34 sm_l1 (r := 3) rfl (by decide) d_D_take_19_1_16 ?_
  refine sr_iconst C (v := 0) d_D_take_19_1_19 (by decide) ?_
  refine sr_aload_n C 0 rfl rfl d_D_take_19_1_20 ?_
  refine sr_getR C sm_F0 1 q_34 sm_l19 (r := 21) rfl (by decide) d_D_take_19_1_21 ?_
  refine sr_iconst C (v := 0) d_D_take_19_1_24 (by decide) ?_
  refine sr_bipush C (v := 36) d_D_take_19_1_25 (by decide) ?_
  refine sr_copy C sm_l3 sm_l21 (by decide) (by decide) (by decide) (by decide) (by decide) q_413 q_sysn q_syss q_sysi (Nat.le_of_ble_eq_true rfl) (Nat.le_of_ble_eq_true rfl) d_D_take_19_1_27 ?_
  replace h := h _ rfl
  refine sr_aload_n C 1 rfl rfl d_D_take_19_1_30 ?_
  refine sr_getR C sm_F0 2 q_54 sm_l1 (r := 4) rfl (by decide) d_D_take_19_1_31 ?_
  refine sr_iconst C (v := 0) d_D_take_19_1_34 (by decide) ?_
  refine sr_aload_n C 0 rfl rfl d_D_take_19_1_35 ?_
  refine sr_getR C sm_F0 2 q_54 sm_l19 (r := 22) rfl (by decide) d_D_take_19_1_36 ?_
  refine sr_iconst C (v := 0) d_D_take_19_1_39 (by decide) ?_
  refine sr_bipush C (v := 10) d_D_take_19_1_40 (by decide) ?_
  refine sr_copy C sm_l4 sm_l22 (by decide) (by decide) (by decide) (by decide) (by decide) q_413 q_sysn q_syss q_sysi (Nat.le_of_ble_eq_true rfl) (Nat.le_of_ble_eq_true rfl) d_D_take_19_1_42 ?_
  replace h := h _ rfl
  refine sr_aload_n C 1 rfl rfl d_D_take_19_1_45 ?_
  refine sr_getR C sm_F0 3 q_55 sm_l1 (r := 5) rfl (by decide) d_D_take_19_1_46 ?_
  refine sr_iconst C (v := 0) d_D_take_19_1_49 (by decide) ?_
  refine sr_aload_n C 0 rfl rfl d_D_take_19_1_50 ?_
  refine sr_getR C sm_F0 3 q_55 sm_l19 (r := 23) rfl (by decide) d_D_take_19_1_51 ?_
  refine sr_iconst C (v := 0) d_D_take_19_1_54 (by decide) ?_
  refine sr_bipush C (v := 10) d_D_take_19_1_55 (by decide) ?_
  refine sr_copy C sm_l5 sm_l23 (by decide) (by decide) (by decide) (by decide) (by decide) q_413 q_sysn q_syss q_sysi (Nat.le_of_ble_eq_true rfl) (Nat.le_of_ble_eq_true rfl) d_D_take_19_1_57 ?_
  replace h := h _ rfl
  refine sr_aload_n C 1 rfl rfl d_D_take_19_1_60 ?_
  refine sr_getR C sm_F0 4 q_209 sm_l1 (r := 6) rfl (by decide) d_D_take_19_1_61 ?_
  refine sr_iconst C (v := 0) d_D_take_19_1_64 (by decide) ?_
  refine sr_aload_n C 0 rfl rfl d_D_take_19_1_65 ?_
  refine sr_getR C sm_F0 4 q_209 sm_l19 (r := 24) rfl (by decide) d_D_take_19_1_66 ?_
  refine sr_iconst C (v := 0) d_D_take_19_1_69 (by decide) ?_
  refine sr_bipush C (v := 10) d_D_take_19_1_70 (by decide) ?_
  refine sr_copy C sm_l6 sm_l24 (by decide) (by decide) (by decide) (by decide) (by decide) q_413 q_sysn q_syss q_sysi (Nat.le_of_ble_eq_true rfl) (Nat.le_of_ble_eq_true rfl) d_D_take_19_1_72 ?_
  replace h := h _ rfl
  refine sr_aload_n C 1 rfl rfl d_D_take_19_1_75 ?_
  refine sr_getR C sm_F0 5 q_24 sm_l1 (r := 7) rfl (by decide) d_D_take_19_1_76 ?_
  refine sr_iconst C (v := 0) d_D_take_19_1_79 (by decide) ?_
  refine sr_aload_n C 0 rfl rfl d_D_take_19_1_80 ?_
  refine sr_getR C sm_F0 5 q_24 sm_l19 (r := 25) rfl (by decide) d_D_take_19_1_81 ?_
  refine sr_iconst C (v := 0) d_D_take_19_1_84 (by decide) ?_
  refine sr_bipush C (v := 10) d_D_take_19_1_85 (by decide) ?_
  refine sr_copy C sm_l7 sm_l25 (by decide) (by decide) (by decide) (by decide) (by decide) q_413 q_sysn q_syss q_sysi (Nat.le_of_ble_eq_true rfl) (Nat.le_of_ble_eq_true rfl) d_D_take_19_1_87 ?_
  replace h := h _ rfl
  refine sr_aload_n C 1 rfl rfl d_D_take_19_1_90 ?_
  refine sr_getR C sm_F0 6 q_103 sm_l1 (r := 8) rfl (by decide) d_D_take_19_1_91 ?_
  refine sr_iconst C (v := 0) d_D_take_19_1_94 (by decide) ?_
  refine sr_aload_n C 0 rfl rfl d_D_take_19_1_95 ?_
  refine sr_getR C sm_F0 6 q_103 sm_l19 (r := 26) rfl (by decide) d_D_take_19_1_96 ?_
  refine sr_iconst C (v := 0) d_D_take_19_1_99 (by decide) ?_
  refine sr_bipush C (v := 10) d_D_take_19_1_100 (by decide) ?_
  refine sr_copy C sm_l8 sm_l26 (by decide) (by decide) (by decide) (by decide) (by decide) q_413 q_sysn q_syss q_sysi (Nat.le_of_ble_eq_true rfl) (Nat.le_of_ble_eq_true rfl) d_D_take_19_1_102 ?_
  replace h := h _ rfl
  refine sr_aload_n C 1 rfl rfl d_D_take_19_1_105 ?_
  refine sr_getR C sm_F0 7 q_414 sm_l1 (r := 9) rfl (by decide) d_D_take_19_1_106 ?_
  refine sr_iconst C (v := 0) d_D_take_19_1_109 (by decide) ?_
  refine sr_aload_n C 0 rfl rfl d_D_take_19_1_110 ?_
  refine sr_getR C sm_F0 7 q_414 sm_l19 (r := 27) rfl (by decide) d_D_take_19_1_111 ?_
  refine sr_iconst C (v := 0) d_D_take_19_1_114 (by decide) ?_
  refine sr_bipush C (v := 50) d_D_take_19_1_115 (by decide) ?_
  refine sr_copy C sm_l9 sm_l27 (by decide) (by decide) (by decide) (by decide) (by decide) q_413 q_sysn q_syss q_sysi (Nat.le_of_ble_eq_true rfl) (Nat.le_of_ble_eq_true rfl) d_D_take_19_1_117 ?_
  replace h := h _ rfl
  refine sr_aload_n C 1 rfl rfl d_D_take_19_1_120 ?_
  refine sr_getR C sm_F0 8 q_415 sm_l1 (r := 10) rfl (by decide) d_D_take_19_1_121 ?_
  refine sr_iconst C (v := 0) d_D_take_19_1_124 (by decide) ?_
  refine sr_aload_n C 0 rfl rfl d_D_take_19_1_125 ?_
  refine sr_getR C sm_F0 8 q_415 sm_l19 (r := 28) rfl (by decide) d_D_take_19_1_126 ?_
  refine sr_iconst C (v := 0) d_D_take_19_1_129 (by decide) ?_
  refine sr_bipush C (v := 20) d_D_take_19_1_130 (by decide) ?_
  refine sr_copy C sm_l10 sm_l28 (by decide) (by decide) (by decide) (by decide) (by decide) q_413 q_sysn q_syss q_sysi (Nat.le_of_ble_eq_true rfl) (Nat.le_of_ble_eq_true rfl) d_D_take_19_1_132 ?_
  replace h := h _ rfl
  refine sr_aload_n C 0 rfl rfl d_D_take_19_1_135 ?_
  refine sr_getR C sm_F0 9 q_70 sm_l19 (r := 29) rfl (by decide) d_D_take_19_1_136 ?_
  refine sr_aload_n C 1 rfl rfl d_D_take_19_1_139 ?_
  refine sr_getR C sm_F0 9 q_70 sm_l1 (r := 11) rfl (by decide) d_D_take_19_1_140 ?_
  refine sr_callVV C [sm_R _] (P_T_take l h) ok_93 sm_l29 rfl rfl rfl rfl ⟨Nat.le_of_ble_eq_true rfl, Nat.le_of_ble_eq_true rfl⟩ (Nat.le_of_ble_eq_true rfl) ⟨Nat.zero_le _, Nat.zero_le _⟩ d_D_take_19_1_143 (fun μ55 h => ?_)
  refine sr_aload_n C 0 rfl rfl d_D_take_19_1_146 ?_
  refine sr_getR C sm_F0 10 q_108 sm_l19 (r := 33) rfl (by decide) d_D_take_19_1_147 ?_
  refine sr_aload_n C 1 rfl rfl d_D_take_19_1_150 ?_
  refine sr_getR C sm_F0 10 q_108 sm_l1 (r := 15) rfl (by decide) d_D_take_19_1_151 ?_
  refine sr_callVV C [sm_R _] (P_T_take l h) ok_93 sm_l33 rfl rfl rfl rfl ⟨Nat.le_of_ble_eq_true rfl, Nat.le_of_ble_eq_true rfl⟩ (Nat.le_of_ble_eq_true rfl) ⟨Nat.zero_le _, Nat.zero_le _⟩ d_D_take_19_1_154 (fun μ56 h => ?_)
  refine sr_aload_n C 0 rfl rfl d_D_take_19_1_157 ?_
  refine sr_aload_n C 1 rfl rfl d_D_take_19_1_158 ?_
  refine sr_getI C sm_F0 11 q_18 sm_l1 rfl (by decide) d_D_take_19_1_159 ?_
  refine sr_putI C sm_F0 11 q_18 sm_l19 rfl rfl (by decide) rfl d_D_take_19_1_162 ?_
  replace h := h _ rfl
  refine sr_aload_n C 0 rfl rfl d_D_take_19_1_165 ?_
  refine sr_aload_n C 1 rfl rfl d_D_take_19_1_166 ?_
  refine sr_getI C sm_F0 12 q_23 sm_l1 rfl (by decide) d_D_take_19_1_167 ?_
  refine sr_putI C sm_F0 12 q_23 sm_l19 rfl rfl (by decide) rfl d_D_take_19_1_170 ?_
  replace h := h _ rfl
  refine sr_aload_n C 0 rfl rfl d_D_take_19_1_173 ?_
  refine sr_aload_n C 1 rfl rfl d_D_take_19_1_174 ?_
  refine sr_getI C sm_F0 13 q_60 sm_l1 rfl (by decide) d_D_take_19_1_175 ?_
  refine sr_putI C sm_F0 13 q_60 sm_l19 rfl rfl (by decide) rfl d_D_take_19_1_178 ?_
  replace h := h _ rfl
  refine sr_aload_n C 0 rfl rfl d_D_take_19_1_181 ?_
  refine sr_aload_n C 1 rfl rfl d_D_take_19_1_182 ?_
  refine sr_getI C sm_F0 14 q_61 sm_l1 rfl (by decide) d_D_take_19_1_183 ?_
  refine sr_putI C sm_F0 14 q_61 sm_l19 rfl rfl (by decide) rfl d_D_take_19_1_186 ?_
  replace h := h _ rfl
  refine sr_aload_n C 0 rfl rfl d_D_take_19_1_189 ?_
  refine sr_aload_n C 1 rfl rfl d_D_take_19_1_190 ?_
  refine sr_getI C sm_F0 15 q_417 sm_l1 rfl (by decide) d_D_take_19_1_191 ?_
  refine sr_putI C sm_F0 15 q_417 sm_l19 rfl rfl (by decide) rfl d_D_take_19_1_194 ?_
  replace h := h _ rfl
  refine sr_aload_n C 0 rfl rfl d_D_take_19_1_197 ?_
  refine sr_aload_n C 1 rfl rfl d_D_take_19_1_198 ?_
  refine sr_getI C sm_F0 16 q_418 sm_l1 rfl (by decide) d_D_take_19_1_199 ?_
  refine sr_putI C sm_F0 16 q_418 sm_l19 rfl rfl (by decide) rfl d_D_take_19_1_202 ?_
  replace h := h _ rfl
  refine sr_aload_n C 0 rfl rfl d_D_take_19_1_205 ?_
  refine sr_aload_n C 1 rfl rfl d_D_take_19_1_206 ?_
  refine sr_getI C sm_F0 17 q_244 sm_l1 rfl (by decide) d_D_take_19_1_207 ?_
  refine sr_putI C sm_F0 17 q_244 sm_l19 rfl rfl (by decide) rfl d_D_take_19_1_210 ?_
  replace h := h _ rfl
  exact hR _ _ _ d_D_take_19_1_213 h
theorem d_D_take_1_19_0 : decode prog_2_method_2_code 0 = .ok (.aload_n 1, 1) := by decide +kernel
theorem d_D_take_1_19_1 : decode prog_2_method_2_code 1 = .ok (.getfield 9, 3) := by decide +kernel
theorem d_D_take_1_19_4 : decode prog_2_method_2_code 4 = .ok (.iconst 0, 1) := by decide +kernel
theorem d_D_take_1_19_5 : decode prog_2_method_2_code 5 = .ok (.aload_n 0, 1) := by decide +kernel
theorem d_D_take_1_19_6 : decode prog_2_method_2_code 6 = .ok (.getfield 9, 3) := by decide +kernel
theorem d_D_take_1_19_9 : decode prog_2_method_2_code 9 = .ok (.iconst 0, 1) := by decide +kernel
theorem d_D_take_1_19_10 : decode prog_2_method_2_code 10 = .ok (.bipush 6, 2) := by decide +kernel
theorem d_D_take_1_19_12 : decode prog_2_method_2_code 12 = .ok (.invokestatic 54, 3) := by decide +kernel
theorem d_D_take_1_19_15 : decode prog_2_method_2_code 15 = .ok (.aload_n 1, 1) := by decide +kernel
theorem d_D_take_1_19_16 : decode prog_2_method_2_code 16 = .ok (.getfield 13, 3) := by decide +kernel
theorem d_D_take_1_19_19 : decode prog_2_method_2_code 19 = .ok (.iconst 0, 1) := by decide +kernel
theorem d_D_take_1_19_20 : decode prog_2_method_2_code 20 = .ok (.aload_n 0, 1) := by decide +kernel
theorem d_D_take_1_19_21 : decode prog_2_method_2_code 21 = .ok (.getfield 13, 3) := by decide +kernel
theorem d_D_take_1_19_24 : decode prog_2_method_2_code 24 = .ok (.iconst 0, 1) := by decide +kernel
theorem d_D_take_1_19_25 : decode prog_2_method_2_code 25 = .ok (.bipush 36, 2) := by decide +kernel
theorem d_D_take_1_19_27 : decode prog_2_method_2_code 27 = .ok (.invokestatic 54, 3) := by decide +kernel
theorem d_D_take_1_19_30 : decode prog_2_method_2_code 30 = .ok (.aload_n 1, 1) := by decide +kernel
theorem d_D_take_1_19_31 : decode prog_2_method_2_code 31 = .ok (.getfield 16, 3) := by decide +kernel
theorem d_D_take_1_19_34 : decode prog_2_method_2_code 34 = .ok (.iconst 0, 1) := by decide +kernel
theorem d_D_take_1_19_35 : decode prog_2_method_2_code 35 = .ok (.aload_n 0, 1) := by decide +kernel
theorem d_D_take_1_19_36 : decode prog_2_method_2_code 36 = .ok (.getfield 16, 3) := by decide +kernel
theorem d_D_take_1_19_39 : decode prog_2_method_2_code 39 = .ok (.iconst 0, 1) := by decide +kernel
theorem d_D_take_1_19_40 : decode prog_2_method_2_code 40 = .ok (.bipush 10, 2) := by decide +kernel
theorem d_D_take_1_19_42 : decode prog_2_method_2_code 42 = .ok (.invokestatic 54, 3) := by decide +kernel
theorem d_D_take_1_19_45 : decode prog_2_method_2_code 45 = .ok (.aload_n 1, 1) := by decide +kernel
theorem d_D_take_1_19_46 : decode prog_2_method_2_code 46 = .ok (.getfield 19, 3) := by decide +kernel
theorem d_D_take_1_19_49 : decode prog_2_method_2_code 49 = .ok (.iconst 0, 1) := by decide +kernel
theorem d_D_take_1_19_50 : decode prog_2_method_2_code 50 = .ok (.aload_n 0, 1) := by decide +kernel
theorem d_D_take_1_19_51 : decode prog_2_method_2_code 51 = .ok (.getfield 19, 3) := by decide +kernel
theorem d_D_take_1_19_54 : decode prog_2_method_2_code 54 = .ok (.iconst 0, 1) := by decide +kernel
theorem d_D_take_1_19_55 : decode prog_2_method_2_code 55 = .ok (.bipush 10, 2) := by decide +kernel
theorem d_D_take_1_19_57 : decode prog_2_method_2_code 57 = .ok (.invokestatic 54, 3) := by decide +kernel
theorem d_D_take_1_19_60 : decode prog_2_method_2_code 60 = .ok (.aload_n 1, 1) := by decide +kernel
theorem d_D_take_1_19_61 : decode prog_2_method_2_code 61 = .ok (.getfield 22, 3) := by decide +kernel
theorem d_D_take_1_19_64 : decode prog_2_method_2_code 64 = .ok (.iconst 0, 1) := by decide +kernel
theorem d_D_take_1_19_65 : decode prog_2_method_2_code 65 = .ok (.aload_n 0, 1) := by decide +kernel
theorem d_D_take_1_19_66 : decode prog_2_method_2_code 66 = .ok (.getfield 22, 3) := by decide +kernel
theorem d_D_take_1_19_69 : decode prog_2_method_2_code 69 = .ok (.iconst 0, 1) := by decide +kernel
theorem d_D_take_1_19_70 : decode prog_2_method_2_code 70 = .ok (.bipush 10, 2) := by decide +kernel
theorem d_D_take_1_19_72 : decode prog_2_method_2_code 72 = .ok (.invokestatic 54, 3) := by decide +kernel
theorem d_D_take_1_19_75 : decode prog_2_method_2_code 75 = .ok (.aload_n 1, 1) := by decide +kernel
theorem d_D_take_1_19_76 : decode prog_2_method_2_code 76 = .ok (.getfield 25, 3) := by decide +kernel
theorem d_D_take_1_19_79 : decode prog_2_method_2_code 79 = .ok (.iconst 0, 1) := by decide +kernel
theorem d_D_take_1_19_80 : decode prog_2_method_2_code 80 = .ok (.aload_n 0, 1) := by decide +kernel
theorem d_D_take_1_19_81 : decode prog_2_method_2_code 81 = .ok (.getfield 25, 3) := by decide +kernel
theorem d_D_take_1_19_84 : decode prog_2_method_2_code 84 = .ok (.iconst 0, 1) := by decide +kernel
theorem d_D_take_1_19_85 : decode prog_2_method_2_code 85 = .ok (.bipush 10, 2) := by decide +kernel
theorem d_D_take_1_19_87 : decode prog_2_method_2_code 87 = .ok (.invokestatic 54, 3) := by decide +kernel
theorem d_D_take_1_19_90 : decode prog_2_method_2_code 90 = .ok (.aload_n 1, 1) := by decide +kernel
theorem d_D_take_1_19_91 : decode prog_2_method_2_code 91 = .ok (.getfield 28, 3) := by decide +kernel
theorem d_D_take_1_19_94 : decode prog_2_method_2_code 94 = .ok (.iconst 0, 1) := by decide +kernel
theorem d_D_take_1_19_95 : decode prog_2_method_2_code 95 = .ok (.aload_n 0, 1) := by decide +kernel
theorem d_D_take_1_19_96 : decode prog_2_method_2_code 96 = .ok (.getfield 28, 3) := by decide +kernel
theorem d_D_take_1_19_99 : decode prog_2_method_2_code 99 = .ok (.iconst 0, 1) := by decide +kernel
theorem d_D_take_1_19_100 : decode prog_2_method_2_code 100 = .ok (.bipush 10, 2) := by decide +kernel
theorem d_D_take_1_19_102 : decode prog_2_method_2_code 102 = .ok (.invokestatic 54, 3) := by decide +kernel
theorem d_D_take_1_19_105 : decode prog_2_method_2_code 105 = .ok (.aload_n 1, 1) := by decide +kernel
theorem d_D_take_1_19_106 : decode prog_2_method_2_code 106 = .ok (.getfield 31, 3) := by decide +kernel
theorem d_D_take_1_19_109 : decode prog_2_method_2_code 109 = .ok (.iconst 0, 1) := by decide +kernel
theorem d_D_take_1_19_110 : decode prog_2_method_2_code 110 = .ok (.aload_n 0, 1) := by decide +kernel
theorem d_D_take_1_19_111 : decode prog_2_method_2_code 111 = .ok (.getfield 31, 3) := by decide +kernel
theorem d_D_take_1_19_114 : decode prog_2_method_2_code 114 = .ok (.iconst 0, 1) := by decide +kernel
theorem d_D_take_1_19_115 : decode prog_2_method_2_code 115 = .ok (.bipush 50, 2) := by decide +kernel
theorem d_D_take_1_19_117 : decode prog_2_method_2_code 117 = .ok (.invokestatic 54, 3) := by decide +kernel
theorem d_D_take_1_19_120 : decode prog_2_method_2_code 120 = .ok (.aload_n 1, 1) := by decide +kernel
theorem d_D_take_1_19_121 : decode prog_2_method_2_code 121 = .ok (.getfield 34, 3) := by decide +kernel
theorem d_D_take_1_19_124 : decode prog_2_method_2_code 124 = .ok (.iconst 0, 1) := by decide +kernel
theorem d_D_take_1_19_125 : decode prog_2_method_2_code 125 = .ok (.aload_n 0, 1) := by decide +kernel
theorem d_D_take_1_19_126 : decode prog_2_method_2_code 126 = .ok (.getfield 34, 3) := by decide +kernel
theorem d_D_take_1_19_129 : decode prog_2_method_2_code 129 = .ok (.iconst 0, 1) := by decide +kernel
theorem d_D_take_1_19_130 : decode prog_2_method_2_code 130 = .ok (.bipush 20, 2) := by decide +kernel
theorem d_D_take_1_19_132 : decode prog_2_method_2_code 132 = .ok (.invokestatic 54, 3) := by decide +kernel
theorem d_D_take_1_19_135 : decode prog_2_method_2_code 135 = .ok (.aload_n 0, 1) := by decide +kernel
theorem d_D_take_1_19_136 : decode prog_2_method_2_code 136 = .ok (.getfield 40, 3) := by decide +kernel
theorem d_D_take_1_19_139 : decode prog_2_method_2_code 139 = .ok (.aload_n 1, 1) := by decide +kernel
theorem d_D_take_1_19_140 : decode prog_2_method_2_code 140 = .ok (.getfield 40, 3) := by decide +kernel
theorem d_D_take_1_19_143 : decode prog_2_method_2_code 143 = .ok (.invokevirtual 60, 3) := by decide +kernel
theorem d_D_take_1_19_146 : decode prog_2_method_2_code 146 = .ok (.aload_n 0, 1) := by decide +kernel
theorem d_D_take_1_19_147 : decode prog_2_method_2_code 147 = .ok (.getfield 44, 3) := by decide +kernel
theorem d_D_take_1_19_150 : decode prog_2_method_2_code 150 = .ok (.aload_n 1, 1) := by decide +kernel
theorem d_D_take_1_19_151 : decode prog_2_method_2_code 151 = .ok (.getfield 44, 3) := by decide +kernel
theorem d_D_take_1_19_154 : decode prog_2_method_2_code 154 = .ok (.invokevirtual 60, 3) := by decide +kernel
theorem d_D_take_1_19_157 : decode prog_2_method_2_code 157 = .ok (.aload_n 0, 1) := by decide +kernel
theorem d_D_take_1_19_158 : decode prog_2_method_2_code 158 = .ok (.aload_n 1, 1) := by decide +kernel
theorem d_D_take_1_19_159 : decode prog_2_method_2_code 159 = .ok (.getfield 64, 3) := by decide +kernel
theorem d_D_take_1_19_162 : decode prog_2_method_2_code 162 = .ok (.putfield 64, 3) := by decide +kernel
theorem d_D_take_1_19_165 : decode prog_2_method_2_code 165 = .ok (.aload_n 0, 1) := by decide +kernel
theorem d_D_take_1_19_166 : decode prog_2_method_2_code 166 = .ok (.aload_n 1, 1) := by decide +kernel
theorem d_D_take_1_19_167 : decode prog_2_method_2_code 167 = .ok (.getfield 67, 3) := by decide +kernel
theorem d_D_take_1_19_170 : decode prog_2_method_2_code 170 = .ok (.putfield 67, 3) := by decide +kernel
theorem d_D_take_1_19_173 : decode prog_2_method_2_code 173 = .ok (.aload_n 0, 1) := by decide +kernel
theorem d_D_take_1_19_174 : decode prog_2_method_2_code 174 = .ok (.aload_n 1, 1) := by decide +kernel
theorem d_D_take_1_19_175 : decode prog_2_method_2_code 175 = .ok (.getfield 47, 3) := by decide +kernel
theorem d_D_take_1_19_178 : decode prog_2_method_2_code 178 = .ok (.putfield 47, 3) := by decide +kernel
theorem d_D_take_1_19_181 : decode prog_2_method_2_code 181 = .ok (.aload_n 0, 1) := by decide +kernel
theorem d_D_take_1_19_182 : decode prog_2_method_2_code 182 = .ok (.aload_n 1, 1) := by decide +kernel
theorem d_D_take_1_19_183 : decode prog_2_method_2_code 183 = .ok (.getfield 70, 3) := by decide +kernel
theorem d_D_take_1_19_186 : decode prog_2_method_2_code 186 = .ok (.putfield 70, 3) := by decide +kernel
theorem d_D_take_1_19_189 : decode prog_2_method_2_code 189 = .ok (.aload_n 0, 1) := by decide +kernel
theorem d_D_take_1_19_190 : decode prog_2_method_2_code 190 = .ok (.aload_n 1, 1) := by decide +kernel
theorem d_D_take_1_19_191 : decode prog_2_method_2_code 191 = .ok (.getfield 73, 3) := by decide +kernel
theorem d_D_take_1_19_194 : decode prog_2_method_2_code 194 = .ok (.putfield 73, 3) := by decide +kernel
theorem d_D_take_1_19_197 : decode prog_2_method_2_code 197 = .ok (.aload_n 0, 1) := by decide +kernel
theorem d_D_take_1_19_198 : decode prog_2_method_2_code 198 = .ok (.aload_n 1, 1) := by decide +kernel
theorem d_D_take_1_19_199 : decode prog_2_method_2_code 199 = .ok (.getfield 76, 3) := by decide +kernel
theorem d_D_take_1_19_202 : decode prog_2_method_2_code 202 = .ok (.putfield 76, 3) := by decide +kernel
theorem d_D_take_1_19_205 : decode prog_2_method_2_code 205 = .ok (.aload_n 0, 1) := by decide +kernel
theorem d_D_take_1_19_206 : decode prog_2_method_2_code 206 = .ok (.aload_n 1, 1) := by decide +kernel
theorem d_D_take_1_19_207 : decode prog_2_method_2_code 207 = .ok (.getfield 51, 3) := by decide +kernel
theorem d_D_take_1_19_210 : decode prog_2_method_2_code 210 = .ok (.putfield 51, 3) := by decide +kernel
theorem d_D_take_1_19_213 : decode prog_2_method_2_code 213 = .ok (.return_, 1) := by decide +kernel
def w_D_take_1_19 (K : sm_Mem → Prop) (μ : sm_Mem) : Prop := ∀ μ6 : sm_Mem, μ6 = sm_cpy μ 20 2 ((0 : Int32).toNatClampNeg) ((0 : Int32).toNatClampNeg) ((6 : Int32).toNatClampNeg) → ∀ μ12 : sm_Mem, μ12 = sm_cpy μ6 21 3 ((0 : Int32).toNatClampNeg) ((0 : Int32).toNatClampNeg) ((36 : Int32).toNatClampNeg) → ∀ μ18 : sm_Mem, μ18 = sm_cpy μ12 22 4 ((0 : Int32).toNatClampNeg) ((0 : Int32).toNatClampNeg) ((10 : Int32).toNatClampNeg) → ∀ μ24 : sm_Mem, μ24 = sm_cpy μ18 23 5 ((0 : Int32).toNatClampNeg) ((0 : Int32).toNatClampNeg) ((10 : Int32).toNatClampNeg) → ∀ μ30 : sm_Mem, μ30 = sm_cpy μ24 24 6 ((0 : Int32).toNatClampNeg) ((0 : Int32).toNatClampNeg) ((10 : Int32).toNatClampNeg) → ∀ μ36 : sm_Mem, μ36 = sm_cpy μ30 25 7 ((0 : Int32).toNatClampNeg) ((0 : Int32).toNatClampNeg) ((10 : Int32).toNatClampNeg) → ∀ μ42 : sm_Mem, μ42 = sm_cpy μ36 26 8 ((0 : Int32).toNatClampNeg) ((0 : Int32).toNatClampNeg) ((10 : Int32).toNatClampNeg) → ∀ μ48 : sm_Mem, μ48 = sm_cpy μ42 27 9 ((0 : Int32).toNatClampNeg) ((0 : Int32).toNatClampNeg) ((50 : Int32).toNatClampNeg) → ∀ μ54 : sm_Mem, μ54 = sm_cpy μ48 28 10 ((0 : Int32).toNatClampNeg) ((0 : Int32).toNatClampNeg) ((20 : Int32).toNatClampNeg) → w_T_take (fun μ55 => w_T_take (fun μ56 => ∀ μ57 : sm_Mem, μ57 = sm_st μ56 1 11 (μ56 19 11) → ∀ μ58 : sm_Mem, μ58 = sm_st μ57 1 12 (μ57 19 12) → ∀ μ59 : sm_Mem, μ59 = sm_st μ58 1 13 (μ58 19 13) → ∀ μ60 : sm_Mem, μ60 = sm_st μ59 1 14 (μ59 19 14) → ∀ μ61 : sm_Mem, μ61 = sm_st μ60 1 15 (μ60 19 15) → ∀ μ62 : sm_Mem, μ62 = sm_st μ61 1 16 (μ61 19 16) → ∀ μ63 : sm_Mem, μ63 = sm_st μ62 1 17 (μ62 19 17) → K μ63) 15 33 μ55) 11 29 μ54
set_option maxHeartbeats 4000000 in
set_option maxRecDepth 100000 in
theorem P_D_take_1_19 (l : Launch) {K : sm_Mem → Prop} {μ : sm_Mem} (h : w_D_take_1_19 K μ) : sm_MV l ⟨"SnowMoney$Duchy", "take", "(LSnowMoney$Duchy;)V"⟩ prog_2_method_2_code 2 { frames := 2, cells := 0, slots := 0, locals := 61 } [sm_R 1, sm_R 19] μ K := by
  refine sm_ofV (by decide +kernel) (fun _ => Nat.le_of_ble_eq_true rfl) ?_
  intro p e s m args below meth c A Q G C hR
  refine sr_aload_n C 1 rfl rfl d_D_take_1_19_0 ?_
  refine sr_getR C sm_F0 0 q_92 sm_l19 (r := 20) rfl (by decide) d_D_take_1_19_1 ?_
  refine sr_iconst C (v := 0) d_D_take_1_19_4 (by decide) ?_
  refine sr_aload_n C 0 rfl rfl d_D_take_1_19_5 ?_
  refine sr_getR C sm_F0 0 q_92 sm_l1 (r := 2) rfl (by decide) d_D_take_1_19_6 ?_
  refine sr_iconst C (v := 0) d_D_take_1_19_9 (by decide) ?_
  refine sr_bipush C (v := 6) d_D_take_1_19_10 (by decide) ?_
  refine sr_copy C sm_l20 sm_l2 (by decide) (by decide) (by decide) (by decide) (by decide) q_413 q_sysn q_syss q_sysi (Nat.le_of_ble_eq_true rfl) (Nat.le_of_ble_eq_true rfl) d_D_take_1_19_12 ?_
  replace h := h _ rfl
  refine sr_aload_n C 1 rfl rfl d_D_take_1_19_15 ?_
  refine sr_getR C sm_F0 1 q_34 sm_l19 (r := 21) rfl (by decide) d_D_take_1_19_16 ?_
  refine sr_iconst C (v := 0) d_D_take_1_19_19 (by decide) ?_
  refine sr_aload_n C 0 rfl rfl d_D_take_1_19_20 ?_
  refine sr_getR C sm_F0 1 q_34 sm_l1 (r := 3) rfl (by decide) d_D_take_1_19_21 ?_
  refine sr_iconst C (v := 0) d_D_take_1_19_24 (by decide) ?_
  refine sr_bipush C (v := 36) d_D_take_1_19_25 (by decide) ?_
  refine sr_copy C sm_l21 sm_l3 (by decide) (by decide) (by decide) (by decide) (by decide) q_413 q_sysn q_syss q_sysi (Nat.le_of_ble_eq_true rfl) (Nat.le_of_ble_eq_true rfl) d_D_take_1_19_27 ?_
  replace h := h _ rfl
  refine sr_aload_n C 1 rfl rfl d_D_take_1_19_30 ?_
  refine sr_getR C sm_F0 2 q_54 sm_l19 (r := 22) rfl (by decide) d_D_take_1_19_31 ?_
  refine sr_iconst C (v := 0) d_D_take_1_19_34 (by decide) ?_
  refine sr_aload_n C 0 rfl rfl d_D_take_1_19_35 ?_
  refine sr_getR C sm_F0 2 q_54 sm_l1 (r := 4) rfl (by decide) d_D_take_1_19_36 ?_
  refine sr_iconst C (v := 0) d_D_take_1_19_39 (by decide) ?_
  refine sr_bipush C (v := 10) d_D_take_1_19_40 (by decide) ?_
  refine sr_copy C sm_l22 sm_l4 (by decide) (by decide) (by decide) (by decide) (by decide) q_413 q_sysn q_syss q_sysi (Nat.le_of_ble_eq_true rfl) (Nat.le_of_ble_eq_true rfl) d_D_take_1_19_42 ?_
  replace h := h _ rfl
  refine sr_aload_n C 1 rfl rfl d_D_take_1_19_45 ?_
  refine sr_getR C sm_F0 3 q_55 sm_l19 (r := 23) rfl (by decide) d_D_take_1_19_46 ?_
  refine sr_iconst C (v := 0) d_D_take_1_19_49 (by decide) ?_
  refine sr_aload_n C 0 rfl rfl d_D_take_1_19_50 ?_
  refine sr_getR C sm_F0 3 q_55 sm_l1 (r := 5) rfl (by decide) d_D_take_1_19_51 ?_
  refine sr_iconst C (v := 0) d_D_take_1_19_54 (by decide) ?_
  refine sr_bipush C (v := 10) d_D_take_1_19_55 (by decide) ?_
  refine sr_copy C sm_l23 sm_l5 (by decide) (by decide) (by decide) (by decide) (by decide) q_413 q_sysn q_syss q_sysi (Nat.le_of_ble_eq_true rfl) (Nat.le_of_ble_eq_true rfl) d_D_take_1_19_57 ?_
  replace h := h _ rfl
  refine sr_aload_n C 1 rfl rfl d_D_take_1_19_60 ?_
  refine sr_getR C sm_F0 4 q_209 sm_l19 (r := 24) rfl (by decide) d_D_take_1_19_61 ?_
  refine sr_iconst C (v := 0) d_D_take_1_19_64 (by decide) ?_
  refine sr_aload_n C 0 rfl rfl d_D_take_1_19_65 ?_
  refine sr_getR C sm_F0 4 q_209 sm_l1 (r := 6) rfl (by decide) d_D_take_1_19_66 ?_
  refine sr_iconst C (v := 0) d_D_take_1_19_69 (by decide) ?_
  refine sr_bipush C (v := 10) d_D_take_1_19_70 (by decide) ?_
  refine sr_copy C sm_l24 sm_l6 (by decide) (by decide) (by decide) (by decide) (by decide) q_413 q_sysn q_syss q_sysi (Nat.le_of_ble_eq_true rfl) (Nat.le_of_ble_eq_true rfl) d_D_take_1_19_72 ?_
  replace h := h _ rfl
  refine sr_aload_n C 1 rfl rfl d_D_take_1_19_75 ?_
  refine sr_getR C sm_F0 5 q_24 sm_l19 (r := 25) rfl (by decide) d_D_take_1_19_76 ?_
  refine sr_iconst C (v := 0) d_D_take_1_19_79 (by decide) ?_
  refine sr_aload_n C 0 rfl rfl d_D_take_1_19_80 ?_
  refine sr_getR C sm_F0 5 q_24 sm_l1 (r := 7) rfl (by decide) d_D_take_1_19_81 ?_
  refine sr_iconst C (v := 0) d_D_take_1_19_84 (by decide) ?_
  refine sr_bipush C (v := 10) d_D_take_1_19_85 (by decide) ?_
  refine sr_copy C sm_l25 sm_l7 (by decide) (by decide) (by decide) (by decide) (by decide) q_413 q_sysn q_syss q_sysi (Nat.le_of_ble_eq_true rfl) (Nat.le_of_ble_eq_true rfl) d_D_take_1_19_87 ?_
  replace h := h _ rfl
  refine sr_aload_n C 1 rfl rfl d_D_take_1_19_90 ?_
  refine sr_getR C sm_F0 6 q_103 sm_l19 (r := 26) rfl (by decide) d_D_take_1_19_91 ?_
  refine sr_iconst C (v := 0) d_D_take_1_19_94 (by decide) ?_
  refine sr_aload_n C 0 rfl rfl d_D_take_1_19_95 ?_
  refine sr_getR C sm_F0 6 q_103 sm_l1 (r := 8) rfl (by decide) d_D_take_1_19_96 ?_
  refine sr_iconst C (v := 0) d_D_take_1_19_99 (by decide) ?_
  refine sr_bipush C (v := 10) d_D_take_1_19_100 (by decide) ?_
  refine sr_copy C sm_l26 sm_l8 (by decide) (by decide) (by decide) (by decide) (by decide) q_413 q_sysn q_syss q_sysi (Nat.le_of_ble_eq_true rfl) (Nat.le_of_ble_eq_true rfl) d_D_take_1_19_102 ?_
  replace h := h _ rfl
  refine sr_aload_n C 1 rfl rfl d_D_take_1_19_105 ?_
  refine sr_getR C sm_F0 7 q_414 sm_l19 (r := 27) rfl (by decide) d_D_take_1_19_106 ?_
  refine sr_iconst C (v := 0) d_D_take_1_19_109 (by decide) ?_
  refine sr_aload_n C 0 rfl rfl d_D_take_1_19_110 ?_
  refine sr_getR C sm_F0 7 q_414 sm_l1 (r := 9) rfl (by decide) d_D_take_1_19_111 ?_
  refine sr_iconst C (v := 0) d_D_take_1_19_114 (by decide) ?_
  refine sr_bipush C (v := 50) d_D_take_1_19_115 (by decide) ?_
  refine sr_copy C sm_l27 sm_l9 (by decide) (by decide) (by decide) (by decide) (by decide) q_413 q_sysn q_syss q_sysi (Nat.le_of_ble_eq_true rfl) (Nat.le_of_ble_eq_true rfl) d_D_take_1_19_117 ?_
  replace h := h _ rfl
  refine sr_aload_n C 1 rfl rfl d_D_take_1_19_120 ?_
  refine sr_getR C sm_F0 8 q_415 sm_l19 (r := 28) rfl (by decide) d_D_take_1_19_121 ?_
  refine sr_iconst C (v := 0) d_D_take_1_19_124 (by decide) ?_
  refine sr_aload_n C 0 rfl rfl d_D_take_1_19_125 ?_
  refine sr_getR C sm_F0 8 q_415 sm_l1 (r := 10) rfl (by decide) d_D_take_1_19_126 ?_
  refine sr_iconst C (v := 0) d_D_take_1_19_129 (by decide) ?_
  refine sr_bipush C (v := 20) d_D_take_1_19_130 (by decide) ?_
  refine sr_copy C sm_l28 sm_l10 (by decide) (by decide) (by decide) (by decide) (by decide) q_413 q_sysn q_syss q_sysi (Nat.le_of_ble_eq_true rfl) (Nat.le_of_ble_eq_true rfl) d_D_take_1_19_132 ?_
  replace h := h _ rfl
  refine sr_aload_n C 0 rfl rfl d_D_take_1_19_135 ?_
  refine sr_getR C sm_F0 9 q_70 sm_l1 (r := 11) rfl (by decide) d_D_take_1_19_136 ?_
  refine sr_aload_n C 1 rfl rfl d_D_take_1_19_139 ?_
  refine sr_getR C sm_F0 9 q_70 sm_l19 (r := 29) rfl (by decide) d_D_take_1_19_140 ?_
  refine sr_callVV C [sm_R _] (P_T_take l h) ok_93 sm_l11 rfl rfl rfl rfl ⟨Nat.le_of_ble_eq_true rfl, Nat.le_of_ble_eq_true rfl⟩ (Nat.le_of_ble_eq_true rfl) ⟨Nat.zero_le _, Nat.zero_le _⟩ d_D_take_1_19_143 (fun μ55 h => ?_)
  refine sr_aload_n C 0 rfl rfl d_D_take_1_19_146 ?_
  refine sr_getR C sm_F0 10 q_108 sm_l1 (r := 15) rfl (by decide) d_D_take_1_19_147 ?_
  refine sr_aload_n C 1 rfl rfl d_D_take_1_19_150 ?_
  refine sr_getR C sm_F0 10 q_108 sm_l19 (r := 33) rfl (by decide) d_D_take_1_19_151 ?_
  refine sr_callVV C [sm_R _] (P_T_take l h) ok_93 sm_l15 rfl rfl rfl rfl ⟨Nat.le_of_ble_eq_true rfl, Nat.le_of_ble_eq_true rfl⟩ (Nat.le_of_ble_eq_true rfl) ⟨Nat.zero_le _, Nat.zero_le _⟩ d_D_take_1_19_154 (fun μ56 h => ?_)
  refine sr_aload_n C 0 rfl rfl d_D_take_1_19_157 ?_
  refine sr_aload_n C 1 rfl rfl d_D_take_1_19_158 ?_
  refine sr_getI C sm_F0 11 q_18 sm_l19 rfl (by decide) d_D_take_1_19_159 ?_
  refine sr_putI C sm_F0 11 q_18 sm_l1 rfl rfl (by decide) rfl d_D_take_1_19_162 ?_
  replace h := h _ rfl
  refine sr_aload_n C 0 rfl rfl d_D_take_1_19_165 ?_
  refine sr_aload_n C 1 rfl rfl d_D_take_1_19_166 ?_
  refine sr_getI C sm_F0 12 q_23 sm_l19 rfl (by decide) d_D_take_1_19_167 ?_
  refine sr_putI C sm_F0 12 q_23 sm_l1 rfl rfl (by decide) rfl d_D_take_1_19_170 ?_
  replace h := h _ rfl
  refine sr_aload_n C 0 rfl rfl d_D_take_1_19_173 ?_
  refine sr_aload_n C 1 rfl rfl d_D_take_1_19_174 ?_
  refine sr_getI C sm_F0 13 q_60 sm_l19 rfl (by decide) d_D_take_1_19_175 ?_
  refine sr_putI C sm_F0 13 q_60 sm_l1 rfl rfl (by decide) rfl d_D_take_1_19_178 ?_
  replace h := h _ rfl
  refine sr_aload_n C 0 rfl rfl d_D_take_1_19_181 ?_
  refine sr_aload_n C 1 rfl rfl d_D_take_1_19_182 ?_
  refine sr_getI C sm_F0 14 q_61 sm_l19 rfl (by decide) d_D_take_1_19_183 ?_
  refine sr_putI C sm_F0 14 q_61 sm_l1 rfl rfl (by decide) rfl d_D_take_1_19_186 ?_
  replace h := h _ rfl
  refine sr_aload_n C 0 rfl rfl d_D_take_1_19_189 ?_
  refine sr_aload_n C 1 rfl rfl d_D_take_1_19_190 ?_
  refine sr_getI C sm_F0 15 q_417 sm_l19 rfl (by decide) d_D_take_1_19_191 ?_
  refine sr_putI C sm_F0 15 q_417 sm_l1 rfl rfl (by decide) rfl d_D_take_1_19_194 ?_
  replace h := h _ rfl
  refine sr_aload_n C 0 rfl rfl d_D_take_1_19_197 ?_
  refine sr_aload_n C 1 rfl rfl d_D_take_1_19_198 ?_
  refine sr_getI C sm_F0 16 q_418 sm_l19 rfl (by decide) d_D_take_1_19_199 ?_
  refine sr_putI C sm_F0 16 q_418 sm_l1 rfl rfl (by decide) rfl d_D_take_1_19_202 ?_
  replace h := h _ rfl
  refine sr_aload_n C 0 rfl rfl d_D_take_1_19_205 ?_
  refine sr_aload_n C 1 rfl rfl d_D_take_1_19_206 ?_
  refine sr_getI C sm_F0 17 q_244 sm_l19 rfl (by decide) d_D_take_1_19_207 ?_
  refine sr_putI C sm_F0 17 q_244 sm_l1 rfl rfl (by decide) rfl d_D_take_1_19_210 ?_
  replace h := h _ rfl
  exact hR _ _ _ d_D_take_1_19_213 h
theorem d_D_gone_0 : decode prog_2_method_15_code 0 = .ok (.iconst 0, 1) := by decide +kernel
theorem d_D_gone_1 : decode prog_2_method_15_code 1 = .ok (.istore_n 1, 1) := by decide +kernel
theorem d_D_gone_2 : decode prog_2_method_15_code 2 = .ok (.iconst 0, 1) := by decide +kernel
theorem d_D_gone_3 : decode prog_2_method_15_code 3 = .ok (.istore_n 2, 1) := by decide +kernel
theorem d_D_gone_4 : decode prog_2_method_15_code 4 = .ok (.iload_n 2, 1) := by decide +kernel
theorem d_D_gone_5 : decode prog_2_method_15_code 5 = .ok (.aload_n 0, 1) := by decide +kernel
theorem d_D_gone_6 : decode prog_2_method_15_code 6 = .ok (.getfield 67, 3) := by decide +kernel
theorem d_D_gone_9 : decode prog_2_method_15_code 9 = .ok (.if_icmp .ge 21, 3) := by decide +kernel
theorem d_D_gone_12 : decode prog_2_method_15_code 12 = .ok (.aload_n 0, 1) := by decide +kernel
theorem d_D_gone_13 : decode prog_2_method_15_code 13 = .ok (.getfield 22, 3) := by decide +kernel
theorem d_D_gone_16 : decode prog_2_method_15_code 16 = .ok (.iload_n 2, 1) := by decide +kernel
theorem d_D_gone_17 : decode prog_2_method_15_code 17 = .ok (.iaload, 1) := by decide +kernel
theorem d_D_gone_18 : decode prog_2_method_15_code 18 = .ok (.ifCond .ne 6, 3) := by decide +kernel
theorem d_D_gone_21 : decode prog_2_method_15_code 21 = .ok (.iinc 1 1, 3) := by decide +kernel
theorem d_D_gone_24 : decode prog_2_method_15_code 24 = .ok (.iinc 2 1, 3) := by decide +kernel
theorem d_D_gone_27 : decode prog_2_method_15_code 27 = .ok (.goto (-23), 3) := by decide +kernel
theorem d_D_gone_30 : decode prog_2_method_15_code 30 = .ok (.iload_n 1, 1) := by decide +kernel
theorem d_D_gone_31 : decode prog_2_method_15_code 31 = .ok (.ireturn, 1) := by decide +kernel
def w_D_gone_24 (K : Int32 → sm_Mem → Prop) (J4 : Int32 → Int32 → sm_Mem → Prop) (x1 : Int32) (x2 : Int32) (μ : sm_Mem) : Prop := J4 x1 (x2 + 1) μ
def w_D_gone_4 (K : Int32 → sm_Mem → Prop) (x1 : Int32) (x2 : Int32) (μ : sm_Mem) : Prop := sm_lp2 (fun J4 x1 x2 μ => if (μ 1 12) ≤ x2 then K x1 μ else (vp_in x2 10 ∧ if (μ 6 x2.toNatClampNeg) = 0 then w_D_gone_24 K J4 (x1 + 1) x2 μ else w_D_gone_24 K J4 x1 x2 μ)) x1 x2 μ
def w_D_gone (K : Int32 → sm_Mem → Prop) (μ : sm_Mem) : Prop := w_D_gone_4 K 0 0 μ
set_option maxHeartbeats 4000000 in
set_option maxRecDepth 100000 in
theorem P_D_gone (l : Launch) {K : Int32 → sm_Mem → Prop} {μ : sm_Mem} (h : w_D_gone K μ) : sm_MI l ⟨"SnowMoney$Duchy", "gone", "()I"⟩ prog_2_method_15_code 3 (some .int) { frames := 0, cells := 0, slots := 0, locals := 0 } [sm_R 1] μ K := by
  refine sm_ofI (by decide +kernel) (fun _ => Nat.le_of_ble_eq_true rfl) ?_
  intro p e s m args below meth c A Q G C hR
  have B24 : ∀ (J4 : Int32 → Int32 → sm_Mem → Prop) (hJ4 : ∀ (x1 : Int32) (x2 : Int32) (μ : sm_Mem), J4 x1 x2 μ → sm_W p l e { frames := 0, cells := 0, slots := 0, locals := 0 } s m args below meth c A Q G 3 0 0 4 [] [(0, sm_R 1), (1, sm_I x1), (2, sm_I x2)] μ) (x1 : Int32) (x2 : Int32) (μ : sm_Mem), w_D_gone_24 K J4 x1 x2 μ → sm_W p l e { frames := 0, cells := 0, slots := 0, locals := 0 } s m args below meth c A Q G 3 0 0 24 [] [(0, sm_R 1), (1, sm_I x1), (2, sm_I x2)] μ := by
    intro J4 hJ4 x1 x2 μ h
    refine sr_iinc C 2 rfl (by decide) d_D_gone_24 rfl ?_
    refine sr_goto C (tgt := 4) (by decide) d_D_gone_27 ?_
    refine sr_mask C [1, 2, 0] rfl ?_
    exact hJ4 _ _ _ h
  have B4 : ∀ (x1 : Int32) (x2 : Int32) (μ : sm_Mem), w_D_gone_4 K x1 x2 μ → sm_W p l e { frames := 0, cells := 0, slots := 0, locals := 0 } s m args below meth c A Q G 3 0 0 4 [] [(0, sm_R 1), (1, sm_I x1), (2, sm_I x2)] μ := by
    intro x1 x2 μ h
    refine sm_lp2_sound (P := fun x1 x2 μ => sm_W p l e { frames := 0, cells := 0, slots := 0, locals := 0 } s m args below meth c A Q G 3 0 0 4 [] [(0, sm_R 1), (1, sm_I x1), (2, sm_I x2)] μ) (fun J4 x1 x2 μ hJ4 h => ?_) h
    refine sr_iload_n C 2 rfl rfl d_D_gone_4 ?_
    refine sr_aload_n C 0 rfl rfl d_D_gone_5 ?_
    refine sr_getI C sm_F0 12 q_23 sm_l1 rfl (by decide) d_D_gone_6 ?_
    refine sr_icmp_ge C (tgt := 30) d_D_gone_9 (by decide) (fun c1 => ?_) (fun c1 => ?_)
    · replace h := Eq.mp (if_pos c1) h
      refine sr_iload_n C 1 rfl rfl d_D_gone_30 ?_
      exact hR _ _ _ _ d_D_gone_31 rfl h
    · replace h := Eq.mp (if_neg c1) h
      refine sr_aload_n C 0 rfl rfl d_D_gone_12 ?_
      refine sr_getR C sm_F0 4 q_209 sm_l1 (r := 6) rfl (by decide) d_D_gone_13 ?_
      refine sr_iload_n C 2 rfl rfl d_D_gone_16 ?_
      obtain ⟨g2, h⟩ := h
      refine sr_iald C sm_l6 g2 d_D_gone_17 ?_
      refine sr_if_ne C (tgt := 24) d_D_gone_18 (by decide) (fun c3 => ?_) (fun c3 => ?_)
      · replace h := Eq.mp (if_neg c3) h
        exact B24 _ hJ4 _ _ _ h
      · replace h := Eq.mp (if_pos c3) h
        refine sr_iinc C 1 rfl (by decide) d_D_gone_21 rfl ?_
        refine sr_mask C [1, 0, 2] rfl ?_
        exact B24 _ hJ4 _ _ _ h
  refine sr_iconst C (v := 0) d_D_gone_0 (by decide) ?_
  refine sr_istore_n C rfl (by decide) d_D_gone_1 ?_
  refine sr_iconst C (v := 0) d_D_gone_2 (by decide) ?_
  refine sr_istore_n C rfl (by decide) d_D_gone_3 ?_
  refine sr_mask C [2, 1, 0] rfl ?_
  exact B4 _ _ _ h
end
section
theorem d_V_bodyOf_0 : decode prog_8_method_3_code 0 = .ok (.iload_n 0, 1) := by decide +kernel
theorem d_V_bodyOf_1 : decode prog_8_method_3_code 1 = .ok (.iconst 4, 1) := by decide +kernel
theorem d_V_bodyOf_2 : decode prog_8_method_3_code 2 = .ok (.imul, 1) := by decide +kernel
theorem d_V_bodyOf_3 : decode prog_8_method_3_code 3 = .ok (.iload_n 1, 1) := by decide +kernel
theorem d_V_bodyOf_4 : decode prog_8_method_3_code 4 = .ok (.iadd, 1) := by decide +kernel
theorem d_V_bodyOf_5 : decode prog_8_method_3_code 5 = .ok (.istore_n 2, 1) := by decide +kernel
theorem d_V_bodyOf_6 : decode prog_8_method_3_code 6 = .ok (.iload_n 2, 1) := by decide +kernel
theorem d_V_bodyOf_7 : decode prog_8_method_3_code 7 = .ok (.ifCond .lt 19, 3) := by decide +kernel
theorem d_V_bodyOf_10 : decode prog_8_method_3_code 10 = .ok (.iload_n 2, 1) := by decide +kernel
theorem d_V_bodyOf_11 : decode prog_8_method_3_code 11 = .ok (.getstatic 30, 3) := by decide +kernel
theorem d_V_bodyOf_14 : decode prog_8_method_3_code 14 = .ok (.arraylength, 1) := by decide +kernel
theorem d_V_bodyOf_15 : decode prog_8_method_3_code 15 = .ok (.if_icmp .ge 11, 3) := by decide +kernel
theorem d_V_bodyOf_18 : decode prog_8_method_3_code 18 = .ok (.getstatic 30, 3) := by decide +kernel
theorem d_V_bodyOf_21 : decode prog_8_method_3_code 21 = .ok (.iload_n 2, 1) := by decide +kernel
theorem d_V_bodyOf_22 : decode prog_8_method_3_code 22 = .ok (.iaload, 1) := by decide +kernel
theorem d_V_bodyOf_23 : decode prog_8_method_3_code 23 = .ok (.goto 4, 3) := by decide +kernel
theorem d_V_bodyOf_26 : decode prog_8_method_3_code 26 = .ok (.iconst 0, 1) := by decide +kernel
theorem d_V_bodyOf_27 : decode prog_8_method_3_code 27 = .ok (.ireturn, 1) := by decide +kernel
def w_V_bodyOf (K : Int32 → sm_Mem → Prop) (p0 : Int32) (p1 : Int32) (μ : sm_Mem) : Prop := ∀ v1 : Int32, v1 = ((p0 * 4) + p1) → if v1 < 0 then K 0 μ else (if 28 ≤ v1 then K 0 μ else (vp_in v1 28 ∧ K (sm_bodies.getD v1.toNatClampNeg 0) μ))
set_option maxHeartbeats 4000000 in
set_option maxRecDepth 100000 in
theorem P_V_bodyOf (l : Launch) {K : Int32 → sm_Mem → Prop} {p0 : Int32} {p1 : Int32} {μ : sm_Mem} (h : w_V_bodyOf K p0 p1 μ) : sm_MI l ⟨"SnowMoney$Voices", "bodyOf", "(II)I"⟩ prog_8_method_3_code 3 (some .int) { frames := 0, cells := 0, slots := 0, locals := 0 } [sm_I p0, sm_I p1] μ K := by
  refine sm_ofI (by decide +kernel) (fun _ => Nat.le_of_ble_eq_true rfl) ?_
  intro p e s m args below meth c A Q G C hR
  refine sr_iload_n C 0 rfl rfl d_V_bodyOf_0 ?_
  refine sr_iconst C (v := 4) d_V_bodyOf_1 (by decide) ?_
  refine sr_imul C d_V_bodyOf_2 ?_
  refine sr_iload_n C 1 rfl rfl d_V_bodyOf_3 ?_
  refine sr_iadd C d_V_bodyOf_4 ?_
  replace h := h _ rfl
  refine sr_istore_n C rfl (by decide) d_V_bodyOf_5 ?_
  refine sr_iload_n C 0 rfl rfl d_V_bodyOf_6 ?_
  refine sr_if_lt C (tgt := 26) d_V_bodyOf_7 (by decide) (fun c2 => ?_) (fun c2 => ?_)
  · replace h := Eq.mp (if_pos c2) h
    refine sr_iconst C (v := 0) d_V_bodyOf_26 (by decide) ?_
    exact hR _ _ _ _ d_V_bodyOf_27 rfl h
  · replace h := Eq.mp (if_neg c2) h
    refine sr_iload_n C 0 rfl rfl d_V_bodyOf_10 ?_
    refine sr_getsB C q_385 d_V_bodyOf_11 ?_
    refine sr_tlenB C (v := 28) (by decide) d_V_bodyOf_14 ?_
    refine sr_icmp_ge C (tgt := 26) d_V_bodyOf_15 (by decide) (fun c3 => ?_) (fun c3 => ?_)
    · replace h := Eq.mp (if_pos c3) h
      refine sr_iconst C (v := 0) d_V_bodyOf_26 (by decide) ?_
      exact hR _ _ _ _ d_V_bodyOf_27 rfl h
    · replace h := Eq.mp (if_neg c3) h
      refine sr_getsB C q_385 d_V_bodyOf_18 ?_
      refine sr_iload_n C 0 rfl rfl d_V_bodyOf_21 ?_
      obtain ⟨g4, h⟩ := h
      refine sr_tabB C g4 d_V_bodyOf_22 ?_
      refine sr_goto C (tgt := 27) (by decide) d_V_bodyOf_23 ?_
      exact hR _ _ _ _ d_V_bodyOf_27 rfl h
theorem d_V_speak_0 : decode prog_8_method_4_code 0 = .ok (.iload 4, 2) := by decide +kernel
theorem d_V_speak_2 : decode prog_8_method_4_code 2 = .ok (.bipush 30, 2) := by decide +kernel
theorem d_V_speak_4 : decode prog_8_method_4_code 4 = .ok (.if_icmp .le 5, 3) := by decide +kernel
theorem d_V_speak_7 : decode prog_8_method_4_code 7 = .ok (.iconst 0, 1) := by decide +kernel
theorem d_V_speak_8 : decode prog_8_method_4_code 8 = .ok (.ireturn, 1) := by decide +kernel
theorem d_V_speak_9 : decode prog_8_method_4_code 9 = .ok (.iload_n 1, 1) := by decide +kernel
theorem d_V_speak_10 : decode prog_8_method_4_code 10 = .ok (.istore 5, 2) := by decide +kernel
theorem d_V_speak_12 : decode prog_8_method_4_code 12 = .ok (.iconst 0, 1) := by decide +kernel
theorem d_V_speak_13 : decode prog_8_method_4_code 13 = .ok (.istore 6, 2) := by decide +kernel
theorem d_V_speak_15 : decode prog_8_method_4_code 15 = .ok (.iload 6, 2) := by decide +kernel
theorem d_V_speak_17 : decode prog_8_method_4_code 17 = .ok (.bipush 7, 2) := by decide +kernel
theorem d_V_speak_19 : decode prog_8_method_4_code 19 = .ok (.if_icmp .ge 30, 3) := by decide +kernel
theorem d_V_speak_22 : decode prog_8_method_4_code 22 = .ok (.iload 5, 2) := by decide +kernel
theorem d_V_speak_24 : decode prog_8_method_4_code 24 = .ok (.ifCond .le 25, 3) := by decide +kernel
theorem d_V_speak_27 : decode prog_8_method_4_code 27 = .ok (.iload 5, 2) := by decide +kernel
theorem d_V_speak_29 : decode prog_8_method_4_code 29 = .ok (.iload_n 2, 1) := by decide +kernel
theorem d_V_speak_30 : decode prog_8_method_4_code 30 = .ok (.invokestatic 35, 3) := by decide +kernel
theorem d_V_speak_33 : decode prog_8_method_4_code 33 = .ok (.ifCond .ne 16, 3) := by decide +kernel
theorem d_V_speak_36 : decode prog_8_method_4_code 36 = .ok (.iload 5, 2) := by decide +kernel
theorem d_V_speak_38 : decode prog_8_method_4_code 38 = .ok (.invokestatic 39, 3) := by decide +kernel
theorem d_V_speak_41 : decode prog_8_method_4_code 41 = .ok (.istore 5, 2) := by decide +kernel
theorem d_V_speak_43 : decode prog_8_method_4_code 43 = .ok (.iinc 6 1, 3) := by decide +kernel
theorem d_V_speak_46 : decode prog_8_method_4_code 46 = .ok (.goto (-31), 3) := by decide +kernel
theorem d_V_speak_49 : decode prog_8_method_4_code 49 = .ok (.iload 5, 2) := by decide +kernel
theorem d_V_speak_51 : decode prog_8_method_4_code 51 = .ok (.iload_n 2, 1) := by decide +kernel
theorem d_V_speak_52 : decode prog_8_method_4_code 52 = .ok (.invokestatic 35, 3) := by decide +kernel
theorem d_V_speak_55 : decode prog_8_method_4_code 55 = .ok (.istore 6, 2) := by decide +kernel
theorem d_V_speak_57 : decode prog_8_method_4_code 57 = .ok (.aload_n 0, 1) := by decide +kernel
theorem d_V_speak_58 : decode prog_8_method_4_code 58 = .ok (.getfield 23, 3) := by decide +kernel
theorem d_V_speak_61 : decode prog_8_method_4_code 61 = .ok (.bipush 40, 2) := by decide +kernel
theorem d_V_speak_63 : decode prog_8_method_4_code 63 = .ok (.if_icmp .ge 24, 3) := by decide +kernel
theorem d_V_speak_66 : decode prog_8_method_4_code 66 = .ok (.aload_n 0, 1) := by decide +kernel
theorem d_V_speak_67 : decode prog_8_method_4_code 67 = .ok (.getfield 9, 3) := by decide +kernel
theorem d_V_speak_70 : decode prog_8_method_4_code 70 = .ok (.aload_n 0, 1) := by decide +kernel
theorem d_V_speak_71 : decode prog_8_method_4_code 71 = .ok (.getfield 23, 3) := by decide +kernel
theorem d_V_speak_74 : decode prog_8_method_4_code 74 = .ok (.iload 6, 2) := by decide +kernel
theorem d_V_speak_76 : decode prog_8_method_4_code 76 = .ok (.iastore, 1) := by decide +kernel
theorem d_V_speak_77 : decode prog_8_method_4_code 77 = .ok (.aload_n 0, 1) := by decide +kernel
theorem d_V_speak_78 : decode prog_8_method_4_code 78 = .ok (.dup, 1) := by decide +kernel
theorem d_V_speak_79 : decode prog_8_method_4_code 79 = .ok (.getfield 23, 3) := by decide +kernel
theorem d_V_speak_82 : decode prog_8_method_4_code 82 = .ok (.iconst 1, 1) := by decide +kernel
theorem d_V_speak_83 : decode prog_8_method_4_code 83 = .ok (.iadd, 1) := by decide +kernel
theorem d_V_speak_84 : decode prog_8_method_4_code 84 = .ok (.putfield 23, 3) := by decide +kernel
theorem d_V_speak_87 : decode prog_8_method_4_code 87 = .ok (.aload_n 0, 1) := by decide +kernel
theorem d_V_speak_88 : decode prog_8_method_4_code 88 = .ok (.iload 6, 2) := by decide +kernel
theorem d_V_speak_90 : decode prog_8_method_4_code 90 = .ok (.iload 5, 2) := by decide +kernel
theorem d_V_speak_92 : decode prog_8_method_4_code 92 = .ok (.invokestatic 39, 3) := by decide +kernel
theorem d_V_speak_95 : decode prog_8_method_4_code 95 = .ok (.iload_n 3, 1) := by decide +kernel
theorem d_V_speak_96 : decode prog_8_method_4_code 96 = .ok (.iload 4, 2) := by decide +kernel
theorem d_V_speak_98 : decode prog_8_method_4_code 98 = .ok (.iconst 1, 1) := by decide +kernel
theorem d_V_speak_99 : decode prog_8_method_4_code 99 = .ok (.iadd, 1) := by decide +kernel
theorem d_V_speak_100 : decode prog_8_method_4_code 100 = .ok (.invokevirtual 43, 3) := by decide +kernel
theorem d_V_speak_103 : decode prog_8_method_4_code 103 = .ok (.ireturn, 1) := by decide +kernel
def w_V_speak_87 (F : Nat → (Int32 → sm_Mem → Prop) → Int32 → Int32 → Int32 → Int32 → sm_Mem → Prop) (K : Int32 → sm_Mem → Prop) (p0 : Int32) (p1 : Int32) (p2 : Int32) (p3 : Int32) (x5 : Int32) (x6 : Int32) (μ : sm_Mem) : Prop := w_K_above (fun r7 μ6 => F 1 (fun r9 μ8 => K r9 μ8) x6 r7 p2 (p3 + 1) μ6) x5 μ
def w_V_speak_49 (F : Nat → (Int32 → sm_Mem → Prop) → Int32 → Int32 → Int32 → Int32 → sm_Mem → Prop) (K : Int32 → sm_Mem → Prop) (p0 : Int32) (p1 : Int32) (p2 : Int32) (p3 : Int32) (x5 : Int32) (μ : sm_Mem) : Prop := w_V_bodyOf (fun r4 μ3 => if 40 ≤ (μ3 49 1) then w_V_speak_87 F K p0 p1 p2 p3 x5 r4 μ3 else (vp_in (μ3 49 1) 40 ∧ ∀ μ11 : sm_Mem, μ11 = sm_st μ3 50 ((μ3 49 1).toNatClampNeg) r4 → ∀ μ12 : sm_Mem, μ12 = sm_st μ11 49 1 ((μ11 49 1) + 1) → w_V_speak_87 F K p0 p1 p2 p3 x5 r4 μ12)) x5 p1 μ
def w_V_speak_15 (F : Nat → (Int32 → sm_Mem → Prop) → Int32 → Int32 → Int32 → Int32 → sm_Mem → Prop) (K : Int32 → sm_Mem → Prop) (p0 : Int32) (p1 : Int32) (p2 : Int32) (p3 : Int32) (x5 : Int32) (x6 : Int32) (μ : sm_Mem) : Prop := sm_lp2 (fun J15 x5 x6 μ => if 7 ≤ x6 then w_V_speak_49 F K p0 p1 p2 p3 x5 μ else (if x5 ≤ 0 then w_V_speak_49 F K p0 p1 p2 p3 x5 μ else w_V_bodyOf (fun r15 μ14 => if r15 = 0 then w_K_above (fun r18 μ17 => J15 r18 (x6 + 1) μ17) x5 μ14 else w_V_speak_49 F K p0 p1 p2 p3 x5 μ14) x5 p1 μ)) x5 x6 μ
def w_V_speak (F : Nat → (Int32 → sm_Mem → Prop) → Int32 → Int32 → Int32 → Int32 → sm_Mem → Prop) (K : Int32 → sm_Mem → Prop) (p0 : Int32) (p1 : Int32) (p2 : Int32) (p3 : Int32) (μ : sm_Mem) : Prop := if p3 ≤ 30 then w_V_speak_15 F K p0 p1 p2 p3 p0 0 μ else K 0 μ
set_option maxHeartbeats 4000000 in
set_option maxRecDepth 100000 in
theorem P_V_speak (l : Launch) {F : Nat → (Int32 → sm_Mem → Prop) → Int32 → Int32 → Int32 → Int32 → sm_Mem → Prop} {n : Nat} (hF1 : ∀ {K : Int32 → sm_Mem → Prop} {p0 : Int32} {p1 : Int32} {p2 : Int32} {p3 : Int32} {μ : sm_Mem}, F 1 K p0 p1 p2 p3 μ → sm_MI l ⟨"SnowMoney$Voices", "work", "(IIII)I"⟩ prog_8_method_5_code 5 (some .int) { frames := n + 4, cells := 0, slots := 0, locals := n * 40 + 120 } [sm_R 49, sm_I p0, sm_I p1, sm_I p2, sm_I p3] μ K) {K : Int32 → sm_Mem → Prop} {p0 : Int32} {p1 : Int32} {p2 : Int32} {p3 : Int32} {μ : sm_Mem} (h : w_V_speak F K p0 p1 p2 p3 μ) : sm_MI l ⟨"SnowMoney$Voices", "speak", "(IIII)I"⟩ prog_8_method_4_code 7 (some .int) { frames := n + 1 + 4, cells := 0, slots := 0, locals := (n + 1) * 40 + 120 } [sm_R 49, sm_I p0, sm_I p1, sm_I p2, sm_I p3] μ K := by
  refine sm_ofI (by decide +kernel) (fun _ => Nat.le_of_ble_eq_true rfl) ?_
  intro p e s m args below meth c A Q G C hR
  have B87 : ∀ (x5 : Int32) (x6 : Int32) (μ : sm_Mem), w_V_speak_87 F K p0 p1 p2 p3 x5 x6 μ → sm_W p l e { frames := n + 1 + 4, cells := 0, slots := 0, locals := (n + 1) * 40 + 120 } s m args below meth c A Q G 7 0 0 87 [] [(0, sm_R 49), (3, sm_I p2), (4, sm_I p3), (5, sm_I x5), (6, sm_I x6)] μ := by
    intro x5 x6 μ h
    refine sr_aload_n C 0 rfl rfl d_V_speak_87 ?_
    refine sr_iload C 4 rfl d_V_speak_88 ?_
    refine sr_iload C 3 rfl d_V_speak_90 ?_
    refine sr_callSI C [sm_I _] (P_K_above l h) ok_86 rfl rfl rfl ⟨by dsimp only; omega, by dsimp only; omega⟩ (Nat.le_of_ble_eq_true rfl) ⟨Nat.zero_le _, Nat.zero_le _⟩ d_V_speak_92 (fun r7 μ6 h => ?_)
    refine sr_iload_n C 1 rfl rfl d_V_speak_95 ?_
    refine sr_iload C 2 rfl d_V_speak_96 ?_
    refine sr_iconst C (v := 1) d_V_speak_98 (by decide) ?_
    refine sr_iadd C d_V_speak_99 ?_
    refine sr_callVI C [sm_I _, sm_I _, sm_I _, sm_I _] (hF1 h) ok_87 sm_l49 rfl rfl rfl rfl ⟨by dsimp only; omega, by dsimp only; omega⟩ (Nat.le_of_ble_eq_true rfl) ⟨Nat.zero_le _, Nat.zero_le _⟩ d_V_speak_100 (fun r9 μ8 h => ?_)
    exact hR _ _ _ _ d_V_speak_103 rfl h
  have B49 : ∀ (x5 : Int32) (μ : sm_Mem), w_V_speak_49 F K p0 p1 p2 p3 x5 μ → sm_W p l e { frames := n + 1 + 4, cells := 0, slots := 0, locals := (n + 1) * 40 + 120 } s m args below meth c A Q G 7 0 0 49 [] [(0, sm_R 49), (2, sm_I p1), (3, sm_I p2), (4, sm_I p3), (5, sm_I x5)] μ := by
    intro x5 μ h
    refine sr_iload C 4 rfl d_V_speak_49 ?_
    refine sr_iload_n C 1 rfl rfl d_V_speak_51 ?_
    refine sr_callSI C [sm_I _, sm_I _] (P_V_bodyOf l h) ok_85 rfl rfl rfl ⟨by dsimp only; omega, by dsimp only; omega⟩ (Nat.le_of_ble_eq_true rfl) ⟨Nat.zero_le _, Nat.zero_le _⟩ d_V_speak_52 (fun r4 μ3 h => ?_)
    refine sr_istore C (by decide) d_V_speak_55 ?_
    refine sr_aload_n C 1 rfl rfl d_V_speak_57 ?_
    refine sr_getI C sm_F5 1 q_371 sm_l49 rfl (by decide) d_V_speak_58 ?_
    refine sr_bipush C (v := 40) d_V_speak_61 (by decide) ?_
    refine sr_icmp_ge C (tgt := 87) d_V_speak_63 (by decide) (fun c5 => ?_) (fun c5 => ?_)
    · replace h := Eq.mp (if_pos c5) h
      refine sr_mask C [1, 3, 4, 5, 0] rfl ?_
      exact B87 _ _ _ h
    · replace h := Eq.mp (if_neg c5) h
      refine sr_aload_n C 1 rfl rfl d_V_speak_66 ?_
      refine sr_getR C sm_F5 0 q_384 sm_l49 (r := 50) rfl (by decide) d_V_speak_67 ?_
      refine sr_aload_n C 1 rfl rfl d_V_speak_70 ?_
      refine sr_getI C sm_F5 1 q_371 sm_l49 rfl (by decide) d_V_speak_71 ?_
      refine sr_iload C 0 rfl d_V_speak_74 ?_
      obtain ⟨g10, h⟩ := h
      refine sr_iast C sm_l50 g10 d_V_speak_76 ?_
      replace h := h _ rfl
      refine sr_aload_n C 1 rfl rfl d_V_speak_77 ?_
      refine sr_dup C rfl d_V_speak_78 ?_
      refine sr_getI C sm_F5 1 q_371 sm_l49 rfl (by decide) d_V_speak_79 ?_
      refine sr_iconst C (v := 1) d_V_speak_82 (by decide) ?_
      refine sr_iadd C d_V_speak_83 ?_
      refine sr_putI C sm_F5 1 q_371 sm_l49 rfl rfl (by decide) rfl d_V_speak_84 ?_
      replace h := h _ rfl
      refine sr_mask C [1, 3, 4, 5, 0] rfl ?_
      exact B87 _ _ _ h
  have B15 : ∀ (x5 : Int32) (x6 : Int32) (μ : sm_Mem), w_V_speak_15 F K p0 p1 p2 p3 x5 x6 μ → sm_W p l e { frames := n + 1 + 4, cells := 0, slots := 0, locals := (n + 1) * 40 + 120 } s m args below meth c A Q G 7 0 0 15 [] [(0, sm_R 49), (2, sm_I p1), (3, sm_I p2), (4, sm_I p3), (5, sm_I x5), (6, sm_I x6)] μ := by
    intro x5 x6 μ h
    refine sm_lp2_sound (P := fun x5 x6 μ => sm_W p l e { frames := n + 1 + 4, cells := 0, slots := 0, locals := (n + 1) * 40 + 120 } s m args below meth c A Q G 7 0 0 15 [] [(0, sm_R 49), (2, sm_I p1), (3, sm_I p2), (4, sm_I p3), (5, sm_I x5), (6, sm_I x6)] μ) (fun J15 x5 x6 μ hJ15 h => ?_) h
    refine sr_iload C 5 rfl d_V_speak_15 ?_
    refine sr_bipush C (v := 7) d_V_speak_17 (by decide) ?_
    refine sr_icmp_ge C (tgt := 49) d_V_speak_19 (by decide) (fun c2 => ?_) (fun c2 => ?_)
    · replace h := Eq.mp (if_pos c2) h
      refine sr_mask C [0, 1, 2, 3, 4] rfl ?_
      exact B49 _ _ h
    · replace h := Eq.mp (if_neg c2) h
      refine sr_iload C 4 rfl d_V_speak_22 ?_
      refine sr_if_le C (tgt := 49) d_V_speak_24 (by decide) (fun c13 => ?_) (fun c13 => ?_)
      · replace h := Eq.mp (if_pos c13) h
        refine sr_mask C [0, 1, 2, 3, 4] rfl ?_
        exact B49 _ _ h
      · replace h := Eq.mp (if_neg c13) h
        refine sr_iload C 4 rfl d_V_speak_27 ?_
        refine sr_iload_n C 1 rfl rfl d_V_speak_29 ?_
        refine sr_callSI C [sm_I _, sm_I _] (P_V_bodyOf l h) ok_85 rfl rfl rfl ⟨by dsimp only; omega, by dsimp only; omega⟩ (Nat.le_of_ble_eq_true rfl) ⟨Nat.zero_le _, Nat.zero_le _⟩ d_V_speak_30 (fun r15 μ14 h => ?_)
        refine sr_if_ne C (tgt := 49) d_V_speak_33 (by decide) (fun c16 => ?_) (fun c16 => ?_)
        · replace h := Eq.mp (if_neg c16) h
          refine sr_mask C [0, 1, 2, 3, 4] rfl ?_
          exact B49 _ _ h
        · replace h := Eq.mp (if_pos c16) h
          refine sr_iload C 4 rfl d_V_speak_36 ?_
          refine sr_callSI C [sm_I _] (P_K_above l h) ok_86 rfl rfl rfl ⟨by dsimp only; omega, by dsimp only; omega⟩ (Nat.le_of_ble_eq_true rfl) ⟨Nat.zero_le _, Nat.zero_le _⟩ d_V_speak_38 (fun r18 μ17 h => ?_)
          refine sr_istore C (by decide) d_V_speak_41 ?_
          refine sr_iinc C 5 rfl (by decide) d_V_speak_43 rfl ?_
          refine sr_goto C (tgt := 15) (by decide) d_V_speak_46 ?_
          refine sr_mask C [2, 3, 4, 5, 1, 0] rfl ?_
          exact hJ15 _ _ _ h
  refine sr_iload C 4 rfl d_V_speak_0 ?_
  refine sr_bipush C (v := 30) d_V_speak_2 (by decide) ?_
  refine sr_icmp_le C (tgt := 9) d_V_speak_4 (by decide) (fun c1 => ?_) (fun c1 => ?_)
  · replace h := Eq.mp (if_pos c1) h
    refine sr_iload_n C 1 rfl rfl d_V_speak_9 ?_
    refine sr_istore C (by decide) d_V_speak_10 ?_
    refine sr_iconst C (v := 0) d_V_speak_12 (by decide) ?_
    refine sr_istore C (by decide) d_V_speak_13 ?_
    refine sr_mask C [2, 4, 5, 6, 1, 0] rfl ?_
    exact B15 _ _ _ h
  · replace h := Eq.mp (if_neg c1) h
    refine sr_iconst C (v := 0) d_V_speak_7 (by decide) ?_
    exact hR _ _ _ _ d_V_speak_8 rfl h
theorem d_V_work_0 : decode prog_8_method_5_code 0 = .ok (.iload_n 1, 1) := by decide +kernel
theorem d_V_work_1 : decode prog_8_method_5_code 1 = .ok (.lookupswitch 273 #[(10, 99), (11, 106), (12, 121), (13, 128), (20, 154), (30, 166), (40, 189), (50, 200), (60, 223), (70, 235), (71, 250)], 99) := by decide +kernel
theorem d_V_work_100 : decode prog_8_method_5_code 100 = .ok (.iload_n 3, 1) := by decide +kernel
theorem d_V_work_101 : decode prog_8_method_5_code 101 = .ok (.aload_n 0, 1) := by decide +kernel
theorem d_V_work_102 : decode prog_8_method_5_code 102 = .ok (.getfield 17, 3) := by decide +kernel
theorem d_V_work_105 : decode prog_8_method_5_code 105 = .ok (.iadd, 1) := by decide +kernel
theorem d_V_work_106 : decode prog_8_method_5_code 106 = .ok (.ireturn, 1) := by decide +kernel
theorem d_V_work_107 : decode prog_8_method_5_code 107 = .ok (.aload_n 0, 1) := by decide +kernel
theorem d_V_work_108 : decode prog_8_method_5_code 108 = .ok (.aload_n 0, 1) := by decide +kernel
theorem d_V_work_109 : decode prog_8_method_5_code 109 = .ok (.getfield 13, 3) := by decide +kernel
theorem d_V_work_112 : decode prog_8_method_5_code 112 = .ok (.iconst 0, 1) := by decide +kernel
theorem d_V_work_113 : decode prog_8_method_5_code 113 = .ok (.iload_n 3, 1) := by decide +kernel
theorem d_V_work_114 : decode prog_8_method_5_code 114 = .ok (.iload 4, 2) := by decide +kernel
theorem d_V_work_116 : decode prog_8_method_5_code 116 = .ok (.invokevirtual 26, 3) := by decide +kernel
theorem d_V_work_119 : decode prog_8_method_5_code 119 = .ok (.iconst 2, 1) := by decide +kernel
theorem d_V_work_120 : decode prog_8_method_5_code 120 = .ok (.imul, 1) := by decide +kernel
theorem d_V_work_121 : decode prog_8_method_5_code 121 = .ok (.ireturn, 1) := by decide +kernel
theorem d_V_work_122 : decode prog_8_method_5_code 122 = .ok (.iload_n 3, 1) := by decide +kernel
theorem d_V_work_123 : decode prog_8_method_5_code 123 = .ok (.aload_n 0, 1) := by decide +kernel
theorem d_V_work_124 : decode prog_8_method_5_code 124 = .ok (.getfield 20, 3) := by decide +kernel
theorem d_V_work_127 : decode prog_8_method_5_code 127 = .ok (.isub, 1) := by decide +kernel
theorem d_V_work_128 : decode prog_8_method_5_code 128 = .ok (.ireturn, 1) := by decide +kernel
theorem d_V_work_129 : decode prog_8_method_5_code 129 = .ok (.aload_n 0, 1) := by decide +kernel
theorem d_V_work_130 : decode prog_8_method_5_code 130 = .ok (.aload_n 0, 1) := by decide +kernel
theorem d_V_work_131 : decode prog_8_method_5_code 131 = .ok (.getfield 13, 3) := by decide +kernel
theorem d_V_work_134 : decode prog_8_method_5_code 134 = .ok (.iconst 1, 1) := by decide +kernel
theorem d_V_work_135 : decode prog_8_method_5_code 135 = .ok (.iload_n 3, 1) := by decide +kernel
theorem d_V_work_136 : decode prog_8_method_5_code 136 = .ok (.iload 4, 2) := by decide +kernel
theorem d_V_work_138 : decode prog_8_method_5_code 138 = .ok (.invokevirtual 26, 3) := by decide +kernel
theorem d_V_work_141 : decode prog_8_method_5_code 141 = .ok (.aload_n 0, 1) := by decide +kernel
theorem d_V_work_142 : decode prog_8_method_5_code 142 = .ok (.aload_n 0, 1) := by decide +kernel
theorem d_V_work_143 : decode prog_8_method_5_code 143 = .ok (.getfield 13, 3) := by decide +kernel
theorem d_V_work_146 : decode prog_8_method_5_code 146 = .ok (.iconst 2, 1) := by decide +kernel
theorem d_V_work_147 : decode prog_8_method_5_code 147 = .ok (.iload_n 3, 1) := by decide +kernel
theorem d_V_work_148 : decode prog_8_method_5_code 148 = .ok (.iload 4, 2) := by decide +kernel
theorem d_V_work_150 : decode prog_8_method_5_code 150 = .ok (.invokevirtual 26, 3) := by decide +kernel
theorem d_V_work_153 : decode prog_8_method_5_code 153 = .ok (.ixor, 1) := by decide +kernel
theorem d_V_work_154 : decode prog_8_method_5_code 154 = .ok (.ireturn, 1) := by decide +kernel
theorem d_V_work_155 : decode prog_8_method_5_code 155 = .ok (.aload_n 0, 1) := by decide +kernel
theorem d_V_work_156 : decode prog_8_method_5_code 156 = .ok (.iload_n 2, 1) := by decide +kernel
theorem d_V_work_157 : decode prog_8_method_5_code 157 = .ok (.iconst 0, 1) := by decide +kernel
theorem d_V_work_158 : decode prog_8_method_5_code 158 = .ok (.iload_n 3, 1) := by decide +kernel
theorem d_V_work_159 : decode prog_8_method_5_code 159 = .ok (.iload 4, 2) := by decide +kernel
theorem d_V_work_161 : decode prog_8_method_5_code 161 = .ok (.invokevirtual 26, 3) := by decide +kernel
theorem d_V_work_164 : decode prog_8_method_5_code 164 = .ok (.iconst 3, 1) := by decide +kernel
theorem d_V_work_165 : decode prog_8_method_5_code 165 = .ok (.imul, 1) := by decide +kernel
theorem d_V_work_166 : decode prog_8_method_5_code 166 = .ok (.ireturn, 1) := by decide +kernel
theorem d_V_work_167 : decode prog_8_method_5_code 167 = .ok (.aload_n 0, 1) := by decide +kernel
theorem d_V_work_168 : decode prog_8_method_5_code 168 = .ok (.iload_n 2, 1) := by decide +kernel
theorem d_V_work_169 : decode prog_8_method_5_code 169 = .ok (.iconst 1, 1) := by decide +kernel
theorem d_V_work_170 : decode prog_8_method_5_code 170 = .ok (.iload_n 3, 1) := by decide +kernel
theorem d_V_work_171 : decode prog_8_method_5_code 171 = .ok (.iload 4, 2) := by decide +kernel
theorem d_V_work_173 : decode prog_8_method_5_code 173 = .ok (.invokevirtual 26, 3) := by decide +kernel
theorem d_V_work_176 : decode prog_8_method_5_code 176 = .ok (.aload_n 0, 1) := by decide +kernel
theorem d_V_work_177 : decode prog_8_method_5_code 177 = .ok (.aload_n 0, 1) := by decide +kernel
theorem d_V_work_178 : decode prog_8_method_5_code 178 = .ok (.getfield 13, 3) := by decide +kernel
theorem d_V_work_181 : decode prog_8_method_5_code 181 = .ok (.iconst 2, 1) := by decide +kernel
theorem d_V_work_182 : decode prog_8_method_5_code 182 = .ok (.iconst 1, 1) := by decide +kernel
theorem d_V_work_183 : decode prog_8_method_5_code 183 = .ok (.iload 4, 2) := by decide +kernel
theorem d_V_work_185 : decode prog_8_method_5_code 185 = .ok (.invokevirtual 26, 3) := by decide +kernel
theorem d_V_work_188 : decode prog_8_method_5_code 188 = .ok (.isub, 1) := by decide +kernel
theorem d_V_work_189 : decode prog_8_method_5_code 189 = .ok (.ireturn, 1) := by decide +kernel
theorem d_V_work_190 : decode prog_8_method_5_code 190 = .ok (.aload_n 0, 1) := by decide +kernel
theorem d_V_work_191 : decode prog_8_method_5_code 191 = .ok (.iload_n 2, 1) := by decide +kernel
theorem d_V_work_192 : decode prog_8_method_5_code 192 = .ok (.iconst 2, 1) := by decide +kernel
theorem d_V_work_193 : decode prog_8_method_5_code 193 = .ok (.iload_n 3, 1) := by decide +kernel
theorem d_V_work_194 : decode prog_8_method_5_code 194 = .ok (.iload 4, 2) := by decide +kernel
theorem d_V_work_196 : decode prog_8_method_5_code 196 = .ok (.invokevirtual 26, 3) := by decide +kernel
theorem d_V_work_199 : decode prog_8_method_5_code 199 = .ok (.ineg, 1) := by decide +kernel
theorem d_V_work_200 : decode prog_8_method_5_code 200 = .ok (.ireturn, 1) := by decide +kernel
theorem d_V_work_201 : decode prog_8_method_5_code 201 = .ok (.aload_n 0, 1) := by decide +kernel
theorem d_V_work_202 : decode prog_8_method_5_code 202 = .ok (.iload_n 2, 1) := by decide +kernel
theorem d_V_work_203 : decode prog_8_method_5_code 203 = .ok (.iconst 3, 1) := by decide +kernel
theorem d_V_work_204 : decode prog_8_method_5_code 204 = .ok (.iload_n 3, 1) := by decide +kernel
theorem d_V_work_205 : decode prog_8_method_5_code 205 = .ok (.iload 4, 2) := by decide +kernel
theorem d_V_work_207 : decode prog_8_method_5_code 207 = .ok (.invokevirtual 26, 3) := by decide +kernel
theorem d_V_work_210 : decode prog_8_method_5_code 210 = .ok (.aload_n 0, 1) := by decide +kernel
theorem d_V_work_211 : decode prog_8_method_5_code 211 = .ok (.aload_n 0, 1) := by decide +kernel
theorem d_V_work_212 : decode prog_8_method_5_code 212 = .ok (.getfield 13, 3) := by decide +kernel
theorem d_V_work_215 : decode prog_8_method_5_code 215 = .ok (.iconst 0, 1) := by decide +kernel
theorem d_V_work_216 : decode prog_8_method_5_code 216 = .ok (.iconst 2, 1) := by decide +kernel
theorem d_V_work_217 : decode prog_8_method_5_code 217 = .ok (.iload 4, 2) := by decide +kernel
theorem d_V_work_219 : decode prog_8_method_5_code 219 = .ok (.invokevirtual 26, 3) := by decide +kernel
theorem d_V_work_222 : decode prog_8_method_5_code 222 = .ok (.isub, 1) := by decide +kernel
theorem d_V_work_223 : decode prog_8_method_5_code 223 = .ok (.ireturn, 1) := by decide +kernel
theorem d_V_work_224 : decode prog_8_method_5_code 224 = .ok (.aload_n 0, 1) := by decide +kernel
theorem d_V_work_225 : decode prog_8_method_5_code 225 = .ok (.iload_n 2, 1) := by decide +kernel
theorem d_V_work_226 : decode prog_8_method_5_code 226 = .ok (.iconst 1, 1) := by decide +kernel
theorem d_V_work_227 : decode prog_8_method_5_code 227 = .ok (.iload_n 3, 1) := by decide +kernel
theorem d_V_work_228 : decode prog_8_method_5_code 228 = .ok (.iconst 1, 1) := by decide +kernel
theorem d_V_work_229 : decode prog_8_method_5_code 229 = .ok (.iadd, 1) := by decide +kernel
theorem d_V_work_230 : decode prog_8_method_5_code 230 = .ok (.iload 4, 2) := by decide +kernel
theorem d_V_work_232 : decode prog_8_method_5_code 232 = .ok (.invokevirtual 26, 3) := by decide +kernel
theorem d_V_work_235 : decode prog_8_method_5_code 235 = .ok (.ireturn, 1) := by decide +kernel
theorem d_V_work_236 : decode prog_8_method_5_code 236 = .ok (.aload_n 0, 1) := by decide +kernel
theorem d_V_work_237 : decode prog_8_method_5_code 237 = .ok (.iload_n 2, 1) := by decide +kernel
theorem d_V_work_238 : decode prog_8_method_5_code 238 = .ok (.iconst 2, 1) := by decide +kernel
theorem d_V_work_239 : decode prog_8_method_5_code 239 = .ok (.iload_n 3, 1) := by decide +kernel
theorem d_V_work_240 : decode prog_8_method_5_code 240 = .ok (.iload 4, 2) := by decide +kernel
theorem d_V_work_242 : decode prog_8_method_5_code 242 = .ok (.invokevirtual 26, 3) := by decide +kernel
theorem d_V_work_245 : decode prog_8_method_5_code 245 = .ok (.aload_n 0, 1) := by decide +kernel
theorem d_V_work_246 : decode prog_8_method_5_code 246 = .ok (.getfield 17, 3) := by decide +kernel
theorem d_V_work_249 : decode prog_8_method_5_code 249 = .ok (.ixor, 1) := by decide +kernel
theorem d_V_work_250 : decode prog_8_method_5_code 250 = .ok (.ireturn, 1) := by decide +kernel
theorem d_V_work_251 : decode prog_8_method_5_code 251 = .ok (.aload_n 0, 1) := by decide +kernel
theorem d_V_work_252 : decode prog_8_method_5_code 252 = .ok (.aload_n 0, 1) := by decide +kernel
theorem d_V_work_253 : decode prog_8_method_5_code 253 = .ok (.getfield 13, 3) := by decide +kernel
theorem d_V_work_256 : decode prog_8_method_5_code 256 = .ok (.iconst 1, 1) := by decide +kernel
theorem d_V_work_257 : decode prog_8_method_5_code 257 = .ok (.iload_n 3, 1) := by decide +kernel
theorem d_V_work_258 : decode prog_8_method_5_code 258 = .ok (.iload 4, 2) := by decide +kernel
theorem d_V_work_260 : decode prog_8_method_5_code 260 = .ok (.invokevirtual 26, 3) := by decide +kernel
theorem d_V_work_263 : decode prog_8_method_5_code 263 = .ok (.aload_n 0, 1) := by decide +kernel
theorem d_V_work_264 : decode prog_8_method_5_code 264 = .ok (.iload_n 2, 1) := by decide +kernel
theorem d_V_work_265 : decode prog_8_method_5_code 265 = .ok (.iconst 3, 1) := by decide +kernel
theorem d_V_work_266 : decode prog_8_method_5_code 266 = .ok (.iload_n 3, 1) := by decide +kernel
theorem d_V_work_267 : decode prog_8_method_5_code 267 = .ok (.iload 4, 2) := by decide +kernel
theorem d_V_work_269 : decode prog_8_method_5_code 269 = .ok (.invokevirtual 26, 3) := by decide +kernel
theorem d_V_work_272 : decode prog_8_method_5_code 272 = .ok (.isub, 1) := by decide +kernel
theorem d_V_work_273 : decode prog_8_method_5_code 273 = .ok (.ireturn, 1) := by decide +kernel
theorem d_V_work_274 : decode prog_8_method_5_code 274 = .ok (.iconst 0, 1) := by decide +kernel
theorem d_V_work_275 : decode prog_8_method_5_code 275 = .ok (.ireturn, 1) := by decide +kernel
def w_V_work (F : Nat → (Int32 → sm_Mem → Prop) → Int32 → Int32 → Int32 → Int32 → sm_Mem → Prop) (K : Int32 → sm_Mem → Prop) (p0 : Int32) (p1 : Int32) (p2 : Int32) (p3 : Int32) (μ : sm_Mem) : Prop := ∀ v1 : Int32, v1 = p0 → if v1 = 10 then K (p2 + (μ 49 3)) μ else (if v1 = 11 then F 0 (fun r5 μ4 => K (r5 * 2) μ4) (μ 49 2) 0 p2 p3 μ else (if v1 = 12 then K (p2 - (μ 49 4)) μ else (if v1 = 13 then F 0 (fun r9 μ8 => F 0 (fun r11 μ10 => K (r9 ^^^ r11) μ10) (μ8 49 2) 2 p2 p3 μ8) (μ 49 2) 1 p2 p3 μ else (if v1 = 20 then F 0 (fun r14 μ13 => K (r14 * 3) μ13) p1 0 p2 p3 μ else (if v1 = 30 then F 0 (fun r17 μ16 => F 0 (fun r19 μ18 => K (r17 - r19) μ18) (μ16 49 2) 2 1 p3 μ16) p1 1 p2 p3 μ else (if v1 = 40 then F 0 (fun r22 μ21 => K (-r22) μ21) p1 2 p2 p3 μ else (if v1 = 50 then F 0 (fun r25 μ24 => F 0 (fun r27 μ26 => K (r25 - r27) μ26) (μ24 49 2) 0 2 p3 μ24) p1 3 p2 p3 μ else (if v1 = 60 then F 0 (fun r30 μ29 => K r30 μ29) p1 1 (p2 + 1) p3 μ else (if v1 = 70 then F 0 (fun r33 μ32 => K (r33 ^^^ (μ32 49 3)) μ32) p1 2 p2 p3 μ else (if v1 = 71 then F 0 (fun r36 μ35 => F 0 (fun r38 μ37 => K (r36 - r38) μ37) p1 3 p2 p3 μ35) (μ 49 2) 1 p2 p3 μ else K 0 μ))))))))))
set_option maxHeartbeats 4000000 in
set_option maxRecDepth 100000 in
theorem P_V_work (l : Launch) {F : Nat → (Int32 → sm_Mem → Prop) → Int32 → Int32 → Int32 → Int32 → sm_Mem → Prop} {n : Nat} (hF0 : ∀ {K : Int32 → sm_Mem → Prop} {p0 : Int32} {p1 : Int32} {p2 : Int32} {p3 : Int32} {μ : sm_Mem}, F 0 K p0 p1 p2 p3 μ → sm_MI l ⟨"SnowMoney$Voices", "speak", "(IIII)I"⟩ prog_8_method_4_code 7 (some .int) { frames := n + 4, cells := 0, slots := 0, locals := n * 40 + 120 } [sm_R 49, sm_I p0, sm_I p1, sm_I p2, sm_I p3] μ K) {K : Int32 → sm_Mem → Prop} {p0 : Int32} {p1 : Int32} {p2 : Int32} {p3 : Int32} {μ : sm_Mem} (h : w_V_work F K p0 p1 p2 p3 μ) : sm_MI l ⟨"SnowMoney$Voices", "work", "(IIII)I"⟩ prog_8_method_5_code 5 (some .int) { frames := n + 1 + 4, cells := 0, slots := 0, locals := (n + 1) * 40 + 120 } [sm_R 49, sm_I p0, sm_I p1, sm_I p2, sm_I p3] μ K := by
  refine sm_ofI (by decide +kernel) (fun _ => Nat.le_of_ble_eq_true rfl) ?_
  intro p e s m args below meth c A Q G C hR
  refine sr_iload_n C 1 rfl rfl d_V_work_0 ?_
  refine sm_name (fun v1 ev1 => ?_)
  replace h := h v1 ev1
  by_cases c2 : v1 = 10
  · replace h := Eq.mp (if_pos c2) h
    refine sr_lookup C (tgt := 100) (off := 99) d_V_work_1 (by decide) (by rw [c2]; decide) (by decide) ?_
    refine sr_iload_n C 3 rfl rfl d_V_work_100 ?_
    refine sr_aload_n C 0 rfl rfl d_V_work_101 ?_
    refine sr_getI C sm_F5 3 q_369 sm_l49 rfl (by decide) d_V_work_102 ?_
    refine sr_iadd C d_V_work_105 ?_
    exact hR _ _ _ _ d_V_work_106 rfl h
  · replace h := Eq.mp (if_neg c2) h
    by_cases c3 : v1 = 11
    · replace h := Eq.mp (if_pos c3) h
      refine sr_lookup C (tgt := 107) (off := 106) d_V_work_1 (by decide) (by rw [c3]; decide) (by decide) ?_
      refine sr_aload_n C 0 rfl rfl d_V_work_107 ?_
      refine sr_aload_n C 0 rfl rfl d_V_work_108 ?_
      refine sr_getI C sm_F5 2 q_368 sm_l49 rfl (by decide) d_V_work_109 ?_
      refine sr_iconst C (v := 0) d_V_work_112 (by decide) ?_
      refine sr_iload_n C 3 rfl rfl d_V_work_113 ?_
      refine sr_iload C 4 rfl d_V_work_114 ?_
      refine sr_callVI C [sm_I _, sm_I _, sm_I _, sm_I _] (hF0 h) ok_84 sm_l49 rfl rfl rfl rfl ⟨by dsimp only; omega, by dsimp only; omega⟩ (Nat.le_of_ble_eq_true rfl) ⟨Nat.zero_le _, Nat.zero_le _⟩ d_V_work_116 (fun r5 μ4 h => ?_)
      refine sr_iconst C (v := 2) d_V_work_119 (by decide) ?_
      refine sr_imul C d_V_work_120 ?_
      exact hR _ _ _ _ d_V_work_121 rfl h
    · replace h := Eq.mp (if_neg c3) h
      by_cases c6 : v1 = 12
      · replace h := Eq.mp (if_pos c6) h
        refine sr_lookup C (tgt := 122) (off := 121) d_V_work_1 (by decide) (by rw [c6]; decide) (by decide) ?_
        refine sr_iload_n C 3 rfl rfl d_V_work_122 ?_
        refine sr_aload_n C 0 rfl rfl d_V_work_123 ?_
        refine sr_getI C sm_F5 4 q_370 sm_l49 rfl (by decide) d_V_work_124 ?_
        refine sr_isub C d_V_work_127 ?_
        exact hR _ _ _ _ d_V_work_128 rfl h
      · replace h := Eq.mp (if_neg c6) h
        by_cases c7 : v1 = 13
        · replace h := Eq.mp (if_pos c7) h
          refine sr_lookup C (tgt := 129) (off := 128) d_V_work_1 (by decide) (by rw [c7]; decide) (by decide) ?_
          refine sr_aload_n C 0 rfl rfl d_V_work_129 ?_
          refine sr_aload_n C 0 rfl rfl d_V_work_130 ?_
          refine sr_getI C sm_F5 2 q_368 sm_l49 rfl (by decide) d_V_work_131 ?_
          refine sr_iconst C (v := 1) d_V_work_134 (by decide) ?_
          refine sr_iload_n C 3 rfl rfl d_V_work_135 ?_
          refine sr_iload C 4 rfl d_V_work_136 ?_
          refine sr_callVI C [sm_I _, sm_I _, sm_I _, sm_I _] (hF0 h) ok_84 sm_l49 rfl rfl rfl rfl ⟨by dsimp only; omega, by dsimp only; omega⟩ (Nat.le_of_ble_eq_true rfl) ⟨Nat.zero_le _, Nat.zero_le _⟩ d_V_work_138 (fun r9 μ8 h => ?_)
          refine sr_aload_n C 0 rfl rfl d_V_work_141 ?_
          refine sr_aload_n C 0 rfl rfl d_V_work_142 ?_
          refine sr_getI C sm_F5 2 q_368 sm_l49 rfl (by decide) d_V_work_143 ?_
          refine sr_iconst C (v := 2) d_V_work_146 (by decide) ?_
          refine sr_iload_n C 3 rfl rfl d_V_work_147 ?_
          refine sr_iload C 4 rfl d_V_work_148 ?_
          refine sr_callVI C [sm_I _, sm_I _, sm_I _, sm_I _] (hF0 h) ok_84 sm_l49 rfl rfl rfl rfl ⟨by dsimp only; omega, by dsimp only; omega⟩ (Nat.le_of_ble_eq_true rfl) ⟨Nat.zero_le _, Nat.zero_le _⟩ d_V_work_150 (fun r11 μ10 h => ?_)
          refine sr_ixor C d_V_work_153 ?_
          exact hR _ _ _ _ d_V_work_154 rfl h
        · replace h := Eq.mp (if_neg c7) h
          by_cases c12 : v1 = 20
          · replace h := Eq.mp (if_pos c12) h
            refine sr_lookup C (tgt := 155) (off := 154) d_V_work_1 (by decide) (by rw [c12]; decide) (by decide) ?_
            refine sr_aload_n C 0 rfl rfl d_V_work_155 ?_
            refine sr_iload_n C 2 rfl rfl d_V_work_156 ?_
            refine sr_iconst C (v := 0) d_V_work_157 (by decide) ?_
            refine sr_iload_n C 3 rfl rfl d_V_work_158 ?_
            refine sr_iload C 4 rfl d_V_work_159 ?_
            refine sr_callVI C [sm_I _, sm_I _, sm_I _, sm_I _] (hF0 h) ok_84 sm_l49 rfl rfl rfl rfl ⟨by dsimp only; omega, by dsimp only; omega⟩ (Nat.le_of_ble_eq_true rfl) ⟨Nat.zero_le _, Nat.zero_le _⟩ d_V_work_161 (fun r14 μ13 h => ?_)
            refine sr_iconst C (v := 3) d_V_work_164 (by decide) ?_
            refine sr_imul C d_V_work_165 ?_
            exact hR _ _ _ _ d_V_work_166 rfl h
          · replace h := Eq.mp (if_neg c12) h
            by_cases c15 : v1 = 30
            · replace h := Eq.mp (if_pos c15) h
              refine sr_lookup C (tgt := 167) (off := 166) d_V_work_1 (by decide) (by rw [c15]; decide) (by decide) ?_
              refine sr_aload_n C 0 rfl rfl d_V_work_167 ?_
              refine sr_iload_n C 2 rfl rfl d_V_work_168 ?_
              refine sr_iconst C (v := 1) d_V_work_169 (by decide) ?_
              refine sr_iload_n C 3 rfl rfl d_V_work_170 ?_
              refine sr_iload C 4 rfl d_V_work_171 ?_
              refine sr_callVI C [sm_I _, sm_I _, sm_I _, sm_I _] (hF0 h) ok_84 sm_l49 rfl rfl rfl rfl ⟨by dsimp only; omega, by dsimp only; omega⟩ (Nat.le_of_ble_eq_true rfl) ⟨Nat.zero_le _, Nat.zero_le _⟩ d_V_work_173 (fun r17 μ16 h => ?_)
              refine sr_aload_n C 0 rfl rfl d_V_work_176 ?_
              refine sr_aload_n C 0 rfl rfl d_V_work_177 ?_
              refine sr_getI C sm_F5 2 q_368 sm_l49 rfl (by decide) d_V_work_178 ?_
              refine sr_iconst C (v := 2) d_V_work_181 (by decide) ?_
              refine sr_iconst C (v := 1) d_V_work_182 (by decide) ?_
              refine sr_iload C 4 rfl d_V_work_183 ?_
              refine sr_callVI C [sm_I _, sm_I _, sm_I _, sm_I _] (hF0 h) ok_84 sm_l49 rfl rfl rfl rfl ⟨by dsimp only; omega, by dsimp only; omega⟩ (Nat.le_of_ble_eq_true rfl) ⟨Nat.zero_le _, Nat.zero_le _⟩ d_V_work_185 (fun r19 μ18 h => ?_)
              refine sr_isub C d_V_work_188 ?_
              exact hR _ _ _ _ d_V_work_189 rfl h
            · replace h := Eq.mp (if_neg c15) h
              by_cases c20 : v1 = 40
              · replace h := Eq.mp (if_pos c20) h
                refine sr_lookup C (tgt := 190) (off := 189) d_V_work_1 (by decide) (by rw [c20]; decide) (by decide) ?_
                refine sr_aload_n C 0 rfl rfl d_V_work_190 ?_
                refine sr_iload_n C 2 rfl rfl d_V_work_191 ?_
                refine sr_iconst C (v := 2) d_V_work_192 (by decide) ?_
                refine sr_iload_n C 3 rfl rfl d_V_work_193 ?_
                refine sr_iload C 4 rfl d_V_work_194 ?_
                refine sr_callVI C [sm_I _, sm_I _, sm_I _, sm_I _] (hF0 h) ok_84 sm_l49 rfl rfl rfl rfl ⟨by dsimp only; omega, by dsimp only; omega⟩ (Nat.le_of_ble_eq_true rfl) ⟨Nat.zero_le _, Nat.zero_le _⟩ d_V_work_196 (fun r22 μ21 h => ?_)
                refine sr_ineg C d_V_work_199 ?_
                exact hR _ _ _ _ d_V_work_200 rfl h
              · replace h := Eq.mp (if_neg c20) h
                by_cases c23 : v1 = 50
                · replace h := Eq.mp (if_pos c23) h
                  refine sr_lookup C (tgt := 201) (off := 200) d_V_work_1 (by decide) (by rw [c23]; decide) (by decide) ?_
                  refine sr_aload_n C 0 rfl rfl d_V_work_201 ?_
                  refine sr_iload_n C 2 rfl rfl d_V_work_202 ?_
                  refine sr_iconst C (v := 3) d_V_work_203 (by decide) ?_
                  refine sr_iload_n C 3 rfl rfl d_V_work_204 ?_
                  refine sr_iload C 4 rfl d_V_work_205 ?_
                  refine sr_callVI C [sm_I _, sm_I _, sm_I _, sm_I _] (hF0 h) ok_84 sm_l49 rfl rfl rfl rfl ⟨by dsimp only; omega, by dsimp only; omega⟩ (Nat.le_of_ble_eq_true rfl) ⟨Nat.zero_le _, Nat.zero_le _⟩ d_V_work_207 (fun r25 μ24 h => ?_)
                  refine sr_aload_n C 0 rfl rfl d_V_work_210 ?_
                  refine sr_aload_n C 0 rfl rfl d_V_work_211 ?_
                  refine sr_getI C sm_F5 2 q_368 sm_l49 rfl (by decide) d_V_work_212 ?_
                  refine sr_iconst C (v := 0) d_V_work_215 (by decide) ?_
                  refine sr_iconst C (v := 2) d_V_work_216 (by decide) ?_
                  refine sr_iload C 4 rfl d_V_work_217 ?_
                  refine sr_callVI C [sm_I _, sm_I _, sm_I _, sm_I _] (hF0 h) ok_84 sm_l49 rfl rfl rfl rfl ⟨by dsimp only; omega, by dsimp only; omega⟩ (Nat.le_of_ble_eq_true rfl) ⟨Nat.zero_le _, Nat.zero_le _⟩ d_V_work_219 (fun r27 μ26 h => ?_)
                  refine sr_isub C d_V_work_222 ?_
                  exact hR _ _ _ _ d_V_work_223 rfl h
                · replace h := Eq.mp (if_neg c23) h
                  by_cases c28 : v1 = 60
                  · replace h := Eq.mp (if_pos c28) h
                    refine sr_lookup C (tgt := 224) (off := 223) d_V_work_1 (by decide) (by rw [c28]; decide) (by decide) ?_
                    refine sr_aload_n C 0 rfl rfl d_V_work_224 ?_
                    refine sr_iload_n C 2 rfl rfl d_V_work_225 ?_
                    refine sr_iconst C (v := 1) d_V_work_226 (by decide) ?_
                    refine sr_iload_n C 3 rfl rfl d_V_work_227 ?_
                    refine sr_iconst C (v := 1) d_V_work_228 (by decide) ?_
                    refine sr_iadd C d_V_work_229 ?_
                    refine sr_iload C 4 rfl d_V_work_230 ?_
                    refine sr_callVI C [sm_I _, sm_I _, sm_I _, sm_I _] (hF0 h) ok_84 sm_l49 rfl rfl rfl rfl ⟨by dsimp only; omega, by dsimp only; omega⟩ (Nat.le_of_ble_eq_true rfl) ⟨Nat.zero_le _, Nat.zero_le _⟩ d_V_work_232 (fun r30 μ29 h => ?_)
                    exact hR _ _ _ _ d_V_work_235 rfl h
                  · replace h := Eq.mp (if_neg c28) h
                    by_cases c31 : v1 = 70
                    · replace h := Eq.mp (if_pos c31) h
                      refine sr_lookup C (tgt := 236) (off := 235) d_V_work_1 (by decide) (by rw [c31]; decide) (by decide) ?_
                      refine sr_aload_n C 0 rfl rfl d_V_work_236 ?_
                      refine sr_iload_n C 2 rfl rfl d_V_work_237 ?_
                      refine sr_iconst C (v := 2) d_V_work_238 (by decide) ?_
                      refine sr_iload_n C 3 rfl rfl d_V_work_239 ?_
                      refine sr_iload C 4 rfl d_V_work_240 ?_
                      refine sr_callVI C [sm_I _, sm_I _, sm_I _, sm_I _] (hF0 h) ok_84 sm_l49 rfl rfl rfl rfl ⟨by dsimp only; omega, by dsimp only; omega⟩ (Nat.le_of_ble_eq_true rfl) ⟨Nat.zero_le _, Nat.zero_le _⟩ d_V_work_242 (fun r33 μ32 h => ?_)
                      refine sr_aload_n C 0 rfl rfl d_V_work_245 ?_
                      refine sr_getI C sm_F5 3 q_369 sm_l49 rfl (by decide) d_V_work_246 ?_
                      refine sr_ixor C d_V_work_249 ?_
                      exact hR _ _ _ _ d_V_work_250 rfl h
                    · replace h := Eq.mp (if_neg c31) h
                      by_cases c34 : v1 = 71
                      · replace h := Eq.mp (if_pos c34) h
                        refine sr_lookup C (tgt := 251) (off := 250) d_V_work_1 (by decide) (by rw [c34]; decide) (by decide) ?_
                        refine sr_aload_n C 0 rfl rfl d_V_work_251 ?_
                        refine sr_aload_n C 0 rfl rfl d_V_work_252 ?_
                        refine sr_getI C sm_F5 2 q_368 sm_l49 rfl (by decide) d_V_work_253 ?_
                        refine sr_iconst C (v := 1) d_V_work_256 (by decide) ?_
                        refine sr_iload_n C 3 rfl rfl d_V_work_257 ?_
                        refine sr_iload C 4 rfl d_V_work_258 ?_
                        refine sr_callVI C [sm_I _, sm_I _, sm_I _, sm_I _] (hF0 h) ok_84 sm_l49 rfl rfl rfl rfl ⟨by dsimp only; omega, by dsimp only; omega⟩ (Nat.le_of_ble_eq_true rfl) ⟨Nat.zero_le _, Nat.zero_le _⟩ d_V_work_260 (fun r36 μ35 h => ?_)
                        refine sr_aload_n C 0 rfl rfl d_V_work_263 ?_
                        refine sr_iload_n C 2 rfl rfl d_V_work_264 ?_
                        refine sr_iconst C (v := 3) d_V_work_265 (by decide) ?_
                        refine sr_iload_n C 3 rfl rfl d_V_work_266 ?_
                        refine sr_iload C 4 rfl d_V_work_267 ?_
                        refine sr_callVI C [sm_I _, sm_I _, sm_I _, sm_I _] (hF0 h) ok_84 sm_l49 rfl rfl rfl rfl ⟨by dsimp only; omega, by dsimp only; omega⟩ (Nat.le_of_ble_eq_true rfl) ⟨Nat.zero_le _, Nat.zero_le _⟩ d_V_work_269 (fun r38 μ37 h => ?_)
                        refine sr_isub C d_V_work_272 ?_
                        exact hR _ _ _ _ d_V_work_273 rfl h
                      · replace h := Eq.mp (if_neg c34) h
                        have i0 := sm_ne c2 (z := 10) (by decide)
                        have i1 := sm_ne c3 (z := 11) (by decide)
                        have i2 := sm_ne c6 (z := 12) (by decide)
                        have i3 := sm_ne c7 (z := 13) (by decide)
                        have i4 := sm_ne c12 (z := 20) (by decide)
                        have i5 := sm_ne c15 (z := 30) (by decide)
                        have i6 := sm_ne c20 (z := 40) (by decide)
                        have i7 := sm_ne c23 (z := 50) (by decide)
                        have i8 := sm_ne c28 (z := 60) (by decide)
                        have i9 := sm_ne c31 (z := 70) (by decide)
                        have i10 := sm_ne c34 (z := 71) (by decide)
                        refine sr_lookup C (tgt := 274) (off := 273) d_V_work_1 (by decide) (by simp [Op.lookupswitch.offset, Ne.symm i0, Ne.symm i1, Ne.symm i2, Ne.symm i3, Ne.symm i4, Ne.symm i5, Ne.symm i6, Ne.symm i7, Ne.symm i8, Ne.symm i9, Ne.symm i10]) (by decide) ?_
                        refine sr_iconst C (v := 0) d_V_work_274 (by decide) ?_
                        exact hR _ _ _ _ d_V_work_275 rfl h
def wg_V : Nat → Nat → (Int32 → sm_Mem → Prop) → Int32 → Int32 → Int32 → Int32 → sm_Mem → Prop
  | 0, _ => fun _ _ _ _ _ _ => False
  | n + 1, 0 => w_V_speak (wg_V n)
  | n + 1, 1 => w_V_work (wg_V n)
  | _ + 1, _ => fun _ _ _ _ _ _ => False
theorem PG_V (l : Launch) : ∀ n : Nat, (∀ {K : Int32 → sm_Mem → Prop} {p0 : Int32} {p1 : Int32} {p2 : Int32} {p3 : Int32} {μ : sm_Mem}, wg_V n 0 K p0 p1 p2 p3 μ → sm_MI l ⟨"SnowMoney$Voices", "speak", "(IIII)I"⟩ prog_8_method_4_code 7 (some .int) { frames := n + 4, cells := 0, slots := 0, locals := n * 40 + 120 } [sm_R 49, sm_I p0, sm_I p1, sm_I p2, sm_I p3] μ K) ∧ (∀ {K : Int32 → sm_Mem → Prop} {p0 : Int32} {p1 : Int32} {p2 : Int32} {p3 : Int32} {μ : sm_Mem}, wg_V n 1 K p0 p1 p2 p3 μ → sm_MI l ⟨"SnowMoney$Voices", "work", "(IIII)I"⟩ prog_8_method_5_code 5 (some .int) { frames := n + 4, cells := 0, slots := 0, locals := n * 40 + 120 } [sm_R 49, sm_I p0, sm_I p1, sm_I p2, sm_I p3] μ K)
  | 0 => ⟨fun h => h.elim, fun h => h.elim⟩
  | n + 1 => ⟨fun h => P_V_speak l (F := wg_V n) (n := n) (PG_V l n).2 h, fun h => P_V_work l (F := wg_V n) (n := n) (PG_V l n).1 h⟩
theorem PG_V_0 (l : Launch) (n : Nat) {K : Int32 → sm_Mem → Prop} {p0 : Int32} {p1 : Int32} {p2 : Int32} {p3 : Int32} {μ : sm_Mem} (h : wg_V n 0 K p0 p1 p2 p3 μ) : sm_MI l ⟨"SnowMoney$Voices", "speak", "(IIII)I"⟩ prog_8_method_4_code 7 (some .int) { frames := n + 4, cells := 0, slots := 0, locals := n * 40 + 120 } [sm_R 49, sm_I p0, sm_I p1, sm_I p2, sm_I p3] μ K := (PG_V l n).1 h
theorem PG_V_1 (l : Launch) (n : Nat) {K : Int32 → sm_Mem → Prop} {p0 : Int32} {p1 : Int32} {p2 : Int32} {p3 : Int32} {μ : sm_Mem} (h : wg_V n 1 K p0 p1 p2 p3 μ) : sm_MI l ⟨"SnowMoney$Voices", "work", "(IIII)I"⟩ prog_8_method_5_code 5 (some .int) { frames := n + 4, cells := 0, slots := 0, locals := n * 40 + 120 } [sm_R 49, sm_I p0, sm_I p1, sm_I p2, sm_I p3] μ K := (PG_V l n).2 h
theorem d_V_begin_0 : decode prog_8_method_2_code 0 = .ok (.aload_n 0, 1) := by decide +kernel
theorem d_V_begin_1 : decode prog_8_method_2_code 1 = .ok (.iload_n 1, 1) := by decide +kernel
theorem d_V_begin_2 : decode prog_8_method_2_code 2 = .ok (.putfield 13, 3) := by decide +kernel
theorem d_V_begin_5 : decode prog_8_method_2_code 5 = .ok (.aload_n 0, 1) := by decide +kernel
theorem d_V_begin_6 : decode prog_8_method_2_code 6 = .ok (.iload_n 2, 1) := by decide +kernel
theorem d_V_begin_7 : decode prog_8_method_2_code 7 = .ok (.putfield 17, 3) := by decide +kernel
theorem d_V_begin_10 : decode prog_8_method_2_code 10 = .ok (.aload_n 0, 1) := by decide +kernel
theorem d_V_begin_11 : decode prog_8_method_2_code 11 = .ok (.iload_n 3, 1) := by decide +kernel
theorem d_V_begin_12 : decode prog_8_method_2_code 12 = .ok (.putfield 20, 3) := by decide +kernel
theorem d_V_begin_15 : decode prog_8_method_2_code 15 = .ok (.aload_n 0, 1) := by decide +kernel
theorem d_V_begin_16 : decode prog_8_method_2_code 16 = .ok (.iconst 0, 1) := by decide +kernel
theorem d_V_begin_17 : decode prog_8_method_2_code 17 = .ok (.putfield 23, 3) := by decide +kernel
theorem d_V_begin_20 : decode prog_8_method_2_code 20 = .ok (.aload_n 0, 1) := by decide +kernel
theorem d_V_begin_21 : decode prog_8_method_2_code 21 = .ok (.aload_n 0, 1) := by decide +kernel
theorem d_V_begin_22 : decode prog_8_method_2_code 22 = .ok (.getfield 13, 3) := by decide +kernel
theorem d_V_begin_25 : decode prog_8_method_2_code 25 = .ok (.iload 4, 2) := by decide +kernel
theorem d_V_begin_27 : decode prog_8_method_2_code 27 = .ok (.iload 5, 2) := by decide +kernel
theorem d_V_begin_29 : decode prog_8_method_2_code 29 = .ok (.iconst 0, 1) := by decide +kernel
theorem d_V_begin_30 : decode prog_8_method_2_code 30 = .ok (.invokevirtual 26, 3) := by decide +kernel
theorem d_V_begin_33 : decode prog_8_method_2_code 33 = .ok (.ireturn, 1) := by decide +kernel
def w_V_begin (K : Int32 → sm_Mem → Prop) (p0 : Int32) (p1 : Int32) (p2 : Int32) (p3 : Int32) (p4 : Int32) (μ : sm_Mem) : Prop := ∀ μ1 : sm_Mem, μ1 = sm_st μ 49 2 p0 → ∀ μ2 : sm_Mem, μ2 = sm_st μ1 49 3 p1 → ∀ μ3 : sm_Mem, μ3 = sm_st μ2 49 4 p2 → ∀ μ4 : sm_Mem, μ4 = sm_st μ3 49 1 0 → wg_V 40 0 (fun r6 μ5 => K r6 μ5) (μ4 49 2) p3 p4 0 μ4
set_option maxHeartbeats 4000000 in
set_option maxRecDepth 100000 in
theorem P_V_begin (l : Launch) {K : Int32 → sm_Mem → Prop} {p0 : Int32} {p1 : Int32} {p2 : Int32} {p3 : Int32} {p4 : Int32} {μ : sm_Mem} (h : w_V_begin K p0 p1 p2 p3 p4 μ) : sm_MI l ⟨"SnowMoney$Voices", "begin", "(IIIII)I"⟩ prog_8_method_2_code 6 (some .int) { frames := 45, cells := 0, slots := 0, locals := 1746 } [sm_R 49, sm_I p0, sm_I p1, sm_I p2, sm_I p3, sm_I p4] μ K := by
  refine sm_ofI (by decide +kernel) (fun _ => Nat.le_of_ble_eq_true rfl) ?_
  intro p e s m args below meth c A Q G C hR
  refine sr_aload_n C 0 rfl rfl d_V_begin_0 ?_
  refine sr_iload_n C 1 rfl rfl d_V_begin_1 ?_
  refine sr_putI C sm_F5 2 q_368 sm_l49 rfl rfl (by decide) rfl d_V_begin_2 ?_
  replace h := h _ rfl
  refine sr_aload_n C 0 rfl rfl d_V_begin_5 ?_
  refine sr_iload_n C 2 rfl rfl d_V_begin_6 ?_
  refine sr_putI C sm_F5 3 q_369 sm_l49 rfl rfl (by decide) rfl d_V_begin_7 ?_
  replace h := h _ rfl
  refine sr_aload_n C 0 rfl rfl d_V_begin_10 ?_
  refine sr_iload_n C 3 rfl rfl d_V_begin_11 ?_
  refine sr_putI C sm_F5 4 q_370 sm_l49 rfl rfl (by decide) rfl d_V_begin_12 ?_
  replace h := h _ rfl
  refine sr_aload_n C 0 rfl rfl d_V_begin_15 ?_
  refine sr_iconst C (v := 0) d_V_begin_16 (by decide) ?_
  refine sr_putI C sm_F5 1 q_371 sm_l49 rfl rfl (by decide) rfl d_V_begin_17 ?_
  replace h := h _ rfl
  refine sr_aload_n C 0 rfl rfl d_V_begin_20 ?_
  refine sr_aload_n C 0 rfl rfl d_V_begin_21 ?_
  refine sr_getI C sm_F5 2 q_368 sm_l49 rfl (by decide) d_V_begin_22 ?_
  refine sr_iload C 4 rfl d_V_begin_25 ?_
  refine sr_iload C 5 rfl d_V_begin_27 ?_
  refine sr_iconst C (v := 0) d_V_begin_29 (by decide) ?_
  refine sr_callVI C [sm_I _, sm_I _, sm_I _, sm_I _] (PG_V_0 l 40 h) ok_84 sm_l49 rfl rfl rfl rfl ⟨Nat.le_of_ble_eq_true rfl, Nat.le_of_ble_eq_true rfl⟩ (Nat.le_of_ble_eq_true rfl) ⟨Nat.zero_le _, Nat.zero_le _⟩ d_V_begin_30 (fun r6 μ5 h => ?_)
  exact hR _ _ _ _ d_V_begin_33 rfl h
end
section
theorem d_R_next_0 : decode prog_5_method_3_code 0 = .ok (.aload_n 0, 1) := by decide +kernel
theorem d_R_next_1 : decode prog_5_method_3_code 1 = .ok (.getfield 47, 3) := by decide +kernel
theorem d_R_next_4 : decode prog_5_method_3_code 4 = .ok (.ifCond .lt 26, 3) := by decide +kernel
theorem d_R_next_7 : decode prog_5_method_3_code 7 = .ok (.aload_n 0, 1) := by decide +kernel
theorem d_R_next_8 : decode prog_5_method_3_code 8 = .ok (.getfield 47, 3) := by decide +kernel
theorem d_R_next_11 : decode prog_5_method_3_code 11 = .ok (.aload_n 0, 1) := by decide +kernel
theorem d_R_next_12 : decode prog_5_method_3_code 12 = .ok (.getfield 37, 3) := by decide +kernel
theorem d_R_next_15 : decode prog_5_method_3_code 15 = .ok (.if_icmp .ge 15, 3) := by decide +kernel
theorem d_R_next_18 : decode prog_5_method_3_code 18 = .ok (.aload_n 0, 1) := by decide +kernel
theorem d_R_next_19 : decode prog_5_method_3_code 19 = .ok (.getfield 18, 3) := by decide +kernel
theorem d_R_next_22 : decode prog_5_method_3_code 22 = .ok (.aload_n 0, 1) := by decide +kernel
theorem d_R_next_23 : decode prog_5_method_3_code 23 = .ok (.getfield 47, 3) := by decide +kernel
theorem d_R_next_26 : decode prog_5_method_3_code 26 = .ok (.iaload, 1) := by decide +kernel
theorem d_R_next_27 : decode prog_5_method_3_code 27 = .ok (.goto 4, 3) := by decide +kernel
theorem d_R_next_30 : decode prog_5_method_3_code 30 = .ok (.iconst (-1), 1) := by decide +kernel
theorem d_R_next_31 : decode prog_5_method_3_code 31 = .ok (.ireturn, 1) := by decide +kernel
def w_R_next (K : Int32 → sm_Mem → Prop) (μ : sm_Mem) : Prop := if (μ 43 3) < 0 then K (-1) μ else (if (μ 43 2) ≤ (μ 43 3) then K (-1) μ else (vp_in (μ 43 3) 50 ∧ K (μ 48 (μ 43 3).toNatClampNeg) μ))
set_option maxHeartbeats 4000000 in
set_option maxRecDepth 100000 in
theorem P_R_next (l : Launch) {K : Int32 → sm_Mem → Prop} {μ : sm_Mem} (h : w_R_next K μ) : sm_MI l ⟨"SnowMoney$Reader", "next", "()I"⟩ prog_5_method_3_code 1 (some .int) { frames := 0, cells := 0, slots := 0, locals := 0 } [sm_R 43] μ K := by
  refine sm_ofI (by decide +kernel) (fun _ => Nat.le_of_ble_eq_true rfl) ?_
  intro p e s m args below meth c A Q G C hR
  refine sr_aload_n C 0 rfl rfl d_R_next_0 ?_
  refine sr_getI C sm_F2 3 q_139 sm_l43 rfl (by decide) d_R_next_1 ?_
  refine sr_if_lt C (tgt := 30) d_R_next_4 (by decide) (fun c1 => ?_) (fun c1 => ?_)
  · replace h := Eq.mp (if_pos c1) h
    refine sr_iconst C (v := (-1)) d_R_next_30 (by decide) ?_
    exact hR _ _ _ _ d_R_next_31 rfl h
  · replace h := Eq.mp (if_neg c1) h
    refine sr_aload_n C 0 rfl rfl d_R_next_7 ?_
    refine sr_getI C sm_F2 3 q_139 sm_l43 rfl (by decide) d_R_next_8 ?_
    refine sr_aload_n C 0 rfl rfl d_R_next_11 ?_
    refine sr_getI C sm_F2 2 q_136 sm_l43 rfl (by decide) d_R_next_12 ?_
    refine sr_icmp_ge C (tgt := 30) d_R_next_15 (by decide) (fun c2 => ?_) (fun c2 => ?_)
    · replace h := Eq.mp (if_pos c2) h
      refine sr_iconst C (v := (-1)) d_R_next_30 (by decide) ?_
      exact hR _ _ _ _ d_R_next_31 rfl h
    · replace h := Eq.mp (if_neg c2) h
      refine sr_aload_n C 0 rfl rfl d_R_next_18 ?_
      refine sr_getR C sm_F2 1 q_133 sm_l43 (r := 48) rfl (by decide) d_R_next_19 ?_
      refine sr_aload_n C 0 rfl rfl d_R_next_22 ?_
      refine sr_getI C sm_F2 3 q_139 sm_l43 rfl (by decide) d_R_next_23 ?_
      obtain ⟨g3, h⟩ := h
      refine sr_iald C sm_l48 g3 d_R_next_26 ?_
      refine sr_goto C (tgt := 31) (by decide) d_R_next_27 ?_
      exact hR _ _ _ _ d_R_next_31 rfl h
theorem d_R_readOr_0 : decode prog_5_method_4_code 0 = .ok (.aload_n 0, 1) := by decide +kernel
theorem d_R_readOr_1 : decode prog_5_method_4_code 1 = .ok (.iload_n 1, 1) := by decide +kernel
theorem d_R_readOr_2 : decode prog_5_method_4_code 2 = .ok (.invokevirtual 57, 3) := by decide +kernel
theorem d_R_readOr_5 : decode prog_5_method_4_code 5 = .ok (.istore_n 2, 1) := by decide +kernel
theorem d_R_readOr_6 : decode prog_5_method_4_code 6 = .ok (.iconst 0, 1) := by decide +kernel
theorem d_R_readOr_7 : decode prog_5_method_4_code 7 = .ok (.istore_n 3, 1) := by decide +kernel
theorem d_R_readOr_8 : decode prog_5_method_4_code 8 = .ok (.iload_n 3, 1) := by decide +kernel
theorem d_R_readOr_9 : decode prog_5_method_4_code 9 = .ok (.aload_n 0, 1) := by decide +kernel
theorem d_R_readOr_10 : decode prog_5_method_4_code 10 = .ok (.getfield 37, 3) := by decide +kernel
theorem d_R_readOr_13 : decode prog_5_method_4_code 13 = .ok (.if_icmp .ge 48, 3) := by decide +kernel
theorem d_R_readOr_16 : decode prog_5_method_4_code 16 = .ok (.iload_n 2, 1) := by decide +kernel
theorem d_R_readOr_17 : decode prog_5_method_4_code 17 = .ok (.ifCond .eq 44, 3) := by decide +kernel
theorem d_R_readOr_20 : decode prog_5_method_4_code 20 = .ok (.aload_n 0, 1) := by decide +kernel
theorem d_R_readOr_21 : decode prog_5_method_4_code 21 = .ok (.invokevirtual 60, 3) := by decide +kernel
theorem d_R_readOr_24 : decode prog_5_method_4_code 24 = .ok (.bipush 124, 2) := by decide +kernel
theorem d_R_readOr_26 : decode prog_5_method_4_code 26 = .ok (.if_icmp .ne 35, 3) := by decide +kernel
theorem d_R_readOr_29 : decode prog_5_method_4_code 29 = .ok (.aload_n 0, 1) := by decide +kernel
theorem d_R_readOr_30 : decode prog_5_method_4_code 30 = .ok (.dup, 1) := by decide +kernel
theorem d_R_readOr_31 : decode prog_5_method_4_code 31 = .ok (.getfield 47, 3) := by decide +kernel
theorem d_R_readOr_34 : decode prog_5_method_4_code 34 = .ok (.iconst 1, 1) := by decide +kernel
theorem d_R_readOr_35 : decode prog_5_method_4_code 35 = .ok (.iadd, 1) := by decide +kernel
theorem d_R_readOr_36 : decode prog_5_method_4_code 36 = .ok (.putfield 47, 3) := by decide +kernel
theorem d_R_readOr_39 : decode prog_5_method_4_code 39 = .ok (.aload_n 0, 1) := by decide +kernel
theorem d_R_readOr_40 : decode prog_5_method_4_code 40 = .ok (.iload_n 1, 1) := by decide +kernel
theorem d_R_readOr_41 : decode prog_5_method_4_code 41 = .ok (.invokevirtual 57, 3) := by decide +kernel
theorem d_R_readOr_44 : decode prog_5_method_4_code 44 = .ok (.istore_n 2, 1) := by decide +kernel
theorem d_R_readOr_45 : decode prog_5_method_4_code 45 = .ok (.aload_n 0, 1) := by decide +kernel
theorem d_R_readOr_46 : decode prog_5_method_4_code 46 = .ok (.getfield 10, 3) := by decide +kernel
theorem d_R_readOr_49 : decode prog_5_method_4_code 49 = .ok (.bipush 124, 2) := by decide +kernel
theorem d_R_readOr_51 : decode prog_5_method_4_code 51 = .ok (.iconst 0, 1) := by decide +kernel
theorem d_R_readOr_52 : decode prog_5_method_4_code 52 = .ok (.invokevirtual 64, 3) := by decide +kernel
theorem d_R_readOr_55 : decode prog_5_method_4_code 55 = .ok (.iinc 3 1, 3) := by decide +kernel
theorem d_R_readOr_58 : decode prog_5_method_4_code 58 = .ok (.goto (-50), 3) := by decide +kernel
theorem d_R_readOr_61 : decode prog_5_method_4_code 61 = .ok (.iload_n 2, 1) := by decide +kernel
theorem d_R_readOr_62 : decode prog_5_method_4_code 62 = .ok (.ireturn, 1) := by decide +kernel
def w_R_readOr_8 (F : Nat → (Int32 → sm_Mem → Prop) → Int32 → sm_Mem → Prop) (K : Int32 → sm_Mem → Prop) (p0 : Int32) (x2 : Int32) (x3 : Int32) (μ : sm_Mem) : Prop := sm_lp2 (fun J8 x2 x3 μ => if (μ 43 2) ≤ x3 then ((x2 = 0 ∨ x2 = 1) ∧ K x2 μ) else (if x2 = 0 then ((x2 = 0 ∨ x2 = 1) ∧ K x2 μ) else (w_R_next (fun r8 μ7 => if r8 = 124 then (∀ μ11 : sm_Mem, μ11 = sm_st μ7 43 3 ((μ7 43 3) + 1) → F 1 (fun r13 μ12 => w_T_add (fun μ14 => J8 r13 (x3 + 1) μ14) 44 124 0 μ12) p0 μ11) else ((x2 = 0 ∨ x2 = 1) ∧ K x2 μ7)) μ))) x2 x3 μ
def w_R_readOr (F : Nat → (Int32 → sm_Mem → Prop) → Int32 → sm_Mem → Prop) (K : Int32 → sm_Mem → Prop) (p0 : Int32) (μ : sm_Mem) : Prop := F 1 (fun r2 μ1 => w_R_readOr_8 F K p0 r2 0 μ1) p0 μ
set_option maxHeartbeats 4000000 in
set_option maxRecDepth 100000 in
theorem P_R_readOr (l : Launch) {F : Nat → (Int32 → sm_Mem → Prop) → Int32 → sm_Mem → Prop} {n : Nat} (hF1 : ∀ {K : Int32 → sm_Mem → Prop} {p0 : Int32} {μ : sm_Mem}, F 1 K p0 μ → sm_MI l ⟨"SnowMoney$Reader", "readAnd", "(I)Z"⟩ prog_5_method_5_code 4 (some .boolean) { frames := n + 12, cells := 0, slots := 0, locals := n * 40 + 800 } [sm_R 43, sm_I p0] μ K) {K : Int32 → sm_Mem → Prop} {p0 : Int32} {μ : sm_Mem} (h : w_R_readOr F K p0 μ) : sm_MI l ⟨"SnowMoney$Reader", "readOr", "(I)Z"⟩ prog_5_method_4_code 4 (some .boolean) { frames := n + 1 + 12, cells := 0, slots := 0, locals := (n + 1) * 40 + 800 } [sm_R 43, sm_I p0] μ K := by
  refine sm_ofI (by decide +kernel) (fun _ => Nat.le_of_ble_eq_true rfl) ?_
  intro p e s m args below meth c A Q G C hR
  have B8 : ∀ (x2 : Int32) (x3 : Int32) (μ : sm_Mem), w_R_readOr_8 F K p0 x2 x3 μ → sm_W p l e { frames := n + 1 + 12, cells := 0, slots := 0, locals := (n + 1) * 40 + 800 } s m args below meth c A Q G 4 0 0 8 [] [(0, sm_R 43), (1, sm_I p0), (2, sm_I x2), (3, sm_I x3)] μ := by
    intro x2 x3 μ h
    refine sm_lp2_sound (P := fun x2 x3 μ => sm_W p l e { frames := n + 1 + 12, cells := 0, slots := 0, locals := (n + 1) * 40 + 800 } s m args below meth c A Q G 4 0 0 8 [] [(0, sm_R 43), (1, sm_I p0), (2, sm_I x2), (3, sm_I x3)] μ) (fun J8 x2 x3 μ hJ8 h => ?_) h
    refine sr_iload_n C 3 rfl rfl d_R_readOr_8 ?_
    refine sr_aload_n C 0 rfl rfl d_R_readOr_9 ?_
    refine sr_getI C sm_F2 2 q_136 sm_l43 rfl (by decide) d_R_readOr_10 ?_
    refine sr_icmp_ge C (tgt := 61) d_R_readOr_13 (by decide) (fun c3 => ?_) (fun c3 => ?_)
    · replace h := Eq.mp (if_pos c3) h
      refine sr_iload_n C 2 rfl rfl d_R_readOr_61 ?_
      obtain ⟨g4, h⟩ := h
      exact hR _ _ _ _ d_R_readOr_62 (sm_narZ g4) h
    · replace h := Eq.mp (if_neg c3) h
      refine sr_iload_n C 2 rfl rfl d_R_readOr_16 ?_
      refine sr_if_eq C (tgt := 61) d_R_readOr_17 (by decide) (fun c5 => ?_) (fun c5 => ?_)
      · replace h := Eq.mp (if_pos c5) h
        refine sr_iload_n C 2 rfl rfl d_R_readOr_61 ?_
        obtain ⟨g6, h⟩ := h
        exact hR _ _ _ _ d_R_readOr_62 (sm_narZ g6) h
      · replace h := Eq.mp (if_neg c5) h
        refine sr_aload_n C 0 rfl rfl d_R_readOr_20 ?_
        refine sr_callVI C [] (P_R_next l h) ok_30 sm_l43 rfl rfl rfl rfl ⟨by dsimp only; omega, by dsimp only; omega⟩ (Nat.le_of_ble_eq_true rfl) ⟨Nat.zero_le _, Nat.zero_le _⟩ d_R_readOr_21 (fun r8 μ7 h => ?_)
        refine sr_bipush C (v := 124) d_R_readOr_24 (by decide) ?_
        refine sr_icmp_ne C (tgt := 61) d_R_readOr_26 (by decide) (fun c9 => ?_) (fun c9 => ?_)
        · replace h := Eq.mp (if_neg c9) h
          refine sr_iload_n C 2 rfl rfl d_R_readOr_61 ?_
          obtain ⟨g10, h⟩ := h
          exact hR _ _ _ _ d_R_readOr_62 (sm_narZ g10) h
        · replace h := Eq.mp (if_pos c9) h
          refine sr_aload_n C 0 rfl rfl d_R_readOr_29 ?_
          refine sr_dup C rfl d_R_readOr_30 ?_
          refine sr_getI C sm_F2 3 q_139 sm_l43 rfl (by decide) d_R_readOr_31 ?_
          refine sr_iconst C (v := 1) d_R_readOr_34 (by decide) ?_
          refine sr_iadd C d_R_readOr_35 ?_
          refine sr_putI C sm_F2 3 q_139 sm_l43 rfl rfl (by decide) rfl d_R_readOr_36 ?_
          replace h := h _ rfl
          refine sr_aload_n C 0 rfl rfl d_R_readOr_39 ?_
          refine sr_iload_n C 1 rfl rfl d_R_readOr_40 ?_
          refine sr_callVI C [sm_I _] (hF1 h) ok_29 sm_l43 rfl rfl rfl rfl ⟨by dsimp only; omega, by dsimp only; omega⟩ (Nat.le_of_ble_eq_true rfl) ⟨Nat.zero_le _, Nat.zero_le _⟩ d_R_readOr_41 (fun r13 μ12 h => ?_)
          refine sr_istore_n C rfl (by decide) d_R_readOr_44 ?_
          refine sr_aload_n C 1 rfl rfl d_R_readOr_45 ?_
          refine sr_getR C sm_F2 0 q_140 sm_l43 (r := 44) rfl (by decide) d_R_readOr_46 ?_
          refine sr_bipush C (v := 124) d_R_readOr_49 (by decide) ?_
          refine sr_iconst C (v := 0) d_R_readOr_51 (by decide) ?_
          refine sr_callVV C [sm_I _, sm_I _] (P_T_add l h) ok_31 sm_l44 rfl rfl rfl rfl ⟨by dsimp only; omega, by dsimp only; omega⟩ (Nat.le_of_ble_eq_true rfl) ⟨Nat.zero_le _, Nat.zero_le _⟩ d_R_readOr_52 (fun μ14 h => ?_)
          refine sr_iinc C 3 rfl (by decide) d_R_readOr_55 rfl ?_
          refine sr_goto C (tgt := 8) (by decide) d_R_readOr_58 ?_
          refine sr_mask C [2, 3, 1, 0] rfl ?_
          exact hJ8 _ _ _ h
  refine sr_aload_n C 0 rfl rfl d_R_readOr_0 ?_
  refine sr_iload_n C 1 rfl rfl d_R_readOr_1 ?_
  refine sr_callVI C [sm_I _] (hF1 h) ok_29 sm_l43 rfl rfl rfl rfl ⟨by dsimp only; omega, by dsimp only; omega⟩ (Nat.le_of_ble_eq_true rfl) ⟨Nat.zero_le _, Nat.zero_le _⟩ d_R_readOr_2 (fun r2 μ1 h => ?_)
  refine sr_istore_n C rfl (by decide) d_R_readOr_5 ?_
  refine sr_iconst C (v := 0) d_R_readOr_6 (by decide) ?_
  refine sr_istore_n C rfl (by decide) d_R_readOr_7 ?_
  refine sr_mask C [2, 3, 1, 0] rfl ?_
  exact B8 _ _ _ h
theorem d_R_readAnd_0 : decode prog_5_method_5_code 0 = .ok (.aload_n 0, 1) := by decide +kernel
theorem d_R_readAnd_1 : decode prog_5_method_5_code 1 = .ok (.iload_n 1, 1) := by decide +kernel
theorem d_R_readAnd_2 : decode prog_5_method_5_code 2 = .ok (.invokevirtual 68, 3) := by decide +kernel
theorem d_R_readAnd_5 : decode prog_5_method_5_code 5 = .ok (.istore_n 2, 1) := by decide +kernel
theorem d_R_readAnd_6 : decode prog_5_method_5_code 6 = .ok (.iconst 0, 1) := by decide +kernel
theorem d_R_readAnd_7 : decode prog_5_method_5_code 7 = .ok (.istore_n 3, 1) := by decide +kernel
theorem d_R_readAnd_8 : decode prog_5_method_5_code 8 = .ok (.iload_n 3, 1) := by decide +kernel
theorem d_R_readAnd_9 : decode prog_5_method_5_code 9 = .ok (.aload_n 0, 1) := by decide +kernel
theorem d_R_readAnd_10 : decode prog_5_method_5_code 10 = .ok (.getfield 37, 3) := by decide +kernel
theorem d_R_readAnd_13 : decode prog_5_method_5_code 13 = .ok (.if_icmp .ge 48, 3) := by decide +kernel
theorem d_R_readAnd_16 : decode prog_5_method_5_code 16 = .ok (.iload_n 2, 1) := by decide +kernel
theorem d_R_readAnd_17 : decode prog_5_method_5_code 17 = .ok (.ifCond .eq 44, 3) := by decide +kernel
theorem d_R_readAnd_20 : decode prog_5_method_5_code 20 = .ok (.aload_n 0, 1) := by decide +kernel
theorem d_R_readAnd_21 : decode prog_5_method_5_code 21 = .ok (.invokevirtual 60, 3) := by decide +kernel
theorem d_R_readAnd_24 : decode prog_5_method_5_code 24 = .ok (.bipush 38, 2) := by decide +kernel
theorem d_R_readAnd_26 : decode prog_5_method_5_code 26 = .ok (.if_icmp .ne 35, 3) := by decide +kernel
theorem d_R_readAnd_29 : decode prog_5_method_5_code 29 = .ok (.aload_n 0, 1) := by decide +kernel
theorem d_R_readAnd_30 : decode prog_5_method_5_code 30 = .ok (.dup, 1) := by decide +kernel
theorem d_R_readAnd_31 : decode prog_5_method_5_code 31 = .ok (.getfield 47, 3) := by decide +kernel
theorem d_R_readAnd_34 : decode prog_5_method_5_code 34 = .ok (.iconst 1, 1) := by decide +kernel
theorem d_R_readAnd_35 : decode prog_5_method_5_code 35 = .ok (.iadd, 1) := by decide +kernel
theorem d_R_readAnd_36 : decode prog_5_method_5_code 36 = .ok (.putfield 47, 3) := by decide +kernel
theorem d_R_readAnd_39 : decode prog_5_method_5_code 39 = .ok (.aload_n 0, 1) := by decide +kernel
theorem d_R_readAnd_40 : decode prog_5_method_5_code 40 = .ok (.iload_n 1, 1) := by decide +kernel
theorem d_R_readAnd_41 : decode prog_5_method_5_code 41 = .ok (.invokevirtual 68, 3) := by decide +kernel
theorem d_R_readAnd_44 : decode prog_5_method_5_code 44 = .ok (.istore_n 2, 1) := by decide +kernel
theorem d_R_readAnd_45 : decode prog_5_method_5_code 45 = .ok (.aload_n 0, 1) := by decide +kernel
theorem d_R_readAnd_46 : decode prog_5_method_5_code 46 = .ok (.getfield 10, 3) := by decide +kernel
theorem d_R_readAnd_49 : decode prog_5_method_5_code 49 = .ok (.bipush 38, 2) := by decide +kernel
theorem d_R_readAnd_51 : decode prog_5_method_5_code 51 = .ok (.iconst 0, 1) := by decide +kernel
theorem d_R_readAnd_52 : decode prog_5_method_5_code 52 = .ok (.invokevirtual 64, 3) := by decide +kernel
theorem d_R_readAnd_55 : decode prog_5_method_5_code 55 = .ok (.iinc 3 1, 3) := by decide +kernel
theorem d_R_readAnd_58 : decode prog_5_method_5_code 58 = .ok (.goto (-50), 3) := by decide +kernel
theorem d_R_readAnd_61 : decode prog_5_method_5_code 61 = .ok (.iload_n 2, 1) := by decide +kernel
theorem d_R_readAnd_62 : decode prog_5_method_5_code 62 = .ok (.ireturn, 1) := by decide +kernel
def w_R_readAnd_8 (F : Nat → (Int32 → sm_Mem → Prop) → Int32 → sm_Mem → Prop) (K : Int32 → sm_Mem → Prop) (p0 : Int32) (x2 : Int32) (x3 : Int32) (μ : sm_Mem) : Prop := sm_lp2 (fun J8 x2 x3 μ => if (μ 43 2) ≤ x3 then ((x2 = 0 ∨ x2 = 1) ∧ K x2 μ) else (if x2 = 0 then ((x2 = 0 ∨ x2 = 1) ∧ K x2 μ) else (w_R_next (fun r8 μ7 => if r8 = 38 then (∀ μ11 : sm_Mem, μ11 = sm_st μ7 43 3 ((μ7 43 3) + 1) → F 2 (fun r13 μ12 => w_T_add (fun μ14 => J8 r13 (x3 + 1) μ14) 44 38 0 μ12) p0 μ11) else ((x2 = 0 ∨ x2 = 1) ∧ K x2 μ7)) μ))) x2 x3 μ
def w_R_readAnd (F : Nat → (Int32 → sm_Mem → Prop) → Int32 → sm_Mem → Prop) (K : Int32 → sm_Mem → Prop) (p0 : Int32) (μ : sm_Mem) : Prop := F 2 (fun r2 μ1 => w_R_readAnd_8 F K p0 r2 0 μ1) p0 μ
set_option maxHeartbeats 4000000 in
set_option maxRecDepth 100000 in
theorem P_R_readAnd (l : Launch) {F : Nat → (Int32 → sm_Mem → Prop) → Int32 → sm_Mem → Prop} {n : Nat} (hF2 : ∀ {K : Int32 → sm_Mem → Prop} {p0 : Int32} {μ : sm_Mem}, F 2 K p0 μ → sm_MI l ⟨"SnowMoney$Reader", "readComparison", "(I)Z"⟩ prog_5_method_6_code 4 (some .boolean) { frames := n + 12, cells := 0, slots := 0, locals := n * 40 + 800 } [sm_R 43, sm_I p0] μ K) {K : Int32 → sm_Mem → Prop} {p0 : Int32} {μ : sm_Mem} (h : w_R_readAnd F K p0 μ) : sm_MI l ⟨"SnowMoney$Reader", "readAnd", "(I)Z"⟩ prog_5_method_5_code 4 (some .boolean) { frames := n + 1 + 12, cells := 0, slots := 0, locals := (n + 1) * 40 + 800 } [sm_R 43, sm_I p0] μ K := by
  refine sm_ofI (by decide +kernel) (fun _ => Nat.le_of_ble_eq_true rfl) ?_
  intro p e s m args below meth c A Q G C hR
  have B8 : ∀ (x2 : Int32) (x3 : Int32) (μ : sm_Mem), w_R_readAnd_8 F K p0 x2 x3 μ → sm_W p l e { frames := n + 1 + 12, cells := 0, slots := 0, locals := (n + 1) * 40 + 800 } s m args below meth c A Q G 4 0 0 8 [] [(0, sm_R 43), (1, sm_I p0), (2, sm_I x2), (3, sm_I x3)] μ := by
    intro x2 x3 μ h
    refine sm_lp2_sound (P := fun x2 x3 μ => sm_W p l e { frames := n + 1 + 12, cells := 0, slots := 0, locals := (n + 1) * 40 + 800 } s m args below meth c A Q G 4 0 0 8 [] [(0, sm_R 43), (1, sm_I p0), (2, sm_I x2), (3, sm_I x3)] μ) (fun J8 x2 x3 μ hJ8 h => ?_) h
    refine sr_iload_n C 3 rfl rfl d_R_readAnd_8 ?_
    refine sr_aload_n C 0 rfl rfl d_R_readAnd_9 ?_
    refine sr_getI C sm_F2 2 q_136 sm_l43 rfl (by decide) d_R_readAnd_10 ?_
    refine sr_icmp_ge C (tgt := 61) d_R_readAnd_13 (by decide) (fun c3 => ?_) (fun c3 => ?_)
    · replace h := Eq.mp (if_pos c3) h
      refine sr_iload_n C 2 rfl rfl d_R_readAnd_61 ?_
      obtain ⟨g4, h⟩ := h
      exact hR _ _ _ _ d_R_readAnd_62 (sm_narZ g4) h
    · replace h := Eq.mp (if_neg c3) h
      refine sr_iload_n C 2 rfl rfl d_R_readAnd_16 ?_
      refine sr_if_eq C (tgt := 61) d_R_readAnd_17 (by decide) (fun c5 => ?_) (fun c5 => ?_)
      · replace h := Eq.mp (if_pos c5) h
        refine sr_iload_n C 2 rfl rfl d_R_readAnd_61 ?_
        obtain ⟨g6, h⟩ := h
        exact hR _ _ _ _ d_R_readAnd_62 (sm_narZ g6) h
      · replace h := Eq.mp (if_neg c5) h
        refine sr_aload_n C 0 rfl rfl d_R_readAnd_20 ?_
        refine sr_callVI C [] (P_R_next l h) ok_30 sm_l43 rfl rfl rfl rfl ⟨by dsimp only; omega, by dsimp only; omega⟩ (Nat.le_of_ble_eq_true rfl) ⟨Nat.zero_le _, Nat.zero_le _⟩ d_R_readAnd_21 (fun r8 μ7 h => ?_)
        refine sr_bipush C (v := 38) d_R_readAnd_24 (by decide) ?_
        refine sr_icmp_ne C (tgt := 61) d_R_readAnd_26 (by decide) (fun c9 => ?_) (fun c9 => ?_)
        · replace h := Eq.mp (if_neg c9) h
          refine sr_iload_n C 2 rfl rfl d_R_readAnd_61 ?_
          obtain ⟨g10, h⟩ := h
          exact hR _ _ _ _ d_R_readAnd_62 (sm_narZ g10) h
        · replace h := Eq.mp (if_pos c9) h
          refine sr_aload_n C 0 rfl rfl d_R_readAnd_29 ?_
          refine sr_dup C rfl d_R_readAnd_30 ?_
          refine sr_getI C sm_F2 3 q_139 sm_l43 rfl (by decide) d_R_readAnd_31 ?_
          refine sr_iconst C (v := 1) d_R_readAnd_34 (by decide) ?_
          refine sr_iadd C d_R_readAnd_35 ?_
          refine sr_putI C sm_F2 3 q_139 sm_l43 rfl rfl (by decide) rfl d_R_readAnd_36 ?_
          replace h := h _ rfl
          refine sr_aload_n C 0 rfl rfl d_R_readAnd_39 ?_
          refine sr_iload_n C 1 rfl rfl d_R_readAnd_40 ?_
          refine sr_callVI C [sm_I _] (hF2 h) ok_32 sm_l43 rfl rfl rfl rfl ⟨by dsimp only; omega, by dsimp only; omega⟩ (Nat.le_of_ble_eq_true rfl) ⟨Nat.zero_le _, Nat.zero_le _⟩ d_R_readAnd_41 (fun r13 μ12 h => ?_)
          refine sr_istore_n C rfl (by decide) d_R_readAnd_44 ?_
          refine sr_aload_n C 1 rfl rfl d_R_readAnd_45 ?_
          refine sr_getR C sm_F2 0 q_140 sm_l43 (r := 44) rfl (by decide) d_R_readAnd_46 ?_
          refine sr_bipush C (v := 38) d_R_readAnd_49 (by decide) ?_
          refine sr_iconst C (v := 0) d_R_readAnd_51 (by decide) ?_
          refine sr_callVV C [sm_I _, sm_I _] (P_T_add l h) ok_31 sm_l44 rfl rfl rfl rfl ⟨by dsimp only; omega, by dsimp only; omega⟩ (Nat.le_of_ble_eq_true rfl) ⟨Nat.zero_le _, Nat.zero_le _⟩ d_R_readAnd_52 (fun μ14 h => ?_)
          refine sr_iinc C 3 rfl (by decide) d_R_readAnd_55 rfl ?_
          refine sr_goto C (tgt := 8) (by decide) d_R_readAnd_58 ?_
          refine sr_mask C [2, 3, 1, 0] rfl ?_
          exact hJ8 _ _ _ h
  refine sr_aload_n C 0 rfl rfl d_R_readAnd_0 ?_
  refine sr_iload_n C 1 rfl rfl d_R_readAnd_1 ?_
  refine sr_callVI C [sm_I _] (hF2 h) ok_32 sm_l43 rfl rfl rfl rfl ⟨by dsimp only; omega, by dsimp only; omega⟩ (Nat.le_of_ble_eq_true rfl) ⟨Nat.zero_le _, Nat.zero_le _⟩ d_R_readAnd_2 (fun r2 μ1 h => ?_)
  refine sr_istore_n C rfl (by decide) d_R_readAnd_5 ?_
  refine sr_iconst C (v := 0) d_R_readAnd_6 (by decide) ?_
  refine sr_istore_n C rfl (by decide) d_R_readAnd_7 ?_
  refine sr_mask C [2, 3, 1, 0] rfl ?_
  exact B8 _ _ _ h
theorem d_R_readComparison_0 : decode prog_5_method_6_code 0 = .ok (.aload_n 0, 1) := by decide +kernel
theorem d_R_readComparison_1 : decode prog_5_method_6_code 1 = .ok (.iload_n 1, 1) := by decide +kernel
theorem d_R_readComparison_2 : decode prog_5_method_6_code 2 = .ok (.invokevirtual 71, 3) := by decide +kernel
theorem d_R_readComparison_5 : decode prog_5_method_6_code 5 = .ok (.ifCond .ne 5, 3) := by decide +kernel
theorem d_R_readComparison_8 : decode prog_5_method_6_code 8 = .ok (.iconst 0, 1) := by decide +kernel
theorem d_R_readComparison_9 : decode prog_5_method_6_code 9 = .ok (.ireturn, 1) := by decide +kernel
theorem d_R_readComparison_10 : decode prog_5_method_6_code 10 = .ok (.aload_n 0, 1) := by decide +kernel
theorem d_R_readComparison_11 : decode prog_5_method_6_code 11 = .ok (.invokevirtual 60, 3) := by decide +kernel
theorem d_R_readComparison_14 : decode prog_5_method_6_code 14 = .ok (.istore_n 2, 1) := by decide +kernel
theorem d_R_readComparison_15 : decode prog_5_method_6_code 15 = .ok (.iload_n 2, 1) := by decide +kernel
theorem d_R_readComparison_16 : decode prog_5_method_6_code 16 = .ok (.bipush 60, 2) := by decide +kernel
theorem d_R_readComparison_18 : decode prog_5_method_6_code 18 = .ok (.if_icmp .eq 17, 3) := by decide +kernel
theorem d_R_readComparison_21 : decode prog_5_method_6_code 21 = .ok (.iload_n 2, 1) := by decide +kernel
theorem d_R_readComparison_22 : decode prog_5_method_6_code 22 = .ok (.bipush 61, 2) := by decide +kernel
theorem d_R_readComparison_24 : decode prog_5_method_6_code 24 = .ok (.if_icmp .eq 11, 3) := by decide +kernel
theorem d_R_readComparison_27 : decode prog_5_method_6_code 27 = .ok (.iload_n 2, 1) := by decide +kernel
theorem d_R_readComparison_28 : decode prog_5_method_6_code 28 = .ok (.bipush 62, 2) := by decide +kernel
theorem d_R_readComparison_30 : decode prog_5_method_6_code 30 = .ok (.if_icmp .eq 5, 3) := by decide +kernel
theorem d_R_readComparison_33 : decode prog_5_method_6_code 33 = .ok (.iconst 1, 1) := by decide +kernel
theorem d_R_readComparison_34 : decode prog_5_method_6_code 34 = .ok (.ireturn, 1) := by decide +kernel
theorem d_R_readComparison_35 : decode prog_5_method_6_code 35 = .ok (.aload_n 0, 1) := by decide +kernel
theorem d_R_readComparison_36 : decode prog_5_method_6_code 36 = .ok (.dup, 1) := by decide +kernel
theorem d_R_readComparison_37 : decode prog_5_method_6_code 37 = .ok (.getfield 47, 3) := by decide +kernel
theorem d_R_readComparison_40 : decode prog_5_method_6_code 40 = .ok (.iconst 1, 1) := by decide +kernel
theorem d_R_readComparison_41 : decode prog_5_method_6_code 41 = .ok (.iadd, 1) := by decide +kernel
theorem d_R_readComparison_42 : decode prog_5_method_6_code 42 = .ok (.putfield 47, 3) := by decide +kernel
theorem d_R_readComparison_45 : decode prog_5_method_6_code 45 = .ok (.aload_n 0, 1) := by decide +kernel
theorem d_R_readComparison_46 : decode prog_5_method_6_code 46 = .ok (.iload_n 1, 1) := by decide +kernel
theorem d_R_readComparison_47 : decode prog_5_method_6_code 47 = .ok (.invokevirtual 71, 3) := by decide +kernel
theorem d_R_readComparison_50 : decode prog_5_method_6_code 50 = .ok (.istore_n 3, 1) := by decide +kernel
theorem d_R_readComparison_51 : decode prog_5_method_6_code 51 = .ok (.aload_n 0, 1) := by decide +kernel
theorem d_R_readComparison_52 : decode prog_5_method_6_code 52 = .ok (.getfield 10, 3) := by decide +kernel
theorem d_R_readComparison_55 : decode prog_5_method_6_code 55 = .ok (.iload_n 2, 1) := by decide +kernel
theorem d_R_readComparison_56 : decode prog_5_method_6_code 56 = .ok (.iconst 0, 1) := by decide +kernel
theorem d_R_readComparison_57 : decode prog_5_method_6_code 57 = .ok (.invokevirtual 64, 3) := by decide +kernel
theorem d_R_readComparison_60 : decode prog_5_method_6_code 60 = .ok (.iload_n 3, 1) := by decide +kernel
theorem d_R_readComparison_61 : decode prog_5_method_6_code 61 = .ok (.ireturn, 1) := by decide +kernel
def w_R_readComparison_35 (F : Nat → (Int32 → sm_Mem → Prop) → Int32 → sm_Mem → Prop) (K : Int32 → sm_Mem → Prop) (p0 : Int32) (x2 : Int32) (μ : sm_Mem) : Prop := ∀ μ7 : sm_Mem, μ7 = sm_st μ 43 3 ((μ 43 3) + 1) → F 3 (fun r9 μ8 => w_T_add (fun μ10 => (r9 = 0 ∨ r9 = 1) ∧ K r9 μ10) 44 x2 0 μ8) p0 μ7
def w_R_readComparison (F : Nat → (Int32 → sm_Mem → Prop) → Int32 → sm_Mem → Prop) (K : Int32 → sm_Mem → Prop) (p0 : Int32) (μ : sm_Mem) : Prop := F 3 (fun r2 μ1 => if r2 = 0 then K 0 μ1 else w_R_next (fun r5 μ4 => if r5 = 60 then w_R_readComparison_35 F K p0 r5 μ4 else (if r5 = 61 then w_R_readComparison_35 F K p0 r5 μ4 else (if r5 = 62 then w_R_readComparison_35 F K p0 r5 μ4 else K 1 μ4))) μ1) p0 μ
set_option maxHeartbeats 4000000 in
set_option maxRecDepth 100000 in
theorem P_R_readComparison (l : Launch) {F : Nat → (Int32 → sm_Mem → Prop) → Int32 → sm_Mem → Prop} {n : Nat} (hF3 : ∀ {K : Int32 → sm_Mem → Prop} {p0 : Int32} {μ : sm_Mem}, F 3 K p0 μ → sm_MI l ⟨"SnowMoney$Reader", "readSum", "(I)Z"⟩ prog_5_method_7_code 5 (some .boolean) { frames := n + 12, cells := 0, slots := 0, locals := n * 40 + 800 } [sm_R 43, sm_I p0] μ K) {K : Int32 → sm_Mem → Prop} {p0 : Int32} {μ : sm_Mem} (h : w_R_readComparison F K p0 μ) : sm_MI l ⟨"SnowMoney$Reader", "readComparison", "(I)Z"⟩ prog_5_method_6_code 4 (some .boolean) { frames := n + 1 + 12, cells := 0, slots := 0, locals := (n + 1) * 40 + 800 } [sm_R 43, sm_I p0] μ K := by
  refine sm_ofI (by decide +kernel) (fun _ => Nat.le_of_ble_eq_true rfl) ?_
  intro p e s m args below meth c A Q G C hR
  have B35 : ∀ (x2 : Int32) (μ : sm_Mem), w_R_readComparison_35 F K p0 x2 μ → sm_W p l e { frames := n + 1 + 12, cells := 0, slots := 0, locals := (n + 1) * 40 + 800 } s m args below meth c A Q G 4 0 0 35 [] [(0, sm_R 43), (1, sm_I p0), (2, sm_I x2)] μ := by
    intro x2 μ h
    refine sr_aload_n C 0 rfl rfl d_R_readComparison_35 ?_
    refine sr_dup C rfl d_R_readComparison_36 ?_
    refine sr_getI C sm_F2 3 q_139 sm_l43 rfl (by decide) d_R_readComparison_37 ?_
    refine sr_iconst C (v := 1) d_R_readComparison_40 (by decide) ?_
    refine sr_iadd C d_R_readComparison_41 ?_
    refine sr_putI C sm_F2 3 q_139 sm_l43 rfl rfl (by decide) rfl d_R_readComparison_42 ?_
    replace h := h _ rfl
    refine sr_aload_n C 0 rfl rfl d_R_readComparison_45 ?_
    refine sr_iload_n C 1 rfl rfl d_R_readComparison_46 ?_
    refine sr_callVI C [sm_I _] (hF3 h) ok_33 sm_l43 rfl rfl rfl rfl ⟨by dsimp only; omega, by dsimp only; omega⟩ (Nat.le_of_ble_eq_true rfl) ⟨Nat.zero_le _, Nat.zero_le _⟩ d_R_readComparison_47 (fun r9 μ8 h => ?_)
    refine sr_istore_n C rfl (by decide) d_R_readComparison_50 ?_
    refine sr_aload_n C 1 rfl rfl d_R_readComparison_51 ?_
    refine sr_getR C sm_F2 0 q_140 sm_l43 (r := 44) rfl (by decide) d_R_readComparison_52 ?_
    refine sr_iload_n C 3 rfl rfl d_R_readComparison_55 ?_
    refine sr_iconst C (v := 0) d_R_readComparison_56 (by decide) ?_
    refine sr_callVV C [sm_I _, sm_I _] (P_T_add l h) ok_31 sm_l44 rfl rfl rfl rfl ⟨by dsimp only; omega, by dsimp only; omega⟩ (Nat.le_of_ble_eq_true rfl) ⟨Nat.zero_le _, Nat.zero_le _⟩ d_R_readComparison_57 (fun μ10 h => ?_)
    refine sr_iload_n C 0 rfl rfl d_R_readComparison_60 ?_
    obtain ⟨g11, h⟩ := h
    exact hR _ _ _ _ d_R_readComparison_61 (sm_narZ g11) h
  refine sr_aload_n C 0 rfl rfl d_R_readComparison_0 ?_
  refine sr_iload_n C 1 rfl rfl d_R_readComparison_1 ?_
  refine sr_callVI C [sm_I _] (hF3 h) ok_33 sm_l43 rfl rfl rfl rfl ⟨by dsimp only; omega, by dsimp only; omega⟩ (Nat.le_of_ble_eq_true rfl) ⟨Nat.zero_le _, Nat.zero_le _⟩ d_R_readComparison_2 (fun r2 μ1 h => ?_)
  refine sr_if_ne C (tgt := 10) d_R_readComparison_5 (by decide) (fun c3 => ?_) (fun c3 => ?_)
  · replace h := Eq.mp (if_neg c3) h
    refine sr_aload_n C 0 rfl rfl d_R_readComparison_10 ?_
    refine sr_callVI C [] (P_R_next l h) ok_30 sm_l43 rfl rfl rfl rfl ⟨by dsimp only; omega, by dsimp only; omega⟩ (Nat.le_of_ble_eq_true rfl) ⟨Nat.zero_le _, Nat.zero_le _⟩ d_R_readComparison_11 (fun r5 μ4 h => ?_)
    refine sr_istore_n C rfl (by decide) d_R_readComparison_14 ?_
    refine sr_iload_n C 0 rfl rfl d_R_readComparison_15 ?_
    refine sr_bipush C (v := 60) d_R_readComparison_16 (by decide) ?_
    refine sr_icmp_eq C (tgt := 35) d_R_readComparison_18 (by decide) (fun c6 => ?_) (fun c6 => ?_)
    · replace h := Eq.mp (if_pos c6) h
      refine sr_mask C [1, 2, 0] rfl ?_
      exact B35 _ _ h
    · replace h := Eq.mp (if_neg c6) h
      refine sr_iload_n C 0 rfl rfl d_R_readComparison_21 ?_
      refine sr_bipush C (v := 61) d_R_readComparison_22 (by decide) ?_
      refine sr_icmp_eq C (tgt := 35) d_R_readComparison_24 (by decide) (fun c12 => ?_) (fun c12 => ?_)
      · replace h := Eq.mp (if_pos c12) h
        refine sr_mask C [1, 2, 0] rfl ?_
        exact B35 _ _ h
      · replace h := Eq.mp (if_neg c12) h
        refine sr_iload_n C 0 rfl rfl d_R_readComparison_27 ?_
        refine sr_bipush C (v := 62) d_R_readComparison_28 (by decide) ?_
        refine sr_icmp_eq C (tgt := 35) d_R_readComparison_30 (by decide) (fun c13 => ?_) (fun c13 => ?_)
        · replace h := Eq.mp (if_pos c13) h
          refine sr_mask C [1, 2, 0] rfl ?_
          exact B35 _ _ h
        · replace h := Eq.mp (if_neg c13) h
          refine sr_iconst C (v := 1) d_R_readComparison_33 (by decide) ?_
          exact hR _ _ _ _ d_R_readComparison_34 rfl h
  · replace h := Eq.mp (if_pos c3) h
    refine sr_iconst C (v := 0) d_R_readComparison_8 (by decide) ?_
    exact hR _ _ _ _ d_R_readComparison_9 rfl h
theorem d_R_readSum_0 : decode prog_5_method_7_code 0 = .ok (.aload_n 0, 1) := by decide +kernel
theorem d_R_readSum_1 : decode prog_5_method_7_code 1 = .ok (.iload_n 1, 1) := by decide +kernel
theorem d_R_readSum_2 : decode prog_5_method_7_code 2 = .ok (.invokevirtual 74, 3) := by decide +kernel
theorem d_R_readSum_5 : decode prog_5_method_7_code 5 = .ok (.istore_n 2, 1) := by decide +kernel
theorem d_R_readSum_6 : decode prog_5_method_7_code 6 = .ok (.iconst 0, 1) := by decide +kernel
theorem d_R_readSum_7 : decode prog_5_method_7_code 7 = .ok (.istore_n 3, 1) := by decide +kernel
theorem d_R_readSum_8 : decode prog_5_method_7_code 8 = .ok (.iload_n 3, 1) := by decide +kernel
theorem d_R_readSum_9 : decode prog_5_method_7_code 9 = .ok (.aload_n 0, 1) := by decide +kernel
theorem d_R_readSum_10 : decode prog_5_method_7_code 10 = .ok (.getfield 37, 3) := by decide +kernel
theorem d_R_readSum_13 : decode prog_5_method_7_code 13 = .ok (.if_icmp .ge 63, 3) := by decide +kernel
theorem d_R_readSum_16 : decode prog_5_method_7_code 16 = .ok (.iload_n 2, 1) := by decide +kernel
theorem d_R_readSum_17 : decode prog_5_method_7_code 17 = .ok (.ifCond .eq 59, 3) := by decide +kernel
theorem d_R_readSum_20 : decode prog_5_method_7_code 20 = .ok (.aload_n 0, 1) := by decide +kernel
theorem d_R_readSum_21 : decode prog_5_method_7_code 21 = .ok (.invokevirtual 60, 3) := by decide +kernel
theorem d_R_readSum_24 : decode prog_5_method_7_code 24 = .ok (.bipush 43, 2) := by decide +kernel
theorem d_R_readSum_26 : decode prog_5_method_7_code 26 = .ok (.if_icmp .eq 12, 3) := by decide +kernel
theorem d_R_readSum_29 : decode prog_5_method_7_code 29 = .ok (.aload_n 0, 1) := by decide +kernel
theorem d_R_readSum_30 : decode prog_5_method_7_code 30 = .ok (.invokevirtual 60, 3) := by decide +kernel
theorem d_R_readSum_33 : decode prog_5_method_7_code 33 = .ok (.bipush 45, 2) := by decide +kernel
theorem d_R_readSum_35 : decode prog_5_method_7_code 35 = .ok (.if_icmp .ne 41, 3) := by decide +kernel
theorem d_R_readSum_38 : decode prog_5_method_7_code 38 = .ok (.aload_n 0, 1) := by decide +kernel
theorem d_R_readSum_39 : decode prog_5_method_7_code 39 = .ok (.invokevirtual 60, 3) := by decide +kernel
theorem d_R_readSum_42 : decode prog_5_method_7_code 42 = .ok (.istore 4, 2) := by decide +kernel
theorem d_R_readSum_44 : decode prog_5_method_7_code 44 = .ok (.aload_n 0, 1) := by decide +kernel
theorem d_R_readSum_45 : decode prog_5_method_7_code 45 = .ok (.dup, 1) := by decide +kernel
theorem d_R_readSum_46 : decode prog_5_method_7_code 46 = .ok (.getfield 47, 3) := by decide +kernel
theorem d_R_readSum_49 : decode prog_5_method_7_code 49 = .ok (.iconst 1, 1) := by decide +kernel
theorem d_R_readSum_50 : decode prog_5_method_7_code 50 = .ok (.iadd, 1) := by decide +kernel
theorem d_R_readSum_51 : decode prog_5_method_7_code 51 = .ok (.putfield 47, 3) := by decide +kernel
theorem d_R_readSum_54 : decode prog_5_method_7_code 54 = .ok (.aload_n 0, 1) := by decide +kernel
theorem d_R_readSum_55 : decode prog_5_method_7_code 55 = .ok (.iload_n 1, 1) := by decide +kernel
theorem d_R_readSum_56 : decode prog_5_method_7_code 56 = .ok (.invokevirtual 74, 3) := by decide +kernel
theorem d_R_readSum_59 : decode prog_5_method_7_code 59 = .ok (.istore_n 2, 1) := by decide +kernel
theorem d_R_readSum_60 : decode prog_5_method_7_code 60 = .ok (.aload_n 0, 1) := by decide +kernel
theorem d_R_readSum_61 : decode prog_5_method_7_code 61 = .ok (.getfield 10, 3) := by decide +kernel
theorem d_R_readSum_64 : decode prog_5_method_7_code 64 = .ok (.iload 4, 2) := by decide +kernel
theorem d_R_readSum_66 : decode prog_5_method_7_code 66 = .ok (.iconst 0, 1) := by decide +kernel
theorem d_R_readSum_67 : decode prog_5_method_7_code 67 = .ok (.invokevirtual 64, 3) := by decide +kernel
theorem d_R_readSum_70 : decode prog_5_method_7_code 70 = .ok (.iinc 3 1, 3) := by decide +kernel
theorem d_R_readSum_73 : decode prog_5_method_7_code 73 = .ok (.goto (-65), 3) := by decide +kernel
theorem d_R_readSum_76 : decode prog_5_method_7_code 76 = .ok (.iload_n 2, 1) := by decide +kernel
theorem d_R_readSum_77 : decode prog_5_method_7_code 77 = .ok (.ireturn, 1) := by decide +kernel
def w_R_readSum_38 (F : Nat → (Int32 → sm_Mem → Prop) → Int32 → sm_Mem → Prop) (K : Int32 → sm_Mem → Prop) (J8 : Int32 → Int32 → sm_Mem → Prop) (p0 : Int32) (x3 : Int32) (μ : sm_Mem) : Prop := w_R_next (fun r11 μ10 => ∀ μ12 : sm_Mem, μ12 = sm_st μ10 43 3 ((μ10 43 3) + 1) → F 4 (fun r14 μ13 => w_T_add (fun μ15 => J8 r14 (x3 + 1) μ15) 44 r11 0 μ13) p0 μ12) μ
def w_R_readSum_8 (F : Nat → (Int32 → sm_Mem → Prop) → Int32 → sm_Mem → Prop) (K : Int32 → sm_Mem → Prop) (p0 : Int32) (x2 : Int32) (x3 : Int32) (μ : sm_Mem) : Prop := sm_lp2 (fun J8 x2 x3 μ => if (μ 43 2) ≤ x3 then ((x2 = 0 ∨ x2 = 1) ∧ K x2 μ) else (if x2 = 0 then ((x2 = 0 ∨ x2 = 1) ∧ K x2 μ) else (w_R_next (fun r8 μ7 => if r8 = 43 then w_R_readSum_38 F K J8 p0 x3 μ7 else (w_R_next (fun r17 μ16 => if r17 = 45 then w_R_readSum_38 F K J8 p0 x3 μ16 else ((x2 = 0 ∨ x2 = 1) ∧ K x2 μ16)) μ7)) μ))) x2 x3 μ
def w_R_readSum (F : Nat → (Int32 → sm_Mem → Prop) → Int32 → sm_Mem → Prop) (K : Int32 → sm_Mem → Prop) (p0 : Int32) (μ : sm_Mem) : Prop := F 4 (fun r2 μ1 => w_R_readSum_8 F K p0 r2 0 μ1) p0 μ
set_option maxHeartbeats 4000000 in
set_option maxRecDepth 100000 in
theorem P_R_readSum (l : Launch) {F : Nat → (Int32 → sm_Mem → Prop) → Int32 → sm_Mem → Prop} {n : Nat} (hF4 : ∀ {K : Int32 → sm_Mem → Prop} {p0 : Int32} {μ : sm_Mem}, F 4 K p0 μ → sm_MI l ⟨"SnowMoney$Reader", "readProduct", "(I)Z"⟩ prog_5_method_8_code 5 (some .boolean) { frames := n + 12, cells := 0, slots := 0, locals := n * 40 + 800 } [sm_R 43, sm_I p0] μ K) {K : Int32 → sm_Mem → Prop} {p0 : Int32} {μ : sm_Mem} (h : w_R_readSum F K p0 μ) : sm_MI l ⟨"SnowMoney$Reader", "readSum", "(I)Z"⟩ prog_5_method_7_code 5 (some .boolean) { frames := n + 1 + 12, cells := 0, slots := 0, locals := (n + 1) * 40 + 800 } [sm_R 43, sm_I p0] μ K := by
  refine sm_ofI (by decide +kernel) (fun _ => Nat.le_of_ble_eq_true rfl) ?_
  intro p e s m args below meth c A Q G C hR
  have B38 : ∀ (J8 : Int32 → Int32 → sm_Mem → Prop) (hJ8 : ∀ (x2 : Int32) (x3 : Int32) (μ : sm_Mem), J8 x2 x3 μ → sm_W p l e { frames := n + 1 + 12, cells := 0, slots := 0, locals := (n + 1) * 40 + 800 } s m args below meth c A Q G 5 0 0 8 [] [(0, sm_R 43), (1, sm_I p0), (2, sm_I x2), (3, sm_I x3)] μ) (x3 : Int32) (μ : sm_Mem), w_R_readSum_38 F K J8 p0 x3 μ → sm_W p l e { frames := n + 1 + 12, cells := 0, slots := 0, locals := (n + 1) * 40 + 800 } s m args below meth c A Q G 5 0 0 38 [] [(0, sm_R 43), (1, sm_I p0), (3, sm_I x3)] μ := by
    intro J8 hJ8 x3 μ h
    refine sr_aload_n C 0 rfl rfl d_R_readSum_38 ?_
    refine sr_callVI C [] (P_R_next l h) ok_30 sm_l43 rfl rfl rfl rfl ⟨by dsimp only; omega, by dsimp only; omega⟩ (Nat.le_of_ble_eq_true rfl) ⟨Nat.zero_le _, Nat.zero_le _⟩ d_R_readSum_39 (fun r11 μ10 h => ?_)
    refine sr_istore C (by decide) d_R_readSum_42 ?_
    refine sr_aload_n C 1 rfl rfl d_R_readSum_44 ?_
    refine sr_dup C rfl d_R_readSum_45 ?_
    refine sr_getI C sm_F2 3 q_139 sm_l43 rfl (by decide) d_R_readSum_46 ?_
    refine sr_iconst C (v := 1) d_R_readSum_49 (by decide) ?_
    refine sr_iadd C d_R_readSum_50 ?_
    refine sr_putI C sm_F2 3 q_139 sm_l43 rfl rfl (by decide) rfl d_R_readSum_51 ?_
    replace h := h _ rfl
    refine sr_aload_n C 1 rfl rfl d_R_readSum_54 ?_
    refine sr_iload_n C 2 rfl rfl d_R_readSum_55 ?_
    refine sr_callVI C [sm_I _] (hF4 h) ok_34 sm_l43 rfl rfl rfl rfl ⟨by dsimp only; omega, by dsimp only; omega⟩ (Nat.le_of_ble_eq_true rfl) ⟨Nat.zero_le _, Nat.zero_le _⟩ d_R_readSum_56 (fun r14 μ13 h => ?_)
    refine sr_istore_n C rfl (by decide) d_R_readSum_59 ?_
    refine sr_aload_n C 2 rfl rfl d_R_readSum_60 ?_
    refine sr_getR C sm_F2 0 q_140 sm_l43 (r := 44) rfl (by decide) d_R_readSum_61 ?_
    refine sr_iload C 1 rfl d_R_readSum_64 ?_
    refine sr_iconst C (v := 0) d_R_readSum_66 (by decide) ?_
    refine sr_callVV C [sm_I _, sm_I _] (P_T_add l h) ok_31 sm_l44 rfl rfl rfl rfl ⟨by dsimp only; omega, by dsimp only; omega⟩ (Nat.le_of_ble_eq_true rfl) ⟨Nat.zero_le _, Nat.zero_le _⟩ d_R_readSum_67 (fun μ15 h => ?_)
    refine sr_iinc C 4 rfl (by decide) d_R_readSum_70 rfl ?_
    refine sr_goto C (tgt := 8) (by decide) d_R_readSum_73 ?_
    refine sr_mask C [3, 4, 1, 0] rfl ?_
    exact hJ8 _ _ _ h
  have B8 : ∀ (x2 : Int32) (x3 : Int32) (μ : sm_Mem), w_R_readSum_8 F K p0 x2 x3 μ → sm_W p l e { frames := n + 1 + 12, cells := 0, slots := 0, locals := (n + 1) * 40 + 800 } s m args below meth c A Q G 5 0 0 8 [] [(0, sm_R 43), (1, sm_I p0), (2, sm_I x2), (3, sm_I x3)] μ := by
    intro x2 x3 μ h
    refine sm_lp2_sound (P := fun x2 x3 μ => sm_W p l e { frames := n + 1 + 12, cells := 0, slots := 0, locals := (n + 1) * 40 + 800 } s m args below meth c A Q G 5 0 0 8 [] [(0, sm_R 43), (1, sm_I p0), (2, sm_I x2), (3, sm_I x3)] μ) (fun J8 x2 x3 μ hJ8 h => ?_) h
    refine sr_iload_n C 3 rfl rfl d_R_readSum_8 ?_
    refine sr_aload_n C 0 rfl rfl d_R_readSum_9 ?_
    refine sr_getI C sm_F2 2 q_136 sm_l43 rfl (by decide) d_R_readSum_10 ?_
    refine sr_icmp_ge C (tgt := 76) d_R_readSum_13 (by decide) (fun c3 => ?_) (fun c3 => ?_)
    · replace h := Eq.mp (if_pos c3) h
      refine sr_iload_n C 2 rfl rfl d_R_readSum_76 ?_
      obtain ⟨g4, h⟩ := h
      exact hR _ _ _ _ d_R_readSum_77 (sm_narZ g4) h
    · replace h := Eq.mp (if_neg c3) h
      refine sr_iload_n C 2 rfl rfl d_R_readSum_16 ?_
      refine sr_if_eq C (tgt := 76) d_R_readSum_17 (by decide) (fun c5 => ?_) (fun c5 => ?_)
      · replace h := Eq.mp (if_pos c5) h
        refine sr_iload_n C 2 rfl rfl d_R_readSum_76 ?_
        obtain ⟨g6, h⟩ := h
        exact hR _ _ _ _ d_R_readSum_77 (sm_narZ g6) h
      · replace h := Eq.mp (if_neg c5) h
        refine sr_aload_n C 0 rfl rfl d_R_readSum_20 ?_
        refine sr_callVI C [] (P_R_next l h) ok_30 sm_l43 rfl rfl rfl rfl ⟨by dsimp only; omega, by dsimp only; omega⟩ (Nat.le_of_ble_eq_true rfl) ⟨Nat.zero_le _, Nat.zero_le _⟩ d_R_readSum_21 (fun r8 μ7 h => ?_)
        refine sr_bipush C (v := 43) d_R_readSum_24 (by decide) ?_
        refine sr_icmp_eq C (tgt := 38) d_R_readSum_26 (by decide) (fun c9 => ?_) (fun c9 => ?_)
        · replace h := Eq.mp (if_pos c9) h
          refine sr_mask C [0, 1, 3] rfl ?_
          exact B38 _ hJ8 _ _ h
        · replace h := Eq.mp (if_neg c9) h
          refine sr_aload_n C 0 rfl rfl d_R_readSum_29 ?_
          refine sr_callVI C [] (P_R_next l h) ok_30 sm_l43 rfl rfl rfl rfl ⟨by dsimp only; omega, by dsimp only; omega⟩ (Nat.le_of_ble_eq_true rfl) ⟨Nat.zero_le _, Nat.zero_le _⟩ d_R_readSum_30 (fun r17 μ16 h => ?_)
          refine sr_bipush C (v := 45) d_R_readSum_33 (by decide) ?_
          refine sr_icmp_ne C (tgt := 76) d_R_readSum_35 (by decide) (fun c18 => ?_) (fun c18 => ?_)
          · replace h := Eq.mp (if_neg c18) h
            refine sr_iload_n C 2 rfl rfl d_R_readSum_76 ?_
            obtain ⟨g19, h⟩ := h
            exact hR _ _ _ _ d_R_readSum_77 (sm_narZ g19) h
          · replace h := Eq.mp (if_pos c18) h
            refine sr_mask C [0, 1, 3] rfl ?_
            exact B38 _ hJ8 _ _ h
  refine sr_aload_n C 0 rfl rfl d_R_readSum_0 ?_
  refine sr_iload_n C 1 rfl rfl d_R_readSum_1 ?_
  refine sr_callVI C [sm_I _] (hF4 h) ok_34 sm_l43 rfl rfl rfl rfl ⟨by dsimp only; omega, by dsimp only; omega⟩ (Nat.le_of_ble_eq_true rfl) ⟨Nat.zero_le _, Nat.zero_le _⟩ d_R_readSum_2 (fun r2 μ1 h => ?_)
  refine sr_istore_n C rfl (by decide) d_R_readSum_5 ?_
  refine sr_iconst C (v := 0) d_R_readSum_6 (by decide) ?_
  refine sr_istore_n C rfl (by decide) d_R_readSum_7 ?_
  refine sr_mask C [2, 3, 1, 0] rfl ?_
  exact B8 _ _ _ h
theorem d_R_readProduct_0 : decode prog_5_method_8_code 0 = .ok (.aload_n 0, 1) := by decide +kernel
theorem d_R_readProduct_1 : decode prog_5_method_8_code 1 = .ok (.iload_n 1, 1) := by decide +kernel
theorem d_R_readProduct_2 : decode prog_5_method_8_code 2 = .ok (.invokevirtual 77, 3) := by decide +kernel
theorem d_R_readProduct_5 : decode prog_5_method_8_code 5 = .ok (.istore_n 2, 1) := by decide +kernel
theorem d_R_readProduct_6 : decode prog_5_method_8_code 6 = .ok (.iconst 0, 1) := by decide +kernel
theorem d_R_readProduct_7 : decode prog_5_method_8_code 7 = .ok (.istore_n 3, 1) := by decide +kernel
theorem d_R_readProduct_8 : decode prog_5_method_8_code 8 = .ok (.iload_n 3, 1) := by decide +kernel
theorem d_R_readProduct_9 : decode prog_5_method_8_code 9 = .ok (.aload_n 0, 1) := by decide +kernel
theorem d_R_readProduct_10 : decode prog_5_method_8_code 10 = .ok (.getfield 37, 3) := by decide +kernel
theorem d_R_readProduct_13 : decode prog_5_method_8_code 13 = .ok (.if_icmp .ge 72, 3) := by decide +kernel
theorem d_R_readProduct_16 : decode prog_5_method_8_code 16 = .ok (.iload_n 2, 1) := by decide +kernel
theorem d_R_readProduct_17 : decode prog_5_method_8_code 17 = .ok (.ifCond .eq 68, 3) := by decide +kernel
theorem d_R_readProduct_20 : decode prog_5_method_8_code 20 = .ok (.aload_n 0, 1) := by decide +kernel
theorem d_R_readProduct_21 : decode prog_5_method_8_code 21 = .ok (.invokevirtual 60, 3) := by decide +kernel
theorem d_R_readProduct_24 : decode prog_5_method_8_code 24 = .ok (.bipush 42, 2) := by decide +kernel
theorem d_R_readProduct_26 : decode prog_5_method_8_code 26 = .ok (.if_icmp .eq 21, 3) := by decide +kernel
theorem d_R_readProduct_29 : decode prog_5_method_8_code 29 = .ok (.aload_n 0, 1) := by decide +kernel
theorem d_R_readProduct_30 : decode prog_5_method_8_code 30 = .ok (.invokevirtual 60, 3) := by decide +kernel
theorem d_R_readProduct_33 : decode prog_5_method_8_code 33 = .ok (.bipush 47, 2) := by decide +kernel
theorem d_R_readProduct_35 : decode prog_5_method_8_code 35 = .ok (.if_icmp .eq 12, 3) := by decide +kernel
theorem d_R_readProduct_38 : decode prog_5_method_8_code 38 = .ok (.aload_n 0, 1) := by decide +kernel
theorem d_R_readProduct_39 : decode prog_5_method_8_code 39 = .ok (.invokevirtual 60, 3) := by decide +kernel
theorem d_R_readProduct_42 : decode prog_5_method_8_code 42 = .ok (.bipush 37, 2) := by decide +kernel
theorem d_R_readProduct_44 : decode prog_5_method_8_code 44 = .ok (.if_icmp .ne 41, 3) := by decide +kernel
theorem d_R_readProduct_47 : decode prog_5_method_8_code 47 = .ok (.aload_n 0, 1) := by decide +kernel
theorem d_R_readProduct_48 : decode prog_5_method_8_code 48 = .ok (.invokevirtual 60, 3) := by decide +kernel
theorem d_R_readProduct_51 : decode prog_5_method_8_code 51 = .ok (.istore 4, 2) := by decide +kernel
theorem d_R_readProduct_53 : decode prog_5_method_8_code 53 = .ok (.aload_n 0, 1) := by decide +kernel
theorem d_R_readProduct_54 : decode prog_5_method_8_code 54 = .ok (.dup, 1) := by decide +kernel
theorem d_R_readProduct_55 : decode prog_5_method_8_code 55 = .ok (.getfield 47, 3) := by decide +kernel
theorem d_R_readProduct_58 : decode prog_5_method_8_code 58 = .ok (.iconst 1, 1) := by decide +kernel
theorem d_R_readProduct_59 : decode prog_5_method_8_code 59 = .ok (.iadd, 1) := by decide +kernel
theorem d_R_readProduct_60 : decode prog_5_method_8_code 60 = .ok (.putfield 47, 3) := by decide +kernel
theorem d_R_readProduct_63 : decode prog_5_method_8_code 63 = .ok (.aload_n 0, 1) := by decide +kernel
theorem d_R_readProduct_64 : decode prog_5_method_8_code 64 = .ok (.iload_n 1, 1) := by decide +kernel
theorem d_R_readProduct_65 : decode prog_5_method_8_code 65 = .ok (.invokevirtual 77, 3) := by decide +kernel
theorem d_R_readProduct_68 : decode prog_5_method_8_code 68 = .ok (.istore_n 2, 1) := by decide +kernel
theorem d_R_readProduct_69 : decode prog_5_method_8_code 69 = .ok (.aload_n 0, 1) := by decide +kernel
theorem d_R_readProduct_70 : decode prog_5_method_8_code 70 = .ok (.getfield 10, 3) := by decide +kernel
theorem d_R_readProduct_73 : decode prog_5_method_8_code 73 = .ok (.iload 4, 2) := by decide +kernel
theorem d_R_readProduct_75 : decode prog_5_method_8_code 75 = .ok (.iconst 0, 1) := by decide +kernel
theorem d_R_readProduct_76 : decode prog_5_method_8_code 76 = .ok (.invokevirtual 64, 3) := by decide +kernel
theorem d_R_readProduct_79 : decode prog_5_method_8_code 79 = .ok (.iinc 3 1, 3) := by decide +kernel
theorem d_R_readProduct_82 : decode prog_5_method_8_code 82 = .ok (.goto (-74), 3) := by decide +kernel
theorem d_R_readProduct_85 : decode prog_5_method_8_code 85 = .ok (.iload_n 2, 1) := by decide +kernel
theorem d_R_readProduct_86 : decode prog_5_method_8_code 86 = .ok (.ireturn, 1) := by decide +kernel
def w_R_readProduct_47 (F : Nat → (Int32 → sm_Mem → Prop) → Int32 → sm_Mem → Prop) (K : Int32 → sm_Mem → Prop) (J8 : Int32 → Int32 → sm_Mem → Prop) (p0 : Int32) (x3 : Int32) (μ : sm_Mem) : Prop := w_R_next (fun r11 μ10 => ∀ μ12 : sm_Mem, μ12 = sm_st μ10 43 3 ((μ10 43 3) + 1) → F 5 (fun r14 μ13 => w_T_add (fun μ15 => J8 r14 (x3 + 1) μ15) 44 r11 0 μ13) p0 μ12) μ
def w_R_readProduct_8 (F : Nat → (Int32 → sm_Mem → Prop) → Int32 → sm_Mem → Prop) (K : Int32 → sm_Mem → Prop) (p0 : Int32) (x2 : Int32) (x3 : Int32) (μ : sm_Mem) : Prop := sm_lp2 (fun J8 x2 x3 μ => if (μ 43 2) ≤ x3 then ((x2 = 0 ∨ x2 = 1) ∧ K x2 μ) else (if x2 = 0 then ((x2 = 0 ∨ x2 = 1) ∧ K x2 μ) else (w_R_next (fun r8 μ7 => if r8 = 42 then w_R_readProduct_47 F K J8 p0 x3 μ7 else (w_R_next (fun r17 μ16 => if r17 = 47 then w_R_readProduct_47 F K J8 p0 x3 μ16 else (w_R_next (fun r20 μ19 => if r20 = 37 then w_R_readProduct_47 F K J8 p0 x3 μ19 else ((x2 = 0 ∨ x2 = 1) ∧ K x2 μ19)) μ16)) μ7)) μ))) x2 x3 μ
def w_R_readProduct (F : Nat → (Int32 → sm_Mem → Prop) → Int32 → sm_Mem → Prop) (K : Int32 → sm_Mem → Prop) (p0 : Int32) (μ : sm_Mem) : Prop := F 5 (fun r2 μ1 => w_R_readProduct_8 F K p0 r2 0 μ1) p0 μ
set_option maxHeartbeats 4000000 in
set_option maxRecDepth 100000 in
theorem P_R_readProduct (l : Launch) {F : Nat → (Int32 → sm_Mem → Prop) → Int32 → sm_Mem → Prop} {n : Nat} (hF5 : ∀ {K : Int32 → sm_Mem → Prop} {p0 : Int32} {μ : sm_Mem}, F 5 K p0 μ → sm_MI l ⟨"SnowMoney$Reader", "readPart", "(I)Z"⟩ prog_5_method_9_code 4 (some .boolean) { frames := n + 12, cells := 0, slots := 0, locals := n * 40 + 800 } [sm_R 43, sm_I p0] μ K) {K : Int32 → sm_Mem → Prop} {p0 : Int32} {μ : sm_Mem} (h : w_R_readProduct F K p0 μ) : sm_MI l ⟨"SnowMoney$Reader", "readProduct", "(I)Z"⟩ prog_5_method_8_code 5 (some .boolean) { frames := n + 1 + 12, cells := 0, slots := 0, locals := (n + 1) * 40 + 800 } [sm_R 43, sm_I p0] μ K := by
  refine sm_ofI (by decide +kernel) (fun _ => Nat.le_of_ble_eq_true rfl) ?_
  intro p e s m args below meth c A Q G C hR
  have B47 : ∀ (J8 : Int32 → Int32 → sm_Mem → Prop) (hJ8 : ∀ (x2 : Int32) (x3 : Int32) (μ : sm_Mem), J8 x2 x3 μ → sm_W p l e { frames := n + 1 + 12, cells := 0, slots := 0, locals := (n + 1) * 40 + 800 } s m args below meth c A Q G 5 0 0 8 [] [(0, sm_R 43), (1, sm_I p0), (2, sm_I x2), (3, sm_I x3)] μ) (x3 : Int32) (μ : sm_Mem), w_R_readProduct_47 F K J8 p0 x3 μ → sm_W p l e { frames := n + 1 + 12, cells := 0, slots := 0, locals := (n + 1) * 40 + 800 } s m args below meth c A Q G 5 0 0 47 [] [(0, sm_R 43), (1, sm_I p0), (3, sm_I x3)] μ := by
    intro J8 hJ8 x3 μ h
    refine sr_aload_n C 0 rfl rfl d_R_readProduct_47 ?_
    refine sr_callVI C [] (P_R_next l h) ok_30 sm_l43 rfl rfl rfl rfl ⟨by dsimp only; omega, by dsimp only; omega⟩ (Nat.le_of_ble_eq_true rfl) ⟨Nat.zero_le _, Nat.zero_le _⟩ d_R_readProduct_48 (fun r11 μ10 h => ?_)
    refine sr_istore C (by decide) d_R_readProduct_51 ?_
    refine sr_aload_n C 1 rfl rfl d_R_readProduct_53 ?_
    refine sr_dup C rfl d_R_readProduct_54 ?_
    refine sr_getI C sm_F2 3 q_139 sm_l43 rfl (by decide) d_R_readProduct_55 ?_
    refine sr_iconst C (v := 1) d_R_readProduct_58 (by decide) ?_
    refine sr_iadd C d_R_readProduct_59 ?_
    refine sr_putI C sm_F2 3 q_139 sm_l43 rfl rfl (by decide) rfl d_R_readProduct_60 ?_
    replace h := h _ rfl
    refine sr_aload_n C 1 rfl rfl d_R_readProduct_63 ?_
    refine sr_iload_n C 2 rfl rfl d_R_readProduct_64 ?_
    refine sr_callVI C [sm_I _] (hF5 h) ok_35 sm_l43 rfl rfl rfl rfl ⟨by dsimp only; omega, by dsimp only; omega⟩ (Nat.le_of_ble_eq_true rfl) ⟨Nat.zero_le _, Nat.zero_le _⟩ d_R_readProduct_65 (fun r14 μ13 h => ?_)
    refine sr_istore_n C rfl (by decide) d_R_readProduct_68 ?_
    refine sr_aload_n C 2 rfl rfl d_R_readProduct_69 ?_
    refine sr_getR C sm_F2 0 q_140 sm_l43 (r := 44) rfl (by decide) d_R_readProduct_70 ?_
    refine sr_iload C 1 rfl d_R_readProduct_73 ?_
    refine sr_iconst C (v := 0) d_R_readProduct_75 (by decide) ?_
    refine sr_callVV C [sm_I _, sm_I _] (P_T_add l h) ok_31 sm_l44 rfl rfl rfl rfl ⟨by dsimp only; omega, by dsimp only; omega⟩ (Nat.le_of_ble_eq_true rfl) ⟨Nat.zero_le _, Nat.zero_le _⟩ d_R_readProduct_76 (fun μ15 h => ?_)
    refine sr_iinc C 4 rfl (by decide) d_R_readProduct_79 rfl ?_
    refine sr_goto C (tgt := 8) (by decide) d_R_readProduct_82 ?_
    refine sr_mask C [3, 4, 1, 0] rfl ?_
    exact hJ8 _ _ _ h
  have B8 : ∀ (x2 : Int32) (x3 : Int32) (μ : sm_Mem), w_R_readProduct_8 F K p0 x2 x3 μ → sm_W p l e { frames := n + 1 + 12, cells := 0, slots := 0, locals := (n + 1) * 40 + 800 } s m args below meth c A Q G 5 0 0 8 [] [(0, sm_R 43), (1, sm_I p0), (2, sm_I x2), (3, sm_I x3)] μ := by
    intro x2 x3 μ h
    refine sm_lp2_sound (P := fun x2 x3 μ => sm_W p l e { frames := n + 1 + 12, cells := 0, slots := 0, locals := (n + 1) * 40 + 800 } s m args below meth c A Q G 5 0 0 8 [] [(0, sm_R 43), (1, sm_I p0), (2, sm_I x2), (3, sm_I x3)] μ) (fun J8 x2 x3 μ hJ8 h => ?_) h
    refine sr_iload_n C 3 rfl rfl d_R_readProduct_8 ?_
    refine sr_aload_n C 0 rfl rfl d_R_readProduct_9 ?_
    refine sr_getI C sm_F2 2 q_136 sm_l43 rfl (by decide) d_R_readProduct_10 ?_
    refine sr_icmp_ge C (tgt := 85) d_R_readProduct_13 (by decide) (fun c3 => ?_) (fun c3 => ?_)
    · replace h := Eq.mp (if_pos c3) h
      refine sr_iload_n C 2 rfl rfl d_R_readProduct_85 ?_
      obtain ⟨g4, h⟩ := h
      exact hR _ _ _ _ d_R_readProduct_86 (sm_narZ g4) h
    · replace h := Eq.mp (if_neg c3) h
      refine sr_iload_n C 2 rfl rfl d_R_readProduct_16 ?_
      refine sr_if_eq C (tgt := 85) d_R_readProduct_17 (by decide) (fun c5 => ?_) (fun c5 => ?_)
      · replace h := Eq.mp (if_pos c5) h
        refine sr_iload_n C 2 rfl rfl d_R_readProduct_85 ?_
        obtain ⟨g6, h⟩ := h
        exact hR _ _ _ _ d_R_readProduct_86 (sm_narZ g6) h
      · replace h := Eq.mp (if_neg c5) h
        refine sr_aload_n C 0 rfl rfl d_R_readProduct_20 ?_
        refine sr_callVI C [] (P_R_next l h) ok_30 sm_l43 rfl rfl rfl rfl ⟨by dsimp only; omega, by dsimp only; omega⟩ (Nat.le_of_ble_eq_true rfl) ⟨Nat.zero_le _, Nat.zero_le _⟩ d_R_readProduct_21 (fun r8 μ7 h => ?_)
        refine sr_bipush C (v := 42) d_R_readProduct_24 (by decide) ?_
        refine sr_icmp_eq C (tgt := 47) d_R_readProduct_26 (by decide) (fun c9 => ?_) (fun c9 => ?_)
        · replace h := Eq.mp (if_pos c9) h
          refine sr_mask C [0, 1, 3] rfl ?_
          exact B47 _ hJ8 _ _ h
        · replace h := Eq.mp (if_neg c9) h
          refine sr_aload_n C 0 rfl rfl d_R_readProduct_29 ?_
          refine sr_callVI C [] (P_R_next l h) ok_30 sm_l43 rfl rfl rfl rfl ⟨by dsimp only; omega, by dsimp only; omega⟩ (Nat.le_of_ble_eq_true rfl) ⟨Nat.zero_le _, Nat.zero_le _⟩ d_R_readProduct_30 (fun r17 μ16 h => ?_)
          refine sr_bipush C (v := 47) d_R_readProduct_33 (by decide) ?_
          refine sr_icmp_eq C (tgt := 47) d_R_readProduct_35 (by decide) (fun c18 => ?_) (fun c18 => ?_)
          · replace h := Eq.mp (if_pos c18) h
            refine sr_mask C [0, 1, 3] rfl ?_
            exact B47 _ hJ8 _ _ h
          · replace h := Eq.mp (if_neg c18) h
            refine sr_aload_n C 0 rfl rfl d_R_readProduct_38 ?_
            refine sr_callVI C [] (P_R_next l h) ok_30 sm_l43 rfl rfl rfl rfl ⟨by dsimp only; omega, by dsimp only; omega⟩ (Nat.le_of_ble_eq_true rfl) ⟨Nat.zero_le _, Nat.zero_le _⟩ d_R_readProduct_39 (fun r20 μ19 h => ?_)
            refine sr_bipush C (v := 37) d_R_readProduct_42 (by decide) ?_
            refine sr_icmp_ne C (tgt := 85) d_R_readProduct_44 (by decide) (fun c21 => ?_) (fun c21 => ?_)
            · replace h := Eq.mp (if_neg c21) h
              refine sr_iload_n C 2 rfl rfl d_R_readProduct_85 ?_
              obtain ⟨g22, h⟩ := h
              exact hR _ _ _ _ d_R_readProduct_86 (sm_narZ g22) h
            · replace h := Eq.mp (if_pos c21) h
              refine sr_mask C [0, 1, 3] rfl ?_
              exact B47 _ hJ8 _ _ h
  refine sr_aload_n C 0 rfl rfl d_R_readProduct_0 ?_
  refine sr_iload_n C 1 rfl rfl d_R_readProduct_1 ?_
  refine sr_callVI C [sm_I _] (hF5 h) ok_35 sm_l43 rfl rfl rfl rfl ⟨by dsimp only; omega, by dsimp only; omega⟩ (Nat.le_of_ble_eq_true rfl) ⟨Nat.zero_le _, Nat.zero_le _⟩ d_R_readProduct_2 (fun r2 μ1 h => ?_)
  refine sr_istore_n C rfl (by decide) d_R_readProduct_5 ?_
  refine sr_iconst C (v := 0) d_R_readProduct_6 (by decide) ?_
  refine sr_istore_n C rfl (by decide) d_R_readProduct_7 ?_
  refine sr_mask C [2, 3, 1, 0] rfl ?_
  exact B8 _ _ _ h
theorem d_R_isDigit_0 : decode prog_5_method_13_code 0 = .ok (.iload_n 0, 1) := by decide +kernel
theorem d_R_isDigit_1 : decode prog_5_method_13_code 1 = .ok (.bipush 48, 2) := by decide +kernel
theorem d_R_isDigit_3 : decode prog_5_method_13_code 3 = .ok (.if_icmp .lt 13, 3) := by decide +kernel
theorem d_R_isDigit_6 : decode prog_5_method_13_code 6 = .ok (.iload_n 0, 1) := by decide +kernel
theorem d_R_isDigit_7 : decode prog_5_method_13_code 7 = .ok (.bipush 57, 2) := by decide +kernel
theorem d_R_isDigit_9 : decode prog_5_method_13_code 9 = .ok (.if_icmp .gt 7, 3) := by decide +kernel
theorem d_R_isDigit_12 : decode prog_5_method_13_code 12 = .ok (.iconst 1, 1) := by decide +kernel
theorem d_R_isDigit_13 : decode prog_5_method_13_code 13 = .ok (.goto 4, 3) := by decide +kernel
theorem d_R_isDigit_16 : decode prog_5_method_13_code 16 = .ok (.iconst 0, 1) := by decide +kernel
theorem d_R_isDigit_17 : decode prog_5_method_13_code 17 = .ok (.ireturn, 1) := by decide +kernel
def w_R_isDigit (K : Int32 → sm_Mem → Prop) (p0 : Int32) (μ : sm_Mem) : Prop := if p0 < 48 then K 0 μ else (if 57 < p0 then K 0 μ else K 1 μ)
set_option maxHeartbeats 4000000 in
set_option maxRecDepth 100000 in
theorem P_R_isDigit (l : Launch) {K : Int32 → sm_Mem → Prop} {p0 : Int32} {μ : sm_Mem} (h : w_R_isDigit K p0 μ) : sm_MI l ⟨"SnowMoney$Reader", "isDigit", "(I)Z"⟩ prog_5_method_13_code 1 (some .boolean) { frames := 0, cells := 0, slots := 0, locals := 0 } [sm_I p0] μ K := by
  refine sm_ofI (by decide +kernel) (fun _ => Nat.le_of_ble_eq_true rfl) ?_
  intro p e s m args below meth c A Q G C hR
  refine sr_iload_n C 0 rfl rfl d_R_isDigit_0 ?_
  refine sr_bipush C (v := 48) d_R_isDigit_1 (by decide) ?_
  refine sr_icmp_lt C (tgt := 16) d_R_isDigit_3 (by decide) (fun c1 => ?_) (fun c1 => ?_)
  · replace h := Eq.mp (if_pos c1) h
    refine sr_iconst C (v := 0) d_R_isDigit_16 (by decide) ?_
    exact hR _ _ _ _ d_R_isDigit_17 rfl h
  · replace h := Eq.mp (if_neg c1) h
    refine sr_iload_n C 0 rfl rfl d_R_isDigit_6 ?_
    refine sr_bipush C (v := 57) d_R_isDigit_7 (by decide) ?_
    refine sr_icmp_gt C (tgt := 16) d_R_isDigit_9 (by decide) (fun c2 => ?_) (fun c2 => ?_)
    · replace h := Eq.mp (if_pos c2) h
      refine sr_iconst C (v := 0) d_R_isDigit_16 (by decide) ?_
      exact hR _ _ _ _ d_R_isDigit_17 rfl h
    · replace h := Eq.mp (if_neg c2) h
      refine sr_iconst C (v := 1) d_R_isDigit_12 (by decide) ?_
      refine sr_goto C (tgt := 17) (by decide) d_R_isDigit_13 ?_
      exact hR _ _ _ _ d_R_isDigit_17 rfl h
theorem d_R_readNumber_0 : decode prog_5_method_12_code 0 = .ok (.iconst 0, 1) := by decide +kernel
theorem d_R_readNumber_1 : decode prog_5_method_12_code 1 = .ok (.istore_n 1, 1) := by decide +kernel
theorem d_R_readNumber_2 : decode prog_5_method_12_code 2 = .ok (.iconst 0, 1) := by decide +kernel
theorem d_R_readNumber_3 : decode prog_5_method_12_code 3 = .ok (.istore_n 2, 1) := by decide +kernel
theorem d_R_readNumber_4 : decode prog_5_method_12_code 4 = .ok (.iload_n 2, 1) := by decide +kernel
theorem d_R_readNumber_5 : decode prog_5_method_12_code 5 = .ok (.iconst 4, 1) := by decide +kernel
theorem d_R_readNumber_6 : decode prog_5_method_12_code 6 = .ok (.if_icmp .ge 42, 3) := by decide +kernel
theorem d_R_readNumber_9 : decode prog_5_method_12_code 9 = .ok (.aload_n 0, 1) := by decide +kernel
theorem d_R_readNumber_10 : decode prog_5_method_12_code 10 = .ok (.invokevirtual 60, 3) := by decide +kernel
theorem d_R_readNumber_13 : decode prog_5_method_12_code 13 = .ok (.invokestatic 80, 3) := by decide +kernel
theorem d_R_readNumber_16 : decode prog_5_method_12_code 16 = .ok (.ifCond .eq 32, 3) := by decide +kernel
theorem d_R_readNumber_19 : decode prog_5_method_12_code 19 = .ok (.iload_n 1, 1) := by decide +kernel
theorem d_R_readNumber_20 : decode prog_5_method_12_code 20 = .ok (.bipush 10, 2) := by decide +kernel
theorem d_R_readNumber_22 : decode prog_5_method_12_code 22 = .ok (.imul, 1) := by decide +kernel
theorem d_R_readNumber_23 : decode prog_5_method_12_code 23 = .ok (.aload_n 0, 1) := by decide +kernel
theorem d_R_readNumber_24 : decode prog_5_method_12_code 24 = .ok (.invokevirtual 60, 3) := by decide +kernel
theorem d_R_readNumber_27 : decode prog_5_method_12_code 27 = .ok (.iadd, 1) := by decide +kernel
theorem d_R_readNumber_28 : decode prog_5_method_12_code 28 = .ok (.bipush 48, 2) := by decide +kernel
theorem d_R_readNumber_30 : decode prog_5_method_12_code 30 = .ok (.isub, 1) := by decide +kernel
theorem d_R_readNumber_31 : decode prog_5_method_12_code 31 = .ok (.istore_n 1, 1) := by decide +kernel
theorem d_R_readNumber_32 : decode prog_5_method_12_code 32 = .ok (.aload_n 0, 1) := by decide +kernel
theorem d_R_readNumber_33 : decode prog_5_method_12_code 33 = .ok (.dup, 1) := by decide +kernel
theorem d_R_readNumber_34 : decode prog_5_method_12_code 34 = .ok (.getfield 47, 3) := by decide +kernel
theorem d_R_readNumber_37 : decode prog_5_method_12_code 37 = .ok (.iconst 1, 1) := by decide +kernel
theorem d_R_readNumber_38 : decode prog_5_method_12_code 38 = .ok (.iadd, 1) := by decide +kernel
theorem d_R_readNumber_39 : decode prog_5_method_12_code 39 = .ok (.putfield 47, 3) := by decide +kernel
theorem d_R_readNumber_42 : decode prog_5_method_12_code 42 = .ok (.iinc 2 1, 3) := by decide +kernel
theorem d_R_readNumber_45 : decode prog_5_method_12_code 45 = .ok (.goto (-41), 3) := by decide +kernel
theorem d_R_readNumber_48 : decode prog_5_method_12_code 48 = .ok (.aload_n 0, 1) := by decide +kernel
theorem d_R_readNumber_49 : decode prog_5_method_12_code 49 = .ok (.getfield 10, 3) := by decide +kernel
theorem d_R_readNumber_52 : decode prog_5_method_12_code 52 = .ok (.bipush 110, 2) := by decide +kernel
theorem d_R_readNumber_54 : decode prog_5_method_12_code 54 = .ok (.iload_n 1, 1) := by decide +kernel
theorem d_R_readNumber_55 : decode prog_5_method_12_code 55 = .ok (.invokevirtual 64, 3) := by decide +kernel
theorem d_R_readNumber_58 : decode prog_5_method_12_code 58 = .ok (.return_, 1) := by decide +kernel
def w_R_readNumber_48 (K : sm_Mem → Prop) (x1 : Int32) (μ : sm_Mem) : Prop := w_T_add (fun μ2 => K μ2) 44 110 x1 μ
def w_R_readNumber_4 (K : sm_Mem → Prop) (x1 : Int32) (x2 : Int32) (μ : sm_Mem) : Prop := sm_lp2 (fun J4 x1 x2 μ => if 4 ≤ x2 then w_R_readNumber_48 K x1 μ else (w_R_next (fun r4 μ3 => w_R_isDigit (fun r6 μ5 => if r6 = 0 then w_R_readNumber_48 K x1 μ5 else (w_R_next (fun r9 μ8 => ∀ v10 : Int32, v10 = (((x1 * 10) + r9) - 48) → ∀ μ11 : sm_Mem, μ11 = sm_st μ8 43 3 ((μ8 43 3) + 1) → J4 v10 (x2 + 1) μ11) μ5)) r4 μ3) μ)) x1 x2 μ
def w_R_readNumber (K : sm_Mem → Prop) (μ : sm_Mem) : Prop := w_R_readNumber_4 K 0 0 μ
set_option maxHeartbeats 4000000 in
set_option maxRecDepth 100000 in
theorem P_R_readNumber (l : Launch) {K : sm_Mem → Prop} {μ : sm_Mem} (h : w_R_readNumber K μ) : sm_MV l ⟨"SnowMoney$Reader", "readNumber", "()V"⟩ prog_5_method_12_code 3 { frames := 1, cells := 0, slots := 0, locals := 22 } [sm_R 43] μ K := by
  refine sm_ofV (by decide +kernel) (fun _ => Nat.le_of_ble_eq_true rfl) ?_
  intro p e s m args below meth c A Q G C hR
  have B48 : ∀ (x1 : Int32) (μ : sm_Mem), w_R_readNumber_48 K x1 μ → sm_W p l e { frames := 1, cells := 0, slots := 0, locals := 22 } s m args below meth c A Q G 3 0 0 48 [] [(0, sm_R 43), (1, sm_I x1)] μ := by
    intro x1 μ h
    refine sr_aload_n C 0 rfl rfl d_R_readNumber_48 ?_
    refine sr_getR C sm_F2 0 q_140 sm_l43 (r := 44) rfl (by decide) d_R_readNumber_49 ?_
    refine sr_bipush C (v := 110) d_R_readNumber_52 (by decide) ?_
    refine sr_iload_n C 1 rfl rfl d_R_readNumber_54 ?_
    refine sr_callVV C [sm_I _, sm_I _] (P_T_add l h) ok_31 sm_l44 rfl rfl rfl rfl ⟨Nat.le_of_ble_eq_true rfl, Nat.le_of_ble_eq_true rfl⟩ (Nat.le_of_ble_eq_true rfl) ⟨Nat.zero_le _, Nat.zero_le _⟩ d_R_readNumber_55 (fun μ2 h => ?_)
    exact hR _ _ _ d_R_readNumber_58 h
  have B4 : ∀ (x1 : Int32) (x2 : Int32) (μ : sm_Mem), w_R_readNumber_4 K x1 x2 μ → sm_W p l e { frames := 1, cells := 0, slots := 0, locals := 22 } s m args below meth c A Q G 3 0 0 4 [] [(0, sm_R 43), (1, sm_I x1), (2, sm_I x2)] μ := by
    intro x1 x2 μ h
    refine sm_lp2_sound (P := fun x1 x2 μ => sm_W p l e { frames := 1, cells := 0, slots := 0, locals := 22 } s m args below meth c A Q G 3 0 0 4 [] [(0, sm_R 43), (1, sm_I x1), (2, sm_I x2)] μ) (fun J4 x1 x2 μ hJ4 h => ?_) h
    refine sr_iload_n C 2 rfl rfl d_R_readNumber_4 ?_
    refine sr_iconst C (v := 4) d_R_readNumber_5 (by decide) ?_
    refine sr_icmp_ge C (tgt := 48) d_R_readNumber_6 (by decide) (fun c1 => ?_) (fun c1 => ?_)
    · replace h := Eq.mp (if_pos c1) h
      refine sr_mask C [0, 1] rfl ?_
      exact B48 _ _ h
    · replace h := Eq.mp (if_neg c1) h
      refine sr_aload_n C 0 rfl rfl d_R_readNumber_9 ?_
      refine sr_callVI C [] (P_R_next l h) ok_30 sm_l43 rfl rfl rfl rfl ⟨Nat.le_of_ble_eq_true rfl, Nat.le_of_ble_eq_true rfl⟩ (Nat.le_of_ble_eq_true rfl) ⟨Nat.zero_le _, Nat.zero_le _⟩ d_R_readNumber_10 (fun r4 μ3 h => ?_)
      refine sr_callSI C [sm_I _] (P_R_isDigit l h) ok_36 rfl rfl rfl ⟨Nat.le_of_ble_eq_true rfl, Nat.le_of_ble_eq_true rfl⟩ (Nat.le_of_ble_eq_true rfl) ⟨Nat.zero_le _, Nat.zero_le _⟩ d_R_readNumber_13 (fun r6 μ5 h => ?_)
      refine sr_if_eq C (tgt := 48) d_R_readNumber_16 (by decide) (fun c7 => ?_) (fun c7 => ?_)
      · replace h := Eq.mp (if_pos c7) h
        refine sr_mask C [0, 1] rfl ?_
        exact B48 _ _ h
      · replace h := Eq.mp (if_neg c7) h
        refine sr_iload_n C 1 rfl rfl d_R_readNumber_19 ?_
        refine sr_bipush C (v := 10) d_R_readNumber_20 (by decide) ?_
        refine sr_imul C d_R_readNumber_22 ?_
        refine sr_aload_n C 0 rfl rfl d_R_readNumber_23 ?_
        refine sr_callVI C [] (P_R_next l h) ok_30 sm_l43 rfl rfl rfl rfl ⟨Nat.le_of_ble_eq_true rfl, Nat.le_of_ble_eq_true rfl⟩ (Nat.le_of_ble_eq_true rfl) ⟨Nat.zero_le _, Nat.zero_le _⟩ d_R_readNumber_24 (fun r9 μ8 h => ?_)
        refine sr_iadd C d_R_readNumber_27 ?_
        refine sr_bipush C (v := 48) d_R_readNumber_28 (by decide) ?_
        refine sr_isub C d_R_readNumber_30 ?_
        replace h := h _ rfl
        refine sr_istore_n C rfl (by decide) d_R_readNumber_31 ?_
        refine sr_aload_n C 1 rfl rfl d_R_readNumber_32 ?_
        refine sr_dup C rfl d_R_readNumber_33 ?_
        refine sr_getI C sm_F2 3 q_139 sm_l43 rfl (by decide) d_R_readNumber_34 ?_
        refine sr_iconst C (v := 1) d_R_readNumber_37 (by decide) ?_
        refine sr_iadd C d_R_readNumber_38 ?_
        refine sr_putI C sm_F2 3 q_139 sm_l43 rfl rfl (by decide) rfl d_R_readNumber_39 ?_
        replace h := h _ rfl
        refine sr_iinc C 2 rfl (by decide) d_R_readNumber_42 rfl ?_
        refine sr_goto C (tgt := 4) (by decide) d_R_readNumber_45 ?_
        refine sr_mask C [2, 1, 0] rfl ?_
        exact hJ4 _ _ _ h
  refine sr_iconst C (v := 0) d_R_readNumber_0 (by decide) ?_
  refine sr_istore_n C rfl (by decide) d_R_readNumber_1 ?_
  refine sr_iconst C (v := 0) d_R_readNumber_2 (by decide) ?_
  refine sr_istore_n C rfl (by decide) d_R_readNumber_3 ?_
  refine sr_mask C [2, 1, 0] rfl ?_
  exact B4 _ _ _ h
theorem d_R_readPart_0 : decode prog_5_method_9_code 0 = .ok (.aload_n 0, 1) := by decide +kernel
theorem d_R_readPart_1 : decode prog_5_method_9_code 1 = .ok (.invokevirtual 60, 3) := by decide +kernel
theorem d_R_readPart_4 : decode prog_5_method_9_code 4 = .ok (.istore_n 2, 1) := by decide +kernel
theorem d_R_readPart_5 : decode prog_5_method_9_code 5 = .ok (.iload_n 2, 1) := by decide +kernel
theorem d_R_readPart_6 : decode prog_5_method_9_code 6 = .ok (.invokestatic 80, 3) := by decide +kernel
theorem d_R_readPart_9 : decode prog_5_method_9_code 9 = .ok (.ifCond .eq 9, 3) := by decide +kernel
theorem d_R_readPart_12 : decode prog_5_method_9_code 12 = .ok (.aload_n 0, 1) := by decide +kernel
theorem d_R_readPart_13 : decode prog_5_method_9_code 13 = .ok (.invokevirtual 83, 3) := by decide +kernel
theorem d_R_readPart_16 : decode prog_5_method_9_code 16 = .ok (.iconst 1, 1) := by decide +kernel
theorem d_R_readPart_17 : decode prog_5_method_9_code 17 = .ok (.ireturn, 1) := by decide +kernel
theorem d_R_readPart_18 : decode prog_5_method_9_code 18 = .ok (.iload_n 2, 1) := by decide +kernel
theorem d_R_readPart_19 : decode prog_5_method_9_code 19 = .ok (.ifCond .ge 7, 3) := by decide +kernel
theorem d_R_readPart_22 : decode prog_5_method_9_code 22 = .ok (.iconst (-1), 1) := by decide +kernel
theorem d_R_readPart_23 : decode prog_5_method_9_code 23 = .ok (.goto 12, 3) := by decide +kernel
theorem d_R_readPart_26 : decode prog_5_method_9_code 26 = .ok (.aload_n 0, 1) := by decide +kernel
theorem d_R_readPart_27 : decode prog_5_method_9_code 27 = .ok (.getfield 24, 3) := by decide +kernel
theorem d_R_readPart_30 : decode prog_5_method_9_code 30 = .ok (.iload_n 2, 1) := by decide +kernel
theorem d_R_readPart_31 : decode prog_5_method_9_code 31 = .ok (.i2c, 1) := by decide +kernel
theorem d_R_readPart_32 : decode prog_5_method_9_code 32 = .ok (.invokevirtual 86, 3) := by decide +kernel
theorem d_R_readPart_35 : decode prog_5_method_9_code 35 = .ok (.istore_n 3, 1) := by decide +kernel
theorem d_R_readPart_36 : decode prog_5_method_9_code 36 = .ok (.iload_n 3, 1) := by decide +kernel
theorem d_R_readPart_37 : decode prog_5_method_9_code 37 = .ok (.ifCond .lt 25, 3) := by decide +kernel
theorem d_R_readPart_40 : decode prog_5_method_9_code 40 = .ok (.aload_n 0, 1) := by decide +kernel
theorem d_R_readPart_41 : decode prog_5_method_9_code 41 = .ok (.dup, 1) := by decide +kernel
theorem d_R_readPart_42 : decode prog_5_method_9_code 42 = .ok (.getfield 47, 3) := by decide +kernel
theorem d_R_readPart_45 : decode prog_5_method_9_code 45 = .ok (.iconst 1, 1) := by decide +kernel
theorem d_R_readPart_46 : decode prog_5_method_9_code 46 = .ok (.iadd, 1) := by decide +kernel
theorem d_R_readPart_47 : decode prog_5_method_9_code 47 = .ok (.putfield 47, 3) := by decide +kernel
theorem d_R_readPart_50 : decode prog_5_method_9_code 50 = .ok (.aload_n 0, 1) := by decide +kernel
theorem d_R_readPart_51 : decode prog_5_method_9_code 51 = .ok (.getfield 10, 3) := by decide +kernel
theorem d_R_readPart_54 : decode prog_5_method_9_code 54 = .ok (.bipush 97, 2) := by decide +kernel
theorem d_R_readPart_56 : decode prog_5_method_9_code 56 = .ok (.iload_n 3, 1) := by decide +kernel
theorem d_R_readPart_57 : decode prog_5_method_9_code 57 = .ok (.invokevirtual 64, 3) := by decide +kernel
theorem d_R_readPart_60 : decode prog_5_method_9_code 60 = .ok (.iconst 1, 1) := by decide +kernel
theorem d_R_readPart_61 : decode prog_5_method_9_code 61 = .ok (.ireturn, 1) := by decide +kernel
theorem d_R_readPart_62 : decode prog_5_method_9_code 62 = .ok (.iload_n 2, 1) := by decide +kernel
theorem d_R_readPart_63 : decode prog_5_method_9_code 63 = .ok (.bipush 33, 2) := by decide +kernel
theorem d_R_readPart_65 : decode prog_5_method_9_code 65 = .ok (.if_icmp .eq 9, 3) := by decide +kernel
theorem d_R_readPart_68 : decode prog_5_method_9_code 68 = .ok (.iload_n 2, 1) := by decide +kernel
theorem d_R_readPart_69 : decode prog_5_method_9_code 69 = .ok (.bipush 40, 2) := by decide +kernel
theorem d_R_readPart_71 : decode prog_5_method_9_code 71 = .ok (.if_icmp .ne 8, 3) := by decide +kernel
theorem d_R_readPart_74 : decode prog_5_method_9_code 74 = .ok (.iload_n 1, 1) := by decide +kernel
theorem d_R_readPart_75 : decode prog_5_method_9_code 75 = .ok (.iconst 5, 1) := by decide +kernel
theorem d_R_readPart_76 : decode prog_5_method_9_code 76 = .ok (.if_icmp .lt 5, 3) := by decide +kernel
theorem d_R_readPart_79 : decode prog_5_method_9_code 79 = .ok (.iconst 0, 1) := by decide +kernel
theorem d_R_readPart_80 : decode prog_5_method_9_code 80 = .ok (.ireturn, 1) := by decide +kernel
theorem d_R_readPart_81 : decode prog_5_method_9_code 81 = .ok (.aload_n 0, 1) := by decide +kernel
theorem d_R_readPart_82 : decode prog_5_method_9_code 82 = .ok (.dup, 1) := by decide +kernel
theorem d_R_readPart_83 : decode prog_5_method_9_code 83 = .ok (.getfield 47, 3) := by decide +kernel
theorem d_R_readPart_86 : decode prog_5_method_9_code 86 = .ok (.iconst 1, 1) := by decide +kernel
theorem d_R_readPart_87 : decode prog_5_method_9_code 87 = .ok (.iadd, 1) := by decide +kernel
theorem d_R_readPart_88 : decode prog_5_method_9_code 88 = .ok (.putfield 47, 3) := by decide +kernel
theorem d_R_readPart_91 : decode prog_5_method_9_code 91 = .ok (.iload_n 2, 1) := by decide +kernel
theorem d_R_readPart_92 : decode prog_5_method_9_code 92 = .ok (.bipush 33, 2) := by decide +kernel
theorem d_R_readPart_94 : decode prog_5_method_9_code 94 = .ok (.if_icmp .ne 13, 3) := by decide +kernel
theorem d_R_readPart_97 : decode prog_5_method_9_code 97 = .ok (.aload_n 0, 1) := by decide +kernel
theorem d_R_readPart_98 : decode prog_5_method_9_code 98 = .ok (.iload_n 1, 1) := by decide +kernel
theorem d_R_readPart_99 : decode prog_5_method_9_code 99 = .ok (.iconst 1, 1) := by decide +kernel
theorem d_R_readPart_100 : decode prog_5_method_9_code 100 = .ok (.iadd, 1) := by decide +kernel
theorem d_R_readPart_101 : decode prog_5_method_9_code 101 = .ok (.invokevirtual 92, 3) := by decide +kernel
theorem d_R_readPart_104 : decode prog_5_method_9_code 104 = .ok (.goto 10, 3) := by decide +kernel
theorem d_R_readPart_107 : decode prog_5_method_9_code 107 = .ok (.aload_n 0, 1) := by decide +kernel
theorem d_R_readPart_108 : decode prog_5_method_9_code 108 = .ok (.iload_n 1, 1) := by decide +kernel
theorem d_R_readPart_109 : decode prog_5_method_9_code 109 = .ok (.iconst 1, 1) := by decide +kernel
theorem d_R_readPart_110 : decode prog_5_method_9_code 110 = .ok (.iadd, 1) := by decide +kernel
theorem d_R_readPart_111 : decode prog_5_method_9_code 111 = .ok (.invokevirtual 95, 3) := by decide +kernel
theorem d_R_readPart_114 : decode prog_5_method_9_code 114 = .ok (.ireturn, 1) := by decide +kernel
def w_R_readPart_74 (F : Nat → (Int32 → sm_Mem → Prop) → Int32 → sm_Mem → Prop) (K : Int32 → sm_Mem → Prop) (p0 : Int32) (x2 : Int32) (μ : sm_Mem) : Prop := if p0 < 5 then (∀ μ12 : sm_Mem, μ12 = sm_st μ 43 3 ((μ 43 3) + 1) → if x2 = 33 then (F 6 (fun r18 μ17 => (r18 = 0 ∨ r18 = 1) ∧ K r18 μ17) (p0 + 1) μ12) else (F 7 (fun r15 μ14 => (r15 = 0 ∨ r15 = 1) ∧ K r15 μ14) (p0 + 1) μ12)) else K 0 μ
def w_R_readPart_35 (F : Nat → (Int32 → sm_Mem → Prop) → Int32 → sm_Mem → Prop) (K : Int32 → sm_Mem → Prop) (p0 : Int32) (x2 : Int32) (s0 : Int32) (μ : sm_Mem) : Prop := if s0 < 0 then (if x2 = 33 then w_R_readPart_74 F K p0 x2 μ else (if x2 = 40 then w_R_readPart_74 F K p0 x2 μ else K 0 μ)) else (∀ μ21 : sm_Mem, μ21 = sm_st μ 43 3 ((μ 43 3) + 1) → w_T_add (fun μ22 => K 1 μ22) 44 97 s0 μ21)
def w_R_readPart (F : Nat → (Int32 → sm_Mem → Prop) → Int32 → sm_Mem → Prop) (K : Int32 → sm_Mem → Prop) (p0 : Int32) (μ : sm_Mem) : Prop := w_R_next (fun r2 μ1 => w_R_isDigit (fun r4 μ3 => if r4 = 0 then (if 0 ≤ r2 then (((μ3 43 4).toNatClampNeg < 3) ∧ (0 ≤ (r2.toUInt32 % 65536).toInt32 ∧ (r2.toUInt32 % 65536).toInt32 < 65536) ∧ w_R_readPart_35 F K p0 r2 (sm_idx (μ3 43 4).toNatClampNeg (r2.toUInt32 % 65536).toInt32) μ3) else w_R_readPart_35 F K p0 r2 (-1) μ3) else w_R_readNumber (fun μ23 => K 1 μ23) μ3) r2 μ1) μ
set_option maxHeartbeats 4000000 in
set_option maxRecDepth 100000 in
theorem P_R_readPart (l : Launch) {F : Nat → (Int32 → sm_Mem → Prop) → Int32 → sm_Mem → Prop} {n : Nat} (hF6 : ∀ {K : Int32 → sm_Mem → Prop} {p0 : Int32} {μ : sm_Mem}, F 6 K p0 μ → sm_MI l ⟨"SnowMoney$Reader", "readDenied", "(I)Z"⟩ prog_5_method_10_code 3 (some .boolean) { frames := n + 12, cells := 0, slots := 0, locals := n * 40 + 800 } [sm_R 43, sm_I p0] μ K) (hF7 : ∀ {K : Int32 → sm_Mem → Prop} {p0 : Int32} {μ : sm_Mem}, F 7 K p0 μ → sm_MI l ⟨"SnowMoney$Reader", "readClosed", "(I)Z"⟩ prog_5_method_11_code 2 (some .boolean) { frames := n + 12, cells := 0, slots := 0, locals := n * 40 + 800 } [sm_R 43, sm_I p0] μ K) {K : Int32 → sm_Mem → Prop} {p0 : Int32} {μ : sm_Mem} (h : w_R_readPart F K p0 μ) : sm_MI l ⟨"SnowMoney$Reader", "readPart", "(I)Z"⟩ prog_5_method_9_code 4 (some .boolean) { frames := n + 1 + 12, cells := 0, slots := 0, locals := (n + 1) * 40 + 800 } [sm_R 43, sm_I p0] μ K := by
  refine sm_ofI (by decide +kernel) (fun _ => Nat.le_of_ble_eq_true rfl) ?_
  intro p e s m args below meth c A Q G C hR
  have B74 : ∀ (x2 : Int32) (μ : sm_Mem), w_R_readPart_74 F K p0 x2 μ → sm_W p l e { frames := n + 1 + 12, cells := 0, slots := 0, locals := (n + 1) * 40 + 800 } s m args below meth c A Q G 4 0 0 74 [] [(0, sm_R 43), (1, sm_I p0), (2, sm_I x2)] μ := by
    intro x2 μ h
    refine sr_iload_n C 1 rfl rfl d_R_readPart_74 ?_
    refine sr_iconst C (v := 5) d_R_readPart_75 (by decide) ?_
    refine sr_icmp_lt C (tgt := 81) d_R_readPart_76 (by decide) (fun c11 => ?_) (fun c11 => ?_)
    · replace h := Eq.mp (if_pos c11) h
      refine sr_aload_n C 0 rfl rfl d_R_readPart_81 ?_
      refine sr_dup C rfl d_R_readPart_82 ?_
      refine sr_getI C sm_F2 3 q_139 sm_l43 rfl (by decide) d_R_readPart_83 ?_
      refine sr_iconst C (v := 1) d_R_readPart_86 (by decide) ?_
      refine sr_iadd C d_R_readPart_87 ?_
      refine sr_putI C sm_F2 3 q_139 sm_l43 rfl rfl (by decide) rfl d_R_readPart_88 ?_
      replace h := h _ rfl
      refine sr_iload_n C 2 rfl rfl d_R_readPart_91 ?_
      refine sr_bipush C (v := 33) d_R_readPart_92 (by decide) ?_
      refine sr_icmp_ne C (tgt := 107) d_R_readPart_94 (by decide) (fun c13 => ?_) (fun c13 => ?_)
      · replace h := Eq.mp (if_neg c13) h
        refine sr_aload_n C 0 rfl rfl d_R_readPart_107 ?_
        refine sr_iload_n C 1 rfl rfl d_R_readPart_108 ?_
        refine sr_iconst C (v := 1) d_R_readPart_109 (by decide) ?_
        refine sr_iadd C d_R_readPart_110 ?_
        refine sr_callVI C [sm_I _] (hF7 h) ok_38 sm_l43 rfl rfl rfl rfl ⟨by dsimp only; omega, by dsimp only; omega⟩ (Nat.le_of_ble_eq_true rfl) ⟨Nat.zero_le _, Nat.zero_le _⟩ d_R_readPart_111 (fun r15 μ14 h => ?_)
        obtain ⟨g16, h⟩ := h
        exact hR _ _ _ _ d_R_readPart_114 (sm_narZ g16) h
      · replace h := Eq.mp (if_pos c13) h
        refine sr_aload_n C 0 rfl rfl d_R_readPart_97 ?_
        refine sr_iload_n C 1 rfl rfl d_R_readPart_98 ?_
        refine sr_iconst C (v := 1) d_R_readPart_99 (by decide) ?_
        refine sr_iadd C d_R_readPart_100 ?_
        refine sr_callVI C [sm_I _] (hF6 h) ok_39 sm_l43 rfl rfl rfl rfl ⟨by dsimp only; omega, by dsimp only; omega⟩ (Nat.le_of_ble_eq_true rfl) ⟨Nat.zero_le _, Nat.zero_le _⟩ d_R_readPart_101 (fun r18 μ17 h => ?_)
        refine sr_goto C (tgt := 114) (by decide) d_R_readPart_104 ?_
        obtain ⟨g19, h⟩ := h
        exact hR _ _ _ _ d_R_readPart_114 (sm_narZ g19) h
    · replace h := Eq.mp (if_neg c11) h
      refine sr_iconst C (v := 0) d_R_readPart_79 (by decide) ?_
      exact hR _ _ _ _ d_R_readPart_80 rfl h
  have B35 : ∀ (x2 : Int32) (s0 : Int32) (μ : sm_Mem), w_R_readPart_35 F K p0 x2 s0 μ → sm_W p l e { frames := n + 1 + 12, cells := 0, slots := 0, locals := (n + 1) * 40 + 800 } s m args below meth c A Q G 4 0 0 35 [sm_I s0] [(0, sm_R 43), (1, sm_I p0), (2, sm_I x2)] μ := by
    intro x2 s0 μ h
    refine sr_istore_n C rfl (by decide) d_R_readPart_35 ?_
    refine sr_iload_n C 0 rfl rfl d_R_readPart_36 ?_
    refine sr_if_lt C (tgt := 62) d_R_readPart_37 (by decide) (fun c9 => ?_) (fun c9 => ?_)
    · replace h := Eq.mp (if_pos c9) h
      refine sr_iload_n C 3 rfl rfl d_R_readPart_62 ?_
      refine sr_bipush C (v := 33) d_R_readPart_63 (by decide) ?_
      refine sr_icmp_eq C (tgt := 74) d_R_readPart_65 (by decide) (fun c10 => ?_) (fun c10 => ?_)
      · replace h := Eq.mp (if_pos c10) h
        refine sr_mask C [1, 2, 3] rfl ?_
        exact B74 _ _ h
      · replace h := Eq.mp (if_neg c10) h
        refine sr_iload_n C 3 rfl rfl d_R_readPart_68 ?_
        refine sr_bipush C (v := 40) d_R_readPart_69 (by decide) ?_
        refine sr_icmp_ne C (tgt := 79) d_R_readPart_71 (by decide) (fun c20 => ?_) (fun c20 => ?_)
        · replace h := Eq.mp (if_neg c20) h
          refine sr_iconst C (v := 0) d_R_readPart_79 (by decide) ?_
          exact hR _ _ _ _ d_R_readPart_80 rfl h
        · replace h := Eq.mp (if_pos c20) h
          refine sr_mask C [1, 2, 3] rfl ?_
          exact B74 _ _ h
    · replace h := Eq.mp (if_neg c9) h
      refine sr_aload_n C 1 rfl rfl d_R_readPart_40 ?_
      refine sr_dup C rfl d_R_readPart_41 ?_
      refine sr_getI C sm_F2 3 q_139 sm_l43 rfl (by decide) d_R_readPart_42 ?_
      refine sr_iconst C (v := 1) d_R_readPart_45 (by decide) ?_
      refine sr_iadd C d_R_readPart_46 ?_
      refine sr_putI C sm_F2 3 q_139 sm_l43 rfl rfl (by decide) rfl d_R_readPart_47 ?_
      replace h := h _ rfl
      refine sr_aload_n C 1 rfl rfl d_R_readPart_50 ?_
      refine sr_getR C sm_F2 0 q_140 sm_l43 (r := 44) rfl (by decide) d_R_readPart_51 ?_
      refine sr_bipush C (v := 97) d_R_readPart_54 (by decide) ?_
      refine sr_iload_n C 0 rfl rfl d_R_readPart_56 ?_
      refine sr_callVV C [sm_I _, sm_I _] (P_T_add l h) ok_31 sm_l44 rfl rfl rfl rfl ⟨by dsimp only; omega, by dsimp only; omega⟩ (Nat.le_of_ble_eq_true rfl) ⟨Nat.zero_le _, Nat.zero_le _⟩ d_R_readPart_57 (fun μ22 h => ?_)
      refine sr_iconst C (v := 1) d_R_readPart_60 (by decide) ?_
      exact hR _ _ _ _ d_R_readPart_61 rfl h
  refine sr_aload_n C 0 rfl rfl d_R_readPart_0 ?_
  refine sr_callVI C [] (P_R_next l h) ok_30 sm_l43 rfl rfl rfl rfl ⟨by dsimp only; omega, by dsimp only; omega⟩ (Nat.le_of_ble_eq_true rfl) ⟨Nat.zero_le _, Nat.zero_le _⟩ d_R_readPart_1 (fun r2 μ1 h => ?_)
  refine sr_istore_n C rfl (by decide) d_R_readPart_4 ?_
  refine sr_iload_n C 0 rfl rfl d_R_readPart_5 ?_
  refine sr_callSI C [sm_I _] (P_R_isDigit l h) ok_36 rfl rfl rfl ⟨by dsimp only; omega, by dsimp only; omega⟩ (Nat.le_of_ble_eq_true rfl) ⟨Nat.zero_le _, Nat.zero_le _⟩ d_R_readPart_6 (fun r4 μ3 h => ?_)
  refine sr_if_eq C (tgt := 18) d_R_readPart_9 (by decide) (fun c5 => ?_) (fun c5 => ?_)
  · replace h := Eq.mp (if_pos c5) h
    refine sr_iload_n C 0 rfl rfl d_R_readPart_18 ?_
    refine sr_if_ge C (tgt := 26) d_R_readPart_19 (by decide) (fun c6 => ?_) (fun c6 => ?_)
    · replace h := Eq.mp (if_pos c6) h
      refine sr_aload_n C 1 rfl rfl d_R_readPart_26 ?_
      refine sr_getS C sm_F2 4 q_138 sm_l43 rfl (by decide) d_R_readPart_27 ?_
      refine sr_iload_n C 0 rfl rfl d_R_readPart_30 ?_
      refine sr_i2c C d_R_readPart_31 ?_
      obtain ⟨g7, h⟩ := h
      obtain ⟨g8, h⟩ := h
      refine sr_indexOf C ok_37 g7 g8 (by dsimp only; omega) (by dsimp only; omega) d_R_readPart_32 ?_
      refine sr_mask C [1, 2, 0] rfl ?_
      exact B35 _ _ _ h
    · replace h := Eq.mp (if_neg c6) h
      refine sr_iconst C (v := (-1)) d_R_readPart_22 (by decide) ?_
      refine sr_goto C (tgt := 35) (by decide) d_R_readPart_23 ?_
      refine sr_mask C [1, 2, 0] rfl ?_
      exact B35 _ _ _ h
  · replace h := Eq.mp (if_neg c5) h
    refine sr_aload_n C 1 rfl rfl d_R_readPart_12 ?_
    refine sr_callVV C [] (P_R_readNumber l h) ok_40 sm_l43 rfl rfl rfl rfl ⟨by dsimp only; omega, by dsimp only; omega⟩ (Nat.le_of_ble_eq_true rfl) ⟨Nat.zero_le _, Nat.zero_le _⟩ d_R_readPart_13 (fun μ23 h => ?_)
    refine sr_iconst C (v := 1) d_R_readPart_16 (by decide) ?_
    exact hR _ _ _ _ d_R_readPart_17 rfl h
theorem d_R_readDenied_0 : decode prog_5_method_10_code 0 = .ok (.aload_n 0, 1) := by decide +kernel
theorem d_R_readDenied_1 : decode prog_5_method_10_code 1 = .ok (.iload_n 1, 1) := by decide +kernel
theorem d_R_readDenied_2 : decode prog_5_method_10_code 2 = .ok (.invokevirtual 77, 3) := by decide +kernel
theorem d_R_readDenied_5 : decode prog_5_method_10_code 5 = .ok (.istore_n 2, 1) := by decide +kernel
theorem d_R_readDenied_6 : decode prog_5_method_10_code 6 = .ok (.aload_n 0, 1) := by decide +kernel
theorem d_R_readDenied_7 : decode prog_5_method_10_code 7 = .ok (.getfield 10, 3) := by decide +kernel
theorem d_R_readDenied_10 : decode prog_5_method_10_code 10 = .ok (.bipush 33, 2) := by decide +kernel
theorem d_R_readDenied_12 : decode prog_5_method_10_code 12 = .ok (.iconst 0, 1) := by decide +kernel
theorem d_R_readDenied_13 : decode prog_5_method_10_code 13 = .ok (.invokevirtual 64, 3) := by decide +kernel
theorem d_R_readDenied_16 : decode prog_5_method_10_code 16 = .ok (.iload_n 2, 1) := by decide +kernel
theorem d_R_readDenied_17 : decode prog_5_method_10_code 17 = .ok (.ireturn, 1) := by decide +kernel
def w_R_readDenied (F : Nat → (Int32 → sm_Mem → Prop) → Int32 → sm_Mem → Prop) (K : Int32 → sm_Mem → Prop) (p0 : Int32) (μ : sm_Mem) : Prop := F 5 (fun r2 μ1 => w_T_add (fun μ3 => (r2 = 0 ∨ r2 = 1) ∧ K r2 μ3) 44 33 0 μ1) p0 μ
set_option maxHeartbeats 4000000 in
set_option maxRecDepth 100000 in
theorem P_R_readDenied (l : Launch) {F : Nat → (Int32 → sm_Mem → Prop) → Int32 → sm_Mem → Prop} {n : Nat} (hF5 : ∀ {K : Int32 → sm_Mem → Prop} {p0 : Int32} {μ : sm_Mem}, F 5 K p0 μ → sm_MI l ⟨"SnowMoney$Reader", "readPart", "(I)Z"⟩ prog_5_method_9_code 4 (some .boolean) { frames := n + 12, cells := 0, slots := 0, locals := n * 40 + 800 } [sm_R 43, sm_I p0] μ K) {K : Int32 → sm_Mem → Prop} {p0 : Int32} {μ : sm_Mem} (h : w_R_readDenied F K p0 μ) : sm_MI l ⟨"SnowMoney$Reader", "readDenied", "(I)Z"⟩ prog_5_method_10_code 3 (some .boolean) { frames := n + 1 + 12, cells := 0, slots := 0, locals := (n + 1) * 40 + 800 } [sm_R 43, sm_I p0] μ K := by
  refine sm_ofI (by decide +kernel) (fun _ => Nat.le_of_ble_eq_true rfl) ?_
  intro p e s m args below meth c A Q G C hR
  refine sr_aload_n C 0 rfl rfl d_R_readDenied_0 ?_
  refine sr_iload_n C 1 rfl rfl d_R_readDenied_1 ?_
  refine sr_callVI C [sm_I _] (hF5 h) ok_35 sm_l43 rfl rfl rfl rfl ⟨by dsimp only; omega, by dsimp only; omega⟩ (Nat.le_of_ble_eq_true rfl) ⟨Nat.zero_le _, Nat.zero_le _⟩ d_R_readDenied_2 (fun r2 μ1 h => ?_)
  refine sr_istore_n C rfl (by decide) d_R_readDenied_5 ?_
  refine sr_aload_n C 1 rfl rfl d_R_readDenied_6 ?_
  refine sr_getR C sm_F2 0 q_140 sm_l43 (r := 44) rfl (by decide) d_R_readDenied_7 ?_
  refine sr_bipush C (v := 33) d_R_readDenied_10 (by decide) ?_
  refine sr_iconst C (v := 0) d_R_readDenied_12 (by decide) ?_
  refine sr_callVV C [sm_I _, sm_I _] (P_T_add l h) ok_31 sm_l44 rfl rfl rfl rfl ⟨by dsimp only; omega, by dsimp only; omega⟩ (Nat.le_of_ble_eq_true rfl) ⟨Nat.zero_le _, Nat.zero_le _⟩ d_R_readDenied_13 (fun μ3 h => ?_)
  refine sr_iload_n C 0 rfl rfl d_R_readDenied_16 ?_
  obtain ⟨g4, h⟩ := h
  exact hR _ _ _ _ d_R_readDenied_17 (sm_narZ g4) h
theorem d_R_readClosed_0 : decode prog_5_method_11_code 0 = .ok (.aload_n 0, 1) := by decide +kernel
theorem d_R_readClosed_1 : decode prog_5_method_11_code 1 = .ok (.iload_n 1, 1) := by decide +kernel
theorem d_R_readClosed_2 : decode prog_5_method_11_code 2 = .ok (.invokevirtual 53, 3) := by decide +kernel
theorem d_R_readClosed_5 : decode prog_5_method_11_code 5 = .ok (.ifCond .eq 12, 3) := by decide +kernel
theorem d_R_readClosed_8 : decode prog_5_method_11_code 8 = .ok (.aload_n 0, 1) := by decide +kernel
theorem d_R_readClosed_9 : decode prog_5_method_11_code 9 = .ok (.invokevirtual 60, 3) := by decide +kernel
theorem d_R_readClosed_12 : decode prog_5_method_11_code 12 = .ok (.bipush 41, 2) := by decide +kernel
theorem d_R_readClosed_14 : decode prog_5_method_11_code 14 = .ok (.if_icmp .eq 5, 3) := by decide +kernel
theorem d_R_readClosed_17 : decode prog_5_method_11_code 17 = .ok (.iconst 0, 1) := by decide +kernel
theorem d_R_readClosed_18 : decode prog_5_method_11_code 18 = .ok (.ireturn, 1) := by decide +kernel
theorem d_R_readClosed_19 : decode prog_5_method_11_code 19 = .ok (.aload_n 0, 1) := by decide +kernel
theorem d_R_readClosed_20 : decode prog_5_method_11_code 20 = .ok (.dup, 1) := by decide +kernel
theorem d_R_readClosed_21 : decode prog_5_method_11_code 21 = .ok (.getfield 47, 3) := by decide +kernel
theorem d_R_readClosed_24 : decode prog_5_method_11_code 24 = .ok (.iconst 1, 1) := by decide +kernel
theorem d_R_readClosed_25 : decode prog_5_method_11_code 25 = .ok (.iadd, 1) := by decide +kernel
theorem d_R_readClosed_26 : decode prog_5_method_11_code 26 = .ok (.putfield 47, 3) := by decide +kernel
theorem d_R_readClosed_29 : decode prog_5_method_11_code 29 = .ok (.iconst 1, 1) := by decide +kernel
theorem d_R_readClosed_30 : decode prog_5_method_11_code 30 = .ok (.ireturn, 1) := by decide +kernel
def w_R_readClosed (F : Nat → (Int32 → sm_Mem → Prop) → Int32 → sm_Mem → Prop) (K : Int32 → sm_Mem → Prop) (p0 : Int32) (μ : sm_Mem) : Prop := F 0 (fun r2 μ1 => if r2 = 0 then K 0 μ1 else (w_R_next (fun r5 μ4 => if r5 = 41 then (∀ μ7 : sm_Mem, μ7 = sm_st μ4 43 3 ((μ4 43 3) + 1) → K 1 μ7) else K 0 μ4) μ1)) p0 μ
set_option maxHeartbeats 4000000 in
set_option maxRecDepth 100000 in
theorem P_R_readClosed (l : Launch) {F : Nat → (Int32 → sm_Mem → Prop) → Int32 → sm_Mem → Prop} {n : Nat} (hF0 : ∀ {K : Int32 → sm_Mem → Prop} {p0 : Int32} {μ : sm_Mem}, F 0 K p0 μ → sm_MI l ⟨"SnowMoney$Reader", "readOr", "(I)Z"⟩ prog_5_method_4_code 4 (some .boolean) { frames := n + 12, cells := 0, slots := 0, locals := n * 40 + 800 } [sm_R 43, sm_I p0] μ K) {K : Int32 → sm_Mem → Prop} {p0 : Int32} {μ : sm_Mem} (h : w_R_readClosed F K p0 μ) : sm_MI l ⟨"SnowMoney$Reader", "readClosed", "(I)Z"⟩ prog_5_method_11_code 2 (some .boolean) { frames := n + 1 + 12, cells := 0, slots := 0, locals := (n + 1) * 40 + 800 } [sm_R 43, sm_I p0] μ K := by
  refine sm_ofI (by decide +kernel) (fun _ => Nat.le_of_ble_eq_true rfl) ?_
  intro p e s m args below meth c A Q G C hR
  refine sr_aload_n C 0 rfl rfl d_R_readClosed_0 ?_
  refine sr_iload_n C 1 rfl rfl d_R_readClosed_1 ?_
  refine sr_callVI C [sm_I _] (hF0 h) ok_28 sm_l43 rfl rfl rfl rfl ⟨by dsimp only; omega, by dsimp only; omega⟩ (Nat.le_of_ble_eq_true rfl) ⟨Nat.zero_le _, Nat.zero_le _⟩ d_R_readClosed_2 (fun r2 μ1 h => ?_)
  refine sr_if_eq C (tgt := 17) d_R_readClosed_5 (by decide) (fun c3 => ?_) (fun c3 => ?_)
  · replace h := Eq.mp (if_pos c3) h
    refine sr_iconst C (v := 0) d_R_readClosed_17 (by decide) ?_
    exact hR _ _ _ _ d_R_readClosed_18 rfl h
  · replace h := Eq.mp (if_neg c3) h
    refine sr_aload_n C 0 rfl rfl d_R_readClosed_8 ?_
    refine sr_callVI C [] (P_R_next l h) ok_30 sm_l43 rfl rfl rfl rfl ⟨by dsimp only; omega, by dsimp only; omega⟩ (Nat.le_of_ble_eq_true rfl) ⟨Nat.zero_le _, Nat.zero_le _⟩ d_R_readClosed_9 (fun r5 μ4 h => ?_)
    refine sr_bipush C (v := 41) d_R_readClosed_12 (by decide) ?_
    refine sr_icmp_eq C (tgt := 19) d_R_readClosed_14 (by decide) (fun c6 => ?_) (fun c6 => ?_)
    · replace h := Eq.mp (if_pos c6) h
      refine sr_aload_n C 0 rfl rfl d_R_readClosed_19 ?_
      refine sr_dup C rfl d_R_readClosed_20 ?_
      refine sr_getI C sm_F2 3 q_139 sm_l43 rfl (by decide) d_R_readClosed_21 ?_
      refine sr_iconst C (v := 1) d_R_readClosed_24 (by decide) ?_
      refine sr_iadd C d_R_readClosed_25 ?_
      refine sr_putI C sm_F2 3 q_139 sm_l43 rfl rfl (by decide) rfl d_R_readClosed_26 ?_
      replace h := h _ rfl
      refine sr_iconst C (v := 1) d_R_readClosed_29 (by decide) ?_
      exact hR _ _ _ _ d_R_readClosed_30 rfl h
    · replace h := Eq.mp (if_neg c6) h
      refine sr_iconst C (v := 0) d_R_readClosed_17 (by decide) ?_
      exact hR _ _ _ _ d_R_readClosed_18 rfl h
def wg_R : Nat → Nat → (Int32 → sm_Mem → Prop) → Int32 → sm_Mem → Prop
  | 0, _ => fun _ _ _ => False
  | n + 1, 0 => w_R_readOr (wg_R n)
  | n + 1, 1 => w_R_readAnd (wg_R n)
  | n + 1, 2 => w_R_readComparison (wg_R n)
  | n + 1, 3 => w_R_readSum (wg_R n)
  | n + 1, 4 => w_R_readProduct (wg_R n)
  | n + 1, 5 => w_R_readPart (wg_R n)
  | n + 1, 6 => w_R_readDenied (wg_R n)
  | n + 1, 7 => w_R_readClosed (wg_R n)
  | _ + 1, _ => fun _ _ _ => False
theorem PG_R (l : Launch) : ∀ n : Nat, (∀ {K : Int32 → sm_Mem → Prop} {p0 : Int32} {μ : sm_Mem}, wg_R n 0 K p0 μ → sm_MI l ⟨"SnowMoney$Reader", "readOr", "(I)Z"⟩ prog_5_method_4_code 4 (some .boolean) { frames := n + 12, cells := 0, slots := 0, locals := n * 40 + 800 } [sm_R 43, sm_I p0] μ K) ∧ (∀ {K : Int32 → sm_Mem → Prop} {p0 : Int32} {μ : sm_Mem}, wg_R n 1 K p0 μ → sm_MI l ⟨"SnowMoney$Reader", "readAnd", "(I)Z"⟩ prog_5_method_5_code 4 (some .boolean) { frames := n + 12, cells := 0, slots := 0, locals := n * 40 + 800 } [sm_R 43, sm_I p0] μ K) ∧ (∀ {K : Int32 → sm_Mem → Prop} {p0 : Int32} {μ : sm_Mem}, wg_R n 2 K p0 μ → sm_MI l ⟨"SnowMoney$Reader", "readComparison", "(I)Z"⟩ prog_5_method_6_code 4 (some .boolean) { frames := n + 12, cells := 0, slots := 0, locals := n * 40 + 800 } [sm_R 43, sm_I p0] μ K) ∧ (∀ {K : Int32 → sm_Mem → Prop} {p0 : Int32} {μ : sm_Mem}, wg_R n 3 K p0 μ → sm_MI l ⟨"SnowMoney$Reader", "readSum", "(I)Z"⟩ prog_5_method_7_code 5 (some .boolean) { frames := n + 12, cells := 0, slots := 0, locals := n * 40 + 800 } [sm_R 43, sm_I p0] μ K) ∧ (∀ {K : Int32 → sm_Mem → Prop} {p0 : Int32} {μ : sm_Mem}, wg_R n 4 K p0 μ → sm_MI l ⟨"SnowMoney$Reader", "readProduct", "(I)Z"⟩ prog_5_method_8_code 5 (some .boolean) { frames := n + 12, cells := 0, slots := 0, locals := n * 40 + 800 } [sm_R 43, sm_I p0] μ K) ∧ (∀ {K : Int32 → sm_Mem → Prop} {p0 : Int32} {μ : sm_Mem}, wg_R n 5 K p0 μ → sm_MI l ⟨"SnowMoney$Reader", "readPart", "(I)Z"⟩ prog_5_method_9_code 4 (some .boolean) { frames := n + 12, cells := 0, slots := 0, locals := n * 40 + 800 } [sm_R 43, sm_I p0] μ K) ∧ (∀ {K : Int32 → sm_Mem → Prop} {p0 : Int32} {μ : sm_Mem}, wg_R n 6 K p0 μ → sm_MI l ⟨"SnowMoney$Reader", "readDenied", "(I)Z"⟩ prog_5_method_10_code 3 (some .boolean) { frames := n + 12, cells := 0, slots := 0, locals := n * 40 + 800 } [sm_R 43, sm_I p0] μ K) ∧ (∀ {K : Int32 → sm_Mem → Prop} {p0 : Int32} {μ : sm_Mem}, wg_R n 7 K p0 μ → sm_MI l ⟨"SnowMoney$Reader", "readClosed", "(I)Z"⟩ prog_5_method_11_code 2 (some .boolean) { frames := n + 12, cells := 0, slots := 0, locals := n * 40 + 800 } [sm_R 43, sm_I p0] μ K)
  | 0 => ⟨fun h => h.elim, fun h => h.elim, fun h => h.elim, fun h => h.elim, fun h => h.elim, fun h => h.elim, fun h => h.elim, fun h => h.elim⟩
  | n + 1 => ⟨fun h => P_R_readOr l (F := wg_R n) (n := n) (PG_R l n).2.1 h, fun h => P_R_readAnd l (F := wg_R n) (n := n) (PG_R l n).2.2.1 h, fun h => P_R_readComparison l (F := wg_R n) (n := n) (PG_R l n).2.2.2.1 h, fun h => P_R_readSum l (F := wg_R n) (n := n) (PG_R l n).2.2.2.2.1 h, fun h => P_R_readProduct l (F := wg_R n) (n := n) (PG_R l n).2.2.2.2.2.1 h, fun h => P_R_readPart l (F := wg_R n) (n := n) (PG_R l n).2.2.2.2.2.2.1 (PG_R l n).2.2.2.2.2.2.2 h, fun h => P_R_readDenied l (F := wg_R n) (n := n) (PG_R l n).2.2.2.2.2.1 h, fun h => P_R_readClosed l (F := wg_R n) (n := n) (PG_R l n).1 h⟩
theorem PG_R_0 (l : Launch) (n : Nat) {K : Int32 → sm_Mem → Prop} {p0 : Int32} {μ : sm_Mem} (h : wg_R n 0 K p0 μ) : sm_MI l ⟨"SnowMoney$Reader", "readOr", "(I)Z"⟩ prog_5_method_4_code 4 (some .boolean) { frames := n + 12, cells := 0, slots := 0, locals := n * 40 + 800 } [sm_R 43, sm_I p0] μ K := (PG_R l n).1 h
theorem PG_R_1 (l : Launch) (n : Nat) {K : Int32 → sm_Mem → Prop} {p0 : Int32} {μ : sm_Mem} (h : wg_R n 1 K p0 μ) : sm_MI l ⟨"SnowMoney$Reader", "readAnd", "(I)Z"⟩ prog_5_method_5_code 4 (some .boolean) { frames := n + 12, cells := 0, slots := 0, locals := n * 40 + 800 } [sm_R 43, sm_I p0] μ K := (PG_R l n).2.1 h
theorem PG_R_2 (l : Launch) (n : Nat) {K : Int32 → sm_Mem → Prop} {p0 : Int32} {μ : sm_Mem} (h : wg_R n 2 K p0 μ) : sm_MI l ⟨"SnowMoney$Reader", "readComparison", "(I)Z"⟩ prog_5_method_6_code 4 (some .boolean) { frames := n + 12, cells := 0, slots := 0, locals := n * 40 + 800 } [sm_R 43, sm_I p0] μ K := (PG_R l n).2.2.1 h
theorem PG_R_3 (l : Launch) (n : Nat) {K : Int32 → sm_Mem → Prop} {p0 : Int32} {μ : sm_Mem} (h : wg_R n 3 K p0 μ) : sm_MI l ⟨"SnowMoney$Reader", "readSum", "(I)Z"⟩ prog_5_method_7_code 5 (some .boolean) { frames := n + 12, cells := 0, slots := 0, locals := n * 40 + 800 } [sm_R 43, sm_I p0] μ K := (PG_R l n).2.2.2.1 h
theorem PG_R_4 (l : Launch) (n : Nat) {K : Int32 → sm_Mem → Prop} {p0 : Int32} {μ : sm_Mem} (h : wg_R n 4 K p0 μ) : sm_MI l ⟨"SnowMoney$Reader", "readProduct", "(I)Z"⟩ prog_5_method_8_code 5 (some .boolean) { frames := n + 12, cells := 0, slots := 0, locals := n * 40 + 800 } [sm_R 43, sm_I p0] μ K := (PG_R l n).2.2.2.2.1 h
theorem PG_R_5 (l : Launch) (n : Nat) {K : Int32 → sm_Mem → Prop} {p0 : Int32} {μ : sm_Mem} (h : wg_R n 5 K p0 μ) : sm_MI l ⟨"SnowMoney$Reader", "readPart", "(I)Z"⟩ prog_5_method_9_code 4 (some .boolean) { frames := n + 12, cells := 0, slots := 0, locals := n * 40 + 800 } [sm_R 43, sm_I p0] μ K := (PG_R l n).2.2.2.2.2.1 h
theorem PG_R_6 (l : Launch) (n : Nat) {K : Int32 → sm_Mem → Prop} {p0 : Int32} {μ : sm_Mem} (h : wg_R n 6 K p0 μ) : sm_MI l ⟨"SnowMoney$Reader", "readDenied", "(I)Z"⟩ prog_5_method_10_code 3 (some .boolean) { frames := n + 12, cells := 0, slots := 0, locals := n * 40 + 800 } [sm_R 43, sm_I p0] μ K := (PG_R l n).2.2.2.2.2.2.1 h
theorem PG_R_7 (l : Launch) (n : Nat) {K : Int32 → sm_Mem → Prop} {p0 : Int32} {μ : sm_Mem} (h : wg_R n 7 K p0 μ) : sm_MI l ⟨"SnowMoney$Reader", "readClosed", "(I)Z"⟩ prog_5_method_11_code 2 (some .boolean) { frames := n + 12, cells := 0, slots := 0, locals := n * 40 + 800 } [sm_R 43, sm_I p0] μ K := (PG_R l n).2.2.2.2.2.2.2 h
theorem d_R_read_0 : decode prog_5_method_2_code 0 = .ok (.aload_n 0, 1) := by decide +kernel
theorem d_R_read_1 : decode prog_5_method_2_code 1 = .ok (.iconst 0, 1) := by decide +kernel
theorem d_R_read_2 : decode prog_5_method_2_code 2 = .ok (.iload_n 2, 1) := by decide +kernel
theorem d_R_read_3 : decode prog_5_method_2_code 3 = .ok (.aload_n 1, 1) := by decide +kernel
theorem d_R_read_4 : decode prog_5_method_2_code 4 = .ok (.arraylength, 1) := by decide +kernel
theorem d_R_read_5 : decode prog_5_method_2_code 5 = .ok (.aload_n 0, 1) := by decide +kernel
theorem d_R_read_6 : decode prog_5_method_2_code 6 = .ok (.getfield 18, 3) := by decide +kernel
theorem d_R_read_9 : decode prog_5_method_2_code 9 = .ok (.arraylength, 1) := by decide +kernel
theorem d_R_read_10 : decode prog_5_method_2_code 10 = .ok (.invokestatic 28, 3) := by decide +kernel
theorem d_R_read_13 : decode prog_5_method_2_code 13 = .ok (.invokestatic 28, 3) := by decide +kernel
theorem d_R_read_16 : decode prog_5_method_2_code 16 = .ok (.invokestatic 34, 3) := by decide +kernel
theorem d_R_read_19 : decode prog_5_method_2_code 19 = .ok (.putfield 37, 3) := by decide +kernel
theorem d_R_read_22 : decode prog_5_method_2_code 22 = .ok (.aload_n 1, 1) := by decide +kernel
theorem d_R_read_23 : decode prog_5_method_2_code 23 = .ok (.iconst 0, 1) := by decide +kernel
theorem d_R_read_24 : decode prog_5_method_2_code 24 = .ok (.aload_n 0, 1) := by decide +kernel
theorem d_R_read_25 : decode prog_5_method_2_code 25 = .ok (.getfield 18, 3) := by decide +kernel
theorem d_R_read_28 : decode prog_5_method_2_code 28 = .ok (.iconst 0, 1) := by decide +kernel
theorem d_R_read_29 : decode prog_5_method_2_code 29 = .ok (.aload_n 0, 1) := by decide +kernel
theorem d_R_read_30 : decode prog_5_method_2_code 30 = .ok (.getfield 37, 3) := by decide +kernel
theorem d_R_read_33 : decode prog_5_method_2_code 33 = .ok (.invokestatic 41, 3) := by decide +kernel
theorem d_R_read_36 : decode prog_5_method_2_code 36 = .ok (.aload_n 0, 1) := by decide +kernel
theorem d_R_read_37 : decode prog_5_method_2_code 37 = .ok (.aload_n 3, 1) := by decide +kernel
theorem d_R_read_38 : decode prog_5_method_2_code 38 = .ok (.putfield 24, 3) := by decide +kernel
theorem d_R_read_41 : decode prog_5_method_2_code 41 = .ok (.aload_n 0, 1) := by decide +kernel
theorem d_R_read_42 : decode prog_5_method_2_code 42 = .ok (.iconst 0, 1) := by decide +kernel
theorem d_R_read_43 : decode prog_5_method_2_code 43 = .ok (.putfield 47, 3) := by decide +kernel
theorem d_R_read_46 : decode prog_5_method_2_code 46 = .ok (.aload_n 0, 1) := by decide +kernel
theorem d_R_read_47 : decode prog_5_method_2_code 47 = .ok (.getfield 10, 3) := by decide +kernel
theorem d_R_read_50 : decode prog_5_method_2_code 50 = .ok (.invokevirtual 50, 3) := by decide +kernel
theorem d_R_read_53 : decode prog_5_method_2_code 53 = .ok (.aload_n 0, 1) := by decide +kernel
theorem d_R_read_54 : decode prog_5_method_2_code 54 = .ok (.iconst 0, 1) := by decide +kernel
theorem d_R_read_55 : decode prog_5_method_2_code 55 = .ok (.invokevirtual 53, 3) := by decide +kernel
theorem d_R_read_58 : decode prog_5_method_2_code 58 = .ok (.ifCond .eq 18, 3) := by decide +kernel
theorem d_R_read_61 : decode prog_5_method_2_code 61 = .ok (.aload_n 0, 1) := by decide +kernel
theorem d_R_read_62 : decode prog_5_method_2_code 62 = .ok (.getfield 47, 3) := by decide +kernel
theorem d_R_read_65 : decode prog_5_method_2_code 65 = .ok (.aload_n 0, 1) := by decide +kernel
theorem d_R_read_66 : decode prog_5_method_2_code 66 = .ok (.getfield 37, 3) := by decide +kernel
theorem d_R_read_69 : decode prog_5_method_2_code 69 = .ok (.if_icmp .ne 7, 3) := by decide +kernel
theorem d_R_read_72 : decode prog_5_method_2_code 72 = .ok (.iconst (-1), 1) := by decide +kernel
theorem d_R_read_73 : decode prog_5_method_2_code 73 = .ok (.goto 7, 3) := by decide +kernel
theorem d_R_read_76 : decode prog_5_method_2_code 76 = .ok (.aload_n 0, 1) := by decide +kernel
theorem d_R_read_77 : decode prog_5_method_2_code 77 = .ok (.getfield 47, 3) := by decide +kernel
theorem d_R_read_80 : decode prog_5_method_2_code 80 = .ok (.ireturn, 1) := by decide +kernel
def w_R_read (K : Int32 → sm_Mem → Prop) (a0 : Nat) (p1 : Int32) (p2 : Int32) (μ : sm_Mem) : Prop := isArr a0 50 ∧ ∀ μ1 : sm_Mem, μ1 = sm_st μ 43 2 (if 0 < (if (if 50 < 50 then 50 else 50) < p1 then (if 50 < 50 then 50 else 50) else p1) then (if (if 50 < 50 then 50 else 50) < p1 then (if 50 < 50 then 50 else 50) else p1) else 0) → (¬ 0 < 0) ∧ (¬ 0 < 0) ∧ (¬ (μ1 43 2) < 0) ∧ ((0 : Int32).toNatClampNeg + (μ1 43 2).toNatClampNeg ≤ 50) ∧ ((0 : Int32).toNatClampNeg + (μ1 43 2).toNatClampNeg ≤ 50) ∧ ∀ μ7 : sm_Mem, μ7 = sm_cpy μ1 a0 48 ((0 : Int32).toNatClampNeg) ((0 : Int32).toNatClampNeg) ((μ1 43 2).toNatClampNeg) → ∀ μ8 : sm_Mem, μ8 = sm_st μ7 43 4 p2 → ∀ μ9 : sm_Mem, μ9 = sm_st μ8 43 3 0 → w_T_clear (fun μ10 => wg_R 50 0 (fun r12 μ11 => if r12 = 0 then K (μ11 43 3) μ11 else (if (μ11 43 3) = (μ11 43 2) then K (-1) μ11 else K (μ11 43 3) μ11)) 0 μ10) 44 μ9
set_option maxHeartbeats 4000000 in
set_option maxRecDepth 100000 in
theorem P_R_read (l : Launch) {K : Int32 → sm_Mem → Prop} {a0 : Nat} {p1 : Int32} {p2 : Int32} {μ : sm_Mem} (h : w_R_read K a0 p1 p2 μ) : sm_MI l ⟨"SnowMoney$Reader", "read", "([IILjava/lang/String;)I"⟩ prog_5_method_2_code 4 (some .int) { frames := 63, cells := 0, slots := 0, locals := 2823 } [sm_R 43, sm_R a0, sm_I p1, sm_R (100 + p2.toNatClampNeg)] μ K := by
  refine sm_ofI (by decide +kernel) (fun _ => Nat.le_of_ble_eq_true rfl) ?_
  intro p e s m args below meth c A Q G C hR
  obtain ⟨t_a0, h⟩ := h
  refine sr_aload_n C 0 rfl rfl d_R_read_0 ?_
  refine sr_iconst C (v := 0) d_R_read_1 (by decide) ?_
  refine sr_iload_n C 2 rfl rfl d_R_read_2 ?_
  refine sr_aload_n C 1 rfl rfl d_R_read_3 ?_
  refine sr_alen C t_a0 (v := 50) (by decide) d_R_read_4 ?_
  refine sr_aload_n C 0 rfl rfl d_R_read_5 ?_
  refine sr_getR C sm_F2 1 q_133 sm_l43 (r := 48) rfl (by decide) d_R_read_6 ?_
  refine sr_alen C sm_l48 (v := 50) (by decide) d_R_read_9 ?_
  refine sr_mmin C q_134 q_mmin1 q_mini q_mmin2 (Nat.le_of_ble_eq_true rfl) (Nat.le_of_ble_eq_true rfl) ⟨Nat.zero_le _, Nat.zero_le _⟩ d_R_read_10 ?_
  refine sr_mmin C q_134 q_mmin1 q_mini q_mmin2 (Nat.le_of_ble_eq_true rfl) (Nat.le_of_ble_eq_true rfl) ⟨Nat.zero_le _, Nat.zero_le _⟩ d_R_read_13 ?_
  refine sr_mmax C q_135 q_mmax1 q_mini q_mmax2 (Nat.le_of_ble_eq_true rfl) (Nat.le_of_ble_eq_true rfl) ⟨Nat.zero_le _, Nat.zero_le _⟩ d_R_read_16 ?_
  refine sr_putI C sm_F2 2 q_136 sm_l43 rfl rfl (by decide) rfl d_R_read_19 ?_
  replace h := h _ rfl
  refine sr_aload_n C 1 rfl rfl d_R_read_22 ?_
  refine sr_iconst C (v := 0) d_R_read_23 (by decide) ?_
  refine sr_aload_n C 0 rfl rfl d_R_read_24 ?_
  refine sr_getR C sm_F2 1 q_133 sm_l43 (r := 48) rfl (by decide) d_R_read_25 ?_
  refine sr_iconst C (v := 0) d_R_read_28 (by decide) ?_
  refine sr_aload_n C 0 rfl rfl d_R_read_29 ?_
  refine sr_getI C sm_F2 2 q_136 sm_l43 rfl (by decide) d_R_read_30 ?_
  obtain ⟨g2, h⟩ := h
  obtain ⟨g3, h⟩ := h
  obtain ⟨g4, h⟩ := h
  obtain ⟨g5, h⟩ := h
  obtain ⟨g6, h⟩ := h
  refine sr_copy C t_a0 sm_l48 g2 g3 g4 g5 g6 q_137 q_sysn q_syss q_sysi (Nat.le_of_ble_eq_true rfl) (Nat.le_of_ble_eq_true rfl) d_R_read_33 ?_
  replace h := h _ rfl
  refine sr_aload_n C 0 rfl rfl d_R_read_36 ?_
  refine sr_aload_n C 3 rfl rfl d_R_read_37 ?_
  refine sr_putS C sm_F2 4 q_138 sm_l43 (x := p2) rfl rfl (by decide) rfl d_R_read_38 ?_
  replace h := h _ rfl
  refine sr_aload_n C 0 rfl rfl d_R_read_41 ?_
  refine sr_iconst C (v := 0) d_R_read_42 (by decide) ?_
  refine sr_putI C sm_F2 3 q_139 sm_l43 rfl rfl (by decide) rfl d_R_read_43 ?_
  replace h := h _ rfl
  refine sr_aload_n C 0 rfl rfl d_R_read_46 ?_
  refine sr_getR C sm_F2 0 q_140 sm_l43 (r := 44) rfl (by decide) d_R_read_47 ?_
  refine sr_callVV C [] (P_T_clear l h) ok_27 sm_l44 rfl rfl rfl rfl ⟨Nat.le_of_ble_eq_true rfl, Nat.le_of_ble_eq_true rfl⟩ (Nat.le_of_ble_eq_true rfl) ⟨Nat.zero_le _, Nat.zero_le _⟩ d_R_read_50 (fun μ10 h => ?_)
  refine sr_aload_n C 0 rfl rfl d_R_read_53 ?_
  refine sr_iconst C (v := 0) d_R_read_54 (by decide) ?_
  refine sr_callVI C [sm_I _] (PG_R_0 l 50 h) ok_28 sm_l43 rfl rfl rfl rfl ⟨Nat.le_of_ble_eq_true rfl, Nat.le_of_ble_eq_true rfl⟩ (Nat.le_of_ble_eq_true rfl) ⟨Nat.zero_le _, Nat.zero_le _⟩ d_R_read_55 (fun r12 μ11 h => ?_)
  refine sr_if_eq C (tgt := 76) d_R_read_58 (by decide) (fun c13 => ?_) (fun c13 => ?_)
  · replace h := Eq.mp (if_pos c13) h
    refine sr_aload_n C 0 rfl rfl d_R_read_76 ?_
    refine sr_getI C sm_F2 3 q_139 sm_l43 rfl (by decide) d_R_read_77 ?_
    exact hR _ _ _ _ d_R_read_80 rfl h
  · replace h := Eq.mp (if_neg c13) h
    refine sr_aload_n C 0 rfl rfl d_R_read_61 ?_
    refine sr_getI C sm_F2 3 q_139 sm_l43 rfl (by decide) d_R_read_62 ?_
    refine sr_aload_n C 0 rfl rfl d_R_read_65 ?_
    refine sr_getI C sm_F2 2 q_136 sm_l43 rfl (by decide) d_R_read_66 ?_
    refine sr_icmp_ne C (tgt := 76) d_R_read_69 (by decide) (fun c14 => ?_) (fun c14 => ?_)
    · replace h := Eq.mp (if_neg c14) h
      refine sr_aload_n C 0 rfl rfl d_R_read_76 ?_
      refine sr_getI C sm_F2 3 q_139 sm_l43 rfl (by decide) d_R_read_77 ?_
      exact hR _ _ _ _ d_R_read_80 rfl h
    · replace h := Eq.mp (if_pos c14) h
      refine sr_iconst C (v := (-1)) d_R_read_72 (by decide) ?_
      refine sr_goto C (tgt := 80) (by decide) d_R_read_73 ?_
      exact hR _ _ _ _ d_R_read_80 rfl h
end
