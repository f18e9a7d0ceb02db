section
-- ===== PART A: goes FIRST, ahead of the names: the tables' words, and 'selects' of the private methods out of them =====
/-- a private method of a class that the tables say can be made, by its rows of tables_1 -/
def lw_okq (q : MethodName × Nat) : Prop := (q.1.cls ≠ "java/lang/invoke/MethodHandle" ∧ q.1.cls ≠ "java/lang/invoke/VarHandle") ∧ Cond.instantiable q.1.cls q.2 ∈ tables_1 ∧ Cond.privateMethod q.1 ∈ tables_1 ∧ Cond.instanceMethod q.1 ∈ tables_1
theorem lw_p0 : lw_okq (⟨"ClashRocks", "isPair", "(I)Z"⟩, 8) := ⟨⟨by decide +kernel, by decide +kernel⟩, List.mem_of_getElem? (i := 23) (by decide +kernel), List.mem_of_getElem? (i := 364) (by decide +kernel), List.mem_of_getElem? (i := 365) (by decide +kernel)⟩
theorem lw_p1 : lw_okq (⟨"ClashRocks", "isShip", "(I)Z"⟩, 8) := ⟨⟨by decide +kernel, by decide +kernel⟩, List.mem_of_getElem? (i := 23) (by decide +kernel), List.mem_of_getElem? (i := 384) (by decide +kernel), List.mem_of_getElem? (i := 385) (by decide +kernel)⟩
theorem lw_p2 : lw_okq (⟨"ClashRocks$Pair", "isPlainOpen", "(II)Z"⟩, 5) := ⟨⟨by decide +kernel, by decide +kernel⟩, List.mem_of_getElem? (i := 86) (by decide +kernel), List.mem_of_getElem? (i := 414) (by decide +kernel), List.mem_of_getElem? (i := 415) (by decide +kernel)⟩
theorem lw_p3 : lw_okq (⟨"ClashRocks$Tape", "isPairRead", "(LClashRocks$Pair;)Z"⟩, 7) := ⟨⟨by decide +kernel, by decide +kernel⟩, List.mem_of_getElem? (i := 176) (by decide +kernel), List.mem_of_getElem? (i := 437) (by decide +kernel), List.mem_of_getElem? (i := 438) (by decide +kernel)⟩
theorem lw_p4 : lw_okq (⟨"ClashRocks$Tape", "kindRead", "(Ljava/lang/String;)I"⟩, 7) := ⟨⟨by decide +kernel, by decide +kernel⟩, List.mem_of_getElem? (i := 176) (by decide +kernel), List.mem_of_getElem? (i := 442) (by decide +kernel), List.mem_of_getElem? (i := 443) (by decide +kernel)⟩
theorem lw_p5 : lw_okq (⟨"ClashRocks$Tape", "letterHere", "()C"⟩, 7) := ⟨⟨by decide +kernel, by decide +kernel⟩, List.mem_of_getElem? (i := 176) (by decide +kernel), List.mem_of_getElem? (i := 446) (by decide +kernel), List.mem_of_getElem? (i := 447) (by decide +kernel)⟩
theorem lw_p6 : lw_okq (⟨"ClashRocks$Tape", "numberRead", "(II)I"⟩, 7) := ⟨⟨by decide +kernel, by decide +kernel⟩, List.mem_of_getElem? (i := 176) (by decide +kernel), List.mem_of_getElem? (i := 536) (by decide +kernel), List.mem_of_getElem? (i := 537) (by decide +kernel)⟩
theorem lw_p7 : lw_okq (⟨"ClashRocks$Tape", "isTaken", "(C)Z"⟩, 7) := ⟨⟨by decide +kernel, by decide +kernel⟩, List.mem_of_getElem? (i := 176) (by decide +kernel), List.mem_of_getElem? (i := 542) (by decide +kernel), List.mem_of_getElem? (i := 543) (by decide +kernel)⟩
theorem lw_p8 : lw_okq (⟨"ClashRocks$Tape", "areShipsRead", "()Z"⟩, 7) := ⟨⟨by decide +kernel, by decide +kernel⟩, List.mem_of_getElem? (i := 176) (by decide +kernel), List.mem_of_getElem? (i := 547) (by decide +kernel), List.mem_of_getElem? (i := 548) (by decide +kernel)⟩
theorem lw_p9 : lw_okq (⟨"ClashRocks$Tape", "isShipRead", "(LClashRocks$Ship;)Z"⟩, 7) := ⟨⟨by decide +kernel, by decide +kernel⟩, List.mem_of_getElem? (i := 176) (by decide +kernel), List.mem_of_getElem? (i := 551) (by decide +kernel), List.mem_of_getElem? (i := 552) (by decide +kernel)⟩
theorem lw_p10 : lw_okq (⟨"ClashRocks$Tape", "digitRead", "(I)I"⟩, 7) := ⟨⟨by decide +kernel, by decide +kernel⟩, List.mem_of_getElem? (i := 176) (by decide +kernel), List.mem_of_getElem? (i := 556) (by decide +kernel), List.mem_of_getElem? (i := 557) (by decide +kernel)⟩
theorem lw_p11 : lw_okq (⟨"ClashRocks$Waters", "takePairsAndShips", "([LClashRocks$Pair;I[LClashRocks$Ship;I)V"⟩, 9) := ⟨⟨by decide +kernel, by decide +kernel⟩, List.mem_of_getElem? (i := 31) (by decide +kernel), List.mem_of_getElem? (i := 565) (by decide +kernel), List.mem_of_getElem? (i := 566) (by decide +kernel)⟩
theorem lw_p12 : lw_okq (⟨"ClashRocks", "goFull", "(II)V"⟩, 8) := ⟨⟨by decide +kernel, by decide +kernel⟩, List.mem_of_getElem? (i := 23) (by decide +kernel), List.mem_of_getElem? (i := 639) (by decide +kernel), List.mem_of_getElem? (i := 640) (by decide +kernel)⟩
theorem lw_p13 : lw_okq (⟨"ClashRocks", "isBegin", "(II)Z"⟩, 8) := ⟨⟨by decide +kernel, by decide +kernel⟩, List.mem_of_getElem? (i := 23) (by decide +kernel), List.mem_of_getElem? (i := 659) (by decide +kernel), List.mem_of_getElem? (i := 660) (by decide +kernel)⟩
theorem lw_p14 : lw_okq (⟨"ClashRocks$Search", "measure", "(LClashRocks$Pair;II)V"⟩, 5) := ⟨⟨by decide +kernel, by decide +kernel⟩, List.mem_of_getElem? (i := 244) (by decide +kernel), List.mem_of_getElem? (i := 667) (by decide +kernel), List.mem_of_getElem? (i := 668) (by decide +kernel)⟩
theorem lw_p15 : lw_okq (⟨"ClashRocks$Search", "soonestEnd", "(LClashRocks$Pair;LClashRocks$Ship;II)I"⟩, 5) := ⟨⟨by decide +kernel, by decide +kernel⟩, List.mem_of_getElem? (i := 244) (by decide +kernel), List.mem_of_getElem? (i := 672) (by decide +kernel), List.mem_of_getElem? (i := 673) (by decide +kernel)⟩
def lw_privs_1 : List (MethodName × Nat) := [(⟨"ClashRocks", "isPair", "(I)Z"⟩, 8), (⟨"ClashRocks", "isShip", "(I)Z"⟩, 8), (⟨"ClashRocks$Pair", "isPlainOpen", "(II)Z"⟩, 5), (⟨"ClashRocks$Tape", "isPairRead", "(LClashRocks$Pair;)Z"⟩, 7), (⟨"ClashRocks$Tape", "kindRead", "(Ljava/lang/String;)I"⟩, 7), (⟨"ClashRocks$Tape", "letterHere", "()C"⟩, 7), (⟨"ClashRocks$Tape", "numberRead", "(II)I"⟩, 7), (⟨"ClashRocks$Tape", "isTaken", "(C)Z"⟩, 7), (⟨"ClashRocks$Tape", "areShipsRead", "()Z"⟩, 7), (⟨"ClashRocks$Tape", "isShipRead", "(LClashRocks$Ship;)Z"⟩, 7), (⟨"ClashRocks$Tape", "digitRead", "(I)I"⟩, 7), (⟨"ClashRocks$Waters", "takePairsAndShips", "([LClashRocks$Pair;I[LClashRocks$Ship;I)V"⟩, 9), (⟨"ClashRocks", "goFull", "(II)V"⟩, 8), (⟨"ClashRocks", "isBegin", "(II)Z"⟩, 8), (⟨"ClashRocks$Search", "measure", "(LClashRocks$Pair;II)V"⟩, 5), (⟨"ClashRocks$Search", "soonestEnd", "(LClashRocks$Pair;LClashRocks$Ship;II)I"⟩, 5)]
theorem lw_r1 : ∀ q ∈ lw_privs_1, lw_okq q := List.forall_mem_cons.mpr ⟨lw_p0, List.forall_mem_cons.mpr ⟨lw_p1, List.forall_mem_cons.mpr ⟨lw_p2, List.forall_mem_cons.mpr ⟨lw_p3, List.forall_mem_cons.mpr ⟨lw_p4, List.forall_mem_cons.mpr ⟨lw_p5, List.forall_mem_cons.mpr ⟨lw_p6, List.forall_mem_cons.mpr ⟨lw_p7, List.forall_mem_cons.mpr ⟨lw_p8, List.forall_mem_cons.mpr ⟨lw_p9, List.forall_mem_cons.mpr ⟨lw_p10, List.forall_mem_cons.mpr ⟨lw_p11, List.forall_mem_cons.mpr ⟨lw_p12, List.forall_mem_cons.mpr ⟨lw_p13, List.forall_mem_cons.mpr ⟨lw_p14, List.forall_mem_cons.mpr ⟨lw_p15, fun _ h => absurd h List.not_mem_nil⟩⟩⟩⟩⟩⟩⟩⟩⟩⟩⟩⟩⟩⟩⟩⟩
theorem lw_p16 : lw_okq (⟨"ClashRocks$Search", "behindBy", "(LClashRocks$Pair;LClashRocks$Ship;II)I"⟩, 5) := ⟨⟨by decide +kernel, by decide +kernel⟩, List.mem_of_getElem? (i := 244) (by decide +kernel), List.mem_of_getElem? (i := 679) (by decide +kernel), List.mem_of_getElem? (i := 680) (by decide +kernel)⟩
theorem lw_p17 : lw_okq (⟨"ClashRocks$Search", "tellPaces", "(LClashRocks$Waters;LClashRocks$Ship;I)V"⟩, 5) := ⟨⟨by decide +kernel, by decide +kernel⟩, List.mem_of_getElem? (i := 244) (by decide +kernel), List.mem_of_getElem? (i := 686) (by decide +kernel), List.mem_of_getElem? (i := 687) (by decide +kernel)⟩
theorem lw_p18 : lw_okq (⟨"ClashRocks$Search", "firstPace", "(LClashRocks$Pair;LClashRocks$Ship;II)I"⟩, 5) := ⟨⟨by decide +kernel, by decide +kernel⟩, List.mem_of_getElem? (i := 244) (by decide +kernel), List.mem_of_getElem? (i := 690) (by decide +kernel), List.mem_of_getElem? (i := 691) (by decide +kernel)⟩
theorem lw_p19 : lw_okq (⟨"ClashRocks$Course", "isThroughBy", "(LClashRocks$Waters;II)Z"⟩, 6) := ⟨⟨by decide +kernel, by decide +kernel⟩, List.mem_of_getElem? (i := 215) (by decide +kernel), List.mem_of_getElem? (i := 720) (by decide +kernel), List.mem_of_getElem? (i := 721) (by decide +kernel)⟩
theorem lw_p20 : lw_okq (⟨"ClashRocks", "convoyTime", "(I)I"⟩, 8) := ⟨⟨by decide +kernel, by decide +kernel⟩, List.mem_of_getElem? (i := 23) (by decide +kernel), List.mem_of_getElem? (i := 752) (by decide +kernel), List.mem_of_getElem? (i := 753) (by decide +kernel)⟩
theorem lw_p21 : lw_okq (⟨"ClashRocks$Guess", "fold", "(LClashRocks$Looks;I)V"⟩, 6) := ⟨⟨by decide +kernel, by decide +kernel⟩, List.mem_of_getElem? (i := 271) (by decide +kernel), List.mem_of_getElem? (i := 791) (by decide +kernel), List.mem_of_getElem? (i := 792) (by decide +kernel)⟩
theorem lw_p22 : lw_okq (⟨"ClashRocks$Guess", "surveyPhases", "(II)V"⟩, 6) := ⟨⟨by decide +kernel, by decide +kernel⟩, List.mem_of_getElem? (i := 271) (by decide +kernel), List.mem_of_getElem? (i := 795) (by decide +kernel), List.mem_of_getElem? (i := 796) (by decide +kernel)⟩
theorem lw_p23 : lw_okq (⟨"ClashRocks", "isRow", "(II)Z"⟩, 8) := ⟨⟨by decide +kernel, by decide +kernel⟩, List.mem_of_getElem? (i := 23) (by decide +kernel), List.mem_of_getElem? (i := 832) (by decide +kernel), List.mem_of_getElem? (i := 833) (by decide +kernel)⟩
theorem lw_p24 : lw_okq (⟨"ClashRocksModel", "pairComes", "(IIIII)V"⟩, 34) := ⟨⟨by decide +kernel, by decide +kernel⟩, List.mem_of_getElem? (i := 878) (by decide +kernel), List.mem_of_getElem? (i := 998) (by decide +kernel), List.mem_of_getElem? (i := 999) (by decide +kernel)⟩
theorem lw_p25 : lw_okq (⟨"ClashRocksModel", "isPair", "(I)Z"⟩, 34) := ⟨⟨by decide +kernel, by decide +kernel⟩, List.mem_of_getElem? (i := 878) (by decide +kernel), List.mem_of_getElem? (i := 1006) (by decide +kernel), List.mem_of_getElem? (i := 1007) (by decide +kernel)⟩
theorem lw_p26 : lw_okq (⟨"ClashRocksModel", "shipComes", "(III)V"⟩, 34) := ⟨⟨by decide +kernel, by decide +kernel⟩, List.mem_of_getElem? (i := 878) (by decide +kernel), List.mem_of_getElem? (i := 1016) (by decide +kernel), List.mem_of_getElem? (i := 1017) (by decide +kernel)⟩
theorem lw_p27 : lw_okq (⟨"ClashRocksModel", "isShip", "(I)Z"⟩, 34) := ⟨⟨by decide +kernel, by decide +kernel⟩, List.mem_of_getElem? (i := 878) (by decide +kernel), List.mem_of_getElem? (i := 1029) (by decide +kernel), List.mem_of_getElem? (i := 1030) (by decide +kernel)⟩
theorem lw_p28 : lw_okq (⟨"ClashRocksModel", "low", "(I)I"⟩, 34) := ⟨⟨by decide +kernel, by decide +kernel⟩, List.mem_of_getElem? (i := 878) (by decide +kernel), List.mem_of_getElem? (i := 1033) (by decide +kernel), List.mem_of_getElem? (i := 1034) (by decide +kernel)⟩
theorem lw_p29 : lw_okq (⟨"ClashRocksModel", "high", "(I)I"⟩, 34) := ⟨⟨by decide +kernel, by decide +kernel⟩, List.mem_of_getElem? (i := 878) (by decide +kernel), List.mem_of_getElem? (i := 1037) (by decide +kernel), List.mem_of_getElem? (i := 1038) (by decide +kernel)⟩
theorem lw_p30 : lw_okq (⟨"ClashRocksModel", "span", "(I)I"⟩, 34) := ⟨⟨by decide +kernel, by decide +kernel⟩, List.mem_of_getElem? (i := 878) (by decide +kernel), List.mem_of_getElem? (i := 1041) (by decide +kernel), List.mem_of_getElem? (i := 1042) (by decide +kernel)⟩
theorem lw_p31 : lw_okq (⟨"ClashRocksModel", "isOpen", "(III)Z"⟩, 34) := ⟨⟨by decide +kernel, by decide +kernel⟩, List.mem_of_getElem? (i := 878) (by decide +kernel), List.mem_of_getElem? (i := 1050) (by decide +kernel), List.mem_of_getElem? (i := 1051) (by decide +kernel)⟩
def lw_privs_2 : List (MethodName × Nat) := [(⟨"ClashRocks$Search", "behindBy", "(LClashRocks$Pair;LClashRocks$Ship;II)I"⟩, 5), (⟨"ClashRocks$Search", "tellPaces", "(LClashRocks$Waters;LClashRocks$Ship;I)V"⟩, 5), (⟨"ClashRocks$Search", "firstPace", "(LClashRocks$Pair;LClashRocks$Ship;II)I"⟩, 5), (⟨"ClashRocks$Course", "isThroughBy", "(LClashRocks$Waters;II)Z"⟩, 6), (⟨"ClashRocks", "convoyTime", "(I)I"⟩, 8), (⟨"ClashRocks$Guess", "fold", "(LClashRocks$Looks;I)V"⟩, 6), (⟨"ClashRocks$Guess", "surveyPhases", "(II)V"⟩, 6), (⟨"ClashRocks", "isRow", "(II)Z"⟩, 8), (⟨"ClashRocksModel", "pairComes", "(IIIII)V"⟩, 34), (⟨"ClashRocksModel", "isPair", "(I)Z"⟩, 34), (⟨"ClashRocksModel", "shipComes", "(III)V"⟩, 34), (⟨"ClashRocksModel", "isShip", "(I)Z"⟩, 34), (⟨"ClashRocksModel", "low", "(I)I"⟩, 34), (⟨"ClashRocksModel", "high", "(I)I"⟩, 34), (⟨"ClashRocksModel", "span", "(I)I"⟩, 34), (⟨"ClashRocksModel", "isOpen", "(III)Z"⟩, 34)]
theorem lw_r2 : ∀ q ∈ lw_privs_2, lw_okq q := List.forall_mem_cons.mpr ⟨lw_p16, List.forall_mem_cons.mpr ⟨lw_p17, List.forall_mem_cons.mpr ⟨lw_p18, List.forall_mem_cons.mpr ⟨lw_p19, List.forall_mem_cons.mpr ⟨lw_p20, List.forall_mem_cons.mpr ⟨lw_p21, List.forall_mem_cons.mpr ⟨lw_p22, List.forall_mem_cons.mpr ⟨lw_p23, List.forall_mem_cons.mpr ⟨lw_p24, List.forall_mem_cons.mpr ⟨lw_p25, List.forall_mem_cons.mpr ⟨lw_p26, List.forall_mem_cons.mpr ⟨lw_p27, List.forall_mem_cons.mpr ⟨lw_p28, List.forall_mem_cons.mpr ⟨lw_p29, List.forall_mem_cons.mpr ⟨lw_p30, List.forall_mem_cons.mpr ⟨lw_p31, fun _ h => absurd h List.not_mem_nil⟩⟩⟩⟩⟩⟩⟩⟩⟩⟩⟩⟩⟩⟩⟩⟩
theorem lw_p32 : lw_okq (⟨"ClashRocksModel", "isPlain", "(III)Z"⟩, 34) := ⟨⟨by decide +kernel, by decide +kernel⟩, List.mem_of_getElem? (i := 878) (by decide +kernel), List.mem_of_getElem? (i := 1054) (by decide +kernel), List.mem_of_getElem? (i := 1055) (by decide +kernel)⟩
theorem lw_p33 : lw_okq (⟨"ClashRocksModel", "readPair", "()V"⟩, 34) := ⟨⟨by decide +kernel, by decide +kernel⟩, List.mem_of_getElem? (i := 878) (by decide +kernel), List.mem_of_getElem? (i := 1068) (by decide +kernel), List.mem_of_getElem? (i := 1069) (by decide +kernel)⟩
theorem lw_p34 : lw_okq (⟨"ClashRocksModel", "letter", "(IIII)I"⟩, 34) := ⟨⟨by decide +kernel, by decide +kernel⟩, List.mem_of_getElem? (i := 878) (by decide +kernel), List.mem_of_getElem? (i := 1072) (by decide +kernel), List.mem_of_getElem? (i := 1073) (by decide +kernel)⟩
theorem lw_p35 : lw_okq (⟨"ClashRocksModel", "here", "()I"⟩, 34) := ⟨⟨by decide +kernel, by decide +kernel⟩, List.mem_of_getElem? (i := 878) (by decide +kernel), List.mem_of_getElem? (i := 1076) (by decide +kernel), List.mem_of_getElem? (i := 1077) (by decide +kernel)⟩
theorem lw_p36 : lw_okq (⟨"ClashRocksModel", "number", "(II)I"⟩, 34) := ⟨⟨by decide +kernel, by decide +kernel⟩, List.mem_of_getElem? (i := 878) (by decide +kernel), List.mem_of_getElem? (i := 1080) (by decide +kernel), List.mem_of_getElem? (i := 1081) (by decide +kernel)⟩
theorem lw_p37 : lw_okq (⟨"ClashRocksModel", "must", "(I)V"⟩, 34) := ⟨⟨by decide +kernel, by decide +kernel⟩, List.mem_of_getElem? (i := 878) (by decide +kernel), List.mem_of_getElem? (i := 1086) (by decide +kernel), List.mem_of_getElem? (i := 1087) (by decide +kernel)⟩
theorem lw_p38 : lw_okq (⟨"ClashRocksModel", "has", "(I)Z"⟩, 34) := ⟨⟨by decide +kernel, by decide +kernel⟩, List.mem_of_getElem? (i := 878) (by decide +kernel), List.mem_of_getElem? (i := 1090) (by decide +kernel), List.mem_of_getElem? (i := 1091) (by decide +kernel)⟩
theorem lw_p39 : lw_okq (⟨"ClashRocksModel", "readShip", "()V"⟩, 34) := ⟨⟨by decide +kernel, by decide +kernel⟩, List.mem_of_getElem? (i := 878) (by decide +kernel), List.mem_of_getElem? (i := 1094) (by decide +kernel), List.mem_of_getElem? (i := 1095) (by decide +kernel)⟩
theorem lw_p40 : lw_okq (⟨"ClashRocksModel", "digit", "(I)I"⟩, 34) := ⟨⟨by decide +kernel, by decide +kernel⟩, List.mem_of_getElem? (i := 878) (by decide +kernel), List.mem_of_getElem? (i := 1098) (by decide +kernel), List.mem_of_getElem? (i := 1099) (by decide +kernel)⟩
theorem lw_p41 : lw_okq (⟨"ClashRocksModel", "notes", "()V"⟩, 34) := ⟨⟨by decide +kernel, by decide +kernel⟩, List.mem_of_getElem? (i := 878) (by decide +kernel), List.mem_of_getElem? (i := 1110) (by decide +kernel), List.mem_of_getElem? (i := 1111) (by decide +kernel)⟩
theorem lw_p42 : lw_okq (⟨"ClashRocksModel", "passes", "(IIIII)V"⟩, 34) := ⟨⟨by decide +kernel, by decide +kernel⟩, List.mem_of_getElem? (i := 878) (by decide +kernel), List.mem_of_getElem? (i := 1123) (by decide +kernel), List.mem_of_getElem? (i := 1124) (by decide +kernel)⟩
theorem lw_p43 : lw_okq (⟨"ClashRocksModel", "goesFull", "(II)V"⟩, 34) := ⟨⟨by decide +kernel, by decide +kernel⟩, List.mem_of_getElem? (i := 878) (by decide +kernel), List.mem_of_getElem? (i := 1145) (by decide +kernel), List.mem_of_getElem? (i := 1146) (by decide +kernel)⟩
theorem lw_p44 : lw_okq (⟨"ClashRocksModel", "goes", "(II)V"⟩, 34) := ⟨⟨by decide +kernel, by decide +kernel⟩, List.mem_of_getElem? (i := 878) (by decide +kernel), List.mem_of_getElem? (i := 1149) (by decide +kernel), List.mem_of_getElem? (i := 1150) (by decide +kernel)⟩
theorem lw_p45 : lw_okq (⟨"ClashRocksModel", "looksOn", "(II)V"⟩, 34) := ⟨⟨by decide +kernel, by decide +kernel⟩, List.mem_of_getElem? (i := 878) (by decide +kernel), List.mem_of_getElem? (i := 1162) (by decide +kernel), List.mem_of_getElem? (i := 1163) (by decide +kernel)⟩
theorem lw_p46 : lw_okq (⟨"ClashRocksModel", "by", "(IIIII)I"⟩, 34) := ⟨⟨by decide +kernel, by decide +kernel⟩, List.mem_of_getElem? (i := 878) (by decide +kernel), List.mem_of_getElem? (i := 1167) (by decide +kernel), List.mem_of_getElem? (i := 1168) (by decide +kernel)⟩
theorem lw_p47 : lw_okq (⟨"ClashRocksModel", "endOf", "(II)I"⟩, 34) := ⟨⟨by decide +kernel, by decide +kernel⟩, List.mem_of_getElem? (i := 878) (by decide +kernel), List.mem_of_getElem? (i := 1171) (by decide +kernel), List.mem_of_getElem? (i := 1172) (by decide +kernel)⟩
def lw_privs_3 : List (MethodName × Nat) := [(⟨"ClashRocksModel", "isPlain", "(III)Z"⟩, 34), (⟨"ClashRocksModel", "readPair", "()V"⟩, 34), (⟨"ClashRocksModel", "letter", "(IIII)I"⟩, 34), (⟨"ClashRocksModel", "here", "()I"⟩, 34), (⟨"ClashRocksModel", "number", "(II)I"⟩, 34), (⟨"ClashRocksModel", "must", "(I)V"⟩, 34), (⟨"ClashRocksModel", "has", "(I)Z"⟩, 34), (⟨"ClashRocksModel", "readShip", "()V"⟩, 34), (⟨"ClashRocksModel", "digit", "(I)I"⟩, 34), (⟨"ClashRocksModel", "notes", "()V"⟩, 34), (⟨"ClashRocksModel", "passes", "(IIIII)V"⟩, 34), (⟨"ClashRocksModel", "goesFull", "(II)V"⟩, 34), (⟨"ClashRocksModel", "goes", "(II)V"⟩, 34), (⟨"ClashRocksModel", "looksOn", "(II)V"⟩, 34), (⟨"ClashRocksModel", "by", "(IIIII)I"⟩, 34), (⟨"ClashRocksModel", "endOf", "(II)I"⟩, 34)]
theorem lw_r3 : ∀ q ∈ lw_privs_3, lw_okq q := List.forall_mem_cons.mpr ⟨lw_p32, List.forall_mem_cons.mpr ⟨lw_p33, List.forall_mem_cons.mpr ⟨lw_p34, List.forall_mem_cons.mpr ⟨lw_p35, List.forall_mem_cons.mpr ⟨lw_p36, List.forall_mem_cons.mpr ⟨lw_p37, List.forall_mem_cons.mpr ⟨lw_p38, List.forall_mem_cons.mpr ⟨lw_p39, List.forall_mem_cons.mpr ⟨lw_p40, List.forall_mem_cons.mpr ⟨lw_p41, List.forall_mem_cons.mpr ⟨lw_p42, List.forall_mem_cons.mpr ⟨lw_p43, List.forall_mem_cons.mpr ⟨lw_p44, List.forall_mem_cons.mpr ⟨lw_p45, List.forall_mem_cons.mpr ⟨lw_p46, List.forall_mem_cons.mpr ⟨lw_p47, fun _ h => absurd h List.not_mem_nil⟩⟩⟩⟩⟩⟩⟩⟩⟩⟩⟩⟩⟩⟩⟩⟩
theorem lw_p48 : lw_okq (⟨"ClashRocksModel", "clears", "(II)I"⟩, 34) := ⟨⟨by decide +kernel, by decide +kernel⟩, List.mem_of_getElem? (i := 878) (by decide +kernel), List.mem_of_getElem? (i := 1183) (by decide +kernel), List.mem_of_getElem? (i := 1184) (by decide +kernel)⟩
theorem lw_p49 : lw_okq (⟨"ClashRocksModel", "isClean", "()Z"⟩, 34) := ⟨⟨by decide +kernel, by decide +kernel⟩, List.mem_of_getElem? (i := 878) (by decide +kernel), List.mem_of_getElem? (i := 1215) (by decide +kernel), List.mem_of_getElem? (i := 1216) (by decide +kernel)⟩
theorem lw_p50 : lw_okq (⟨"ClashRocksModel", "fit", "(I)V"⟩, 34) := ⟨⟨by decide +kernel, by decide +kernel⟩, List.mem_of_getElem? (i := 878) (by decide +kernel), List.mem_of_getElem? (i := 1231) (by decide +kernel), List.mem_of_getElem? (i := 1232) (by decide +kernel)⟩
theorem lw_p51 : lw_okq (⟨"ClashRocksModel", "notesRow", "([II)I"⟩, 34) := ⟨⟨by decide +kernel, by decide +kernel⟩, List.mem_of_getElem? (i := 878) (by decide +kernel), List.mem_of_getElem? (i := 1250) (by decide +kernel), List.mem_of_getElem? (i := 1251) (by decide +kernel)⟩
theorem lw_p52 : lw_okq (⟨"ClashRocksModel", "gives", "(I[I)I"⟩, 34) := ⟨⟨by decide +kernel, by decide +kernel⟩, List.mem_of_getElem? (i := 878) (by decide +kernel), List.mem_of_getElem? (i := 1258) (by decide +kernel), List.mem_of_getElem? (i := 1259) (by decide +kernel)⟩
theorem lw_p53 : lw_okq (⟨"ClashRocksModel", "why", "(IIII)I"⟩, 34) := ⟨⟨by decide +kernel, by decide +kernel⟩, List.mem_of_getElem? (i := 878) (by decide +kernel), List.mem_of_getElem? (i := 1272) (by decide +kernel), List.mem_of_getElem? (i := 1273) (by decide +kernel)⟩
theorem lw_p54 : lw_okq (⟨"ClashRocksModel", "puts", "(IIJ)V"⟩, 34) := ⟨⟨by decide +kernel, by decide +kernel⟩, List.mem_of_getElem? (i := 878) (by decide +kernel), List.mem_of_getElem? (i := 1281) (by decide +kernel), List.mem_of_getElem? (i := 1282) (by decide +kernel)⟩
def lw_privs_4 : List (MethodName × Nat) := [(⟨"ClashRocksModel", "clears", "(II)I"⟩, 34), (⟨"ClashRocksModel", "isClean", "()Z"⟩, 34), (⟨"ClashRocksModel", "fit", "(I)V"⟩, 34), (⟨"ClashRocksModel", "notesRow", "([II)I"⟩, 34), (⟨"ClashRocksModel", "gives", "(I[I)I"⟩, 34), (⟨"ClashRocksModel", "why", "(IIII)I"⟩, 34), (⟨"ClashRocksModel", "puts", "(IIJ)V"⟩, 34)]
theorem lw_r4 : ∀ q ∈ lw_privs_4, lw_okq q := List.forall_mem_cons.mpr ⟨lw_p48, List.forall_mem_cons.mpr ⟨lw_p49, List.forall_mem_cons.mpr ⟨lw_p50, List.forall_mem_cons.mpr ⟨lw_p51, List.forall_mem_cons.mpr ⟨lw_p52, List.forall_mem_cons.mpr ⟨lw_p53, List.forall_mem_cons.mpr ⟨lw_p54, fun _ h => absurd h List.not_mem_nil⟩⟩⟩⟩⟩⟩⟩
def lw_privs : List (MethodName × Nat) := lw_privs_1 ++ (lw_privs_2 ++ (lw_privs_3 ++ (lw_privs_4)))
def lw_tbl : List Cond := k2_sels lw_privs ++ tables_1
theorem lw_privs_ok : ∀ q ∈ lw_privs, lw_okq q := by
  show ∀ q ∈ lw_privs_1 ++ (lw_privs_2 ++ (lw_privs_3 ++ (lw_privs_4))), lw_okq q
  exact List.forall_mem_append.mpr ⟨lw_r1, List.forall_mem_append.mpr ⟨lw_r2, List.forall_mem_append.mpr ⟨lw_r3, lw_r4⟩⟩⟩
end
section
/-! ===== BEGIN words of one list among another's, by their places ===== -/
theorem goodIn_r {big : List Cond} (ws : List Cond) (ps : List Nat) (hp : ws = ps.filterMap (fun i => big[i]?)) (h : ws.all goodWord = true) : GoodIn big ws := by
  intro w hw
  have h1 := List.all_eq_true.mp h w hw
  rw [hp] at hw
  obtain ⟨i, -, hi⟩ := List.mem_filterMap.mp hw
  have hm : w ∈ big := by first | exact List.mem_of_getElem? hi | exact List.getElem?_mem hi
  exact ⟨hm, good_of_word h1⟩
theorem goodIn_app {big a b : List Cond} (ha : GoodIn big a) (hb : GoodIn big b) : GoodIn big (a ++ b) := fun w h => (List.mem_append.mp h).elim (ha w) (hb w)
theorem goodIn_ca {big a b : List Cond} {c : Cond} (ha : GoodIn big (c :: a)) (hb : GoodIn big b) : GoodIn big (c :: (a ++ b)) := fun w h => (List.mem_cons.mp h).elim (fun e => ha w (List.mem_cons.mpr (Or.inl e))) (fun h => (List.mem_append.mp h).elim (fun h => ha w (List.mem_cons.mpr (Or.inr h))) (hb w))
theorem goodIn_sub {big ws : List Cond} (hm : ∀ w ∈ ws, w ∈ big) (h : ws.all goodWord = true) : GoodIn big ws := fun w hw => ⟨hm w hw, good_of_word (List.all_eq_true.mp h w hw)⟩
/-! ===== END ===== -/
/-! ===== BEGIN printed: names, fields, word lists, decode rows ===== -/
def RX0 : String := "ClashRocks$Course"
def TX0 : u_T := fun k => match k with
  | 0 => ("ClashRocks$Course", "paces", "[I", true)
  | 1 => ("ClashRocks$Course", "comes", "[I", true)
  | 2 => ("ClashRocks$Course", "leaves", "[I", true)
  | 3 => ("ClashRocks$Course", "crusher", "I", false)
  | 4 => ("ClashRocks$Course", "scrapes", "I", false)
  | _ => ("ClashRocks$Course", "second", "I", false)
def tyX0 : Nat → FieldType := fun k => match k with
  | 0 => .array .int
  | 1 => .array .int
  | 2 => .array .int
  | 3 => .int
  | 4 => .int
  | _ => .int
abbrev wsX00 : List Cond := u_ws RX0 TX0 6
theorem nmX0 : ∀ a, a < 6 → ∀ b, b < 6 → a ≠ b → (TX0 a).2.1 ≠ (TX0 b).2.1 := by decide +kernel
theorem tyX0_ok : ∀ k, k < 6 → parseFieldDescriptor (TX0 k).2.2.1 = some (tyX0 k) := by decide +kernel
abbrev cX0_init : ByteArray := prog_2_method_1_code
def yX0_init : MethodName := ⟨RX0, "<init>", "()V"⟩
abbrev cX0_goBetween : ByteArray := prog_2_method_2_code
def yX0_goBetween : MethodName := ⟨RX0, "goBetween", "(LClashRocks$Pair;LClashRocks$Ship;II)I"⟩
abbrev cX0_go : ByteArray := prog_2_method_3_code
def yX0_go : MethodName := ⟨RX0, "go", "(LClashRocks$Waters;LClashRocks$Ship;I)V"⟩
abbrev cX0_isClean : ByteArray := prog_2_method_4_code
def yX0_isClean : MethodName := ⟨RX0, "isClean", "()Z"⟩
abbrev cX0_judgement : ByteArray := prog_2_method_5_code
def yX0_judgement : MethodName := ⟨RX0, "judgement", "(I)I"⟩
abbrev cX0_planFull : ByteArray := prog_2_method_6_code
def yX0_planFull : MethodName := ⟨RX0, "planFull", "(LClashRocks$Waters;LClashRocks$Ship;I)V"⟩
abbrev cX0_isThroughBy : ByteArray := prog_2_method_7_code
def yX0_isThroughBy : MethodName := ⟨RX0, "isThroughBy", "(LClashRocks$Waters;II)Z"⟩
abbrev cX0_isThrough : ByteArray := prog_2_method_8_code
def yX0_isThrough : MethodName := ⟨RX0, "isThrough", "(LClashRocks$Waters;I)Z"⟩
abbrev cX0_isThroughBut : ByteArray := prog_2_method_9_code
def yX0_isThroughBut : MethodName := ⟨RX0, "isThroughBut", "(LClashRocks$Waters;I)Z"⟩
abbrev cX0_fogWeight : ByteArray := prog_2_method_10_code
def yX0_fogWeight : MethodName := ⟨RX0, "fogWeight", "(LClashRocks$Waters;)I"⟩
abbrev cX0_fewestStones : ByteArray := prog_2_method_11_code
def yX0_fewestStones : MethodName := ⟨RX0, "fewestStones", "(LClashRocks$Waters;I)I"⟩
def RX1 : String := "ClashRocks$Guess"
def TX1 : u_T := fun k => match k with
  | 0 => ("ClashRocks$Guess", "openBy", "[I", true)
  | 1 => ("ClashRocks$Guess", "openIn", "[I", true)
  | 2 => ("ClashRocks$Guess", "total", "I", false)
  | 3 => ("ClashRocks$Guess", "first", "I", false)
  | 4 => ("ClashRocks$Guess", "seenOpen", "I", false)
  | _ => ("ClashRocks$Guess", "seenShut", "I", false)
def tyX1 : Nat → FieldType := fun k => match k with
  | 0 => .array .int
  | 1 => .array .int
  | 2 => .int
  | 3 => .int
  | 4 => .int
  | _ => .int
abbrev wsX10 : List Cond := u_ws RX1 TX1 6
theorem nmX1 : ∀ a, a < 6 → ∀ b, b < 6 → a ≠ b → (TX1 a).2.1 ≠ (TX1 b).2.1 := by decide +kernel
theorem tyX1_ok : ∀ k, k < 6 → parseFieldDescriptor (TX1 k).2.2.1 = some (tyX1 k) := by decide +kernel
abbrev cX1_init : ByteArray := prog_3_method_1_code
def yX1_init : MethodName := ⟨RX1, "<init>", "()V"⟩
abbrev cX1_survey : ByteArray := prog_3_method_2_code
def yX1_survey : MethodName := ⟨RX1, "survey", "(LClashRocks$Looks;II)V"⟩
abbrev cX1_fold : ByteArray := prog_3_method_3_code
def yX1_fold : MethodName := ⟨RX1, "fold", "(LClashRocks$Looks;I)V"⟩
abbrev cX1_surveyPhases : ByteArray := prog_3_method_4_code
def yX1_surveyPhases : MethodName := ⟨RX1, "surveyPhases", "(II)V"⟩
abbrev cX1_leftAtWorst : ByteArray := prog_3_method_5_code
def yX1_leftAtWorst : MethodName := ⟨RX1, "leftAtWorst", "(I)I"⟩
def RX2 : String := "ClashRocks$Looks"
def TX2 : u_T := fun k => match k with
  | 0 => ("ClashRocks$Looks", "seconds", "[I", true)
  | 1 => ("ClashRocks$Looks", "seen", "[I", true)
  | _ => ("ClashRocks$Looks", "size", "I", false)
def tyX2 : Nat → FieldType := fun k => match k with
  | 0 => .array .int
  | 1 => .array .int
  | _ => .int
abbrev wsX20 : List Cond := u_ws RX2 TX2 3
theorem nmX2 : ∀ a, a < 3 → ∀ b, b < 3 → a ≠ b → (TX2 a).2.1 ≠ (TX2 b).2.1 := by decide +kernel
theorem tyX2_ok : ∀ k, k < 3 → parseFieldDescriptor (TX2 k).2.2.1 = some (tyX2 k) := by decide +kernel
abbrev cX2_init : ByteArray := prog_4_method_1_code
def yX2_init : MethodName := ⟨RX2, "<init>", "()V"⟩
abbrev cX2_add : ByteArray := prog_4_method_2_code
def yX2_add : MethodName := ⟨RX2, "add", "(II)Z"⟩
abbrev cX2_take : ByteArray := prog_4_method_3_code
def yX2_take : MethodName := ⟨RX2, "take", "(LClashRocks$Looks;)V"⟩
def RX3 : String := "ClashRocks$Pair"
def TX3 : u_T := fun k => match k with
  | 0 => ("ClashRocks$Pair", "kind", "I", false)
  | 1 => ("ClashRocks$Pair", "reach", "I", false)
  | 2 => ("ClashRocks$Pair", "beat", "I", false)
  | 3 => ("ClashRocks$Pair", "opening", "I", false)
  | _ => ("ClashRocks$Pair", "phase", "I", false)
def tyX3 : Nat → FieldType := fun k => match k with
  | 0 => .int
  | 1 => .int
  | 2 => .int
  | 3 => .int
  | _ => .int
abbrev wsX30 : List Cond := u_ws RX3 TX3 5
theorem nmX3 : ∀ a, a < 5 → ∀ b, b < 5 → a ≠ b → (TX3 a).2.1 ≠ (TX3 b).2.1 := by decide +kernel
theorem tyX3_ok : ∀ k, k < 5 → parseFieldDescriptor (TX3 k).2.2.1 = some (tyX3 k) := by decide +kernel
abbrev cX3_init : ByteArray := prog_5_method_1_code
def yX3_init : MethodName := ⟨RX3, "<init>", "()V"⟩
abbrev cX3_become : ByteArray := prog_5_method_2_code
def yX3_become : MethodName := ⟨RX3, "become", "(IIII)V"⟩
abbrev cX3_take : ByteArray := prog_5_method_3_code
def yX3_take : MethodName := ⟨RX3, "take", "(LClashRocks$Pair;)V"⟩
abbrev cX3_isOpenNow : ByteArray := prog_5_method_4_code
def yX3_isOpenNow : MethodName := ⟨RX3, "isOpenNow", "(I)Z"⟩
abbrev cX3_isOpenAt : ByteArray := prog_5_method_5_code
def yX3_isOpenAt : MethodName := ⟨RX3, "isOpenAt", "(II)Z"⟩
abbrev cX3_isPlainOpen : ByteArray := prog_5_method_6_code
def yX3_isPlainOpen : MethodName := ⟨RX3, "isPlainOpen", "(II)Z"⟩
abbrev cX3_firstShut : ByteArray := prog_5_method_7_code
def yX3_firstShut : MethodName := ⟨RX3, "firstShut", "(III)I"⟩
abbrev cX3_phaseBehind : ByteArray := prog_5_method_8_code
def yX3_phaseBehind : MethodName := ⟨RX3, "phaseBehind", "(I)I"⟩
def RX4 : String := "ClashRocks$Row"
def TX4 : u_T := fun k => match k with
  | 0 => ("ClashRocks$Row", "items", "[J", true)
  | 1 => ("ClashRocks$Row", "isHeld", "Z", false)
  | 2 => ("ClashRocks$Row", "lane", "I", false)
  | _ => ("ClashRocks$Row", "length", "I", false)
def tyX4 : Nat → FieldType := fun k => match k with
  | 0 => .array .long
  | 1 => .boolean
  | 2 => .int
  | _ => .int
abbrev wsX40 : List Cond := u_ws RX4 TX4 4
theorem nmX4 : ∀ a, a < 4 → ∀ b, b < 4 → a ≠ b → (TX4 a).2.1 ≠ (TX4 b).2.1 := by decide +kernel
theorem tyX4_ok : ∀ k, k < 4 → parseFieldDescriptor (TX4 k).2.2.1 = some (tyX4 k) := by decide +kernel
abbrev cX4_init : ByteArray := prog_6_method_1_code
def yX4_init : MethodName := ⟨RX4, "<init>", "()V"⟩
abbrev cX4_begin : ByteArray := prog_6_method_2_code
def yX4_begin : MethodName := ⟨RX4, "begin", "(II)V"⟩
abbrev cX4_hasItems : ByteArray := prog_6_method_3_code
def yX4_hasItems : MethodName := ⟨RX4, "hasItems", "(II)Z"⟩
abbrev cX4_refusal : ByteArray := prog_6_method_4_code
def yX4_refusal : MethodName := ⟨RX4, "refusal", "(III)I"⟩
def RX5 : String := "ClashRocks$Search"
def TX5 : u_T := fun k => match k with
  | 0 => ("ClashRocks$Search", "ends", "[[I", true)
  | 1 => ("ClashRocks$Search", "openFor", "[I", true)
  | 2 => ("ClashRocks$Search", "paces", "[I", true)
  | 3 => ("ClashRocks$Search", "begin", "I", false)
  | _ => ("ClashRocks$Search", "end", "I", false)
def tyX5 : Nat → FieldType := fun k => match k with
  | 0 => .array (.array .int)
  | 1 => .array .int
  | 2 => .array .int
  | 3 => .int
  | _ => .int
abbrev wsX50 : List Cond := u_ws RX5 TX5 5
theorem nmX5 : ∀ a, a < 5 → ∀ b, b < 5 → a ≠ b → (TX5 a).2.1 ≠ (TX5 b).2.1 := by decide +kernel
theorem tyX5_ok : ∀ k, k < 5 → parseFieldDescriptor (TX5 k).2.2.1 = some (tyX5 k) := by decide +kernel
abbrev cX5_init : ByteArray := prog_7_method_1_code
def yX5_init : MethodName := ⟨RX5, "<init>", "()V"⟩
abbrev cX5_findSoonest : ByteArray := prog_7_method_2_code
def yX5_findSoonest : MethodName := ⟨RX5, "findSoonest", "(LClashRocks$Waters;LClashRocks$Ship;I)V"⟩
abbrev cX5_measure : ByteArray := prog_7_method_3_code
def yX5_measure : MethodName := ⟨RX5, "measure", "(LClashRocks$Pair;II)V"⟩
abbrev cX5_behindBy : ByteArray := prog_7_method_4_code
def yX5_behindBy : MethodName := ⟨RX5, "behindBy", "(LClashRocks$Pair;LClashRocks$Ship;II)I"⟩
abbrev cX5_soonestEnd : ByteArray := prog_7_method_5_code
def yX5_soonestEnd : MethodName := ⟨RX5, "soonestEnd", "(LClashRocks$Pair;LClashRocks$Ship;II)I"⟩
abbrev cX5_tellPaces : ByteArray := prog_7_method_6_code
def yX5_tellPaces : MethodName := ⟨RX5, "tellPaces", "(LClashRocks$Waters;LClashRocks$Ship;I)V"⟩
abbrev cX5_firstPace : ByteArray := prog_7_method_7_code
def yX5_firstPace : MethodName := ⟨RX5, "firstPace", "(LClashRocks$Pair;LClashRocks$Ship;II)I"⟩
def RX6 : String := "ClashRocks$Ship"
def TX6 : u_T := fun k => match k with
  | 0 => ("ClashRocks$Ship", "kind", "I", false)
  | 1 => ("ClashRocks$Ship", "length", "I", false)
  | _ => ("ClashRocks$Ship", "speed", "I", false)
def tyX6 : Nat → FieldType := fun k => match k with
  | 0 => .int
  | 1 => .int
  | _ => .int
abbrev wsX60 : List Cond := u_ws RX6 TX6 3
theorem nmX6 : ∀ a, a < 3 → ∀ b, b < 3 → a ≠ b → (TX6 a).2.1 ≠ (TX6 b).2.1 := by decide +kernel
theorem tyX6_ok : ∀ k, k < 3 → parseFieldDescriptor (TX6 k).2.2.1 = some (tyX6 k) := by decide +kernel
abbrev cX6_init : ByteArray := prog_8_method_1_code
def yX6_init : MethodName := ⟨RX6, "<init>", "()V"⟩
abbrev cX6_become : ByteArray := prog_8_method_2_code
def yX6_become : MethodName := ⟨RX6, "become", "(III)V"⟩
abbrev cX6_take : ByteArray := prog_8_method_3_code
def yX6_take : MethodName := ⟨RX6, "take", "(LClashRocks$Ship;)V"⟩
abbrev cX6_low : ByteArray := prog_8_method_4_code
def yX6_low : MethodName := ⟨RX6, "low", "()I"⟩
abbrev cX6_high : ByteArray := prog_8_method_5_code
def yX6_high : MethodName := ⟨RX6, "high", "()I"⟩
abbrev cX6_span : ByteArray := prog_8_method_6_code
def yX6_span : MethodName := ⟨RX6, "span", "()I"⟩
def RX7 : String := "ClashRocks$Tape"
def TX7 : u_T := fun k => match k with
  | 0 => ("ClashRocks$Tape", "letters", "[C", true)
  | 1 => ("ClashRocks$Tape", "pairs", "[LClashRocks$Pair;", true)
  | 2 => ("ClashRocks$Tape", "ships", "[LClashRocks$Ship;", true)
  | 3 => ("ClashRocks$Tape", "size", "I", false)
  | 4 => ("ClashRocks$Tape", "pairCount", "I", false)
  | 5 => ("ClashRocks$Tape", "shipCount", "I", false)
  | _ => ("ClashRocks$Tape", "place", "I", false)
def tyX7 : Nat → FieldType := fun k => match k with
  | 0 => .array .char
  | 1 => .array (.object "ClashRocks$Pair")
  | 2 => .array (.object "ClashRocks$Ship")
  | 3 => .int
  | 4 => .int
  | 5 => .int
  | _ => .int
abbrev wsX70 : List Cond := u_ws RX7 TX7 7
theorem nmX7 : ∀ a, a < 7 → ∀ b, b < 7 → a ≠ b → (TX7 a).2.1 ≠ (TX7 b).2.1 := by decide +kernel
theorem tyX7_ok : ∀ k, k < 7 → parseFieldDescriptor (TX7 k).2.2.1 = some (tyX7 k) := by decide +kernel
abbrev cX7_init : ByteArray := prog_9_method_1_code
def yX7_init : MethodName := ⟨RX7, "<init>", "()V"⟩
abbrev cX7_add : ByteArray := prog_9_method_2_code
def yX7_add : MethodName := ⟨RX7, "add", "(C)Z"⟩
abbrev cX7_isStrait : ByteArray := prog_9_method_3_code
def yX7_isStrait : MethodName := ⟨RX7, "isStrait", "()Z"⟩
abbrev cX7_areShipsRead : ByteArray := prog_9_method_4_code
def yX7_areShipsRead : MethodName := ⟨RX7, "areShipsRead", "()Z"⟩
abbrev cX7_isPairRead : ByteArray := prog_9_method_5_code
def yX7_isPairRead : MethodName := ⟨RX7, "isPairRead", "(LClashRocks$Pair;)Z"⟩
abbrev cX7_isShipRead : ByteArray := prog_9_method_6_code
def yX7_isShipRead : MethodName := ⟨RX7, "isShipRead", "(LClashRocks$Ship;)Z"⟩
abbrev cX7_letterHere : ByteArray := prog_9_method_7_code
def yX7_letterHere : MethodName := ⟨RX7, "letterHere", "()C"⟩
abbrev cX7_isTaken : ByteArray := prog_9_method_8_code
def yX7_isTaken : MethodName := ⟨RX7, "isTaken", "(C)Z"⟩
abbrev cX7_kindRead : ByteArray := prog_9_method_9_code
def yX7_kindRead : MethodName := ⟨RX7, "kindRead", "(Ljava/lang/String;)I"⟩
abbrev cX7_digitRead : ByteArray := prog_9_method_10_code
def yX7_digitRead : MethodName := ⟨RX7, "digitRead", "(I)I"⟩
abbrev cX7_numberRead : ByteArray := prog_9_method_11_code
def yX7_numberRead : MethodName := ⟨RX7, "numberRead", "(II)I"⟩
def RX8 : String := "ClashRocks$Voyage"
def TX8 : u_T := fun k => match k with
  | 0 => ("ClashRocks$Voyage", "clock", "I", false)
  | 1 => ("ClashRocks$Voyage", "out", "I", false)
  | 2 => ("ClashRocks$Voyage", "passed", "I", false)
  | _ => ("ClashRocks$Voyage", "scrapes", "I", false)
def tyX8 : Nat → FieldType := fun k => match k with
  | 0 => .int
  | 1 => .int
  | 2 => .int
  | _ => .int
abbrev wsX80 : List Cond := u_ws RX8 TX8 4
theorem nmX8 : ∀ a, a < 4 → ∀ b, b < 4 → a ≠ b → (TX8 a).2.1 ≠ (TX8 b).2.1 := by decide +kernel
theorem tyX8_ok : ∀ k, k < 4 → parseFieldDescriptor (TX8 k).2.2.1 = some (tyX8 k) := by decide +kernel
abbrev cX8_init : ByteArray := prog_10_method_1_code
def yX8_init : MethodName := ⟨RX8, "<init>", "()V"⟩
abbrev cX8_take : ByteArray := prog_10_method_2_code
def yX8_take : MethodName := ⟨RX8, "take", "(LClashRocks$Voyage;)V"⟩
def RX9 : String := "ClashRocks$Waters"
def TX9 : u_T := fun k => match k with
  | 0 => ("ClashRocks$Waters", "pairs", "[LClashRocks$Pair;", true)
  | 1 => ("ClashRocks$Waters", "ships", "[LClashRocks$Ship;", true)
  | 2 => ("ClashRocks$Waters", "now", "LClashRocks$Voyage;", true)
  | 3 => ("ClashRocks$Waters", "past", "[LClashRocks$Voyage;", true)
  | 4 => ("ClashRocks$Waters", "looks", "LClashRocks$Looks;", true)
  | 5 => ("ClashRocks$Waters", "pairCount", "I", false)
  | 6 => ("ClashRocks$Waters", "shipCount", "I", false)
  | 7 => ("ClashRocks$Waters", "pastCount", "I", false)
  | _ => ("ClashRocks$Waters", "draw", "I", false)
def tyX9 : Nat → FieldType := fun k => match k with
  | 0 => .array (.object "ClashRocks$Pair")
  | 1 => .array (.object "ClashRocks$Ship")
  | 2 => .object "ClashRocks$Voyage"
  | 3 => .array (.object "ClashRocks$Voyage")
  | 4 => .object "ClashRocks$Looks"
  | 5 => .int
  | 6 => .int
  | 7 => .int
  | _ => .int
abbrev wsX90 : List Cond := u_ws RX9 TX9 9
theorem nmX9 : ∀ a, a < 9 → ∀ b, b < 9 → a ≠ b → (TX9 a).2.1 ≠ (TX9 b).2.1 := by decide +kernel
theorem tyX9_ok : ∀ k, k < 9 → parseFieldDescriptor (TX9 k).2.2.1 = some (tyX9 k) := by decide +kernel
abbrev cX9_init : ByteArray := prog_11_method_1_code
def yX9_init : MethodName := ⟨RX9, "<init>", "()V"⟩
abbrev cX9_take : ByteArray := prog_11_method_2_code
def yX9_take : MethodName := ⟨RX9, "take", "(LClashRocks$Waters;)V"⟩
abbrev cX9_settle : ByteArray := prog_11_method_3_code
def yX9_settle : MethodName := ⟨RX9, "settle", "(LClashRocks$Tape;)V"⟩
abbrev cX9_takePairsAndShips : ByteArray := prog_11_method_4_code
def yX9_takePairsAndShips : MethodName := ⟨RX9, "takePairsAndShips", "([LClashRocks$Pair;I[LClashRocks$Ship;I)V"⟩
abbrev cX9_remember : ByteArray := prog_11_method_5_code
def yX9_remember : MethodName := ⟨RX9, "remember", "()V"⟩
abbrev cX9_recall : ByteArray := prog_11_method_6_code
def yX9_recall : MethodName := ⟨RX9, "recall", "()Z"⟩
abbrev cX9_drawn : ByteArray := prog_11_method_7_code
def yX9_drawn : MethodName := ⟨RX9, "drawn", "()I"⟩
def RX10 : String := "ClashRocks"
def TX10 : u_T := fun k => match k with
  | 0 => ("ClashRocks", "waters", "LClashRocks$Waters;", true)
  | 1 => ("ClashRocks", "kept", "LClashRocks$Waters;", true)
  | 2 => ("ClashRocks", "isKept", "Z", false)
  | 3 => ("ClashRocks", "tape", "LClashRocks$Tape;", true)
  | 4 => ("ClashRocks", "course", "LClashRocks$Course;", true)
  | 5 => ("ClashRocks", "search", "LClashRocks$Search;", true)
  | 6 => ("ClashRocks", "guess", "LClashRocks$Guess;", true)
  | _ => ("ClashRocks", "rows", "[LClashRocks$Row;", true)
def tyX10 : Nat → FieldType := fun k => match k with
  | 0 => .object "ClashRocks$Waters"
  | 1 => .object "ClashRocks$Waters"
  | 2 => .boolean
  | 3 => .object "ClashRocks$Tape"
  | 4 => .object "ClashRocks$Course"
  | 5 => .object "ClashRocks$Search"
  | 6 => .object "ClashRocks$Guess"
  | _ => .array (.object "ClashRocks$Row")
abbrev wsX100 : List Cond := u_ws RX10 TX10 8
theorem nmX10 : ∀ a, a < 8 → ∀ b, b < 8 → a ≠ b → (TX10 a).2.1 ≠ (TX10 b).2.1 := by decide +kernel
theorem tyX10_ok : ∀ k, k < 8 → parseFieldDescriptor (TX10 k).2.2.1 = some (tyX10 k) := by decide +kernel
abbrev cX10_init : ByteArray := prog_1_method_1_code
def yX10_init : MethodName := ⟨RX10, "<init>", "()V"⟩
abbrev cX10_pair : ByteArray := prog_1_method_2_code
def yX10_pair : MethodName := ⟨RX10, "pair", "(IIII)I"⟩
abbrev cX10_phase : ByteArray := prog_1_method_3_code
def yX10_phase : MethodName := ⟨RX10, "phase", "(II)I"⟩
abbrev cX10_ship : ByteArray := prog_1_method_4_code
def yX10_ship : MethodName := ⟨RX10, "ship", "(III)I"⟩
abbrev cX10_of : ByteArray := prog_1_method_5_code
def yX10_of : MethodName := ⟨RX10, "of", "(II)I"⟩
abbrev cX10_told : ByteArray := prog_1_method_6_code
def yX10_told : MethodName := ⟨RX10, "told", "(II)I"⟩
abbrev cX10_open : ByteArray := prog_1_method_7_code
def yX10_open : MethodName := ⟨RX10, "open", "(II)I"⟩
abbrev cX10_type : ByteArray := prog_1_method_8_code
def yX10_type : MethodName := ⟨RX10, "type", "(I)I"⟩
abbrev cX10_strait : ByteArray := prog_1_method_9_code
def yX10_strait : MethodName := ⟨RX10, "strait", "()I"⟩
abbrev cX10_count : ByteArray := prog_1_method_10_code
def yX10_count : MethodName := ⟨RX10, "count", "(I)I"⟩
abbrev cX10_setOut : ByteArray := prog_1_method_11_code
def yX10_setOut : MethodName := ⟨RX10, "setOut", "(I)I"⟩
abbrev cX10_idle : ByteArray := prog_1_method_12_code
def yX10_idle : MethodName := ⟨RX10, "idle", "(I)I"⟩
abbrev cX10_pass : ByteArray := prog_1_method_13_code
def yX10_pass : MethodName := ⟨RX10, "pass", "(I)I"⟩
abbrev cX10_undo : ByteArray := prog_1_method_14_code
def yX10_undo : MethodName := ⟨RX10, "undo", "()I"⟩
abbrev cX10_seed : ByteArray := prog_1_method_15_code
def yX10_seed : MethodName := ⟨RX10, "seed", "(I)I"⟩
abbrev cX10_lots : ByteArray := prog_1_method_16_code
def yX10_lots : MethodName := ⟨RX10, "lots", "(II)I"⟩
abbrev cX10_soonest : ByteArray := prog_1_method_17_code
def yX10_soonest : MethodName := ⟨RX10, "soonest", "(III)I"⟩
abbrev cX10_full : ByteArray := prog_1_method_18_code
def yX10_full : MethodName := ⟨RX10, "full", "(III)I"⟩
abbrev cX10_fog : ByteArray := prog_1_method_19_code
def yX10_fog : MethodName := ⟨RX10, "fog", "(III)I"⟩
abbrev cX10_sure : ByteArray := prog_1_method_20_code
def yX10_sure : MethodName := ⟨RX10, "sure", "(II)I"⟩
abbrev cX10_stones : ByteArray := prog_1_method_21_code
def yX10_stones : MethodName := ⟨RX10, "stones", "(III)I"⟩
abbrev cX10_convoy : ByteArray := prog_1_method_22_code
def yX10_convoy : MethodName := ⟨RX10, "convoy", "(III)I"⟩
abbrev cX10_rudder : ByteArray := prog_1_method_23_code
def yX10_rudder : MethodName := ⟨RX10, "rudder", "(III)I"⟩
abbrev cX10_worth : ByteArray := prog_1_method_24_code
def yX10_worth : MethodName := ⟨RX10, "worth", "(II)I"⟩
abbrev cX10_look : ByteArray := prog_1_method_25_code
def yX10_look : MethodName := ⟨RX10, "look", "(II)I"⟩
abbrev cX10_forget : ByteArray := prog_1_method_26_code
def yX10_forget : MethodName := ⟨RX10, "forget", "()I"⟩
abbrev cX10_fits : ByteArray := prog_1_method_27_code
def yX10_fits : MethodName := ⟨RX10, "fits", "(I)I"⟩
abbrev cX10_foretell : ByteArray := prog_1_method_28_code
def yX10_foretell : MethodName := ⟨RX10, "foretell", "(I)I"⟩
abbrev cX10_next : ByteArray := prog_1_method_29_code
def yX10_next : MethodName := ⟨RX10, "next", "(II)I"⟩
abbrev cX10_image : ByteArray := prog_1_method_30_code
def yX10_image : MethodName := ⟨RX10, "image", "()I"⟩
abbrev cX10_restore : ByteArray := prog_1_method_31_code
def yX10_restore : MethodName := ⟨RX10, "restore", "()I"⟩
abbrev cX10_judged : ByteArray := prog_1_method_32_code
def yX10_judged : MethodName := ⟨RX10, "judged", "(IIIIII)I"⟩
abbrev cX10_film : ByteArray := prog_1_method_33_code
def yX10_film : MethodName := ⟨RX10, "film", "(IIII)I"⟩
abbrev cX10_sheet : ByteArray := prog_1_method_34_code
def yX10_sheet : MethodName := ⟨RX10, "sheet", "(III)I"⟩
abbrev cX10_drop : ByteArray := prog_1_method_35_code
def yX10_drop : MethodName := ⟨RX10, "drop", "(I)I"⟩
abbrev cX10_item : ByteArray := prog_1_method_36_code
def yX10_item : MethodName := ⟨RX10, "item", "(IIIJ)I"⟩
abbrev cX10_copy : ByteArray := prog_1_method_37_code
def yX10_copy : MethodName := ⟨RX10, "copy", "(IIIII)I"⟩
abbrev cX10_isWithin : ByteArray := prog_1_method_38_code
def yX10_isWithin : MethodName := ⟨RX10, "isWithin", "(III)Z"⟩
abbrev cX10_oneIf : ByteArray := prog_1_method_39_code
def yX10_oneIf : MethodName := ⟨RX10, "oneIf", "(Z)I"⟩
abbrev cX10_secondsFor : ByteArray := prog_1_method_40_code
def yX10_secondsFor : MethodName := ⟨RX10, "secondsFor", "(II)I"⟩
abbrev cX10_lowestBits : ByteArray := prog_1_method_41_code
def yX10_lowestBits : MethodName := ⟨RX10, "lowestBits", "(IJ)J"⟩
abbrev cX10_isPair : ByteArray := prog_1_method_42_code
def yX10_isPair : MethodName := ⟨RX10, "isPair", "(I)Z"⟩
abbrev cX10_isShip : ByteArray := prog_1_method_43_code
def yX10_isShip : MethodName := ⟨RX10, "isShip", "(I)Z"⟩
abbrev cX10_isBegin : ByteArray := prog_1_method_44_code
def yX10_isBegin : MethodName := ⟨RX10, "isBegin", "(II)Z"⟩
abbrev cX10_isRow : ByteArray := prog_1_method_45_code
def yX10_isRow : MethodName := ⟨RX10, "isRow", "(II)Z"⟩
abbrev cX10_goFull : ByteArray := prog_1_method_46_code
def yX10_goFull : MethodName := ⟨RX10, "goFull", "(II)V"⟩
abbrev cX10_convoyTime : ByteArray := prog_1_method_47_code
def yX10_convoyTime : MethodName := ⟨RX10, "convoyTime", "(I)I"⟩
def RX11 : String := "ClashRocksModel"
def TX11 : u_T := fun k => match k with
  | 0 => ("ClashRocksModel", "pairs", "I", false)
  | 1 => ("ClashRocksModel", "ships", "I", false)
  | 2 => ("ClashRocksModel", "pair", "[I", true)
  | 3 => ("ClashRocksModel", "ship", "[I", true)
  | 4 => ("ClashRocksModel", "state", "[I", true)
  | 5 => ("ClashRocksModel", "draw", "I", false)
  | 6 => ("ClashRocksModel", "how", "I", false)
  | 7 => ("ClashRocksModel", "behind", "I", false)
  | 8 => ("ClashRocksModel", "crushes", "I", false)
  | 9 => ("ClashRocksModel", "scraped", "I", false)
  | 10 => ("ClashRocksModel", "paces", "[I", true)
  | 11 => ("ClashRocksModel", "tape", "[I", true)
  | 12 => ("ClashRocksModel", "taped", "I", false)
  | 13 => ("ClashRocksModel", "at", "I", false)
  | 14 => ("ClashRocksModel", "wrong", "Z", false)
  | 15 => ("ClashRocksModel", "readPairs", "[I", true)
  | 16 => ("ClashRocksModel", "readShips", "[I", true)
  | 17 => ("ClashRocksModel", "manyPairs", "I", false)
  | 18 => ("ClashRocksModel", "manyShips", "I", false)
  | 19 => ("ClashRocksModel", "undone", "[I", true)
  | 20 => ("ClashRocksModel", "undos", "I", false)
  | 21 => ("ClashRocksModel", "ends", "[I", true)
  | 22 => ("ClashRocksModel", "looks", "I", false)
  | 23 => ("ClashRocksModel", "when", "[I", true)
  | 24 => ("ClashRocksModel", "seen", "[I", true)
  | 25 => ("ClashRocksModel", "fits", "I", false)
  | 26 => ("ClashRocksModel", "first", "I", false)
  | 27 => ("ClashRocksModel", "opens", "I", false)
  | 28 => ("ClashRocksModel", "image", "[I", true)
  | 29 => ("ClashRocksModel", "isImage", "Z", false)
  | 30 => ("ClashRocksModel", "lanes", "[I", true)
  | 31 => ("ClashRocksModel", "sizes", "[I", true)
  | 32 => ("ClashRocksModel", "items", "[J", true)
  | _ => ("ClashRocksModel", "moved", "[J", true)
def tyX11 : Nat → FieldType := fun k => match k with
  | 0 => .int
  | 1 => .int
  | 2 => .array .int
  | 3 => .array .int
  | 4 => .array .int
  | 5 => .int
  | 6 => .int
  | 7 => .int
  | 8 => .int
  | 9 => .int
  | 10 => .array .int
  | 11 => .array .int
  | 12 => .int
  | 13 => .int
  | 14 => .boolean
  | 15 => .array .int
  | 16 => .array .int
  | 17 => .int
  | 18 => .int
  | 19 => .array .int
  | 20 => .int
  | 21 => .array .int
  | 22 => .int
  | 23 => .array .int
  | 24 => .array .int
  | 25 => .int
  | 26 => .int
  | 27 => .int
  | 28 => .array .int
  | 29 => .boolean
  | 30 => .array .int
  | 31 => .array .int
  | 32 => .array .long
  | _ => .array .long
abbrev wsX110 : List Cond := u_ws RX11 TX11 34
theorem nmX11 : ∀ a, a < 34 → ∀ b, b < 34 → a ≠ b → (TX11 a).2.1 ≠ (TX11 b).2.1 := by decide +kernel
theorem tyX11_ok : ∀ k, k < 34 → parseFieldDescriptor (TX11 k).2.2.1 = some (tyX11 k) := by decide +kernel
abbrev cX11_in : ByteArray := prog_13_method_2_code
def yX11_in : MethodName := ⟨RX11, "in", "(JJJ)Z"⟩
abbrev cX11_init : ByteArray := prog_13_method_3_code
def yX11_init : MethodName := ⟨RX11, "<init>", "()V"⟩
abbrev cX11_isPair : ByteArray := prog_13_method_4_code
def yX11_isPair : MethodName := ⟨RX11, "isPair", "(I)Z"⟩
abbrev cX11_isShip : ByteArray := prog_13_method_5_code
def yX11_isShip : MethodName := ⟨RX11, "isShip", "(I)Z"⟩
abbrev cX11_isSecond : ByteArray := prog_13_method_6_code
def yX11_isSecond : MethodName := ⟨RX11, "isSecond", "(I)Z"⟩
abbrev cX11_pairComes : ByteArray := prog_13_method_7_code
def yX11_pairComes : MethodName := ⟨RX11, "pairComes", "(IIIII)V"⟩
abbrev cX11_pair : ByteArray := prog_13_method_8_code
def yX11_pair : MethodName := ⟨RX11, "pair", "(IIII)I"⟩
abbrev cX11_phase : ByteArray := prog_13_method_9_code
def yX11_phase : MethodName := ⟨RX11, "phase", "(II)I"⟩
abbrev cX11_shipComes : ByteArray := prog_13_method_10_code
def yX11_shipComes : MethodName := ⟨RX11, "shipComes", "(III)V"⟩
abbrev cX11_ship : ByteArray := prog_13_method_11_code
def yX11_ship : MethodName := ⟨RX11, "ship", "(III)I"⟩
abbrev cX11_of : ByteArray := prog_13_method_12_code
def yX11_of : MethodName := ⟨RX11, "of", "(II)I"⟩
abbrev cX11_high : ByteArray := prog_13_method_13_code
def yX11_high : MethodName := ⟨RX11, "high", "(I)I"⟩
abbrev cX11_low : ByteArray := prog_13_method_14_code
def yX11_low : MethodName := ⟨RX11, "low", "(I)I"⟩
abbrev cX11_span : ByteArray := prog_13_method_15_code
def yX11_span : MethodName := ⟨RX11, "span", "(I)I"⟩
abbrev cX11_told : ByteArray := prog_13_method_16_code
def yX11_told : MethodName := ⟨RX11, "told", "(II)I"⟩
abbrev cX11_isPlain : ByteArray := prog_13_method_17_code
def yX11_isPlain : MethodName := ⟨RX11, "isPlain", "(III)Z"⟩
abbrev cX11_isOpen : ByteArray := prog_13_method_18_code
def yX11_isOpen : MethodName := ⟨RX11, "isOpen", "(III)Z"⟩
abbrev cX11_open : ByteArray := prog_13_method_19_code
def yX11_open : MethodName := ⟨RX11, "open", "(II)I"⟩
abbrev cX11_upwards : ByteArray := prog_13_method_20_code
def yX11_upwards : MethodName := ⟨RX11, "upwards", "(II)I"⟩
abbrev cX11_passes : ByteArray := prog_13_method_21_code
def yX11_passes : MethodName := ⟨RX11, "passes", "(IIIII)V"⟩
abbrev cX11_goes : ByteArray := prog_13_method_22_code
def yX11_goes : MethodName := ⟨RX11, "goes", "(II)V"⟩
abbrev cX11_goesFull : ByteArray := prog_13_method_23_code
def yX11_goesFull : MethodName := ⟨RX11, "goesFull", "(II)V"⟩
abbrev cX11_isClean : ByteArray := prog_13_method_24_code
def yX11_isClean : MethodName := ⟨RX11, "isClean", "()Z"⟩
abbrev cX11_type : ByteArray := prog_13_method_25_code
def yX11_type : MethodName := ⟨RX11, "type", "(I)I"⟩
abbrev cX11_here : ByteArray := prog_13_method_26_code
def yX11_here : MethodName := ⟨RX11, "here", "()I"⟩
abbrev cX11_has : ByteArray := prog_13_method_27_code
def yX11_has : MethodName := ⟨RX11, "has", "(I)Z"⟩
abbrev cX11_must : ByteArray := prog_13_method_28_code
def yX11_must : MethodName := ⟨RX11, "must", "(I)V"⟩
abbrev cX11_number : ByteArray := prog_13_method_29_code
def yX11_number : MethodName := ⟨RX11, "number", "(II)I"⟩
abbrev cX11_letter : ByteArray := prog_13_method_30_code
def yX11_letter : MethodName := ⟨RX11, "letter", "(IIII)I"⟩
abbrev cX11_digit : ByteArray := prog_13_method_31_code
def yX11_digit : MethodName := ⟨RX11, "digit", "(I)I"⟩
abbrev cX11_readPair : ByteArray := prog_13_method_32_code
def yX11_readPair : MethodName := ⟨RX11, "readPair", "()V"⟩
abbrev cX11_readShip : ByteArray := prog_13_method_33_code
def yX11_readShip : MethodName := ⟨RX11, "readShip", "()V"⟩
abbrev cX11_strait : ByteArray := prog_13_method_34_code
def yX11_strait : MethodName := ⟨RX11, "strait", "()I"⟩
abbrev cX11_count : ByteArray := prog_13_method_35_code
def yX11_count : MethodName := ⟨RX11, "count", "(I)I"⟩
abbrev cX11_notes : ByteArray := prog_13_method_36_code
def yX11_notes : MethodName := ⟨RX11, "notes", "()V"⟩
abbrev cX11_setOut : ByteArray := prog_13_method_37_code
def yX11_setOut : MethodName := ⟨RX11, "setOut", "(I)I"⟩
abbrev cX11_idle : ByteArray := prog_13_method_38_code
def yX11_idle : MethodName := ⟨RX11, "idle", "(I)I"⟩
abbrev cX11_pass : ByteArray := prog_13_method_39_code
def yX11_pass : MethodName := ⟨RX11, "pass", "(I)I"⟩
abbrev cX11_undo : ByteArray := prog_13_method_40_code
def yX11_undo : MethodName := ⟨RX11, "undo", "()I"⟩
abbrev cX11_seed : ByteArray := prog_13_method_41_code
def yX11_seed : MethodName := ⟨RX11, "seed", "(I)I"⟩
abbrev cX11_lots : ByteArray := prog_13_method_42_code
def yX11_lots : MethodName := ⟨RX11, "lots", "(II)I"⟩
abbrev cX11_endOf : ByteArray := prog_13_method_43_code
def yX11_endOf : MethodName := ⟨RX11, "endOf", "(II)I"⟩
abbrev cX11_looksOn : ByteArray := prog_13_method_44_code
def yX11_looksOn : MethodName := ⟨RX11, "looksOn", "(II)V"⟩
abbrev cX11_by : ByteArray := prog_13_method_45_code
def yX11_by : MethodName := ⟨RX11, "by", "(IIIII)I"⟩
abbrev cX11_soonest : ByteArray := prog_13_method_46_code
def yX11_soonest : MethodName := ⟨RX11, "soonest", "(III)I"⟩
abbrev cX11_full : ByteArray := prog_13_method_47_code
def yX11_full : MethodName := ⟨RX11, "full", "(III)I"⟩
abbrev cX11_clears : ByteArray := prog_13_method_48_code
def yX11_clears : MethodName := ⟨RX11, "clears", "(II)I"⟩
abbrev cX11_common : ByteArray := prog_13_method_49_code
def yX11_common : MethodName := ⟨RX11, "common", "(II)I"⟩
abbrev cX11_fog : ByteArray := prog_13_method_50_code
def yX11_fog : MethodName := ⟨RX11, "fog", "(III)I"⟩
abbrev cX11_sure : ByteArray := prog_13_method_51_code
def yX11_sure : MethodName := ⟨RX11, "sure", "(II)I"⟩
abbrev cX11_stones : ByteArray := prog_13_method_52_code
def yX11_stones : MethodName := ⟨RX11, "stones", "(III)I"⟩
abbrev cX11_many : ByteArray := prog_13_method_53_code
def yX11_many : MethodName := ⟨RX11, "many", "(I)I"⟩
abbrev cX11_convoy : ByteArray := prog_13_method_54_code
def yX11_convoy : MethodName := ⟨RX11, "convoy", "(III)I"⟩
abbrev cX11_rudder : ByteArray := prog_13_method_55_code
def yX11_rudder : MethodName := ⟨RX11, "rudder", "(III)I"⟩
abbrev cX11_worth : ByteArray := prog_13_method_56_code
def yX11_worth : MethodName := ⟨RX11, "worth", "(II)I"⟩
abbrev cX11_look : ByteArray := prog_13_method_57_code
def yX11_look : MethodName := ⟨RX11, "look", "(II)I"⟩
abbrev cX11_forget : ByteArray := prog_13_method_58_code
def yX11_forget : MethodName := ⟨RX11, "forget", "()I"⟩
abbrev cX11_isSo : ByteArray := prog_13_method_59_code
def yX11_isSo : MethodName := ⟨RX11, "isSo", "(IIII)I"⟩
abbrev cX11_fit : ByteArray := prog_13_method_60_code
def yX11_fit : MethodName := ⟨RX11, "fit", "(I)V"⟩
abbrev cX11_fits : ByteArray := prog_13_method_61_code
def yX11_fits : MethodName := ⟨RX11, "fits", "(I)I"⟩
abbrev cX11_foretell : ByteArray := prog_13_method_62_code
def yX11_foretell : MethodName := ⟨RX11, "foretell", "(I)I"⟩
abbrev cX11_next : ByteArray := prog_13_method_63_code
def yX11_next : MethodName := ⟨RX11, "next", "(II)I"⟩
abbrev cX11_notesRow : ByteArray := prog_13_method_64_code
def yX11_notesRow : MethodName := ⟨RX11, "notesRow", "([II)I"⟩
abbrev cX11_gives : ByteArray := prog_13_method_65_code
def yX11_gives : MethodName := ⟨RX11, "gives", "(I[I)I"⟩
abbrev cX11_image : ByteArray := prog_13_method_66_code
def yX11_image : MethodName := ⟨RX11, "image", "()I"⟩
abbrev cX11_restore : ByteArray := prog_13_method_67_code
def yX11_restore : MethodName := ⟨RX11, "restore", "()I"⟩
abbrev cX11_isSheet : ByteArray := prog_13_method_68_code
def yX11_isSheet : MethodName := ⟨RX11, "isSheet", "(I)Z"⟩
abbrev cX11_isLane : ByteArray := prog_13_method_69_code
def yX11_isLane : MethodName := ⟨RX11, "isLane", "(I)Z"⟩
abbrev cX11_why : ByteArray := prog_13_method_70_code
def yX11_why : MethodName := ⟨RX11, "why", "(IIII)I"⟩
abbrev cX11_judged : ByteArray := prog_13_method_71_code
def yX11_judged : MethodName := ⟨RX11, "judged", "(IIIIII)I"⟩
abbrev cX11_puts : ByteArray := prog_13_method_72_code
def yX11_puts : MethodName := ⟨RX11, "puts", "(IIJ)V"⟩
abbrev cX11_film : ByteArray := prog_13_method_73_code
def yX11_film : MethodName := ⟨RX11, "film", "(IIII)I"⟩
abbrev cX11_sheet : ByteArray := prog_13_method_74_code
def yX11_sheet : MethodName := ⟨RX11, "sheet", "(III)I"⟩
abbrev cX11_drop : ByteArray := prog_13_method_75_code
def yX11_drop : MethodName := ⟨RX11, "drop", "(I)I"⟩
abbrev cX11_item : ByteArray := prog_13_method_76_code
def yX11_item : MethodName := ⟨RX11, "item", "(IIIJ)I"⟩
abbrev cX11_copy : ByteArray := prog_13_method_77_code
def yX11_copy : MethodName := ⟨RX11, "copy", "(IIIII)I"⟩
def RJx145de : String := "java/io/Serializable"
def TJx145de : u_T := fun k => match k with
  | _ => ("", "", "", false)
def tyJx145de : Nat → FieldType := fun k => match k with
  | _ => .int
abbrev wsJx145de0 : List Cond := u_ws RJx145de TJx145de 0
theorem nmJx145de : ∀ a, a < 0 → ∀ b, b < 0 → a ≠ b → (TJx145de a).2.1 ≠ (TJx145de b).2.1 := by decide +kernel
theorem tyJx145de_ok : ∀ k, k < 0 → parseFieldDescriptor (TJx145de k).2.2.1 = some (tyJx145de k) := by decide +kernel
def RJx9f9b0 : String := "java/lang/CharSequence"
def TJx9f9b0 : u_T := fun k => match k with
  | _ => ("", "", "", false)
def tyJx9f9b0 : Nat → FieldType := fun k => match k with
  | _ => .int
abbrev wsJx9f9b00 : List Cond := u_ws RJx9f9b0 TJx9f9b0 0
theorem nmJx9f9b0 : ∀ a, a < 0 → ∀ b, b < 0 → a ≠ b → (TJx9f9b0 a).2.1 ≠ (TJx9f9b0 b).2.1 := by decide +kernel
theorem tyJx9f9b0_ok : ∀ k, k < 0 → parseFieldDescriptor (TJx9f9b0 k).2.2.1 = some (tyJx9f9b0 k) := by decide +kernel
def RJ11 : String := "java/lang/Character"
def TJ11 : u_T := fun k => match k with
  | _ => ("", "", "", false)
def tyJ11 : Nat → FieldType := fun k => match k with
  | _ => .int
abbrev wsJ110 : List Cond := u_ws RJ11 TJ11 0
theorem nmJ11 : ∀ a, a < 0 → ∀ b, b < 0 → a ≠ b → (TJ11 a).2.1 ≠ (TJ11 b).2.1 := by decide +kernel
theorem tyJ11_ok : ∀ k, k < 0 → parseFieldDescriptor (TJ11 k).2.2.1 = some (tyJ11 k) := by decide +kernel
abbrev cJ11_isValidCodePoint_9a6ad : ByteArray := prog_14_method_11_code
def yJ11_isValidCodePoint_9a6ad : MethodName := ⟨RJ11, "isValidCodePoint", "(I)Z"⟩
abbrev cJ11_highSurrogate_5068e : ByteArray := prog_14_method_28_code
def yJ11_highSurrogate_5068e : MethodName := ⟨RJ11, "highSurrogate", "(I)C"⟩
abbrev cJ11_lowSurrogate_5068e : ByteArray := prog_14_method_29_code
def yJ11_lowSurrogate_5068e : MethodName := ⟨RJ11, "lowSurrogate", "(I)C"⟩
def RJxb160c : String := "java/lang/Comparable"
def TJxb160c : u_T := fun k => match k with
  | _ => ("", "", "", false)
def tyJxb160c : Nat → FieldType := fun k => match k with
  | _ => .int
abbrev wsJxb160c0 : List Cond := u_ws RJxb160c TJxb160c 0
theorem nmJxb160c : ∀ a, a < 0 → ∀ b, b < 0 → a ≠ b → (TJxb160c a).2.1 ≠ (TJxb160c b).2.1 := by decide +kernel
theorem tyJxb160c_ok : ∀ k, k < 0 → parseFieldDescriptor (TJxb160c k).2.2.1 = some (tyJxb160c k) := by decide +kernel
def RJ6 : String := "java/lang/Integer"
def TJ6 : u_T := fun k => match k with
  | _ => ("", "", "", false)
def tyJ6 : Nat → FieldType := fun k => match k with
  | _ => .int
abbrev wsJ60 : List Cond := u_ws RJ6 TJ6 0
theorem nmJ6 : ∀ a, a < 0 → ∀ b, b < 0 → a ≠ b → (TJ6 a).2.1 ≠ (TJ6 b).2.1 := by decide +kernel
theorem tyJ6_ok : ∀ k, k < 0 → parseFieldDescriptor (TJ6 k).2.2.1 = some (tyJ6 k) := by decide +kernel
abbrev cJ6_bitCount_0f7a4 : ByteArray := prog_15_method_49_code
def yJ6_bitCount_0f7a4 : MethodName := ⟨RJ6, "bitCount", "(I)I"⟩
def RJ9 : String := "java/lang/Math"
def TJ9 : u_T := fun k => match k with
  | _ => ("", "", "", false)
def tyJ9 : Nat → FieldType := fun k => match k with
  | _ => .int
abbrev wsJ90 : List Cond := u_ws RJ9 TJ9 0
theorem nmJ9 : ∀ a, a < 0 → ∀ b, b < 0 → a ≠ b → (TJ9 a).2.1 ≠ (TJ9 b).2.1 := by decide +kernel
theorem tyJ9_ok : ∀ k, k < 0 → parseFieldDescriptor (TJ9 k).2.2.1 = some (tyJ9 k) := by decide +kernel
abbrev cJ9_max_7cf53 : ByteArray := prog_16_method_65_code
def yJ9_max_7cf53 : MethodName := ⟨RJ9, "max", "(II)I"⟩
abbrev cJ9_min_7cf53 : ByteArray := prog_16_method_69_code
def yJ9_min_7cf53 : MethodName := ⟨RJ9, "min", "(II)I"⟩
def RJ0 : String := "java/lang/String"
def TJ0 : u_T := fun k => match k with
  | _ => ("", "", "", false)
def tyJ0 : Nat → FieldType := fun k => match k with
  | _ => .int
abbrev wsJ00 : List Cond := u_ws RJ0 TJ0 0
theorem nmJ0 : ∀ a, a < 0 → ∀ b, b < 0 → a ≠ b → (TJ0 a).2.1 ≠ (TJ0 b).2.1 := by decide +kernel
theorem tyJ0_ok : ∀ k, k < 0 → parseFieldDescriptor (TJ0 k).2.2.1 = some (tyJ0 k) := by decide +kernel
abbrev cJ0_length_8abf5 : ByteArray := prog_17_method_54_code
def yJ0_length_8abf5 : MethodName := ⟨RJ0, "length", "()I"⟩
abbrev cJ0_indexOf_0f7a4 : ByteArray := prog_17_method_79_code
def yJ0_indexOf_0f7a4 : MethodName := ⟨RJ0, "indexOf", "(I)I"⟩
abbrev cJ0_indexOf_7cf53 : ByteArray := prog_17_method_80_code
def yJ0_indexOf_7cf53 : MethodName := ⟨RJ0, "indexOf", "(II)I"⟩
abbrev cJ0_coder_7d493 : ByteArray := prog_17_method_152_code
def yJ0_coder_7d493 : MethodName := ⟨RJ0, "coder", "()B"⟩
abbrev cJ0_isLatin1_aae02 : ByteArray := prog_17_method_154_code
def yJ0_isLatin1_aae02 : MethodName := ⟨RJ0, "isLatin1", "()Z"⟩
abbrev cJ0_checkBoundsBeginEnd_23922 : ByteArray := prog_17_method_158_code
def yJ0_checkBoundsBeginEnd_23922 : MethodName := ⟨RJ0, "checkBoundsBeginEnd", "(III)V"⟩
def RJ1 : String := "java/lang/StringLatin1"
def TJ1 : u_T := fun k => match k with
  | _ => ("", "", "", false)
def tyJ1 : Nat → FieldType := fun k => match k with
  | _ => .int
abbrev wsJ10 : List Cond := u_ws RJ1 TJ1 0
theorem nmJ1 : ∀ a, a < 0 → ∀ b, b < 0 → a ≠ b → (TJ1 a).2.1 ≠ (TJ1 b).2.1 := by decide +kernel
theorem tyJ1_ok : ∀ k, k < 0 → parseFieldDescriptor (TJ1 k).2.2.1 = some (tyJ1 k) := by decide +kernel
abbrev cJ1_canEncode_9a6ad : ByteArray := prog_18_method_4_code
def yJ1_canEncode_9a6ad : MethodName := ⟨RJ1, "canEncode", "(I)Z"⟩
abbrev cJ1_indexOf_4cfef : ByteArray := prog_18_method_22_code
def yJ1_indexOf_4cfef : MethodName := ⟨RJ1, "indexOf", "([BIII)I"⟩
abbrev cJ1_indexOfChar_4cfef : ByteArray := prog_18_method_23_code
def yJ1_indexOfChar_4cfef : MethodName := ⟨RJ1, "indexOfChar", "([BIII)I"⟩
def RJ2 : String := "java/lang/StringUTF16"
def TJ2 : u_T := fun k => match k with
  | _ => ("", "", "", false)
def tyJ2 : Nat → FieldType := fun k => match k with
  | _ => .int
abbrev wsJ20 : List Cond := u_ws RJ2 TJ2 0
theorem nmJ2 : ∀ a, a < 0 → ∀ b, b < 0 → a ≠ b → (TJ2 a).2.1 ≠ (TJ2 b).2.1 := by decide +kernel
theorem tyJ2_ok : ∀ k, k < 0 → parseFieldDescriptor (TJ2 k).2.2.1 = some (tyJ2 k) := by decide +kernel
abbrev cJ2_getChar_3b067 : ByteArray := prog_19_method_5_code
def yJ2_getChar_3b067 : MethodName := ⟨RJ2, "getChar", "([BI)C"⟩
abbrev cJ2_length_9d52b : ByteArray := prog_19_method_6_code
def yJ2_length_9d52b : MethodName := ⟨RJ2, "length", "([B)I"⟩
abbrev cJ2_indexOf_4cfef : ByteArray := prog_19_method_40_code
def yJ2_indexOf_4cfef : MethodName := ⟨RJ2, "indexOf", "([BIII)I"⟩
abbrev cJ2_indexOfChar_4cfef : ByteArray := prog_19_method_47_code
def yJ2_indexOfChar_4cfef : MethodName := ⟨RJ2, "indexOfChar", "([BIII)I"⟩
abbrev cJ2_indexOfCharUnsafe_4cfef : ByteArray := prog_19_method_48_code
def yJ2_indexOfCharUnsafe_4cfef : MethodName := ⟨RJ2, "indexOfCharUnsafe", "([BIII)I"⟩
abbrev cJ2_indexOfSupplementary_4cfef : ByteArray := prog_19_method_49_code
def yJ2_indexOfSupplementary_4cfef : MethodName := ⟨RJ2, "indexOfSupplementary", "([BIII)I"⟩
abbrev cJ2_checkBoundsBeginEnd_d044e : ByteArray := prog_19_method_93_code
def yJ2_checkBoundsBeginEnd_d044e : MethodName := ⟨RJ2, "checkBoundsBeginEnd", "(II[B)V"⟩
def RJ10 : String := "java/lang/System"
def TJ10 : u_T := fun k => match k with
  | _ => ("", "", "", false)
def tyJ10 : Nat → FieldType := fun k => match k with
  | _ => .int
abbrev wsJ100 : List Cond := u_ws RJ10 TJ10 0
theorem nmJ10 : ∀ a, a < 0 → ∀ b, b < 0 → a ≠ b → (TJ10 a).2.1 ≠ (TJ10 b).2.1 := by decide +kernel
theorem tyJ10_ok : ∀ k, k < 0 → parseFieldDescriptor (TJ10 k).2.2.1 = some (tyJ10 k) := by decide +kernel
def RJxfd54e : String := "java/lang/constant/Constable"
def TJxfd54e : u_T := fun k => match k with
  | _ => ("", "", "", false)
def tyJxfd54e : Nat → FieldType := fun k => match k with
  | _ => .int
abbrev wsJxfd54e0 : List Cond := u_ws RJxfd54e TJxfd54e 0
theorem nmJxfd54e : ∀ a, a < 0 → ∀ b, b < 0 → a ≠ b → (TJxfd54e a).2.1 ≠ (TJxfd54e b).2.1 := by decide +kernel
theorem tyJxfd54e_ok : ∀ k, k < 0 → parseFieldDescriptor (TJxfd54e k).2.2.1 = some (tyJxfd54e k) := by decide +kernel
def RJx3cf43 : String := "java/lang/constant/ConstantDesc"
def TJx3cf43 : u_T := fun k => match k with
  | _ => ("", "", "", false)
def tyJx3cf43 : Nat → FieldType := fun k => match k with
  | _ => .int
abbrev wsJx3cf430 : List Cond := u_ws RJx3cf43 TJx3cf43 0
theorem nmJx3cf43 : ∀ a, a < 0 → ∀ b, b < 0 → a ≠ b → (TJx3cf43 a).2.1 ≠ (TJx3cf43 b).2.1 := by decide +kernel
theorem tyJx3cf43_ok : ∀ k, k < 0 → parseFieldDescriptor (TJx3cf43 k).2.2.1 = some (tyJx3cf43 k) := by decide +kernel
def RJ7 : String := "java/util/Arrays"
def TJ7 : u_T := fun k => match k with
  | _ => ("", "", "", false)
def tyJ7 : Nat → FieldType := fun k => match k with
  | _ => .int
abbrev wsJ70 : List Cond := u_ws RJ7 TJ7 0
theorem nmJ7 : ∀ a, a < 0 → ∀ b, b < 0 → a ≠ b → (TJ7 a).2.1 ≠ (TJ7 b).2.1 := by decide +kernel
theorem tyJ7_ok : ∀ k, k < 0 → parseFieldDescriptor (TJ7 k).2.2.1 = some (tyJ7 k) := by decide +kernel
abbrev cJ7_fill_d0a16 : ByteArray := prog_21_method_101_code
def yJ7_fill_d0a16 : MethodName := ⟨RJ7, "fill", "([JJ)V"⟩
abbrev cJ7_fill_53178 : ByteArray := prog_21_method_103_code
def yJ7_fill_53178 : MethodName := ⟨RJ7, "fill", "([II)V"⟩
def RJ3 : String := "jdk/internal/util/Preconditions"
def TJ3 : u_T := fun k => match k with
  | _ => ("", "", "", false)
def tyJ3 : Nat → FieldType := fun k => match k with
  | _ => .int
abbrev wsJ30 : List Cond := u_ws RJ3 TJ3 0
theorem nmJ3 : ∀ a, a < 0 → ∀ b, b < 0 → a ≠ b → (TJ3 a).2.1 ≠ (TJ3 b).2.1 := by decide +kernel
theorem tyJ3_ok : ∀ k, k < 0 → parseFieldDescriptor (TJ3 k).2.2.1 = some (tyJ3 k) := by decide +kernel
abbrev cJ3_checkFromToIndex_8c36e : ByteArray := prog_22_method_12_code
def yJ3_checkFromToIndex_8c36e : MethodName := ⟨RJ3, "checkFromToIndex", "(IIILjava/util/function/BiFunction;)I"⟩
def RL : String := "ClashRocksLaw"
abbrev cL_law : ByteArray := code
def yL_law : MethodName := ⟨RL, "law", "([I)Z"⟩
abbrev vwCl : List vw_C := [(RX0, TX0, 6), (RX1, TX1, 6), (RX2, TX2, 3), (RX3, TX3, 5), (RX4, TX4, 4), (RX5, TX5, 5), (RX6, TX6, 3), (RX7, TX7, 7), (RX8, TX8, 4), (RX9, TX9, 9), (RX10, TX10, 8), (RX11, TX11, 34)]
end
section
theorem dX11_in_0 : decode cX11_in 0 = .ok (.lload_n 0, 1) := by decide +kernel
theorem dX11_in_1 : decode cX11_in 1 = .ok (.lload_n 2, 1) := by decide +kernel
theorem dX11_in_2 : decode cX11_in 2 = .ok (.lcmp, 1) := by decide +kernel
theorem dX11_in_3 : decode cX11_in 3 = .ok (.ifCond .lt 14, 3) := by decide +kernel
theorem dX11_in_6 : decode cX11_in 6 = .ok (.lload_n 0, 1) := by decide +kernel
theorem dX11_in_7 : decode cX11_in 7 = .ok (.lload 4, 2) := by decide +kernel
theorem dX11_in_9 : decode cX11_in 9 = .ok (.lcmp, 1) := by decide +kernel
theorem dX11_in_10 : decode cX11_in 10 = .ok (.ifCond .gt 7, 3) := by decide +kernel
theorem dX11_in_13 : decode cX11_in 13 = .ok (.iconst 1, 1) := by decide +kernel
theorem dX11_in_14 : decode cX11_in 14 = .ok (.goto 4, 3) := by decide +kernel
theorem dX11_in_17 : decode cX11_in 17 = .ok (.iconst 0, 1) := by decide +kernel
theorem dX11_in_18 : decode cX11_in 18 = .ok (.ireturn, 1) := by decide +kernel
theorem dX11_init_0 : decode cX11_init 0 = .ok (.aload_n 0, 1) := by decide +kernel
theorem dX11_init_1 : decode cX11_init 1 = .ok (.invokespecial 1, 3) := by decide +kernel
theorem dX11_init_4 : decode cX11_init 4 = .ok (.aload_n 0, 1) := by decide +kernel
theorem dX11_init_5 : decode cX11_init 5 = .ok (.bipush 30, 2) := by decide +kernel
theorem dX11_init_7 : decode cX11_init 7 = .ok (.newarray .int, 2) := by decide +kernel
theorem dX11_init_9 : decode cX11_init 9 = .ok (.putfield 7, 3) := by decide +kernel
theorem dX11_init_12 : decode cX11_init 12 = .ok (.aload_n 0, 1) := by decide +kernel
theorem dX11_init_13 : decode cX11_init 13 = .ok (.bipush 15, 2) := by decide +kernel
theorem dX11_init_15 : decode cX11_init 15 = .ok (.newarray .int, 2) := by decide +kernel
theorem dX11_init_17 : decode cX11_init 17 = .ok (.putfield 13, 3) := by decide +kernel
theorem dX11_init_20 : decode cX11_init 20 = .ok (.aload_n 0, 1) := by decide +kernel
theorem dX11_init_21 : decode cX11_init 21 = .ok (.iconst 4, 1) := by decide +kernel
theorem dX11_init_22 : decode cX11_init 22 = .ok (.newarray .int, 2) := by decide +kernel
theorem dX11_init_24 : decode cX11_init 24 = .ok (.putfield 16, 3) := by decide +kernel
theorem dX11_init_27 : decode cX11_init 27 = .ok (.aload_n 0, 1) := by decide +kernel
theorem dX11_init_28 : decode cX11_init 28 = .ok (.iconst 1, 1) := by decide +kernel
theorem dX11_init_29 : decode cX11_init 29 = .ok (.putfield 19, 3) := by decide +kernel
theorem dX11_init_32 : decode cX11_init 32 = .ok (.aload_n 0, 1) := by decide +kernel
theorem dX11_init_33 : decode cX11_init 33 = .ok (.bipush 6, 2) := by decide +kernel
theorem dX11_init_35 : decode cX11_init 35 = .ok (.newarray .int, 2) := by decide +kernel
theorem dX11_init_37 : decode cX11_init 37 = .ok (.putfield 23, 3) := by decide +kernel
theorem dX11_init_40 : decode cX11_init 40 = .ok (.aload_n 0, 1) := by decide +kernel
theorem dX11_init_41 : decode cX11_init 41 = .ok (.bipush 100, 2) := by decide +kernel
theorem dX11_init_43 : decode cX11_init 43 = .ok (.newarray .int, 2) := by decide +kernel
theorem dX11_init_45 : decode cX11_init 45 = .ok (.putfield 26, 3) := by decide +kernel
theorem dX11_init_48 : decode cX11_init 48 = .ok (.aload_n 0, 1) := by decide +kernel
theorem dX11_init_49 : decode cX11_init 49 = .ok (.bipush 30, 2) := by decide +kernel
theorem dX11_init_51 : decode cX11_init 51 = .ok (.newarray .int, 2) := by decide +kernel
theorem dX11_init_53 : decode cX11_init 53 = .ok (.putfield 29, 3) := by decide +kernel
theorem dX11_init_56 : decode cX11_init 56 = .ok (.aload_n 0, 1) := by decide +kernel
theorem dX11_init_57 : decode cX11_init 57 = .ok (.bipush 15, 2) := by decide +kernel
theorem dX11_init_59 : decode cX11_init 59 = .ok (.newarray .int, 2) := by decide +kernel
theorem dX11_init_61 : decode cX11_init 61 = .ok (.putfield 32, 3) := by decide +kernel
theorem dX11_init_64 : decode cX11_init 64 = .ok (.aload_n 0, 1) := by decide +kernel
theorem dX11_init_65 : decode cX11_init 65 = .ok (.bipush 32, 2) := by decide +kernel
theorem dX11_init_67 : decode cX11_init 67 = .ok (.newarray .int, 2) := by decide +kernel
theorem dX11_init_69 : decode cX11_init 69 = .ok (.putfield 35, 3) := by decide +kernel
theorem dX11_init_72 : decode cX11_init 72 = .ok (.aload_n 0, 1) := by decide +kernel
theorem dX11_init_73 : decode cX11_init 73 = .ok (.sipush 2800, 3) := by decide +kernel
theorem dX11_init_76 : decode cX11_init 76 = .ok (.newarray .int, 2) := by decide +kernel
theorem dX11_init_78 : decode cX11_init 78 = .ok (.putfield 38, 3) := by decide +kernel
theorem dX11_init_81 : decode cX11_init 81 = .ok (.aload_n 0, 1) := by decide +kernel
theorem dX11_init_82 : decode cX11_init 82 = .ok (.bipush 12, 2) := by decide +kernel
theorem dX11_init_84 : decode cX11_init 84 = .ok (.newarray .int, 2) := by decide +kernel
theorem dX11_init_86 : decode cX11_init 86 = .ok (.putfield 41, 3) := by decide +kernel
theorem dX11_init_89 : decode cX11_init 89 = .ok (.aload_n 0, 1) := by decide +kernel
theorem dX11_init_90 : decode cX11_init 90 = .ok (.bipush 12, 2) := by decide +kernel
theorem dX11_init_92 : decode cX11_init 92 = .ok (.newarray .int, 2) := by decide +kernel
theorem dX11_init_94 : decode cX11_init 94 = .ok (.putfield 44, 3) := by decide +kernel
theorem dX11_init_97 : decode cX11_init 97 = .ok (.aload_n 0, 1) := by decide +kernel
theorem dX11_init_98 : decode cX11_init 98 = .ok (.bipush 111, 2) := by decide +kernel
theorem dX11_init_100 : decode cX11_init 100 = .ok (.newarray .int, 2) := by decide +kernel
theorem dX11_init_102 : decode cX11_init 102 = .ok (.putfield 47, 3) := by decide +kernel
theorem dX11_init_105 : decode cX11_init 105 = .ok (.aload_n 0, 1) := by decide +kernel
theorem dX11_init_106 : decode cX11_init 106 = .ok (.iconst 4, 1) := by decide +kernel
theorem dX11_init_107 : decode cX11_init 107 = .ok (.newarray .int, 2) := by decide +kernel
theorem dX11_init_109 : decode cX11_init 109 = .ok (.putfield 50, 3) := by decide +kernel
theorem dX11_init_112 : decode cX11_init 112 = .ok (.aload_n 0, 1) := by decide +kernel
theorem dX11_init_113 : decode cX11_init 113 = .ok (.iconst 4, 1) := by decide +kernel
theorem dX11_init_114 : decode cX11_init 114 = .ok (.newarray .int, 2) := by decide +kernel
theorem dX11_init_116 : decode cX11_init 116 = .ok (.putfield 53, 3) := by decide +kernel
theorem dX11_init_119 : decode cX11_init 119 = .ok (.aload_n 0, 1) := by decide +kernel
theorem dX11_init_120 : decode cX11_init 120 = .ok (.bipush 64, 2) := by decide +kernel
theorem dX11_init_122 : decode cX11_init 122 = .ok (.newarray .long, 2) := by decide +kernel
theorem dX11_init_124 : decode cX11_init 124 = .ok (.putfield 56, 3) := by decide +kernel
theorem dX11_init_127 : decode cX11_init 127 = .ok (.aload_n 0, 1) := by decide +kernel
theorem dX11_init_128 : decode cX11_init 128 = .ok (.bipush 16, 2) := by decide +kernel
theorem dX11_init_130 : decode cX11_init 130 = .ok (.newarray .long, 2) := by decide +kernel
theorem dX11_init_132 : decode cX11_init 132 = .ok (.putfield 60, 3) := by decide +kernel
theorem dX11_init_135 : decode cX11_init 135 = .ok (.iconst 0, 1) := by decide +kernel
theorem dX11_init_136 : decode cX11_init 136 = .ok (.istore_n 1, 1) := by decide +kernel
theorem dX11_init_137 : decode cX11_init 137 = .ok (.iload_n 1, 1) := by decide +kernel
theorem dX11_init_138 : decode cX11_init 138 = .ok (.iconst 4, 1) := by decide +kernel
theorem dX11_init_139 : decode cX11_init 139 = .ok (.if_icmp .ge 16, 3) := by decide +kernel
theorem dX11_init_142 : decode cX11_init 142 = .ok (.aload_n 0, 1) := by decide +kernel
theorem dX11_init_143 : decode cX11_init 143 = .ok (.getfield 50, 3) := by decide +kernel
theorem dX11_init_146 : decode cX11_init 146 = .ok (.iload_n 1, 1) := by decide +kernel
theorem dX11_init_147 : decode cX11_init 147 = .ok (.iconst (-1), 1) := by decide +kernel
theorem dX11_init_148 : decode cX11_init 148 = .ok (.iastore, 1) := by decide +kernel
theorem dX11_init_149 : decode cX11_init 149 = .ok (.iinc 1 1, 3) := by decide +kernel
theorem dX11_init_152 : decode cX11_init 152 = .ok (.goto (-15), 3) := by decide +kernel
theorem dX11_init_155 : decode cX11_init 155 = .ok (.aload_n 0, 1) := by decide +kernel
theorem dX11_init_156 : decode cX11_init 156 = .ok (.getfield 16, 3) := by decide +kernel
theorem dX11_init_159 : decode cX11_init 159 = .ok (.iconst 1, 1) := by decide +kernel
theorem dX11_init_160 : decode cX11_init 160 = .ok (.bipush (-4), 2) := by decide +kernel
theorem dX11_init_162 : decode cX11_init 162 = .ok (.iastore, 1) := by decide +kernel
theorem dX11_init_163 : decode cX11_init 163 = .ok (.return_, 1) := by decide +kernel
theorem dX11_isPair_0 : decode cX11_isPair 0 = .ok (.iload_n 1, 1) := by decide +kernel
theorem dX11_isPair_1 : decode cX11_isPair 1 = .ok (.i2l, 1) := by decide +kernel
theorem dX11_isPair_2 : decode cX11_isPair 2 = .ok (.lconst 0, 1) := by decide +kernel
theorem dX11_isPair_3 : decode cX11_isPair 3 = .ok (.aload_n 0, 1) := by decide +kernel
theorem dX11_isPair_4 : decode cX11_isPair 4 = .ok (.getfield 63, 3) := by decide +kernel
theorem dX11_isPair_7 : decode cX11_isPair 7 = .ok (.iconst 1, 1) := by decide +kernel
theorem dX11_isPair_8 : decode cX11_isPair 8 = .ok (.isub, 1) := by decide +kernel
theorem dX11_isPair_9 : decode cX11_isPair 9 = .ok (.i2l, 1) := by decide +kernel
theorem dX11_isPair_10 : decode cX11_isPair 10 = .ok (.invokestatic 66, 3) := by decide +kernel
theorem dX11_isPair_13 : decode cX11_isPair 13 = .ok (.ireturn, 1) := by decide +kernel
theorem dX11_isShip_0 : decode cX11_isShip 0 = .ok (.iload_n 1, 1) := by decide +kernel
theorem dX11_isShip_1 : decode cX11_isShip 1 = .ok (.i2l, 1) := by decide +kernel
theorem dX11_isShip_2 : decode cX11_isShip 2 = .ok (.lconst 0, 1) := by decide +kernel
theorem dX11_isShip_3 : decode cX11_isShip 3 = .ok (.aload_n 0, 1) := by decide +kernel
theorem dX11_isShip_4 : decode cX11_isShip 4 = .ok (.getfield 70, 3) := by decide +kernel
theorem dX11_isShip_7 : decode cX11_isShip 7 = .ok (.iconst 1, 1) := by decide +kernel
theorem dX11_isShip_8 : decode cX11_isShip 8 = .ok (.isub, 1) := by decide +kernel
theorem dX11_isShip_9 : decode cX11_isShip 9 = .ok (.i2l, 1) := by decide +kernel
theorem dX11_isShip_10 : decode cX11_isShip 10 = .ok (.invokestatic 66, 3) := by decide +kernel
theorem dX11_isShip_13 : decode cX11_isShip 13 = .ok (.ireturn, 1) := by decide +kernel
theorem dX11_isSecond_0 : decode cX11_isSecond 0 = .ok (.iload_n 0, 1) := by decide +kernel
theorem dX11_isSecond_1 : decode cX11_isSecond 1 = .ok (.i2l, 1) := by decide +kernel
theorem dX11_isSecond_2 : decode cX11_isSecond 2 = .ok (.lconst 0, 1) := by decide +kernel
theorem dX11_isSecond_3 : decode cX11_isSecond 3 = .ok (.ldc2_w 73, 3) := by decide +kernel
theorem dX11_isSecond_6 : decode cX11_isSecond 6 = .ok (.invokestatic 66, 3) := by decide +kernel
theorem dX11_isSecond_9 : decode cX11_isSecond 9 = .ok (.ireturn, 1) := by decide +kernel
theorem dX11_pairComes_0 : decode cX11_pairComes 0 = .ok (.iconst 5, 1) := by decide +kernel
theorem dX11_pairComes_1 : decode cX11_pairComes 1 = .ok (.aload_n 0, 1) := by decide +kernel
theorem dX11_pairComes_2 : decode cX11_pairComes 2 = .ok (.getfield 63, 3) := by decide +kernel
theorem dX11_pairComes_5 : decode cX11_pairComes 5 = .ok (.imul, 1) := by decide +kernel
theorem dX11_pairComes_6 : decode cX11_pairComes 6 = .ok (.istore 6, 2) := by decide +kernel
theorem dX11_pairComes_8 : decode cX11_pairComes 8 = .ok (.aload_n 0, 1) := by decide +kernel
theorem dX11_pairComes_9 : decode cX11_pairComes 9 = .ok (.getfield 7, 3) := by decide +kernel
theorem dX11_pairComes_12 : decode cX11_pairComes 12 = .ok (.iload 6, 2) := by decide +kernel
theorem dX11_pairComes_14 : decode cX11_pairComes 14 = .ok (.iload_n 1, 1) := by decide +kernel
theorem dX11_pairComes_15 : decode cX11_pairComes 15 = .ok (.iastore, 1) := by decide +kernel
theorem dX11_pairComes_16 : decode cX11_pairComes 16 = .ok (.aload_n 0, 1) := by decide +kernel
theorem dX11_pairComes_17 : decode cX11_pairComes 17 = .ok (.getfield 7, 3) := by decide +kernel
theorem dX11_pairComes_20 : decode cX11_pairComes 20 = .ok (.iload 6, 2) := by decide +kernel
theorem dX11_pairComes_22 : decode cX11_pairComes 22 = .ok (.iconst 1, 1) := by decide +kernel
theorem dX11_pairComes_23 : decode cX11_pairComes 23 = .ok (.iadd, 1) := by decide +kernel
theorem dX11_pairComes_24 : decode cX11_pairComes 24 = .ok (.iload_n 2, 1) := by decide +kernel
theorem dX11_pairComes_25 : decode cX11_pairComes 25 = .ok (.iastore, 1) := by decide +kernel
theorem dX11_pairComes_26 : decode cX11_pairComes 26 = .ok (.aload_n 0, 1) := by decide +kernel
theorem dX11_pairComes_27 : decode cX11_pairComes 27 = .ok (.getfield 7, 3) := by decide +kernel
theorem dX11_pairComes_30 : decode cX11_pairComes 30 = .ok (.iload 6, 2) := by decide +kernel
theorem dX11_pairComes_32 : decode cX11_pairComes 32 = .ok (.iconst 2, 1) := by decide +kernel
theorem dX11_pairComes_33 : decode cX11_pairComes 33 = .ok (.iadd, 1) := by decide +kernel
theorem dX11_pairComes_34 : decode cX11_pairComes 34 = .ok (.iload_n 3, 1) := by decide +kernel
theorem dX11_pairComes_35 : decode cX11_pairComes 35 = .ok (.iastore, 1) := by decide +kernel
theorem dX11_pairComes_36 : decode cX11_pairComes 36 = .ok (.aload_n 0, 1) := by decide +kernel
theorem dX11_pairComes_37 : decode cX11_pairComes 37 = .ok (.getfield 7, 3) := by decide +kernel
theorem dX11_pairComes_40 : decode cX11_pairComes 40 = .ok (.iload 6, 2) := by decide +kernel
theorem dX11_pairComes_42 : decode cX11_pairComes 42 = .ok (.iconst 3, 1) := by decide +kernel
theorem dX11_pairComes_43 : decode cX11_pairComes 43 = .ok (.iadd, 1) := by decide +kernel
theorem dX11_pairComes_44 : decode cX11_pairComes 44 = .ok (.iload 4, 2) := by decide +kernel
theorem dX11_pairComes_46 : decode cX11_pairComes 46 = .ok (.iastore, 1) := by decide +kernel
theorem dX11_pairComes_47 : decode cX11_pairComes 47 = .ok (.aload_n 0, 1) := by decide +kernel
theorem dX11_pairComes_48 : decode cX11_pairComes 48 = .ok (.getfield 7, 3) := by decide +kernel
theorem dX11_pairComes_51 : decode cX11_pairComes 51 = .ok (.iload 6, 2) := by decide +kernel
theorem dX11_pairComes_53 : decode cX11_pairComes 53 = .ok (.iconst 4, 1) := by decide +kernel
theorem dX11_pairComes_54 : decode cX11_pairComes 54 = .ok (.iadd, 1) := by decide +kernel
theorem dX11_pairComes_55 : decode cX11_pairComes 55 = .ok (.iload 5, 2) := by decide +kernel
theorem dX11_pairComes_57 : decode cX11_pairComes 57 = .ok (.iastore, 1) := by decide +kernel
theorem dX11_pairComes_58 : decode cX11_pairComes 58 = .ok (.aload_n 0, 1) := by decide +kernel
theorem dX11_pairComes_59 : decode cX11_pairComes 59 = .ok (.dup, 1) := by decide +kernel
theorem dX11_pairComes_60 : decode cX11_pairComes 60 = .ok (.getfield 63, 3) := by decide +kernel
theorem dX11_pairComes_63 : decode cX11_pairComes 63 = .ok (.iconst 1, 1) := by decide +kernel
theorem dX11_pairComes_64 : decode cX11_pairComes 64 = .ok (.iadd, 1) := by decide +kernel
theorem dX11_pairComes_65 : decode cX11_pairComes 65 = .ok (.putfield 63, 3) := by decide +kernel
theorem dX11_pairComes_68 : decode cX11_pairComes 68 = .ok (.return_, 1) := by decide +kernel
theorem dX11_pair_0 : decode cX11_pair 0 = .ok (.iload_n 1, 1) := by decide +kernel
theorem dX11_pair_1 : decode cX11_pair 1 = .ok (.i2l, 1) := by decide +kernel
theorem dX11_pair_2 : decode cX11_pair 2 = .ok (.lconst 0, 1) := by decide +kernel
theorem dX11_pair_3 : decode cX11_pair 3 = .ok (.ldc2_w 75, 3) := by decide +kernel
theorem dX11_pair_6 : decode cX11_pair 6 = .ok (.invokestatic 66, 3) := by decide +kernel
theorem dX11_pair_9 : decode cX11_pair 9 = .ok (.ifCond .eq 41, 3) := by decide +kernel
theorem dX11_pair_12 : decode cX11_pair 12 = .ok (.iload_n 2, 1) := by decide +kernel
theorem dX11_pair_13 : decode cX11_pair 13 = .ok (.i2l, 1) := by decide +kernel
theorem dX11_pair_14 : decode cX11_pair 14 = .ok (.lconst 1, 1) := by decide +kernel
theorem dX11_pair_15 : decode cX11_pair 15 = .ok (.ldc2_w 77, 3) := by decide +kernel
theorem dX11_pair_18 : decode cX11_pair 18 = .ok (.invokestatic 66, 3) := by decide +kernel
theorem dX11_pair_21 : decode cX11_pair 21 = .ok (.ifCond .eq 29, 3) := by decide +kernel
theorem dX11_pair_24 : decode cX11_pair 24 = .ok (.iload_n 3, 1) := by decide +kernel
theorem dX11_pair_25 : decode cX11_pair 25 = .ok (.i2l, 1) := by decide +kernel
theorem dX11_pair_26 : decode cX11_pair 26 = .ok (.ldc2_w 79, 3) := by decide +kernel
theorem dX11_pair_29 : decode cX11_pair 29 = .ok (.ldc2_w 81, 3) := by decide +kernel
theorem dX11_pair_32 : decode cX11_pair 32 = .ok (.invokestatic 66, 3) := by decide +kernel
theorem dX11_pair_35 : decode cX11_pair 35 = .ok (.ifCond .eq 15, 3) := by decide +kernel
theorem dX11_pair_38 : decode cX11_pair 38 = .ok (.iload 4, 2) := by decide +kernel
theorem dX11_pair_40 : decode cX11_pair 40 = .ok (.i2l, 1) := by decide +kernel
theorem dX11_pair_41 : decode cX11_pair 41 = .ok (.lconst 1, 1) := by decide +kernel
theorem dX11_pair_42 : decode cX11_pair 42 = .ok (.iload_n 3, 1) := by decide +kernel
theorem dX11_pair_43 : decode cX11_pair 43 = .ok (.i2l, 1) := by decide +kernel
theorem dX11_pair_44 : decode cX11_pair 44 = .ok (.invokestatic 66, 3) := by decide +kernel
theorem dX11_pair_47 : decode cX11_pair 47 = .ok (.ifCond .ne 5, 3) := by decide +kernel
theorem dX11_pair_50 : decode cX11_pair 50 = .ok (.iconst (-1), 1) := by decide +kernel
theorem dX11_pair_51 : decode cX11_pair 51 = .ok (.ireturn, 1) := by decide +kernel
theorem dX11_pair_52 : decode cX11_pair 52 = .ok (.aload_n 0, 1) := by decide +kernel
theorem dX11_pair_53 : decode cX11_pair 53 = .ok (.getfield 63, 3) := by decide +kernel
theorem dX11_pair_56 : decode cX11_pair 56 = .ok (.bipush 6, 2) := by decide +kernel
theorem dX11_pair_58 : decode cX11_pair 58 = .ok (.if_icmp .ne 6, 3) := by decide +kernel
theorem dX11_pair_61 : decode cX11_pair 61 = .ok (.bipush (-3), 2) := by decide +kernel
theorem dX11_pair_63 : decode cX11_pair 63 = .ok (.ireturn, 1) := by decide +kernel
theorem dX11_pair_64 : decode cX11_pair 64 = .ok (.aload_n 0, 1) := by decide +kernel
theorem dX11_pair_65 : decode cX11_pair 65 = .ok (.iload_n 1, 1) := by decide +kernel
theorem dX11_pair_66 : decode cX11_pair 66 = .ok (.iload_n 2, 1) := by decide +kernel
theorem dX11_pair_67 : decode cX11_pair 67 = .ok (.iload_n 3, 1) := by decide +kernel
theorem dX11_pair_68 : decode cX11_pair 68 = .ok (.iload 4, 2) := by decide +kernel
theorem dX11_pair_70 : decode cX11_pair 70 = .ok (.iconst 0, 1) := by decide +kernel
theorem dX11_pair_71 : decode cX11_pair 71 = .ok (.invokevirtual 83, 3) := by decide +kernel
theorem dX11_pair_74 : decode cX11_pair 74 = .ok (.aload_n 0, 1) := by decide +kernel
theorem dX11_pair_75 : decode cX11_pair 75 = .ok (.getfield 63, 3) := by decide +kernel
theorem dX11_pair_78 : decode cX11_pair 78 = .ok (.iconst 1, 1) := by decide +kernel
theorem dX11_pair_79 : decode cX11_pair 79 = .ok (.isub, 1) := by decide +kernel
theorem dX11_pair_80 : decode cX11_pair 80 = .ok (.ireturn, 1) := by decide +kernel
theorem dX11_phase_0 : decode cX11_phase 0 = .ok (.aload_n 0, 1) := by decide +kernel
theorem dX11_phase_1 : decode cX11_phase 1 = .ok (.iload_n 1, 1) := by decide +kernel
theorem dX11_phase_2 : decode cX11_phase 2 = .ok (.invokevirtual 87, 3) := by decide +kernel
theorem dX11_phase_5 : decode cX11_phase 5 = .ok (.ifCond .eq 25, 3) := by decide +kernel
theorem dX11_phase_8 : decode cX11_phase 8 = .ok (.iload_n 2, 1) := by decide +kernel
theorem dX11_phase_9 : decode cX11_phase 9 = .ok (.i2l, 1) := by decide +kernel
theorem dX11_phase_10 : decode cX11_phase 10 = .ok (.lconst 0, 1) := by decide +kernel
theorem dX11_phase_11 : decode cX11_phase 11 = .ok (.aload_n 0, 1) := by decide +kernel
theorem dX11_phase_12 : decode cX11_phase 12 = .ok (.getfield 7, 3) := by decide +kernel
theorem dX11_phase_15 : decode cX11_phase 15 = .ok (.iconst 5, 1) := by decide +kernel
theorem dX11_phase_16 : decode cX11_phase 16 = .ok (.iload_n 1, 1) := by decide +kernel
theorem dX11_phase_17 : decode cX11_phase 17 = .ok (.imul, 1) := by decide +kernel
theorem dX11_phase_18 : decode cX11_phase 18 = .ok (.iconst 2, 1) := by decide +kernel
theorem dX11_phase_19 : decode cX11_phase 19 = .ok (.iadd, 1) := by decide +kernel
theorem dX11_phase_20 : decode cX11_phase 20 = .ok (.iaload, 1) := by decide +kernel
theorem dX11_phase_21 : decode cX11_phase 21 = .ok (.iconst 1, 1) := by decide +kernel
theorem dX11_phase_22 : decode cX11_phase 22 = .ok (.isub, 1) := by decide +kernel
theorem dX11_phase_23 : decode cX11_phase 23 = .ok (.i2l, 1) := by decide +kernel
theorem dX11_phase_24 : decode cX11_phase 24 = .ok (.invokestatic 66, 3) := by decide +kernel
theorem dX11_phase_27 : decode cX11_phase 27 = .ok (.ifCond .ne 5, 3) := by decide +kernel
theorem dX11_phase_30 : decode cX11_phase 30 = .ok (.iconst (-1), 1) := by decide +kernel
theorem dX11_phase_31 : decode cX11_phase 31 = .ok (.ireturn, 1) := by decide +kernel
theorem dX11_phase_32 : decode cX11_phase 32 = .ok (.aload_n 0, 1) := by decide +kernel
theorem dX11_phase_33 : decode cX11_phase 33 = .ok (.getfield 7, 3) := by decide +kernel
theorem dX11_phase_36 : decode cX11_phase 36 = .ok (.iconst 5, 1) := by decide +kernel
theorem dX11_phase_37 : decode cX11_phase 37 = .ok (.iload_n 1, 1) := by decide +kernel
theorem dX11_phase_38 : decode cX11_phase 38 = .ok (.imul, 1) := by decide +kernel
theorem dX11_phase_39 : decode cX11_phase 39 = .ok (.iconst 4, 1) := by decide +kernel
theorem dX11_phase_40 : decode cX11_phase 40 = .ok (.iadd, 1) := by decide +kernel
theorem dX11_phase_41 : decode cX11_phase 41 = .ok (.iaload, 1) := by decide +kernel
theorem dX11_phase_42 : decode cX11_phase 42 = .ok (.istore_n 3, 1) := by decide +kernel
theorem dX11_phase_43 : decode cX11_phase 43 = .ok (.aload_n 0, 1) := by decide +kernel
theorem dX11_phase_44 : decode cX11_phase 44 = .ok (.getfield 7, 3) := by decide +kernel
theorem dX11_phase_47 : decode cX11_phase 47 = .ok (.iconst 5, 1) := by decide +kernel
theorem dX11_phase_48 : decode cX11_phase 48 = .ok (.iload_n 1, 1) := by decide +kernel
theorem dX11_phase_49 : decode cX11_phase 49 = .ok (.imul, 1) := by decide +kernel
theorem dX11_phase_50 : decode cX11_phase 50 = .ok (.iconst 4, 1) := by decide +kernel
theorem dX11_phase_51 : decode cX11_phase 51 = .ok (.iadd, 1) := by decide +kernel
theorem dX11_phase_52 : decode cX11_phase 52 = .ok (.iload_n 2, 1) := by decide +kernel
theorem dX11_phase_53 : decode cX11_phase 53 = .ok (.iastore, 1) := by decide +kernel
theorem dX11_phase_54 : decode cX11_phase 54 = .ok (.iload_n 3, 1) := by decide +kernel
theorem dX11_phase_55 : decode cX11_phase 55 = .ok (.ireturn, 1) := by decide +kernel
theorem dX11_shipComes_0 : decode cX11_shipComes 0 = .ok (.aload_n 0, 1) := by decide +kernel
theorem dX11_shipComes_1 : decode cX11_shipComes 1 = .ok (.getfield 13, 3) := by decide +kernel
theorem dX11_shipComes_4 : decode cX11_shipComes 4 = .ok (.iconst 3, 1) := by decide +kernel
theorem dX11_shipComes_5 : decode cX11_shipComes 5 = .ok (.aload_n 0, 1) := by decide +kernel
theorem dX11_shipComes_6 : decode cX11_shipComes 6 = .ok (.getfield 70, 3) := by decide +kernel
theorem dX11_shipComes_9 : decode cX11_shipComes 9 = .ok (.imul, 1) := by decide +kernel
theorem dX11_shipComes_10 : decode cX11_shipComes 10 = .ok (.iload_n 1, 1) := by decide +kernel
theorem dX11_shipComes_11 : decode cX11_shipComes 11 = .ok (.iastore, 1) := by decide +kernel
theorem dX11_shipComes_12 : decode cX11_shipComes 12 = .ok (.aload_n 0, 1) := by decide +kernel
theorem dX11_shipComes_13 : decode cX11_shipComes 13 = .ok (.getfield 13, 3) := by decide +kernel
theorem dX11_shipComes_16 : decode cX11_shipComes 16 = .ok (.iconst 3, 1) := by decide +kernel
theorem dX11_shipComes_17 : decode cX11_shipComes 17 = .ok (.aload_n 0, 1) := by decide +kernel
theorem dX11_shipComes_18 : decode cX11_shipComes 18 = .ok (.getfield 70, 3) := by decide +kernel
theorem dX11_shipComes_21 : decode cX11_shipComes 21 = .ok (.imul, 1) := by decide +kernel
theorem dX11_shipComes_22 : decode cX11_shipComes 22 = .ok (.iconst 1, 1) := by decide +kernel
theorem dX11_shipComes_23 : decode cX11_shipComes 23 = .ok (.iadd, 1) := by decide +kernel
theorem dX11_shipComes_24 : decode cX11_shipComes 24 = .ok (.iload_n 2, 1) := by decide +kernel
theorem dX11_shipComes_25 : decode cX11_shipComes 25 = .ok (.iastore, 1) := by decide +kernel
theorem dX11_shipComes_26 : decode cX11_shipComes 26 = .ok (.aload_n 0, 1) := by decide +kernel
theorem dX11_shipComes_27 : decode cX11_shipComes 27 = .ok (.getfield 13, 3) := by decide +kernel
theorem dX11_shipComes_30 : decode cX11_shipComes 30 = .ok (.iconst 3, 1) := by decide +kernel
theorem dX11_shipComes_31 : decode cX11_shipComes 31 = .ok (.aload_n 0, 1) := by decide +kernel
theorem dX11_shipComes_32 : decode cX11_shipComes 32 = .ok (.getfield 70, 3) := by decide +kernel
theorem dX11_shipComes_35 : decode cX11_shipComes 35 = .ok (.imul, 1) := by decide +kernel
theorem dX11_shipComes_36 : decode cX11_shipComes 36 = .ok (.iconst 2, 1) := by decide +kernel
theorem dX11_shipComes_37 : decode cX11_shipComes 37 = .ok (.iadd, 1) := by decide +kernel
theorem dX11_shipComes_38 : decode cX11_shipComes 38 = .ok (.iload_n 3, 1) := by decide +kernel
theorem dX11_shipComes_39 : decode cX11_shipComes 39 = .ok (.iastore, 1) := by decide +kernel
theorem dX11_shipComes_40 : decode cX11_shipComes 40 = .ok (.aload_n 0, 1) := by decide +kernel
theorem dX11_shipComes_41 : decode cX11_shipComes 41 = .ok (.dup, 1) := by decide +kernel
theorem dX11_shipComes_42 : decode cX11_shipComes 42 = .ok (.getfield 70, 3) := by decide +kernel
theorem dX11_shipComes_45 : decode cX11_shipComes 45 = .ok (.iconst 1, 1) := by decide +kernel
theorem dX11_shipComes_46 : decode cX11_shipComes 46 = .ok (.iadd, 1) := by decide +kernel
theorem dX11_shipComes_47 : decode cX11_shipComes 47 = .ok (.putfield 70, 3) := by decide +kernel
theorem dX11_shipComes_50 : decode cX11_shipComes 50 = .ok (.return_, 1) := by decide +kernel
theorem dX11_ship_0 : decode cX11_ship 0 = .ok (.iload_n 1, 1) := by decide +kernel
theorem dX11_ship_1 : decode cX11_ship 1 = .ok (.i2l, 1) := by decide +kernel
theorem dX11_ship_2 : decode cX11_ship 2 = .ok (.lconst 0, 1) := by decide +kernel
theorem dX11_ship_3 : decode cX11_ship 3 = .ok (.ldc2_w 75, 3) := by decide +kernel
theorem dX11_ship_6 : decode cX11_ship 6 = .ok (.invokestatic 66, 3) := by decide +kernel
theorem dX11_ship_9 : decode cX11_ship 9 = .ok (.ifCond .eq 27, 3) := by decide +kernel
theorem dX11_ship_12 : decode cX11_ship 12 = .ok (.iload_n 2, 1) := by decide +kernel
theorem dX11_ship_13 : decode cX11_ship 13 = .ok (.i2l, 1) := by decide +kernel
theorem dX11_ship_14 : decode cX11_ship 14 = .ok (.lconst 1, 1) := by decide +kernel
theorem dX11_ship_15 : decode cX11_ship 15 = .ok (.ldc2_w 91, 3) := by decide +kernel
theorem dX11_ship_18 : decode cX11_ship 18 = .ok (.invokestatic 66, 3) := by decide +kernel
theorem dX11_ship_21 : decode cX11_ship 21 = .ok (.ifCond .eq 15, 3) := by decide +kernel
theorem dX11_ship_24 : decode cX11_ship 24 = .ok (.iload_n 3, 1) := by decide +kernel
theorem dX11_ship_25 : decode cX11_ship 25 = .ok (.i2l, 1) := by decide +kernel
theorem dX11_ship_26 : decode cX11_ship 26 = .ok (.lconst 1, 1) := by decide +kernel
theorem dX11_ship_27 : decode cX11_ship 27 = .ok (.ldc2_w 93, 3) := by decide +kernel
theorem dX11_ship_30 : decode cX11_ship 30 = .ok (.invokestatic 66, 3) := by decide +kernel
theorem dX11_ship_33 : decode cX11_ship 33 = .ok (.ifCond .ne 5, 3) := by decide +kernel
theorem dX11_ship_36 : decode cX11_ship 36 = .ok (.iconst (-1), 1) := by decide +kernel
theorem dX11_ship_37 : decode cX11_ship 37 = .ok (.ireturn, 1) := by decide +kernel
theorem dX11_ship_38 : decode cX11_ship 38 = .ok (.aload_n 0, 1) := by decide +kernel
theorem dX11_ship_39 : decode cX11_ship 39 = .ok (.getfield 70, 3) := by decide +kernel
theorem dX11_ship_42 : decode cX11_ship 42 = .ok (.iconst 5, 1) := by decide +kernel
theorem dX11_ship_43 : decode cX11_ship 43 = .ok (.if_icmp .ne 6, 3) := by decide +kernel
theorem dX11_ship_46 : decode cX11_ship 46 = .ok (.bipush (-3), 2) := by decide +kernel
theorem dX11_ship_48 : decode cX11_ship 48 = .ok (.ireturn, 1) := by decide +kernel
theorem dX11_ship_49 : decode cX11_ship 49 = .ok (.aload_n 0, 1) := by decide +kernel
theorem dX11_ship_50 : decode cX11_ship 50 = .ok (.iload_n 1, 1) := by decide +kernel
theorem dX11_ship_51 : decode cX11_ship 51 = .ok (.iload_n 2, 1) := by decide +kernel
theorem dX11_ship_52 : decode cX11_ship 52 = .ok (.iload_n 3, 1) := by decide +kernel
theorem dX11_ship_53 : decode cX11_ship 53 = .ok (.invokevirtual 95, 3) := by decide +kernel
theorem dX11_ship_56 : decode cX11_ship 56 = .ok (.aload_n 0, 1) := by decide +kernel
theorem dX11_ship_57 : decode cX11_ship 57 = .ok (.getfield 70, 3) := by decide +kernel
theorem dX11_ship_60 : decode cX11_ship 60 = .ok (.iconst 1, 1) := by decide +kernel
theorem dX11_ship_61 : decode cX11_ship 61 = .ok (.isub, 1) := by decide +kernel
theorem dX11_ship_62 : decode cX11_ship 62 = .ok (.ireturn, 1) := by decide +kernel
theorem dX11_of_0 : decode cX11_of 0 = .ok (.aload_n 0, 1) := by decide +kernel
theorem dX11_of_1 : decode cX11_of 1 = .ok (.iload_n 1, 1) := by decide +kernel
theorem dX11_of_2 : decode cX11_of 2 = .ok (.invokevirtual 87, 3) := by decide +kernel
theorem dX11_of_5 : decode cX11_of 5 = .ok (.ifCond .eq 28, 3) := by decide +kernel
theorem dX11_of_8 : decode cX11_of 8 = .ok (.iload_n 2, 1) := by decide +kernel
theorem dX11_of_9 : decode cX11_of 9 = .ok (.i2l, 1) := by decide +kernel
theorem dX11_of_10 : decode cX11_of 10 = .ok (.lconst 0, 1) := by decide +kernel
theorem dX11_of_11 : decode cX11_of 11 = .ok (.ldc2_w 99, 3) := by decide +kernel
theorem dX11_of_14 : decode cX11_of 14 = .ok (.invokestatic 66, 3) := by decide +kernel
theorem dX11_of_17 : decode cX11_of 17 = .ok (.ifCond .eq 16, 3) := by decide +kernel
theorem dX11_of_20 : decode cX11_of 20 = .ok (.aload_n 0, 1) := by decide +kernel
theorem dX11_of_21 : decode cX11_of 21 = .ok (.getfield 7, 3) := by decide +kernel
theorem dX11_of_24 : decode cX11_of 24 = .ok (.iconst 5, 1) := by decide +kernel
theorem dX11_of_25 : decode cX11_of 25 = .ok (.iload_n 1, 1) := by decide +kernel
theorem dX11_of_26 : decode cX11_of 26 = .ok (.imul, 1) := by decide +kernel
theorem dX11_of_27 : decode cX11_of 27 = .ok (.iload_n 2, 1) := by decide +kernel
theorem dX11_of_28 : decode cX11_of 28 = .ok (.iadd, 1) := by decide +kernel
theorem dX11_of_29 : decode cX11_of 29 = .ok (.iaload, 1) := by decide +kernel
theorem dX11_of_30 : decode cX11_of 30 = .ok (.goto 4, 3) := by decide +kernel
theorem dX11_of_33 : decode cX11_of 33 = .ok (.iconst (-1), 1) := by decide +kernel
theorem dX11_of_34 : decode cX11_of 34 = .ok (.ireturn, 1) := by decide +kernel
theorem dX11_high_0 : decode cX11_high 0 = .ok (.aload_n 0, 1) := by decide +kernel
theorem dX11_high_1 : decode cX11_high 1 = .ok (.getfield 13, 3) := by decide +kernel
theorem dX11_high_4 : decode cX11_high 4 = .ok (.iconst 3, 1) := by decide +kernel
theorem dX11_high_5 : decode cX11_high 5 = .ok (.iload_n 1, 1) := by decide +kernel
theorem dX11_high_6 : decode cX11_high 6 = .ok (.imul, 1) := by decide +kernel
theorem dX11_high_7 : decode cX11_high 7 = .ok (.iconst 2, 1) := by decide +kernel
theorem dX11_high_8 : decode cX11_high 8 = .ok (.iadd, 1) := by decide +kernel
theorem dX11_high_9 : decode cX11_high 9 = .ok (.iaload, 1) := by decide +kernel
theorem dX11_high_10 : decode cX11_high 10 = .ok (.istore_n 2, 1) := by decide +kernel
theorem dX11_high_11 : decode cX11_high 11 = .ok (.aload_n 0, 1) := by decide +kernel
theorem dX11_high_12 : decode cX11_high 12 = .ok (.getfield 13, 3) := by decide +kernel
theorem dX11_high_15 : decode cX11_high 15 = .ok (.iconst 3, 1) := by decide +kernel
theorem dX11_high_16 : decode cX11_high 16 = .ok (.iload_n 1, 1) := by decide +kernel
theorem dX11_high_17 : decode cX11_high 17 = .ok (.imul, 1) := by decide +kernel
theorem dX11_high_18 : decode cX11_high 18 = .ok (.iaload, 1) := by decide +kernel
theorem dX11_high_19 : decode cX11_high 19 = .ok (.iconst 2, 1) := by decide +kernel
theorem dX11_high_20 : decode cX11_high 20 = .ok (.irem, 1) := by decide +kernel
theorem dX11_high_21 : decode cX11_high 21 = .ok (.iconst 1, 1) := by decide +kernel
theorem dX11_high_22 : decode cX11_high 22 = .ok (.if_icmp .ne 12, 3) := by decide +kernel
theorem dX11_high_25 : decode cX11_high 25 = .ok (.iload_n 2, 1) := by decide +kernel
theorem dX11_high_26 : decode cX11_high 26 = .ok (.iconst 2, 1) := by decide +kernel
theorem dX11_high_27 : decode cX11_high 27 = .ok (.if_icmp .le 7, 3) := by decide +kernel
theorem dX11_high_30 : decode cX11_high 30 = .ok (.iconst 2, 1) := by decide +kernel
theorem dX11_high_31 : decode cX11_high 31 = .ok (.goto 4, 3) := by decide +kernel
theorem dX11_high_34 : decode cX11_high 34 = .ok (.iload_n 2, 1) := by decide +kernel
theorem dX11_high_35 : decode cX11_high 35 = .ok (.ireturn, 1) := by decide +kernel
theorem dX11_low_0 : decode cX11_low 0 = .ok (.aload_n 0, 1) := by decide +kernel
theorem dX11_low_1 : decode cX11_low 1 = .ok (.getfield 13, 3) := by decide +kernel
theorem dX11_low_4 : decode cX11_low 4 = .ok (.iconst 3, 1) := by decide +kernel
theorem dX11_low_5 : decode cX11_low 5 = .ok (.iload_n 1, 1) := by decide +kernel
theorem dX11_low_6 : decode cX11_low 6 = .ok (.imul, 1) := by decide +kernel
theorem dX11_low_7 : decode cX11_low 7 = .ok (.iaload, 1) := by decide +kernel
theorem dX11_low_8 : decode cX11_low 8 = .ok (.iconst 2, 1) := by decide +kernel
theorem dX11_low_9 : decode cX11_low 9 = .ok (.if_icmp .ne 11, 3) := by decide +kernel
theorem dX11_low_12 : decode cX11_low 12 = .ok (.aload_n 0, 1) := by decide +kernel
theorem dX11_low_13 : decode cX11_low 13 = .ok (.iload_n 1, 1) := by decide +kernel
theorem dX11_low_14 : decode cX11_low 14 = .ok (.invokevirtual 101, 3) := by decide +kernel
theorem dX11_low_17 : decode cX11_low 17 = .ok (.goto 4, 3) := by decide +kernel
theorem dX11_low_20 : decode cX11_low 20 = .ok (.iconst 1, 1) := by decide +kernel
theorem dX11_low_21 : decode cX11_low 21 = .ok (.ireturn, 1) := by decide +kernel
theorem dX11_span_0 : decode cX11_span 0 = .ok (.aload_n 0, 1) := by decide +kernel
theorem dX11_span_1 : decode cX11_span 1 = .ok (.getfield 13, 3) := by decide +kernel
theorem dX11_span_4 : decode cX11_span 4 = .ok (.iconst 3, 1) := by decide +kernel
theorem dX11_span_5 : decode cX11_span 5 = .ok (.iload_n 1, 1) := by decide +kernel
theorem dX11_span_6 : decode cX11_span 6 = .ok (.imul, 1) := by decide +kernel
theorem dX11_span_7 : decode cX11_span 7 = .ok (.iconst 1, 1) := by decide +kernel
theorem dX11_span_8 : decode cX11_span 8 = .ok (.iadd, 1) := by decide +kernel
theorem dX11_span_9 : decode cX11_span 9 = .ok (.iaload, 1) := by decide +kernel
theorem dX11_span_10 : decode cX11_span 10 = .ok (.aload_n 0, 1) := by decide +kernel
theorem dX11_span_11 : decode cX11_span 11 = .ok (.getfield 13, 3) := by decide +kernel
theorem dX11_span_14 : decode cX11_span 14 = .ok (.iconst 3, 1) := by decide +kernel
theorem dX11_span_15 : decode cX11_span 15 = .ok (.iload_n 1, 1) := by decide +kernel
theorem dX11_span_16 : decode cX11_span 16 = .ok (.imul, 1) := by decide +kernel
theorem dX11_span_17 : decode cX11_span 17 = .ok (.iaload, 1) := by decide +kernel
theorem dX11_span_18 : decode cX11_span 18 = .ok (.iconst 3, 1) := by decide +kernel
theorem dX11_span_19 : decode cX11_span 19 = .ok (.if_icmp .ne 7, 3) := by decide +kernel
theorem dX11_span_22 : decode cX11_span 22 = .ok (.iconst 2, 1) := by decide +kernel
theorem dX11_span_23 : decode cX11_span 23 = .ok (.goto 4, 3) := by decide +kernel
theorem dX11_span_26 : decode cX11_span 26 = .ok (.iconst 0, 1) := by decide +kernel
theorem dX11_span_27 : decode cX11_span 27 = .ok (.iadd, 1) := by decide +kernel
theorem dX11_span_28 : decode cX11_span 28 = .ok (.ireturn, 1) := by decide +kernel
theorem dX11_told_0 : decode cX11_told 0 = .ok (.aload_n 0, 1) := by decide +kernel
theorem dX11_told_1 : decode cX11_told 1 = .ok (.iload_n 1, 1) := by decide +kernel
theorem dX11_told_2 : decode cX11_told 2 = .ok (.invokevirtual 105, 3) := by decide +kernel
theorem dX11_told_5 : decode cX11_told 5 = .ok (.ifCond .eq 15, 3) := by decide +kernel
theorem dX11_told_8 : decode cX11_told 8 = .ok (.iload_n 2, 1) := by decide +kernel
theorem dX11_told_9 : decode cX11_told 9 = .ok (.i2l, 1) := by decide +kernel
theorem dX11_told_10 : decode cX11_told 10 = .ok (.lconst 0, 1) := by decide +kernel
theorem dX11_told_11 : decode cX11_told 11 = .ok (.ldc2_w 93, 3) := by decide +kernel
theorem dX11_told_14 : decode cX11_told 14 = .ok (.invokestatic 66, 3) := by decide +kernel
theorem dX11_told_17 : decode cX11_told 17 = .ok (.ifCond .ne 5, 3) := by decide +kernel
theorem dX11_told_20 : decode cX11_told 20 = .ok (.iconst (-1), 1) := by decide +kernel
theorem dX11_told_21 : decode cX11_told 21 = .ok (.ireturn, 1) := by decide +kernel
theorem dX11_told_22 : decode cX11_told 22 = .ok (.iload_n 2, 1) := by decide +kernel
theorem dX11_told_23 : decode cX11_told 23 = .ok (.iconst 3, 1) := by decide +kernel
theorem dX11_told_24 : decode cX11_told 24 = .ok (.if_icmp .ge 16, 3) := by decide +kernel
theorem dX11_told_27 : decode cX11_told 27 = .ok (.aload_n 0, 1) := by decide +kernel
theorem dX11_told_28 : decode cX11_told 28 = .ok (.getfield 13, 3) := by decide +kernel
theorem dX11_told_31 : decode cX11_told 31 = .ok (.iconst 3, 1) := by decide +kernel
theorem dX11_told_32 : decode cX11_told 32 = .ok (.iload_n 1, 1) := by decide +kernel
theorem dX11_told_33 : decode cX11_told 33 = .ok (.imul, 1) := by decide +kernel
theorem dX11_told_34 : decode cX11_told 34 = .ok (.iload_n 2, 1) := by decide +kernel
theorem dX11_told_35 : decode cX11_told 35 = .ok (.iadd, 1) := by decide +kernel
theorem dX11_told_36 : decode cX11_told 36 = .ok (.iaload, 1) := by decide +kernel
theorem dX11_told_37 : decode cX11_told 37 = .ok (.goto 34, 3) := by decide +kernel
theorem dX11_told_40 : decode cX11_told 40 = .ok (.iload_n 2, 1) := by decide +kernel
theorem dX11_told_41 : decode cX11_told 41 = .ok (.iconst 3, 1) := by decide +kernel
theorem dX11_told_42 : decode cX11_told 42 = .ok (.if_icmp .ne 11, 3) := by decide +kernel
theorem dX11_told_45 : decode cX11_told 45 = .ok (.aload_n 0, 1) := by decide +kernel
theorem dX11_told_46 : decode cX11_told 46 = .ok (.iload_n 1, 1) := by decide +kernel
theorem dX11_told_47 : decode cX11_told 47 = .ok (.invokevirtual 108, 3) := by decide +kernel
theorem dX11_told_50 : decode cX11_told 50 = .ok (.goto 21, 3) := by decide +kernel
theorem dX11_told_53 : decode cX11_told 53 = .ok (.iload_n 2, 1) := by decide +kernel
theorem dX11_told_54 : decode cX11_told 54 = .ok (.iconst 4, 1) := by decide +kernel
theorem dX11_told_55 : decode cX11_told 55 = .ok (.if_icmp .ne 11, 3) := by decide +kernel
theorem dX11_told_58 : decode cX11_told 58 = .ok (.aload_n 0, 1) := by decide +kernel
theorem dX11_told_59 : decode cX11_told 59 = .ok (.iload_n 1, 1) := by decide +kernel
theorem dX11_told_60 : decode cX11_told 60 = .ok (.invokevirtual 101, 3) := by decide +kernel
theorem dX11_told_63 : decode cX11_told 63 = .ok (.goto 8, 3) := by decide +kernel
theorem dX11_told_66 : decode cX11_told 66 = .ok (.aload_n 0, 1) := by decide +kernel
theorem dX11_told_67 : decode cX11_told 67 = .ok (.iload_n 1, 1) := by decide +kernel
theorem dX11_told_68 : decode cX11_told 68 = .ok (.invokevirtual 111, 3) := by decide +kernel
theorem dX11_told_71 : decode cX11_told 71 = .ok (.ireturn, 1) := by decide +kernel
theorem dX11_isPlain_0 : decode cX11_isPlain 0 = .ok (.iload_n 2, 1) := by decide +kernel
theorem dX11_isPlain_1 : decode cX11_isPlain 1 = .ok (.iload_n 3, 1) := by decide +kernel
theorem dX11_isPlain_2 : decode cX11_isPlain 2 = .ok (.iadd, 1) := by decide +kernel
theorem dX11_isPlain_3 : decode cX11_isPlain 3 = .ok (.aload_n 0, 1) := by decide +kernel
theorem dX11_isPlain_4 : decode cX11_isPlain 4 = .ok (.getfield 7, 3) := by decide +kernel
theorem dX11_isPlain_7 : decode cX11_isPlain 7 = .ok (.iconst 5, 1) := by decide +kernel
theorem dX11_isPlain_8 : decode cX11_isPlain 8 = .ok (.iload_n 1, 1) := by decide +kernel
theorem dX11_isPlain_9 : decode cX11_isPlain 9 = .ok (.imul, 1) := by decide +kernel
theorem dX11_isPlain_10 : decode cX11_isPlain 10 = .ok (.iconst 2, 1) := by decide +kernel
theorem dX11_isPlain_11 : decode cX11_isPlain 11 = .ok (.iadd, 1) := by decide +kernel
theorem dX11_isPlain_12 : decode cX11_isPlain 12 = .ok (.iaload, 1) := by decide +kernel
theorem dX11_isPlain_13 : decode cX11_isPlain 13 = .ok (.irem, 1) := by decide +kernel
theorem dX11_isPlain_14 : decode cX11_isPlain 14 = .ok (.aload_n 0, 1) := by decide +kernel
theorem dX11_isPlain_15 : decode cX11_isPlain 15 = .ok (.getfield 7, 3) := by decide +kernel
theorem dX11_isPlain_18 : decode cX11_isPlain 18 = .ok (.iconst 5, 1) := by decide +kernel
theorem dX11_isPlain_19 : decode cX11_isPlain 19 = .ok (.iload_n 1, 1) := by decide +kernel
theorem dX11_isPlain_20 : decode cX11_isPlain 20 = .ok (.imul, 1) := by decide +kernel
theorem dX11_isPlain_21 : decode cX11_isPlain 21 = .ok (.iconst 3, 1) := by decide +kernel
theorem dX11_isPlain_22 : decode cX11_isPlain 22 = .ok (.iadd, 1) := by decide +kernel
theorem dX11_isPlain_23 : decode cX11_isPlain 23 = .ok (.iaload, 1) := by decide +kernel
theorem dX11_isPlain_24 : decode cX11_isPlain 24 = .ok (.if_icmp .ge 7, 3) := by decide +kernel
theorem dX11_isPlain_27 : decode cX11_isPlain 27 = .ok (.iconst 1, 1) := by decide +kernel
theorem dX11_isPlain_28 : decode cX11_isPlain 28 = .ok (.goto 4, 3) := by decide +kernel
theorem dX11_isPlain_31 : decode cX11_isPlain 31 = .ok (.iconst 0, 1) := by decide +kernel
theorem dX11_isPlain_32 : decode cX11_isPlain 32 = .ok (.ireturn, 1) := by decide +kernel
theorem dX11_isOpen_0 : decode cX11_isOpen 0 = .ok (.aload_n 0, 1) := by decide +kernel
theorem dX11_isOpen_1 : decode cX11_isOpen 1 = .ok (.getfield 7, 3) := by decide +kernel
theorem dX11_isOpen_4 : decode cX11_isOpen 4 = .ok (.iconst 5, 1) := by decide +kernel
theorem dX11_isOpen_5 : decode cX11_isOpen 5 = .ok (.iload_n 1, 1) := by decide +kernel
theorem dX11_isOpen_6 : decode cX11_isOpen 6 = .ok (.imul, 1) := by decide +kernel
theorem dX11_isOpen_7 : decode cX11_isOpen 7 = .ok (.iaload, 1) := by decide +kernel
theorem dX11_isOpen_8 : decode cX11_isOpen 8 = .ok (.tableswitch 85 0 2 #[28, 36, 46], 28) := by decide +kernel
theorem dX11_isOpen_36 : decode cX11_isOpen 36 = .ok (.aload_n 0, 1) := by decide +kernel
theorem dX11_isOpen_37 : decode cX11_isOpen 37 = .ok (.iload_n 1, 1) := by decide +kernel
theorem dX11_isOpen_38 : decode cX11_isOpen 38 = .ok (.iload_n 2, 1) := by decide +kernel
theorem dX11_isOpen_39 : decode cX11_isOpen 39 = .ok (.iload_n 3, 1) := by decide +kernel
theorem dX11_isOpen_40 : decode cX11_isOpen 40 = .ok (.invokevirtual 114, 3) := by decide +kernel
theorem dX11_isOpen_43 : decode cX11_isOpen 43 = .ok (.ireturn, 1) := by decide +kernel
theorem dX11_isOpen_44 : decode cX11_isOpen 44 = .ok (.aload_n 0, 1) := by decide +kernel
theorem dX11_isOpen_45 : decode cX11_isOpen 45 = .ok (.iload_n 1, 1) := by decide +kernel
theorem dX11_isOpen_46 : decode cX11_isOpen 46 = .ok (.iload_n 2, 1) := by decide +kernel
theorem dX11_isOpen_47 : decode cX11_isOpen 47 = .ok (.iconst 2, 1) := by decide +kernel
theorem dX11_isOpen_48 : decode cX11_isOpen 48 = .ok (.idiv, 1) := by decide +kernel
theorem dX11_isOpen_49 : decode cX11_isOpen 49 = .ok (.iload_n 3, 1) := by decide +kernel
theorem dX11_isOpen_50 : decode cX11_isOpen 50 = .ok (.invokevirtual 114, 3) := by decide +kernel
theorem dX11_isOpen_53 : decode cX11_isOpen 53 = .ok (.ireturn, 1) := by decide +kernel
theorem dX11_isOpen_54 : decode cX11_isOpen 54 = .ok (.aload_n 0, 1) := by decide +kernel
theorem dX11_isOpen_55 : decode cX11_isOpen 55 = .ok (.iload_n 1, 1) := by decide +kernel
theorem dX11_isOpen_56 : decode cX11_isOpen 56 = .ok (.iload_n 2, 1) := by decide +kernel
theorem dX11_isOpen_57 : decode cX11_isOpen 57 = .ok (.iload_n 3, 1) := by decide +kernel
theorem dX11_isOpen_58 : decode cX11_isOpen 58 = .ok (.invokevirtual 114, 3) := by decide +kernel
theorem dX11_isOpen_61 : decode cX11_isOpen 61 = .ok (.ifCond .ne 26, 3) := by decide +kernel
theorem dX11_isOpen_64 : decode cX11_isOpen 64 = .ok (.aload_n 0, 1) := by decide +kernel
theorem dX11_isOpen_65 : decode cX11_isOpen 65 = .ok (.iload_n 1, 1) := by decide +kernel
theorem dX11_isOpen_66 : decode cX11_isOpen 66 = .ok (.iload_n 2, 1) := by decide +kernel
theorem dX11_isOpen_67 : decode cX11_isOpen 67 = .ok (.aload_n 0, 1) := by decide +kernel
theorem dX11_isOpen_68 : decode cX11_isOpen 68 = .ok (.getfield 7, 3) := by decide +kernel
theorem dX11_isOpen_71 : decode cX11_isOpen 71 = .ok (.iconst 5, 1) := by decide +kernel
theorem dX11_isOpen_72 : decode cX11_isOpen 72 = .ok (.iload_n 1, 1) := by decide +kernel
theorem dX11_isOpen_73 : decode cX11_isOpen 73 = .ok (.imul, 1) := by decide +kernel
theorem dX11_isOpen_74 : decode cX11_isOpen 74 = .ok (.iconst 2, 1) := by decide +kernel
theorem dX11_isOpen_75 : decode cX11_isOpen 75 = .ok (.iadd, 1) := by decide +kernel
theorem dX11_isOpen_76 : decode cX11_isOpen 76 = .ok (.iaload, 1) := by decide +kernel
theorem dX11_isOpen_77 : decode cX11_isOpen 77 = .ok (.iconst 2, 1) := by decide +kernel
theorem dX11_isOpen_78 : decode cX11_isOpen 78 = .ok (.idiv, 1) := by decide +kernel
theorem dX11_isOpen_79 : decode cX11_isOpen 79 = .ok (.iadd, 1) := by decide +kernel
theorem dX11_isOpen_80 : decode cX11_isOpen 80 = .ok (.iload_n 3, 1) := by decide +kernel
theorem dX11_isOpen_81 : decode cX11_isOpen 81 = .ok (.invokevirtual 114, 3) := by decide +kernel
theorem dX11_isOpen_84 : decode cX11_isOpen 84 = .ok (.ifCond .eq 7, 3) := by decide +kernel
theorem dX11_isOpen_87 : decode cX11_isOpen 87 = .ok (.iconst 1, 1) := by decide +kernel
theorem dX11_isOpen_88 : decode cX11_isOpen 88 = .ok (.goto 4, 3) := by decide +kernel
theorem dX11_isOpen_91 : decode cX11_isOpen 91 = .ok (.iconst 0, 1) := by decide +kernel
theorem dX11_isOpen_92 : decode cX11_isOpen 92 = .ok (.ireturn, 1) := by decide +kernel
theorem dX11_isOpen_93 : decode cX11_isOpen 93 = .ok (.iload_n 2, 1) := by decide +kernel
theorem dX11_isOpen_94 : decode cX11_isOpen 94 = .ok (.ifCond .le 33, 3) := by decide +kernel
theorem dX11_isOpen_97 : decode cX11_isOpen 97 = .ok (.aload_n 0, 1) := by decide +kernel
theorem dX11_isOpen_98 : decode cX11_isOpen 98 = .ok (.iload_n 1, 1) := by decide +kernel
theorem dX11_isOpen_99 : decode cX11_isOpen 99 = .ok (.iload_n 2, 1) := by decide +kernel
theorem dX11_isOpen_100 : decode cX11_isOpen 100 = .ok (.iconst 2, 1) := by decide +kernel
theorem dX11_isOpen_101 : decode cX11_isOpen 101 = .ok (.idiv, 1) := by decide +kernel
theorem dX11_isOpen_102 : decode cX11_isOpen 102 = .ok (.iload_n 3, 1) := by decide +kernel
theorem dX11_isOpen_103 : decode cX11_isOpen 103 = .ok (.invokevirtual 114, 3) := by decide +kernel
theorem dX11_isOpen_106 : decode cX11_isOpen 106 = .ok (.ifCond .eq 21, 3) := by decide +kernel
theorem dX11_isOpen_109 : decode cX11_isOpen 109 = .ok (.aload_n 0, 1) := by decide +kernel
theorem dX11_isOpen_110 : decode cX11_isOpen 110 = .ok (.iload_n 1, 1) := by decide +kernel
theorem dX11_isOpen_111 : decode cX11_isOpen 111 = .ok (.iload_n 2, 1) := by decide +kernel
theorem dX11_isOpen_112 : decode cX11_isOpen 112 = .ok (.iconst 1, 1) := by decide +kernel
theorem dX11_isOpen_113 : decode cX11_isOpen 113 = .ok (.isub, 1) := by decide +kernel
theorem dX11_isOpen_114 : decode cX11_isOpen 114 = .ok (.iconst 2, 1) := by decide +kernel
theorem dX11_isOpen_115 : decode cX11_isOpen 115 = .ok (.idiv, 1) := by decide +kernel
theorem dX11_isOpen_116 : decode cX11_isOpen 116 = .ok (.iload_n 3, 1) := by decide +kernel
theorem dX11_isOpen_117 : decode cX11_isOpen 117 = .ok (.invokevirtual 114, 3) := by decide +kernel
theorem dX11_isOpen_120 : decode cX11_isOpen 120 = .ok (.ifCond .eq 7, 3) := by decide +kernel
theorem dX11_isOpen_123 : decode cX11_isOpen 123 = .ok (.iconst 1, 1) := by decide +kernel
theorem dX11_isOpen_124 : decode cX11_isOpen 124 = .ok (.goto 4, 3) := by decide +kernel
theorem dX11_isOpen_127 : decode cX11_isOpen 127 = .ok (.iconst 0, 1) := by decide +kernel
theorem dX11_isOpen_128 : decode cX11_isOpen 128 = .ok (.ireturn, 1) := by decide +kernel
theorem dX11_open_0 : decode cX11_open 0 = .ok (.aload_n 0, 1) := by decide +kernel
theorem dX11_open_1 : decode cX11_open 1 = .ok (.iload_n 1, 1) := by decide +kernel
theorem dX11_open_2 : decode cX11_open 2 = .ok (.invokevirtual 87, 3) := by decide +kernel
theorem dX11_open_5 : decode cX11_open 5 = .ok (.ifCond .eq 42, 3) := by decide +kernel
theorem dX11_open_8 : decode cX11_open 8 = .ok (.iload_n 2, 1) := by decide +kernel
theorem dX11_open_9 : decode cX11_open 9 = .ok (.i2l, 1) := by decide +kernel
theorem dX11_open_10 : decode cX11_open 10 = .ok (.lconst 0, 1) := by decide +kernel
theorem dX11_open_11 : decode cX11_open 11 = .ok (.ldc2_w 118, 3) := by decide +kernel
theorem dX11_open_14 : decode cX11_open 14 = .ok (.invokestatic 66, 3) := by decide +kernel
theorem dX11_open_17 : decode cX11_open 17 = .ok (.ifCond .eq 30, 3) := by decide +kernel
theorem dX11_open_20 : decode cX11_open 20 = .ok (.aload_n 0, 1) := by decide +kernel
theorem dX11_open_21 : decode cX11_open 21 = .ok (.iload_n 1, 1) := by decide +kernel
theorem dX11_open_22 : decode cX11_open 22 = .ok (.iload_n 2, 1) := by decide +kernel
theorem dX11_open_23 : decode cX11_open 23 = .ok (.aload_n 0, 1) := by decide +kernel
theorem dX11_open_24 : decode cX11_open 24 = .ok (.getfield 7, 3) := by decide +kernel
theorem dX11_open_27 : decode cX11_open 27 = .ok (.iconst 5, 1) := by decide +kernel
theorem dX11_open_28 : decode cX11_open 28 = .ok (.iload_n 1, 1) := by decide +kernel
theorem dX11_open_29 : decode cX11_open 29 = .ok (.imul, 1) := by decide +kernel
theorem dX11_open_30 : decode cX11_open 30 = .ok (.iconst 4, 1) := by decide +kernel
theorem dX11_open_31 : decode cX11_open 31 = .ok (.iadd, 1) := by decide +kernel
theorem dX11_open_32 : decode cX11_open 32 = .ok (.iaload, 1) := by decide +kernel
theorem dX11_open_33 : decode cX11_open 33 = .ok (.invokevirtual 120, 3) := by decide +kernel
theorem dX11_open_36 : decode cX11_open 36 = .ok (.ifCond .eq 7, 3) := by decide +kernel
theorem dX11_open_39 : decode cX11_open 39 = .ok (.iconst 1, 1) := by decide +kernel
theorem dX11_open_40 : decode cX11_open 40 = .ok (.goto 8, 3) := by decide +kernel
theorem dX11_open_43 : decode cX11_open 43 = .ok (.iconst 0, 1) := by decide +kernel
theorem dX11_open_44 : decode cX11_open 44 = .ok (.goto 4, 3) := by decide +kernel
theorem dX11_open_47 : decode cX11_open 47 = .ok (.iconst (-1), 1) := by decide +kernel
theorem dX11_open_48 : decode cX11_open 48 = .ok (.ireturn, 1) := by decide +kernel
theorem dX11_upwards_0 : decode cX11_upwards 0 = .ok (.iload_n 0, 1) := by decide +kernel
theorem dX11_upwards_1 : decode cX11_upwards 1 = .ok (.iload_n 1, 1) := by decide +kernel
theorem dX11_upwards_2 : decode cX11_upwards 2 = .ok (.iadd, 1) := by decide +kernel
theorem dX11_upwards_3 : decode cX11_upwards 3 = .ok (.iconst 1, 1) := by decide +kernel
theorem dX11_upwards_4 : decode cX11_upwards 4 = .ok (.isub, 1) := by decide +kernel
theorem dX11_upwards_5 : decode cX11_upwards 5 = .ok (.iload_n 1, 1) := by decide +kernel
theorem dX11_upwards_6 : decode cX11_upwards 6 = .ok (.idiv, 1) := by decide +kernel
theorem dX11_upwards_7 : decode cX11_upwards 7 = .ok (.ireturn, 1) := by decide +kernel
theorem dX11_passes_0 : decode cX11_passes 0 = .ok (.iload 4, 2) := by decide +kernel
theorem dX11_passes_2 : decode cX11_passes 2 = .ok (.aload_n 0, 1) := by decide +kernel
theorem dX11_passes_3 : decode cX11_passes 3 = .ok (.getfield 7, 3) := by decide +kernel
theorem dX11_passes_6 : decode cX11_passes 6 = .ok (.iconst 5, 1) := by decide +kernel
theorem dX11_passes_7 : decode cX11_passes 7 = .ok (.iload_n 2, 1) := by decide +kernel
theorem dX11_passes_8 : decode cX11_passes 8 = .ok (.imul, 1) := by decide +kernel
theorem dX11_passes_9 : decode cX11_passes 9 = .ok (.iconst 1, 1) := by decide +kernel
theorem dX11_passes_10 : decode cX11_passes 10 = .ok (.iadd, 1) := by decide +kernel
theorem dX11_passes_11 : decode cX11_passes 11 = .ok (.iaload, 1) := by decide +kernel
theorem dX11_passes_12 : decode cX11_passes 12 = .ok (.iload 5, 2) := by decide +kernel
theorem dX11_passes_14 : decode cX11_passes 14 = .ok (.invokestatic 123, 3) := by decide +kernel
theorem dX11_passes_17 : decode cX11_passes 17 = .ok (.iadd, 1) := by decide +kernel
theorem dX11_passes_18 : decode cX11_passes 18 = .ok (.istore 6, 2) := by decide +kernel
theorem dX11_passes_20 : decode cX11_passes 20 = .ok (.iload 6, 2) := by decide +kernel
theorem dX11_passes_22 : decode cX11_passes 22 = .ok (.aload_n 0, 1) := by decide +kernel
theorem dX11_passes_23 : decode cX11_passes 23 = .ok (.iload_n 1, 1) := by decide +kernel
theorem dX11_passes_24 : decode cX11_passes 24 = .ok (.invokevirtual 111, 3) := by decide +kernel
theorem dX11_passes_27 : decode cX11_passes 27 = .ok (.iload 5, 2) := by decide +kernel
theorem dX11_passes_29 : decode cX11_passes 29 = .ok (.invokestatic 123, 3) := by decide +kernel
theorem dX11_passes_32 : decode cX11_passes 32 = .ok (.iadd, 1) := by decide +kernel
theorem dX11_passes_33 : decode cX11_passes 33 = .ok (.istore 7, 2) := by decide +kernel
theorem dX11_passes_35 : decode cX11_passes 35 = .ok (.aload_n 0, 1) := by decide +kernel
theorem dX11_passes_36 : decode cX11_passes 36 = .ok (.iconst 0, 1) := by decide +kernel
theorem dX11_passes_37 : decode cX11_passes 37 = .ok (.putfield 127, 3) := by decide +kernel
theorem dX11_passes_40 : decode cX11_passes 40 = .ok (.aload_n 0, 1) := by decide +kernel
theorem dX11_passes_41 : decode cX11_passes 41 = .ok (.iload 7, 2) := by decide +kernel
theorem dX11_passes_43 : decode cX11_passes 43 = .ok (.putfield 130, 3) := by decide +kernel
theorem dX11_passes_46 : decode cX11_passes 46 = .ok (.iload 6, 2) := by decide +kernel
theorem dX11_passes_48 : decode cX11_passes 48 = .ok (.istore 8, 2) := by decide +kernel
theorem dX11_passes_50 : decode cX11_passes 50 = .ok (.iload 8, 2) := by decide +kernel
theorem dX11_passes_52 : decode cX11_passes 52 = .ok (.iload 7, 2) := by decide +kernel
theorem dX11_passes_54 : decode cX11_passes 54 = .ok (.if_icmp .ge 64, 3) := by decide +kernel
theorem dX11_passes_57 : decode cX11_passes 57 = .ok (.aload_n 0, 1) := by decide +kernel
theorem dX11_passes_58 : decode cX11_passes 58 = .ok (.getfield 127, 3) := by decide +kernel
theorem dX11_passes_61 : decode cX11_passes 61 = .ok (.ifCond .ne 57, 3) := by decide +kernel
theorem dX11_passes_64 : decode cX11_passes 64 = .ok (.aload_n 0, 1) := by decide +kernel
theorem dX11_passes_65 : decode cX11_passes 65 = .ok (.iload_n 2, 1) := by decide +kernel
theorem dX11_passes_66 : decode cX11_passes 66 = .ok (.iload 8, 2) := by decide +kernel
theorem dX11_passes_68 : decode cX11_passes 68 = .ok (.iload_n 3, 1) := by decide +kernel
theorem dX11_passes_69 : decode cX11_passes 69 = .ok (.invokevirtual 120, 3) := by decide +kernel
theorem dX11_passes_72 : decode cX11_passes 72 = .ok (.ifCond .ne 40, 3) := by decide +kernel
theorem dX11_passes_75 : decode cX11_passes 75 = .ok (.aload_n 0, 1) := by decide +kernel
theorem dX11_passes_76 : decode cX11_passes 76 = .ok (.iload 8, 2) := by decide +kernel
theorem dX11_passes_78 : decode cX11_passes 78 = .ok (.iload 7, 2) := by decide +kernel
theorem dX11_passes_80 : decode cX11_passes 80 = .ok (.iconst 1, 1) := by decide +kernel
theorem dX11_passes_81 : decode cX11_passes 81 = .ok (.isub, 1) := by decide +kernel
theorem dX11_passes_82 : decode cX11_passes 82 = .ok (.if_icmp .ne 7, 3) := by decide +kernel
theorem dX11_passes_85 : decode cX11_passes 85 = .ok (.iconst 1, 1) := by decide +kernel
theorem dX11_passes_86 : decode cX11_passes 86 = .ok (.goto 4, 3) := by decide +kernel
theorem dX11_passes_89 : decode cX11_passes 89 = .ok (.iconst 2, 1) := by decide +kernel
theorem dX11_passes_90 : decode cX11_passes 90 = .ok (.putfield 127, 3) := by decide +kernel
theorem dX11_passes_93 : decode cX11_passes 93 = .ok (.aload_n 0, 1) := by decide +kernel
theorem dX11_passes_94 : decode cX11_passes 94 = .ok (.aload_n 0, 1) := by decide +kernel
theorem dX11_passes_95 : decode cX11_passes 95 = .ok (.getfield 127, 3) := by decide +kernel
theorem dX11_passes_98 : decode cX11_passes 98 = .ok (.iconst 2, 1) := by decide +kernel
theorem dX11_passes_99 : decode cX11_passes 99 = .ok (.if_icmp .ne 8, 3) := by decide +kernel
theorem dX11_passes_102 : decode cX11_passes 102 = .ok (.iload 8, 2) := by decide +kernel
theorem dX11_passes_104 : decode cX11_passes 104 = .ok (.goto 5, 3) := by decide +kernel
theorem dX11_passes_107 : decode cX11_passes 107 = .ok (.iload 7, 2) := by decide +kernel
theorem dX11_passes_109 : decode cX11_passes 109 = .ok (.putfield 130, 3) := by decide +kernel
theorem dX11_passes_112 : decode cX11_passes 112 = .ok (.iinc 8 1, 3) := by decide +kernel
theorem dX11_passes_115 : decode cX11_passes 115 = .ok (.goto (-65), 3) := by decide +kernel
theorem dX11_passes_118 : decode cX11_passes 118 = .ok (.return_, 1) := by decide +kernel
theorem dX11_goes_0 : decode cX11_goes 0 = .ok (.aload_n 0, 1) := by decide +kernel
theorem dX11_goes_1 : decode cX11_goes 1 = .ok (.bipush (-4), 2) := by decide +kernel
theorem dX11_goes_3 : decode cX11_goes 3 = .ok (.putfield 133, 3) := by decide +kernel
theorem dX11_goes_6 : decode cX11_goes 6 = .ok (.aload_n 0, 1) := by decide +kernel
theorem dX11_goes_7 : decode cX11_goes 7 = .ok (.iconst 0, 1) := by decide +kernel
theorem dX11_goes_8 : decode cX11_goes 8 = .ok (.putfield 136, 3) := by decide +kernel
theorem dX11_goes_11 : decode cX11_goes 11 = .ok (.aload_n 0, 1) := by decide +kernel
theorem dX11_goes_12 : decode cX11_goes 12 = .ok (.iload_n 2, 1) := by decide +kernel
theorem dX11_goes_13 : decode cX11_goes 13 = .ok (.putfield 130, 3) := by decide +kernel
theorem dX11_goes_16 : decode cX11_goes 16 = .ok (.iconst 0, 1) := by decide +kernel
theorem dX11_goes_17 : decode cX11_goes 17 = .ok (.istore_n 3, 1) := by decide +kernel
theorem dX11_goes_18 : decode cX11_goes 18 = .ok (.iload_n 3, 1) := by decide +kernel
theorem dX11_goes_19 : decode cX11_goes 19 = .ok (.aload_n 0, 1) := by decide +kernel
theorem dX11_goes_20 : decode cX11_goes 20 = .ok (.getfield 63, 3) := by decide +kernel
theorem dX11_goes_23 : decode cX11_goes 23 = .ok (.if_icmp .ge 86, 3) := by decide +kernel
theorem dX11_goes_26 : decode cX11_goes 26 = .ok (.aload_n 0, 1) := by decide +kernel
theorem dX11_goes_27 : decode cX11_goes 27 = .ok (.getfield 133, 3) := by decide +kernel
theorem dX11_goes_30 : decode cX11_goes 30 = .ok (.bipush (-4), 2) := by decide +kernel
theorem dX11_goes_32 : decode cX11_goes 32 = .ok (.if_icmp .ne 77, 3) := by decide +kernel
theorem dX11_goes_35 : decode cX11_goes 35 = .ok (.aload_n 0, 1) := by decide +kernel
theorem dX11_goes_36 : decode cX11_goes 36 = .ok (.iload_n 1, 1) := by decide +kernel
theorem dX11_goes_37 : decode cX11_goes 37 = .ok (.iload_n 3, 1) := by decide +kernel
theorem dX11_goes_38 : decode cX11_goes 38 = .ok (.aload_n 0, 1) := by decide +kernel
theorem dX11_goes_39 : decode cX11_goes 39 = .ok (.getfield 7, 3) := by decide +kernel
theorem dX11_goes_42 : decode cX11_goes 42 = .ok (.iconst 5, 1) := by decide +kernel
theorem dX11_goes_43 : decode cX11_goes 43 = .ok (.iload_n 3, 1) := by decide +kernel
theorem dX11_goes_44 : decode cX11_goes 44 = .ok (.imul, 1) := by decide +kernel
theorem dX11_goes_45 : decode cX11_goes 45 = .ok (.iconst 4, 1) := by decide +kernel
theorem dX11_goes_46 : decode cX11_goes 46 = .ok (.iadd, 1) := by decide +kernel
theorem dX11_goes_47 : decode cX11_goes 47 = .ok (.iaload, 1) := by decide +kernel
theorem dX11_goes_48 : decode cX11_goes 48 = .ok (.aload_n 0, 1) := by decide +kernel
theorem dX11_goes_49 : decode cX11_goes 49 = .ok (.getfield 130, 3) := by decide +kernel
theorem dX11_goes_52 : decode cX11_goes 52 = .ok (.aload_n 0, 1) := by decide +kernel
theorem dX11_goes_53 : decode cX11_goes 53 = .ok (.getfield 23, 3) := by decide +kernel
theorem dX11_goes_56 : decode cX11_goes 56 = .ok (.iload_n 3, 1) := by decide +kernel
theorem dX11_goes_57 : decode cX11_goes 57 = .ok (.iaload, 1) := by decide +kernel
theorem dX11_goes_58 : decode cX11_goes 58 = .ok (.invokevirtual 139, 3) := by decide +kernel
theorem dX11_goes_61 : decode cX11_goes 61 = .ok (.aload_n 0, 1) := by decide +kernel
theorem dX11_goes_62 : decode cX11_goes 62 = .ok (.aload_n 0, 1) := by decide +kernel
theorem dX11_goes_63 : decode cX11_goes 63 = .ok (.getfield 127, 3) := by decide +kernel
theorem dX11_goes_66 : decode cX11_goes 66 = .ok (.iconst 2, 1) := by decide +kernel
theorem dX11_goes_67 : decode cX11_goes 67 = .ok (.if_icmp .ne 7, 3) := by decide +kernel
theorem dX11_goes_70 : decode cX11_goes 70 = .ok (.iload_n 3, 1) := by decide +kernel
theorem dX11_goes_71 : decode cX11_goes 71 = .ok (.goto 5, 3) := by decide +kernel
theorem dX11_goes_74 : decode cX11_goes 74 = .ok (.bipush (-4), 2) := by decide +kernel
theorem dX11_goes_76 : decode cX11_goes 76 = .ok (.putfield 133, 3) := by decide +kernel
theorem dX11_goes_79 : decode cX11_goes 79 = .ok (.aload_n 0, 1) := by decide +kernel
theorem dX11_goes_80 : decode cX11_goes 80 = .ok (.dup, 1) := by decide +kernel
theorem dX11_goes_81 : decode cX11_goes 81 = .ok (.getfield 136, 3) := by decide +kernel
theorem dX11_goes_84 : decode cX11_goes 84 = .ok (.aload_n 0, 1) := by decide +kernel
theorem dX11_goes_85 : decode cX11_goes 85 = .ok (.getfield 127, 3) := by decide +kernel
theorem dX11_goes_88 : decode cX11_goes 88 = .ok (.iconst 1, 1) := by decide +kernel
theorem dX11_goes_89 : decode cX11_goes 89 = .ok (.if_icmp .ne 9, 3) := by decide +kernel
theorem dX11_goes_92 : decode cX11_goes 92 = .ok (.iconst 1, 1) := by decide +kernel
theorem dX11_goes_93 : decode cX11_goes 93 = .ok (.iload_n 3, 1) := by decide +kernel
theorem dX11_goes_94 : decode cX11_goes 94 = .ok (.ishl, 1) := by decide +kernel
theorem dX11_goes_95 : decode cX11_goes 95 = .ok (.goto 4, 3) := by decide +kernel
theorem dX11_goes_98 : decode cX11_goes 98 = .ok (.iconst 0, 1) := by decide +kernel
theorem dX11_goes_99 : decode cX11_goes 99 = .ok (.ior, 1) := by decide +kernel
theorem dX11_goes_100 : decode cX11_goes 100 = .ok (.putfield 136, 3) := by decide +kernel
theorem dX11_goes_103 : decode cX11_goes 103 = .ok (.iinc 3 1, 3) := by decide +kernel
theorem dX11_goes_106 : decode cX11_goes 106 = .ok (.goto (-88), 3) := by decide +kernel
theorem dX11_goes_109 : decode cX11_goes 109 = .ok (.return_, 1) := by decide +kernel
theorem dX11_goesFull_0 : decode cX11_goesFull 0 = .ok (.iconst 0, 1) := by decide +kernel
theorem dX11_goesFull_1 : decode cX11_goesFull 1 = .ok (.istore_n 3, 1) := by decide +kernel
theorem dX11_goesFull_2 : decode cX11_goesFull 2 = .ok (.iload_n 3, 1) := by decide +kernel
theorem dX11_goesFull_3 : decode cX11_goesFull 3 = .ok (.aload_n 0, 1) := by decide +kernel
theorem dX11_goesFull_4 : decode cX11_goesFull 4 = .ok (.getfield 63, 3) := by decide +kernel
theorem dX11_goesFull_7 : decode cX11_goesFull 7 = .ok (.if_icmp .ge 20, 3) := by decide +kernel
theorem dX11_goesFull_10 : decode cX11_goesFull 10 = .ok (.aload_n 0, 1) := by decide +kernel
theorem dX11_goesFull_11 : decode cX11_goesFull 11 = .ok (.getfield 23, 3) := by decide +kernel
theorem dX11_goesFull_14 : decode cX11_goesFull 14 = .ok (.iload_n 3, 1) := by decide +kernel
theorem dX11_goesFull_15 : decode cX11_goesFull 15 = .ok (.aload_n 0, 1) := by decide +kernel
theorem dX11_goesFull_16 : decode cX11_goesFull 16 = .ok (.iload_n 1, 1) := by decide +kernel
theorem dX11_goesFull_17 : decode cX11_goesFull 17 = .ok (.invokevirtual 101, 3) := by decide +kernel
theorem dX11_goesFull_20 : decode cX11_goesFull 20 = .ok (.iastore, 1) := by decide +kernel
theorem dX11_goesFull_21 : decode cX11_goesFull 21 = .ok (.iinc 3 1, 3) := by decide +kernel
theorem dX11_goesFull_24 : decode cX11_goesFull 24 = .ok (.goto (-22), 3) := by decide +kernel
theorem dX11_goesFull_27 : decode cX11_goesFull 27 = .ok (.aload_n 0, 1) := by decide +kernel
theorem dX11_goesFull_28 : decode cX11_goesFull 28 = .ok (.iload_n 1, 1) := by decide +kernel
theorem dX11_goesFull_29 : decode cX11_goesFull 29 = .ok (.iload_n 2, 1) := by decide +kernel
theorem dX11_goesFull_30 : decode cX11_goesFull 30 = .ok (.invokevirtual 142, 3) := by decide +kernel
theorem dX11_goesFull_33 : decode cX11_goesFull 33 = .ok (.return_, 1) := by decide +kernel
theorem dX11_isClean_0 : decode cX11_isClean 0 = .ok (.aload_n 0, 1) := by decide +kernel
theorem dX11_isClean_1 : decode cX11_isClean 1 = .ok (.getfield 133, 3) := by decide +kernel
theorem dX11_isClean_4 : decode cX11_isClean 4 = .ok (.bipush (-4), 2) := by decide +kernel
theorem dX11_isClean_6 : decode cX11_isClean 6 = .ok (.if_icmp .ne 14, 3) := by decide +kernel
theorem dX11_isClean_9 : decode cX11_isClean 9 = .ok (.aload_n 0, 1) := by decide +kernel
theorem dX11_isClean_10 : decode cX11_isClean 10 = .ok (.getfield 136, 3) := by decide +kernel
theorem dX11_isClean_13 : decode cX11_isClean 13 = .ok (.ifCond .ne 7, 3) := by decide +kernel
theorem dX11_isClean_16 : decode cX11_isClean 16 = .ok (.iconst 1, 1) := by decide +kernel
theorem dX11_isClean_17 : decode cX11_isClean 17 = .ok (.goto 4, 3) := by decide +kernel
theorem dX11_isClean_20 : decode cX11_isClean 20 = .ok (.iconst 0, 1) := by decide +kernel
theorem dX11_isClean_21 : decode cX11_isClean 21 = .ok (.ireturn, 1) := by decide +kernel
theorem dX11_type_0 : decode cX11_type 0 = .ok (.iload_n 1, 1) := by decide +kernel
theorem dX11_type_1 : decode cX11_type 1 = .ok (.i2l, 1) := by decide +kernel
theorem dX11_type_2 : decode cX11_type 2 = .ok (.ldc2_w 146, 3) := by decide +kernel
theorem dX11_type_5 : decode cX11_type 5 = .ok (.ldc2_w 148, 3) := by decide +kernel
theorem dX11_type_8 : decode cX11_type 8 = .ok (.invokestatic 66, 3) := by decide +kernel
theorem dX11_type_11 : decode cX11_type 11 = .ok (.ifCond .ne 5, 3) := by decide +kernel
theorem dX11_type_14 : decode cX11_type 14 = .ok (.iconst (-1), 1) := by decide +kernel
theorem dX11_type_15 : decode cX11_type 15 = .ok (.ireturn, 1) := by decide +kernel
theorem dX11_type_16 : decode cX11_type 16 = .ok (.aload_n 0, 1) := by decide +kernel
theorem dX11_type_17 : decode cX11_type 17 = .ok (.getfield 150, 3) := by decide +kernel
theorem dX11_type_20 : decode cX11_type 20 = .ok (.bipush 100, 2) := by decide +kernel
theorem dX11_type_22 : decode cX11_type 22 = .ok (.if_icmp .ne 6, 3) := by decide +kernel
theorem dX11_type_25 : decode cX11_type 25 = .ok (.bipush (-3), 2) := by decide +kernel
theorem dX11_type_27 : decode cX11_type 27 = .ok (.ireturn, 1) := by decide +kernel
theorem dX11_type_28 : decode cX11_type 28 = .ok (.aload_n 0, 1) := by decide +kernel
theorem dX11_type_29 : decode cX11_type 29 = .ok (.getfield 26, 3) := by decide +kernel
theorem dX11_type_32 : decode cX11_type 32 = .ok (.aload_n 0, 1) := by decide +kernel
theorem dX11_type_33 : decode cX11_type 33 = .ok (.getfield 150, 3) := by decide +kernel
theorem dX11_type_36 : decode cX11_type 36 = .ok (.iload_n 1, 1) := by decide +kernel
theorem dX11_type_37 : decode cX11_type 37 = .ok (.iastore, 1) := by decide +kernel
theorem dX11_type_38 : decode cX11_type 38 = .ok (.aload_n 0, 1) := by decide +kernel
theorem dX11_type_39 : decode cX11_type 39 = .ok (.dup, 1) := by decide +kernel
theorem dX11_type_40 : decode cX11_type 40 = .ok (.getfield 150, 3) := by decide +kernel
theorem dX11_type_43 : decode cX11_type 43 = .ok (.iconst 1, 1) := by decide +kernel
theorem dX11_type_44 : decode cX11_type 44 = .ok (.iadd, 1) := by decide +kernel
theorem dX11_type_45 : decode cX11_type 45 = .ok (.putfield 150, 3) := by decide +kernel
theorem dX11_type_48 : decode cX11_type 48 = .ok (.aload_n 0, 1) := by decide +kernel
theorem dX11_type_49 : decode cX11_type 49 = .ok (.getfield 150, 3) := by decide +kernel
theorem dX11_type_52 : decode cX11_type 52 = .ok (.ireturn, 1) := by decide +kernel
theorem dX11_here_0 : decode cX11_here 0 = .ok (.aload_n 0, 1) := by decide +kernel
theorem dX11_here_1 : decode cX11_here 1 = .ok (.getfield 153, 3) := by decide +kernel
theorem dX11_here_4 : decode cX11_here 4 = .ok (.aload_n 0, 1) := by decide +kernel
theorem dX11_here_5 : decode cX11_here 5 = .ok (.getfield 150, 3) := by decide +kernel
theorem dX11_here_8 : decode cX11_here 8 = .ok (.if_icmp .ge 30, 3) := by decide +kernel
theorem dX11_here_11 : decode cX11_here 11 = .ok (.aload_n 0, 1) := by decide +kernel
theorem dX11_here_12 : decode cX11_here 12 = .ok (.getfield 26, 3) := by decide +kernel
theorem dX11_here_15 : decode cX11_here 15 = .ok (.aload_n 0, 1) := by decide +kernel
theorem dX11_here_16 : decode cX11_here 16 = .ok (.getfield 153, 3) := by decide +kernel
theorem dX11_here_19 : decode cX11_here 19 = .ok (.iaload, 1) := by decide +kernel
theorem dX11_here_20 : decode cX11_here 20 = .ok (.bipush 32, 2) := by decide +kernel
theorem dX11_here_22 : decode cX11_here 22 = .ok (.if_icmp .ne 16, 3) := by decide +kernel
theorem dX11_here_25 : decode cX11_here 25 = .ok (.aload_n 0, 1) := by decide +kernel
theorem dX11_here_26 : decode cX11_here 26 = .ok (.dup, 1) := by decide +kernel
theorem dX11_here_27 : decode cX11_here 27 = .ok (.getfield 153, 3) := by decide +kernel
theorem dX11_here_30 : decode cX11_here 30 = .ok (.iconst 1, 1) := by decide +kernel
theorem dX11_here_31 : decode cX11_here 31 = .ok (.iadd, 1) := by decide +kernel
theorem dX11_here_32 : decode cX11_here 32 = .ok (.putfield 153, 3) := by decide +kernel
theorem dX11_here_35 : decode cX11_here 35 = .ok (.goto (-35), 3) := by decide +kernel
theorem dX11_here_38 : decode cX11_here 38 = .ok (.aload_n 0, 1) := by decide +kernel
theorem dX11_here_39 : decode cX11_here 39 = .ok (.getfield 153, 3) := by decide +kernel
theorem dX11_here_42 : decode cX11_here 42 = .ok (.aload_n 0, 1) := by decide +kernel
theorem dX11_here_43 : decode cX11_here 43 = .ok (.getfield 150, 3) := by decide +kernel
theorem dX11_here_46 : decode cX11_here 46 = .ok (.if_icmp .ge 15, 3) := by decide +kernel
theorem dX11_here_49 : decode cX11_here 49 = .ok (.aload_n 0, 1) := by decide +kernel
theorem dX11_here_50 : decode cX11_here 50 = .ok (.getfield 26, 3) := by decide +kernel
theorem dX11_here_53 : decode cX11_here 53 = .ok (.aload_n 0, 1) := by decide +kernel
theorem dX11_here_54 : decode cX11_here 54 = .ok (.getfield 153, 3) := by decide +kernel
theorem dX11_here_57 : decode cX11_here 57 = .ok (.iaload, 1) := by decide +kernel
theorem dX11_here_58 : decode cX11_here 58 = .ok (.goto 4, 3) := by decide +kernel
theorem dX11_here_61 : decode cX11_here 61 = .ok (.iconst 0, 1) := by decide +kernel
theorem dX11_here_62 : decode cX11_here 62 = .ok (.ireturn, 1) := by decide +kernel
theorem dX11_has_0 : decode cX11_has 0 = .ok (.aload_n 0, 1) := by decide +kernel
theorem dX11_has_1 : decode cX11_has 1 = .ok (.getfield 156, 3) := by decide +kernel
theorem dX11_has_4 : decode cX11_has 4 = .ok (.ifCond .ne 15, 3) := by decide +kernel
theorem dX11_has_7 : decode cX11_has 7 = .ok (.aload_n 0, 1) := by decide +kernel
theorem dX11_has_8 : decode cX11_has 8 = .ok (.invokevirtual 160, 3) := by decide +kernel
theorem dX11_has_11 : decode cX11_has 11 = .ok (.iload_n 1, 1) := by decide +kernel
theorem dX11_has_12 : decode cX11_has 12 = .ok (.if_icmp .ne 7, 3) := by decide +kernel
theorem dX11_has_15 : decode cX11_has 15 = .ok (.iconst 1, 1) := by decide +kernel
theorem dX11_has_16 : decode cX11_has 16 = .ok (.goto 4, 3) := by decide +kernel
theorem dX11_has_19 : decode cX11_has 19 = .ok (.iconst 0, 1) := by decide +kernel
theorem dX11_has_20 : decode cX11_has 20 = .ok (.istore_n 2, 1) := by decide +kernel
theorem dX11_has_21 : decode cX11_has 21 = .ok (.aload_n 0, 1) := by decide +kernel
theorem dX11_has_22 : decode cX11_has 22 = .ok (.dup, 1) := by decide +kernel
theorem dX11_has_23 : decode cX11_has 23 = .ok (.getfield 153, 3) := by decide +kernel
theorem dX11_has_26 : decode cX11_has 26 = .ok (.iload_n 2, 1) := by decide +kernel
theorem dX11_has_27 : decode cX11_has 27 = .ok (.ifCond .eq 7, 3) := by decide +kernel
theorem dX11_has_30 : decode cX11_has 30 = .ok (.iconst 1, 1) := by decide +kernel
theorem dX11_has_31 : decode cX11_has 31 = .ok (.goto 4, 3) := by decide +kernel
theorem dX11_has_34 : decode cX11_has 34 = .ok (.iconst 0, 1) := by decide +kernel
theorem dX11_has_35 : decode cX11_has 35 = .ok (.iadd, 1) := by decide +kernel
theorem dX11_has_36 : decode cX11_has 36 = .ok (.putfield 153, 3) := by decide +kernel
theorem dX11_has_39 : decode cX11_has 39 = .ok (.iload_n 2, 1) := by decide +kernel
theorem dX11_has_40 : decode cX11_has 40 = .ok (.ireturn, 1) := by decide +kernel
theorem dX11_must_0 : decode cX11_must 0 = .ok (.aload_n 0, 1) := by decide +kernel
theorem dX11_must_1 : decode cX11_must 1 = .ok (.aload_n 0, 1) := by decide +kernel
theorem dX11_must_2 : decode cX11_must 2 = .ok (.getfield 156, 3) := by decide +kernel
theorem dX11_must_5 : decode cX11_must 5 = .ok (.ifCond .ne 11, 3) := by decide +kernel
theorem dX11_must_8 : decode cX11_must 8 = .ok (.aload_n 0, 1) := by decide +kernel
theorem dX11_must_9 : decode cX11_must 9 = .ok (.iload_n 1, 1) := by decide +kernel
theorem dX11_must_10 : decode cX11_must 10 = .ok (.invokevirtual 164, 3) := by decide +kernel
theorem dX11_must_13 : decode cX11_must 13 = .ok (.ifCond .ne 7, 3) := by decide +kernel
theorem dX11_must_16 : decode cX11_must 16 = .ok (.iconst 1, 1) := by decide +kernel
theorem dX11_must_17 : decode cX11_must 17 = .ok (.goto 4, 3) := by decide +kernel
theorem dX11_must_20 : decode cX11_must 20 = .ok (.iconst 0, 1) := by decide +kernel
theorem dX11_must_21 : decode cX11_must 21 = .ok (.putfield 156, 3) := by decide +kernel
theorem dX11_must_24 : decode cX11_must 24 = .ok (.return_, 1) := by decide +kernel
theorem dX11_number_0 : decode cX11_number 0 = .ok (.aload_n 0, 1) := by decide +kernel
theorem dX11_number_1 : decode cX11_number 1 = .ok (.getfield 156, 3) := by decide +kernel
theorem dX11_number_4 : decode cX11_number 4 = .ok (.ifCond .ne 20, 3) := by decide +kernel
theorem dX11_number_7 : decode cX11_number 7 = .ok (.aload_n 0, 1) := by decide +kernel
theorem dX11_number_8 : decode cX11_number 8 = .ok (.invokevirtual 160, 3) := by decide +kernel
theorem dX11_number_11 : decode cX11_number 11 = .ok (.i2l, 1) := by decide +kernel
theorem dX11_number_12 : decode cX11_number 12 = .ok (.ldc2_w 167, 3) := by decide +kernel
theorem dX11_number_15 : decode cX11_number 15 = .ok (.ldc2_w 169, 3) := by decide +kernel
theorem dX11_number_18 : decode cX11_number 18 = .ok (.invokestatic 66, 3) := by decide +kernel
theorem dX11_number_21 : decode cX11_number 21 = .ok (.ifCond .ne 10, 3) := by decide +kernel
theorem dX11_number_24 : decode cX11_number 24 = .ok (.aload_n 0, 1) := by decide +kernel
theorem dX11_number_25 : decode cX11_number 25 = .ok (.iconst 1, 1) := by decide +kernel
theorem dX11_number_26 : decode cX11_number 26 = .ok (.putfield 156, 3) := by decide +kernel
theorem dX11_number_29 : decode cX11_number 29 = .ok (.iconst 0, 1) := by decide +kernel
theorem dX11_number_30 : decode cX11_number 30 = .ok (.ireturn, 1) := by decide +kernel
theorem dX11_number_31 : decode cX11_number 31 = .ok (.aload_n 0, 1) := by decide +kernel
theorem dX11_number_32 : decode cX11_number 32 = .ok (.getfield 153, 3) := by decide +kernel
theorem dX11_number_35 : decode cX11_number 35 = .ok (.istore_n 3, 1) := by decide +kernel
theorem dX11_number_36 : decode cX11_number 36 = .ok (.iconst 0, 1) := by decide +kernel
theorem dX11_number_37 : decode cX11_number 37 = .ok (.istore 4, 2) := by decide +kernel
theorem dX11_number_39 : decode cX11_number 39 = .ok (.aload_n 0, 1) := by decide +kernel
theorem dX11_number_40 : decode cX11_number 40 = .ok (.getfield 153, 3) := by decide +kernel
theorem dX11_number_43 : decode cX11_number 43 = .ok (.aload_n 0, 1) := by decide +kernel
theorem dX11_number_44 : decode cX11_number 44 = .ok (.getfield 150, 3) := by decide +kernel
theorem dX11_number_47 : decode cX11_number 47 = .ok (.if_icmp .ge 71, 3) := by decide +kernel
theorem dX11_number_50 : decode cX11_number 50 = .ok (.aload_n 0, 1) := by decide +kernel
theorem dX11_number_51 : decode cX11_number 51 = .ok (.getfield 26, 3) := by decide +kernel
theorem dX11_number_54 : decode cX11_number 54 = .ok (.aload_n 0, 1) := by decide +kernel
theorem dX11_number_55 : decode cX11_number 55 = .ok (.getfield 153, 3) := by decide +kernel
theorem dX11_number_58 : decode cX11_number 58 = .ok (.iaload, 1) := by decide +kernel
theorem dX11_number_59 : decode cX11_number 59 = .ok (.i2l, 1) := by decide +kernel
theorem dX11_number_60 : decode cX11_number 60 = .ok (.ldc2_w 167, 3) := by decide +kernel
theorem dX11_number_63 : decode cX11_number 63 = .ok (.ldc2_w 169, 3) := by decide +kernel
theorem dX11_number_66 : decode cX11_number 66 = .ok (.invokestatic 66, 3) := by decide +kernel
theorem dX11_number_69 : decode cX11_number 69 = .ok (.ifCond .eq 49, 3) := by decide +kernel
theorem dX11_number_72 : decode cX11_number 72 = .ok (.iload 4, 2) := by decide +kernel
theorem dX11_number_74 : decode cX11_number 74 = .ok (.sipush 9999, 3) := by decide +kernel
theorem dX11_number_77 : decode cX11_number 77 = .ok (.if_icmp .le 8, 3) := by decide +kernel
theorem dX11_number_80 : decode cX11_number 80 = .ok (.iload 4, 2) := by decide +kernel
theorem dX11_number_82 : decode cX11_number 82 = .ok (.goto 21, 3) := by decide +kernel
theorem dX11_number_85 : decode cX11_number 85 = .ok (.bipush 10, 2) := by decide +kernel
theorem dX11_number_87 : decode cX11_number 87 = .ok (.iload 4, 2) := by decide +kernel
theorem dX11_number_89 : decode cX11_number 89 = .ok (.imul, 1) := by decide +kernel
theorem dX11_number_90 : decode cX11_number 90 = .ok (.aload_n 0, 1) := by decide +kernel
theorem dX11_number_91 : decode cX11_number 91 = .ok (.getfield 26, 3) := by decide +kernel
theorem dX11_number_94 : decode cX11_number 94 = .ok (.aload_n 0, 1) := by decide +kernel
theorem dX11_number_95 : decode cX11_number 95 = .ok (.getfield 153, 3) := by decide +kernel
theorem dX11_number_98 : decode cX11_number 98 = .ok (.iaload, 1) := by decide +kernel
theorem dX11_number_99 : decode cX11_number 99 = .ok (.iadd, 1) := by decide +kernel
theorem dX11_number_100 : decode cX11_number 100 = .ok (.bipush 48, 2) := by decide +kernel
theorem dX11_number_102 : decode cX11_number 102 = .ok (.isub, 1) := by decide +kernel
theorem dX11_number_103 : decode cX11_number 103 = .ok (.istore 4, 2) := by decide +kernel
theorem dX11_number_105 : decode cX11_number 105 = .ok (.aload_n 0, 1) := by decide +kernel
theorem dX11_number_106 : decode cX11_number 106 = .ok (.dup, 1) := by decide +kernel
theorem dX11_number_107 : decode cX11_number 107 = .ok (.getfield 153, 3) := by decide +kernel
theorem dX11_number_110 : decode cX11_number 110 = .ok (.iconst 1, 1) := by decide +kernel
theorem dX11_number_111 : decode cX11_number 111 = .ok (.iadd, 1) := by decide +kernel
theorem dX11_number_112 : decode cX11_number 112 = .ok (.putfield 153, 3) := by decide +kernel
theorem dX11_number_115 : decode cX11_number 115 = .ok (.goto (-76), 3) := by decide +kernel
theorem dX11_number_118 : decode cX11_number 118 = .ok (.aload_n 0, 1) := by decide +kernel
theorem dX11_number_119 : decode cX11_number 119 = .ok (.iload 4, 2) := by decide +kernel
theorem dX11_number_121 : decode cX11_number 121 = .ok (.i2l, 1) := by decide +kernel
theorem dX11_number_122 : decode cX11_number 122 = .ok (.iload_n 1, 1) := by decide +kernel
theorem dX11_number_123 : decode cX11_number 123 = .ok (.i2l, 1) := by decide +kernel
theorem dX11_number_124 : decode cX11_number 124 = .ok (.iload_n 2, 1) := by decide +kernel
theorem dX11_number_125 : decode cX11_number 125 = .ok (.i2l, 1) := by decide +kernel
theorem dX11_number_126 : decode cX11_number 126 = .ok (.invokestatic 66, 3) := by decide +kernel
theorem dX11_number_129 : decode cX11_number 129 = .ok (.ifCond .ne 7, 3) := by decide +kernel
theorem dX11_number_132 : decode cX11_number 132 = .ok (.iconst 1, 1) := by decide +kernel
theorem dX11_number_133 : decode cX11_number 133 = .ok (.goto 4, 3) := by decide +kernel
theorem dX11_number_136 : decode cX11_number 136 = .ok (.iconst 0, 1) := by decide +kernel
theorem dX11_number_137 : decode cX11_number 137 = .ok (.putfield 156, 3) := by decide +kernel
theorem dX11_number_140 : decode cX11_number 140 = .ok (.aload_n 0, 1) := by decide +kernel
theorem dX11_number_141 : decode cX11_number 141 = .ok (.aload_n 0, 1) := by decide +kernel
theorem dX11_number_142 : decode cX11_number 142 = .ok (.getfield 156, 3) := by decide +kernel
theorem dX11_number_145 : decode cX11_number 145 = .ok (.ifCond .eq 7, 3) := by decide +kernel
theorem dX11_number_148 : decode cX11_number 148 = .ok (.iload_n 3, 1) := by decide +kernel
theorem dX11_number_149 : decode cX11_number 149 = .ok (.goto 7, 3) := by decide +kernel
theorem dX11_number_152 : decode cX11_number 152 = .ok (.aload_n 0, 1) := by decide +kernel
theorem dX11_number_153 : decode cX11_number 153 = .ok (.getfield 153, 3) := by decide +kernel
theorem dX11_number_156 : decode cX11_number 156 = .ok (.putfield 153, 3) := by decide +kernel
theorem dX11_number_159 : decode cX11_number 159 = .ok (.iload 4, 2) := by decide +kernel
theorem dX11_number_161 : decode cX11_number 161 = .ok (.ireturn, 1) := by decide +kernel
theorem dX11_letter_0 : decode cX11_letter 0 = .ok (.aload_n 0, 1) := by decide +kernel
theorem dX11_letter_1 : decode cX11_letter 1 = .ok (.getfield 156, 3) := by decide +kernel
theorem dX11_letter_4 : decode cX11_letter 4 = .ok (.ifCond .eq 7, 3) := by decide +kernel
theorem dX11_letter_7 : decode cX11_letter 7 = .ok (.iconst 0, 1) := by decide +kernel
theorem dX11_letter_8 : decode cX11_letter 8 = .ok (.goto 7, 3) := by decide +kernel
theorem dX11_letter_11 : decode cX11_letter 11 = .ok (.aload_n 0, 1) := by decide +kernel
theorem dX11_letter_12 : decode cX11_letter 12 = .ok (.invokevirtual 160, 3) := by decide +kernel
theorem dX11_letter_15 : decode cX11_letter 15 = .ok (.istore 5, 2) := by decide +kernel
theorem dX11_letter_17 : decode cX11_letter 17 = .ok (.iload 5, 2) := by decide +kernel
theorem dX11_letter_19 : decode cX11_letter 19 = .ok (.iload_n 1, 1) := by decide +kernel
theorem dX11_letter_20 : decode cX11_letter 20 = .ok (.if_icmp .ne 7, 3) := by decide +kernel
theorem dX11_letter_23 : decode cX11_letter 23 = .ok (.iconst 0, 1) := by decide +kernel
theorem dX11_letter_24 : decode cX11_letter 24 = .ok (.goto 36, 3) := by decide +kernel
theorem dX11_letter_27 : decode cX11_letter 27 = .ok (.iload 5, 2) := by decide +kernel
theorem dX11_letter_29 : decode cX11_letter 29 = .ok (.iload_n 2, 1) := by decide +kernel
theorem dX11_letter_30 : decode cX11_letter 30 = .ok (.if_icmp .ne 7, 3) := by decide +kernel
theorem dX11_letter_33 : decode cX11_letter 33 = .ok (.iconst 1, 1) := by decide +kernel
theorem dX11_letter_34 : decode cX11_letter 34 = .ok (.goto 26, 3) := by decide +kernel
theorem dX11_letter_37 : decode cX11_letter 37 = .ok (.iload 5, 2) := by decide +kernel
theorem dX11_letter_39 : decode cX11_letter 39 = .ok (.iload_n 3, 1) := by decide +kernel
theorem dX11_letter_40 : decode cX11_letter 40 = .ok (.if_icmp .ne 7, 3) := by decide +kernel
theorem dX11_letter_43 : decode cX11_letter 43 = .ok (.iconst 2, 1) := by decide +kernel
theorem dX11_letter_44 : decode cX11_letter 44 = .ok (.goto 16, 3) := by decide +kernel
theorem dX11_letter_47 : decode cX11_letter 47 = .ok (.iload 5, 2) := by decide +kernel
theorem dX11_letter_49 : decode cX11_letter 49 = .ok (.iload 4, 2) := by decide +kernel
theorem dX11_letter_51 : decode cX11_letter 51 = .ok (.if_icmp .ne 7, 3) := by decide +kernel
theorem dX11_letter_54 : decode cX11_letter 54 = .ok (.iconst 3, 1) := by decide +kernel
theorem dX11_letter_55 : decode cX11_letter 55 = .ok (.goto 5, 3) := by decide +kernel
theorem dX11_letter_58 : decode cX11_letter 58 = .ok (.bipush (-4), 2) := by decide +kernel
theorem dX11_letter_60 : decode cX11_letter 60 = .ok (.istore 6, 2) := by decide +kernel
theorem dX11_letter_62 : decode cX11_letter 62 = .ok (.aload_n 0, 1) := by decide +kernel
theorem dX11_letter_63 : decode cX11_letter 63 = .ok (.aload_n 0, 1) := by decide +kernel
theorem dX11_letter_64 : decode cX11_letter 64 = .ok (.getfield 156, 3) := by decide +kernel
theorem dX11_letter_67 : decode cX11_letter 67 = .ok (.ifCond .ne 8, 3) := by decide +kernel
theorem dX11_letter_70 : decode cX11_letter 70 = .ok (.iload 6, 2) := by decide +kernel
theorem dX11_letter_72 : decode cX11_letter 72 = .ok (.ifCond .ge 7, 3) := by decide +kernel
theorem dX11_letter_75 : decode cX11_letter 75 = .ok (.iconst 1, 1) := by decide +kernel
theorem dX11_letter_76 : decode cX11_letter 76 = .ok (.goto 4, 3) := by decide +kernel
theorem dX11_letter_79 : decode cX11_letter 79 = .ok (.iconst 0, 1) := by decide +kernel
theorem dX11_letter_80 : decode cX11_letter 80 = .ok (.putfield 156, 3) := by decide +kernel
theorem dX11_letter_83 : decode cX11_letter 83 = .ok (.aload_n 0, 1) := by decide +kernel
theorem dX11_letter_84 : decode cX11_letter 84 = .ok (.dup, 1) := by decide +kernel
theorem dX11_letter_85 : decode cX11_letter 85 = .ok (.getfield 153, 3) := by decide +kernel
theorem dX11_letter_88 : decode cX11_letter 88 = .ok (.aload_n 0, 1) := by decide +kernel
theorem dX11_letter_89 : decode cX11_letter 89 = .ok (.getfield 156, 3) := by decide +kernel
theorem dX11_letter_92 : decode cX11_letter 92 = .ok (.ifCond .eq 7, 3) := by decide +kernel
theorem dX11_letter_95 : decode cX11_letter 95 = .ok (.iconst 0, 1) := by decide +kernel
theorem dX11_letter_96 : decode cX11_letter 96 = .ok (.goto 4, 3) := by decide +kernel
theorem dX11_letter_99 : decode cX11_letter 99 = .ok (.iconst 1, 1) := by decide +kernel
theorem dX11_letter_100 : decode cX11_letter 100 = .ok (.iadd, 1) := by decide +kernel
theorem dX11_letter_101 : decode cX11_letter 101 = .ok (.putfield 153, 3) := by decide +kernel
theorem dX11_letter_104 : decode cX11_letter 104 = .ok (.iload 6, 2) := by decide +kernel
theorem dX11_letter_106 : decode cX11_letter 106 = .ok (.ireturn, 1) := by decide +kernel
theorem dX11_digit_0 : decode cX11_digit 0 = .ok (.aload_n 0, 1) := by decide +kernel
theorem dX11_digit_1 : decode cX11_digit 1 = .ok (.getfield 156, 3) := by decide +kernel
theorem dX11_digit_4 : decode cX11_digit 4 = .ok (.ifCond .eq 7, 3) := by decide +kernel
theorem dX11_digit_7 : decode cX11_digit 7 = .ok (.iconst 0, 1) := by decide +kernel
theorem dX11_digit_8 : decode cX11_digit 8 = .ok (.goto 10, 3) := by decide +kernel
theorem dX11_digit_11 : decode cX11_digit 11 = .ok (.aload_n 0, 1) := by decide +kernel
theorem dX11_digit_12 : decode cX11_digit 12 = .ok (.invokevirtual 160, 3) := by decide +kernel
theorem dX11_digit_15 : decode cX11_digit 15 = .ok (.bipush 48, 2) := by decide +kernel
theorem dX11_digit_17 : decode cX11_digit 17 = .ok (.isub, 1) := by decide +kernel
theorem dX11_digit_18 : decode cX11_digit 18 = .ok (.istore_n 2, 1) := by decide +kernel
theorem dX11_digit_19 : decode cX11_digit 19 = .ok (.aload_n 0, 1) := by decide +kernel
theorem dX11_digit_20 : decode cX11_digit 20 = .ok (.aload_n 0, 1) := by decide +kernel
theorem dX11_digit_21 : decode cX11_digit 21 = .ok (.getfield 156, 3) := by decide +kernel
theorem dX11_digit_24 : decode cX11_digit 24 = .ok (.ifCond .ne 14, 3) := by decide +kernel
theorem dX11_digit_27 : decode cX11_digit 27 = .ok (.iload_n 2, 1) := by decide +kernel
theorem dX11_digit_28 : decode cX11_digit 28 = .ok (.i2l, 1) := by decide +kernel
theorem dX11_digit_29 : decode cX11_digit 29 = .ok (.lconst 1, 1) := by decide +kernel
theorem dX11_digit_30 : decode cX11_digit 30 = .ok (.iload_n 1, 1) := by decide +kernel
theorem dX11_digit_31 : decode cX11_digit 31 = .ok (.i2l, 1) := by decide +kernel
theorem dX11_digit_32 : decode cX11_digit 32 = .ok (.invokestatic 66, 3) := by decide +kernel
theorem dX11_digit_35 : decode cX11_digit 35 = .ok (.ifCond .ne 7, 3) := by decide +kernel
theorem dX11_digit_38 : decode cX11_digit 38 = .ok (.iconst 1, 1) := by decide +kernel
theorem dX11_digit_39 : decode cX11_digit 39 = .ok (.goto 4, 3) := by decide +kernel
theorem dX11_digit_42 : decode cX11_digit 42 = .ok (.iconst 0, 1) := by decide +kernel
theorem dX11_digit_43 : decode cX11_digit 43 = .ok (.putfield 156, 3) := by decide +kernel
theorem dX11_digit_46 : decode cX11_digit 46 = .ok (.aload_n 0, 1) := by decide +kernel
theorem dX11_digit_47 : decode cX11_digit 47 = .ok (.dup, 1) := by decide +kernel
theorem dX11_digit_48 : decode cX11_digit 48 = .ok (.getfield 153, 3) := by decide +kernel
theorem dX11_digit_51 : decode cX11_digit 51 = .ok (.aload_n 0, 1) := by decide +kernel
theorem dX11_digit_52 : decode cX11_digit 52 = .ok (.getfield 156, 3) := by decide +kernel
theorem dX11_digit_55 : decode cX11_digit 55 = .ok (.ifCond .eq 7, 3) := by decide +kernel
theorem dX11_digit_58 : decode cX11_digit 58 = .ok (.iconst 0, 1) := by decide +kernel
theorem dX11_digit_59 : decode cX11_digit 59 = .ok (.goto 4, 3) := by decide +kernel
theorem dX11_digit_62 : decode cX11_digit 62 = .ok (.iconst 1, 1) := by decide +kernel
theorem dX11_digit_63 : decode cX11_digit 63 = .ok (.iadd, 1) := by decide +kernel
theorem dX11_digit_64 : decode cX11_digit 64 = .ok (.putfield 153, 3) := by decide +kernel
theorem dX11_digit_67 : decode cX11_digit 67 = .ok (.iload_n 2, 1) := by decide +kernel
theorem dX11_digit_68 : decode cX11_digit 68 = .ok (.ireturn, 1) := by decide +kernel
theorem dX11_readPair_0 : decode cX11_readPair 0 = .ok (.iconst 5, 1) := by decide +kernel
theorem dX11_readPair_1 : decode cX11_readPair 1 = .ok (.aload_n 0, 1) := by decide +kernel
theorem dX11_readPair_2 : decode cX11_readPair 2 = .ok (.getfield 171, 3) := by decide +kernel
theorem dX11_readPair_5 : decode cX11_readPair 5 = .ok (.imul, 1) := by decide +kernel
theorem dX11_readPair_6 : decode cX11_readPair 6 = .ok (.istore_n 1, 1) := by decide +kernel
theorem dX11_readPair_7 : decode cX11_readPair 7 = .ok (.aload_n 0, 1) := by decide +kernel
theorem dX11_readPair_8 : decode cX11_readPair 8 = .ok (.getfield 29, 3) := by decide +kernel
theorem dX11_readPair_11 : decode cX11_readPair 11 = .ok (.iload_n 1, 1) := by decide +kernel
theorem dX11_readPair_12 : decode cX11_readPair 12 = .ok (.aload_n 0, 1) := by decide +kernel
theorem dX11_readPair_13 : decode cX11_readPair 13 = .ok (.bipush 112, 2) := by decide +kernel
theorem dX11_readPair_15 : decode cX11_readPair 15 = .ok (.bipush 115, 2) := by decide +kernel
theorem dX11_readPair_17 : decode cX11_readPair 17 = .ok (.bipush 116, 2) := by decide +kernel
theorem dX11_readPair_19 : decode cX11_readPair 19 = .ok (.bipush 102, 2) := by decide +kernel
theorem dX11_readPair_21 : decode cX11_readPair 21 = .ok (.invokevirtual 174, 3) := by decide +kernel
theorem dX11_readPair_24 : decode cX11_readPair 24 = .ok (.iastore, 1) := by decide +kernel
theorem dX11_readPair_25 : decode cX11_readPair 25 = .ok (.aload_n 0, 1) := by decide +kernel
theorem dX11_readPair_26 : decode cX11_readPair 26 = .ok (.getfield 29, 3) := by decide +kernel
theorem dX11_readPair_29 : decode cX11_readPair 29 = .ok (.iload_n 1, 1) := by decide +kernel
theorem dX11_readPair_30 : decode cX11_readPair 30 = .ok (.iconst 1, 1) := by decide +kernel
theorem dX11_readPair_31 : decode cX11_readPair 31 = .ok (.iadd, 1) := by decide +kernel
theorem dX11_readPair_32 : decode cX11_readPair 32 = .ok (.aload_n 0, 1) := by decide +kernel
theorem dX11_readPair_33 : decode cX11_readPair 33 = .ok (.iconst 1, 1) := by decide +kernel
theorem dX11_readPair_34 : decode cX11_readPair 34 = .ok (.bipush 30, 2) := by decide +kernel
theorem dX11_readPair_36 : decode cX11_readPair 36 = .ok (.invokevirtual 178, 3) := by decide +kernel
theorem dX11_readPair_39 : decode cX11_readPair 39 = .ok (.iastore, 1) := by decide +kernel
theorem dX11_readPair_40 : decode cX11_readPair 40 = .ok (.aload_n 0, 1) := by decide +kernel
theorem dX11_readPair_41 : decode cX11_readPair 41 = .ok (.bipush 47, 2) := by decide +kernel
theorem dX11_readPair_43 : decode cX11_readPair 43 = .ok (.invokevirtual 181, 3) := by decide +kernel
theorem dX11_readPair_46 : decode cX11_readPair 46 = .ok (.aload_n 0, 1) := by decide +kernel
theorem dX11_readPair_47 : decode cX11_readPair 47 = .ok (.getfield 29, 3) := by decide +kernel
theorem dX11_readPair_50 : decode cX11_readPair 50 = .ok (.iload_n 1, 1) := by decide +kernel
theorem dX11_readPair_51 : decode cX11_readPair 51 = .ok (.iconst 2, 1) := by decide +kernel
theorem dX11_readPair_52 : decode cX11_readPair 52 = .ok (.iadd, 1) := by decide +kernel
theorem dX11_readPair_53 : decode cX11_readPair 53 = .ok (.aload_n 0, 1) := by decide +kernel
theorem dX11_readPair_54 : decode cX11_readPair 54 = .ok (.iconst 2, 1) := by decide +kernel
theorem dX11_readPair_55 : decode cX11_readPair 55 = .ok (.bipush 24, 2) := by decide +kernel
theorem dX11_readPair_57 : decode cX11_readPair 57 = .ok (.invokevirtual 178, 3) := by decide +kernel
theorem dX11_readPair_60 : decode cX11_readPair 60 = .ok (.iastore, 1) := by decide +kernel
theorem dX11_readPair_61 : decode cX11_readPair 61 = .ok (.aload_n 0, 1) := by decide +kernel
theorem dX11_readPair_62 : decode cX11_readPair 62 = .ok (.bipush 47, 2) := by decide +kernel
theorem dX11_readPair_64 : decode cX11_readPair 64 = .ok (.invokevirtual 181, 3) := by decide +kernel
theorem dX11_readPair_67 : decode cX11_readPair 67 = .ok (.aload_n 0, 1) := by decide +kernel
theorem dX11_readPair_68 : decode cX11_readPair 68 = .ok (.getfield 29, 3) := by decide +kernel
theorem dX11_readPair_71 : decode cX11_readPair 71 = .ok (.iload_n 1, 1) := by decide +kernel
theorem dX11_readPair_72 : decode cX11_readPair 72 = .ok (.iconst 3, 1) := by decide +kernel
theorem dX11_readPair_73 : decode cX11_readPair 73 = .ok (.iadd, 1) := by decide +kernel
theorem dX11_readPair_74 : decode cX11_readPair 74 = .ok (.aload_n 0, 1) := by decide +kernel
theorem dX11_readPair_75 : decode cX11_readPair 75 = .ok (.iconst 1, 1) := by decide +kernel
theorem dX11_readPair_76 : decode cX11_readPair 76 = .ok (.aload_n 0, 1) := by decide +kernel
theorem dX11_readPair_77 : decode cX11_readPair 77 = .ok (.getfield 29, 3) := by decide +kernel
theorem dX11_readPair_80 : decode cX11_readPair 80 = .ok (.iload_n 1, 1) := by decide +kernel
theorem dX11_readPair_81 : decode cX11_readPair 81 = .ok (.iconst 2, 1) := by decide +kernel
theorem dX11_readPair_82 : decode cX11_readPair 82 = .ok (.iadd, 1) := by decide +kernel
theorem dX11_readPair_83 : decode cX11_readPair 83 = .ok (.iaload, 1) := by decide +kernel
theorem dX11_readPair_84 : decode cX11_readPair 84 = .ok (.invokevirtual 178, 3) := by decide +kernel
theorem dX11_readPair_87 : decode cX11_readPair 87 = .ok (.iastore, 1) := by decide +kernel
theorem dX11_readPair_88 : decode cX11_readPair 88 = .ok (.aload_n 0, 1) := by decide +kernel
theorem dX11_readPair_89 : decode cX11_readPair 89 = .ok (.getfield 29, 3) := by decide +kernel
theorem dX11_readPair_92 : decode cX11_readPair 92 = .ok (.iload_n 1, 1) := by decide +kernel
theorem dX11_readPair_93 : decode cX11_readPair 93 = .ok (.iconst 4, 1) := by decide +kernel
theorem dX11_readPair_94 : decode cX11_readPair 94 = .ok (.iadd, 1) := by decide +kernel
theorem dX11_readPair_95 : decode cX11_readPair 95 = .ok (.aload_n 0, 1) := by decide +kernel
theorem dX11_readPair_96 : decode cX11_readPair 96 = .ok (.bipush 43, 2) := by decide +kernel
theorem dX11_readPair_98 : decode cX11_readPair 98 = .ok (.invokevirtual 164, 3) := by decide +kernel
theorem dX11_readPair_101 : decode cX11_readPair 101 = .ok (.ifCond .eq 21, 3) := by decide +kernel
theorem dX11_readPair_104 : decode cX11_readPair 104 = .ok (.aload_n 0, 1) := by decide +kernel
theorem dX11_readPair_105 : decode cX11_readPair 105 = .ok (.iconst 0, 1) := by decide +kernel
theorem dX11_readPair_106 : decode cX11_readPair 106 = .ok (.aload_n 0, 1) := by decide +kernel
theorem dX11_readPair_107 : decode cX11_readPair 107 = .ok (.getfield 29, 3) := by decide +kernel
theorem dX11_readPair_110 : decode cX11_readPair 110 = .ok (.iload_n 1, 1) := by decide +kernel
theorem dX11_readPair_111 : decode cX11_readPair 111 = .ok (.iconst 2, 1) := by decide +kernel
theorem dX11_readPair_112 : decode cX11_readPair 112 = .ok (.iadd, 1) := by decide +kernel
theorem dX11_readPair_113 : decode cX11_readPair 113 = .ok (.iaload, 1) := by decide +kernel
theorem dX11_readPair_114 : decode cX11_readPair 114 = .ok (.iconst 1, 1) := by decide +kernel
theorem dX11_readPair_115 : decode cX11_readPair 115 = .ok (.isub, 1) := by decide +kernel
theorem dX11_readPair_116 : decode cX11_readPair 116 = .ok (.invokevirtual 178, 3) := by decide +kernel
theorem dX11_readPair_119 : decode cX11_readPair 119 = .ok (.goto 4, 3) := by decide +kernel
theorem dX11_readPair_122 : decode cX11_readPair 122 = .ok (.iconst 0, 1) := by decide +kernel
theorem dX11_readPair_123 : decode cX11_readPair 123 = .ok (.iastore, 1) := by decide +kernel
theorem dX11_readPair_124 : decode cX11_readPair 124 = .ok (.aload_n 0, 1) := by decide +kernel
theorem dX11_readPair_125 : decode cX11_readPair 125 = .ok (.dup, 1) := by decide +kernel
theorem dX11_readPair_126 : decode cX11_readPair 126 = .ok (.getfield 171, 3) := by decide +kernel
theorem dX11_readPair_129 : decode cX11_readPair 129 = .ok (.iconst 1, 1) := by decide +kernel
theorem dX11_readPair_130 : decode cX11_readPair 130 = .ok (.iadd, 1) := by decide +kernel
theorem dX11_readPair_131 : decode cX11_readPair 131 = .ok (.putfield 171, 3) := by decide +kernel
theorem dX11_readPair_134 : decode cX11_readPair 134 = .ok (.return_, 1) := by decide +kernel
theorem dX11_readShip_0 : decode cX11_readShip 0 = .ok (.iconst 3, 1) := by decide +kernel
theorem dX11_readShip_1 : decode cX11_readShip 1 = .ok (.aload_n 0, 1) := by decide +kernel
theorem dX11_readShip_2 : decode cX11_readShip 2 = .ok (.getfield 185, 3) := by decide +kernel
theorem dX11_readShip_5 : decode cX11_readShip 5 = .ok (.imul, 1) := by decide +kernel
theorem dX11_readShip_6 : decode cX11_readShip 6 = .ok (.istore_n 1, 1) := by decide +kernel
theorem dX11_readShip_7 : decode cX11_readShip 7 = .ok (.aload_n 0, 1) := by decide +kernel
theorem dX11_readShip_8 : decode cX11_readShip 8 = .ok (.getfield 32, 3) := by decide +kernel
theorem dX11_readShip_11 : decode cX11_readShip 11 = .ok (.iload_n 1, 1) := by decide +kernel
theorem dX11_readShip_12 : decode cX11_readShip 12 = .ok (.aload_n 0, 1) := by decide +kernel
theorem dX11_readShip_13 : decode cX11_readShip 13 = .ok (.bipush 80, 2) := by decide +kernel
theorem dX11_readShip_15 : decode cX11_readShip 15 = .ok (.bipush 84, 2) := by decide +kernel
theorem dX11_readShip_17 : decode cX11_readShip 17 = .ok (.bipush 66, 2) := by decide +kernel
theorem dX11_readShip_19 : decode cX11_readShip 19 = .ok (.bipush 76, 2) := by decide +kernel
theorem dX11_readShip_21 : decode cX11_readShip 21 = .ok (.invokevirtual 174, 3) := by decide +kernel
theorem dX11_readShip_24 : decode cX11_readShip 24 = .ok (.iastore, 1) := by decide +kernel
theorem dX11_readShip_25 : decode cX11_readShip 25 = .ok (.aload_n 0, 1) := by decide +kernel
theorem dX11_readShip_26 : decode cX11_readShip 26 = .ok (.getfield 32, 3) := by decide +kernel
theorem dX11_readShip_29 : decode cX11_readShip 29 = .ok (.iload_n 1, 1) := by decide +kernel
theorem dX11_readShip_30 : decode cX11_readShip 30 = .ok (.iconst 1, 1) := by decide +kernel
theorem dX11_readShip_31 : decode cX11_readShip 31 = .ok (.iadd, 1) := by decide +kernel
theorem dX11_readShip_32 : decode cX11_readShip 32 = .ok (.aload_n 0, 1) := by decide +kernel
theorem dX11_readShip_33 : decode cX11_readShip 33 = .ok (.bipush 9, 2) := by decide +kernel
theorem dX11_readShip_35 : decode cX11_readShip 35 = .ok (.invokevirtual 188, 3) := by decide +kernel
theorem dX11_readShip_38 : decode cX11_readShip 38 = .ok (.iastore, 1) := by decide +kernel
theorem dX11_readShip_39 : decode cX11_readShip 39 = .ok (.aload_n 0, 1) := by decide +kernel
theorem dX11_readShip_40 : decode cX11_readShip 40 = .ok (.getfield 32, 3) := by decide +kernel
theorem dX11_readShip_43 : decode cX11_readShip 43 = .ok (.iload_n 1, 1) := by decide +kernel
theorem dX11_readShip_44 : decode cX11_readShip 44 = .ok (.iconst 2, 1) := by decide +kernel
theorem dX11_readShip_45 : decode cX11_readShip 45 = .ok (.iadd, 1) := by decide +kernel
theorem dX11_readShip_46 : decode cX11_readShip 46 = .ok (.aload_n 0, 1) := by decide +kernel
theorem dX11_readShip_47 : decode cX11_readShip 47 = .ok (.iconst 5, 1) := by decide +kernel
theorem dX11_readShip_48 : decode cX11_readShip 48 = .ok (.invokevirtual 188, 3) := by decide +kernel
theorem dX11_readShip_51 : decode cX11_readShip 51 = .ok (.iastore, 1) := by decide +kernel
theorem dX11_readShip_52 : decode cX11_readShip 52 = .ok (.aload_n 0, 1) := by decide +kernel
theorem dX11_readShip_53 : decode cX11_readShip 53 = .ok (.dup, 1) := by decide +kernel
theorem dX11_readShip_54 : decode cX11_readShip 54 = .ok (.getfield 185, 3) := by decide +kernel
theorem dX11_readShip_57 : decode cX11_readShip 57 = .ok (.iconst 1, 1) := by decide +kernel
theorem dX11_readShip_58 : decode cX11_readShip 58 = .ok (.iadd, 1) := by decide +kernel
theorem dX11_readShip_59 : decode cX11_readShip 59 = .ok (.putfield 185, 3) := by decide +kernel
theorem dX11_readShip_62 : decode cX11_readShip 62 = .ok (.return_, 1) := by decide +kernel
theorem dX11_strait_0 : decode cX11_strait 0 = .ok (.aload_n 0, 1) := by decide +kernel
theorem dX11_strait_1 : decode cX11_strait 1 = .ok (.iconst 0, 1) := by decide +kernel
theorem dX11_strait_2 : decode cX11_strait 2 = .ok (.putfield 153, 3) := by decide +kernel
theorem dX11_strait_5 : decode cX11_strait 5 = .ok (.aload_n 0, 1) := by decide +kernel
theorem dX11_strait_6 : decode cX11_strait 6 = .ok (.iconst 0, 1) := by decide +kernel
theorem dX11_strait_7 : decode cX11_strait 7 = .ok (.putfield 156, 3) := by decide +kernel
theorem dX11_strait_10 : decode cX11_strait 10 = .ok (.aload_n 0, 1) := by decide +kernel
theorem dX11_strait_11 : decode cX11_strait 11 = .ok (.iconst 0, 1) := by decide +kernel
theorem dX11_strait_12 : decode cX11_strait 12 = .ok (.putfield 171, 3) := by decide +kernel
theorem dX11_strait_15 : decode cX11_strait 15 = .ok (.aload_n 0, 1) := by decide +kernel
theorem dX11_strait_16 : decode cX11_strait 16 = .ok (.iconst 0, 1) := by decide +kernel
theorem dX11_strait_17 : decode cX11_strait 17 = .ok (.putfield 185, 3) := by decide +kernel
theorem dX11_strait_20 : decode cX11_strait 20 = .ok (.iconst 1, 1) := by decide +kernel
theorem dX11_strait_21 : decode cX11_strait 21 = .ok (.istore_n 1, 1) := by decide +kernel
theorem dX11_strait_22 : decode cX11_strait 22 = .ok (.iload_n 1, 1) := by decide +kernel
theorem dX11_strait_23 : decode cX11_strait 23 = .ok (.ifCond .eq 34, 3) := by decide +kernel
theorem dX11_strait_26 : decode cX11_strait 26 = .ok (.aload_n 0, 1) := by decide +kernel
theorem dX11_strait_27 : decode cX11_strait 27 = .ok (.invokevirtual 191, 3) := by decide +kernel
theorem dX11_strait_30 : decode cX11_strait 30 = .ok (.aload_n 0, 1) := by decide +kernel
theorem dX11_strait_31 : decode cX11_strait 31 = .ok (.getfield 171, 3) := by decide +kernel
theorem dX11_strait_34 : decode cX11_strait 34 = .ok (.bipush 6, 2) := by decide +kernel
theorem dX11_strait_36 : decode cX11_strait 36 = .ok (.if_icmp .ge 16, 3) := by decide +kernel
theorem dX11_strait_39 : decode cX11_strait 39 = .ok (.aload_n 0, 1) := by decide +kernel
theorem dX11_strait_40 : decode cX11_strait 40 = .ok (.bipush 44, 2) := by decide +kernel
theorem dX11_strait_42 : decode cX11_strait 42 = .ok (.invokevirtual 164, 3) := by decide +kernel
theorem dX11_strait_45 : decode cX11_strait 45 = .ok (.ifCond .eq 7, 3) := by decide +kernel
theorem dX11_strait_48 : decode cX11_strait 48 = .ok (.iconst 1, 1) := by decide +kernel
theorem dX11_strait_49 : decode cX11_strait 49 = .ok (.goto 4, 3) := by decide +kernel
theorem dX11_strait_52 : decode cX11_strait 52 = .ok (.iconst 0, 1) := by decide +kernel
theorem dX11_strait_53 : decode cX11_strait 53 = .ok (.istore_n 1, 1) := by decide +kernel
theorem dX11_strait_54 : decode cX11_strait 54 = .ok (.goto (-32), 3) := by decide +kernel
theorem dX11_strait_57 : decode cX11_strait 57 = .ok (.aload_n 0, 1) := by decide +kernel
theorem dX11_strait_58 : decode cX11_strait 58 = .ok (.bipush 59, 2) := by decide +kernel
theorem dX11_strait_60 : decode cX11_strait 60 = .ok (.invokevirtual 164, 3) := by decide +kernel
theorem dX11_strait_63 : decode cX11_strait 63 = .ok (.istore_n 1, 1) := by decide +kernel
theorem dX11_strait_64 : decode cX11_strait 64 = .ok (.iload_n 1, 1) := by decide +kernel
theorem dX11_strait_65 : decode cX11_strait 65 = .ok (.ifCond .eq 33, 3) := by decide +kernel
theorem dX11_strait_68 : decode cX11_strait 68 = .ok (.aload_n 0, 1) := by decide +kernel
theorem dX11_strait_69 : decode cX11_strait 69 = .ok (.invokevirtual 194, 3) := by decide +kernel
theorem dX11_strait_72 : decode cX11_strait 72 = .ok (.aload_n 0, 1) := by decide +kernel
theorem dX11_strait_73 : decode cX11_strait 73 = .ok (.getfield 185, 3) := by decide +kernel
theorem dX11_strait_76 : decode cX11_strait 76 = .ok (.iconst 5, 1) := by decide +kernel
theorem dX11_strait_77 : decode cX11_strait 77 = .ok (.if_icmp .ge 16, 3) := by decide +kernel
theorem dX11_strait_80 : decode cX11_strait 80 = .ok (.aload_n 0, 1) := by decide +kernel
theorem dX11_strait_81 : decode cX11_strait 81 = .ok (.bipush 44, 2) := by decide +kernel
theorem dX11_strait_83 : decode cX11_strait 83 = .ok (.invokevirtual 164, 3) := by decide +kernel
theorem dX11_strait_86 : decode cX11_strait 86 = .ok (.ifCond .eq 7, 3) := by decide +kernel
theorem dX11_strait_89 : decode cX11_strait 89 = .ok (.iconst 1, 1) := by decide +kernel
theorem dX11_strait_90 : decode cX11_strait 90 = .ok (.goto 4, 3) := by decide +kernel
theorem dX11_strait_93 : decode cX11_strait 93 = .ok (.iconst 0, 1) := by decide +kernel
theorem dX11_strait_94 : decode cX11_strait 94 = .ok (.istore_n 1, 1) := by decide +kernel
theorem dX11_strait_95 : decode cX11_strait 95 = .ok (.goto (-31), 3) := by decide +kernel
theorem dX11_strait_98 : decode cX11_strait 98 = .ok (.aload_n 0, 1) := by decide +kernel
theorem dX11_strait_99 : decode cX11_strait 99 = .ok (.aload_n 0, 1) := by decide +kernel
theorem dX11_strait_100 : decode cX11_strait 100 = .ok (.getfield 156, 3) := by decide +kernel
theorem dX11_strait_103 : decode cX11_strait 103 = .ok (.ifCond .ne 10, 3) := by decide +kernel
theorem dX11_strait_106 : decode cX11_strait 106 = .ok (.aload_n 0, 1) := by decide +kernel
theorem dX11_strait_107 : decode cX11_strait 107 = .ok (.invokevirtual 160, 3) := by decide +kernel
theorem dX11_strait_110 : decode cX11_strait 110 = .ok (.ifCond .eq 7, 3) := by decide +kernel
theorem dX11_strait_113 : decode cX11_strait 113 = .ok (.iconst 1, 1) := by decide +kernel
theorem dX11_strait_114 : decode cX11_strait 114 = .ok (.goto 4, 3) := by decide +kernel
theorem dX11_strait_117 : decode cX11_strait 117 = .ok (.iconst 0, 1) := by decide +kernel
theorem dX11_strait_118 : decode cX11_strait 118 = .ok (.putfield 156, 3) := by decide +kernel
theorem dX11_strait_121 : decode cX11_strait 121 = .ok (.aload_n 0, 1) := by decide +kernel
theorem dX11_strait_122 : decode cX11_strait 122 = .ok (.iconst 0, 1) := by decide +kernel
theorem dX11_strait_123 : decode cX11_strait 123 = .ok (.putfield 150, 3) := by decide +kernel
theorem dX11_strait_126 : decode cX11_strait 126 = .ok (.aload_n 0, 1) := by decide +kernel
theorem dX11_strait_127 : decode cX11_strait 127 = .ok (.getfield 156, 3) := by decide +kernel
theorem dX11_strait_130 : decode cX11_strait 130 = .ok (.ifCond .eq 11, 3) := by decide +kernel
theorem dX11_strait_133 : decode cX11_strait 133 = .ok (.bipush (-20), 2) := by decide +kernel
theorem dX11_strait_135 : decode cX11_strait 135 = .ok (.aload_n 0, 1) := by decide +kernel
theorem dX11_strait_136 : decode cX11_strait 136 = .ok (.getfield 153, 3) := by decide +kernel
theorem dX11_strait_139 : decode cX11_strait 139 = .ok (.isub, 1) := by decide +kernel
theorem dX11_strait_140 : decode cX11_strait 140 = .ok (.ireturn, 1) := by decide +kernel
theorem dX11_strait_141 : decode cX11_strait 141 = .ok (.aload_n 0, 1) := by decide +kernel
theorem dX11_strait_142 : decode cX11_strait 142 = .ok (.iconst 0, 1) := by decide +kernel
theorem dX11_strait_143 : decode cX11_strait 143 = .ok (.putfield 63, 3) := by decide +kernel
theorem dX11_strait_146 : decode cX11_strait 146 = .ok (.aload_n 0, 1) := by decide +kernel
theorem dX11_strait_147 : decode cX11_strait 147 = .ok (.iconst 0, 1) := by decide +kernel
theorem dX11_strait_148 : decode cX11_strait 148 = .ok (.putfield 70, 3) := by decide +kernel
theorem dX11_strait_151 : decode cX11_strait 151 = .ok (.iconst 0, 1) := by decide +kernel
theorem dX11_strait_152 : decode cX11_strait 152 = .ok (.istore_n 2, 1) := by decide +kernel
theorem dX11_strait_153 : decode cX11_strait 153 = .ok (.iload_n 2, 1) := by decide +kernel
theorem dX11_strait_154 : decode cX11_strait 154 = .ok (.aload_n 0, 1) := by decide +kernel
theorem dX11_strait_155 : decode cX11_strait 155 = .ok (.getfield 171, 3) := by decide +kernel
theorem dX11_strait_158 : decode cX11_strait 158 = .ok (.if_icmp .ge 61, 3) := by decide +kernel
theorem dX11_strait_161 : decode cX11_strait 161 = .ok (.aload_n 0, 1) := by decide +kernel
theorem dX11_strait_162 : decode cX11_strait 162 = .ok (.aload_n 0, 1) := by decide +kernel
theorem dX11_strait_163 : decode cX11_strait 163 = .ok (.getfield 29, 3) := by decide +kernel
theorem dX11_strait_166 : decode cX11_strait 166 = .ok (.iconst 5, 1) := by decide +kernel
theorem dX11_strait_167 : decode cX11_strait 167 = .ok (.iload_n 2, 1) := by decide +kernel
theorem dX11_strait_168 : decode cX11_strait 168 = .ok (.imul, 1) := by decide +kernel
theorem dX11_strait_169 : decode cX11_strait 169 = .ok (.iaload, 1) := by decide +kernel
theorem dX11_strait_170 : decode cX11_strait 170 = .ok (.aload_n 0, 1) := by decide +kernel
theorem dX11_strait_171 : decode cX11_strait 171 = .ok (.getfield 29, 3) := by decide +kernel
theorem dX11_strait_174 : decode cX11_strait 174 = .ok (.iconst 5, 1) := by decide +kernel
theorem dX11_strait_175 : decode cX11_strait 175 = .ok (.iload_n 2, 1) := by decide +kernel
theorem dX11_strait_176 : decode cX11_strait 176 = .ok (.imul, 1) := by decide +kernel
theorem dX11_strait_177 : decode cX11_strait 177 = .ok (.iconst 1, 1) := by decide +kernel
theorem dX11_strait_178 : decode cX11_strait 178 = .ok (.iadd, 1) := by decide +kernel
theorem dX11_strait_179 : decode cX11_strait 179 = .ok (.iaload, 1) := by decide +kernel
theorem dX11_strait_180 : decode cX11_strait 180 = .ok (.aload_n 0, 1) := by decide +kernel
theorem dX11_strait_181 : decode cX11_strait 181 = .ok (.getfield 29, 3) := by decide +kernel
theorem dX11_strait_184 : decode cX11_strait 184 = .ok (.iconst 5, 1) := by decide +kernel
theorem dX11_strait_185 : decode cX11_strait 185 = .ok (.iload_n 2, 1) := by decide +kernel
theorem dX11_strait_186 : decode cX11_strait 186 = .ok (.imul, 1) := by decide +kernel
theorem dX11_strait_187 : decode cX11_strait 187 = .ok (.iconst 2, 1) := by decide +kernel
theorem dX11_strait_188 : decode cX11_strait 188 = .ok (.iadd, 1) := by decide +kernel
theorem dX11_strait_189 : decode cX11_strait 189 = .ok (.iaload, 1) := by decide +kernel
theorem dX11_strait_190 : decode cX11_strait 190 = .ok (.aload_n 0, 1) := by decide +kernel
theorem dX11_strait_191 : decode cX11_strait 191 = .ok (.getfield 29, 3) := by decide +kernel
theorem dX11_strait_194 : decode cX11_strait 194 = .ok (.iconst 5, 1) := by decide +kernel
theorem dX11_strait_195 : decode cX11_strait 195 = .ok (.iload_n 2, 1) := by decide +kernel
theorem dX11_strait_196 : decode cX11_strait 196 = .ok (.imul, 1) := by decide +kernel
theorem dX11_strait_197 : decode cX11_strait 197 = .ok (.iconst 3, 1) := by decide +kernel
theorem dX11_strait_198 : decode cX11_strait 198 = .ok (.iadd, 1) := by decide +kernel
theorem dX11_strait_199 : decode cX11_strait 199 = .ok (.iaload, 1) := by decide +kernel
theorem dX11_strait_200 : decode cX11_strait 200 = .ok (.aload_n 0, 1) := by decide +kernel
theorem dX11_strait_201 : decode cX11_strait 201 = .ok (.getfield 29, 3) := by decide +kernel
theorem dX11_strait_204 : decode cX11_strait 204 = .ok (.iconst 5, 1) := by decide +kernel
theorem dX11_strait_205 : decode cX11_strait 205 = .ok (.iload_n 2, 1) := by decide +kernel
theorem dX11_strait_206 : decode cX11_strait 206 = .ok (.imul, 1) := by decide +kernel
theorem dX11_strait_207 : decode cX11_strait 207 = .ok (.iconst 4, 1) := by decide +kernel
theorem dX11_strait_208 : decode cX11_strait 208 = .ok (.iadd, 1) := by decide +kernel
theorem dX11_strait_209 : decode cX11_strait 209 = .ok (.iaload, 1) := by decide +kernel
theorem dX11_strait_210 : decode cX11_strait 210 = .ok (.invokevirtual 83, 3) := by decide +kernel
theorem dX11_strait_213 : decode cX11_strait 213 = .ok (.iinc 2 1, 3) := by decide +kernel
theorem dX11_strait_216 : decode cX11_strait 216 = .ok (.goto (-63), 3) := by decide +kernel
theorem dX11_strait_219 : decode cX11_strait 219 = .ok (.iconst 0, 1) := by decide +kernel
theorem dX11_strait_220 : decode cX11_strait 220 = .ok (.istore_n 2, 1) := by decide +kernel
theorem dX11_strait_221 : decode cX11_strait 221 = .ok (.iload_n 2, 1) := by decide +kernel
theorem dX11_strait_222 : decode cX11_strait 222 = .ok (.aload_n 0, 1) := by decide +kernel
theorem dX11_strait_223 : decode cX11_strait 223 = .ok (.getfield 185, 3) := by decide +kernel
theorem dX11_strait_226 : decode cX11_strait 226 = .ok (.if_icmp .ge 41, 3) := by decide +kernel
theorem dX11_strait_229 : decode cX11_strait 229 = .ok (.aload_n 0, 1) := by decide +kernel
theorem dX11_strait_230 : decode cX11_strait 230 = .ok (.aload_n 0, 1) := by decide +kernel
theorem dX11_strait_231 : decode cX11_strait 231 = .ok (.getfield 32, 3) := by decide +kernel
theorem dX11_strait_234 : decode cX11_strait 234 = .ok (.iconst 3, 1) := by decide +kernel
theorem dX11_strait_235 : decode cX11_strait 235 = .ok (.iload_n 2, 1) := by decide +kernel
theorem dX11_strait_236 : decode cX11_strait 236 = .ok (.imul, 1) := by decide +kernel
theorem dX11_strait_237 : decode cX11_strait 237 = .ok (.iaload, 1) := by decide +kernel
theorem dX11_strait_238 : decode cX11_strait 238 = .ok (.aload_n 0, 1) := by decide +kernel
theorem dX11_strait_239 : decode cX11_strait 239 = .ok (.getfield 32, 3) := by decide +kernel
theorem dX11_strait_242 : decode cX11_strait 242 = .ok (.iconst 3, 1) := by decide +kernel
theorem dX11_strait_243 : decode cX11_strait 243 = .ok (.iload_n 2, 1) := by decide +kernel
theorem dX11_strait_244 : decode cX11_strait 244 = .ok (.imul, 1) := by decide +kernel
theorem dX11_strait_245 : decode cX11_strait 245 = .ok (.iconst 1, 1) := by decide +kernel
theorem dX11_strait_246 : decode cX11_strait 246 = .ok (.iadd, 1) := by decide +kernel
theorem dX11_strait_247 : decode cX11_strait 247 = .ok (.iaload, 1) := by decide +kernel
theorem dX11_strait_248 : decode cX11_strait 248 = .ok (.aload_n 0, 1) := by decide +kernel
theorem dX11_strait_249 : decode cX11_strait 249 = .ok (.getfield 32, 3) := by decide +kernel
theorem dX11_strait_252 : decode cX11_strait 252 = .ok (.iconst 3, 1) := by decide +kernel
theorem dX11_strait_253 : decode cX11_strait 253 = .ok (.iload_n 2, 1) := by decide +kernel
theorem dX11_strait_254 : decode cX11_strait 254 = .ok (.imul, 1) := by decide +kernel
theorem dX11_strait_255 : decode cX11_strait 255 = .ok (.iconst 2, 1) := by decide +kernel
theorem dX11_strait_256 : decode cX11_strait 256 = .ok (.iadd, 1) := by decide +kernel
theorem dX11_strait_257 : decode cX11_strait 257 = .ok (.iaload, 1) := by decide +kernel
theorem dX11_strait_258 : decode cX11_strait 258 = .ok (.invokevirtual 95, 3) := by decide +kernel
theorem dX11_strait_261 : decode cX11_strait 261 = .ok (.iinc 2 1, 3) := by decide +kernel
theorem dX11_strait_264 : decode cX11_strait 264 = .ok (.goto (-43), 3) := by decide +kernel
theorem dX11_strait_267 : decode cX11_strait 267 = .ok (.aload_n 0, 1) := by decide +kernel
theorem dX11_strait_268 : decode cX11_strait 268 = .ok (.getfield 16, 3) := by decide +kernel
theorem dX11_strait_271 : decode cX11_strait 271 = .ok (.iconst 1, 1) := by decide +kernel
theorem dX11_strait_272 : decode cX11_strait 272 = .ok (.bipush (-4), 2) := by decide +kernel
theorem dX11_strait_274 : decode cX11_strait 274 = .ok (.iastore, 1) := by decide +kernel
theorem dX11_strait_275 : decode cX11_strait 275 = .ok (.aload_n 0, 1) := by decide +kernel
theorem dX11_strait_276 : decode cX11_strait 276 = .ok (.getfield 16, 3) := by decide +kernel
theorem dX11_strait_279 : decode cX11_strait 279 = .ok (.iconst 2, 1) := by decide +kernel
theorem dX11_strait_280 : decode cX11_strait 280 = .ok (.iconst 0, 1) := by decide +kernel
theorem dX11_strait_281 : decode cX11_strait 281 = .ok (.iastore, 1) := by decide +kernel
theorem dX11_strait_282 : decode cX11_strait 282 = .ok (.aload_n 0, 1) := by decide +kernel
theorem dX11_strait_283 : decode cX11_strait 283 = .ok (.getfield 16, 3) := by decide +kernel
theorem dX11_strait_286 : decode cX11_strait 286 = .ok (.iconst 3, 1) := by decide +kernel
theorem dX11_strait_287 : decode cX11_strait 287 = .ok (.iconst 0, 1) := by decide +kernel
theorem dX11_strait_288 : decode cX11_strait 288 = .ok (.iastore, 1) := by decide +kernel
theorem dX11_strait_289 : decode cX11_strait 289 = .ok (.aload_n 0, 1) := by decide +kernel
theorem dX11_strait_290 : decode cX11_strait 290 = .ok (.iconst 0, 1) := by decide +kernel
theorem dX11_strait_291 : decode cX11_strait 291 = .ok (.putfield 197, 3) := by decide +kernel
theorem dX11_strait_294 : decode cX11_strait 294 = .ok (.aload_n 0, 1) := by decide +kernel
theorem dX11_strait_295 : decode cX11_strait 295 = .ok (.getfield 63, 3) := by decide +kernel
theorem dX11_strait_298 : decode cX11_strait 298 = .ok (.ireturn, 1) := by decide +kernel
theorem dX11_count_0 : decode cX11_count 0 = .ok (.iload_n 1, 1) := by decide +kernel
theorem dX11_count_1 : decode cX11_count 1 = .ok (.tableswitch 76 0 7 #[47, 52, 57, 57, 57, 57, 66, 71], 47) := by decide +kernel
theorem dX11_count_48 : decode cX11_count 48 = .ok (.aload_n 0, 1) := by decide +kernel
theorem dX11_count_49 : decode cX11_count 49 = .ok (.getfield 63, 3) := by decide +kernel
theorem dX11_count_52 : decode cX11_count 52 = .ok (.ireturn, 1) := by decide +kernel
theorem dX11_count_53 : decode cX11_count 53 = .ok (.aload_n 0, 1) := by decide +kernel
theorem dX11_count_54 : decode cX11_count 54 = .ok (.getfield 70, 3) := by decide +kernel
theorem dX11_count_57 : decode cX11_count 57 = .ok (.ireturn, 1) := by decide +kernel
theorem dX11_count_58 : decode cX11_count 58 = .ok (.aload_n 0, 1) := by decide +kernel
theorem dX11_count_59 : decode cX11_count 59 = .ok (.getfield 16, 3) := by decide +kernel
theorem dX11_count_62 : decode cX11_count 62 = .ok (.iload_n 1, 1) := by decide +kernel
theorem dX11_count_63 : decode cX11_count 63 = .ok (.iconst 2, 1) := by decide +kernel
theorem dX11_count_64 : decode cX11_count 64 = .ok (.isub, 1) := by decide +kernel
theorem dX11_count_65 : decode cX11_count 65 = .ok (.iaload, 1) := by decide +kernel
theorem dX11_count_66 : decode cX11_count 66 = .ok (.ireturn, 1) := by decide +kernel
theorem dX11_count_67 : decode cX11_count 67 = .ok (.aload_n 0, 1) := by decide +kernel
theorem dX11_count_68 : decode cX11_count 68 = .ok (.getfield 197, 3) := by decide +kernel
theorem dX11_count_71 : decode cX11_count 71 = .ok (.ireturn, 1) := by decide +kernel
theorem dX11_count_72 : decode cX11_count 72 = .ok (.aload_n 0, 1) := by decide +kernel
theorem dX11_count_73 : decode cX11_count 73 = .ok (.getfield 200, 3) := by decide +kernel
theorem dX11_count_76 : decode cX11_count 76 = .ok (.ireturn, 1) := by decide +kernel
theorem dX11_count_77 : decode cX11_count 77 = .ok (.iconst (-1), 1) := by decide +kernel
theorem dX11_count_78 : decode cX11_count 78 = .ok (.ireturn, 1) := by decide +kernel
theorem dX11_notes_0 : decode cX11_notes 0 = .ok (.aload_n 0, 1) := by decide +kernel
theorem dX11_notes_1 : decode cX11_notes 1 = .ok (.getfield 197, 3) := by decide +kernel
theorem dX11_notes_4 : decode cX11_notes 4 = .ok (.bipush 8, 2) := by decide +kernel
theorem dX11_notes_6 : decode cX11_notes 6 = .ok (.if_icmp .ne 37, 3) := by decide +kernel
theorem dX11_notes_9 : decode cX11_notes 9 = .ok (.iconst 4, 1) := by decide +kernel
theorem dX11_notes_10 : decode cX11_notes 10 = .ok (.istore_n 1, 1) := by decide +kernel
theorem dX11_notes_11 : decode cX11_notes 11 = .ok (.iload_n 1, 1) := by decide +kernel
theorem dX11_notes_12 : decode cX11_notes 12 = .ok (.bipush 32, 2) := by decide +kernel
theorem dX11_notes_14 : decode cX11_notes 14 = .ok (.if_icmp .ge 23, 3) := by decide +kernel
theorem dX11_notes_17 : decode cX11_notes 17 = .ok (.aload_n 0, 1) := by decide +kernel
theorem dX11_notes_18 : decode cX11_notes 18 = .ok (.getfield 35, 3) := by decide +kernel
theorem dX11_notes_21 : decode cX11_notes 21 = .ok (.iload_n 1, 1) := by decide +kernel
theorem dX11_notes_22 : decode cX11_notes 22 = .ok (.iconst 4, 1) := by decide +kernel
theorem dX11_notes_23 : decode cX11_notes 23 = .ok (.isub, 1) := by decide +kernel
theorem dX11_notes_24 : decode cX11_notes 24 = .ok (.aload_n 0, 1) := by decide +kernel
theorem dX11_notes_25 : decode cX11_notes 25 = .ok (.getfield 35, 3) := by decide +kernel
theorem dX11_notes_28 : decode cX11_notes 28 = .ok (.iload_n 1, 1) := by decide +kernel
theorem dX11_notes_29 : decode cX11_notes 29 = .ok (.iaload, 1) := by decide +kernel
theorem dX11_notes_30 : decode cX11_notes 30 = .ok (.iastore, 1) := by decide +kernel
theorem dX11_notes_31 : decode cX11_notes 31 = .ok (.iinc 1 1, 3) := by decide +kernel
theorem dX11_notes_34 : decode cX11_notes 34 = .ok (.goto (-23), 3) := by decide +kernel
theorem dX11_notes_37 : decode cX11_notes 37 = .ok (.aload_n 0, 1) := by decide +kernel
theorem dX11_notes_38 : decode cX11_notes 38 = .ok (.bipush 7, 2) := by decide +kernel
theorem dX11_notes_40 : decode cX11_notes 40 = .ok (.putfield 197, 3) := by decide +kernel
theorem dX11_notes_43 : decode cX11_notes 43 = .ok (.iconst 0, 1) := by decide +kernel
theorem dX11_notes_44 : decode cX11_notes 44 = .ok (.istore_n 1, 1) := by decide +kernel
theorem dX11_notes_45 : decode cX11_notes 45 = .ok (.iload_n 1, 1) := by decide +kernel
theorem dX11_notes_46 : decode cX11_notes 46 = .ok (.iconst 4, 1) := by decide +kernel
theorem dX11_notes_47 : decode cX11_notes 47 = .ok (.if_icmp .ge 28, 3) := by decide +kernel
theorem dX11_notes_50 : decode cX11_notes 50 = .ok (.aload_n 0, 1) := by decide +kernel
theorem dX11_notes_51 : decode cX11_notes 51 = .ok (.getfield 35, 3) := by decide +kernel
theorem dX11_notes_54 : decode cX11_notes 54 = .ok (.iconst 4, 1) := by decide +kernel
theorem dX11_notes_55 : decode cX11_notes 55 = .ok (.aload_n 0, 1) := by decide +kernel
theorem dX11_notes_56 : decode cX11_notes 56 = .ok (.getfield 197, 3) := by decide +kernel
theorem dX11_notes_59 : decode cX11_notes 59 = .ok (.imul, 1) := by decide +kernel
theorem dX11_notes_60 : decode cX11_notes 60 = .ok (.iload_n 1, 1) := by decide +kernel
theorem dX11_notes_61 : decode cX11_notes 61 = .ok (.iadd, 1) := by decide +kernel
theorem dX11_notes_62 : decode cX11_notes 62 = .ok (.aload_n 0, 1) := by decide +kernel
theorem dX11_notes_63 : decode cX11_notes 63 = .ok (.getfield 16, 3) := by decide +kernel
theorem dX11_notes_66 : decode cX11_notes 66 = .ok (.iload_n 1, 1) := by decide +kernel
theorem dX11_notes_67 : decode cX11_notes 67 = .ok (.iaload, 1) := by decide +kernel
theorem dX11_notes_68 : decode cX11_notes 68 = .ok (.iastore, 1) := by decide +kernel
theorem dX11_notes_69 : decode cX11_notes 69 = .ok (.iinc 1 1, 3) := by decide +kernel
theorem dX11_notes_72 : decode cX11_notes 72 = .ok (.goto (-27), 3) := by decide +kernel
theorem dX11_notes_75 : decode cX11_notes 75 = .ok (.aload_n 0, 1) := by decide +kernel
theorem dX11_notes_76 : decode cX11_notes 76 = .ok (.dup, 1) := by decide +kernel
theorem dX11_notes_77 : decode cX11_notes 77 = .ok (.getfield 197, 3) := by decide +kernel
theorem dX11_notes_80 : decode cX11_notes 80 = .ok (.iconst 1, 1) := by decide +kernel
theorem dX11_notes_81 : decode cX11_notes 81 = .ok (.iadd, 1) := by decide +kernel
theorem dX11_notes_82 : decode cX11_notes 82 = .ok (.putfield 197, 3) := by decide +kernel
theorem dX11_notes_85 : decode cX11_notes 85 = .ok (.return_, 1) := by decide +kernel
theorem dX11_setOut_0 : decode cX11_setOut 0 = .ok (.aload_n 0, 1) := by decide +kernel
theorem dX11_setOut_1 : decode cX11_setOut 1 = .ok (.iload_n 1, 1) := by decide +kernel
theorem dX11_setOut_2 : decode cX11_setOut 2 = .ok (.invokevirtual 105, 3) := by decide +kernel
theorem dX11_setOut_5 : decode cX11_setOut 5 = .ok (.ifCond .ne 5, 3) := by decide +kernel
theorem dX11_setOut_8 : decode cX11_setOut 8 = .ok (.iconst (-1), 1) := by decide +kernel
theorem dX11_setOut_9 : decode cX11_setOut 9 = .ok (.ireturn, 1) := by decide +kernel
theorem dX11_setOut_10 : decode cX11_setOut 10 = .ok (.aload_n 0, 1) := by decide +kernel
theorem dX11_setOut_11 : decode cX11_setOut 11 = .ok (.getfield 16, 3) := by decide +kernel
theorem dX11_setOut_14 : decode cX11_setOut 14 = .ok (.iconst 1, 1) := by decide +kernel
theorem dX11_setOut_15 : decode cX11_setOut 15 = .ok (.iaload, 1) := by decide +kernel
theorem dX11_setOut_16 : decode cX11_setOut 16 = .ok (.bipush (-4), 2) := by decide +kernel
theorem dX11_setOut_18 : decode cX11_setOut 18 = .ok (.if_icmp .eq 19, 3) := by decide +kernel
theorem dX11_setOut_21 : decode cX11_setOut 21 = .ok (.aload_n 0, 1) := by decide +kernel
theorem dX11_setOut_22 : decode cX11_setOut 22 = .ok (.getfield 16, 3) := by decide +kernel
theorem dX11_setOut_25 : decode cX11_setOut 25 = .ok (.iconst 2, 1) := by decide +kernel
theorem dX11_setOut_26 : decode cX11_setOut 26 = .ok (.iaload, 1) := by decide +kernel
theorem dX11_setOut_27 : decode cX11_setOut 27 = .ok (.aload_n 0, 1) := by decide +kernel
theorem dX11_setOut_28 : decode cX11_setOut 28 = .ok (.getfield 63, 3) := by decide +kernel
theorem dX11_setOut_31 : decode cX11_setOut 31 = .ok (.if_icmp .ge 6, 3) := by decide +kernel
theorem dX11_setOut_34 : decode cX11_setOut 34 = .ok (.bipush (-2), 2) := by decide +kernel
theorem dX11_setOut_36 : decode cX11_setOut 36 = .ok (.ireturn, 1) := by decide +kernel
theorem dX11_setOut_37 : decode cX11_setOut 37 = .ok (.aload_n 0, 1) := by decide +kernel
theorem dX11_setOut_38 : decode cX11_setOut 38 = .ok (.invokevirtual 203, 3) := by decide +kernel
theorem dX11_setOut_41 : decode cX11_setOut 41 = .ok (.aload_n 0, 1) := by decide +kernel
theorem dX11_setOut_42 : decode cX11_setOut 42 = .ok (.getfield 16, 3) := by decide +kernel
theorem dX11_setOut_45 : decode cX11_setOut 45 = .ok (.iconst 1, 1) := by decide +kernel
theorem dX11_setOut_46 : decode cX11_setOut 46 = .ok (.iload_n 1, 1) := by decide +kernel
theorem dX11_setOut_47 : decode cX11_setOut 47 = .ok (.iastore, 1) := by decide +kernel
theorem dX11_setOut_48 : decode cX11_setOut 48 = .ok (.aload_n 0, 1) := by decide +kernel
theorem dX11_setOut_49 : decode cX11_setOut 49 = .ok (.getfield 16, 3) := by decide +kernel
theorem dX11_setOut_52 : decode cX11_setOut 52 = .ok (.iconst 2, 1) := by decide +kernel
theorem dX11_setOut_53 : decode cX11_setOut 53 = .ok (.iconst 0, 1) := by decide +kernel
theorem dX11_setOut_54 : decode cX11_setOut 54 = .ok (.iastore, 1) := by decide +kernel
theorem dX11_setOut_55 : decode cX11_setOut 55 = .ok (.aload_n 0, 1) := by decide +kernel
theorem dX11_setOut_56 : decode cX11_setOut 56 = .ok (.getfield 16, 3) := by decide +kernel
theorem dX11_setOut_59 : decode cX11_setOut 59 = .ok (.iconst 3, 1) := by decide +kernel
theorem dX11_setOut_60 : decode cX11_setOut 60 = .ok (.iconst 0, 1) := by decide +kernel
theorem dX11_setOut_61 : decode cX11_setOut 61 = .ok (.iastore, 1) := by decide +kernel
theorem dX11_setOut_62 : decode cX11_setOut 62 = .ok (.aload_n 0, 1) := by decide +kernel
theorem dX11_setOut_63 : decode cX11_setOut 63 = .ok (.getfield 63, 3) := by decide +kernel
theorem dX11_setOut_66 : decode cX11_setOut 66 = .ok (.ireturn, 1) := by decide +kernel
theorem dX11_idle_0 : decode cX11_idle 0 = .ok (.iload_n 1, 1) := by decide +kernel
theorem dX11_idle_1 : decode cX11_idle 1 = .ok (.i2l, 1) := by decide +kernel
theorem dX11_idle_2 : decode cX11_idle 2 = .ok (.lconst 1, 1) := by decide +kernel
theorem dX11_idle_3 : decode cX11_idle 3 = .ok (.ldc2_w 206, 3) := by decide +kernel
theorem dX11_idle_6 : decode cX11_idle 6 = .ok (.invokestatic 66, 3) := by decide +kernel
theorem dX11_idle_9 : decode cX11_idle 9 = .ok (.ifCond .ne 5, 3) := by decide +kernel
theorem dX11_idle_12 : decode cX11_idle 12 = .ok (.iconst (-1), 1) := by decide +kernel
theorem dX11_idle_13 : decode cX11_idle 13 = .ok (.ireturn, 1) := by decide +kernel
theorem dX11_idle_14 : decode cX11_idle 14 = .ok (.aload_n 0, 1) := by decide +kernel
theorem dX11_idle_15 : decode cX11_idle 15 = .ok (.getfield 16, 3) := by decide +kernel
theorem dX11_idle_18 : decode cX11_idle 18 = .ok (.iconst 0, 1) := by decide +kernel
theorem dX11_idle_19 : decode cX11_idle 19 = .ok (.iaload, 1) := by decide +kernel
theorem dX11_idle_20 : decode cX11_idle 20 = .ok (.iload_n 1, 1) := by decide +kernel
theorem dX11_idle_21 : decode cX11_idle 21 = .ok (.iadd, 1) := by decide +kernel
theorem dX11_idle_22 : decode cX11_idle 22 = .ok (.sipush 9999, 3) := by decide +kernel
theorem dX11_idle_25 : decode cX11_idle 25 = .ok (.if_icmp .le 6, 3) := by decide +kernel
theorem dX11_idle_28 : decode cX11_idle 28 = .ok (.bipush (-3), 2) := by decide +kernel
theorem dX11_idle_30 : decode cX11_idle 30 = .ok (.ireturn, 1) := by decide +kernel
theorem dX11_idle_31 : decode cX11_idle 31 = .ok (.aload_n 0, 1) := by decide +kernel
theorem dX11_idle_32 : decode cX11_idle 32 = .ok (.invokevirtual 203, 3) := by decide +kernel
theorem dX11_idle_35 : decode cX11_idle 35 = .ok (.aload_n 0, 1) := by decide +kernel
theorem dX11_idle_36 : decode cX11_idle 36 = .ok (.getfield 16, 3) := by decide +kernel
theorem dX11_idle_39 : decode cX11_idle 39 = .ok (.iconst 0, 1) := by decide +kernel
theorem dX11_idle_40 : decode cX11_idle 40 = .ok (.dup2, 1) := by decide +kernel
theorem dX11_idle_41 : decode cX11_idle 41 = .ok (.iaload, 1) := by decide +kernel
theorem dX11_idle_42 : decode cX11_idle 42 = .ok (.iload_n 1, 1) := by decide +kernel
theorem dX11_idle_43 : decode cX11_idle 43 = .ok (.iadd, 1) := by decide +kernel
theorem dX11_idle_44 : decode cX11_idle 44 = .ok (.iastore, 1) := by decide +kernel
theorem dX11_idle_45 : decode cX11_idle 45 = .ok (.aload_n 0, 1) := by decide +kernel
theorem dX11_idle_46 : decode cX11_idle 46 = .ok (.getfield 16, 3) := by decide +kernel
theorem dX11_idle_49 : decode cX11_idle 49 = .ok (.iconst 0, 1) := by decide +kernel
theorem dX11_idle_50 : decode cX11_idle 50 = .ok (.iaload, 1) := by decide +kernel
theorem dX11_idle_51 : decode cX11_idle 51 = .ok (.ireturn, 1) := by decide +kernel
theorem dX11_pass_0 : decode cX11_pass 0 = .ok (.aload_n 0, 1) := by decide +kernel
theorem dX11_pass_1 : decode cX11_pass 1 = .ok (.getfield 16, 3) := by decide +kernel
theorem dX11_pass_4 : decode cX11_pass 4 = .ok (.iconst 1, 1) := by decide +kernel
theorem dX11_pass_5 : decode cX11_pass 5 = .ok (.iaload, 1) := by decide +kernel
theorem dX11_pass_6 : decode cX11_pass 6 = .ok (.istore_n 2, 1) := by decide +kernel
theorem dX11_pass_7 : decode cX11_pass 7 = .ok (.aload_n 0, 1) := by decide +kernel
theorem dX11_pass_8 : decode cX11_pass 8 = .ok (.getfield 16, 3) := by decide +kernel
theorem dX11_pass_11 : decode cX11_pass 11 = .ok (.iconst 2, 1) := by decide +kernel
theorem dX11_pass_12 : decode cX11_pass 12 = .ok (.iaload, 1) := by decide +kernel
theorem dX11_pass_13 : decode cX11_pass 13 = .ok (.istore_n 3, 1) := by decide +kernel
theorem dX11_pass_14 : decode cX11_pass 14 = .ok (.iload_n 2, 1) := by decide +kernel
theorem dX11_pass_15 : decode cX11_pass 15 = .ok (.bipush (-4), 2) := by decide +kernel
theorem dX11_pass_17 : decode cX11_pass 17 = .ok (.if_icmp .eq 11, 3) := by decide +kernel
theorem dX11_pass_20 : decode cX11_pass 20 = .ok (.iload_n 3, 1) := by decide +kernel
theorem dX11_pass_21 : decode cX11_pass 21 = .ok (.aload_n 0, 1) := by decide +kernel
theorem dX11_pass_22 : decode cX11_pass 22 = .ok (.getfield 63, 3) := by decide +kernel
theorem dX11_pass_25 : decode cX11_pass 25 = .ok (.if_icmp .lt 6, 3) := by decide +kernel
theorem dX11_pass_28 : decode cX11_pass 28 = .ok (.bipush (-2), 2) := by decide +kernel
theorem dX11_pass_30 : decode cX11_pass 30 = .ok (.ireturn, 1) := by decide +kernel
theorem dX11_pass_31 : decode cX11_pass 31 = .ok (.iload_n 1, 1) := by decide +kernel
theorem dX11_pass_32 : decode cX11_pass 32 = .ok (.i2l, 1) := by decide +kernel
theorem dX11_pass_33 : decode cX11_pass 33 = .ok (.aload_n 0, 1) := by decide +kernel
theorem dX11_pass_34 : decode cX11_pass 34 = .ok (.iload_n 2, 1) := by decide +kernel
theorem dX11_pass_35 : decode cX11_pass 35 = .ok (.invokevirtual 108, 3) := by decide +kernel
theorem dX11_pass_38 : decode cX11_pass 38 = .ok (.i2l, 1) := by decide +kernel
theorem dX11_pass_39 : decode cX11_pass 39 = .ok (.aload_n 0, 1) := by decide +kernel
theorem dX11_pass_40 : decode cX11_pass 40 = .ok (.iload_n 2, 1) := by decide +kernel
theorem dX11_pass_41 : decode cX11_pass 41 = .ok (.invokevirtual 101, 3) := by decide +kernel
theorem dX11_pass_44 : decode cX11_pass 44 = .ok (.i2l, 1) := by decide +kernel
theorem dX11_pass_45 : decode cX11_pass 45 = .ok (.invokestatic 66, 3) := by decide +kernel
theorem dX11_pass_48 : decode cX11_pass 48 = .ok (.ifCond .ne 5, 3) := by decide +kernel
theorem dX11_pass_51 : decode cX11_pass 51 = .ok (.iconst (-1), 1) := by decide +kernel
theorem dX11_pass_52 : decode cX11_pass 52 = .ok (.ireturn, 1) := by decide +kernel
theorem dX11_pass_53 : decode cX11_pass 53 = .ok (.aload_n 0, 1) := by decide +kernel
theorem dX11_pass_54 : decode cX11_pass 54 = .ok (.iload_n 2, 1) := by decide +kernel
theorem dX11_pass_55 : decode cX11_pass 55 = .ok (.iload_n 3, 1) := by decide +kernel
theorem dX11_pass_56 : decode cX11_pass 56 = .ok (.aload_n 0, 1) := by decide +kernel
theorem dX11_pass_57 : decode cX11_pass 57 = .ok (.getfield 7, 3) := by decide +kernel
theorem dX11_pass_60 : decode cX11_pass 60 = .ok (.iconst 5, 1) := by decide +kernel
theorem dX11_pass_61 : decode cX11_pass 61 = .ok (.iload_n 3, 1) := by decide +kernel
theorem dX11_pass_62 : decode cX11_pass 62 = .ok (.imul, 1) := by decide +kernel
theorem dX11_pass_63 : decode cX11_pass 63 = .ok (.iconst 4, 1) := by decide +kernel
theorem dX11_pass_64 : decode cX11_pass 64 = .ok (.iadd, 1) := by decide +kernel
theorem dX11_pass_65 : decode cX11_pass 65 = .ok (.iaload, 1) := by decide +kernel
theorem dX11_pass_66 : decode cX11_pass 66 = .ok (.aload_n 0, 1) := by decide +kernel
theorem dX11_pass_67 : decode cX11_pass 67 = .ok (.getfield 16, 3) := by decide +kernel
theorem dX11_pass_70 : decode cX11_pass 70 = .ok (.iconst 0, 1) := by decide +kernel
theorem dX11_pass_71 : decode cX11_pass 71 = .ok (.iaload, 1) := by decide +kernel
theorem dX11_pass_72 : decode cX11_pass 72 = .ok (.iload_n 1, 1) := by decide +kernel
theorem dX11_pass_73 : decode cX11_pass 73 = .ok (.invokevirtual 139, 3) := by decide +kernel
theorem dX11_pass_76 : decode cX11_pass 76 = .ok (.aload_n 0, 1) := by decide +kernel
theorem dX11_pass_77 : decode cX11_pass 77 = .ok (.getfield 130, 3) := by decide +kernel
theorem dX11_pass_80 : decode cX11_pass 80 = .ok (.sipush 9999, 3) := by decide +kernel
theorem dX11_pass_83 : decode cX11_pass 83 = .ok (.if_icmp .le 6, 3) := by decide +kernel
theorem dX11_pass_86 : decode cX11_pass 86 = .ok (.bipush (-3), 2) := by decide +kernel
theorem dX11_pass_88 : decode cX11_pass 88 = .ok (.ireturn, 1) := by decide +kernel
theorem dX11_pass_89 : decode cX11_pass 89 = .ok (.aload_n 0, 1) := by decide +kernel
theorem dX11_pass_90 : decode cX11_pass 90 = .ok (.invokevirtual 203, 3) := by decide +kernel
theorem dX11_pass_93 : decode cX11_pass 93 = .ok (.aload_n 0, 1) := by decide +kernel
theorem dX11_pass_94 : decode cX11_pass 94 = .ok (.getfield 16, 3) := by decide +kernel
theorem dX11_pass_97 : decode cX11_pass 97 = .ok (.iconst 0, 1) := by decide +kernel
theorem dX11_pass_98 : decode cX11_pass 98 = .ok (.aload_n 0, 1) := by decide +kernel
theorem dX11_pass_99 : decode cX11_pass 99 = .ok (.getfield 130, 3) := by decide +kernel
theorem dX11_pass_102 : decode cX11_pass 102 = .ok (.iastore, 1) := by decide +kernel
theorem dX11_pass_103 : decode cX11_pass 103 = .ok (.aload_n 0, 1) := by decide +kernel
theorem dX11_pass_104 : decode cX11_pass 104 = .ok (.getfield 16, 3) := by decide +kernel
theorem dX11_pass_107 : decode cX11_pass 107 = .ok (.iconst 1, 1) := by decide +kernel
theorem dX11_pass_108 : decode cX11_pass 108 = .ok (.aload_n 0, 1) := by decide +kernel
theorem dX11_pass_109 : decode cX11_pass 109 = .ok (.getfield 127, 3) := by decide +kernel
theorem dX11_pass_112 : decode cX11_pass 112 = .ok (.iconst 2, 1) := by decide +kernel
theorem dX11_pass_113 : decode cX11_pass 113 = .ok (.if_icmp .ne 8, 3) := by decide +kernel
theorem dX11_pass_116 : decode cX11_pass 116 = .ok (.bipush (-4), 2) := by decide +kernel
theorem dX11_pass_118 : decode cX11_pass 118 = .ok (.goto 4, 3) := by decide +kernel
theorem dX11_pass_121 : decode cX11_pass 121 = .ok (.iload_n 2, 1) := by decide +kernel
theorem dX11_pass_122 : decode cX11_pass 122 = .ok (.iastore, 1) := by decide +kernel
theorem dX11_pass_123 : decode cX11_pass 123 = .ok (.aload_n 0, 1) := by decide +kernel
theorem dX11_pass_124 : decode cX11_pass 124 = .ok (.getfield 16, 3) := by decide +kernel
theorem dX11_pass_127 : decode cX11_pass 127 = .ok (.iconst 2, 1) := by decide +kernel
theorem dX11_pass_128 : decode cX11_pass 128 = .ok (.dup2, 1) := by decide +kernel
theorem dX11_pass_129 : decode cX11_pass 129 = .ok (.iaload, 1) := by decide +kernel
theorem dX11_pass_130 : decode cX11_pass 130 = .ok (.aload_n 0, 1) := by decide +kernel
theorem dX11_pass_131 : decode cX11_pass 131 = .ok (.getfield 127, 3) := by decide +kernel
theorem dX11_pass_134 : decode cX11_pass 134 = .ok (.iconst 2, 1) := by decide +kernel
theorem dX11_pass_135 : decode cX11_pass 135 = .ok (.if_icmp .ne 7, 3) := by decide +kernel
theorem dX11_pass_138 : decode cX11_pass 138 = .ok (.iconst 0, 1) := by decide +kernel
theorem dX11_pass_139 : decode cX11_pass 139 = .ok (.goto 4, 3) := by decide +kernel
theorem dX11_pass_142 : decode cX11_pass 142 = .ok (.iconst 1, 1) := by decide +kernel
theorem dX11_pass_143 : decode cX11_pass 143 = .ok (.iadd, 1) := by decide +kernel
theorem dX11_pass_144 : decode cX11_pass 144 = .ok (.iastore, 1) := by decide +kernel
theorem dX11_pass_145 : decode cX11_pass 145 = .ok (.aload_n 0, 1) := by decide +kernel
theorem dX11_pass_146 : decode cX11_pass 146 = .ok (.getfield 16, 3) := by decide +kernel
theorem dX11_pass_149 : decode cX11_pass 149 = .ok (.iconst 3, 1) := by decide +kernel
theorem dX11_pass_150 : decode cX11_pass 150 = .ok (.dup2, 1) := by decide +kernel
theorem dX11_pass_151 : decode cX11_pass 151 = .ok (.iaload, 1) := by decide +kernel
theorem dX11_pass_152 : decode cX11_pass 152 = .ok (.aload_n 0, 1) := by decide +kernel
theorem dX11_pass_153 : decode cX11_pass 153 = .ok (.getfield 127, 3) := by decide +kernel
theorem dX11_pass_156 : decode cX11_pass 156 = .ok (.iconst 1, 1) := by decide +kernel
theorem dX11_pass_157 : decode cX11_pass 157 = .ok (.if_icmp .ne 7, 3) := by decide +kernel
theorem dX11_pass_160 : decode cX11_pass 160 = .ok (.iconst 1, 1) := by decide +kernel
theorem dX11_pass_161 : decode cX11_pass 161 = .ok (.goto 4, 3) := by decide +kernel
theorem dX11_pass_164 : decode cX11_pass 164 = .ok (.iconst 0, 1) := by decide +kernel
theorem dX11_pass_165 : decode cX11_pass 165 = .ok (.iadd, 1) := by decide +kernel
theorem dX11_pass_166 : decode cX11_pass 166 = .ok (.iastore, 1) := by decide +kernel
theorem dX11_pass_167 : decode cX11_pass 167 = .ok (.aload_n 0, 1) := by decide +kernel
theorem dX11_pass_168 : decode cX11_pass 168 = .ok (.getfield 127, 3) := by decide +kernel
theorem dX11_pass_171 : decode cX11_pass 171 = .ok (.ireturn, 1) := by decide +kernel
theorem dX11_undo_0 : decode cX11_undo 0 = .ok (.aload_n 0, 1) := by decide +kernel
theorem dX11_undo_1 : decode cX11_undo 1 = .ok (.getfield 197, 3) := by decide +kernel
theorem dX11_undo_4 : decode cX11_undo 4 = .ok (.ifCond .ne 6, 3) := by decide +kernel
theorem dX11_undo_7 : decode cX11_undo 7 = .ok (.bipush (-4), 2) := by decide +kernel
theorem dX11_undo_9 : decode cX11_undo 9 = .ok (.ireturn, 1) := by decide +kernel
theorem dX11_undo_10 : decode cX11_undo 10 = .ok (.aload_n 0, 1) := by decide +kernel
theorem dX11_undo_11 : decode cX11_undo 11 = .ok (.dup, 1) := by decide +kernel
theorem dX11_undo_12 : decode cX11_undo 12 = .ok (.getfield 197, 3) := by decide +kernel
theorem dX11_undo_15 : decode cX11_undo 15 = .ok (.iconst 1, 1) := by decide +kernel
theorem dX11_undo_16 : decode cX11_undo 16 = .ok (.isub, 1) := by decide +kernel
theorem dX11_undo_17 : decode cX11_undo 17 = .ok (.putfield 197, 3) := by decide +kernel
theorem dX11_undo_20 : decode cX11_undo 20 = .ok (.iconst 0, 1) := by decide +kernel
theorem dX11_undo_21 : decode cX11_undo 21 = .ok (.istore_n 1, 1) := by decide +kernel
theorem dX11_undo_22 : decode cX11_undo 22 = .ok (.iload_n 1, 1) := by decide +kernel
theorem dX11_undo_23 : decode cX11_undo 23 = .ok (.iconst 4, 1) := by decide +kernel
theorem dX11_undo_24 : decode cX11_undo 24 = .ok (.if_icmp .ge 28, 3) := by decide +kernel
theorem dX11_undo_27 : decode cX11_undo 27 = .ok (.aload_n 0, 1) := by decide +kernel
theorem dX11_undo_28 : decode cX11_undo 28 = .ok (.getfield 16, 3) := by decide +kernel
theorem dX11_undo_31 : decode cX11_undo 31 = .ok (.iload_n 1, 1) := by decide +kernel
theorem dX11_undo_32 : decode cX11_undo 32 = .ok (.aload_n 0, 1) := by decide +kernel
theorem dX11_undo_33 : decode cX11_undo 33 = .ok (.getfield 35, 3) := by decide +kernel
theorem dX11_undo_36 : decode cX11_undo 36 = .ok (.iconst 4, 1) := by decide +kernel
theorem dX11_undo_37 : decode cX11_undo 37 = .ok (.aload_n 0, 1) := by decide +kernel
theorem dX11_undo_38 : decode cX11_undo 38 = .ok (.getfield 197, 3) := by decide +kernel
theorem dX11_undo_41 : decode cX11_undo 41 = .ok (.imul, 1) := by decide +kernel
theorem dX11_undo_42 : decode cX11_undo 42 = .ok (.iload_n 1, 1) := by decide +kernel
theorem dX11_undo_43 : decode cX11_undo 43 = .ok (.iadd, 1) := by decide +kernel
theorem dX11_undo_44 : decode cX11_undo 44 = .ok (.iaload, 1) := by decide +kernel
theorem dX11_undo_45 : decode cX11_undo 45 = .ok (.iastore, 1) := by decide +kernel
theorem dX11_undo_46 : decode cX11_undo 46 = .ok (.iinc 1 1, 3) := by decide +kernel
theorem dX11_undo_49 : decode cX11_undo 49 = .ok (.goto (-27), 3) := by decide +kernel
theorem dX11_undo_52 : decode cX11_undo 52 = .ok (.aload_n 0, 1) := by decide +kernel
theorem dX11_undo_53 : decode cX11_undo 53 = .ok (.getfield 197, 3) := by decide +kernel
theorem dX11_undo_56 : decode cX11_undo 56 = .ok (.ireturn, 1) := by decide +kernel
theorem dX11_seed_0 : decode cX11_seed 0 = .ok (.iload_n 1, 1) := by decide +kernel
theorem dX11_seed_1 : decode cX11_seed 1 = .ok (.ifCond .ge 5, 3) := by decide +kernel
theorem dX11_seed_4 : decode cX11_seed 4 = .ok (.iconst (-1), 1) := by decide +kernel
theorem dX11_seed_5 : decode cX11_seed 5 = .ok (.ireturn, 1) := by decide +kernel
theorem dX11_seed_6 : decode cX11_seed 6 = .ok (.aload_n 0, 1) := by decide +kernel
theorem dX11_seed_7 : decode cX11_seed 7 = .ok (.getfield 19, 3) := by decide +kernel
theorem dX11_seed_10 : decode cX11_seed 10 = .ok (.istore_n 2, 1) := by decide +kernel
theorem dX11_seed_11 : decode cX11_seed 11 = .ok (.aload_n 0, 1) := by decide +kernel
theorem dX11_seed_12 : decode cX11_seed 12 = .ok (.iload_n 1, 1) := by decide +kernel
theorem dX11_seed_13 : decode cX11_seed 13 = .ok (.putfield 19, 3) := by decide +kernel
theorem dX11_seed_16 : decode cX11_seed 16 = .ok (.iload_n 2, 1) := by decide +kernel
theorem dX11_seed_17 : decode cX11_seed 17 = .ok (.ireturn, 1) := by decide +kernel
theorem dX11_lots_0 : decode cX11_lots 0 = .ok (.aload_n 0, 1) := by decide +kernel
theorem dX11_lots_1 : decode cX11_lots 1 = .ok (.iload_n 1, 1) := by decide +kernel
theorem dX11_lots_2 : decode cX11_lots 2 = .ok (.invokevirtual 105, 3) := by decide +kernel
theorem dX11_lots_5 : decode cX11_lots 5 = .ok (.ifCond .eq 15, 3) := by decide +kernel
theorem dX11_lots_8 : decode cX11_lots 8 = .ok (.iload_n 2, 1) := by decide +kernel
theorem dX11_lots_9 : decode cX11_lots 9 = .ok (.i2l, 1) := by decide +kernel
theorem dX11_lots_10 : decode cX11_lots 10 = .ok (.lconst 1, 1) := by decide +kernel
theorem dX11_lots_11 : decode cX11_lots 11 = .ok (.ldc2_w 206, 3) := by decide +kernel
theorem dX11_lots_14 : decode cX11_lots 14 = .ok (.invokestatic 66, 3) := by decide +kernel
theorem dX11_lots_17 : decode cX11_lots 17 = .ok (.ifCond .ne 5, 3) := by decide +kernel
theorem dX11_lots_20 : decode cX11_lots 20 = .ok (.iconst (-1), 1) := by decide +kernel
theorem dX11_lots_21 : decode cX11_lots 21 = .ok (.ireturn, 1) := by decide +kernel
theorem dX11_lots_22 : decode cX11_lots 22 = .ok (.iconst 0, 1) := by decide +kernel
theorem dX11_lots_23 : decode cX11_lots 23 = .ok (.istore_n 3, 1) := by decide +kernel
theorem dX11_lots_24 : decode cX11_lots 24 = .ok (.iconst 0, 1) := by decide +kernel
theorem dX11_lots_25 : decode cX11_lots 25 = .ok (.istore 4, 2) := by decide +kernel
theorem dX11_lots_27 : decode cX11_lots 27 = .ok (.iload 4, 2) := by decide +kernel
theorem dX11_lots_29 : decode cX11_lots 29 = .ok (.iload_n 2, 1) := by decide +kernel
theorem dX11_lots_30 : decode cX11_lots 30 = .ok (.if_icmp .ge 71, 3) := by decide +kernel
theorem dX11_lots_33 : decode cX11_lots 33 = .ok (.aload_n 0, 1) := by decide +kernel
theorem dX11_lots_34 : decode cX11_lots 34 = .ok (.aload_n 0, 1) := by decide +kernel
theorem dX11_lots_35 : decode cX11_lots 35 = .ok (.getfield 19, 3) := by decide +kernel
theorem dX11_lots_38 : decode cX11_lots 38 = .ok (.ldc 208, 2) := by decide +kernel
theorem dX11_lots_40 : decode cX11_lots 40 = .ok (.imul, 1) := by decide +kernel
theorem dX11_lots_41 : decode cX11_lots 41 = .ok (.sipush 12345, 3) := by decide +kernel
theorem dX11_lots_44 : decode cX11_lots 44 = .ok (.iadd, 1) := by decide +kernel
theorem dX11_lots_45 : decode cX11_lots 45 = .ok (.ldc 209, 2) := by decide +kernel
theorem dX11_lots_47 : decode cX11_lots 47 = .ok (.iand, 1) := by decide +kernel
theorem dX11_lots_48 : decode cX11_lots 48 = .ok (.putfield 19, 3) := by decide +kernel
theorem dX11_lots_51 : decode cX11_lots 51 = .ok (.aload_n 0, 1) := by decide +kernel
theorem dX11_lots_52 : decode cX11_lots 52 = .ok (.iload_n 1, 1) := by decide +kernel
theorem dX11_lots_53 : decode cX11_lots 53 = .ok (.aload_n 0, 1) := by decide +kernel
theorem dX11_lots_54 : decode cX11_lots 54 = .ok (.getfield 19, 3) := by decide +kernel
theorem dX11_lots_57 : decode cX11_lots 57 = .ok (.ldc 210, 2) := by decide +kernel
theorem dX11_lots_59 : decode cX11_lots 59 = .ok (.idiv, 1) := by decide +kernel
theorem dX11_lots_60 : decode cX11_lots 60 = .ok (.bipush 60, 2) := by decide +kernel
theorem dX11_lots_62 : decode cX11_lots 62 = .ok (.irem, 1) := by decide +kernel
theorem dX11_lots_63 : decode cX11_lots 63 = .ok (.invokevirtual 211, 3) := by decide +kernel
theorem dX11_lots_66 : decode cX11_lots 66 = .ok (.iload_n 3, 1) := by decide +kernel
theorem dX11_lots_67 : decode cX11_lots 67 = .ok (.aload_n 0, 1) := by decide +kernel
theorem dX11_lots_68 : decode cX11_lots 68 = .ok (.getfield 133, 3) := by decide +kernel
theorem dX11_lots_71 : decode cX11_lots 71 = .ok (.bipush (-4), 2) := by decide +kernel
theorem dX11_lots_73 : decode cX11_lots 73 = .ok (.if_icmp .eq 8, 3) := by decide +kernel
theorem dX11_lots_76 : decode cX11_lots 76 = .ok (.bipush 100, 2) := by decide +kernel
theorem dX11_lots_78 : decode cX11_lots 78 = .ok (.goto 15, 3) := by decide +kernel
theorem dX11_lots_81 : decode cX11_lots 81 = .ok (.aload_n 0, 1) := by decide +kernel
theorem dX11_lots_82 : decode cX11_lots 82 = .ok (.getfield 136, 3) := by decide +kernel
theorem dX11_lots_85 : decode cX11_lots 85 = .ok (.ifCond .ne 7, 3) := by decide +kernel
theorem dX11_lots_88 : decode cX11_lots 88 = .ok (.iconst 1, 1) := by decide +kernel
theorem dX11_lots_89 : decode cX11_lots 89 = .ok (.goto 4, 3) := by decide +kernel
theorem dX11_lots_92 : decode cX11_lots 92 = .ok (.iconst 0, 1) := by decide +kernel
theorem dX11_lots_93 : decode cX11_lots 93 = .ok (.iadd, 1) := by decide +kernel
theorem dX11_lots_94 : decode cX11_lots 94 = .ok (.istore_n 3, 1) := by decide +kernel
theorem dX11_lots_95 : decode cX11_lots 95 = .ok (.iinc 4 1, 3) := by decide +kernel
theorem dX11_lots_98 : decode cX11_lots 98 = .ok (.goto (-71), 3) := by decide +kernel
theorem dX11_lots_101 : decode cX11_lots 101 = .ok (.iload_n 3, 1) := by decide +kernel
theorem dX11_lots_102 : decode cX11_lots 102 = .ok (.ireturn, 1) := by decide +kernel
theorem dX11_endOf_0 : decode cX11_endOf 0 = .ok (.aload_n 0, 1) := by decide +kernel
theorem dX11_endOf_1 : decode cX11_endOf 1 = .ok (.getfield 38, 3) := by decide +kernel
theorem dX11_endOf_4 : decode cX11_endOf 4 = .ok (.sipush 400, 3) := by decide +kernel
theorem dX11_endOf_7 : decode cX11_endOf 7 = .ok (.iload_n 1, 1) := by decide +kernel
theorem dX11_endOf_8 : decode cX11_endOf 8 = .ok (.imul, 1) := by decide +kernel
theorem dX11_endOf_9 : decode cX11_endOf 9 = .ok (.iload_n 2, 1) := by decide +kernel
theorem dX11_endOf_10 : decode cX11_endOf 10 = .ok (.iadd, 1) := by decide +kernel
theorem dX11_endOf_11 : decode cX11_endOf 11 = .ok (.iaload, 1) := by decide +kernel
theorem dX11_endOf_12 : decode cX11_endOf 12 = .ok (.ireturn, 1) := by decide +kernel
theorem dX11_looksOn_0 : decode cX11_looksOn 0 = .ok (.iconst 0, 1) := by decide +kernel
theorem dX11_looksOn_1 : decode cX11_looksOn 1 = .ok (.istore_n 3, 1) := by decide +kernel
theorem dX11_looksOn_2 : decode cX11_looksOn 2 = .ok (.iload_n 3, 1) := by decide +kernel
theorem dX11_looksOn_3 : decode cX11_looksOn 3 = .ok (.sipush 400, 3) := by decide +kernel
theorem dX11_looksOn_6 : decode cX11_looksOn 6 = .ok (.if_icmp .ge 27, 3) := by decide +kernel
theorem dX11_looksOn_9 : decode cX11_looksOn 9 = .ok (.aload_n 0, 1) := by decide +kernel
theorem dX11_looksOn_10 : decode cX11_looksOn 10 = .ok (.getfield 38, 3) := by decide +kernel
theorem dX11_looksOn_13 : decode cX11_looksOn 13 = .ok (.sipush 400, 3) := by decide +kernel
theorem dX11_looksOn_16 : decode cX11_looksOn 16 = .ok (.aload_n 0, 1) := by decide +kernel
theorem dX11_looksOn_17 : decode cX11_looksOn 17 = .ok (.getfield 63, 3) := by decide +kernel
theorem dX11_looksOn_20 : decode cX11_looksOn 20 = .ok (.imul, 1) := by decide +kernel
theorem dX11_looksOn_21 : decode cX11_looksOn 21 = .ok (.iload_n 3, 1) := by decide +kernel
theorem dX11_looksOn_22 : decode cX11_looksOn 22 = .ok (.iadd, 1) := by decide +kernel
theorem dX11_looksOn_23 : decode cX11_looksOn 23 = .ok (.iload_n 2, 1) := by decide +kernel
theorem dX11_looksOn_24 : decode cX11_looksOn 24 = .ok (.iload_n 3, 1) := by decide +kernel
theorem dX11_looksOn_25 : decode cX11_looksOn 25 = .ok (.iadd, 1) := by decide +kernel
theorem dX11_looksOn_26 : decode cX11_looksOn 26 = .ok (.iastore, 1) := by decide +kernel
theorem dX11_looksOn_27 : decode cX11_looksOn 27 = .ok (.iinc 3 1, 3) := by decide +kernel
theorem dX11_looksOn_30 : decode cX11_looksOn 30 = .ok (.goto (-28), 3) := by decide +kernel
theorem dX11_looksOn_33 : decode cX11_looksOn 33 = .ok (.aload_n 0, 1) := by decide +kernel
theorem dX11_looksOn_34 : decode cX11_looksOn 34 = .ok (.getfield 63, 3) := by decide +kernel
theorem dX11_looksOn_37 : decode cX11_looksOn 37 = .ok (.iconst 1, 1) := by decide +kernel
theorem dX11_looksOn_38 : decode cX11_looksOn 38 = .ok (.isub, 1) := by decide +kernel
theorem dX11_looksOn_39 : decode cX11_looksOn 39 = .ok (.istore_n 3, 1) := by decide +kernel
theorem dX11_looksOn_40 : decode cX11_looksOn 40 = .ok (.iload_n 3, 1) := by decide +kernel
theorem dX11_looksOn_41 : decode cX11_looksOn 41 = .ok (.ifCond .lt 115, 3) := by decide +kernel
theorem dX11_looksOn_44 : decode cX11_looksOn 44 = .ok (.iconst 0, 1) := by decide +kernel
theorem dX11_looksOn_45 : decode cX11_looksOn 45 = .ok (.istore 4, 2) := by decide +kernel
theorem dX11_looksOn_47 : decode cX11_looksOn 47 = .ok (.iload 4, 2) := by decide +kernel
theorem dX11_looksOn_49 : decode cX11_looksOn 49 = .ok (.sipush 400, 3) := by decide +kernel
theorem dX11_looksOn_52 : decode cX11_looksOn 52 = .ok (.if_icmp .ge 98, 3) := by decide +kernel
theorem dX11_looksOn_55 : decode cX11_looksOn 55 = .ok (.ldc 214, 2) := by decide +kernel
theorem dX11_looksOn_57 : decode cX11_looksOn 57 = .ok (.istore 5, 2) := by decide +kernel
theorem dX11_looksOn_59 : decode cX11_looksOn 59 = .ok (.aload_n 0, 1) := by decide +kernel
theorem dX11_looksOn_60 : decode cX11_looksOn 60 = .ok (.iload_n 1, 1) := by decide +kernel
theorem dX11_looksOn_61 : decode cX11_looksOn 61 = .ok (.invokevirtual 108, 3) := by decide +kernel
theorem dX11_looksOn_64 : decode cX11_looksOn 64 = .ok (.istore 6, 2) := by decide +kernel
theorem dX11_looksOn_66 : decode cX11_looksOn 66 = .ok (.iload 6, 2) := by decide +kernel
theorem dX11_looksOn_68 : decode cX11_looksOn 68 = .ok (.aload_n 0, 1) := by decide +kernel
theorem dX11_looksOn_69 : decode cX11_looksOn 69 = .ok (.iload_n 1, 1) := by decide +kernel
theorem dX11_looksOn_70 : decode cX11_looksOn 70 = .ok (.invokevirtual 101, 3) := by decide +kernel
theorem dX11_looksOn_73 : decode cX11_looksOn 73 = .ok (.if_icmp .gt 56, 3) := by decide +kernel
theorem dX11_looksOn_76 : decode cX11_looksOn 76 = .ok (.iload 4, 2) := by decide +kernel
theorem dX11_looksOn_78 : decode cX11_looksOn 78 = .ok (.sipush 400, 3) := by decide +kernel
theorem dX11_looksOn_81 : decode cX11_looksOn 81 = .ok (.bipush 45, 2) := by decide +kernel
theorem dX11_looksOn_83 : decode cX11_looksOn 83 = .ok (.aload_n 0, 1) := by decide +kernel
theorem dX11_looksOn_84 : decode cX11_looksOn 84 = .ok (.getfield 63, 3) := by decide +kernel
theorem dX11_looksOn_87 : decode cX11_looksOn 87 = .ok (.iload_n 3, 1) := by decide +kernel
theorem dX11_looksOn_88 : decode cX11_looksOn 88 = .ok (.isub, 1) := by decide +kernel
theorem dX11_looksOn_89 : decode cX11_looksOn 89 = .ok (.imul, 1) := by decide +kernel
theorem dX11_looksOn_90 : decode cX11_looksOn 90 = .ok (.isub, 1) := by decide +kernel
theorem dX11_looksOn_91 : decode cX11_looksOn 91 = .ok (.if_icmp .ge 38, 3) := by decide +kernel
theorem dX11_looksOn_94 : decode cX11_looksOn 94 = .ok (.aload_n 0, 1) := by decide +kernel
theorem dX11_looksOn_95 : decode cX11_looksOn 95 = .ok (.iload_n 1, 1) := by decide +kernel
theorem dX11_looksOn_96 : decode cX11_looksOn 96 = .ok (.iload_n 3, 1) := by decide +kernel
theorem dX11_looksOn_97 : decode cX11_looksOn 97 = .ok (.iload_n 2, 1) := by decide +kernel
theorem dX11_looksOn_98 : decode cX11_looksOn 98 = .ok (.iload 4, 2) := by decide +kernel
theorem dX11_looksOn_100 : decode cX11_looksOn 100 = .ok (.iload 6, 2) := by decide +kernel
theorem dX11_looksOn_102 : decode cX11_looksOn 102 = .ok (.invokevirtual 215, 3) := by decide +kernel
theorem dX11_looksOn_105 : decode cX11_looksOn 105 = .ok (.istore 7, 2) := by decide +kernel
theorem dX11_looksOn_107 : decode cX11_looksOn 107 = .ok (.iload 7, 2) := by decide +kernel
theorem dX11_looksOn_109 : decode cX11_looksOn 109 = .ok (.iload 5, 2) := by decide +kernel
theorem dX11_looksOn_111 : decode cX11_looksOn 111 = .ok (.if_icmp .ge 8, 3) := by decide +kernel
theorem dX11_looksOn_114 : decode cX11_looksOn 114 = .ok (.iload 7, 2) := by decide +kernel
theorem dX11_looksOn_116 : decode cX11_looksOn 116 = .ok (.goto 5, 3) := by decide +kernel
theorem dX11_looksOn_119 : decode cX11_looksOn 119 = .ok (.iload 5, 2) := by decide +kernel
theorem dX11_looksOn_121 : decode cX11_looksOn 121 = .ok (.istore 5, 2) := by decide +kernel
theorem dX11_looksOn_123 : decode cX11_looksOn 123 = .ok (.iinc 6 1, 3) := by decide +kernel
theorem dX11_looksOn_126 : decode cX11_looksOn 126 = .ok (.goto (-60), 3) := by decide +kernel
theorem dX11_looksOn_129 : decode cX11_looksOn 129 = .ok (.aload_n 0, 1) := by decide +kernel
theorem dX11_looksOn_130 : decode cX11_looksOn 130 = .ok (.getfield 38, 3) := by decide +kernel
theorem dX11_looksOn_133 : decode cX11_looksOn 133 = .ok (.sipush 400, 3) := by decide +kernel
theorem dX11_looksOn_136 : decode cX11_looksOn 136 = .ok (.iload_n 3, 1) := by decide +kernel
theorem dX11_looksOn_137 : decode cX11_looksOn 137 = .ok (.imul, 1) := by decide +kernel
theorem dX11_looksOn_138 : decode cX11_looksOn 138 = .ok (.iload 4, 2) := by decide +kernel
theorem dX11_looksOn_140 : decode cX11_looksOn 140 = .ok (.iadd, 1) := by decide +kernel
theorem dX11_looksOn_141 : decode cX11_looksOn 141 = .ok (.iload 5, 2) := by decide +kernel
theorem dX11_looksOn_143 : decode cX11_looksOn 143 = .ok (.iastore, 1) := by decide +kernel
theorem dX11_looksOn_144 : decode cX11_looksOn 144 = .ok (.iinc 4 1, 3) := by decide +kernel
theorem dX11_looksOn_147 : decode cX11_looksOn 147 = .ok (.goto (-100), 3) := by decide +kernel
theorem dX11_looksOn_150 : decode cX11_looksOn 150 = .ok (.iinc 3 (-1), 3) := by decide +kernel
theorem dX11_looksOn_153 : decode cX11_looksOn 153 = .ok (.goto (-113), 3) := by decide +kernel
theorem dX11_looksOn_156 : decode cX11_looksOn 156 = .ok (.return_, 1) := by decide +kernel
theorem dX11_by_0 : decode cX11_by 0 = .ok (.aload_n 0, 1) := by decide +kernel
theorem dX11_by_1 : decode cX11_by 1 = .ok (.iload_n 1, 1) := by decide +kernel
theorem dX11_by_2 : decode cX11_by 2 = .ok (.iload_n 2, 1) := by decide +kernel
theorem dX11_by_3 : decode cX11_by 3 = .ok (.aload_n 0, 1) := by decide +kernel
theorem dX11_by_4 : decode cX11_by 4 = .ok (.getfield 7, 3) := by decide +kernel
theorem dX11_by_7 : decode cX11_by 7 = .ok (.iconst 5, 1) := by decide +kernel
theorem dX11_by_8 : decode cX11_by 8 = .ok (.iload_n 2, 1) := by decide +kernel
theorem dX11_by_9 : decode cX11_by 9 = .ok (.imul, 1) := by decide +kernel
theorem dX11_by_10 : decode cX11_by 10 = .ok (.iconst 4, 1) := by decide +kernel
theorem dX11_by_11 : decode cX11_by 11 = .ok (.iadd, 1) := by decide +kernel
theorem dX11_by_12 : decode cX11_by 12 = .ok (.iaload, 1) := by decide +kernel
theorem dX11_by_13 : decode cX11_by 13 = .ok (.iload_n 3, 1) := by decide +kernel
theorem dX11_by_14 : decode cX11_by 14 = .ok (.iload 4, 2) := by decide +kernel
theorem dX11_by_16 : decode cX11_by 16 = .ok (.iadd, 1) := by decide +kernel
theorem dX11_by_17 : decode cX11_by 17 = .ok (.iload 5, 2) := by decide +kernel
theorem dX11_by_19 : decode cX11_by 19 = .ok (.invokevirtual 139, 3) := by decide +kernel
theorem dX11_by_22 : decode cX11_by 22 = .ok (.aload_n 0, 1) := by decide +kernel
theorem dX11_by_23 : decode cX11_by 23 = .ok (.getfield 127, 3) := by decide +kernel
theorem dX11_by_26 : decode cX11_by 26 = .ok (.ifCond .ne 19, 3) := by decide +kernel
theorem dX11_by_29 : decode cX11_by 29 = .ok (.aload_n 0, 1) := by decide +kernel
theorem dX11_by_30 : decode cX11_by 30 = .ok (.iload_n 2, 1) := by decide +kernel
theorem dX11_by_31 : decode cX11_by 31 = .ok (.iconst 1, 1) := by decide +kernel
theorem dX11_by_32 : decode cX11_by 32 = .ok (.iadd, 1) := by decide +kernel
theorem dX11_by_33 : decode cX11_by 33 = .ok (.aload_n 0, 1) := by decide +kernel
theorem dX11_by_34 : decode cX11_by 34 = .ok (.getfield 130, 3) := by decide +kernel
theorem dX11_by_37 : decode cX11_by 37 = .ok (.iload_n 3, 1) := by decide +kernel
theorem dX11_by_38 : decode cX11_by 38 = .ok (.isub, 1) := by decide +kernel
theorem dX11_by_39 : decode cX11_by 39 = .ok (.invokevirtual 219, 3) := by decide +kernel
theorem dX11_by_42 : decode cX11_by 42 = .ok (.goto 5, 3) := by decide +kernel
theorem dX11_by_45 : decode cX11_by 45 = .ok (.ldc 214, 2) := by decide +kernel
theorem dX11_by_47 : decode cX11_by 47 = .ok (.ireturn, 1) := by decide +kernel
theorem dX11_soonest_0 : decode cX11_soonest 0 = .ok (.aload_n 0, 1) := by decide +kernel
theorem dX11_soonest_1 : decode cX11_soonest 1 = .ok (.iload_n 1, 1) := by decide +kernel
theorem dX11_soonest_2 : decode cX11_soonest 2 = .ok (.invokevirtual 105, 3) := by decide +kernel
theorem dX11_soonest_5 : decode cX11_soonest 5 = .ok (.ifCond .eq 28, 3) := by decide +kernel
theorem dX11_soonest_8 : decode cX11_soonest 8 = .ok (.iload_n 2, 1) := by decide +kernel
theorem dX11_soonest_9 : decode cX11_soonest 9 = .ok (.invokestatic 222, 3) := by decide +kernel
theorem dX11_soonest_12 : decode cX11_soonest 12 = .ok (.ifCond .eq 21, 3) := by decide +kernel
theorem dX11_soonest_15 : decode cX11_soonest 15 = .ok (.iload_n 3, 1) := by decide +kernel
theorem dX11_soonest_16 : decode cX11_soonest 16 = .ok (.i2l, 1) := by decide +kernel
theorem dX11_soonest_17 : decode cX11_soonest 17 = .ok (.ldc2_w 225, 3) := by decide +kernel
theorem dX11_soonest_20 : decode cX11_soonest 20 = .ok (.aload_n 0, 1) := by decide +kernel
theorem dX11_soonest_21 : decode cX11_soonest 21 = .ok (.getfield 63, 3) := by decide +kernel
theorem dX11_soonest_24 : decode cX11_soonest 24 = .ok (.iconst 1, 1) := by decide +kernel
theorem dX11_soonest_25 : decode cX11_soonest 25 = .ok (.isub, 1) := by decide +kernel
theorem dX11_soonest_26 : decode cX11_soonest 26 = .ok (.i2l, 1) := by decide +kernel
theorem dX11_soonest_27 : decode cX11_soonest 27 = .ok (.invokestatic 66, 3) := by decide +kernel
theorem dX11_soonest_30 : decode cX11_soonest 30 = .ok (.ifCond .ne 5, 3) := by decide +kernel
theorem dX11_soonest_33 : decode cX11_soonest 33 = .ok (.iconst (-1), 1) := by decide +kernel
theorem dX11_soonest_34 : decode cX11_soonest 34 = .ok (.ireturn, 1) := by decide +kernel
theorem dX11_soonest_35 : decode cX11_soonest 35 = .ok (.aload_n 0, 1) := by decide +kernel
theorem dX11_soonest_36 : decode cX11_soonest 36 = .ok (.iload_n 1, 1) := by decide +kernel
theorem dX11_soonest_37 : decode cX11_soonest 37 = .ok (.iload_n 2, 1) := by decide +kernel
theorem dX11_soonest_38 : decode cX11_soonest 38 = .ok (.invokevirtual 227, 3) := by decide +kernel
theorem dX11_soonest_41 : decode cX11_soonest 41 = .ok (.iconst 0, 1) := by decide +kernel
theorem dX11_soonest_42 : decode cX11_soonest 42 = .ok (.istore 4, 2) := by decide +kernel
theorem dX11_soonest_44 : decode cX11_soonest 44 = .ok (.iconst 1, 1) := by decide +kernel
theorem dX11_soonest_45 : decode cX11_soonest 45 = .ok (.istore 5, 2) := by decide +kernel
theorem dX11_soonest_47 : decode cX11_soonest 47 = .ok (.iload 5, 2) := by decide +kernel
theorem dX11_soonest_49 : decode cX11_soonest 49 = .ok (.bipush 100, 2) := by decide +kernel
theorem dX11_soonest_51 : decode cX11_soonest 51 = .ok (.if_icmp .ge 35, 3) := by decide +kernel
theorem dX11_soonest_54 : decode cX11_soonest 54 = .ok (.aload_n 0, 1) := by decide +kernel
theorem dX11_soonest_55 : decode cX11_soonest 55 = .ok (.iconst 0, 1) := by decide +kernel
theorem dX11_soonest_56 : decode cX11_soonest 56 = .ok (.iload 5, 2) := by decide +kernel
theorem dX11_soonest_58 : decode cX11_soonest 58 = .ok (.invokevirtual 219, 3) := by decide +kernel
theorem dX11_soonest_61 : decode cX11_soonest 61 = .ok (.aload_n 0, 1) := by decide +kernel
theorem dX11_soonest_62 : decode cX11_soonest 62 = .ok (.iconst 0, 1) := by decide +kernel
theorem dX11_soonest_63 : decode cX11_soonest 63 = .ok (.iload 4, 2) := by decide +kernel
theorem dX11_soonest_65 : decode cX11_soonest 65 = .ok (.invokevirtual 219, 3) := by decide +kernel
theorem dX11_soonest_68 : decode cX11_soonest 68 = .ok (.if_icmp .gt 8, 3) := by decide +kernel
theorem dX11_soonest_71 : decode cX11_soonest 71 = .ok (.iload 5, 2) := by decide +kernel
theorem dX11_soonest_73 : decode cX11_soonest 73 = .ok (.goto 5, 3) := by decide +kernel
theorem dX11_soonest_76 : decode cX11_soonest 76 = .ok (.iload 4, 2) := by decide +kernel
theorem dX11_soonest_78 : decode cX11_soonest 78 = .ok (.istore 4, 2) := by decide +kernel
theorem dX11_soonest_80 : decode cX11_soonest 80 = .ok (.iinc 5 1, 3) := by decide +kernel
theorem dX11_soonest_83 : decode cX11_soonest 83 = .ok (.goto (-36), 3) := by decide +kernel
theorem dX11_soonest_86 : decode cX11_soonest 86 = .ok (.aload_n 0, 1) := by decide +kernel
theorem dX11_soonest_87 : decode cX11_soonest 87 = .ok (.iconst 0, 1) := by decide +kernel
theorem dX11_soonest_88 : decode cX11_soonest 88 = .ok (.iload 4, 2) := by decide +kernel
theorem dX11_soonest_90 : decode cX11_soonest 90 = .ok (.invokevirtual 219, 3) := by decide +kernel
theorem dX11_soonest_93 : decode cX11_soonest 93 = .ok (.istore 5, 2) := by decide +kernel
theorem dX11_soonest_95 : decode cX11_soonest 95 = .ok (.iload 5, 2) := by decide +kernel
theorem dX11_soonest_97 : decode cX11_soonest 97 = .ok (.ldc 214, 2) := by decide +kernel
theorem dX11_soonest_99 : decode cX11_soonest 99 = .ok (.if_icmp .ne 6, 3) := by decide +kernel
theorem dX11_soonest_102 : decode cX11_soonest 102 = .ok (.bipush (-4), 2) := by decide +kernel
theorem dX11_soonest_104 : decode cX11_soonest 104 = .ok (.ireturn, 1) := by decide +kernel
theorem dX11_soonest_105 : decode cX11_soonest 105 = .ok (.iload_n 3, 1) := by decide +kernel
theorem dX11_soonest_106 : decode cX11_soonest 106 = .ok (.ifCond .ge 19, 3) := by decide +kernel
theorem dX11_soonest_109 : decode cX11_soonest 109 = .ok (.iload_n 3, 1) := by decide +kernel
theorem dX11_soonest_110 : decode cX11_soonest 110 = .ok (.bipush (-2), 2) := by decide +kernel
theorem dX11_soonest_112 : decode cX11_soonest 112 = .ok (.if_icmp .ne 8, 3) := by decide +kernel
theorem dX11_soonest_115 : decode cX11_soonest 115 = .ok (.iload 5, 2) := by decide +kernel
theorem dX11_soonest_117 : decode cX11_soonest 117 = .ok (.goto 7, 3) := by decide +kernel
theorem dX11_soonest_120 : decode cX11_soonest 120 = .ok (.iload_n 2, 1) := by decide +kernel
theorem dX11_soonest_121 : decode cX11_soonest 121 = .ok (.iload 4, 2) := by decide +kernel
theorem dX11_soonest_123 : decode cX11_soonest 123 = .ok (.iadd, 1) := by decide +kernel
theorem dX11_soonest_124 : decode cX11_soonest 124 = .ok (.ireturn, 1) := by decide +kernel
theorem dX11_soonest_125 : decode cX11_soonest 125 = .ok (.iload 4, 2) := by decide +kernel
theorem dX11_soonest_127 : decode cX11_soonest 127 = .ok (.istore 6, 2) := by decide +kernel
theorem dX11_soonest_129 : decode cX11_soonest 129 = .ok (.iconst 0, 1) := by decide +kernel
theorem dX11_soonest_130 : decode cX11_soonest 130 = .ok (.istore 7, 2) := by decide +kernel
theorem dX11_soonest_132 : decode cX11_soonest 132 = .ok (.iconst 0, 1) := by decide +kernel
theorem dX11_soonest_133 : decode cX11_soonest 133 = .ok (.istore 8, 2) := by decide +kernel
theorem dX11_soonest_135 : decode cX11_soonest 135 = .ok (.iload 8, 2) := by decide +kernel
theorem dX11_soonest_137 : decode cX11_soonest 137 = .ok (.iload_n 3, 1) := by decide +kernel
theorem dX11_soonest_138 : decode cX11_soonest 138 = .ok (.if_icmp .gt 47, 3) := by decide +kernel
theorem dX11_soonest_141 : decode cX11_soonest 141 = .ok (.aload_n 0, 1) := by decide +kernel
theorem dX11_soonest_142 : decode cX11_soonest 142 = .ok (.iload_n 1, 1) := by decide +kernel
theorem dX11_soonest_143 : decode cX11_soonest 143 = .ok (.invokevirtual 108, 3) := by decide +kernel
theorem dX11_soonest_146 : decode cX11_soonest 146 = .ok (.istore 7, 2) := by decide +kernel
theorem dX11_soonest_148 : decode cX11_soonest 148 = .ok (.aload_n 0, 1) := by decide +kernel
theorem dX11_soonest_149 : decode cX11_soonest 149 = .ok (.iload_n 1, 1) := by decide +kernel
theorem dX11_soonest_150 : decode cX11_soonest 150 = .ok (.iload 8, 2) := by decide +kernel
theorem dX11_soonest_152 : decode cX11_soonest 152 = .ok (.iload_n 2, 1) := by decide +kernel
theorem dX11_soonest_153 : decode cX11_soonest 153 = .ok (.iload 6, 2) := by decide +kernel
theorem dX11_soonest_155 : decode cX11_soonest 155 = .ok (.iload 7, 2) := by decide +kernel
theorem dX11_soonest_157 : decode cX11_soonest 157 = .ok (.invokevirtual 215, 3) := by decide +kernel
theorem dX11_soonest_160 : decode cX11_soonest 160 = .ok (.iload 5, 2) := by decide +kernel
theorem dX11_soonest_162 : decode cX11_soonest 162 = .ok (.if_icmp .eq 9, 3) := by decide +kernel
theorem dX11_soonest_165 : decode cX11_soonest 165 = .ok (.iinc 7 1, 3) := by decide +kernel
theorem dX11_soonest_168 : decode cX11_soonest 168 = .ok (.goto (-20), 3) := by decide +kernel
theorem dX11_soonest_171 : decode cX11_soonest 171 = .ok (.aload_n 0, 1) := by decide +kernel
theorem dX11_soonest_172 : decode cX11_soonest 172 = .ok (.getfield 130, 3) := by decide +kernel
theorem dX11_soonest_175 : decode cX11_soonest 175 = .ok (.iload_n 2, 1) := by decide +kernel
theorem dX11_soonest_176 : decode cX11_soonest 176 = .ok (.isub, 1) := by decide +kernel
theorem dX11_soonest_177 : decode cX11_soonest 177 = .ok (.istore 6, 2) := by decide +kernel
theorem dX11_soonest_179 : decode cX11_soonest 179 = .ok (.iinc 8 1, 3) := by decide +kernel
theorem dX11_soonest_182 : decode cX11_soonest 182 = .ok (.goto (-47), 3) := by decide +kernel
theorem dX11_soonest_185 : decode cX11_soonest 185 = .ok (.iload 7, 2) := by decide +kernel
theorem dX11_soonest_187 : decode cX11_soonest 187 = .ok (.ireturn, 1) := by decide +kernel
theorem dX11_full_0 : decode cX11_full 0 = .ok (.aload_n 0, 1) := by decide +kernel
theorem dX11_full_1 : decode cX11_full 1 = .ok (.iload_n 1, 1) := by decide +kernel
theorem dX11_full_2 : decode cX11_full 2 = .ok (.invokevirtual 105, 3) := by decide +kernel
theorem dX11_full_5 : decode cX11_full 5 = .ok (.ifCond .eq 22, 3) := by decide +kernel
theorem dX11_full_8 : decode cX11_full 8 = .ok (.iload_n 2, 1) := by decide +kernel
theorem dX11_full_9 : decode cX11_full 9 = .ok (.invokestatic 222, 3) := by decide +kernel
theorem dX11_full_12 : decode cX11_full 12 = .ok (.ifCond .eq 15, 3) := by decide +kernel
theorem dX11_full_15 : decode cX11_full 15 = .ok (.iload_n 3, 1) := by decide +kernel
theorem dX11_full_16 : decode cX11_full 16 = .ok (.i2l, 1) := by decide +kernel
theorem dX11_full_17 : decode cX11_full 17 = .ok (.lconst 0, 1) := by decide +kernel
theorem dX11_full_18 : decode cX11_full 18 = .ok (.ldc2_w 79, 3) := by decide +kernel
theorem dX11_full_21 : decode cX11_full 21 = .ok (.invokestatic 66, 3) := by decide +kernel
theorem dX11_full_24 : decode cX11_full 24 = .ok (.ifCond .ne 5, 3) := by decide +kernel
theorem dX11_full_27 : decode cX11_full 27 = .ok (.iconst (-1), 1) := by decide +kernel
theorem dX11_full_28 : decode cX11_full 28 = .ok (.ireturn, 1) := by decide +kernel
theorem dX11_full_29 : decode cX11_full 29 = .ok (.aload_n 0, 1) := by decide +kernel
theorem dX11_full_30 : decode cX11_full 30 = .ok (.iload_n 1, 1) := by decide +kernel
theorem dX11_full_31 : decode cX11_full 31 = .ok (.iload_n 2, 1) := by decide +kernel
theorem dX11_full_32 : decode cX11_full 32 = .ok (.invokevirtual 211, 3) := by decide +kernel
theorem dX11_full_35 : decode cX11_full 35 = .ok (.iload_n 3, 1) := by decide +kernel
theorem dX11_full_36 : decode cX11_full 36 = .ok (.ifCond .ne 10, 3) := by decide +kernel
theorem dX11_full_39 : decode cX11_full 39 = .ok (.aload_n 0, 1) := by decide +kernel
theorem dX11_full_40 : decode cX11_full 40 = .ok (.getfield 133, 3) := by decide +kernel
theorem dX11_full_43 : decode cX11_full 43 = .ok (.goto 19, 3) := by decide +kernel
theorem dX11_full_46 : decode cX11_full 46 = .ok (.iload_n 3, 1) := by decide +kernel
theorem dX11_full_47 : decode cX11_full 47 = .ok (.iconst 1, 1) := by decide +kernel
theorem dX11_full_48 : decode cX11_full 48 = .ok (.if_icmp .ne 10, 3) := by decide +kernel
theorem dX11_full_51 : decode cX11_full 51 = .ok (.aload_n 0, 1) := by decide +kernel
theorem dX11_full_52 : decode cX11_full 52 = .ok (.getfield 136, 3) := by decide +kernel
theorem dX11_full_55 : decode cX11_full 55 = .ok (.goto 7, 3) := by decide +kernel
theorem dX11_full_58 : decode cX11_full 58 = .ok (.aload_n 0, 1) := by decide +kernel
theorem dX11_full_59 : decode cX11_full 59 = .ok (.getfield 130, 3) := by decide +kernel
theorem dX11_full_62 : decode cX11_full 62 = .ok (.ireturn, 1) := by decide +kernel
theorem dX11_clears_0 : decode cX11_clears 0 = .ok (.iconst 1, 1) := by decide +kernel
theorem dX11_clears_1 : decode cX11_clears 1 = .ok (.istore_n 3, 1) := by decide +kernel
theorem dX11_clears_2 : decode cX11_clears 2 = .ok (.iload_n 2, 1) := by decide +kernel
theorem dX11_clears_3 : decode cX11_clears 3 = .ok (.istore 4, 2) := by decide +kernel
theorem dX11_clears_5 : decode cX11_clears 5 = .ok (.iconst 0, 1) := by decide +kernel
theorem dX11_clears_6 : decode cX11_clears 6 = .ok (.istore 5, 2) := by decide +kernel
theorem dX11_clears_8 : decode cX11_clears 8 = .ok (.iload 5, 2) := by decide +kernel
theorem dX11_clears_10 : decode cX11_clears 10 = .ok (.aload_n 0, 1) := by decide +kernel
theorem dX11_clears_11 : decode cX11_clears 11 = .ok (.getfield 63, 3) := by decide +kernel
theorem dX11_clears_14 : decode cX11_clears 14 = .ok (.if_icmp .ge 147, 3) := by decide +kernel
theorem dX11_clears_17 : decode cX11_clears 17 = .ok (.aload_n 0, 1) := by decide +kernel
theorem dX11_clears_18 : decode cX11_clears 18 = .ok (.getfield 7, 3) := by decide +kernel
theorem dX11_clears_21 : decode cX11_clears 21 = .ok (.iconst 5, 1) := by decide +kernel
theorem dX11_clears_22 : decode cX11_clears 22 = .ok (.iload 5, 2) := by decide +kernel
theorem dX11_clears_24 : decode cX11_clears 24 = .ok (.imul, 1) := by decide +kernel
theorem dX11_clears_25 : decode cX11_clears 25 = .ok (.iconst 2, 1) := by decide +kernel
theorem dX11_clears_26 : decode cX11_clears 26 = .ok (.iadd, 1) := by decide +kernel
theorem dX11_clears_27 : decode cX11_clears 27 = .ok (.iaload, 1) := by decide +kernel
theorem dX11_clears_28 : decode cX11_clears 28 = .ok (.istore 6, 2) := by decide +kernel
theorem dX11_clears_30 : decode cX11_clears 30 = .ok (.aload_n 0, 1) := by decide +kernel
theorem dX11_clears_31 : decode cX11_clears 31 = .ok (.getfield 7, 3) := by decide +kernel
theorem dX11_clears_34 : decode cX11_clears 34 = .ok (.iconst 5, 1) := by decide +kernel
theorem dX11_clears_35 : decode cX11_clears 35 = .ok (.iload 5, 2) := by decide +kernel
theorem dX11_clears_37 : decode cX11_clears 37 = .ok (.imul, 1) := by decide +kernel
theorem dX11_clears_38 : decode cX11_clears 38 = .ok (.iconst 4, 1) := by decide +kernel
theorem dX11_clears_39 : decode cX11_clears 39 = .ok (.iadd, 1) := by decide +kernel
theorem dX11_clears_40 : decode cX11_clears 40 = .ok (.iaload, 1) := by decide +kernel
theorem dX11_clears_41 : decode cX11_clears 41 = .ok (.istore 7, 2) := by decide +kernel
theorem dX11_clears_43 : decode cX11_clears 43 = .ok (.iconst 0, 1) := by decide +kernel
theorem dX11_clears_44 : decode cX11_clears 44 = .ok (.istore 8, 2) := by decide +kernel
theorem dX11_clears_46 : decode cX11_clears 46 = .ok (.iconst (-1), 1) := by decide +kernel
theorem dX11_clears_47 : decode cX11_clears 47 = .ok (.istore 9, 2) := by decide +kernel
theorem dX11_clears_49 : decode cX11_clears 49 = .ok (.iload 9, 2) := by decide +kernel
theorem dX11_clears_51 : decode cX11_clears 51 = .ok (.iconst 2, 1) := by decide +kernel
theorem dX11_clears_52 : decode cX11_clears 52 = .ok (.if_icmp .ge 60, 3) := by decide +kernel
theorem dX11_clears_55 : decode cX11_clears 55 = .ok (.aload_n 0, 1) := by decide +kernel
theorem dX11_clears_56 : decode cX11_clears 56 = .ok (.iload_n 1, 1) := by decide +kernel
theorem dX11_clears_57 : decode cX11_clears 57 = .ok (.iload 5, 2) := by decide +kernel
theorem dX11_clears_59 : decode cX11_clears 59 = .ok (.iload 7, 2) := by decide +kernel
theorem dX11_clears_61 : decode cX11_clears 61 = .ok (.iload 9, 2) := by decide +kernel
theorem dX11_clears_63 : decode cX11_clears 63 = .ok (.iadd, 1) := by decide +kernel
theorem dX11_clears_64 : decode cX11_clears 64 = .ok (.iload 6, 2) := by decide +kernel
theorem dX11_clears_66 : decode cX11_clears 66 = .ok (.iadd, 1) := by decide +kernel
theorem dX11_clears_67 : decode cX11_clears 67 = .ok (.iload 6, 2) := by decide +kernel
theorem dX11_clears_69 : decode cX11_clears 69 = .ok (.irem, 1) := by decide +kernel
theorem dX11_clears_70 : decode cX11_clears 70 = .ok (.iload 4, 2) := by decide +kernel
theorem dX11_clears_72 : decode cX11_clears 72 = .ok (.aload_n 0, 1) := by decide +kernel
theorem dX11_clears_73 : decode cX11_clears 73 = .ok (.iload_n 1, 1) := by decide +kernel
theorem dX11_clears_74 : decode cX11_clears 74 = .ok (.invokevirtual 101, 3) := by decide +kernel
theorem dX11_clears_77 : decode cX11_clears 77 = .ok (.invokevirtual 139, 3) := by decide +kernel
theorem dX11_clears_80 : decode cX11_clears 80 = .ok (.iload 8, 2) := by decide +kernel
theorem dX11_clears_82 : decode cX11_clears 82 = .ok (.aload_n 0, 1) := by decide +kernel
theorem dX11_clears_83 : decode cX11_clears 83 = .ok (.getfield 127, 3) := by decide +kernel
theorem dX11_clears_86 : decode cX11_clears 86 = .ok (.ifCond .eq 7, 3) := by decide +kernel
theorem dX11_clears_89 : decode cX11_clears 89 = .ok (.iconst 0, 1) := by decide +kernel
theorem dX11_clears_90 : decode cX11_clears 90 = .ok (.goto 13, 3) := by decide +kernel
theorem dX11_clears_93 : decode cX11_clears 93 = .ok (.iload 9, 2) := by decide +kernel
theorem dX11_clears_95 : decode cX11_clears 95 = .ok (.ifCond .ne 7, 3) := by decide +kernel
theorem dX11_clears_98 : decode cX11_clears 98 = .ok (.iconst 2, 1) := by decide +kernel
theorem dX11_clears_99 : decode cX11_clears 99 = .ok (.goto 4, 3) := by decide +kernel
theorem dX11_clears_102 : decode cX11_clears 102 = .ok (.iconst 1, 1) := by decide +kernel
theorem dX11_clears_103 : decode cX11_clears 103 = .ok (.iadd, 1) := by decide +kernel
theorem dX11_clears_104 : decode cX11_clears 104 = .ok (.istore 8, 2) := by decide +kernel
theorem dX11_clears_106 : decode cX11_clears 106 = .ok (.iinc 9 1, 3) := by decide +kernel
theorem dX11_clears_109 : decode cX11_clears 109 = .ok (.goto (-60), 3) := by decide +kernel
theorem dX11_clears_112 : decode cX11_clears 112 = .ok (.iload_n 3, 1) := by decide +kernel
theorem dX11_clears_113 : decode cX11_clears 113 = .ok (.iload 8, 2) := by decide +kernel
theorem dX11_clears_115 : decode cX11_clears 115 = .ok (.imul, 1) := by decide +kernel
theorem dX11_clears_116 : decode cX11_clears 116 = .ok (.istore_n 3, 1) := by decide +kernel
theorem dX11_clears_117 : decode cX11_clears 117 = .ok (.iload 4, 2) := by decide +kernel
theorem dX11_clears_119 : decode cX11_clears 119 = .ok (.aload_n 0, 1) := by decide +kernel
theorem dX11_clears_120 : decode cX11_clears 120 = .ok (.getfield 7, 3) := by decide +kernel
theorem dX11_clears_123 : decode cX11_clears 123 = .ok (.iconst 5, 1) := by decide +kernel
theorem dX11_clears_124 : decode cX11_clears 124 = .ok (.iload 5, 2) := by decide +kernel
theorem dX11_clears_126 : decode cX11_clears 126 = .ok (.imul, 1) := by decide +kernel
theorem dX11_clears_127 : decode cX11_clears 127 = .ok (.iconst 1, 1) := by decide +kernel
theorem dX11_clears_128 : decode cX11_clears 128 = .ok (.iadd, 1) := by decide +kernel
theorem dX11_clears_129 : decode cX11_clears 129 = .ok (.iaload, 1) := by decide +kernel
theorem dX11_clears_130 : decode cX11_clears 130 = .ok (.aload_n 0, 1) := by decide +kernel
theorem dX11_clears_131 : decode cX11_clears 131 = .ok (.iload_n 1, 1) := by decide +kernel
theorem dX11_clears_132 : decode cX11_clears 132 = .ok (.invokevirtual 101, 3) := by decide +kernel
theorem dX11_clears_135 : decode cX11_clears 135 = .ok (.invokestatic 123, 3) := by decide +kernel
theorem dX11_clears_138 : decode cX11_clears 138 = .ok (.aload_n 0, 1) := by decide +kernel
theorem dX11_clears_139 : decode cX11_clears 139 = .ok (.iload_n 1, 1) := by decide +kernel
theorem dX11_clears_140 : decode cX11_clears 140 = .ok (.invokevirtual 111, 3) := by decide +kernel
theorem dX11_clears_143 : decode cX11_clears 143 = .ok (.aload_n 0, 1) := by decide +kernel
theorem dX11_clears_144 : decode cX11_clears 144 = .ok (.iload_n 1, 1) := by decide +kernel
theorem dX11_clears_145 : decode cX11_clears 145 = .ok (.invokevirtual 101, 3) := by decide +kernel
theorem dX11_clears_148 : decode cX11_clears 148 = .ok (.invokestatic 123, 3) := by decide +kernel
theorem dX11_clears_151 : decode cX11_clears 151 = .ok (.iadd, 1) := by decide +kernel
theorem dX11_clears_152 : decode cX11_clears 152 = .ok (.iadd, 1) := by decide +kernel
theorem dX11_clears_153 : decode cX11_clears 153 = .ok (.istore 4, 2) := by decide +kernel
theorem dX11_clears_155 : decode cX11_clears 155 = .ok (.iinc 5 1, 3) := by decide +kernel
theorem dX11_clears_158 : decode cX11_clears 158 = .ok (.goto (-150), 3) := by decide +kernel
theorem dX11_clears_161 : decode cX11_clears 161 = .ok (.iload_n 3, 1) := by decide +kernel
theorem dX11_clears_162 : decode cX11_clears 162 = .ok (.ireturn, 1) := by decide +kernel
theorem dX11_common_0 : decode cX11_common 0 = .ok (.iload_n 0, 1) := by decide +kernel
theorem dX11_common_1 : decode cX11_common 1 = .ok (.istore_n 2, 1) := by decide +kernel
theorem dX11_common_2 : decode cX11_common 2 = .ok (.iload_n 1, 1) := by decide +kernel
theorem dX11_common_3 : decode cX11_common 3 = .ok (.istore_n 3, 1) := by decide +kernel
theorem dX11_common_4 : decode cX11_common 4 = .ok (.iload_n 3, 1) := by decide +kernel
theorem dX11_common_5 : decode cX11_common 5 = .ok (.ifCond .eq 16, 3) := by decide +kernel
theorem dX11_common_8 : decode cX11_common 8 = .ok (.iload_n 2, 1) := by decide +kernel
theorem dX11_common_9 : decode cX11_common 9 = .ok (.iload_n 3, 1) := by decide +kernel
theorem dX11_common_10 : decode cX11_common 10 = .ok (.irem, 1) := by decide +kernel
theorem dX11_common_11 : decode cX11_common 11 = .ok (.istore 4, 2) := by decide +kernel
theorem dX11_common_13 : decode cX11_common 13 = .ok (.iload_n 3, 1) := by decide +kernel
theorem dX11_common_14 : decode cX11_common 14 = .ok (.istore_n 2, 1) := by decide +kernel
theorem dX11_common_15 : decode cX11_common 15 = .ok (.iload 4, 2) := by decide +kernel
theorem dX11_common_17 : decode cX11_common 17 = .ok (.istore_n 3, 1) := by decide +kernel
theorem dX11_common_18 : decode cX11_common 18 = .ok (.goto (-14), 3) := by decide +kernel
theorem dX11_common_21 : decode cX11_common 21 = .ok (.iload_n 2, 1) := by decide +kernel
theorem dX11_common_22 : decode cX11_common 22 = .ok (.ireturn, 1) := by decide +kernel
theorem dX11_fog_0 : decode cX11_fog 0 = .ok (.aload_n 0, 1) := by decide +kernel
theorem dX11_fog_1 : decode cX11_fog 1 = .ok (.iload_n 1, 1) := by decide +kernel
theorem dX11_fog_2 : decode cX11_fog 2 = .ok (.invokevirtual 105, 3) := by decide +kernel
theorem dX11_fog_5 : decode cX11_fog 5 = .ok (.ifCond .eq 20, 3) := by decide +kernel
theorem dX11_fog_8 : decode cX11_fog 8 = .ok (.iload_n 2, 1) := by decide +kernel
theorem dX11_fog_9 : decode cX11_fog 9 = .ok (.invokestatic 222, 3) := by decide +kernel
theorem dX11_fog_12 : decode cX11_fog 12 = .ok (.ifCond .eq 13, 3) := by decide +kernel
theorem dX11_fog_15 : decode cX11_fog 15 = .ok (.iload_n 3, 1) := by decide +kernel
theorem dX11_fog_16 : decode cX11_fog 16 = .ok (.i2l, 1) := by decide +kernel
theorem dX11_fog_17 : decode cX11_fog 17 = .ok (.lconst 0, 1) := by decide +kernel
theorem dX11_fog_18 : decode cX11_fog 18 = .ok (.lconst 1, 1) := by decide +kernel
theorem dX11_fog_19 : decode cX11_fog 19 = .ok (.invokestatic 66, 3) := by decide +kernel
theorem dX11_fog_22 : decode cX11_fog 22 = .ok (.ifCond .ne 5, 3) := by decide +kernel
theorem dX11_fog_25 : decode cX11_fog 25 = .ok (.iconst (-1), 1) := by decide +kernel
theorem dX11_fog_26 : decode cX11_fog 26 = .ok (.ireturn, 1) := by decide +kernel
theorem dX11_fog_27 : decode cX11_fog 27 = .ok (.aload_n 0, 1) := by decide +kernel
theorem dX11_fog_28 : decode cX11_fog 28 = .ok (.iload_n 1, 1) := by decide +kernel
theorem dX11_fog_29 : decode cX11_fog 29 = .ok (.iload_n 2, 1) := by decide +kernel
theorem dX11_fog_30 : decode cX11_fog 30 = .ok (.invokevirtual 230, 3) := by decide +kernel
theorem dX11_fog_33 : decode cX11_fog 33 = .ok (.istore 4, 2) := by decide +kernel
theorem dX11_fog_35 : decode cX11_fog 35 = .ok (.iconst 1, 1) := by decide +kernel
theorem dX11_fog_36 : decode cX11_fog 36 = .ok (.iconst 2, 1) := by decide +kernel
theorem dX11_fog_37 : decode cX11_fog 37 = .ok (.aload_n 0, 1) := by decide +kernel
theorem dX11_fog_38 : decode cX11_fog 38 = .ok (.getfield 63, 3) := by decide +kernel
theorem dX11_fog_41 : decode cX11_fog 41 = .ok (.imul, 1) := by decide +kernel
theorem dX11_fog_42 : decode cX11_fog 42 = .ok (.ishl, 1) := by decide +kernel
theorem dX11_fog_43 : decode cX11_fog 43 = .ok (.istore 5, 2) := by decide +kernel
theorem dX11_fog_45 : decode cX11_fog 45 = .ok (.iload 4, 2) := by decide +kernel
theorem dX11_fog_47 : decode cX11_fog 47 = .ok (.iload 5, 2) := by decide +kernel
theorem dX11_fog_49 : decode cX11_fog 49 = .ok (.invokestatic 233, 3) := by decide +kernel
theorem dX11_fog_52 : decode cX11_fog 52 = .ok (.istore 6, 2) := by decide +kernel
theorem dX11_fog_54 : decode cX11_fog 54 = .ok (.iload_n 3, 1) := by decide +kernel
theorem dX11_fog_55 : decode cX11_fog 55 = .ok (.ifCond .ne 11, 3) := by decide +kernel
theorem dX11_fog_58 : decode cX11_fog 58 = .ok (.iload 4, 2) := by decide +kernel
theorem dX11_fog_60 : decode cX11_fog 60 = .ok (.iload 6, 2) := by decide +kernel
theorem dX11_fog_62 : decode cX11_fog 62 = .ok (.idiv, 1) := by decide +kernel
theorem dX11_fog_63 : decode cX11_fog 63 = .ok (.goto 8, 3) := by decide +kernel
theorem dX11_fog_66 : decode cX11_fog 66 = .ok (.iload 5, 2) := by decide +kernel
theorem dX11_fog_68 : decode cX11_fog 68 = .ok (.iload 6, 2) := by decide +kernel
theorem dX11_fog_70 : decode cX11_fog 70 = .ok (.idiv, 1) := by decide +kernel
theorem dX11_fog_71 : decode cX11_fog 71 = .ok (.ireturn, 1) := by decide +kernel
theorem dX11_sure_0 : decode cX11_sure 0 = .ok (.aload_n 0, 1) := by decide +kernel
theorem dX11_sure_1 : decode cX11_sure 1 = .ok (.iload_n 1, 1) := by decide +kernel
theorem dX11_sure_2 : decode cX11_sure 2 = .ok (.invokevirtual 105, 3) := by decide +kernel
theorem dX11_sure_5 : decode cX11_sure 5 = .ok (.ifCond .eq 10, 3) := by decide +kernel
theorem dX11_sure_8 : decode cX11_sure 8 = .ok (.iload_n 2, 1) := by decide +kernel
theorem dX11_sure_9 : decode cX11_sure 9 = .ok (.invokestatic 222, 3) := by decide +kernel
theorem dX11_sure_12 : decode cX11_sure 12 = .ok (.ifCond .ne 5, 3) := by decide +kernel
theorem dX11_sure_15 : decode cX11_sure 15 = .ok (.iconst (-1), 1) := by decide +kernel
theorem dX11_sure_16 : decode cX11_sure 16 = .ok (.ireturn, 1) := by decide +kernel
theorem dX11_sure_17 : decode cX11_sure 17 = .ok (.iload_n 2, 1) := by decide +kernel
theorem dX11_sure_18 : decode cX11_sure 18 = .ok (.istore_n 3, 1) := by decide +kernel
theorem dX11_sure_19 : decode cX11_sure 19 = .ok (.iconst (-1), 1) := by decide +kernel
theorem dX11_sure_20 : decode cX11_sure 20 = .ok (.istore 4, 2) := by decide +kernel
theorem dX11_sure_22 : decode cX11_sure 22 = .ok (.iload_n 2, 1) := by decide +kernel
theorem dX11_sure_23 : decode cX11_sure 23 = .ok (.istore 5, 2) := by decide +kernel
theorem dX11_sure_25 : decode cX11_sure 25 = .ok (.iload 5, 2) := by decide +kernel
theorem dX11_sure_27 : decode cX11_sure 27 = .ok (.iload_n 2, 1) := by decide +kernel
theorem dX11_sure_28 : decode cX11_sure 28 = .ok (.bipush 60, 2) := by decide +kernel
theorem dX11_sure_30 : decode cX11_sure 30 = .ok (.iadd, 1) := by decide +kernel
theorem dX11_sure_31 : decode cX11_sure 31 = .ok (.if_icmp .ge 48, 3) := by decide +kernel
theorem dX11_sure_34 : decode cX11_sure 34 = .ok (.aload_n 0, 1) := by decide +kernel
theorem dX11_sure_35 : decode cX11_sure 35 = .ok (.iload_n 1, 1) := by decide +kernel
theorem dX11_sure_36 : decode cX11_sure 36 = .ok (.iload 5, 2) := by decide +kernel
theorem dX11_sure_38 : decode cX11_sure 38 = .ok (.invokevirtual 230, 3) := by decide +kernel
theorem dX11_sure_41 : decode cX11_sure 41 = .ok (.istore 6, 2) := by decide +kernel
theorem dX11_sure_43 : decode cX11_sure 43 = .ok (.iload 6, 2) := by decide +kernel
theorem dX11_sure_45 : decode cX11_sure 45 = .ok (.iload 4, 2) := by decide +kernel
theorem dX11_sure_47 : decode cX11_sure 47 = .ok (.if_icmp .le 8, 3) := by decide +kernel
theorem dX11_sure_50 : decode cX11_sure 50 = .ok (.iload 5, 2) := by decide +kernel
theorem dX11_sure_52 : decode cX11_sure 52 = .ok (.goto 4, 3) := by decide +kernel
theorem dX11_sure_55 : decode cX11_sure 55 = .ok (.iload_n 3, 1) := by decide +kernel
theorem dX11_sure_56 : decode cX11_sure 56 = .ok (.istore_n 3, 1) := by decide +kernel
theorem dX11_sure_57 : decode cX11_sure 57 = .ok (.iload 6, 2) := by decide +kernel
theorem dX11_sure_59 : decode cX11_sure 59 = .ok (.iload 4, 2) := by decide +kernel
theorem dX11_sure_61 : decode cX11_sure 61 = .ok (.if_icmp .le 8, 3) := by decide +kernel
theorem dX11_sure_64 : decode cX11_sure 64 = .ok (.iload 6, 2) := by decide +kernel
theorem dX11_sure_66 : decode cX11_sure 66 = .ok (.goto 5, 3) := by decide +kernel
theorem dX11_sure_69 : decode cX11_sure 69 = .ok (.iload 4, 2) := by decide +kernel
theorem dX11_sure_71 : decode cX11_sure 71 = .ok (.istore 4, 2) := by decide +kernel
theorem dX11_sure_73 : decode cX11_sure 73 = .ok (.iinc 5 1, 3) := by decide +kernel
theorem dX11_sure_76 : decode cX11_sure 76 = .ok (.goto (-51), 3) := by decide +kernel
theorem dX11_sure_79 : decode cX11_sure 79 = .ok (.iload_n 3, 1) := by decide +kernel
theorem dX11_sure_80 : decode cX11_sure 80 = .ok (.ireturn, 1) := by decide +kernel
theorem dX11_stones_0 : decode cX11_stones 0 = .ok (.aload_n 0, 1) := by decide +kernel
theorem dX11_stones_1 : decode cX11_stones 1 = .ok (.iload_n 1, 1) := by decide +kernel
theorem dX11_stones_2 : decode cX11_stones 2 = .ok (.invokevirtual 105, 3) := by decide +kernel
theorem dX11_stones_5 : decode cX11_stones 5 = .ok (.ifCond .eq 28, 3) := by decide +kernel
theorem dX11_stones_8 : decode cX11_stones 8 = .ok (.iload_n 2, 1) := by decide +kernel
theorem dX11_stones_9 : decode cX11_stones 9 = .ok (.invokestatic 222, 3) := by decide +kernel
theorem dX11_stones_12 : decode cX11_stones 12 = .ok (.ifCond .eq 21, 3) := by decide +kernel
theorem dX11_stones_15 : decode cX11_stones 15 = .ok (.iload_n 3, 1) := by decide +kernel
theorem dX11_stones_16 : decode cX11_stones 16 = .ok (.i2l, 1) := by decide +kernel
theorem dX11_stones_17 : decode cX11_stones 17 = .ok (.ldc2_w 236, 3) := by decide +kernel
theorem dX11_stones_20 : decode cX11_stones 20 = .ok (.aload_n 0, 1) := by decide +kernel
theorem dX11_stones_21 : decode cX11_stones 21 = .ok (.getfield 63, 3) := by decide +kernel
theorem dX11_stones_24 : decode cX11_stones 24 = .ok (.iconst 1, 1) := by decide +kernel
theorem dX11_stones_25 : decode cX11_stones 25 = .ok (.isub, 1) := by decide +kernel
theorem dX11_stones_26 : decode cX11_stones 26 = .ok (.i2l, 1) := by decide +kernel
theorem dX11_stones_27 : decode cX11_stones 27 = .ok (.invokestatic 66, 3) := by decide +kernel
theorem dX11_stones_30 : decode cX11_stones 30 = .ok (.ifCond .ne 5, 3) := by decide +kernel
theorem dX11_stones_33 : decode cX11_stones 33 = .ok (.iconst (-1), 1) := by decide +kernel
theorem dX11_stones_34 : decode cX11_stones 34 = .ok (.ireturn, 1) := by decide +kernel
theorem dX11_stones_35 : decode cX11_stones 35 = .ok (.iconst 0, 1) := by decide +kernel
theorem dX11_stones_36 : decode cX11_stones 36 = .ok (.istore 4, 2) := by decide +kernel
theorem dX11_stones_38 : decode cX11_stones 38 = .ok (.iconst 0, 1) := by decide +kernel
theorem dX11_stones_39 : decode cX11_stones 39 = .ok (.istore 5, 2) := by decide +kernel
theorem dX11_stones_41 : decode cX11_stones 41 = .ok (.iload_n 2, 1) := by decide +kernel
theorem dX11_stones_42 : decode cX11_stones 42 = .ok (.istore 6, 2) := by decide +kernel
theorem dX11_stones_44 : decode cX11_stones 44 = .ok (.iconst 0, 1) := by decide +kernel
theorem dX11_stones_45 : decode cX11_stones 45 = .ok (.istore 7, 2) := by decide +kernel
theorem dX11_stones_47 : decode cX11_stones 47 = .ok (.iload 7, 2) := by decide +kernel
theorem dX11_stones_49 : decode cX11_stones 49 = .ok (.aload_n 0, 1) := by decide +kernel
theorem dX11_stones_50 : decode cX11_stones 50 = .ok (.getfield 63, 3) := by decide +kernel
theorem dX11_stones_53 : decode cX11_stones 53 = .ok (.if_icmp .ge 124, 3) := by decide +kernel
theorem dX11_stones_56 : decode cX11_stones 56 = .ok (.aload_n 0, 1) := by decide +kernel
theorem dX11_stones_57 : decode cX11_stones 57 = .ok (.getfield 7, 3) := by decide +kernel
theorem dX11_stones_60 : decode cX11_stones 60 = .ok (.iconst 5, 1) := by decide +kernel
theorem dX11_stones_61 : decode cX11_stones 61 = .ok (.iload 7, 2) := by decide +kernel
theorem dX11_stones_63 : decode cX11_stones 63 = .ok (.imul, 1) := by decide +kernel
theorem dX11_stones_64 : decode cX11_stones 64 = .ok (.iconst 2, 1) := by decide +kernel
theorem dX11_stones_65 : decode cX11_stones 65 = .ok (.iadd, 1) := by decide +kernel
theorem dX11_stones_66 : decode cX11_stones 66 = .ok (.iaload, 1) := by decide +kernel
theorem dX11_stones_67 : decode cX11_stones 67 = .ok (.istore 8, 2) := by decide +kernel
theorem dX11_stones_69 : decode cX11_stones 69 = .ok (.iconst (-1), 1) := by decide +kernel
theorem dX11_stones_70 : decode cX11_stones 70 = .ok (.istore 9, 2) := by decide +kernel
theorem dX11_stones_72 : decode cX11_stones 72 = .ok (.aload_n 0, 1) := by decide +kernel
theorem dX11_stones_73 : decode cX11_stones 73 = .ok (.iconst 2, 1) := by decide +kernel
theorem dX11_stones_74 : decode cX11_stones 74 = .ok (.putfield 127, 3) := by decide +kernel
theorem dX11_stones_77 : decode cX11_stones 77 = .ok (.aload_n 0, 1) := by decide +kernel
theorem dX11_stones_78 : decode cX11_stones 78 = .ok (.getfield 127, 3) := by decide +kernel
theorem dX11_stones_81 : decode cX11_stones 81 = .ok (.ifCond .eq 52, 3) := by decide +kernel
theorem dX11_stones_84 : decode cX11_stones 84 = .ok (.iload 9, 2) := by decide +kernel
theorem dX11_stones_86 : decode cX11_stones 86 = .ok (.iload 8, 2) := by decide +kernel
theorem dX11_stones_88 : decode cX11_stones 88 = .ok (.iconst 1, 1) := by decide +kernel
theorem dX11_stones_89 : decode cX11_stones 89 = .ok (.isub, 1) := by decide +kernel
theorem dX11_stones_90 : decode cX11_stones 90 = .ok (.if_icmp .ge 43, 3) := by decide +kernel
theorem dX11_stones_93 : decode cX11_stones 93 = .ok (.iinc 9 1, 3) := by decide +kernel
theorem dX11_stones_96 : decode cX11_stones 96 = .ok (.aload_n 0, 1) := by decide +kernel
theorem dX11_stones_97 : decode cX11_stones 97 = .ok (.iload_n 1, 1) := by decide +kernel
theorem dX11_stones_98 : decode cX11_stones 98 = .ok (.iload 7, 2) := by decide +kernel
theorem dX11_stones_100 : decode cX11_stones 100 = .ok (.aload_n 0, 1) := by decide +kernel
theorem dX11_stones_101 : decode cX11_stones 101 = .ok (.getfield 7, 3) := by decide +kernel
theorem dX11_stones_104 : decode cX11_stones 104 = .ok (.iconst 5, 1) := by decide +kernel
theorem dX11_stones_105 : decode cX11_stones 105 = .ok (.iload 7, 2) := by decide +kernel
theorem dX11_stones_107 : decode cX11_stones 107 = .ok (.imul, 1) := by decide +kernel
theorem dX11_stones_108 : decode cX11_stones 108 = .ok (.iconst 4, 1) := by decide +kernel
theorem dX11_stones_109 : decode cX11_stones 109 = .ok (.iadd, 1) := by decide +kernel
theorem dX11_stones_110 : decode cX11_stones 110 = .ok (.iaload, 1) := by decide +kernel
theorem dX11_stones_111 : decode cX11_stones 111 = .ok (.iload 8, 2) := by decide +kernel
theorem dX11_stones_113 : decode cX11_stones 113 = .ok (.iadd, 1) := by decide +kernel
theorem dX11_stones_114 : decode cX11_stones 114 = .ok (.iload 9, 2) := by decide +kernel
theorem dX11_stones_116 : decode cX11_stones 116 = .ok (.isub, 1) := by decide +kernel
theorem dX11_stones_117 : decode cX11_stones 117 = .ok (.iload 8, 2) := by decide +kernel
theorem dX11_stones_119 : decode cX11_stones 119 = .ok (.irem, 1) := by decide +kernel
theorem dX11_stones_120 : decode cX11_stones 120 = .ok (.iload 6, 2) := by decide +kernel
theorem dX11_stones_122 : decode cX11_stones 122 = .ok (.aload_n 0, 1) := by decide +kernel
theorem dX11_stones_123 : decode cX11_stones 123 = .ok (.iload_n 1, 1) := by decide +kernel
theorem dX11_stones_124 : decode cX11_stones 124 = .ok (.invokevirtual 101, 3) := by decide +kernel
theorem dX11_stones_127 : decode cX11_stones 127 = .ok (.invokevirtual 139, 3) := by decide +kernel
theorem dX11_stones_130 : decode cX11_stones 130 = .ok (.goto (-53), 3) := by decide +kernel
theorem dX11_stones_133 : decode cX11_stones 133 = .ok (.aload_n 0, 1) := by decide +kernel
theorem dX11_stones_134 : decode cX11_stones 134 = .ok (.getfield 127, 3) := by decide +kernel
theorem dX11_stones_137 : decode cX11_stones 137 = .ok (.ifCond .eq 6, 3) := by decide +kernel
theorem dX11_stones_140 : decode cX11_stones 140 = .ok (.bipush (-4), 2) := by decide +kernel
theorem dX11_stones_142 : decode cX11_stones 142 = .ok (.ireturn, 1) := by decide +kernel
theorem dX11_stones_143 : decode cX11_stones 143 = .ok (.iload 4, 2) := by decide +kernel
theorem dX11_stones_145 : decode cX11_stones 145 = .ok (.iload 9, 2) := by decide +kernel
theorem dX11_stones_147 : decode cX11_stones 147 = .ok (.iadd, 1) := by decide +kernel
theorem dX11_stones_148 : decode cX11_stones 148 = .ok (.istore 4, 2) := by decide +kernel
theorem dX11_stones_150 : decode cX11_stones 150 = .ok (.iload 7, 2) := by decide +kernel
theorem dX11_stones_152 : decode cX11_stones 152 = .ok (.iload_n 3, 1) := by decide +kernel
theorem dX11_stones_153 : decode cX11_stones 153 = .ok (.if_icmp .ne 8, 3) := by decide +kernel
theorem dX11_stones_156 : decode cX11_stones 156 = .ok (.iload 9, 2) := by decide +kernel
theorem dX11_stones_158 : decode cX11_stones 158 = .ok (.goto 5, 3) := by decide +kernel
theorem dX11_stones_161 : decode cX11_stones 161 = .ok (.iload 5, 2) := by decide +kernel
theorem dX11_stones_163 : decode cX11_stones 163 = .ok (.istore 5, 2) := by decide +kernel
theorem dX11_stones_165 : decode cX11_stones 165 = .ok (.aload_n 0, 1) := by decide +kernel
theorem dX11_stones_166 : decode cX11_stones 166 = .ok (.getfield 130, 3) := by decide +kernel
theorem dX11_stones_169 : decode cX11_stones 169 = .ok (.istore 6, 2) := by decide +kernel
theorem dX11_stones_171 : decode cX11_stones 171 = .ok (.iinc 7 1, 3) := by decide +kernel
theorem dX11_stones_174 : decode cX11_stones 174 = .ok (.goto (-127), 3) := by decide +kernel
theorem dX11_stones_177 : decode cX11_stones 177 = .ok (.iload_n 3, 1) := by decide +kernel
theorem dX11_stones_178 : decode cX11_stones 178 = .ok (.ifCond .ge 8, 3) := by decide +kernel
theorem dX11_stones_181 : decode cX11_stones 181 = .ok (.iload 4, 2) := by decide +kernel
theorem dX11_stones_183 : decode cX11_stones 183 = .ok (.goto 5, 3) := by decide +kernel
theorem dX11_stones_186 : decode cX11_stones 186 = .ok (.iload 5, 2) := by decide +kernel
theorem dX11_stones_188 : decode cX11_stones 188 = .ok (.ireturn, 1) := by decide +kernel
theorem dX11_many_0 : decode cX11_many 0 = .ok (.iconst 0, 1) := by decide +kernel
theorem dX11_many_1 : decode cX11_many 1 = .ok (.istore_n 1, 1) := by decide +kernel
theorem dX11_many_2 : decode cX11_many 2 = .ok (.iload_n 0, 1) := by decide +kernel
theorem dX11_many_3 : decode cX11_many 3 = .ok (.istore_n 2, 1) := by decide +kernel
theorem dX11_many_4 : decode cX11_many 4 = .ok (.iload_n 2, 1) := by decide +kernel
theorem dX11_many_5 : decode cX11_many 5 = .ok (.ifCond .eq 15, 3) := by decide +kernel
theorem dX11_many_8 : decode cX11_many 8 = .ok (.iinc 1 1, 3) := by decide +kernel
theorem dX11_many_11 : decode cX11_many 11 = .ok (.iload_n 2, 1) := by decide +kernel
theorem dX11_many_12 : decode cX11_many 12 = .ok (.iload_n 2, 1) := by decide +kernel
theorem dX11_many_13 : decode cX11_many 13 = .ok (.iconst 1, 1) := by decide +kernel
theorem dX11_many_14 : decode cX11_many 14 = .ok (.isub, 1) := by decide +kernel
theorem dX11_many_15 : decode cX11_many 15 = .ok (.iand, 1) := by decide +kernel
theorem dX11_many_16 : decode cX11_many 16 = .ok (.istore_n 2, 1) := by decide +kernel
theorem dX11_many_17 : decode cX11_many 17 = .ok (.goto (-13), 3) := by decide +kernel
theorem dX11_many_20 : decode cX11_many 20 = .ok (.iload_n 1, 1) := by decide +kernel
theorem dX11_many_21 : decode cX11_many 21 = .ok (.ireturn, 1) := by decide +kernel
theorem dX11_convoy_0 : decode cX11_convoy 0 = .ok (.aload_n 0, 1) := by decide +kernel
theorem dX11_convoy_1 : decode cX11_convoy 1 = .ok (.iload_n 1, 1) := by decide +kernel
theorem dX11_convoy_2 : decode cX11_convoy 2 = .ok (.invokevirtual 87, 3) := by decide +kernel
theorem dX11_convoy_5 : decode cX11_convoy 5 = .ok (.ifCond .eq 28, 3) := by decide +kernel
theorem dX11_convoy_8 : decode cX11_convoy 8 = .ok (.iload_n 2, 1) := by decide +kernel
theorem dX11_convoy_9 : decode cX11_convoy 9 = .ok (.invokestatic 222, 3) := by decide +kernel
theorem dX11_convoy_12 : decode cX11_convoy 12 = .ok (.ifCond .eq 21, 3) := by decide +kernel
theorem dX11_convoy_15 : decode cX11_convoy 15 = .ok (.iload_n 3, 1) := by decide +kernel
theorem dX11_convoy_16 : decode cX11_convoy 16 = .ok (.i2l, 1) := by decide +kernel
theorem dX11_convoy_17 : decode cX11_convoy 17 = .ok (.lconst 0, 1) := by decide +kernel
theorem dX11_convoy_18 : decode cX11_convoy 18 = .ok (.iconst 1, 1) := by decide +kernel
theorem dX11_convoy_19 : decode cX11_convoy 19 = .ok (.aload_n 0, 1) := by decide +kernel
theorem dX11_convoy_20 : decode cX11_convoy 20 = .ok (.getfield 70, 3) := by decide +kernel
theorem dX11_convoy_23 : decode cX11_convoy 23 = .ok (.ishl, 1) := by decide +kernel
theorem dX11_convoy_24 : decode cX11_convoy 24 = .ok (.iconst 1, 1) := by decide +kernel
theorem dX11_convoy_25 : decode cX11_convoy 25 = .ok (.isub, 1) := by decide +kernel
theorem dX11_convoy_26 : decode cX11_convoy 26 = .ok (.i2l, 1) := by decide +kernel
theorem dX11_convoy_27 : decode cX11_convoy 27 = .ok (.invokestatic 66, 3) := by decide +kernel
theorem dX11_convoy_30 : decode cX11_convoy 30 = .ok (.ifCond .ne 5, 3) := by decide +kernel
theorem dX11_convoy_33 : decode cX11_convoy 33 = .ok (.iconst (-1), 1) := by decide +kernel
theorem dX11_convoy_34 : decode cX11_convoy 34 = .ok (.ireturn, 1) := by decide +kernel
theorem dX11_convoy_35 : decode cX11_convoy 35 = .ok (.iconst 0, 1) := by decide +kernel
theorem dX11_convoy_36 : decode cX11_convoy 36 = .ok (.istore 4, 2) := by decide +kernel
theorem dX11_convoy_38 : decode cX11_convoy 38 = .ok (.iload 4, 2) := by decide +kernel
theorem dX11_convoy_40 : decode cX11_convoy 40 = .ok (.bipush 60, 2) := by decide +kernel
theorem dX11_convoy_42 : decode cX11_convoy 42 = .ok (.if_icmp .ge 31, 3) := by decide +kernel
theorem dX11_convoy_45 : decode cX11_convoy 45 = .ok (.aload_n 0, 1) := by decide +kernel
theorem dX11_convoy_46 : decode cX11_convoy 46 = .ok (.iload_n 1, 1) := by decide +kernel
theorem dX11_convoy_47 : decode cX11_convoy 47 = .ok (.iload_n 2, 1) := by decide +kernel
theorem dX11_convoy_48 : decode cX11_convoy 48 = .ok (.iload 4, 2) := by decide +kernel
theorem dX11_convoy_50 : decode cX11_convoy 50 = .ok (.iadd, 1) := by decide +kernel
theorem dX11_convoy_51 : decode cX11_convoy 51 = .ok (.aload_n 0, 1) := by decide +kernel
theorem dX11_convoy_52 : decode cX11_convoy 52 = .ok (.getfield 7, 3) := by decide +kernel
theorem dX11_convoy_55 : decode cX11_convoy 55 = .ok (.iconst 5, 1) := by decide +kernel
theorem dX11_convoy_56 : decode cX11_convoy 56 = .ok (.iload_n 1, 1) := by decide +kernel
theorem dX11_convoy_57 : decode cX11_convoy 57 = .ok (.imul, 1) := by decide +kernel
theorem dX11_convoy_58 : decode cX11_convoy 58 = .ok (.iconst 4, 1) := by decide +kernel
theorem dX11_convoy_59 : decode cX11_convoy 59 = .ok (.iadd, 1) := by decide +kernel
theorem dX11_convoy_60 : decode cX11_convoy 60 = .ok (.iaload, 1) := by decide +kernel
theorem dX11_convoy_61 : decode cX11_convoy 61 = .ok (.invokevirtual 120, 3) := by decide +kernel
theorem dX11_convoy_64 : decode cX11_convoy 64 = .ok (.ifCond .eq 9, 3) := by decide +kernel
theorem dX11_convoy_67 : decode cX11_convoy 67 = .ok (.iinc 4 1, 3) := by decide +kernel
theorem dX11_convoy_70 : decode cX11_convoy 70 = .ok (.goto (-32), 3) := by decide +kernel
theorem dX11_convoy_73 : decode cX11_convoy 73 = .ok (.iconst 0, 1) := by decide +kernel
theorem dX11_convoy_74 : decode cX11_convoy 74 = .ok (.istore 5, 2) := by decide +kernel
theorem dX11_convoy_76 : decode cX11_convoy 76 = .ok (.iconst 1, 1) := by decide +kernel
theorem dX11_convoy_77 : decode cX11_convoy 77 = .ok (.istore 6, 2) := by decide +kernel
theorem dX11_convoy_79 : decode cX11_convoy 79 = .ok (.iload 6, 2) := by decide +kernel
theorem dX11_convoy_81 : decode cX11_convoy 81 = .ok (.iload_n 3, 1) := by decide +kernel
theorem dX11_convoy_82 : decode cX11_convoy 82 = .ok (.if_icmp .gt 103, 3) := by decide +kernel
theorem dX11_convoy_85 : decode cX11_convoy 85 = .ok (.iconst 0, 1) := by decide +kernel
theorem dX11_convoy_86 : decode cX11_convoy 86 = .ok (.istore 7, 2) := by decide +kernel
theorem dX11_convoy_88 : decode cX11_convoy 88 = .ok (.iconst 0, 1) := by decide +kernel
theorem dX11_convoy_89 : decode cX11_convoy 89 = .ok (.istore 8, 2) := by decide +kernel
theorem dX11_convoy_91 : decode cX11_convoy 91 = .ok (.iload 8, 2) := by decide +kernel
theorem dX11_convoy_93 : decode cX11_convoy 93 = .ok (.aload_n 0, 1) := by decide +kernel
theorem dX11_convoy_94 : decode cX11_convoy 94 = .ok (.getfield 70, 3) := by decide +kernel
theorem dX11_convoy_97 : decode cX11_convoy 97 = .ok (.if_icmp .ge 44, 3) := by decide +kernel
theorem dX11_convoy_100 : decode cX11_convoy 100 = .ok (.iload 7, 2) := by decide +kernel
theorem dX11_convoy_102 : decode cX11_convoy 102 = .ok (.iload 6, 2) := by decide +kernel
theorem dX11_convoy_104 : decode cX11_convoy 104 = .ok (.iload 8, 2) := by decide +kernel
theorem dX11_convoy_106 : decode cX11_convoy 106 = .ok (.ishr, 1) := by decide +kernel
theorem dX11_convoy_107 : decode cX11_convoy 107 = .ok (.iconst 1, 1) := by decide +kernel
theorem dX11_convoy_108 : decode cX11_convoy 108 = .ok (.iand, 1) := by decide +kernel
theorem dX11_convoy_109 : decode cX11_convoy 109 = .ok (.iconst 1, 1) := by decide +kernel
theorem dX11_convoy_110 : decode cX11_convoy 110 = .ok (.if_icmp .ne 21, 3) := by decide +kernel
theorem dX11_convoy_113 : decode cX11_convoy 113 = .ok (.aload_n 0, 1) := by decide +kernel
theorem dX11_convoy_114 : decode cX11_convoy 114 = .ok (.iload 8, 2) := by decide +kernel
theorem dX11_convoy_116 : decode cX11_convoy 116 = .ok (.invokevirtual 111, 3) := by decide +kernel
theorem dX11_convoy_119 : decode cX11_convoy 119 = .ok (.aload_n 0, 1) := by decide +kernel
theorem dX11_convoy_120 : decode cX11_convoy 120 = .ok (.iload 8, 2) := by decide +kernel
theorem dX11_convoy_122 : decode cX11_convoy 122 = .ok (.invokevirtual 101, 3) := by decide +kernel
theorem dX11_convoy_125 : decode cX11_convoy 125 = .ok (.invokestatic 123, 3) := by decide +kernel
theorem dX11_convoy_128 : decode cX11_convoy 128 = .ok (.goto 4, 3) := by decide +kernel
theorem dX11_convoy_131 : decode cX11_convoy 131 = .ok (.iconst 0, 1) := by decide +kernel
theorem dX11_convoy_132 : decode cX11_convoy 132 = .ok (.iadd, 1) := by decide +kernel
theorem dX11_convoy_133 : decode cX11_convoy 133 = .ok (.istore 7, 2) := by decide +kernel
theorem dX11_convoy_135 : decode cX11_convoy 135 = .ok (.iinc 8 1, 3) := by decide +kernel
theorem dX11_convoy_138 : decode cX11_convoy 138 = .ok (.goto (-47), 3) := by decide +kernel
theorem dX11_convoy_141 : decode cX11_convoy 141 = .ok (.iload 6, 2) := by decide +kernel
theorem dX11_convoy_143 : decode cX11_convoy 143 = .ok (.iload_n 3, 1) := by decide +kernel
theorem dX11_convoy_144 : decode cX11_convoy 144 = .ok (.iconst (-1), 1) := by decide +kernel
theorem dX11_convoy_145 : decode cX11_convoy 145 = .ok (.ixor, 1) := by decide +kernel
theorem dX11_convoy_146 : decode cX11_convoy 146 = .ok (.iand, 1) := by decide +kernel
theorem dX11_convoy_147 : decode cX11_convoy 147 = .ok (.ifCond .ne 28, 3) := by decide +kernel
theorem dX11_convoy_150 : decode cX11_convoy 150 = .ok (.iload 7, 2) := by decide +kernel
theorem dX11_convoy_152 : decode cX11_convoy 152 = .ok (.iload 4, 2) := by decide +kernel
theorem dX11_convoy_154 : decode cX11_convoy 154 = .ok (.if_icmp .gt 21, 3) := by decide +kernel
theorem dX11_convoy_157 : decode cX11_convoy 157 = .ok (.iload 6, 2) := by decide +kernel
theorem dX11_convoy_159 : decode cX11_convoy 159 = .ok (.invokestatic 238, 3) := by decide +kernel
theorem dX11_convoy_162 : decode cX11_convoy 162 = .ok (.iload 5, 2) := by decide +kernel
theorem dX11_convoy_164 : decode cX11_convoy 164 = .ok (.invokestatic 238, 3) := by decide +kernel
theorem dX11_convoy_167 : decode cX11_convoy 167 = .ok (.if_icmp .le 8, 3) := by decide +kernel
theorem dX11_convoy_170 : decode cX11_convoy 170 = .ok (.iload 6, 2) := by decide +kernel
theorem dX11_convoy_172 : decode cX11_convoy 172 = .ok (.goto 5, 3) := by decide +kernel
theorem dX11_convoy_175 : decode cX11_convoy 175 = .ok (.iload 5, 2) := by decide +kernel
theorem dX11_convoy_177 : decode cX11_convoy 177 = .ok (.istore 5, 2) := by decide +kernel
theorem dX11_convoy_179 : decode cX11_convoy 179 = .ok (.iinc 6 1, 3) := by decide +kernel
theorem dX11_convoy_182 : decode cX11_convoy 182 = .ok (.goto (-103), 3) := by decide +kernel
theorem dX11_convoy_185 : decode cX11_convoy 185 = .ok (.iload 5, 2) := by decide +kernel
theorem dX11_convoy_187 : decode cX11_convoy 187 = .ok (.ireturn, 1) := by decide +kernel
theorem dX11_rudder_0 : decode cX11_rudder 0 = .ok (.aload_n 0, 1) := by decide +kernel
theorem dX11_rudder_1 : decode cX11_rudder 1 = .ok (.iload_n 1, 1) := by decide +kernel
theorem dX11_rudder_2 : decode cX11_rudder 2 = .ok (.invokevirtual 105, 3) := by decide +kernel
theorem dX11_rudder_5 : decode cX11_rudder 5 = .ok (.ifCond .eq 22, 3) := by decide +kernel
theorem dX11_rudder_8 : decode cX11_rudder 8 = .ok (.iload_n 2, 1) := by decide +kernel
theorem dX11_rudder_9 : decode cX11_rudder 9 = .ok (.invokestatic 222, 3) := by decide +kernel
theorem dX11_rudder_12 : decode cX11_rudder 12 = .ok (.ifCond .eq 15, 3) := by decide +kernel
theorem dX11_rudder_15 : decode cX11_rudder 15 = .ok (.iload_n 3, 1) := by decide +kernel
theorem dX11_rudder_16 : decode cX11_rudder 16 = .ok (.i2l, 1) := by decide +kernel
theorem dX11_rudder_17 : decode cX11_rudder 17 = .ok (.lconst 0, 1) := by decide +kernel
theorem dX11_rudder_18 : decode cX11_rudder 18 = .ok (.ldc2_w 241, 3) := by decide +kernel
theorem dX11_rudder_21 : decode cX11_rudder 21 = .ok (.invokestatic 66, 3) := by decide +kernel
theorem dX11_rudder_24 : decode cX11_rudder 24 = .ok (.ifCond .ne 5, 3) := by decide +kernel
theorem dX11_rudder_27 : decode cX11_rudder 27 = .ok (.iconst (-1), 1) := by decide +kernel
theorem dX11_rudder_28 : decode cX11_rudder 28 = .ok (.ireturn, 1) := by decide +kernel
theorem dX11_rudder_29 : decode cX11_rudder 29 = .ok (.iconst 0, 1) := by decide +kernel
theorem dX11_rudder_30 : decode cX11_rudder 30 = .ok (.istore 4, 2) := by decide +kernel
theorem dX11_rudder_32 : decode cX11_rudder 32 = .ok (.iload_n 2, 1) := by decide +kernel
theorem dX11_rudder_33 : decode cX11_rudder 33 = .ok (.istore 5, 2) := by decide +kernel
theorem dX11_rudder_35 : decode cX11_rudder 35 = .ok (.iload 5, 2) := by decide +kernel
theorem dX11_rudder_37 : decode cX11_rudder 37 = .ok (.iload_n 2, 1) := by decide +kernel
theorem dX11_rudder_38 : decode cX11_rudder 38 = .ok (.iload_n 3, 1) := by decide +kernel
theorem dX11_rudder_39 : decode cX11_rudder 39 = .ok (.iadd, 1) := by decide +kernel
theorem dX11_rudder_40 : decode cX11_rudder 40 = .ok (.if_icmp .gt 38, 3) := by decide +kernel
theorem dX11_rudder_43 : decode cX11_rudder 43 = .ok (.aload_n 0, 1) := by decide +kernel
theorem dX11_rudder_44 : decode cX11_rudder 44 = .ok (.iload_n 1, 1) := by decide +kernel
theorem dX11_rudder_45 : decode cX11_rudder 45 = .ok (.iload 5, 2) := by decide +kernel
theorem dX11_rudder_47 : decode cX11_rudder 47 = .ok (.invokevirtual 211, 3) := by decide +kernel
theorem dX11_rudder_50 : decode cX11_rudder 50 = .ok (.iload 4, 2) := by decide +kernel
theorem dX11_rudder_52 : decode cX11_rudder 52 = .ok (.aload_n 0, 1) := by decide +kernel
theorem dX11_rudder_53 : decode cX11_rudder 53 = .ok (.getfield 133, 3) := by decide +kernel
theorem dX11_rudder_56 : decode cX11_rudder 56 = .ok (.bipush (-4), 2) := by decide +kernel
theorem dX11_rudder_58 : decode cX11_rudder 58 = .ok (.if_icmp .ne 10, 3) := by decide +kernel
theorem dX11_rudder_61 : decode cX11_rudder 61 = .ok (.aload_n 0, 1) := by decide +kernel
theorem dX11_rudder_62 : decode cX11_rudder 62 = .ok (.getfield 136, 3) := by decide +kernel
theorem dX11_rudder_65 : decode cX11_rudder 65 = .ok (.goto 4, 3) := by decide +kernel
theorem dX11_rudder_68 : decode cX11_rudder 68 = .ok (.iconst 0, 1) := by decide +kernel
theorem dX11_rudder_69 : decode cX11_rudder 69 = .ok (.ior, 1) := by decide +kernel
theorem dX11_rudder_70 : decode cX11_rudder 70 = .ok (.istore 4, 2) := by decide +kernel
theorem dX11_rudder_72 : decode cX11_rudder 72 = .ok (.iinc 5 1, 3) := by decide +kernel
theorem dX11_rudder_75 : decode cX11_rudder 75 = .ok (.goto (-40), 3) := by decide +kernel
theorem dX11_rudder_78 : decode cX11_rudder 78 = .ok (.iload 4, 2) := by decide +kernel
theorem dX11_rudder_80 : decode cX11_rudder 80 = .ok (.ireturn, 1) := by decide +kernel
theorem dX11_worth_0 : decode cX11_worth 0 = .ok (.aload_n 0, 1) := by decide +kernel
theorem dX11_worth_1 : decode cX11_worth 1 = .ok (.iload_n 1, 1) := by decide +kernel
theorem dX11_worth_2 : decode cX11_worth 2 = .ok (.invokevirtual 105, 3) := by decide +kernel
theorem dX11_worth_5 : decode cX11_worth 5 = .ok (.ifCond .eq 11, 3) := by decide +kernel
theorem dX11_worth_8 : decode cX11_worth 8 = .ok (.aload_n 0, 1) := by decide +kernel
theorem dX11_worth_9 : decode cX11_worth 9 = .ok (.iload_n 2, 1) := by decide +kernel
theorem dX11_worth_10 : decode cX11_worth 10 = .ok (.invokevirtual 87, 3) := by decide +kernel
theorem dX11_worth_13 : decode cX11_worth 13 = .ok (.ifCond .ne 5, 3) := by decide +kernel
theorem dX11_worth_16 : decode cX11_worth 16 = .ok (.iconst (-1), 1) := by decide +kernel
theorem dX11_worth_17 : decode cX11_worth 17 = .ok (.ireturn, 1) := by decide +kernel
theorem dX11_worth_18 : decode cX11_worth 18 = .ok (.aload_n 0, 1) := by decide +kernel
theorem dX11_worth_19 : decode cX11_worth 19 = .ok (.getfield 7, 3) := by decide +kernel
theorem dX11_worth_22 : decode cX11_worth 22 = .ok (.iconst 5, 1) := by decide +kernel
theorem dX11_worth_23 : decode cX11_worth 23 = .ok (.iload_n 2, 1) := by decide +kernel
theorem dX11_worth_24 : decode cX11_worth 24 = .ok (.imul, 1) := by decide +kernel
theorem dX11_worth_25 : decode cX11_worth 25 = .ok (.iconst 3, 1) := by decide +kernel
theorem dX11_worth_26 : decode cX11_worth 26 = .ok (.iadd, 1) := by decide +kernel
theorem dX11_worth_27 : decode cX11_worth 27 = .ok (.iaload, 1) := by decide +kernel
theorem dX11_worth_28 : decode cX11_worth 28 = .ok (.istore_n 3, 1) := by decide +kernel
theorem dX11_worth_29 : decode cX11_worth 29 = .ok (.aload_n 0, 1) := by decide +kernel
theorem dX11_worth_30 : decode cX11_worth 30 = .ok (.getfield 7, 3) := by decide +kernel
theorem dX11_worth_33 : decode cX11_worth 33 = .ok (.iconst 5, 1) := by decide +kernel
theorem dX11_worth_34 : decode cX11_worth 34 = .ok (.iload_n 2, 1) := by decide +kernel
theorem dX11_worth_35 : decode cX11_worth 35 = .ok (.imul, 1) := by decide +kernel
theorem dX11_worth_36 : decode cX11_worth 36 = .ok (.iaload, 1) := by decide +kernel
theorem dX11_worth_37 : decode cX11_worth 37 = .ok (.istore 4, 2) := by decide +kernel
theorem dX11_worth_39 : decode cX11_worth 39 = .ok (.iconst 0, 1) := by decide +kernel
theorem dX11_worth_40 : decode cX11_worth 40 = .ok (.istore 5, 2) := by decide +kernel
theorem dX11_worth_42 : decode cX11_worth 42 = .ok (.iconst 0, 1) := by decide +kernel
theorem dX11_worth_43 : decode cX11_worth 43 = .ok (.istore 6, 2) := by decide +kernel
theorem dX11_worth_45 : decode cX11_worth 45 = .ok (.iload 6, 2) := by decide +kernel
theorem dX11_worth_47 : decode cX11_worth 47 = .ok (.bipush 60, 2) := by decide +kernel
theorem dX11_worth_49 : decode cX11_worth 49 = .ok (.if_icmp .ge 107, 3) := by decide +kernel
theorem dX11_worth_52 : decode cX11_worth 52 = .ok (.aload_n 0, 1) := by decide +kernel
theorem dX11_worth_53 : decode cX11_worth 53 = .ok (.iload_n 1, 1) := by decide +kernel
theorem dX11_worth_54 : decode cX11_worth 54 = .ok (.iload 6, 2) := by decide +kernel
theorem dX11_worth_56 : decode cX11_worth 56 = .ok (.invokevirtual 211, 3) := by decide +kernel
theorem dX11_worth_59 : decode cX11_worth 59 = .ok (.iload 5, 2) := by decide +kernel
theorem dX11_worth_61 : decode cX11_worth 61 = .ok (.aload_n 0, 1) := by decide +kernel
theorem dX11_worth_62 : decode cX11_worth 62 = .ok (.invokevirtual 243, 3) := by decide +kernel
theorem dX11_worth_65 : decode cX11_worth 65 = .ok (.ifCond .eq 7, 3) := by decide +kernel
theorem dX11_worth_68 : decode cX11_worth 68 = .ok (.iconst 1, 1) := by decide +kernel
theorem dX11_worth_69 : decode cX11_worth 69 = .ok (.goto 4, 3) := by decide +kernel
theorem dX11_worth_72 : decode cX11_worth 72 = .ok (.iconst 0, 1) := by decide +kernel
theorem dX11_worth_73 : decode cX11_worth 73 = .ok (.isub, 1) := by decide +kernel
theorem dX11_worth_74 : decode cX11_worth 74 = .ok (.istore 5, 2) := by decide +kernel
theorem dX11_worth_76 : decode cX11_worth 76 = .ok (.aload_n 0, 1) := by decide +kernel
theorem dX11_worth_77 : decode cX11_worth 77 = .ok (.getfield 7, 3) := by decide +kernel
theorem dX11_worth_80 : decode cX11_worth 80 = .ok (.iconst 5, 1) := by decide +kernel
theorem dX11_worth_81 : decode cX11_worth 81 = .ok (.iload_n 2, 1) := by decide +kernel
theorem dX11_worth_82 : decode cX11_worth 82 = .ok (.imul, 1) := by decide +kernel
theorem dX11_worth_83 : decode cX11_worth 83 = .ok (.iconst 0, 1) := by decide +kernel
theorem dX11_worth_84 : decode cX11_worth 84 = .ok (.iastore, 1) := by decide +kernel
theorem dX11_worth_85 : decode cX11_worth 85 = .ok (.aload_n 0, 1) := by decide +kernel
theorem dX11_worth_86 : decode cX11_worth 86 = .ok (.getfield 7, 3) := by decide +kernel
theorem dX11_worth_89 : decode cX11_worth 89 = .ok (.iconst 5, 1) := by decide +kernel
theorem dX11_worth_90 : decode cX11_worth 90 = .ok (.iload_n 2, 1) := by decide +kernel
theorem dX11_worth_91 : decode cX11_worth 91 = .ok (.imul, 1) := by decide +kernel
theorem dX11_worth_92 : decode cX11_worth 92 = .ok (.iconst 3, 1) := by decide +kernel
theorem dX11_worth_93 : decode cX11_worth 93 = .ok (.iadd, 1) := by decide +kernel
theorem dX11_worth_94 : decode cX11_worth 94 = .ok (.aload_n 0, 1) := by decide +kernel
theorem dX11_worth_95 : decode cX11_worth 95 = .ok (.getfield 7, 3) := by decide +kernel
theorem dX11_worth_98 : decode cX11_worth 98 = .ok (.iconst 5, 1) := by decide +kernel
theorem dX11_worth_99 : decode cX11_worth 99 = .ok (.iload_n 2, 1) := by decide +kernel
theorem dX11_worth_100 : decode cX11_worth 100 = .ok (.imul, 1) := by decide +kernel
theorem dX11_worth_101 : decode cX11_worth 101 = .ok (.iconst 2, 1) := by decide +kernel
theorem dX11_worth_102 : decode cX11_worth 102 = .ok (.iadd, 1) := by decide +kernel
theorem dX11_worth_103 : decode cX11_worth 103 = .ok (.iaload, 1) := by decide +kernel
theorem dX11_worth_104 : decode cX11_worth 104 = .ok (.iastore, 1) := by decide +kernel
theorem dX11_worth_105 : decode cX11_worth 105 = .ok (.aload_n 0, 1) := by decide +kernel
theorem dX11_worth_106 : decode cX11_worth 106 = .ok (.iload_n 1, 1) := by decide +kernel
theorem dX11_worth_107 : decode cX11_worth 107 = .ok (.iload 6, 2) := by decide +kernel
theorem dX11_worth_109 : decode cX11_worth 109 = .ok (.invokevirtual 211, 3) := by decide +kernel
theorem dX11_worth_112 : decode cX11_worth 112 = .ok (.iload 5, 2) := by decide +kernel
theorem dX11_worth_114 : decode cX11_worth 114 = .ok (.aload_n 0, 1) := by decide +kernel
theorem dX11_worth_115 : decode cX11_worth 115 = .ok (.invokevirtual 243, 3) := by decide +kernel
theorem dX11_worth_118 : decode cX11_worth 118 = .ok (.ifCond .eq 7, 3) := by decide +kernel
theorem dX11_worth_121 : decode cX11_worth 121 = .ok (.iconst 1, 1) := by decide +kernel
theorem dX11_worth_122 : decode cX11_worth 122 = .ok (.goto 4, 3) := by decide +kernel
theorem dX11_worth_125 : decode cX11_worth 125 = .ok (.iconst 0, 1) := by decide +kernel
theorem dX11_worth_126 : decode cX11_worth 126 = .ok (.iadd, 1) := by decide +kernel
theorem dX11_worth_127 : decode cX11_worth 127 = .ok (.istore 5, 2) := by decide +kernel
theorem dX11_worth_129 : decode cX11_worth 129 = .ok (.aload_n 0, 1) := by decide +kernel
theorem dX11_worth_130 : decode cX11_worth 130 = .ok (.getfield 7, 3) := by decide +kernel
theorem dX11_worth_133 : decode cX11_worth 133 = .ok (.iconst 5, 1) := by decide +kernel
theorem dX11_worth_134 : decode cX11_worth 134 = .ok (.iload_n 2, 1) := by decide +kernel
theorem dX11_worth_135 : decode cX11_worth 135 = .ok (.imul, 1) := by decide +kernel
theorem dX11_worth_136 : decode cX11_worth 136 = .ok (.iload 4, 2) := by decide +kernel
theorem dX11_worth_138 : decode cX11_worth 138 = .ok (.iastore, 1) := by decide +kernel
theorem dX11_worth_139 : decode cX11_worth 139 = .ok (.aload_n 0, 1) := by decide +kernel
theorem dX11_worth_140 : decode cX11_worth 140 = .ok (.getfield 7, 3) := by decide +kernel
theorem dX11_worth_143 : decode cX11_worth 143 = .ok (.iconst 5, 1) := by decide +kernel
theorem dX11_worth_144 : decode cX11_worth 144 = .ok (.iload_n 2, 1) := by decide +kernel
theorem dX11_worth_145 : decode cX11_worth 145 = .ok (.imul, 1) := by decide +kernel
theorem dX11_worth_146 : decode cX11_worth 146 = .ok (.iconst 3, 1) := by decide +kernel
theorem dX11_worth_147 : decode cX11_worth 147 = .ok (.iadd, 1) := by decide +kernel
theorem dX11_worth_148 : decode cX11_worth 148 = .ok (.iload_n 3, 1) := by decide +kernel
theorem dX11_worth_149 : decode cX11_worth 149 = .ok (.iastore, 1) := by decide +kernel
theorem dX11_worth_150 : decode cX11_worth 150 = .ok (.iinc 6 1, 3) := by decide +kernel
theorem dX11_worth_153 : decode cX11_worth 153 = .ok (.goto (-108), 3) := by decide +kernel
theorem dX11_worth_156 : decode cX11_worth 156 = .ok (.iload 5, 2) := by decide +kernel
theorem dX11_worth_158 : decode cX11_worth 158 = .ok (.ireturn, 1) := by decide +kernel
theorem dX11_look_0 : decode cX11_look 0 = .ok (.iload_n 1, 1) := by decide +kernel
theorem dX11_look_1 : decode cX11_look 1 = .ok (.invokestatic 222, 3) := by decide +kernel
theorem dX11_look_4 : decode cX11_look 4 = .ok (.ifCond .eq 13, 3) := by decide +kernel
theorem dX11_look_7 : decode cX11_look 7 = .ok (.iload_n 2, 1) := by decide +kernel
theorem dX11_look_8 : decode cX11_look 8 = .ok (.i2l, 1) := by decide +kernel
theorem dX11_look_9 : decode cX11_look 9 = .ok (.lconst 0, 1) := by decide +kernel
theorem dX11_look_10 : decode cX11_look 10 = .ok (.lconst 1, 1) := by decide +kernel
theorem dX11_look_11 : decode cX11_look 11 = .ok (.invokestatic 66, 3) := by decide +kernel
theorem dX11_look_14 : decode cX11_look 14 = .ok (.ifCond .ne 5, 3) := by decide +kernel
theorem dX11_look_17 : decode cX11_look 17 = .ok (.iconst (-1), 1) := by decide +kernel
theorem dX11_look_18 : decode cX11_look 18 = .ok (.ireturn, 1) := by decide +kernel
theorem dX11_look_19 : decode cX11_look 19 = .ok (.aload_n 0, 1) := by decide +kernel
theorem dX11_look_20 : decode cX11_look 20 = .ok (.getfield 200, 3) := by decide +kernel
theorem dX11_look_23 : decode cX11_look 23 = .ok (.bipush 12, 2) := by decide +kernel
theorem dX11_look_25 : decode cX11_look 25 = .ok (.if_icmp .ne 6, 3) := by decide +kernel
theorem dX11_look_28 : decode cX11_look 28 = .ok (.bipush (-3), 2) := by decide +kernel
theorem dX11_look_30 : decode cX11_look 30 = .ok (.ireturn, 1) := by decide +kernel
theorem dX11_look_31 : decode cX11_look 31 = .ok (.aload_n 0, 1) := by decide +kernel
theorem dX11_look_32 : decode cX11_look 32 = .ok (.getfield 41, 3) := by decide +kernel
theorem dX11_look_35 : decode cX11_look 35 = .ok (.aload_n 0, 1) := by decide +kernel
theorem dX11_look_36 : decode cX11_look 36 = .ok (.getfield 200, 3) := by decide +kernel
theorem dX11_look_39 : decode cX11_look 39 = .ok (.iload_n 1, 1) := by decide +kernel
theorem dX11_look_40 : decode cX11_look 40 = .ok (.iastore, 1) := by decide +kernel
theorem dX11_look_41 : decode cX11_look 41 = .ok (.aload_n 0, 1) := by decide +kernel
theorem dX11_look_42 : decode cX11_look 42 = .ok (.getfield 44, 3) := by decide +kernel
theorem dX11_look_45 : decode cX11_look 45 = .ok (.aload_n 0, 1) := by decide +kernel
theorem dX11_look_46 : decode cX11_look 46 = .ok (.getfield 200, 3) := by decide +kernel
theorem dX11_look_49 : decode cX11_look 49 = .ok (.iload_n 2, 1) := by decide +kernel
theorem dX11_look_50 : decode cX11_look 50 = .ok (.iastore, 1) := by decide +kernel
theorem dX11_look_51 : decode cX11_look 51 = .ok (.aload_n 0, 1) := by decide +kernel
theorem dX11_look_52 : decode cX11_look 52 = .ok (.dup, 1) := by decide +kernel
theorem dX11_look_53 : decode cX11_look 53 = .ok (.getfield 200, 3) := by decide +kernel
theorem dX11_look_56 : decode cX11_look 56 = .ok (.iconst 1, 1) := by decide +kernel
theorem dX11_look_57 : decode cX11_look 57 = .ok (.iadd, 1) := by decide +kernel
theorem dX11_look_58 : decode cX11_look 58 = .ok (.putfield 200, 3) := by decide +kernel
theorem dX11_look_61 : decode cX11_look 61 = .ok (.aload_n 0, 1) := by decide +kernel
theorem dX11_look_62 : decode cX11_look 62 = .ok (.getfield 200, 3) := by decide +kernel
theorem dX11_look_65 : decode cX11_look 65 = .ok (.ireturn, 1) := by decide +kernel
theorem dX11_forget_0 : decode cX11_forget 0 = .ok (.aload_n 0, 1) := by decide +kernel
theorem dX11_forget_1 : decode cX11_forget 1 = .ok (.getfield 200, 3) := by decide +kernel
theorem dX11_forget_4 : decode cX11_forget 4 = .ok (.istore_n 1, 1) := by decide +kernel
theorem dX11_forget_5 : decode cX11_forget 5 = .ok (.aload_n 0, 1) := by decide +kernel
theorem dX11_forget_6 : decode cX11_forget 6 = .ok (.iconst 0, 1) := by decide +kernel
theorem dX11_forget_7 : decode cX11_forget 7 = .ok (.putfield 200, 3) := by decide +kernel
theorem dX11_forget_10 : decode cX11_forget 10 = .ok (.iload_n 1, 1) := by decide +kernel
theorem dX11_forget_11 : decode cX11_forget 11 = .ok (.ireturn, 1) := by decide +kernel
theorem dX11_isSo_0 : decode cX11_isSo 0 = .ok (.iload_n 0, 1) := by decide +kernel
theorem dX11_isSo_1 : decode cX11_isSo 1 = .ok (.iload_n 3, 1) := by decide +kernel
theorem dX11_isSo_2 : decode cX11_isSo 2 = .ok (.iadd, 1) := by decide +kernel
theorem dX11_isSo_3 : decode cX11_isSo 3 = .ok (.iload_n 1, 1) := by decide +kernel
theorem dX11_isSo_4 : decode cX11_isSo 4 = .ok (.irem, 1) := by decide +kernel
theorem dX11_isSo_5 : decode cX11_isSo 5 = .ok (.iload_n 2, 1) := by decide +kernel
theorem dX11_isSo_6 : decode cX11_isSo 6 = .ok (.if_icmp .ge 7, 3) := by decide +kernel
theorem dX11_isSo_9 : decode cX11_isSo 9 = .ok (.iconst 1, 1) := by decide +kernel
theorem dX11_isSo_10 : decode cX11_isSo 10 = .ok (.goto 4, 3) := by decide +kernel
theorem dX11_isSo_13 : decode cX11_isSo 13 = .ok (.iconst 0, 1) := by decide +kernel
theorem dX11_isSo_14 : decode cX11_isSo 14 = .ok (.ireturn, 1) := by decide +kernel
theorem dX11_fit_0 : decode cX11_fit 0 = .ok (.aload_n 0, 1) := by decide +kernel
theorem dX11_fit_1 : decode cX11_fit 1 = .ok (.iconst 0, 1) := by decide +kernel
theorem dX11_fit_2 : decode cX11_fit 2 = .ok (.putfield 247, 3) := by decide +kernel
theorem dX11_fit_5 : decode cX11_fit 5 = .ok (.aload_n 0, 1) := by decide +kernel
theorem dX11_fit_6 : decode cX11_fit 6 = .ok (.bipush (-4), 2) := by decide +kernel
theorem dX11_fit_8 : decode cX11_fit 8 = .ok (.putfield 250, 3) := by decide +kernel
theorem dX11_fit_11 : decode cX11_fit 11 = .ok (.aload_n 0, 1) := by decide +kernel
theorem dX11_fit_12 : decode cX11_fit 12 = .ok (.iconst 0, 1) := by decide +kernel
theorem dX11_fit_13 : decode cX11_fit 13 = .ok (.putfield 253, 3) := by decide +kernel
theorem dX11_fit_16 : decode cX11_fit 16 = .ok (.iconst 2, 1) := by decide +kernel
theorem dX11_fit_17 : decode cX11_fit 17 = .ok (.istore_n 2, 1) := by decide +kernel
theorem dX11_fit_18 : decode cX11_fit 18 = .ok (.iload_n 2, 1) := by decide +kernel
theorem dX11_fit_19 : decode cX11_fit 19 = .ok (.bipush 25, 2) := by decide +kernel
theorem dX11_fit_21 : decode cX11_fit 21 = .ok (.if_icmp .ge 175, 3) := by decide +kernel
theorem dX11_fit_24 : decode cX11_fit 24 = .ok (.iconst 1, 1) := by decide +kernel
theorem dX11_fit_25 : decode cX11_fit 25 = .ok (.istore_n 3, 1) := by decide +kernel
theorem dX11_fit_26 : decode cX11_fit 26 = .ok (.iload_n 3, 1) := by decide +kernel
theorem dX11_fit_27 : decode cX11_fit 27 = .ok (.iload_n 2, 1) := by decide +kernel
theorem dX11_fit_28 : decode cX11_fit 28 = .ok (.if_icmp .ge 162, 3) := by decide +kernel
theorem dX11_fit_31 : decode cX11_fit 31 = .ok (.iconst 0, 1) := by decide +kernel
theorem dX11_fit_32 : decode cX11_fit 32 = .ok (.istore 4, 2) := by decide +kernel
theorem dX11_fit_34 : decode cX11_fit 34 = .ok (.iload 4, 2) := by decide +kernel
theorem dX11_fit_36 : decode cX11_fit 36 = .ok (.iload_n 2, 1) := by decide +kernel
theorem dX11_fit_37 : decode cX11_fit 37 = .ok (.if_icmp .ge 147, 3) := by decide +kernel
theorem dX11_fit_40 : decode cX11_fit 40 = .ok (.iconst 1, 1) := by decide +kernel
theorem dX11_fit_41 : decode cX11_fit 41 = .ok (.istore 5, 2) := by decide +kernel
theorem dX11_fit_43 : decode cX11_fit 43 = .ok (.iconst 0, 1) := by decide +kernel
theorem dX11_fit_44 : decode cX11_fit 44 = .ok (.istore 6, 2) := by decide +kernel
theorem dX11_fit_46 : decode cX11_fit 46 = .ok (.iload 6, 2) := by decide +kernel
theorem dX11_fit_48 : decode cX11_fit 48 = .ok (.aload_n 0, 1) := by decide +kernel
theorem dX11_fit_49 : decode cX11_fit 49 = .ok (.getfield 200, 3) := by decide +kernel
theorem dX11_fit_52 : decode cX11_fit 52 = .ok (.if_icmp .ge 45, 3) := by decide +kernel
theorem dX11_fit_55 : decode cX11_fit 55 = .ok (.iload 5, 2) := by decide +kernel
theorem dX11_fit_57 : decode cX11_fit 57 = .ok (.ifCond .eq 40, 3) := by decide +kernel
theorem dX11_fit_60 : decode cX11_fit 60 = .ok (.aload_n 0, 1) := by decide +kernel
theorem dX11_fit_61 : decode cX11_fit 61 = .ok (.getfield 41, 3) := by decide +kernel
theorem dX11_fit_64 : decode cX11_fit 64 = .ok (.iload 6, 2) := by decide +kernel
theorem dX11_fit_66 : decode cX11_fit 66 = .ok (.iaload, 1) := by decide +kernel
theorem dX11_fit_67 : decode cX11_fit 67 = .ok (.iload_n 2, 1) := by decide +kernel
theorem dX11_fit_68 : decode cX11_fit 68 = .ok (.iload_n 3, 1) := by decide +kernel
theorem dX11_fit_69 : decode cX11_fit 69 = .ok (.iload 4, 2) := by decide +kernel
theorem dX11_fit_71 : decode cX11_fit 71 = .ok (.invokestatic 256, 3) := by decide +kernel
theorem dX11_fit_74 : decode cX11_fit 74 = .ok (.aload_n 0, 1) := by decide +kernel
theorem dX11_fit_75 : decode cX11_fit 75 = .ok (.getfield 44, 3) := by decide +kernel
theorem dX11_fit_78 : decode cX11_fit 78 = .ok (.iload 6, 2) := by decide +kernel
theorem dX11_fit_80 : decode cX11_fit 80 = .ok (.iaload, 1) := by decide +kernel
theorem dX11_fit_81 : decode cX11_fit 81 = .ok (.if_icmp .ne 7, 3) := by decide +kernel
theorem dX11_fit_84 : decode cX11_fit 84 = .ok (.iconst 1, 1) := by decide +kernel
theorem dX11_fit_85 : decode cX11_fit 85 = .ok (.goto 4, 3) := by decide +kernel
theorem dX11_fit_88 : decode cX11_fit 88 = .ok (.iconst 0, 1) := by decide +kernel
theorem dX11_fit_89 : decode cX11_fit 89 = .ok (.istore 5, 2) := by decide +kernel
theorem dX11_fit_91 : decode cX11_fit 91 = .ok (.iinc 6 1, 3) := by decide +kernel
theorem dX11_fit_94 : decode cX11_fit 94 = .ok (.goto (-48), 3) := by decide +kernel
theorem dX11_fit_97 : decode cX11_fit 97 = .ok (.aload_n 0, 1) := by decide +kernel
theorem dX11_fit_98 : decode cX11_fit 98 = .ok (.iload 5, 2) := by decide +kernel
theorem dX11_fit_100 : decode cX11_fit 100 = .ok (.ifCond .eq 26, 3) := by decide +kernel
theorem dX11_fit_103 : decode cX11_fit 103 = .ok (.aload_n 0, 1) := by decide +kernel
theorem dX11_fit_104 : decode cX11_fit 104 = .ok (.getfield 247, 3) := by decide +kernel
theorem dX11_fit_107 : decode cX11_fit 107 = .ok (.ifCond .ne 19, 3) := by decide +kernel
theorem dX11_fit_110 : decode cX11_fit 110 = .ok (.sipush 10000, 3) := by decide +kernel
theorem dX11_fit_113 : decode cX11_fit 113 = .ok (.iload_n 2, 1) := by decide +kernel
theorem dX11_fit_114 : decode cX11_fit 114 = .ok (.imul, 1) := by decide +kernel
theorem dX11_fit_115 : decode cX11_fit 115 = .ok (.bipush 100, 2) := by decide +kernel
theorem dX11_fit_117 : decode cX11_fit 117 = .ok (.iload_n 3, 1) := by decide +kernel
theorem dX11_fit_118 : decode cX11_fit 118 = .ok (.imul, 1) := by decide +kernel
theorem dX11_fit_119 : decode cX11_fit 119 = .ok (.iadd, 1) := by decide +kernel
theorem dX11_fit_120 : decode cX11_fit 120 = .ok (.iload 4, 2) := by decide +kernel
theorem dX11_fit_122 : decode cX11_fit 122 = .ok (.iadd, 1) := by decide +kernel
theorem dX11_fit_123 : decode cX11_fit 123 = .ok (.goto 7, 3) := by decide +kernel
theorem dX11_fit_126 : decode cX11_fit 126 = .ok (.aload_n 0, 1) := by decide +kernel
theorem dX11_fit_127 : decode cX11_fit 127 = .ok (.getfield 250, 3) := by decide +kernel
theorem dX11_fit_130 : decode cX11_fit 130 = .ok (.putfield 250, 3) := by decide +kernel
theorem dX11_fit_133 : decode cX11_fit 133 = .ok (.aload_n 0, 1) := by decide +kernel
theorem dX11_fit_134 : decode cX11_fit 134 = .ok (.dup, 1) := by decide +kernel
theorem dX11_fit_135 : decode cX11_fit 135 = .ok (.getfield 247, 3) := by decide +kernel
theorem dX11_fit_138 : decode cX11_fit 138 = .ok (.iload 5, 2) := by decide +kernel
theorem dX11_fit_140 : decode cX11_fit 140 = .ok (.ifCond .eq 7, 3) := by decide +kernel
theorem dX11_fit_143 : decode cX11_fit 143 = .ok (.iconst 1, 1) := by decide +kernel
theorem dX11_fit_144 : decode cX11_fit 144 = .ok (.goto 4, 3) := by decide +kernel
theorem dX11_fit_147 : decode cX11_fit 147 = .ok (.iconst 0, 1) := by decide +kernel
theorem dX11_fit_148 : decode cX11_fit 148 = .ok (.iadd, 1) := by decide +kernel
theorem dX11_fit_149 : decode cX11_fit 149 = .ok (.putfield 247, 3) := by decide +kernel
theorem dX11_fit_152 : decode cX11_fit 152 = .ok (.aload_n 0, 1) := by decide +kernel
theorem dX11_fit_153 : decode cX11_fit 153 = .ok (.dup, 1) := by decide +kernel
theorem dX11_fit_154 : decode cX11_fit 154 = .ok (.getfield 253, 3) := by decide +kernel
theorem dX11_fit_157 : decode cX11_fit 157 = .ok (.iload 5, 2) := by decide +kernel
theorem dX11_fit_159 : decode cX11_fit 159 = .ok (.ifCond .eq 14, 3) := by decide +kernel
theorem dX11_fit_162 : decode cX11_fit 162 = .ok (.iload_n 1, 1) := by decide +kernel
theorem dX11_fit_163 : decode cX11_fit 163 = .ok (.iload_n 2, 1) := by decide +kernel
theorem dX11_fit_164 : decode cX11_fit 164 = .ok (.iload_n 3, 1) := by decide +kernel
theorem dX11_fit_165 : decode cX11_fit 165 = .ok (.iload 4, 2) := by decide +kernel
theorem dX11_fit_167 : decode cX11_fit 167 = .ok (.invokestatic 256, 3) := by decide +kernel
theorem dX11_fit_170 : decode cX11_fit 170 = .ok (.goto 4, 3) := by decide +kernel
theorem dX11_fit_173 : decode cX11_fit 173 = .ok (.iconst 0, 1) := by decide +kernel
theorem dX11_fit_174 : decode cX11_fit 174 = .ok (.iadd, 1) := by decide +kernel
theorem dX11_fit_175 : decode cX11_fit 175 = .ok (.putfield 253, 3) := by decide +kernel
theorem dX11_fit_178 : decode cX11_fit 178 = .ok (.iinc 4 1, 3) := by decide +kernel
theorem dX11_fit_181 : decode cX11_fit 181 = .ok (.goto (-147), 3) := by decide +kernel
theorem dX11_fit_184 : decode cX11_fit 184 = .ok (.iinc 3 1, 3) := by decide +kernel
theorem dX11_fit_187 : decode cX11_fit 187 = .ok (.goto (-161), 3) := by decide +kernel
theorem dX11_fit_190 : decode cX11_fit 190 = .ok (.iinc 2 1, 3) := by decide +kernel
theorem dX11_fit_193 : decode cX11_fit 193 = .ok (.goto (-175), 3) := by decide +kernel
theorem dX11_fit_196 : decode cX11_fit 196 = .ok (.return_, 1) := by decide +kernel
theorem dX11_fits_0 : decode cX11_fits 0 = .ok (.iload_n 1, 1) := by decide +kernel
theorem dX11_fits_1 : decode cX11_fits 1 = .ok (.i2l, 1) := by decide +kernel
theorem dX11_fits_2 : decode cX11_fits 2 = .ok (.lconst 0, 1) := by decide +kernel
theorem dX11_fits_3 : decode cX11_fits 3 = .ok (.lconst 1, 1) := by decide +kernel
theorem dX11_fits_4 : decode cX11_fits 4 = .ok (.invokestatic 66, 3) := by decide +kernel
theorem dX11_fits_7 : decode cX11_fits 7 = .ok (.ifCond .ne 5, 3) := by decide +kernel
theorem dX11_fits_10 : decode cX11_fits 10 = .ok (.iconst (-1), 1) := by decide +kernel
theorem dX11_fits_11 : decode cX11_fits 11 = .ok (.ireturn, 1) := by decide +kernel
theorem dX11_fits_12 : decode cX11_fits 12 = .ok (.aload_n 0, 1) := by decide +kernel
theorem dX11_fits_13 : decode cX11_fits 13 = .ok (.iconst 0, 1) := by decide +kernel
theorem dX11_fits_14 : decode cX11_fits 14 = .ok (.invokevirtual 259, 3) := by decide +kernel
theorem dX11_fits_17 : decode cX11_fits 17 = .ok (.iload_n 1, 1) := by decide +kernel
theorem dX11_fits_18 : decode cX11_fits 18 = .ok (.ifCond .ne 10, 3) := by decide +kernel
theorem dX11_fits_21 : decode cX11_fits 21 = .ok (.aload_n 0, 1) := by decide +kernel
theorem dX11_fits_22 : decode cX11_fits 22 = .ok (.getfield 247, 3) := by decide +kernel
theorem dX11_fits_25 : decode cX11_fits 25 = .ok (.goto 7, 3) := by decide +kernel
theorem dX11_fits_28 : decode cX11_fits 28 = .ok (.aload_n 0, 1) := by decide +kernel
theorem dX11_fits_29 : decode cX11_fits 29 = .ok (.getfield 250, 3) := by decide +kernel
theorem dX11_fits_32 : decode cX11_fits 32 = .ok (.ireturn, 1) := by decide +kernel
theorem dX11_foretell_0 : decode cX11_foretell 0 = .ok (.iload_n 1, 1) := by decide +kernel
theorem dX11_foretell_1 : decode cX11_foretell 1 = .ok (.invokestatic 222, 3) := by decide +kernel
theorem dX11_foretell_4 : decode cX11_foretell 4 = .ok (.ifCond .ne 5, 3) := by decide +kernel
theorem dX11_foretell_7 : decode cX11_foretell 7 = .ok (.iconst (-1), 1) := by decide +kernel
theorem dX11_foretell_8 : decode cX11_foretell 8 = .ok (.ireturn, 1) := by decide +kernel
theorem dX11_foretell_9 : decode cX11_foretell 9 = .ok (.aload_n 0, 1) := by decide +kernel
theorem dX11_foretell_10 : decode cX11_foretell 10 = .ok (.iload_n 1, 1) := by decide +kernel
theorem dX11_foretell_11 : decode cX11_foretell 11 = .ok (.invokevirtual 259, 3) := by decide +kernel
theorem dX11_foretell_14 : decode cX11_foretell 14 = .ok (.aload_n 0, 1) := by decide +kernel
theorem dX11_foretell_15 : decode cX11_foretell 15 = .ok (.getfield 247, 3) := by decide +kernel
theorem dX11_foretell_18 : decode cX11_foretell 18 = .ok (.ifCond .ne 8, 3) := by decide +kernel
theorem dX11_foretell_21 : decode cX11_foretell 21 = .ok (.bipush (-4), 2) := by decide +kernel
theorem dX11_foretell_23 : decode cX11_foretell 23 = .ok (.goto 30, 3) := by decide +kernel
theorem dX11_foretell_26 : decode cX11_foretell 26 = .ok (.aload_n 0, 1) := by decide +kernel
theorem dX11_foretell_27 : decode cX11_foretell 27 = .ok (.getfield 253, 3) := by decide +kernel
theorem dX11_foretell_30 : decode cX11_foretell 30 = .ok (.aload_n 0, 1) := by decide +kernel
theorem dX11_foretell_31 : decode cX11_foretell 31 = .ok (.getfield 247, 3) := by decide +kernel
theorem dX11_foretell_34 : decode cX11_foretell 34 = .ok (.if_icmp .ne 7, 3) := by decide +kernel
theorem dX11_foretell_37 : decode cX11_foretell 37 = .ok (.iconst 1, 1) := by decide +kernel
theorem dX11_foretell_38 : decode cX11_foretell 38 = .ok (.goto 15, 3) := by decide +kernel
theorem dX11_foretell_41 : decode cX11_foretell 41 = .ok (.aload_n 0, 1) := by decide +kernel
theorem dX11_foretell_42 : decode cX11_foretell 42 = .ok (.getfield 253, 3) := by decide +kernel
theorem dX11_foretell_45 : decode cX11_foretell 45 = .ok (.ifCond .ne 7, 3) := by decide +kernel
theorem dX11_foretell_48 : decode cX11_foretell 48 = .ok (.iconst 0, 1) := by decide +kernel
theorem dX11_foretell_49 : decode cX11_foretell 49 = .ok (.goto 4, 3) := by decide +kernel
theorem dX11_foretell_52 : decode cX11_foretell 52 = .ok (.iconst 2, 1) := by decide +kernel
theorem dX11_foretell_53 : decode cX11_foretell 53 = .ok (.ireturn, 1) := by decide +kernel
theorem dX11_next_0 : decode cX11_next 0 = .ok (.iload_n 1, 1) := by decide +kernel
theorem dX11_next_1 : decode cX11_next 1 = .ok (.invokestatic 222, 3) := by decide +kernel
theorem dX11_next_4 : decode cX11_next 4 = .ok (.ifCond .eq 13, 3) := by decide +kernel
theorem dX11_next_7 : decode cX11_next 7 = .ok (.iload_n 2, 1) := by decide +kernel
theorem dX11_next_8 : decode cX11_next 8 = .ok (.i2l, 1) := by decide +kernel
theorem dX11_next_9 : decode cX11_next 9 = .ok (.lconst 0, 1) := by decide +kernel
theorem dX11_next_10 : decode cX11_next 10 = .ok (.lconst 1, 1) := by decide +kernel
theorem dX11_next_11 : decode cX11_next 11 = .ok (.invokestatic 66, 3) := by decide +kernel
theorem dX11_next_14 : decode cX11_next 14 = .ok (.ifCond .ne 5, 3) := by decide +kernel
theorem dX11_next_17 : decode cX11_next 17 = .ok (.iconst (-1), 1) := by decide +kernel
theorem dX11_next_18 : decode cX11_next 18 = .ok (.ireturn, 1) := by decide +kernel
theorem dX11_next_19 : decode cX11_next 19 = .ok (.bipush (-4), 2) := by decide +kernel
theorem dX11_next_21 : decode cX11_next 21 = .ok (.istore_n 3, 1) := by decide +kernel
theorem dX11_next_22 : decode cX11_next 22 = .ok (.ldc 214, 2) := by decide +kernel
theorem dX11_next_24 : decode cX11_next 24 = .ok (.istore 4, 2) := by decide +kernel
theorem dX11_next_26 : decode cX11_next 26 = .ok (.iload_n 1, 1) := by decide +kernel
theorem dX11_next_27 : decode cX11_next 27 = .ok (.istore 5, 2) := by decide +kernel
theorem dX11_next_29 : decode cX11_next 29 = .ok (.iload 5, 2) := by decide +kernel
theorem dX11_next_31 : decode cX11_next 31 = .ok (.iload_n 1, 1) := by decide +kernel
theorem dX11_next_32 : decode cX11_next 32 = .ok (.bipush 60, 2) := by decide +kernel
theorem dX11_next_34 : decode cX11_next 34 = .ok (.iadd, 1) := by decide +kernel
theorem dX11_next_35 : decode cX11_next 35 = .ok (.if_icmp .ge 89, 3) := by decide +kernel
theorem dX11_next_38 : decode cX11_next 38 = .ok (.aload_n 0, 1) := by decide +kernel
theorem dX11_next_39 : decode cX11_next 39 = .ok (.iload 5, 2) := by decide +kernel
theorem dX11_next_41 : decode cX11_next 41 = .ok (.invokevirtual 259, 3) := by decide +kernel
theorem dX11_next_44 : decode cX11_next 44 = .ok (.aload_n 0, 1) := by decide +kernel
theorem dX11_next_45 : decode cX11_next 45 = .ok (.getfield 247, 3) := by decide +kernel
theorem dX11_next_48 : decode cX11_next 48 = .ok (.ifCond .ne 6, 3) := by decide +kernel
theorem dX11_next_51 : decode cX11_next 51 = .ok (.bipush (-4), 2) := by decide +kernel
theorem dX11_next_53 : decode cX11_next 53 = .ok (.ireturn, 1) := by decide +kernel
theorem dX11_next_54 : decode cX11_next 54 = .ok (.aload_n 0, 1) := by decide +kernel
theorem dX11_next_55 : decode cX11_next 55 = .ok (.getfield 253, 3) := by decide +kernel
theorem dX11_next_58 : decode cX11_next 58 = .ok (.aload_n 0, 1) := by decide +kernel
theorem dX11_next_59 : decode cX11_next 59 = .ok (.getfield 247, 3) := by decide +kernel
theorem dX11_next_62 : decode cX11_next 62 = .ok (.aload_n 0, 1) := by decide +kernel
theorem dX11_next_63 : decode cX11_next 63 = .ok (.getfield 253, 3) := by decide +kernel
theorem dX11_next_66 : decode cX11_next 66 = .ok (.isub, 1) := by decide +kernel
theorem dX11_next_67 : decode cX11_next 67 = .ok (.if_icmp .le 10, 3) := by decide +kernel
theorem dX11_next_70 : decode cX11_next 70 = .ok (.aload_n 0, 1) := by decide +kernel
theorem dX11_next_71 : decode cX11_next 71 = .ok (.getfield 253, 3) := by decide +kernel
theorem dX11_next_74 : decode cX11_next 74 = .ok (.goto 12, 3) := by decide +kernel
theorem dX11_next_77 : decode cX11_next 77 = .ok (.aload_n 0, 1) := by decide +kernel
theorem dX11_next_78 : decode cX11_next 78 = .ok (.getfield 247, 3) := by decide +kernel
theorem dX11_next_81 : decode cX11_next 81 = .ok (.aload_n 0, 1) := by decide +kernel
theorem dX11_next_82 : decode cX11_next 82 = .ok (.getfield 253, 3) := by decide +kernel
theorem dX11_next_85 : decode cX11_next 85 = .ok (.isub, 1) := by decide +kernel
theorem dX11_next_86 : decode cX11_next 86 = .ok (.istore 6, 2) := by decide +kernel
theorem dX11_next_88 : decode cX11_next 88 = .ok (.iload 6, 2) := by decide +kernel
theorem dX11_next_90 : decode cX11_next 90 = .ok (.iload 4, 2) := by decide +kernel
theorem dX11_next_92 : decode cX11_next 92 = .ok (.if_icmp .ge 8, 3) := by decide +kernel
theorem dX11_next_95 : decode cX11_next 95 = .ok (.iload 5, 2) := by decide +kernel
theorem dX11_next_97 : decode cX11_next 97 = .ok (.goto 4, 3) := by decide +kernel
theorem dX11_next_100 : decode cX11_next 100 = .ok (.iload_n 3, 1) := by decide +kernel
theorem dX11_next_101 : decode cX11_next 101 = .ok (.istore_n 3, 1) := by decide +kernel
theorem dX11_next_102 : decode cX11_next 102 = .ok (.iload 6, 2) := by decide +kernel
theorem dX11_next_104 : decode cX11_next 104 = .ok (.iload 4, 2) := by decide +kernel
theorem dX11_next_106 : decode cX11_next 106 = .ok (.if_icmp .ge 8, 3) := by decide +kernel
theorem dX11_next_109 : decode cX11_next 109 = .ok (.iload 6, 2) := by decide +kernel
theorem dX11_next_111 : decode cX11_next 111 = .ok (.goto 5, 3) := by decide +kernel
theorem dX11_next_114 : decode cX11_next 114 = .ok (.iload 4, 2) := by decide +kernel
theorem dX11_next_116 : decode cX11_next 116 = .ok (.istore 4, 2) := by decide +kernel
theorem dX11_next_118 : decode cX11_next 118 = .ok (.iinc 5 1, 3) := by decide +kernel
theorem dX11_next_121 : decode cX11_next 121 = .ok (.goto (-92), 3) := by decide +kernel
theorem dX11_next_124 : decode cX11_next 124 = .ok (.iload_n 2, 1) := by decide +kernel
theorem dX11_next_125 : decode cX11_next 125 = .ok (.ifCond .ne 7, 3) := by decide +kernel
theorem dX11_next_128 : decode cX11_next 128 = .ok (.iload_n 3, 1) := by decide +kernel
theorem dX11_next_129 : decode cX11_next 129 = .ok (.goto 5, 3) := by decide +kernel
theorem dX11_next_132 : decode cX11_next 132 = .ok (.iload 4, 2) := by decide +kernel
theorem dX11_next_134 : decode cX11_next 134 = .ok (.ireturn, 1) := by decide +kernel
theorem dX11_notesRow_0 : decode cX11_notesRow 0 = .ok (.iconst 0, 1) := by decide +kernel
theorem dX11_notesRow_1 : decode cX11_notesRow 1 = .ok (.istore_n 3, 1) := by decide +kernel
theorem dX11_notesRow_2 : decode cX11_notesRow 2 = .ok (.iload_n 3, 1) := by decide +kernel
theorem dX11_notesRow_3 : decode cX11_notesRow 3 = .ok (.aload_n 1, 1) := by decide +kernel
theorem dX11_notesRow_4 : decode cX11_notesRow 4 = .ok (.arraylength, 1) := by decide +kernel
theorem dX11_notesRow_5 : decode cX11_notesRow 5 = .ok (.if_icmp .ge 20, 3) := by decide +kernel
theorem dX11_notesRow_8 : decode cX11_notesRow 8 = .ok (.aload_n 0, 1) := by decide +kernel
theorem dX11_notesRow_9 : decode cX11_notesRow 9 = .ok (.getfield 47, 3) := by decide +kernel
theorem dX11_notesRow_12 : decode cX11_notesRow 12 = .ok (.iload_n 2, 1) := by decide +kernel
theorem dX11_notesRow_13 : decode cX11_notesRow 13 = .ok (.iload_n 3, 1) := by decide +kernel
theorem dX11_notesRow_14 : decode cX11_notesRow 14 = .ok (.iadd, 1) := by decide +kernel
theorem dX11_notesRow_15 : decode cX11_notesRow 15 = .ok (.aload_n 1, 1) := by decide +kernel
theorem dX11_notesRow_16 : decode cX11_notesRow 16 = .ok (.iload_n 3, 1) := by decide +kernel
theorem dX11_notesRow_17 : decode cX11_notesRow 17 = .ok (.iaload, 1) := by decide +kernel
theorem dX11_notesRow_18 : decode cX11_notesRow 18 = .ok (.iastore, 1) := by decide +kernel
theorem dX11_notesRow_19 : decode cX11_notesRow 19 = .ok (.iinc 3 1, 3) := by decide +kernel
theorem dX11_notesRow_22 : decode cX11_notesRow 22 = .ok (.goto (-20), 3) := by decide +kernel
theorem dX11_notesRow_25 : decode cX11_notesRow 25 = .ok (.iload_n 2, 1) := by decide +kernel
theorem dX11_notesRow_26 : decode cX11_notesRow 26 = .ok (.aload_n 1, 1) := by decide +kernel
theorem dX11_notesRow_27 : decode cX11_notesRow 27 = .ok (.arraylength, 1) := by decide +kernel
theorem dX11_notesRow_28 : decode cX11_notesRow 28 = .ok (.iadd, 1) := by decide +kernel
theorem dX11_notesRow_29 : decode cX11_notesRow 29 = .ok (.ireturn, 1) := by decide +kernel
theorem dX11_gives_0 : decode cX11_gives 0 = .ok (.iconst 0, 1) := by decide +kernel
theorem dX11_gives_1 : decode cX11_gives 1 = .ok (.istore_n 3, 1) := by decide +kernel
theorem dX11_gives_2 : decode cX11_gives 2 = .ok (.iload_n 3, 1) := by decide +kernel
theorem dX11_gives_3 : decode cX11_gives 3 = .ok (.aload_n 2, 1) := by decide +kernel
theorem dX11_gives_4 : decode cX11_gives 4 = .ok (.arraylength, 1) := by decide +kernel
theorem dX11_gives_5 : decode cX11_gives 5 = .ok (.if_icmp .ge 20, 3) := by decide +kernel
theorem dX11_gives_8 : decode cX11_gives 8 = .ok (.aload_n 2, 1) := by decide +kernel
theorem dX11_gives_9 : decode cX11_gives 9 = .ok (.iload_n 3, 1) := by decide +kernel
theorem dX11_gives_10 : decode cX11_gives 10 = .ok (.aload_n 0, 1) := by decide +kernel
theorem dX11_gives_11 : decode cX11_gives 11 = .ok (.getfield 47, 3) := by decide +kernel
theorem dX11_gives_14 : decode cX11_gives 14 = .ok (.iload_n 1, 1) := by decide +kernel
theorem dX11_gives_15 : decode cX11_gives 15 = .ok (.iload_n 3, 1) := by decide +kernel
theorem dX11_gives_16 : decode cX11_gives 16 = .ok (.iadd, 1) := by decide +kernel
theorem dX11_gives_17 : decode cX11_gives 17 = .ok (.iaload, 1) := by decide +kernel
theorem dX11_gives_18 : decode cX11_gives 18 = .ok (.iastore, 1) := by decide +kernel
theorem dX11_gives_19 : decode cX11_gives 19 = .ok (.iinc 3 1, 3) := by decide +kernel
theorem dX11_gives_22 : decode cX11_gives 22 = .ok (.goto (-20), 3) := by decide +kernel
theorem dX11_gives_25 : decode cX11_gives 25 = .ok (.iload_n 1, 1) := by decide +kernel
theorem dX11_gives_26 : decode cX11_gives 26 = .ok (.aload_n 2, 1) := by decide +kernel
theorem dX11_gives_27 : decode cX11_gives 27 = .ok (.arraylength, 1) := by decide +kernel
theorem dX11_gives_28 : decode cX11_gives 28 = .ok (.iadd, 1) := by decide +kernel
theorem dX11_gives_29 : decode cX11_gives 29 = .ok (.ireturn, 1) := by decide +kernel
theorem dX11_image_0 : decode cX11_image 0 = .ok (.aload_n 0, 1) := by decide +kernel
theorem dX11_image_1 : decode cX11_image 1 = .ok (.getfield 47, 3) := by decide +kernel
theorem dX11_image_4 : decode cX11_image 4 = .ok (.iconst 0, 1) := by decide +kernel
theorem dX11_image_5 : decode cX11_image 5 = .ok (.aload_n 0, 1) := by decide +kernel
theorem dX11_image_6 : decode cX11_image 6 = .ok (.getfield 63, 3) := by decide +kernel
theorem dX11_image_9 : decode cX11_image 9 = .ok (.iastore, 1) := by decide +kernel
theorem dX11_image_10 : decode cX11_image 10 = .ok (.aload_n 0, 1) := by decide +kernel
theorem dX11_image_11 : decode cX11_image 11 = .ok (.getfield 47, 3) := by decide +kernel
theorem dX11_image_14 : decode cX11_image 14 = .ok (.iconst 1, 1) := by decide +kernel
theorem dX11_image_15 : decode cX11_image 15 = .ok (.aload_n 0, 1) := by decide +kernel
theorem dX11_image_16 : decode cX11_image 16 = .ok (.getfield 70, 3) := by decide +kernel
theorem dX11_image_19 : decode cX11_image 19 = .ok (.iastore, 1) := by decide +kernel
theorem dX11_image_20 : decode cX11_image 20 = .ok (.aload_n 0, 1) := by decide +kernel
theorem dX11_image_21 : decode cX11_image 21 = .ok (.getfield 47, 3) := by decide +kernel
theorem dX11_image_24 : decode cX11_image 24 = .ok (.iconst 2, 1) := by decide +kernel
theorem dX11_image_25 : decode cX11_image 25 = .ok (.aload_n 0, 1) := by decide +kernel
theorem dX11_image_26 : decode cX11_image 26 = .ok (.getfield 19, 3) := by decide +kernel
theorem dX11_image_29 : decode cX11_image 29 = .ok (.iastore, 1) := by decide +kernel
theorem dX11_image_30 : decode cX11_image 30 = .ok (.aload_n 0, 1) := by decide +kernel
theorem dX11_image_31 : decode cX11_image 31 = .ok (.getfield 47, 3) := by decide +kernel
theorem dX11_image_34 : decode cX11_image 34 = .ok (.iconst 3, 1) := by decide +kernel
theorem dX11_image_35 : decode cX11_image 35 = .ok (.aload_n 0, 1) := by decide +kernel
theorem dX11_image_36 : decode cX11_image 36 = .ok (.getfield 197, 3) := by decide +kernel
theorem dX11_image_39 : decode cX11_image 39 = .ok (.iastore, 1) := by decide +kernel
theorem dX11_image_40 : decode cX11_image 40 = .ok (.aload_n 0, 1) := by decide +kernel
theorem dX11_image_41 : decode cX11_image 41 = .ok (.getfield 47, 3) := by decide +kernel
theorem dX11_image_44 : decode cX11_image 44 = .ok (.iconst 4, 1) := by decide +kernel
theorem dX11_image_45 : decode cX11_image 45 = .ok (.aload_n 0, 1) := by decide +kernel
theorem dX11_image_46 : decode cX11_image 46 = .ok (.getfield 200, 3) := by decide +kernel
theorem dX11_image_49 : decode cX11_image 49 = .ok (.iastore, 1) := by decide +kernel
theorem dX11_image_50 : decode cX11_image 50 = .ok (.aload_n 0, 1) := by decide +kernel
theorem dX11_image_51 : decode cX11_image 51 = .ok (.aload_n 0, 1) := by decide +kernel
theorem dX11_image_52 : decode cX11_image 52 = .ok (.getfield 7, 3) := by decide +kernel
theorem dX11_image_55 : decode cX11_image 55 = .ok (.iconst 5, 1) := by decide +kernel
theorem dX11_image_56 : decode cX11_image 56 = .ok (.invokevirtual 262, 3) := by decide +kernel
theorem dX11_image_59 : decode cX11_image 59 = .ok (.istore_n 1, 1) := by decide +kernel
theorem dX11_image_60 : decode cX11_image 60 = .ok (.aload_n 0, 1) := by decide +kernel
theorem dX11_image_61 : decode cX11_image 61 = .ok (.aload_n 0, 1) := by decide +kernel
theorem dX11_image_62 : decode cX11_image 62 = .ok (.getfield 13, 3) := by decide +kernel
theorem dX11_image_65 : decode cX11_image 65 = .ok (.iload_n 1, 1) := by decide +kernel
theorem dX11_image_66 : decode cX11_image 66 = .ok (.invokevirtual 262, 3) := by decide +kernel
theorem dX11_image_69 : decode cX11_image 69 = .ok (.istore_n 1, 1) := by decide +kernel
theorem dX11_image_70 : decode cX11_image 70 = .ok (.aload_n 0, 1) := by decide +kernel
theorem dX11_image_71 : decode cX11_image 71 = .ok (.aload_n 0, 1) := by decide +kernel
theorem dX11_image_72 : decode cX11_image 72 = .ok (.getfield 16, 3) := by decide +kernel
theorem dX11_image_75 : decode cX11_image 75 = .ok (.iload_n 1, 1) := by decide +kernel
theorem dX11_image_76 : decode cX11_image 76 = .ok (.invokevirtual 262, 3) := by decide +kernel
theorem dX11_image_79 : decode cX11_image 79 = .ok (.istore_n 1, 1) := by decide +kernel
theorem dX11_image_80 : decode cX11_image 80 = .ok (.aload_n 0, 1) := by decide +kernel
theorem dX11_image_81 : decode cX11_image 81 = .ok (.aload_n 0, 1) := by decide +kernel
theorem dX11_image_82 : decode cX11_image 82 = .ok (.getfield 35, 3) := by decide +kernel
theorem dX11_image_85 : decode cX11_image 85 = .ok (.iload_n 1, 1) := by decide +kernel
theorem dX11_image_86 : decode cX11_image 86 = .ok (.invokevirtual 262, 3) := by decide +kernel
theorem dX11_image_89 : decode cX11_image 89 = .ok (.istore_n 1, 1) := by decide +kernel
theorem dX11_image_90 : decode cX11_image 90 = .ok (.aload_n 0, 1) := by decide +kernel
theorem dX11_image_91 : decode cX11_image 91 = .ok (.aload_n 0, 1) := by decide +kernel
theorem dX11_image_92 : decode cX11_image 92 = .ok (.getfield 41, 3) := by decide +kernel
theorem dX11_image_95 : decode cX11_image 95 = .ok (.iload_n 1, 1) := by decide +kernel
theorem dX11_image_96 : decode cX11_image 96 = .ok (.invokevirtual 262, 3) := by decide +kernel
theorem dX11_image_99 : decode cX11_image 99 = .ok (.istore_n 1, 1) := by decide +kernel
theorem dX11_image_100 : decode cX11_image 100 = .ok (.aload_n 0, 1) := by decide +kernel
theorem dX11_image_101 : decode cX11_image 101 = .ok (.aload_n 0, 1) := by decide +kernel
theorem dX11_image_102 : decode cX11_image 102 = .ok (.getfield 44, 3) := by decide +kernel
theorem dX11_image_105 : decode cX11_image 105 = .ok (.iload_n 1, 1) := by decide +kernel
theorem dX11_image_106 : decode cX11_image 106 = .ok (.invokevirtual 262, 3) := by decide +kernel
theorem dX11_image_109 : decode cX11_image 109 = .ok (.pop, 1) := by decide +kernel
theorem dX11_image_110 : decode cX11_image 110 = .ok (.aload_n 0, 1) := by decide +kernel
theorem dX11_image_111 : decode cX11_image 111 = .ok (.iconst 1, 1) := by decide +kernel
theorem dX11_image_112 : decode cX11_image 112 = .ok (.putfield 266, 3) := by decide +kernel
theorem dX11_image_115 : decode cX11_image 115 = .ok (.iconst 1, 1) := by decide +kernel
theorem dX11_image_116 : decode cX11_image 116 = .ok (.ireturn, 1) := by decide +kernel
theorem dX11_restore_0 : decode cX11_restore 0 = .ok (.aload_n 0, 1) := by decide +kernel
theorem dX11_restore_1 : decode cX11_restore 1 = .ok (.getfield 266, 3) := by decide +kernel
theorem dX11_restore_4 : decode cX11_restore 4 = .ok (.ifCond .ne 6, 3) := by decide +kernel
theorem dX11_restore_7 : decode cX11_restore 7 = .ok (.bipush (-4), 2) := by decide +kernel
theorem dX11_restore_9 : decode cX11_restore 9 = .ok (.ireturn, 1) := by decide +kernel
theorem dX11_restore_10 : decode cX11_restore 10 = .ok (.aload_n 0, 1) := by decide +kernel
theorem dX11_restore_11 : decode cX11_restore 11 = .ok (.aload_n 0, 1) := by decide +kernel
theorem dX11_restore_12 : decode cX11_restore 12 = .ok (.getfield 47, 3) := by decide +kernel
theorem dX11_restore_15 : decode cX11_restore 15 = .ok (.iconst 0, 1) := by decide +kernel
theorem dX11_restore_16 : decode cX11_restore 16 = .ok (.iaload, 1) := by decide +kernel
theorem dX11_restore_17 : decode cX11_restore 17 = .ok (.putfield 63, 3) := by decide +kernel
theorem dX11_restore_20 : decode cX11_restore 20 = .ok (.aload_n 0, 1) := by decide +kernel
theorem dX11_restore_21 : decode cX11_restore 21 = .ok (.aload_n 0, 1) := by decide +kernel
theorem dX11_restore_22 : decode cX11_restore 22 = .ok (.getfield 47, 3) := by decide +kernel
theorem dX11_restore_25 : decode cX11_restore 25 = .ok (.iconst 1, 1) := by decide +kernel
theorem dX11_restore_26 : decode cX11_restore 26 = .ok (.iaload, 1) := by decide +kernel
theorem dX11_restore_27 : decode cX11_restore 27 = .ok (.putfield 70, 3) := by decide +kernel
theorem dX11_restore_30 : decode cX11_restore 30 = .ok (.aload_n 0, 1) := by decide +kernel
theorem dX11_restore_31 : decode cX11_restore 31 = .ok (.aload_n 0, 1) := by decide +kernel
theorem dX11_restore_32 : decode cX11_restore 32 = .ok (.getfield 47, 3) := by decide +kernel
theorem dX11_restore_35 : decode cX11_restore 35 = .ok (.iconst 2, 1) := by decide +kernel
theorem dX11_restore_36 : decode cX11_restore 36 = .ok (.iaload, 1) := by decide +kernel
theorem dX11_restore_37 : decode cX11_restore 37 = .ok (.putfield 19, 3) := by decide +kernel
theorem dX11_restore_40 : decode cX11_restore 40 = .ok (.aload_n 0, 1) := by decide +kernel
theorem dX11_restore_41 : decode cX11_restore 41 = .ok (.aload_n 0, 1) := by decide +kernel
theorem dX11_restore_42 : decode cX11_restore 42 = .ok (.getfield 47, 3) := by decide +kernel
theorem dX11_restore_45 : decode cX11_restore 45 = .ok (.iconst 3, 1) := by decide +kernel
theorem dX11_restore_46 : decode cX11_restore 46 = .ok (.iaload, 1) := by decide +kernel
theorem dX11_restore_47 : decode cX11_restore 47 = .ok (.putfield 197, 3) := by decide +kernel
theorem dX11_restore_50 : decode cX11_restore 50 = .ok (.aload_n 0, 1) := by decide +kernel
theorem dX11_restore_51 : decode cX11_restore 51 = .ok (.aload_n 0, 1) := by decide +kernel
theorem dX11_restore_52 : decode cX11_restore 52 = .ok (.getfield 47, 3) := by decide +kernel
theorem dX11_restore_55 : decode cX11_restore 55 = .ok (.iconst 4, 1) := by decide +kernel
theorem dX11_restore_56 : decode cX11_restore 56 = .ok (.iaload, 1) := by decide +kernel
theorem dX11_restore_57 : decode cX11_restore 57 = .ok (.putfield 200, 3) := by decide +kernel
theorem dX11_restore_60 : decode cX11_restore 60 = .ok (.aload_n 0, 1) := by decide +kernel
theorem dX11_restore_61 : decode cX11_restore 61 = .ok (.iconst 5, 1) := by decide +kernel
theorem dX11_restore_62 : decode cX11_restore 62 = .ok (.aload_n 0, 1) := by decide +kernel
theorem dX11_restore_63 : decode cX11_restore 63 = .ok (.getfield 7, 3) := by decide +kernel
theorem dX11_restore_66 : decode cX11_restore 66 = .ok (.invokevirtual 269, 3) := by decide +kernel
theorem dX11_restore_69 : decode cX11_restore 69 = .ok (.istore_n 1, 1) := by decide +kernel
theorem dX11_restore_70 : decode cX11_restore 70 = .ok (.aload_n 0, 1) := by decide +kernel
theorem dX11_restore_71 : decode cX11_restore 71 = .ok (.iload_n 1, 1) := by decide +kernel
theorem dX11_restore_72 : decode cX11_restore 72 = .ok (.aload_n 0, 1) := by decide +kernel
theorem dX11_restore_73 : decode cX11_restore 73 = .ok (.getfield 13, 3) := by decide +kernel
theorem dX11_restore_76 : decode cX11_restore 76 = .ok (.invokevirtual 269, 3) := by decide +kernel
theorem dX11_restore_79 : decode cX11_restore 79 = .ok (.istore_n 1, 1) := by decide +kernel
theorem dX11_restore_80 : decode cX11_restore 80 = .ok (.aload_n 0, 1) := by decide +kernel
theorem dX11_restore_81 : decode cX11_restore 81 = .ok (.iload_n 1, 1) := by decide +kernel
theorem dX11_restore_82 : decode cX11_restore 82 = .ok (.aload_n 0, 1) := by decide +kernel
theorem dX11_restore_83 : decode cX11_restore 83 = .ok (.getfield 16, 3) := by decide +kernel
theorem dX11_restore_86 : decode cX11_restore 86 = .ok (.invokevirtual 269, 3) := by decide +kernel
theorem dX11_restore_89 : decode cX11_restore 89 = .ok (.istore_n 1, 1) := by decide +kernel
theorem dX11_restore_90 : decode cX11_restore 90 = .ok (.aload_n 0, 1) := by decide +kernel
theorem dX11_restore_91 : decode cX11_restore 91 = .ok (.iload_n 1, 1) := by decide +kernel
theorem dX11_restore_92 : decode cX11_restore 92 = .ok (.aload_n 0, 1) := by decide +kernel
theorem dX11_restore_93 : decode cX11_restore 93 = .ok (.getfield 35, 3) := by decide +kernel
theorem dX11_restore_96 : decode cX11_restore 96 = .ok (.invokevirtual 269, 3) := by decide +kernel
theorem dX11_restore_99 : decode cX11_restore 99 = .ok (.istore_n 1, 1) := by decide +kernel
theorem dX11_restore_100 : decode cX11_restore 100 = .ok (.aload_n 0, 1) := by decide +kernel
theorem dX11_restore_101 : decode cX11_restore 101 = .ok (.iload_n 1, 1) := by decide +kernel
theorem dX11_restore_102 : decode cX11_restore 102 = .ok (.aload_n 0, 1) := by decide +kernel
theorem dX11_restore_103 : decode cX11_restore 103 = .ok (.getfield 41, 3) := by decide +kernel
theorem dX11_restore_106 : decode cX11_restore 106 = .ok (.invokevirtual 269, 3) := by decide +kernel
theorem dX11_restore_109 : decode cX11_restore 109 = .ok (.istore_n 1, 1) := by decide +kernel
theorem dX11_restore_110 : decode cX11_restore 110 = .ok (.aload_n 0, 1) := by decide +kernel
theorem dX11_restore_111 : decode cX11_restore 111 = .ok (.iload_n 1, 1) := by decide +kernel
theorem dX11_restore_112 : decode cX11_restore 112 = .ok (.aload_n 0, 1) := by decide +kernel
theorem dX11_restore_113 : decode cX11_restore 113 = .ok (.getfield 44, 3) := by decide +kernel
theorem dX11_restore_116 : decode cX11_restore 116 = .ok (.invokevirtual 269, 3) := by decide +kernel
theorem dX11_restore_119 : decode cX11_restore 119 = .ok (.pop, 1) := by decide +kernel
theorem dX11_restore_120 : decode cX11_restore 120 = .ok (.iconst 1, 1) := by decide +kernel
theorem dX11_restore_121 : decode cX11_restore 121 = .ok (.ireturn, 1) := by decide +kernel
theorem dX11_isSheet_0 : decode cX11_isSheet 0 = .ok (.iload_n 0, 1) := by decide +kernel
theorem dX11_isSheet_1 : decode cX11_isSheet 1 = .ok (.i2l, 1) := by decide +kernel
theorem dX11_isSheet_2 : decode cX11_isSheet 2 = .ok (.lconst 0, 1) := by decide +kernel
theorem dX11_isSheet_3 : decode cX11_isSheet 3 = .ok (.ldc2_w 75, 3) := by decide +kernel
theorem dX11_isSheet_6 : decode cX11_isSheet 6 = .ok (.invokestatic 66, 3) := by decide +kernel
theorem dX11_isSheet_9 : decode cX11_isSheet 9 = .ok (.ireturn, 1) := by decide +kernel
theorem dX11_isLane_0 : decode cX11_isLane 0 = .ok (.iload_n 0, 1) := by decide +kernel
theorem dX11_isLane_1 : decode cX11_isLane 1 = .ok (.i2l, 1) := by decide +kernel
theorem dX11_isLane_2 : decode cX11_isLane 2 = .ok (.lconst 0, 1) := by decide +kernel
theorem dX11_isLane_3 : decode cX11_isLane 3 = .ok (.ldc2_w 75, 3) := by decide +kernel
theorem dX11_isLane_6 : decode cX11_isLane 6 = .ok (.invokestatic 66, 3) := by decide +kernel
theorem dX11_isLane_9 : decode cX11_isLane 9 = .ok (.ireturn, 1) := by decide +kernel
theorem dX11_why_0 : decode cX11_why 0 = .ok (.aload_n 0, 1) := by decide +kernel
theorem dX11_why_1 : decode cX11_why 1 = .ok (.getfield 50, 3) := by decide +kernel
theorem dX11_why_4 : decode cX11_why 4 = .ok (.iload_n 1, 1) := by decide +kernel
theorem dX11_why_5 : decode cX11_why 5 = .ok (.iaload, 1) := by decide +kernel
theorem dX11_why_6 : decode cX11_why 6 = .ok (.ifCond .ge 6, 3) := by decide +kernel
theorem dX11_why_9 : decode cX11_why 9 = .ok (.bipush (-11), 2) := by decide +kernel
theorem dX11_why_11 : decode cX11_why 11 = .ok (.ireturn, 1) := by decide +kernel
theorem dX11_why_12 : decode cX11_why 12 = .ok (.aload_n 0, 1) := by decide +kernel
theorem dX11_why_13 : decode cX11_why 13 = .ok (.getfield 50, 3) := by decide +kernel
theorem dX11_why_16 : decode cX11_why 16 = .ok (.iload_n 1, 1) := by decide +kernel
theorem dX11_why_17 : decode cX11_why 17 = .ok (.iaload, 1) := by decide +kernel
theorem dX11_why_18 : decode cX11_why 18 = .ok (.iload_n 2, 1) := by decide +kernel
theorem dX11_why_19 : decode cX11_why 19 = .ok (.if_icmp .eq 6, 3) := by decide +kernel
theorem dX11_why_22 : decode cX11_why 22 = .ok (.bipush (-12), 2) := by decide +kernel
theorem dX11_why_24 : decode cX11_why 24 = .ok (.ireturn, 1) := by decide +kernel
theorem dX11_why_25 : decode cX11_why 25 = .ok (.iload_n 3, 1) := by decide +kernel
theorem dX11_why_26 : decode cX11_why 26 = .ok (.ifCond .lt 20, 3) := by decide +kernel
theorem dX11_why_29 : decode cX11_why 29 = .ok (.iload_n 3, 1) := by decide +kernel
theorem dX11_why_30 : decode cX11_why 30 = .ok (.i2l, 1) := by decide +kernel
theorem dX11_why_31 : decode cX11_why 31 = .ok (.iload 4, 2) := by decide +kernel
theorem dX11_why_33 : decode cX11_why 33 = .ok (.i2l, 1) := by decide +kernel
theorem dX11_why_34 : decode cX11_why 34 = .ok (.ladd, 1) := by decide +kernel
theorem dX11_why_35 : decode cX11_why 35 = .ok (.aload_n 0, 1) := by decide +kernel
theorem dX11_why_36 : decode cX11_why 36 = .ok (.getfield 53, 3) := by decide +kernel
theorem dX11_why_39 : decode cX11_why 39 = .ok (.iload_n 1, 1) := by decide +kernel
theorem dX11_why_40 : decode cX11_why 40 = .ok (.iaload, 1) := by decide +kernel
theorem dX11_why_41 : decode cX11_why 41 = .ok (.i2l, 1) := by decide +kernel
theorem dX11_why_42 : decode cX11_why 42 = .ok (.lcmp, 1) := by decide +kernel
theorem dX11_why_43 : decode cX11_why 43 = .ok (.ifCond .le 8, 3) := by decide +kernel
theorem dX11_why_46 : decode cX11_why 46 = .ok (.bipush (-13), 2) := by decide +kernel
theorem dX11_why_48 : decode cX11_why 48 = .ok (.goto 4, 3) := by decide +kernel
theorem dX11_why_51 : decode cX11_why 51 = .ok (.iconst 0, 1) := by decide +kernel
theorem dX11_why_52 : decode cX11_why 52 = .ok (.ireturn, 1) := by decide +kernel
theorem dX11_judged_0 : decode cX11_judged 0 = .ok (.aload_n 0, 1) := by decide +kernel
theorem dX11_judged_1 : decode cX11_judged 1 = .ok (.iload_n 1, 1) := by decide +kernel
theorem dX11_judged_2 : decode cX11_judged 2 = .ok (.invokevirtual 105, 3) := by decide +kernel
theorem dX11_judged_5 : decode cX11_judged 5 = .ok (.ifCond .eq 38, 3) := by decide +kernel
theorem dX11_judged_8 : decode cX11_judged 8 = .ok (.iload_n 2, 1) := by decide +kernel
theorem dX11_judged_9 : decode cX11_judged 9 = .ok (.invokestatic 222, 3) := by decide +kernel
theorem dX11_judged_12 : decode cX11_judged 12 = .ok (.ifCond .eq 31, 3) := by decide +kernel
theorem dX11_judged_15 : decode cX11_judged 15 = .ok (.iload_n 3, 1) := by decide +kernel
theorem dX11_judged_16 : decode cX11_judged 16 = .ok (.invokestatic 273, 3) := by decide +kernel
theorem dX11_judged_19 : decode cX11_judged 19 = .ok (.ifCond .eq 24, 3) := by decide +kernel
theorem dX11_judged_22 : decode cX11_judged 22 = .ok (.iload 4, 2) := by decide +kernel
theorem dX11_judged_24 : decode cX11_judged 24 = .ok (.invokestatic 276, 3) := by decide +kernel
theorem dX11_judged_27 : decode cX11_judged 27 = .ok (.ifCond .eq 16, 3) := by decide +kernel
theorem dX11_judged_30 : decode cX11_judged 30 = .ok (.iload 6, 2) := by decide +kernel
theorem dX11_judged_32 : decode cX11_judged 32 = .ok (.i2l, 1) := by decide +kernel
theorem dX11_judged_33 : decode cX11_judged 33 = .ok (.lconst 0, 1) := by decide +kernel
theorem dX11_judged_34 : decode cX11_judged 34 = .ok (.ldc2_w 79, 3) := by decide +kernel
theorem dX11_judged_37 : decode cX11_judged 37 = .ok (.invokestatic 66, 3) := by decide +kernel
theorem dX11_judged_40 : decode cX11_judged 40 = .ok (.ifCond .ne 5, 3) := by decide +kernel
theorem dX11_judged_43 : decode cX11_judged 43 = .ok (.iconst (-1), 1) := by decide +kernel
theorem dX11_judged_44 : decode cX11_judged 44 = .ok (.ireturn, 1) := by decide +kernel
theorem dX11_judged_45 : decode cX11_judged 45 = .ok (.aload_n 0, 1) := by decide +kernel
theorem dX11_judged_46 : decode cX11_judged 46 = .ok (.iload_n 3, 1) := by decide +kernel
theorem dX11_judged_47 : decode cX11_judged 47 = .ok (.iload 4, 2) := by decide +kernel
theorem dX11_judged_49 : decode cX11_judged 49 = .ok (.iload 5, 2) := by decide +kernel
theorem dX11_judged_51 : decode cX11_judged 51 = .ok (.aload_n 0, 1) := by decide +kernel
theorem dX11_judged_52 : decode cX11_judged 52 = .ok (.getfield 63, 3) := by decide +kernel
theorem dX11_judged_55 : decode cX11_judged 55 = .ok (.invokevirtual 279, 3) := by decide +kernel
theorem dX11_judged_58 : decode cX11_judged 58 = .ok (.istore 7, 2) := by decide +kernel
theorem dX11_judged_60 : decode cX11_judged 60 = .ok (.iload 7, 2) := by decide +kernel
theorem dX11_judged_62 : decode cX11_judged 62 = .ok (.ifCond .ge 6, 3) := by decide +kernel
theorem dX11_judged_65 : decode cX11_judged 65 = .ok (.iload 7, 2) := by decide +kernel
theorem dX11_judged_67 : decode cX11_judged 67 = .ok (.ireturn, 1) := by decide +kernel
theorem dX11_judged_68 : decode cX11_judged 68 = .ok (.iconst 0, 1) := by decide +kernel
theorem dX11_judged_69 : decode cX11_judged 69 = .ok (.istore 8, 2) := by decide +kernel
theorem dX11_judged_71 : decode cX11_judged 71 = .ok (.iload 8, 2) := by decide +kernel
theorem dX11_judged_73 : decode cX11_judged 73 = .ok (.aload_n 0, 1) := by decide +kernel
theorem dX11_judged_74 : decode cX11_judged 74 = .ok (.getfield 63, 3) := by decide +kernel
theorem dX11_judged_77 : decode cX11_judged 77 = .ok (.if_icmp .ge 59, 3) := by decide +kernel
theorem dX11_judged_80 : decode cX11_judged 80 = .ok (.aload_n 0, 1) := by decide +kernel
theorem dX11_judged_81 : decode cX11_judged 81 = .ok (.getfield 56, 3) := by decide +kernel
theorem dX11_judged_84 : decode cX11_judged 84 = .ok (.bipush 16, 2) := by decide +kernel
theorem dX11_judged_86 : decode cX11_judged 86 = .ok (.iload_n 3, 1) := by decide +kernel
theorem dX11_judged_87 : decode cX11_judged 87 = .ok (.imul, 1) := by decide +kernel
theorem dX11_judged_88 : decode cX11_judged 88 = .ok (.iload 5, 2) := by decide +kernel
theorem dX11_judged_90 : decode cX11_judged 90 = .ok (.iadd, 1) := by decide +kernel
theorem dX11_judged_91 : decode cX11_judged 91 = .ok (.iload 8, 2) := by decide +kernel
theorem dX11_judged_93 : decode cX11_judged 93 = .ok (.iadd, 1) := by decide +kernel
theorem dX11_judged_94 : decode cX11_judged 94 = .ok (.laload, 1) := by decide +kernel
theorem dX11_judged_95 : decode cX11_judged 95 = .ok (.lstore 9, 2) := by decide +kernel
theorem dX11_judged_97 : decode cX11_judged 97 = .ok (.lload 9, 2) := by decide +kernel
theorem dX11_judged_99 : decode cX11_judged 99 = .ok (.aload_n 0, 1) := by decide +kernel
theorem dX11_judged_100 : decode cX11_judged 100 = .ok (.iload_n 1, 1) := by decide +kernel
theorem dX11_judged_101 : decode cX11_judged 101 = .ok (.invokevirtual 108, 3) := by decide +kernel
theorem dX11_judged_104 : decode cX11_judged 104 = .ok (.i2l, 1) := by decide +kernel
theorem dX11_judged_105 : decode cX11_judged 105 = .ok (.aload_n 0, 1) := by decide +kernel
theorem dX11_judged_106 : decode cX11_judged 106 = .ok (.iload_n 1, 1) := by decide +kernel
theorem dX11_judged_107 : decode cX11_judged 107 = .ok (.invokevirtual 101, 3) := by decide +kernel
theorem dX11_judged_110 : decode cX11_judged 110 = .ok (.i2l, 1) := by decide +kernel
theorem dX11_judged_111 : decode cX11_judged 111 = .ok (.invokestatic 66, 3) := by decide +kernel
theorem dX11_judged_114 : decode cX11_judged 114 = .ok (.ifCond .ne 6, 3) := by decide +kernel
theorem dX11_judged_117 : decode cX11_judged 117 = .ok (.bipush (-2), 2) := by decide +kernel
theorem dX11_judged_119 : decode cX11_judged 119 = .ok (.ireturn, 1) := by decide +kernel
theorem dX11_judged_120 : decode cX11_judged 120 = .ok (.aload_n 0, 1) := by decide +kernel
theorem dX11_judged_121 : decode cX11_judged 121 = .ok (.getfield 23, 3) := by decide +kernel
theorem dX11_judged_124 : decode cX11_judged 124 = .ok (.iload 8, 2) := by decide +kernel
theorem dX11_judged_126 : decode cX11_judged 126 = .ok (.lload 9, 2) := by decide +kernel
theorem dX11_judged_128 : decode cX11_judged 128 = .ok (.l2i, 1) := by decide +kernel
theorem dX11_judged_129 : decode cX11_judged 129 = .ok (.iastore, 1) := by decide +kernel
theorem dX11_judged_130 : decode cX11_judged 130 = .ok (.iinc 8 1, 3) := by decide +kernel
theorem dX11_judged_133 : decode cX11_judged 133 = .ok (.goto (-62), 3) := by decide +kernel
theorem dX11_judged_136 : decode cX11_judged 136 = .ok (.aload_n 0, 1) := by decide +kernel
theorem dX11_judged_137 : decode cX11_judged 137 = .ok (.iload_n 1, 1) := by decide +kernel
theorem dX11_judged_138 : decode cX11_judged 138 = .ok (.iload_n 2, 1) := by decide +kernel
theorem dX11_judged_139 : decode cX11_judged 139 = .ok (.invokevirtual 142, 3) := by decide +kernel
theorem dX11_judged_142 : decode cX11_judged 142 = .ok (.iload 6, 2) := by decide +kernel
theorem dX11_judged_144 : decode cX11_judged 144 = .ok (.ifCond .ne 10, 3) := by decide +kernel
theorem dX11_judged_147 : decode cX11_judged 147 = .ok (.aload_n 0, 1) := by decide +kernel
theorem dX11_judged_148 : decode cX11_judged 148 = .ok (.getfield 133, 3) := by decide +kernel
theorem dX11_judged_151 : decode cX11_judged 151 = .ok (.goto 20, 3) := by decide +kernel
theorem dX11_judged_154 : decode cX11_judged 154 = .ok (.iload 6, 2) := by decide +kernel
theorem dX11_judged_156 : decode cX11_judged 156 = .ok (.iconst 1, 1) := by decide +kernel
theorem dX11_judged_157 : decode cX11_judged 157 = .ok (.if_icmp .ne 10, 3) := by decide +kernel
theorem dX11_judged_160 : decode cX11_judged 160 = .ok (.aload_n 0, 1) := by decide +kernel
theorem dX11_judged_161 : decode cX11_judged 161 = .ok (.getfield 136, 3) := by decide +kernel
theorem dX11_judged_164 : decode cX11_judged 164 = .ok (.goto 7, 3) := by decide +kernel
theorem dX11_judged_167 : decode cX11_judged 167 = .ok (.aload_n 0, 1) := by decide +kernel
theorem dX11_judged_168 : decode cX11_judged 168 = .ok (.getfield 130, 3) := by decide +kernel
theorem dX11_judged_171 : decode cX11_judged 171 = .ok (.ireturn, 1) := by decide +kernel
theorem dX11_puts_0 : decode cX11_puts 0 = .ok (.aload_n 0, 1) := by decide +kernel
theorem dX11_puts_1 : decode cX11_puts 1 = .ok (.getfield 50, 3) := by decide +kernel
theorem dX11_puts_4 : decode cX11_puts 4 = .ok (.iload_n 1, 1) := by decide +kernel
theorem dX11_puts_5 : decode cX11_puts 5 = .ok (.iaload, 1) := by decide +kernel
theorem dX11_puts_6 : decode cX11_puts 6 = .ok (.istore 5, 2) := by decide +kernel
theorem dX11_puts_8 : decode cX11_puts 8 = .ok (.aload_n 0, 1) := by decide +kernel
theorem dX11_puts_9 : decode cX11_puts 9 = .ok (.getfield 56, 3) := by decide +kernel
theorem dX11_puts_12 : decode cX11_puts 12 = .ok (.bipush 16, 2) := by decide +kernel
theorem dX11_puts_14 : decode cX11_puts 14 = .ok (.iload_n 1, 1) := by decide +kernel
theorem dX11_puts_15 : decode cX11_puts 15 = .ok (.imul, 1) := by decide +kernel
theorem dX11_puts_16 : decode cX11_puts 16 = .ok (.iload_n 2, 1) := by decide +kernel
theorem dX11_puts_17 : decode cX11_puts 17 = .ok (.iadd, 1) := by decide +kernel
theorem dX11_puts_18 : decode cX11_puts 18 = .ok (.iload 5, 2) := by decide +kernel
theorem dX11_puts_20 : decode cX11_puts 20 = .ok (.ifCond .ne 10, 3) := by decide +kernel
theorem dX11_puts_23 : decode cX11_puts 23 = .ok (.lload_n 3, 1) := by decide +kernel
theorem dX11_puts_24 : decode cX11_puts 24 = .ok (.l2i, 1) := by decide +kernel
theorem dX11_puts_25 : decode cX11_puts 25 = .ok (.i2b, 1) := by decide +kernel
theorem dX11_puts_26 : decode cX11_puts 26 = .ok (.i2l, 1) := by decide +kernel
theorem dX11_puts_27 : decode cX11_puts 27 = .ok (.goto 29, 3) := by decide +kernel
theorem dX11_puts_30 : decode cX11_puts 30 = .ok (.iload 5, 2) := by decide +kernel
theorem dX11_puts_32 : decode cX11_puts 32 = .ok (.iconst 1, 1) := by decide +kernel
theorem dX11_puts_33 : decode cX11_puts 33 = .ok (.if_icmp .ne 10, 3) := by decide +kernel
theorem dX11_puts_36 : decode cX11_puts 36 = .ok (.lload_n 3, 1) := by decide +kernel
theorem dX11_puts_37 : decode cX11_puts 37 = .ok (.l2i, 1) := by decide +kernel
theorem dX11_puts_38 : decode cX11_puts 38 = .ok (.i2s, 1) := by decide +kernel
theorem dX11_puts_39 : decode cX11_puts 39 = .ok (.i2l, 1) := by decide +kernel
theorem dX11_puts_40 : decode cX11_puts 40 = .ok (.goto 16, 3) := by decide +kernel
theorem dX11_puts_43 : decode cX11_puts 43 = .ok (.iload 5, 2) := by decide +kernel
theorem dX11_puts_45 : decode cX11_puts 45 = .ok (.iconst 2, 1) := by decide +kernel
theorem dX11_puts_46 : decode cX11_puts 46 = .ok (.if_icmp .ne 9, 3) := by decide +kernel
theorem dX11_puts_49 : decode cX11_puts 49 = .ok (.lload_n 3, 1) := by decide +kernel
theorem dX11_puts_50 : decode cX11_puts 50 = .ok (.l2i, 1) := by decide +kernel
theorem dX11_puts_51 : decode cX11_puts 51 = .ok (.i2l, 1) := by decide +kernel
theorem dX11_puts_52 : decode cX11_puts 52 = .ok (.goto 4, 3) := by decide +kernel
theorem dX11_puts_55 : decode cX11_puts 55 = .ok (.lload_n 3, 1) := by decide +kernel
theorem dX11_puts_56 : decode cX11_puts 56 = .ok (.lastore, 1) := by decide +kernel
theorem dX11_puts_57 : decode cX11_puts 57 = .ok (.return_, 1) := by decide +kernel
theorem dX11_film_0 : decode cX11_film 0 = .ok (.iload_n 1, 1) := by decide +kernel
theorem dX11_film_1 : decode cX11_film 1 = .ok (.i2l, 1) := by decide +kernel
theorem dX11_film_2 : decode cX11_film 2 = .ok (.lconst 0, 1) := by decide +kernel
theorem dX11_film_3 : decode cX11_film 3 = .ok (.ldc2_w 118, 3) := by decide +kernel
theorem dX11_film_6 : decode cX11_film 6 = .ok (.invokestatic 66, 3) := by decide +kernel
theorem dX11_film_9 : decode cX11_film 9 = .ok (.ifCond .eq 17, 3) := by decide +kernel
theorem dX11_film_12 : decode cX11_film 12 = .ok (.iload_n 2, 1) := by decide +kernel
theorem dX11_film_13 : decode cX11_film 13 = .ok (.invokestatic 273, 3) := by decide +kernel
theorem dX11_film_16 : decode cX11_film 16 = .ok (.ifCond .eq 10, 3) := by decide +kernel
theorem dX11_film_19 : decode cX11_film 19 = .ok (.iload_n 3, 1) := by decide +kernel
theorem dX11_film_20 : decode cX11_film 20 = .ok (.invokestatic 276, 3) := by decide +kernel
theorem dX11_film_23 : decode cX11_film 23 = .ok (.ifCond .ne 5, 3) := by decide +kernel
theorem dX11_film_26 : decode cX11_film 26 = .ok (.iconst (-1), 1) := by decide +kernel
theorem dX11_film_27 : decode cX11_film 27 = .ok (.ireturn, 1) := by decide +kernel
theorem dX11_film_28 : decode cX11_film 28 = .ok (.aload_n 0, 1) := by decide +kernel
theorem dX11_film_29 : decode cX11_film 29 = .ok (.iload_n 2, 1) := by decide +kernel
theorem dX11_film_30 : decode cX11_film 30 = .ok (.iload_n 3, 1) := by decide +kernel
theorem dX11_film_31 : decode cX11_film 31 = .ok (.iload 4, 2) := by decide +kernel
theorem dX11_film_33 : decode cX11_film 33 = .ok (.aload_n 0, 1) := by decide +kernel
theorem dX11_film_34 : decode cX11_film 34 = .ok (.getfield 63, 3) := by decide +kernel
theorem dX11_film_37 : decode cX11_film 37 = .ok (.invokevirtual 279, 3) := by decide +kernel
theorem dX11_film_40 : decode cX11_film 40 = .ok (.istore 5, 2) := by decide +kernel
theorem dX11_film_42 : decode cX11_film 42 = .ok (.iload 5, 2) := by decide +kernel
theorem dX11_film_44 : decode cX11_film 44 = .ok (.ifCond .ge 6, 3) := by decide +kernel
theorem dX11_film_47 : decode cX11_film 47 = .ok (.iload 5, 2) := by decide +kernel
theorem dX11_film_49 : decode cX11_film 49 = .ok (.ireturn, 1) := by decide +kernel
theorem dX11_film_50 : decode cX11_film 50 = .ok (.iconst 0, 1) := by decide +kernel
theorem dX11_film_51 : decode cX11_film 51 = .ok (.istore 6, 2) := by decide +kernel
theorem dX11_film_53 : decode cX11_film 53 = .ok (.iload 6, 2) := by decide +kernel
theorem dX11_film_55 : decode cX11_film 55 = .ok (.aload_n 0, 1) := by decide +kernel
theorem dX11_film_56 : decode cX11_film 56 = .ok (.getfield 63, 3) := by decide +kernel
theorem dX11_film_59 : decode cX11_film 59 = .ok (.if_icmp .ge 27, 3) := by decide +kernel
theorem dX11_film_62 : decode cX11_film 62 = .ok (.aload_n 0, 1) := by decide +kernel
theorem dX11_film_63 : decode cX11_film 63 = .ok (.iload_n 2, 1) := by decide +kernel
theorem dX11_film_64 : decode cX11_film 64 = .ok (.iload 4, 2) := by decide +kernel
theorem dX11_film_66 : decode cX11_film 66 = .ok (.iload 6, 2) := by decide +kernel
theorem dX11_film_68 : decode cX11_film 68 = .ok (.iadd, 1) := by decide +kernel
theorem dX11_film_69 : decode cX11_film 69 = .ok (.aload_n 0, 1) := by decide +kernel
theorem dX11_film_70 : decode cX11_film 70 = .ok (.iload 6, 2) := by decide +kernel
theorem dX11_film_72 : decode cX11_film 72 = .ok (.iload_n 1, 1) := by decide +kernel
theorem dX11_film_73 : decode cX11_film 73 = .ok (.invokevirtual 282, 3) := by decide +kernel
theorem dX11_film_76 : decode cX11_film 76 = .ok (.i2l, 1) := by decide +kernel
theorem dX11_film_77 : decode cX11_film 77 = .ok (.invokevirtual 285, 3) := by decide +kernel
theorem dX11_film_80 : decode cX11_film 80 = .ok (.iinc 6 1, 3) := by decide +kernel
theorem dX11_film_83 : decode cX11_film 83 = .ok (.goto (-30), 3) := by decide +kernel
theorem dX11_film_86 : decode cX11_film 86 = .ok (.aload_n 0, 1) := by decide +kernel
theorem dX11_film_87 : decode cX11_film 87 = .ok (.getfield 63, 3) := by decide +kernel
theorem dX11_film_90 : decode cX11_film 90 = .ok (.ireturn, 1) := by decide +kernel
theorem dX11_sheet_0 : decode cX11_sheet 0 = .ok (.iload_n 1, 1) := by decide +kernel
theorem dX11_sheet_1 : decode cX11_sheet 1 = .ok (.invokestatic 273, 3) := by decide +kernel
theorem dX11_sheet_4 : decode cX11_sheet 4 = .ok (.ifCond .eq 16, 3) := by decide +kernel
theorem dX11_sheet_7 : decode cX11_sheet 7 = .ok (.iload_n 2, 1) := by decide +kernel
theorem dX11_sheet_8 : decode cX11_sheet 8 = .ok (.invokestatic 276, 3) := by decide +kernel
theorem dX11_sheet_11 : decode cX11_sheet 11 = .ok (.ifCond .eq 9, 3) := by decide +kernel
theorem dX11_sheet_14 : decode cX11_sheet 14 = .ok (.iload_n 3, 1) := by decide +kernel
theorem dX11_sheet_15 : decode cX11_sheet 15 = .ok (.bipush 16, 2) := by decide +kernel
theorem dX11_sheet_17 : decode cX11_sheet 17 = .ok (.if_icmp .le 5, 3) := by decide +kernel
theorem dX11_sheet_20 : decode cX11_sheet 20 = .ok (.iconst (-1), 1) := by decide +kernel
theorem dX11_sheet_21 : decode cX11_sheet 21 = .ok (.ireturn, 1) := by decide +kernel
theorem dX11_sheet_22 : decode cX11_sheet 22 = .ok (.iload_n 3, 1) := by decide +kernel
theorem dX11_sheet_23 : decode cX11_sheet 23 = .ok (.ifCond .ge 6, 3) := by decide +kernel
theorem dX11_sheet_26 : decode cX11_sheet 26 = .ok (.bipush (-14), 2) := by decide +kernel
theorem dX11_sheet_28 : decode cX11_sheet 28 = .ok (.ireturn, 1) := by decide +kernel
theorem dX11_sheet_29 : decode cX11_sheet 29 = .ok (.aload_n 0, 1) := by decide +kernel
theorem dX11_sheet_30 : decode cX11_sheet 30 = .ok (.getfield 50, 3) := by decide +kernel
theorem dX11_sheet_33 : decode cX11_sheet 33 = .ok (.iload_n 1, 1) := by decide +kernel
theorem dX11_sheet_34 : decode cX11_sheet 34 = .ok (.iload_n 2, 1) := by decide +kernel
theorem dX11_sheet_35 : decode cX11_sheet 35 = .ok (.iastore, 1) := by decide +kernel
theorem dX11_sheet_36 : decode cX11_sheet 36 = .ok (.aload_n 0, 1) := by decide +kernel
theorem dX11_sheet_37 : decode cX11_sheet 37 = .ok (.getfield 53, 3) := by decide +kernel
theorem dX11_sheet_40 : decode cX11_sheet 40 = .ok (.iload_n 1, 1) := by decide +kernel
theorem dX11_sheet_41 : decode cX11_sheet 41 = .ok (.iload_n 3, 1) := by decide +kernel
theorem dX11_sheet_42 : decode cX11_sheet 42 = .ok (.iastore, 1) := by decide +kernel
theorem dX11_sheet_43 : decode cX11_sheet 43 = .ok (.iconst 0, 1) := by decide +kernel
theorem dX11_sheet_44 : decode cX11_sheet 44 = .ok (.istore 4, 2) := by decide +kernel
theorem dX11_sheet_46 : decode cX11_sheet 46 = .ok (.iload 4, 2) := by decide +kernel
theorem dX11_sheet_48 : decode cX11_sheet 48 = .ok (.bipush 16, 2) := by decide +kernel
theorem dX11_sheet_50 : decode cX11_sheet 50 = .ok (.if_icmp .ge 22, 3) := by decide +kernel
theorem dX11_sheet_53 : decode cX11_sheet 53 = .ok (.aload_n 0, 1) := by decide +kernel
theorem dX11_sheet_54 : decode cX11_sheet 54 = .ok (.getfield 56, 3) := by decide +kernel
theorem dX11_sheet_57 : decode cX11_sheet 57 = .ok (.bipush 16, 2) := by decide +kernel
theorem dX11_sheet_59 : decode cX11_sheet 59 = .ok (.iload_n 1, 1) := by decide +kernel
theorem dX11_sheet_60 : decode cX11_sheet 60 = .ok (.imul, 1) := by decide +kernel
theorem dX11_sheet_61 : decode cX11_sheet 61 = .ok (.iload 4, 2) := by decide +kernel
theorem dX11_sheet_63 : decode cX11_sheet 63 = .ok (.iadd, 1) := by decide +kernel
theorem dX11_sheet_64 : decode cX11_sheet 64 = .ok (.lconst 0, 1) := by decide +kernel
theorem dX11_sheet_65 : decode cX11_sheet 65 = .ok (.lastore, 1) := by decide +kernel
theorem dX11_sheet_66 : decode cX11_sheet 66 = .ok (.iinc 4 1, 3) := by decide +kernel
theorem dX11_sheet_69 : decode cX11_sheet 69 = .ok (.goto (-23), 3) := by decide +kernel
theorem dX11_sheet_72 : decode cX11_sheet 72 = .ok (.iload_n 3, 1) := by decide +kernel
theorem dX11_sheet_73 : decode cX11_sheet 73 = .ok (.ireturn, 1) := by decide +kernel
theorem dX11_drop_0 : decode cX11_drop 0 = .ok (.iload_n 1, 1) := by decide +kernel
theorem dX11_drop_1 : decode cX11_drop 1 = .ok (.invokestatic 273, 3) := by decide +kernel
theorem dX11_drop_4 : decode cX11_drop 4 = .ok (.ifCond .ne 5, 3) := by decide +kernel
theorem dX11_drop_7 : decode cX11_drop 7 = .ok (.iconst (-1), 1) := by decide +kernel
theorem dX11_drop_8 : decode cX11_drop 8 = .ok (.ireturn, 1) := by decide +kernel
theorem dX11_drop_9 : decode cX11_drop 9 = .ok (.aload_n 0, 1) := by decide +kernel
theorem dX11_drop_10 : decode cX11_drop 10 = .ok (.getfield 50, 3) := by decide +kernel
theorem dX11_drop_13 : decode cX11_drop 13 = .ok (.iload_n 1, 1) := by decide +kernel
theorem dX11_drop_14 : decode cX11_drop 14 = .ok (.iaload, 1) := by decide +kernel
theorem dX11_drop_15 : decode cX11_drop 15 = .ok (.ifCond .ge 6, 3) := by decide +kernel
theorem dX11_drop_18 : decode cX11_drop 18 = .ok (.bipush (-11), 2) := by decide +kernel
theorem dX11_drop_20 : decode cX11_drop 20 = .ok (.ireturn, 1) := by decide +kernel
theorem dX11_drop_21 : decode cX11_drop 21 = .ok (.aload_n 0, 1) := by decide +kernel
theorem dX11_drop_22 : decode cX11_drop 22 = .ok (.getfield 50, 3) := by decide +kernel
theorem dX11_drop_25 : decode cX11_drop 25 = .ok (.iload_n 1, 1) := by decide +kernel
theorem dX11_drop_26 : decode cX11_drop 26 = .ok (.iconst (-1), 1) := by decide +kernel
theorem dX11_drop_27 : decode cX11_drop 27 = .ok (.iastore, 1) := by decide +kernel
theorem dX11_drop_28 : decode cX11_drop 28 = .ok (.aload_n 0, 1) := by decide +kernel
theorem dX11_drop_29 : decode cX11_drop 29 = .ok (.getfield 53, 3) := by decide +kernel
theorem dX11_drop_32 : decode cX11_drop 32 = .ok (.iload_n 1, 1) := by decide +kernel
theorem dX11_drop_33 : decode cX11_drop 33 = .ok (.iaload, 1) := by decide +kernel
theorem dX11_drop_34 : decode cX11_drop 34 = .ok (.ireturn, 1) := by decide +kernel
theorem dX11_item_0 : decode cX11_item 0 = .ok (.iload_n 1, 1) := by decide +kernel
theorem dX11_item_1 : decode cX11_item 1 = .ok (.invokestatic 273, 3) := by decide +kernel
theorem dX11_item_4 : decode cX11_item 4 = .ok (.ifCond .eq 10, 3) := by decide +kernel
theorem dX11_item_7 : decode cX11_item 7 = .ok (.iload_n 2, 1) := by decide +kernel
theorem dX11_item_8 : decode cX11_item 8 = .ok (.invokestatic 276, 3) := by decide +kernel
theorem dX11_item_11 : decode cX11_item 11 = .ok (.ifCond .ne 5, 3) := by decide +kernel
theorem dX11_item_14 : decode cX11_item 14 = .ok (.iconst (-1), 1) := by decide +kernel
theorem dX11_item_15 : decode cX11_item 15 = .ok (.ireturn, 1) := by decide +kernel
theorem dX11_item_16 : decode cX11_item 16 = .ok (.aload_n 0, 1) := by decide +kernel
theorem dX11_item_17 : decode cX11_item 17 = .ok (.iload_n 1, 1) := by decide +kernel
theorem dX11_item_18 : decode cX11_item 18 = .ok (.iload_n 2, 1) := by decide +kernel
theorem dX11_item_19 : decode cX11_item 19 = .ok (.iload_n 3, 1) := by decide +kernel
theorem dX11_item_20 : decode cX11_item 20 = .ok (.iconst 1, 1) := by decide +kernel
theorem dX11_item_21 : decode cX11_item 21 = .ok (.invokevirtual 279, 3) := by decide +kernel
theorem dX11_item_24 : decode cX11_item 24 = .ok (.istore 6, 2) := by decide +kernel
theorem dX11_item_26 : decode cX11_item 26 = .ok (.iload 6, 2) := by decide +kernel
theorem dX11_item_28 : decode cX11_item 28 = .ok (.ifCond .ge 6, 3) := by decide +kernel
theorem dX11_item_31 : decode cX11_item 31 = .ok (.iload 6, 2) := by decide +kernel
theorem dX11_item_33 : decode cX11_item 33 = .ok (.ireturn, 1) := by decide +kernel
theorem dX11_item_34 : decode cX11_item 34 = .ok (.aload_n 0, 1) := by decide +kernel
theorem dX11_item_35 : decode cX11_item 35 = .ok (.iload_n 1, 1) := by decide +kernel
theorem dX11_item_36 : decode cX11_item 36 = .ok (.iload_n 3, 1) := by decide +kernel
theorem dX11_item_37 : decode cX11_item 37 = .ok (.lload 4, 2) := by decide +kernel
theorem dX11_item_39 : decode cX11_item 39 = .ok (.invokevirtual 285, 3) := by decide +kernel
theorem dX11_item_42 : decode cX11_item 42 = .ok (.iconst 1, 1) := by decide +kernel
theorem dX11_item_43 : decode cX11_item 43 = .ok (.ireturn, 1) := by decide +kernel
theorem dX11_copy_0 : decode cX11_copy 0 = .ok (.iload_n 1, 1) := by decide +kernel
theorem dX11_copy_1 : decode cX11_copy 1 = .ok (.invokestatic 273, 3) := by decide +kernel
theorem dX11_copy_4 : decode cX11_copy 4 = .ok (.ifCond .eq 10, 3) := by decide +kernel
theorem dX11_copy_7 : decode cX11_copy 7 = .ok (.iload_n 3, 1) := by decide +kernel
theorem dX11_copy_8 : decode cX11_copy 8 = .ok (.invokestatic 273, 3) := by decide +kernel
theorem dX11_copy_11 : decode cX11_copy 11 = .ok (.ifCond .ne 5, 3) := by decide +kernel
theorem dX11_copy_14 : decode cX11_copy 14 = .ok (.iconst (-1), 1) := by decide +kernel
theorem dX11_copy_15 : decode cX11_copy 15 = .ok (.ireturn, 1) := by decide +kernel
theorem dX11_copy_16 : decode cX11_copy 16 = .ok (.aload_n 0, 1) := by decide +kernel
theorem dX11_copy_17 : decode cX11_copy 17 = .ok (.getfield 50, 3) := by decide +kernel
theorem dX11_copy_20 : decode cX11_copy 20 = .ok (.iload_n 1, 1) := by decide +kernel
theorem dX11_copy_21 : decode cX11_copy 21 = .ok (.iaload, 1) := by decide +kernel
theorem dX11_copy_22 : decode cX11_copy 22 = .ok (.ifCond .lt 12, 3) := by decide +kernel
theorem dX11_copy_25 : decode cX11_copy 25 = .ok (.aload_n 0, 1) := by decide +kernel
theorem dX11_copy_26 : decode cX11_copy 26 = .ok (.getfield 50, 3) := by decide +kernel
theorem dX11_copy_29 : decode cX11_copy 29 = .ok (.iload_n 3, 1) := by decide +kernel
theorem dX11_copy_30 : decode cX11_copy 30 = .ok (.iaload, 1) := by decide +kernel
theorem dX11_copy_31 : decode cX11_copy 31 = .ok (.ifCond .ge 6, 3) := by decide +kernel
theorem dX11_copy_34 : decode cX11_copy 34 = .ok (.bipush (-11), 2) := by decide +kernel
theorem dX11_copy_36 : decode cX11_copy 36 = .ok (.ireturn, 1) := by decide +kernel
theorem dX11_copy_37 : decode cX11_copy 37 = .ok (.aload_n 0, 1) := by decide +kernel
theorem dX11_copy_38 : decode cX11_copy 38 = .ok (.getfield 50, 3) := by decide +kernel
theorem dX11_copy_41 : decode cX11_copy 41 = .ok (.iload_n 1, 1) := by decide +kernel
theorem dX11_copy_42 : decode cX11_copy 42 = .ok (.iaload, 1) := by decide +kernel
theorem dX11_copy_43 : decode cX11_copy 43 = .ok (.aload_n 0, 1) := by decide +kernel
theorem dX11_copy_44 : decode cX11_copy 44 = .ok (.getfield 50, 3) := by decide +kernel
theorem dX11_copy_47 : decode cX11_copy 47 = .ok (.iload_n 3, 1) := by decide +kernel
theorem dX11_copy_48 : decode cX11_copy 48 = .ok (.iaload, 1) := by decide +kernel
theorem dX11_copy_49 : decode cX11_copy 49 = .ok (.if_icmp .eq 6, 3) := by decide +kernel
theorem dX11_copy_52 : decode cX11_copy 52 = .ok (.bipush (-12), 2) := by decide +kernel
theorem dX11_copy_54 : decode cX11_copy 54 = .ok (.ireturn, 1) := by decide +kernel
theorem dX11_copy_55 : decode cX11_copy 55 = .ok (.iload 5, 2) := by decide +kernel
theorem dX11_copy_57 : decode cX11_copy 57 = .ok (.ifCond .lt 38, 3) := by decide +kernel
theorem dX11_copy_60 : decode cX11_copy 60 = .ok (.aload_n 0, 1) := by decide +kernel
theorem dX11_copy_61 : decode cX11_copy 61 = .ok (.iload_n 1, 1) := by decide +kernel
theorem dX11_copy_62 : decode cX11_copy 62 = .ok (.aload_n 0, 1) := by decide +kernel
theorem dX11_copy_63 : decode cX11_copy 63 = .ok (.getfield 50, 3) := by decide +kernel
theorem dX11_copy_66 : decode cX11_copy 66 = .ok (.iload_n 1, 1) := by decide +kernel
theorem dX11_copy_67 : decode cX11_copy 67 = .ok (.iaload, 1) := by decide +kernel
theorem dX11_copy_68 : decode cX11_copy 68 = .ok (.iload_n 2, 1) := by decide +kernel
theorem dX11_copy_69 : decode cX11_copy 69 = .ok (.iload 5, 2) := by decide +kernel
theorem dX11_copy_71 : decode cX11_copy 71 = .ok (.invokevirtual 279, 3) := by decide +kernel
theorem dX11_copy_74 : decode cX11_copy 74 = .ok (.ifCond .lt 21, 3) := by decide +kernel
theorem dX11_copy_77 : decode cX11_copy 77 = .ok (.aload_n 0, 1) := by decide +kernel
theorem dX11_copy_78 : decode cX11_copy 78 = .ok (.iload_n 3, 1) := by decide +kernel
theorem dX11_copy_79 : decode cX11_copy 79 = .ok (.aload_n 0, 1) := by decide +kernel
theorem dX11_copy_80 : decode cX11_copy 80 = .ok (.getfield 50, 3) := by decide +kernel
theorem dX11_copy_83 : decode cX11_copy 83 = .ok (.iload_n 3, 1) := by decide +kernel
theorem dX11_copy_84 : decode cX11_copy 84 = .ok (.iaload, 1) := by decide +kernel
theorem dX11_copy_85 : decode cX11_copy 85 = .ok (.iload 4, 2) := by decide +kernel
theorem dX11_copy_87 : decode cX11_copy 87 = .ok (.iload 5, 2) := by decide +kernel
theorem dX11_copy_89 : decode cX11_copy 89 = .ok (.invokevirtual 279, 3) := by decide +kernel
theorem dX11_copy_92 : decode cX11_copy 92 = .ok (.ifCond .ge 6, 3) := by decide +kernel
theorem dX11_copy_95 : decode cX11_copy 95 = .ok (.bipush (-13), 2) := by decide +kernel
theorem dX11_copy_97 : decode cX11_copy 97 = .ok (.ireturn, 1) := by decide +kernel
theorem dX11_copy_98 : decode cX11_copy 98 = .ok (.iconst 0, 1) := by decide +kernel
theorem dX11_copy_99 : decode cX11_copy 99 = .ok (.istore 6, 2) := by decide +kernel
theorem dX11_copy_101 : decode cX11_copy 101 = .ok (.iload 6, 2) := by decide +kernel
theorem dX11_copy_103 : decode cX11_copy 103 = .ok (.iload 5, 2) := by decide +kernel
theorem dX11_copy_105 : decode cX11_copy 105 = .ok (.if_icmp .ge 30, 3) := by decide +kernel
theorem dX11_copy_108 : decode cX11_copy 108 = .ok (.aload_n 0, 1) := by decide +kernel
theorem dX11_copy_109 : decode cX11_copy 109 = .ok (.getfield 60, 3) := by decide +kernel
theorem dX11_copy_112 : decode cX11_copy 112 = .ok (.iload 6, 2) := by decide +kernel
theorem dX11_copy_114 : decode cX11_copy 114 = .ok (.aload_n 0, 1) := by decide +kernel
theorem dX11_copy_115 : decode cX11_copy 115 = .ok (.getfield 56, 3) := by decide +kernel
theorem dX11_copy_118 : decode cX11_copy 118 = .ok (.bipush 16, 2) := by decide +kernel
theorem dX11_copy_120 : decode cX11_copy 120 = .ok (.iload_n 1, 1) := by decide +kernel
theorem dX11_copy_121 : decode cX11_copy 121 = .ok (.imul, 1) := by decide +kernel
theorem dX11_copy_122 : decode cX11_copy 122 = .ok (.iload_n 2, 1) := by decide +kernel
theorem dX11_copy_123 : decode cX11_copy 123 = .ok (.iadd, 1) := by decide +kernel
theorem dX11_copy_124 : decode cX11_copy 124 = .ok (.iload 6, 2) := by decide +kernel
theorem dX11_copy_126 : decode cX11_copy 126 = .ok (.iadd, 1) := by decide +kernel
theorem dX11_copy_127 : decode cX11_copy 127 = .ok (.laload, 1) := by decide +kernel
theorem dX11_copy_128 : decode cX11_copy 128 = .ok (.lastore, 1) := by decide +kernel
theorem dX11_copy_129 : decode cX11_copy 129 = .ok (.iinc 6 1, 3) := by decide +kernel
theorem dX11_copy_132 : decode cX11_copy 132 = .ok (.goto (-31), 3) := by decide +kernel
theorem dX11_copy_135 : decode cX11_copy 135 = .ok (.iconst 0, 1) := by decide +kernel
theorem dX11_copy_136 : decode cX11_copy 136 = .ok (.istore 6, 2) := by decide +kernel
theorem dX11_copy_138 : decode cX11_copy 138 = .ok (.iload 6, 2) := by decide +kernel
theorem dX11_copy_140 : decode cX11_copy 140 = .ok (.iload 5, 2) := by decide +kernel
theorem dX11_copy_142 : decode cX11_copy 142 = .ok (.if_icmp .ge 31, 3) := by decide +kernel
theorem dX11_copy_145 : decode cX11_copy 145 = .ok (.aload_n 0, 1) := by decide +kernel
theorem dX11_copy_146 : decode cX11_copy 146 = .ok (.getfield 56, 3) := by decide +kernel
theorem dX11_copy_149 : decode cX11_copy 149 = .ok (.bipush 16, 2) := by decide +kernel
theorem dX11_copy_151 : decode cX11_copy 151 = .ok (.iload_n 3, 1) := by decide +kernel
theorem dX11_copy_152 : decode cX11_copy 152 = .ok (.imul, 1) := by decide +kernel
theorem dX11_copy_153 : decode cX11_copy 153 = .ok (.iload 4, 2) := by decide +kernel
theorem dX11_copy_155 : decode cX11_copy 155 = .ok (.iadd, 1) := by decide +kernel
theorem dX11_copy_156 : decode cX11_copy 156 = .ok (.iload 6, 2) := by decide +kernel
theorem dX11_copy_158 : decode cX11_copy 158 = .ok (.iadd, 1) := by decide +kernel
theorem dX11_copy_159 : decode cX11_copy 159 = .ok (.aload_n 0, 1) := by decide +kernel
theorem dX11_copy_160 : decode cX11_copy 160 = .ok (.getfield 60, 3) := by decide +kernel
theorem dX11_copy_163 : decode cX11_copy 163 = .ok (.iload 6, 2) := by decide +kernel
theorem dX11_copy_165 : decode cX11_copy 165 = .ok (.laload, 1) := by decide +kernel
theorem dX11_copy_166 : decode cX11_copy 166 = .ok (.lastore, 1) := by decide +kernel
theorem dX11_copy_167 : decode cX11_copy 167 = .ok (.iinc 6 1, 3) := by decide +kernel
theorem dX11_copy_170 : decode cX11_copy 170 = .ok (.goto (-32), 3) := by decide +kernel
theorem dX11_copy_173 : decode cX11_copy 173 = .ok (.iload 5, 2) := by decide +kernel
theorem dX11_copy_175 : decode cX11_copy 175 = .ok (.ireturn, 1) := by decide +kernel
end
section
theorem dX0_init_0 : decode cX0_init 0 = .ok (.aload_n 0, 1) := by decide +kernel
theorem dX0_init_1 : decode cX0_init 1 = .ok (.invokespecial 3, 3) := by decide +kernel
theorem dX0_init_4 : decode cX0_init 4 = .ok (.aload_n 0, 1) := by decide +kernel
theorem dX0_init_5 : decode cX0_init 5 = .ok (.bipush 6, 2) := by decide +kernel
theorem dX0_init_7 : decode cX0_init 7 = .ok (.newarray .int, 2) := by decide +kernel
theorem dX0_init_9 : decode cX0_init 9 = .ok (.putfield 9, 3) := by decide +kernel
theorem dX0_init_12 : decode cX0_init 12 = .ok (.aload_n 0, 1) := by decide +kernel
theorem dX0_init_13 : decode cX0_init 13 = .ok (.bipush 6, 2) := by decide +kernel
theorem dX0_init_15 : decode cX0_init 15 = .ok (.newarray .int, 2) := by decide +kernel
theorem dX0_init_17 : decode cX0_init 17 = .ok (.putfield 15, 3) := by decide +kernel
theorem dX0_init_20 : decode cX0_init 20 = .ok (.aload_n 0, 1) := by decide +kernel
theorem dX0_init_21 : decode cX0_init 21 = .ok (.bipush 6, 2) := by decide +kernel
theorem dX0_init_23 : decode cX0_init 23 = .ok (.newarray .int, 2) := by decide +kernel
theorem dX0_init_25 : decode cX0_init 25 = .ok (.putfield 18, 3) := by decide +kernel
theorem dX0_init_28 : decode cX0_init 28 = .ok (.aload_n 0, 1) := by decide +kernel
theorem dX0_init_29 : decode cX0_init 29 = .ok (.bipush (-4), 2) := by decide +kernel
theorem dX0_init_31 : decode cX0_init 31 = .ok (.putfield 21, 3) := by decide +kernel
theorem dX0_init_34 : decode cX0_init 34 = .ok (.return_, 1) := by decide +kernel
theorem dX0_goBetween_0 : decode cX0_goBetween 0 = .ok (.iload_n 3, 1) := by decide +kernel
theorem dX0_goBetween_1 : decode cX0_goBetween 1 = .ok (.aload_n 1, 1) := by decide +kernel
theorem dX0_goBetween_2 : decode cX0_goBetween 2 = .ok (.getfield 25, 3) := by decide +kernel
theorem dX0_goBetween_5 : decode cX0_goBetween 5 = .ok (.iload 4, 2) := by decide +kernel
theorem dX0_goBetween_7 : decode cX0_goBetween 7 = .ok (.invokestatic 30, 3) := by decide +kernel
theorem dX0_goBetween_10 : decode cX0_goBetween 10 = .ok (.iadd, 1) := by decide +kernel
theorem dX0_goBetween_11 : decode cX0_goBetween 11 = .ok (.istore 5, 2) := by decide +kernel
theorem dX0_goBetween_13 : decode cX0_goBetween 13 = .ok (.iload 5, 2) := by decide +kernel
theorem dX0_goBetween_15 : decode cX0_goBetween 15 = .ok (.aload_n 2, 1) := by decide +kernel
theorem dX0_goBetween_16 : decode cX0_goBetween 16 = .ok (.invokevirtual 34, 3) := by decide +kernel
theorem dX0_goBetween_19 : decode cX0_goBetween 19 = .ok (.iload 4, 2) := by decide +kernel
theorem dX0_goBetween_21 : decode cX0_goBetween 21 = .ok (.invokestatic 30, 3) := by decide +kernel
theorem dX0_goBetween_24 : decode cX0_goBetween 24 = .ok (.iadd, 1) := by decide +kernel
theorem dX0_goBetween_25 : decode cX0_goBetween 25 = .ok (.istore 6, 2) := by decide +kernel
theorem dX0_goBetween_27 : decode cX0_goBetween 27 = .ok (.aload_n 1, 1) := by decide +kernel
theorem dX0_goBetween_28 : decode cX0_goBetween 28 = .ok (.iload 5, 2) := by decide +kernel
theorem dX0_goBetween_30 : decode cX0_goBetween 30 = .ok (.iload 6, 2) := by decide +kernel
theorem dX0_goBetween_32 : decode cX0_goBetween 32 = .ok (.aload_n 1, 1) := by decide +kernel
theorem dX0_goBetween_33 : decode cX0_goBetween 33 = .ok (.getfield 40, 3) := by decide +kernel
theorem dX0_goBetween_36 : decode cX0_goBetween 36 = .ok (.invokevirtual 43, 3) := by decide +kernel
theorem dX0_goBetween_39 : decode cX0_goBetween 39 = .ok (.istore 7, 2) := by decide +kernel
theorem dX0_goBetween_41 : decode cX0_goBetween 41 = .ok (.iload 7, 2) := by decide +kernel
theorem dX0_goBetween_43 : decode cX0_goBetween 43 = .ok (.iload 6, 2) := by decide +kernel
theorem dX0_goBetween_45 : decode cX0_goBetween 45 = .ok (.iconst 1, 1) := by decide +kernel
theorem dX0_goBetween_46 : decode cX0_goBetween 46 = .ok (.isub, 1) := by decide +kernel
theorem dX0_goBetween_47 : decode cX0_goBetween 47 = .ok (.if_icmp .ge 11, 3) := by decide +kernel
theorem dX0_goBetween_50 : decode cX0_goBetween 50 = .ok (.aload_n 0, 1) := by decide +kernel
theorem dX0_goBetween_51 : decode cX0_goBetween 51 = .ok (.iload 7, 2) := by decide +kernel
theorem dX0_goBetween_53 : decode cX0_goBetween 53 = .ok (.putfield 47, 3) := by decide +kernel
theorem dX0_goBetween_56 : decode cX0_goBetween 56 = .ok (.iconst 2, 1) := by decide +kernel
theorem dX0_goBetween_57 : decode cX0_goBetween 57 = .ok (.ireturn, 1) := by decide +kernel
theorem dX0_goBetween_58 : decode cX0_goBetween 58 = .ok (.aload_n 0, 1) := by decide +kernel
theorem dX0_goBetween_59 : decode cX0_goBetween 59 = .ok (.iload 6, 2) := by decide +kernel
theorem dX0_goBetween_61 : decode cX0_goBetween 61 = .ok (.putfield 47, 3) := by decide +kernel
theorem dX0_goBetween_64 : decode cX0_goBetween 64 = .ok (.iload 7, 2) := by decide +kernel
theorem dX0_goBetween_66 : decode cX0_goBetween 66 = .ok (.iload 6, 2) := by decide +kernel
theorem dX0_goBetween_68 : decode cX0_goBetween 68 = .ok (.if_icmp .ne 7, 3) := by decide +kernel
theorem dX0_goBetween_71 : decode cX0_goBetween 71 = .ok (.iconst 0, 1) := by decide +kernel
theorem dX0_goBetween_72 : decode cX0_goBetween 72 = .ok (.goto 4, 3) := by decide +kernel
theorem dX0_goBetween_75 : decode cX0_goBetween 75 = .ok (.iconst 1, 1) := by decide +kernel
theorem dX0_goBetween_76 : decode cX0_goBetween 76 = .ok (.ireturn, 1) := by decide +kernel
theorem dX0_go_0 : decode cX0_go 0 = .ok (.aload_n 0, 1) := by decide +kernel
theorem dX0_go_1 : decode cX0_go 1 = .ok (.bipush (-4), 2) := by decide +kernel
theorem dX0_go_3 : decode cX0_go 3 = .ok (.putfield 21, 3) := by decide +kernel
theorem dX0_go_6 : decode cX0_go 6 = .ok (.aload_n 0, 1) := by decide +kernel
theorem dX0_go_7 : decode cX0_go 7 = .ok (.iconst 0, 1) := by decide +kernel
theorem dX0_go_8 : decode cX0_go 8 = .ok (.putfield 50, 3) := by decide +kernel
theorem dX0_go_11 : decode cX0_go 11 = .ok (.aload_n 0, 1) := by decide +kernel
theorem dX0_go_12 : decode cX0_go 12 = .ok (.iload_n 3, 1) := by decide +kernel
theorem dX0_go_13 : decode cX0_go 13 = .ok (.putfield 47, 3) := by decide +kernel
theorem dX0_go_16 : decode cX0_go 16 = .ok (.iconst 0, 1) := by decide +kernel
theorem dX0_go_17 : decode cX0_go 17 = .ok (.istore 4, 2) := by decide +kernel
theorem dX0_go_19 : decode cX0_go 19 = .ok (.iload 4, 2) := by decide +kernel
theorem dX0_go_21 : decode cX0_go 21 = .ok (.aload_n 1, 1) := by decide +kernel
theorem dX0_go_22 : decode cX0_go 22 = .ok (.getfield 53, 3) := by decide +kernel
theorem dX0_go_25 : decode cX0_go 25 = .ok (.if_icmp .ge 83, 3) := by decide +kernel
theorem dX0_go_28 : decode cX0_go 28 = .ok (.aload_n 0, 1) := by decide +kernel
theorem dX0_go_29 : decode cX0_go 29 = .ok (.getfield 21, 3) := by decide +kernel
theorem dX0_go_32 : decode cX0_go 32 = .ok (.bipush (-4), 2) := by decide +kernel
theorem dX0_go_34 : decode cX0_go 34 = .ok (.if_icmp .ne 74, 3) := by decide +kernel
theorem dX0_go_37 : decode cX0_go 37 = .ok (.aload_n 0, 1) := by decide +kernel
theorem dX0_go_38 : decode cX0_go 38 = .ok (.aload_n 1, 1) := by decide +kernel
theorem dX0_go_39 : decode cX0_go 39 = .ok (.getfield 58, 3) := by decide +kernel
theorem dX0_go_42 : decode cX0_go 42 = .ok (.iload 4, 2) := by decide +kernel
theorem dX0_go_44 : decode cX0_go 44 = .ok (.aaload, 1) := by decide +kernel
theorem dX0_go_45 : decode cX0_go 45 = .ok (.aload_n 2, 1) := by decide +kernel
theorem dX0_go_46 : decode cX0_go 46 = .ok (.aload_n 0, 1) := by decide +kernel
theorem dX0_go_47 : decode cX0_go 47 = .ok (.getfield 47, 3) := by decide +kernel
theorem dX0_go_50 : decode cX0_go 50 = .ok (.aload_n 0, 1) := by decide +kernel
theorem dX0_go_51 : decode cX0_go 51 = .ok (.getfield 9, 3) := by decide +kernel
theorem dX0_go_54 : decode cX0_go 54 = .ok (.iload 4, 2) := by decide +kernel
theorem dX0_go_56 : decode cX0_go 56 = .ok (.iaload, 1) := by decide +kernel
theorem dX0_go_57 : decode cX0_go 57 = .ok (.invokevirtual 62, 3) := by decide +kernel
theorem dX0_go_60 : decode cX0_go 60 = .ok (.istore 5, 2) := by decide +kernel
theorem dX0_go_62 : decode cX0_go 62 = .ok (.aload_n 0, 1) := by decide +kernel
theorem dX0_go_63 : decode cX0_go 63 = .ok (.dup, 1) := by decide +kernel
theorem dX0_go_64 : decode cX0_go 64 = .ok (.getfield 50, 3) := by decide +kernel
theorem dX0_go_67 : decode cX0_go 67 = .ok (.iload 5, 2) := by decide +kernel
theorem dX0_go_69 : decode cX0_go 69 = .ok (.iconst 1, 1) := by decide +kernel
theorem dX0_go_70 : decode cX0_go 70 = .ok (.if_icmp .ne 10, 3) := by decide +kernel
theorem dX0_go_73 : decode cX0_go 73 = .ok (.iconst 1, 1) := by decide +kernel
theorem dX0_go_74 : decode cX0_go 74 = .ok (.iload 4, 2) := by decide +kernel
theorem dX0_go_76 : decode cX0_go 76 = .ok (.ishl, 1) := by decide +kernel
theorem dX0_go_77 : decode cX0_go 77 = .ok (.goto 4, 3) := by decide +kernel
theorem dX0_go_80 : decode cX0_go 80 = .ok (.iconst 0, 1) := by decide +kernel
theorem dX0_go_81 : decode cX0_go 81 = .ok (.ior, 1) := by decide +kernel
theorem dX0_go_82 : decode cX0_go 82 = .ok (.putfield 50, 3) := by decide +kernel
theorem dX0_go_85 : decode cX0_go 85 = .ok (.aload_n 0, 1) := by decide +kernel
theorem dX0_go_86 : decode cX0_go 86 = .ok (.iload 5, 2) := by decide +kernel
theorem dX0_go_88 : decode cX0_go 88 = .ok (.iconst 2, 1) := by decide +kernel
theorem dX0_go_89 : decode cX0_go 89 = .ok (.if_icmp .ne 8, 3) := by decide +kernel
theorem dX0_go_92 : decode cX0_go 92 = .ok (.iload 4, 2) := by decide +kernel
theorem dX0_go_94 : decode cX0_go 94 = .ok (.goto 5, 3) := by decide +kernel
theorem dX0_go_97 : decode cX0_go 97 = .ok (.bipush (-4), 2) := by decide +kernel
theorem dX0_go_99 : decode cX0_go 99 = .ok (.putfield 21, 3) := by decide +kernel
theorem dX0_go_102 : decode cX0_go 102 = .ok (.iinc 4 1, 3) := by decide +kernel
theorem dX0_go_105 : decode cX0_go 105 = .ok (.goto (-86), 3) := by decide +kernel
theorem dX0_go_108 : decode cX0_go 108 = .ok (.return_, 1) := by decide +kernel
theorem dX0_isClean_0 : decode cX0_isClean 0 = .ok (.aload_n 0, 1) := by decide +kernel
theorem dX0_isClean_1 : decode cX0_isClean 1 = .ok (.getfield 21, 3) := by decide +kernel
theorem dX0_isClean_4 : decode cX0_isClean 4 = .ok (.bipush (-4), 2) := by decide +kernel
theorem dX0_isClean_6 : decode cX0_isClean 6 = .ok (.if_icmp .ne 14, 3) := by decide +kernel
theorem dX0_isClean_9 : decode cX0_isClean 9 = .ok (.aload_n 0, 1) := by decide +kernel
theorem dX0_isClean_10 : decode cX0_isClean 10 = .ok (.getfield 50, 3) := by decide +kernel
theorem dX0_isClean_13 : decode cX0_isClean 13 = .ok (.ifCond .ne 7, 3) := by decide +kernel
theorem dX0_isClean_16 : decode cX0_isClean 16 = .ok (.iconst 1, 1) := by decide +kernel
theorem dX0_isClean_17 : decode cX0_isClean 17 = .ok (.goto 4, 3) := by decide +kernel
theorem dX0_isClean_20 : decode cX0_isClean 20 = .ok (.iconst 0, 1) := by decide +kernel
theorem dX0_isClean_21 : decode cX0_isClean 21 = .ok (.ireturn, 1) := by decide +kernel
theorem dX0_judgement_0 : decode cX0_judgement 0 = .ok (.iload_n 1, 1) := by decide +kernel
theorem dX0_judgement_1 : decode cX0_judgement 1 = .ok (.lookupswitch 37 #[(0, 27), (1, 32)], 27) := by decide +kernel
theorem dX0_judgement_28 : decode cX0_judgement 28 = .ok (.aload_n 0, 1) := by decide +kernel
theorem dX0_judgement_29 : decode cX0_judgement 29 = .ok (.getfield 21, 3) := by decide +kernel
theorem dX0_judgement_32 : decode cX0_judgement 32 = .ok (.ireturn, 1) := by decide +kernel
theorem dX0_judgement_33 : decode cX0_judgement 33 = .ok (.aload_n 0, 1) := by decide +kernel
theorem dX0_judgement_34 : decode cX0_judgement 34 = .ok (.getfield 50, 3) := by decide +kernel
theorem dX0_judgement_37 : decode cX0_judgement 37 = .ok (.ireturn, 1) := by decide +kernel
theorem dX0_judgement_38 : decode cX0_judgement 38 = .ok (.aload_n 0, 1) := by decide +kernel
theorem dX0_judgement_39 : decode cX0_judgement 39 = .ok (.getfield 47, 3) := by decide +kernel
theorem dX0_judgement_42 : decode cX0_judgement 42 = .ok (.ireturn, 1) := by decide +kernel
theorem dX0_planFull_0 : decode cX0_planFull 0 = .ok (.iload_n 3, 1) := by decide +kernel
theorem dX0_planFull_1 : decode cX0_planFull 1 = .ok (.istore 4, 2) := by decide +kernel
theorem dX0_planFull_3 : decode cX0_planFull 3 = .ok (.iconst 0, 1) := by decide +kernel
theorem dX0_planFull_4 : decode cX0_planFull 4 = .ok (.istore 5, 2) := by decide +kernel
theorem dX0_planFull_6 : decode cX0_planFull 6 = .ok (.iload 5, 2) := by decide +kernel
theorem dX0_planFull_8 : decode cX0_planFull 8 = .ok (.aload_n 1, 1) := by decide +kernel
theorem dX0_planFull_9 : decode cX0_planFull 9 = .ok (.getfield 53, 3) := by decide +kernel
theorem dX0_planFull_12 : decode cX0_planFull 12 = .ok (.if_icmp .ge 71, 3) := by decide +kernel
theorem dX0_planFull_15 : decode cX0_planFull 15 = .ok (.aload_n 0, 1) := by decide +kernel
theorem dX0_planFull_16 : decode cX0_planFull 16 = .ok (.getfield 15, 3) := by decide +kernel
theorem dX0_planFull_19 : decode cX0_planFull 19 = .ok (.iload 5, 2) := by decide +kernel
theorem dX0_planFull_21 : decode cX0_planFull 21 = .ok (.iload 4, 2) := by decide +kernel
theorem dX0_planFull_23 : decode cX0_planFull 23 = .ok (.aload_n 1, 1) := by decide +kernel
theorem dX0_planFull_24 : decode cX0_planFull 24 = .ok (.getfield 58, 3) := by decide +kernel
theorem dX0_planFull_27 : decode cX0_planFull 27 = .ok (.iload 5, 2) := by decide +kernel
theorem dX0_planFull_29 : decode cX0_planFull 29 = .ok (.aaload, 1) := by decide +kernel
theorem dX0_planFull_30 : decode cX0_planFull 30 = .ok (.getfield 25, 3) := by decide +kernel
theorem dX0_planFull_33 : decode cX0_planFull 33 = .ok (.aload_n 2, 1) := by decide +kernel
theorem dX0_planFull_34 : decode cX0_planFull 34 = .ok (.invokevirtual 66, 3) := by decide +kernel
theorem dX0_planFull_37 : decode cX0_planFull 37 = .ok (.invokestatic 30, 3) := by decide +kernel
theorem dX0_planFull_40 : decode cX0_planFull 40 = .ok (.iadd, 1) := by decide +kernel
theorem dX0_planFull_41 : decode cX0_planFull 41 = .ok (.iastore, 1) := by decide +kernel
theorem dX0_planFull_42 : decode cX0_planFull 42 = .ok (.aload_n 0, 1) := by decide +kernel
theorem dX0_planFull_43 : decode cX0_planFull 43 = .ok (.getfield 18, 3) := by decide +kernel
theorem dX0_planFull_46 : decode cX0_planFull 46 = .ok (.iload 5, 2) := by decide +kernel
theorem dX0_planFull_48 : decode cX0_planFull 48 = .ok (.aload_n 0, 1) := by decide +kernel
theorem dX0_planFull_49 : decode cX0_planFull 49 = .ok (.getfield 15, 3) := by decide +kernel
theorem dX0_planFull_52 : decode cX0_planFull 52 = .ok (.iload 5, 2) := by decide +kernel
theorem dX0_planFull_54 : decode cX0_planFull 54 = .ok (.iaload, 1) := by decide +kernel
theorem dX0_planFull_55 : decode cX0_planFull 55 = .ok (.aload_n 2, 1) := by decide +kernel
theorem dX0_planFull_56 : decode cX0_planFull 56 = .ok (.invokevirtual 34, 3) := by decide +kernel
theorem dX0_planFull_59 : decode cX0_planFull 59 = .ok (.aload_n 2, 1) := by decide +kernel
theorem dX0_planFull_60 : decode cX0_planFull 60 = .ok (.invokevirtual 66, 3) := by decide +kernel
theorem dX0_planFull_63 : decode cX0_planFull 63 = .ok (.invokestatic 30, 3) := by decide +kernel
theorem dX0_planFull_66 : decode cX0_planFull 66 = .ok (.iadd, 1) := by decide +kernel
theorem dX0_planFull_67 : decode cX0_planFull 67 = .ok (.iastore, 1) := by decide +kernel
theorem dX0_planFull_68 : decode cX0_planFull 68 = .ok (.aload_n 0, 1) := by decide +kernel
theorem dX0_planFull_69 : decode cX0_planFull 69 = .ok (.getfield 18, 3) := by decide +kernel
theorem dX0_planFull_72 : decode cX0_planFull 72 = .ok (.iload 5, 2) := by decide +kernel
theorem dX0_planFull_74 : decode cX0_planFull 74 = .ok (.iaload, 1) := by decide +kernel
theorem dX0_planFull_75 : decode cX0_planFull 75 = .ok (.istore 4, 2) := by decide +kernel
theorem dX0_planFull_77 : decode cX0_planFull 77 = .ok (.iinc 5 1, 3) := by decide +kernel
theorem dX0_planFull_80 : decode cX0_planFull 80 = .ok (.goto (-74), 3) := by decide +kernel
theorem dX0_planFull_83 : decode cX0_planFull 83 = .ok (.return_, 1) := by decide +kernel
theorem dX0_isThroughBy_0 : decode cX0_isThroughBy 0 = .ok (.aload_n 1, 1) := by decide +kernel
theorem dX0_isThroughBy_1 : decode cX0_isThroughBy 1 = .ok (.getfield 58, 3) := by decide +kernel
theorem dX0_isThroughBy_4 : decode cX0_isThroughBy 4 = .ok (.iload_n 2, 1) := by decide +kernel
theorem dX0_isThroughBy_5 : decode cX0_isThroughBy 5 = .ok (.aaload, 1) := by decide +kernel
theorem dX0_isThroughBy_6 : decode cX0_isThroughBy 6 = .ok (.aload_n 0, 1) := by decide +kernel
theorem dX0_isThroughBy_7 : decode cX0_isThroughBy 7 = .ok (.getfield 15, 3) := by decide +kernel
theorem dX0_isThroughBy_10 : decode cX0_isThroughBy 10 = .ok (.iload_n 2, 1) := by decide +kernel
theorem dX0_isThroughBy_11 : decode cX0_isThroughBy 11 = .ok (.iaload, 1) := by decide +kernel
theorem dX0_isThroughBy_12 : decode cX0_isThroughBy 12 = .ok (.aload_n 0, 1) := by decide +kernel
theorem dX0_isThroughBy_13 : decode cX0_isThroughBy 13 = .ok (.getfield 18, 3) := by decide +kernel
theorem dX0_isThroughBy_16 : decode cX0_isThroughBy 16 = .ok (.iload_n 2, 1) := by decide +kernel
theorem dX0_isThroughBy_17 : decode cX0_isThroughBy 17 = .ok (.iaload, 1) := by decide +kernel
theorem dX0_isThroughBy_18 : decode cX0_isThroughBy 18 = .ok (.iload_n 3, 1) := by decide +kernel
theorem dX0_isThroughBy_19 : decode cX0_isThroughBy 19 = .ok (.invokevirtual 43, 3) := by decide +kernel
theorem dX0_isThroughBy_22 : decode cX0_isThroughBy 22 = .ok (.aload_n 0, 1) := by decide +kernel
theorem dX0_isThroughBy_23 : decode cX0_isThroughBy 23 = .ok (.getfield 18, 3) := by decide +kernel
theorem dX0_isThroughBy_26 : decode cX0_isThroughBy 26 = .ok (.iload_n 2, 1) := by decide +kernel
theorem dX0_isThroughBy_27 : decode cX0_isThroughBy 27 = .ok (.iaload, 1) := by decide +kernel
theorem dX0_isThroughBy_28 : decode cX0_isThroughBy 28 = .ok (.if_icmp .ne 7, 3) := by decide +kernel
theorem dX0_isThroughBy_31 : decode cX0_isThroughBy 31 = .ok (.iconst 1, 1) := by decide +kernel
theorem dX0_isThroughBy_32 : decode cX0_isThroughBy 32 = .ok (.goto 4, 3) := by decide +kernel
theorem dX0_isThroughBy_35 : decode cX0_isThroughBy 35 = .ok (.iconst 0, 1) := by decide +kernel
theorem dX0_isThroughBy_36 : decode cX0_isThroughBy 36 = .ok (.ireturn, 1) := by decide +kernel
theorem dX0_isThrough_0 : decode cX0_isThrough 0 = .ok (.aload_n 0, 1) := by decide +kernel
theorem dX0_isThrough_1 : decode cX0_isThrough 1 = .ok (.aload_n 1, 1) := by decide +kernel
theorem dX0_isThrough_2 : decode cX0_isThrough 2 = .ok (.iload_n 2, 1) := by decide +kernel
theorem dX0_isThrough_3 : decode cX0_isThrough 3 = .ok (.aload_n 1, 1) := by decide +kernel
theorem dX0_isThrough_4 : decode cX0_isThrough 4 = .ok (.getfield 58, 3) := by decide +kernel
theorem dX0_isThrough_7 : decode cX0_isThrough 7 = .ok (.iload_n 2, 1) := by decide +kernel
theorem dX0_isThrough_8 : decode cX0_isThrough 8 = .ok (.aaload, 1) := by decide +kernel
theorem dX0_isThrough_9 : decode cX0_isThrough 9 = .ok (.getfield 40, 3) := by decide +kernel
theorem dX0_isThrough_12 : decode cX0_isThrough 12 = .ok (.invokevirtual 69, 3) := by decide +kernel
theorem dX0_isThrough_15 : decode cX0_isThrough 15 = .ok (.ireturn, 1) := by decide +kernel
theorem dX0_isThroughBut_0 : decode cX0_isThroughBut 0 = .ok (.iconst 0, 1) := by decide +kernel
theorem dX0_isThroughBut_1 : decode cX0_isThroughBut 1 = .ok (.istore_n 3, 1) := by decide +kernel
theorem dX0_isThroughBut_2 : decode cX0_isThroughBut 2 = .ok (.iload_n 3, 1) := by decide +kernel
theorem dX0_isThroughBut_3 : decode cX0_isThroughBut 3 = .ok (.aload_n 1, 1) := by decide +kernel
theorem dX0_isThroughBut_4 : decode cX0_isThroughBut 4 = .ok (.getfield 53, 3) := by decide +kernel
theorem dX0_isThroughBut_7 : decode cX0_isThroughBut 7 = .ok (.if_icmp .ge 25, 3) := by decide +kernel
theorem dX0_isThroughBut_10 : decode cX0_isThroughBut 10 = .ok (.iload_n 3, 1) := by decide +kernel
theorem dX0_isThroughBut_11 : decode cX0_isThroughBut 11 = .ok (.iload_n 2, 1) := by decide +kernel
theorem dX0_isThroughBut_12 : decode cX0_isThroughBut 12 = .ok (.if_icmp .eq 14, 3) := by decide +kernel
theorem dX0_isThroughBut_15 : decode cX0_isThroughBut 15 = .ok (.aload_n 0, 1) := by decide +kernel
theorem dX0_isThroughBut_16 : decode cX0_isThroughBut 16 = .ok (.aload_n 1, 1) := by decide +kernel
theorem dX0_isThroughBut_17 : decode cX0_isThroughBut 17 = .ok (.iload_n 3, 1) := by decide +kernel
theorem dX0_isThroughBut_18 : decode cX0_isThroughBut 18 = .ok (.invokevirtual 73, 3) := by decide +kernel
theorem dX0_isThroughBut_21 : decode cX0_isThroughBut 21 = .ok (.ifCond .ne 5, 3) := by decide +kernel
theorem dX0_isThroughBut_24 : decode cX0_isThroughBut 24 = .ok (.iconst 0, 1) := by decide +kernel
theorem dX0_isThroughBut_25 : decode cX0_isThroughBut 25 = .ok (.ireturn, 1) := by decide +kernel
theorem dX0_isThroughBut_26 : decode cX0_isThroughBut 26 = .ok (.iinc 3 1, 3) := by decide +kernel
theorem dX0_isThroughBut_29 : decode cX0_isThroughBut 29 = .ok (.goto (-27), 3) := by decide +kernel
theorem dX0_isThroughBut_32 : decode cX0_isThroughBut 32 = .ok (.iconst 1, 1) := by decide +kernel
theorem dX0_isThroughBut_33 : decode cX0_isThroughBut 33 = .ok (.ireturn, 1) := by decide +kernel
theorem dX0_fogWeight_0 : decode cX0_fogWeight 0 = .ok (.iconst 1, 1) := by decide +kernel
theorem dX0_fogWeight_1 : decode cX0_fogWeight 1 = .ok (.istore_n 2, 1) := by decide +kernel
theorem dX0_fogWeight_2 : decode cX0_fogWeight 2 = .ok (.iconst 0, 1) := by decide +kernel
theorem dX0_fogWeight_3 : decode cX0_fogWeight 3 = .ok (.istore_n 3, 1) := by decide +kernel
theorem dX0_fogWeight_4 : decode cX0_fogWeight 4 = .ok (.iload_n 3, 1) := by decide +kernel
theorem dX0_fogWeight_5 : decode cX0_fogWeight 5 = .ok (.aload_n 1, 1) := by decide +kernel
theorem dX0_fogWeight_6 : decode cX0_fogWeight 6 = .ok (.getfield 53, 3) := by decide +kernel
theorem dX0_fogWeight_9 : decode cX0_fogWeight 9 = .ok (.if_icmp .ge 67, 3) := by decide +kernel
theorem dX0_fogWeight_12 : decode cX0_fogWeight 12 = .ok (.iload_n 2, 1) := by decide +kernel
theorem dX0_fogWeight_13 : decode cX0_fogWeight 13 = .ok (.ifCond .le 63, 3) := by decide +kernel
theorem dX0_fogWeight_16 : decode cX0_fogWeight 16 = .ok (.aload_n 1, 1) := by decide +kernel
theorem dX0_fogWeight_17 : decode cX0_fogWeight 17 = .ok (.getfield 58, 3) := by decide +kernel
theorem dX0_fogWeight_20 : decode cX0_fogWeight 20 = .ok (.iload_n 3, 1) := by decide +kernel
theorem dX0_fogWeight_21 : decode cX0_fogWeight 21 = .ok (.aaload, 1) := by decide +kernel
theorem dX0_fogWeight_22 : decode cX0_fogWeight 22 = .ok (.astore 4, 2) := by decide +kernel
theorem dX0_fogWeight_24 : decode cX0_fogWeight 24 = .ok (.iload_n 2, 1) := by decide +kernel
theorem dX0_fogWeight_25 : decode cX0_fogWeight 25 = .ok (.iconst 2, 1) := by decide +kernel
theorem dX0_fogWeight_26 : decode cX0_fogWeight 26 = .ok (.aload_n 0, 1) := by decide +kernel
theorem dX0_fogWeight_27 : decode cX0_fogWeight 27 = .ok (.aload_n 1, 1) := by decide +kernel
theorem dX0_fogWeight_28 : decode cX0_fogWeight 28 = .ok (.iload_n 3, 1) := by decide +kernel
theorem dX0_fogWeight_29 : decode cX0_fogWeight 29 = .ok (.invokevirtual 73, 3) := by decide +kernel
theorem dX0_fogWeight_32 : decode cX0_fogWeight 32 = .ok (.invokestatic 77, 3) := by decide +kernel
theorem dX0_fogWeight_35 : decode cX0_fogWeight 35 = .ok (.imul, 1) := by decide +kernel
theorem dX0_fogWeight_36 : decode cX0_fogWeight 36 = .ok (.aload_n 0, 1) := by decide +kernel
theorem dX0_fogWeight_37 : decode cX0_fogWeight 37 = .ok (.aload_n 1, 1) := by decide +kernel
theorem dX0_fogWeight_38 : decode cX0_fogWeight 38 = .ok (.iload_n 3, 1) := by decide +kernel
theorem dX0_fogWeight_39 : decode cX0_fogWeight 39 = .ok (.aload 4, 2) := by decide +kernel
theorem dX0_fogWeight_41 : decode cX0_fogWeight 41 = .ok (.iconst (-1), 1) := by decide +kernel
theorem dX0_fogWeight_42 : decode cX0_fogWeight 42 = .ok (.invokevirtual 81, 3) := by decide +kernel
theorem dX0_fogWeight_45 : decode cX0_fogWeight 45 = .ok (.invokevirtual 69, 3) := by decide +kernel
theorem dX0_fogWeight_48 : decode cX0_fogWeight 48 = .ok (.invokestatic 77, 3) := by decide +kernel
theorem dX0_fogWeight_51 : decode cX0_fogWeight 51 = .ok (.iadd, 1) := by decide +kernel
theorem dX0_fogWeight_52 : decode cX0_fogWeight 52 = .ok (.aload_n 0, 1) := by decide +kernel
theorem dX0_fogWeight_53 : decode cX0_fogWeight 53 = .ok (.aload_n 1, 1) := by decide +kernel
theorem dX0_fogWeight_54 : decode cX0_fogWeight 54 = .ok (.iload_n 3, 1) := by decide +kernel
theorem dX0_fogWeight_55 : decode cX0_fogWeight 55 = .ok (.aload 4, 2) := by decide +kernel
theorem dX0_fogWeight_57 : decode cX0_fogWeight 57 = .ok (.iconst 1, 1) := by decide +kernel
theorem dX0_fogWeight_58 : decode cX0_fogWeight 58 = .ok (.invokevirtual 81, 3) := by decide +kernel
theorem dX0_fogWeight_61 : decode cX0_fogWeight 61 = .ok (.invokevirtual 69, 3) := by decide +kernel
theorem dX0_fogWeight_64 : decode cX0_fogWeight 64 = .ok (.invokestatic 77, 3) := by decide +kernel
theorem dX0_fogWeight_67 : decode cX0_fogWeight 67 = .ok (.iadd, 1) := by decide +kernel
theorem dX0_fogWeight_68 : decode cX0_fogWeight 68 = .ok (.imul, 1) := by decide +kernel
theorem dX0_fogWeight_69 : decode cX0_fogWeight 69 = .ok (.istore_n 2, 1) := by decide +kernel
theorem dX0_fogWeight_70 : decode cX0_fogWeight 70 = .ok (.iinc 3 1, 3) := by decide +kernel
theorem dX0_fogWeight_73 : decode cX0_fogWeight 73 = .ok (.goto (-69), 3) := by decide +kernel
theorem dX0_fogWeight_76 : decode cX0_fogWeight 76 = .ok (.iload_n 2, 1) := by decide +kernel
theorem dX0_fogWeight_77 : decode cX0_fogWeight 77 = .ok (.ireturn, 1) := by decide +kernel
theorem dX0_fewestStones_0 : decode cX0_fewestStones 0 = .ok (.aload_n 1, 1) := by decide +kernel
theorem dX0_fewestStones_1 : decode cX0_fewestStones 1 = .ok (.getfield 58, 3) := by decide +kernel
theorem dX0_fewestStones_4 : decode cX0_fewestStones 4 = .ok (.iload_n 2, 1) := by decide +kernel
theorem dX0_fewestStones_5 : decode cX0_fewestStones 5 = .ok (.aaload, 1) := by decide +kernel
theorem dX0_fewestStones_6 : decode cX0_fewestStones 6 = .ok (.astore_n 3, 1) := by decide +kernel
theorem dX0_fewestStones_7 : decode cX0_fewestStones 7 = .ok (.iconst 0, 1) := by decide +kernel
theorem dX0_fewestStones_8 : decode cX0_fewestStones 8 = .ok (.istore 4, 2) := by decide +kernel
theorem dX0_fewestStones_10 : decode cX0_fewestStones 10 = .ok (.iload 4, 2) := by decide +kernel
theorem dX0_fewestStones_12 : decode cX0_fewestStones 12 = .ok (.aload_n 3, 1) := by decide +kernel
theorem dX0_fewestStones_13 : decode cX0_fewestStones 13 = .ok (.getfield 85, 3) := by decide +kernel
theorem dX0_fewestStones_16 : decode cX0_fewestStones 16 = .ok (.if_icmp .ge 28, 3) := by decide +kernel
theorem dX0_fewestStones_19 : decode cX0_fewestStones 19 = .ok (.aload_n 0, 1) := by decide +kernel
theorem dX0_fewestStones_20 : decode cX0_fewestStones 20 = .ok (.aload_n 1, 1) := by decide +kernel
theorem dX0_fewestStones_21 : decode cX0_fewestStones 21 = .ok (.iload_n 2, 1) := by decide +kernel
theorem dX0_fewestStones_22 : decode cX0_fewestStones 22 = .ok (.aload_n 3, 1) := by decide +kernel
theorem dX0_fewestStones_23 : decode cX0_fewestStones 23 = .ok (.iload 4, 2) := by decide +kernel
theorem dX0_fewestStones_25 : decode cX0_fewestStones 25 = .ok (.ineg, 1) := by decide +kernel
theorem dX0_fewestStones_26 : decode cX0_fewestStones 26 = .ok (.invokevirtual 81, 3) := by decide +kernel
theorem dX0_fewestStones_29 : decode cX0_fewestStones 29 = .ok (.invokevirtual 69, 3) := by decide +kernel
theorem dX0_fewestStones_32 : decode cX0_fewestStones 32 = .ok (.ifCond .eq 6, 3) := by decide +kernel
theorem dX0_fewestStones_35 : decode cX0_fewestStones 35 = .ok (.iload 4, 2) := by decide +kernel
theorem dX0_fewestStones_37 : decode cX0_fewestStones 37 = .ok (.ireturn, 1) := by decide +kernel
theorem dX0_fewestStones_38 : decode cX0_fewestStones 38 = .ok (.iinc 4 1, 3) := by decide +kernel
theorem dX0_fewestStones_41 : decode cX0_fewestStones 41 = .ok (.goto (-31), 3) := by decide +kernel
theorem dX0_fewestStones_44 : decode cX0_fewestStones 44 = .ok (.bipush (-4), 2) := by decide +kernel
theorem dX0_fewestStones_46 : decode cX0_fewestStones 46 = .ok (.ireturn, 1) := by decide +kernel
theorem dX1_init_0 : decode cX1_init 0 = .ok (.aload_n 0, 1) := by decide +kernel
theorem dX1_init_1 : decode cX1_init 1 = .ok (.invokespecial 3, 3) := by decide +kernel
theorem dX1_init_4 : decode cX1_init 4 = .ok (.aload_n 0, 1) := by decide +kernel
theorem dX1_init_5 : decode cX1_init 5 = .ok (.bipush 24, 2) := by decide +kernel
theorem dX1_init_7 : decode cX1_init 7 = .ok (.newarray .int, 2) := by decide +kernel
theorem dX1_init_9 : decode cX1_init 9 = .ok (.putfield 9, 3) := by decide +kernel
theorem dX1_init_12 : decode cX1_init 12 = .ok (.aload_n 0, 1) := by decide +kernel
theorem dX1_init_13 : decode cX1_init 13 = .ok (.bipush 60, 2) := by decide +kernel
theorem dX1_init_15 : decode cX1_init 15 = .ok (.newarray .int, 2) := by decide +kernel
theorem dX1_init_17 : decode cX1_init 17 = .ok (.putfield 15, 3) := by decide +kernel
theorem dX1_init_20 : decode cX1_init 20 = .ok (.return_, 1) := by decide +kernel
theorem dX1_survey_0 : decode cX1_survey 0 = .ok (.aload_n 0, 1) := by decide +kernel
theorem dX1_survey_1 : decode cX1_survey 1 = .ok (.iconst 0, 1) := by decide +kernel
theorem dX1_survey_2 : decode cX1_survey 2 = .ok (.putfield 18, 3) := by decide +kernel
theorem dX1_survey_5 : decode cX1_survey 5 = .ok (.aload_n 0, 1) := by decide +kernel
theorem dX1_survey_6 : decode cX1_survey 6 = .ok (.bipush (-4), 2) := by decide +kernel
theorem dX1_survey_8 : decode cX1_survey 8 = .ok (.putfield 22, 3) := by decide +kernel
theorem dX1_survey_11 : decode cX1_survey 11 = .ok (.aload_n 0, 1) := by decide +kernel
theorem dX1_survey_12 : decode cX1_survey 12 = .ok (.getfield 15, 3) := by decide +kernel
theorem dX1_survey_15 : decode cX1_survey 15 = .ok (.iconst 0, 1) := by decide +kernel
theorem dX1_survey_16 : decode cX1_survey 16 = .ok (.invokestatic 25, 3) := by decide +kernel
theorem dX1_survey_19 : decode cX1_survey 19 = .ok (.iconst 2, 1) := by decide +kernel
theorem dX1_survey_20 : decode cX1_survey 20 = .ok (.istore 4, 2) := by decide +kernel
theorem dX1_survey_22 : decode cX1_survey 22 = .ok (.iload 4, 2) := by decide +kernel
theorem dX1_survey_24 : decode cX1_survey 24 = .ok (.bipush 24, 2) := by decide +kernel
theorem dX1_survey_26 : decode cX1_survey 26 = .ok (.if_icmp .gt 92, 3) := by decide +kernel
theorem dX1_survey_29 : decode cX1_survey 29 = .ok (.aload_n 0, 1) := by decide +kernel
theorem dX1_survey_30 : decode cX1_survey 30 = .ok (.getfield 9, 3) := by decide +kernel
theorem dX1_survey_33 : decode cX1_survey 33 = .ok (.iconst 0, 1) := by decide +kernel
theorem dX1_survey_34 : decode cX1_survey 34 = .ok (.invokestatic 25, 3) := by decide +kernel
theorem dX1_survey_37 : decode cX1_survey 37 = .ok (.aload_n 0, 1) := by decide +kernel
theorem dX1_survey_38 : decode cX1_survey 38 = .ok (.aload_n 1, 1) := by decide +kernel
theorem dX1_survey_39 : decode cX1_survey 39 = .ok (.iload 4, 2) := by decide +kernel
theorem dX1_survey_41 : decode cX1_survey 41 = .ok (.invokevirtual 31, 3) := by decide +kernel
theorem dX1_survey_44 : decode cX1_survey 44 = .ok (.iconst 1, 1) := by decide +kernel
theorem dX1_survey_45 : decode cX1_survey 45 = .ok (.istore 5, 2) := by decide +kernel
theorem dX1_survey_47 : decode cX1_survey 47 = .ok (.iload 5, 2) := by decide +kernel
theorem dX1_survey_49 : decode cX1_survey 49 = .ok (.iload 4, 2) := by decide +kernel
theorem dX1_survey_51 : decode cX1_survey 51 = .ok (.if_icmp .ge 17, 3) := by decide +kernel
theorem dX1_survey_54 : decode cX1_survey 54 = .ok (.aload_n 0, 1) := by decide +kernel
theorem dX1_survey_55 : decode cX1_survey 55 = .ok (.iload 4, 2) := by decide +kernel
theorem dX1_survey_57 : decode cX1_survey 57 = .ok (.iload 5, 2) := by decide +kernel
theorem dX1_survey_59 : decode cX1_survey 59 = .ok (.invokevirtual 35, 3) := by decide +kernel
theorem dX1_survey_62 : decode cX1_survey 62 = .ok (.iinc 5 1, 3) := by decide +kernel
theorem dX1_survey_65 : decode cX1_survey 65 = .ok (.goto (-18), 3) := by decide +kernel
theorem dX1_survey_68 : decode cX1_survey 68 = .ok (.iconst 0, 1) := by decide +kernel
theorem dX1_survey_69 : decode cX1_survey 69 = .ok (.istore 5, 2) := by decide +kernel
theorem dX1_survey_71 : decode cX1_survey 71 = .ok (.iload 5, 2) := by decide +kernel
theorem dX1_survey_73 : decode cX1_survey 73 = .ok (.iload_n 3, 1) := by decide +kernel
theorem dX1_survey_74 : decode cX1_survey 74 = .ok (.if_icmp .ge 38, 3) := by decide +kernel
theorem dX1_survey_77 : decode cX1_survey 77 = .ok (.iload 5, 2) := by decide +kernel
theorem dX1_survey_79 : decode cX1_survey 79 = .ok (.bipush 60, 2) := by decide +kernel
theorem dX1_survey_81 : decode cX1_survey 81 = .ok (.if_icmp .ge 31, 3) := by decide +kernel
theorem dX1_survey_84 : decode cX1_survey 84 = .ok (.aload_n 0, 1) := by decide +kernel
theorem dX1_survey_85 : decode cX1_survey 85 = .ok (.getfield 15, 3) := by decide +kernel
theorem dX1_survey_88 : decode cX1_survey 88 = .ok (.iload 5, 2) := by decide +kernel
theorem dX1_survey_90 : decode cX1_survey 90 = .ok (.dup2, 1) := by decide +kernel
theorem dX1_survey_91 : decode cX1_survey 91 = .ok (.iaload, 1) := by decide +kernel
theorem dX1_survey_92 : decode cX1_survey 92 = .ok (.aload_n 0, 1) := by decide +kernel
theorem dX1_survey_93 : decode cX1_survey 93 = .ok (.getfield 9, 3) := by decide +kernel
theorem dX1_survey_96 : decode cX1_survey 96 = .ok (.iload_n 2, 1) := by decide +kernel
theorem dX1_survey_97 : decode cX1_survey 97 = .ok (.iload 5, 2) := by decide +kernel
theorem dX1_survey_99 : decode cX1_survey 99 = .ok (.iadd, 1) := by decide +kernel
theorem dX1_survey_100 : decode cX1_survey 100 = .ok (.iload 4, 2) := by decide +kernel
theorem dX1_survey_102 : decode cX1_survey 102 = .ok (.irem, 1) := by decide +kernel
theorem dX1_survey_103 : decode cX1_survey 103 = .ok (.iaload, 1) := by decide +kernel
theorem dX1_survey_104 : decode cX1_survey 104 = .ok (.iadd, 1) := by decide +kernel
theorem dX1_survey_105 : decode cX1_survey 105 = .ok (.iastore, 1) := by decide +kernel
theorem dX1_survey_106 : decode cX1_survey 106 = .ok (.iinc 5 1, 3) := by decide +kernel
theorem dX1_survey_109 : decode cX1_survey 109 = .ok (.goto (-38), 3) := by decide +kernel
theorem dX1_survey_112 : decode cX1_survey 112 = .ok (.iinc 4 1, 3) := by decide +kernel
theorem dX1_survey_115 : decode cX1_survey 115 = .ok (.goto (-93), 3) := by decide +kernel
theorem dX1_survey_118 : decode cX1_survey 118 = .ok (.return_, 1) := by decide +kernel
theorem dX1_fold_0 : decode cX1_fold 0 = .ok (.aload_n 0, 1) := by decide +kernel
theorem dX1_fold_1 : decode cX1_fold 1 = .ok (.iconst 0, 1) := by decide +kernel
theorem dX1_fold_2 : decode cX1_fold 2 = .ok (.putfield 39, 3) := by decide +kernel
theorem dX1_fold_5 : decode cX1_fold 5 = .ok (.aload_n 0, 1) := by decide +kernel
theorem dX1_fold_6 : decode cX1_fold 6 = .ok (.iconst 0, 1) := by decide +kernel
theorem dX1_fold_7 : decode cX1_fold 7 = .ok (.putfield 42, 3) := by decide +kernel
theorem dX1_fold_10 : decode cX1_fold 10 = .ok (.iconst 0, 1) := by decide +kernel
theorem dX1_fold_11 : decode cX1_fold 11 = .ok (.istore_n 3, 1) := by decide +kernel
theorem dX1_fold_12 : decode cX1_fold 12 = .ok (.iload_n 3, 1) := by decide +kernel
theorem dX1_fold_13 : decode cX1_fold 13 = .ok (.aload_n 1, 1) := by decide +kernel
theorem dX1_fold_14 : decode cX1_fold 14 = .ok (.getfield 45, 3) := by decide +kernel
theorem dX1_fold_17 : decode cX1_fold 17 = .ok (.if_icmp .ge 75, 3) := by decide +kernel
theorem dX1_fold_20 : decode cX1_fold 20 = .ok (.iload_n 2, 1) := by decide +kernel
theorem dX1_fold_21 : decode cX1_fold 21 = .ok (.ifCond .le 71, 3) := by decide +kernel
theorem dX1_fold_24 : decode cX1_fold 24 = .ok (.iconst 1, 1) := by decide +kernel
theorem dX1_fold_25 : decode cX1_fold 25 = .ok (.aload_n 1, 1) := by decide +kernel
theorem dX1_fold_26 : decode cX1_fold 26 = .ok (.getfield 50, 3) := by decide +kernel
theorem dX1_fold_29 : decode cX1_fold 29 = .ok (.iload_n 3, 1) := by decide +kernel
theorem dX1_fold_30 : decode cX1_fold 30 = .ok (.iaload, 1) := by decide +kernel
theorem dX1_fold_31 : decode cX1_fold 31 = .ok (.iload_n 2, 1) := by decide +kernel
theorem dX1_fold_32 : decode cX1_fold 32 = .ok (.irem, 1) := by decide +kernel
theorem dX1_fold_33 : decode cX1_fold 33 = .ok (.ishl, 1) := by decide +kernel
theorem dX1_fold_34 : decode cX1_fold 34 = .ok (.istore 4, 2) := by decide +kernel
theorem dX1_fold_36 : decode cX1_fold 36 = .ok (.aload_n 0, 1) := by decide +kernel
theorem dX1_fold_37 : decode cX1_fold 37 = .ok (.dup, 1) := by decide +kernel
theorem dX1_fold_38 : decode cX1_fold 38 = .ok (.getfield 39, 3) := by decide +kernel
theorem dX1_fold_41 : decode cX1_fold 41 = .ok (.aload_n 1, 1) := by decide +kernel
theorem dX1_fold_42 : decode cX1_fold 42 = .ok (.getfield 53, 3) := by decide +kernel
theorem dX1_fold_45 : decode cX1_fold 45 = .ok (.iload_n 3, 1) := by decide +kernel
theorem dX1_fold_46 : decode cX1_fold 46 = .ok (.iaload, 1) := by decide +kernel
theorem dX1_fold_47 : decode cX1_fold 47 = .ok (.iconst 1, 1) := by decide +kernel
theorem dX1_fold_48 : decode cX1_fold 48 = .ok (.if_icmp .ne 8, 3) := by decide +kernel
theorem dX1_fold_51 : decode cX1_fold 51 = .ok (.iload 4, 2) := by decide +kernel
theorem dX1_fold_53 : decode cX1_fold 53 = .ok (.goto 4, 3) := by decide +kernel
theorem dX1_fold_56 : decode cX1_fold 56 = .ok (.iconst 0, 1) := by decide +kernel
theorem dX1_fold_57 : decode cX1_fold 57 = .ok (.ior, 1) := by decide +kernel
theorem dX1_fold_58 : decode cX1_fold 58 = .ok (.putfield 39, 3) := by decide +kernel
theorem dX1_fold_61 : decode cX1_fold 61 = .ok (.aload_n 0, 1) := by decide +kernel
theorem dX1_fold_62 : decode cX1_fold 62 = .ok (.dup, 1) := by decide +kernel
theorem dX1_fold_63 : decode cX1_fold 63 = .ok (.getfield 42, 3) := by decide +kernel
theorem dX1_fold_66 : decode cX1_fold 66 = .ok (.aload_n 1, 1) := by decide +kernel
theorem dX1_fold_67 : decode cX1_fold 67 = .ok (.getfield 53, 3) := by decide +kernel
theorem dX1_fold_70 : decode cX1_fold 70 = .ok (.iload_n 3, 1) := by decide +kernel
theorem dX1_fold_71 : decode cX1_fold 71 = .ok (.iaload, 1) := by decide +kernel
theorem dX1_fold_72 : decode cX1_fold 72 = .ok (.iconst 1, 1) := by decide +kernel
theorem dX1_fold_73 : decode cX1_fold 73 = .ok (.if_icmp .ne 7, 3) := by decide +kernel
theorem dX1_fold_76 : decode cX1_fold 76 = .ok (.iconst 0, 1) := by decide +kernel
theorem dX1_fold_77 : decode cX1_fold 77 = .ok (.goto 5, 3) := by decide +kernel
theorem dX1_fold_80 : decode cX1_fold 80 = .ok (.iload 4, 2) := by decide +kernel
theorem dX1_fold_82 : decode cX1_fold 82 = .ok (.ior, 1) := by decide +kernel
theorem dX1_fold_83 : decode cX1_fold 83 = .ok (.putfield 42, 3) := by decide +kernel
theorem dX1_fold_86 : decode cX1_fold 86 = .ok (.iinc 3 1, 3) := by decide +kernel
theorem dX1_fold_89 : decode cX1_fold 89 = .ok (.goto (-77), 3) := by decide +kernel
theorem dX1_fold_92 : decode cX1_fold 92 = .ok (.return_, 1) := by decide +kernel
theorem dX1_surveyPhases_0 : decode cX1_surveyPhases 0 = .ok (.iconst 1, 1) := by decide +kernel
theorem dX1_surveyPhases_1 : decode cX1_surveyPhases 1 = .ok (.iload_n 1, 1) := by decide +kernel
theorem dX1_surveyPhases_2 : decode cX1_surveyPhases 2 = .ok (.ishl, 1) := by decide +kernel
theorem dX1_surveyPhases_3 : decode cX1_surveyPhases 3 = .ok (.iconst 1, 1) := by decide +kernel
theorem dX1_surveyPhases_4 : decode cX1_surveyPhases 4 = .ok (.isub, 1) := by decide +kernel
theorem dX1_surveyPhases_5 : decode cX1_surveyPhases 5 = .ok (.istore_n 3, 1) := by decide +kernel
theorem dX1_surveyPhases_6 : decode cX1_surveyPhases 6 = .ok (.iconst 1, 1) := by decide +kernel
theorem dX1_surveyPhases_7 : decode cX1_surveyPhases 7 = .ok (.iload_n 2, 1) := by decide +kernel
theorem dX1_surveyPhases_8 : decode cX1_surveyPhases 8 = .ok (.ishl, 1) := by decide +kernel
theorem dX1_surveyPhases_9 : decode cX1_surveyPhases 9 = .ok (.iconst 1, 1) := by decide +kernel
theorem dX1_surveyPhases_10 : decode cX1_surveyPhases 10 = .ok (.isub, 1) := by decide +kernel
theorem dX1_surveyPhases_11 : decode cX1_surveyPhases 11 = .ok (.istore 4, 2) := by decide +kernel
theorem dX1_surveyPhases_13 : decode cX1_surveyPhases 13 = .ok (.iconst 0, 1) := by decide +kernel
theorem dX1_surveyPhases_14 : decode cX1_surveyPhases 14 = .ok (.istore 5, 2) := by decide +kernel
theorem dX1_surveyPhases_16 : decode cX1_surveyPhases 16 = .ok (.iload 5, 2) := by decide +kernel
theorem dX1_surveyPhases_18 : decode cX1_surveyPhases 18 = .ok (.iload_n 1, 1) := by decide +kernel
theorem dX1_surveyPhases_19 : decode cX1_surveyPhases 19 = .ok (.if_icmp .ge 124, 3) := by decide +kernel
theorem dX1_surveyPhases_22 : decode cX1_surveyPhases 22 = .ok (.iload 4, 2) := by decide +kernel
theorem dX1_surveyPhases_24 : decode cX1_surveyPhases 24 = .ok (.iload 5, 2) := by decide +kernel
theorem dX1_surveyPhases_26 : decode cX1_surveyPhases 26 = .ok (.ishr, 1) := by decide +kernel
theorem dX1_surveyPhases_27 : decode cX1_surveyPhases 27 = .ok (.iload 4, 2) := by decide +kernel
theorem dX1_surveyPhases_29 : decode cX1_surveyPhases 29 = .ok (.iload_n 1, 1) := by decide +kernel
theorem dX1_surveyPhases_30 : decode cX1_surveyPhases 30 = .ok (.iload 5, 2) := by decide +kernel
theorem dX1_surveyPhases_32 : decode cX1_surveyPhases 32 = .ok (.isub, 1) := by decide +kernel
theorem dX1_surveyPhases_33 : decode cX1_surveyPhases 33 = .ok (.ishl, 1) := by decide +kernel
theorem dX1_surveyPhases_34 : decode cX1_surveyPhases 34 = .ok (.ior, 1) := by decide +kernel
theorem dX1_surveyPhases_35 : decode cX1_surveyPhases 35 = .ok (.iload_n 3, 1) := by decide +kernel
theorem dX1_surveyPhases_36 : decode cX1_surveyPhases 36 = .ok (.iand, 1) := by decide +kernel
theorem dX1_surveyPhases_37 : decode cX1_surveyPhases 37 = .ok (.istore 6, 2) := by decide +kernel
theorem dX1_surveyPhases_39 : decode cX1_surveyPhases 39 = .ok (.aload_n 0, 1) := by decide +kernel
theorem dX1_surveyPhases_40 : decode cX1_surveyPhases 40 = .ok (.getfield 39, 3) := by decide +kernel
theorem dX1_surveyPhases_43 : decode cX1_surveyPhases 43 = .ok (.iload 6, 2) := by decide +kernel
theorem dX1_surveyPhases_45 : decode cX1_surveyPhases 45 = .ok (.iconst (-1), 1) := by decide +kernel
theorem dX1_surveyPhases_46 : decode cX1_surveyPhases 46 = .ok (.ixor, 1) := by decide +kernel
theorem dX1_surveyPhases_47 : decode cX1_surveyPhases 47 = .ok (.iand, 1) := by decide +kernel
theorem dX1_surveyPhases_48 : decode cX1_surveyPhases 48 = .ok (.ifCond .ne 89, 3) := by decide +kernel
theorem dX1_surveyPhases_51 : decode cX1_surveyPhases 51 = .ok (.aload_n 0, 1) := by decide +kernel
theorem dX1_surveyPhases_52 : decode cX1_surveyPhases 52 = .ok (.getfield 42, 3) := by decide +kernel
theorem dX1_surveyPhases_55 : decode cX1_surveyPhases 55 = .ok (.iload 6, 2) := by decide +kernel
theorem dX1_surveyPhases_57 : decode cX1_surveyPhases 57 = .ok (.iand, 1) := by decide +kernel
theorem dX1_surveyPhases_58 : decode cX1_surveyPhases 58 = .ok (.ifCond .eq 6, 3) := by decide +kernel
theorem dX1_surveyPhases_61 : decode cX1_surveyPhases 61 = .ok (.goto 76, 3) := by decide +kernel
theorem dX1_surveyPhases_64 : decode cX1_surveyPhases 64 = .ok (.aload_n 0, 1) := by decide +kernel
theorem dX1_surveyPhases_65 : decode cX1_surveyPhases 65 = .ok (.aload_n 0, 1) := by decide +kernel
theorem dX1_surveyPhases_66 : decode cX1_surveyPhases 66 = .ok (.getfield 18, 3) := by decide +kernel
theorem dX1_surveyPhases_69 : decode cX1_surveyPhases 69 = .ok (.ifCond .ne 19, 3) := by decide +kernel
theorem dX1_surveyPhases_72 : decode cX1_surveyPhases 72 = .ok (.sipush 10000, 3) := by decide +kernel
theorem dX1_surveyPhases_75 : decode cX1_surveyPhases 75 = .ok (.iload_n 1, 1) := by decide +kernel
theorem dX1_surveyPhases_76 : decode cX1_surveyPhases 76 = .ok (.imul, 1) := by decide +kernel
theorem dX1_surveyPhases_77 : decode cX1_surveyPhases 77 = .ok (.bipush 100, 2) := by decide +kernel
theorem dX1_surveyPhases_79 : decode cX1_surveyPhases 79 = .ok (.iload_n 2, 1) := by decide +kernel
theorem dX1_surveyPhases_80 : decode cX1_surveyPhases 80 = .ok (.imul, 1) := by decide +kernel
theorem dX1_surveyPhases_81 : decode cX1_surveyPhases 81 = .ok (.iadd, 1) := by decide +kernel
theorem dX1_surveyPhases_82 : decode cX1_surveyPhases 82 = .ok (.iload 5, 2) := by decide +kernel
theorem dX1_surveyPhases_84 : decode cX1_surveyPhases 84 = .ok (.iadd, 1) := by decide +kernel
theorem dX1_surveyPhases_85 : decode cX1_surveyPhases 85 = .ok (.goto 7, 3) := by decide +kernel
theorem dX1_surveyPhases_88 : decode cX1_surveyPhases 88 = .ok (.aload_n 0, 1) := by decide +kernel
theorem dX1_surveyPhases_89 : decode cX1_surveyPhases 89 = .ok (.getfield 22, 3) := by decide +kernel
theorem dX1_surveyPhases_92 : decode cX1_surveyPhases 92 = .ok (.putfield 22, 3) := by decide +kernel
theorem dX1_surveyPhases_95 : decode cX1_surveyPhases 95 = .ok (.aload_n 0, 1) := by decide +kernel
theorem dX1_surveyPhases_96 : decode cX1_surveyPhases 96 = .ok (.dup, 1) := by decide +kernel
theorem dX1_surveyPhases_97 : decode cX1_surveyPhases 97 = .ok (.getfield 18, 3) := by decide +kernel
theorem dX1_surveyPhases_100 : decode cX1_surveyPhases 100 = .ok (.iconst 1, 1) := by decide +kernel
theorem dX1_surveyPhases_101 : decode cX1_surveyPhases 101 = .ok (.iadd, 1) := by decide +kernel
theorem dX1_surveyPhases_102 : decode cX1_surveyPhases 102 = .ok (.putfield 18, 3) := by decide +kernel
theorem dX1_surveyPhases_105 : decode cX1_surveyPhases 105 = .ok (.iconst 0, 1) := by decide +kernel
theorem dX1_surveyPhases_106 : decode cX1_surveyPhases 106 = .ok (.istore 7, 2) := by decide +kernel
theorem dX1_surveyPhases_108 : decode cX1_surveyPhases 108 = .ok (.iload 7, 2) := by decide +kernel
theorem dX1_surveyPhases_110 : decode cX1_surveyPhases 110 = .ok (.iload_n 1, 1) := by decide +kernel
theorem dX1_surveyPhases_111 : decode cX1_surveyPhases 111 = .ok (.if_icmp .ge 26, 3) := by decide +kernel
theorem dX1_surveyPhases_114 : decode cX1_surveyPhases 114 = .ok (.aload_n 0, 1) := by decide +kernel
theorem dX1_surveyPhases_115 : decode cX1_surveyPhases 115 = .ok (.getfield 9, 3) := by decide +kernel
theorem dX1_surveyPhases_118 : decode cX1_surveyPhases 118 = .ok (.iload 7, 2) := by decide +kernel
theorem dX1_surveyPhases_120 : decode cX1_surveyPhases 120 = .ok (.dup2, 1) := by decide +kernel
theorem dX1_surveyPhases_121 : decode cX1_surveyPhases 121 = .ok (.iaload, 1) := by decide +kernel
theorem dX1_surveyPhases_122 : decode cX1_surveyPhases 122 = .ok (.iload 6, 2) := by decide +kernel
theorem dX1_surveyPhases_124 : decode cX1_surveyPhases 124 = .ok (.iload 7, 2) := by decide +kernel
theorem dX1_surveyPhases_126 : decode cX1_surveyPhases 126 = .ok (.ishr, 1) := by decide +kernel
theorem dX1_surveyPhases_127 : decode cX1_surveyPhases 127 = .ok (.iconst 1, 1) := by decide +kernel
theorem dX1_surveyPhases_128 : decode cX1_surveyPhases 128 = .ok (.iand, 1) := by decide +kernel
theorem dX1_surveyPhases_129 : decode cX1_surveyPhases 129 = .ok (.iadd, 1) := by decide +kernel
theorem dX1_surveyPhases_130 : decode cX1_surveyPhases 130 = .ok (.iastore, 1) := by decide +kernel
theorem dX1_surveyPhases_131 : decode cX1_surveyPhases 131 = .ok (.iinc 7 1, 3) := by decide +kernel
theorem dX1_surveyPhases_134 : decode cX1_surveyPhases 134 = .ok (.goto (-26), 3) := by decide +kernel
theorem dX1_surveyPhases_137 : decode cX1_surveyPhases 137 = .ok (.iinc 5 1, 3) := by decide +kernel
theorem dX1_surveyPhases_140 : decode cX1_surveyPhases 140 = .ok (.goto (-124), 3) := by decide +kernel
theorem dX1_surveyPhases_143 : decode cX1_surveyPhases 143 = .ok (.return_, 1) := by decide +kernel
theorem dX1_leftAtWorst_0 : decode cX1_leftAtWorst 0 = .ok (.aload_n 0, 1) := by decide +kernel
theorem dX1_leftAtWorst_1 : decode cX1_leftAtWorst 1 = .ok (.getfield 15, 3) := by decide +kernel
theorem dX1_leftAtWorst_4 : decode cX1_leftAtWorst 4 = .ok (.iload_n 1, 1) := by decide +kernel
theorem dX1_leftAtWorst_5 : decode cX1_leftAtWorst 5 = .ok (.iaload, 1) := by decide +kernel
theorem dX1_leftAtWorst_6 : decode cX1_leftAtWorst 6 = .ok (.aload_n 0, 1) := by decide +kernel
theorem dX1_leftAtWorst_7 : decode cX1_leftAtWorst 7 = .ok (.getfield 18, 3) := by decide +kernel
theorem dX1_leftAtWorst_10 : decode cX1_leftAtWorst 10 = .ok (.aload_n 0, 1) := by decide +kernel
theorem dX1_leftAtWorst_11 : decode cX1_leftAtWorst 11 = .ok (.getfield 15, 3) := by decide +kernel
theorem dX1_leftAtWorst_14 : decode cX1_leftAtWorst 14 = .ok (.iload_n 1, 1) := by decide +kernel
theorem dX1_leftAtWorst_15 : decode cX1_leftAtWorst 15 = .ok (.iaload, 1) := by decide +kernel
theorem dX1_leftAtWorst_16 : decode cX1_leftAtWorst 16 = .ok (.isub, 1) := by decide +kernel
theorem dX1_leftAtWorst_17 : decode cX1_leftAtWorst 17 = .ok (.invokestatic 56, 3) := by decide +kernel
theorem dX1_leftAtWorst_20 : decode cX1_leftAtWorst 20 = .ok (.ireturn, 1) := by decide +kernel
theorem dX2_init_0 : decode cX2_init 0 = .ok (.aload_n 0, 1) := by decide +kernel
theorem dX2_init_1 : decode cX2_init 1 = .ok (.invokespecial 3, 3) := by decide +kernel
theorem dX2_init_4 : decode cX2_init 4 = .ok (.aload_n 0, 1) := by decide +kernel
theorem dX2_init_5 : decode cX2_init 5 = .ok (.bipush 12, 2) := by decide +kernel
theorem dX2_init_7 : decode cX2_init 7 = .ok (.newarray .int, 2) := by decide +kernel
theorem dX2_init_9 : decode cX2_init 9 = .ok (.putfield 9, 3) := by decide +kernel
theorem dX2_init_12 : decode cX2_init 12 = .ok (.aload_n 0, 1) := by decide +kernel
theorem dX2_init_13 : decode cX2_init 13 = .ok (.bipush 12, 2) := by decide +kernel
theorem dX2_init_15 : decode cX2_init 15 = .ok (.newarray .int, 2) := by decide +kernel
theorem dX2_init_17 : decode cX2_init 17 = .ok (.putfield 15, 3) := by decide +kernel
theorem dX2_init_20 : decode cX2_init 20 = .ok (.return_, 1) := by decide +kernel
theorem dX2_add_0 : decode cX2_add 0 = .ok (.aload_n 0, 1) := by decide +kernel
theorem dX2_add_1 : decode cX2_add 1 = .ok (.getfield 18, 3) := by decide +kernel
theorem dX2_add_4 : decode cX2_add 4 = .ok (.bipush 12, 2) := by decide +kernel
theorem dX2_add_6 : decode cX2_add 6 = .ok (.if_icmp .lt 5, 3) := by decide +kernel
theorem dX2_add_9 : decode cX2_add 9 = .ok (.iconst 0, 1) := by decide +kernel
theorem dX2_add_10 : decode cX2_add 10 = .ok (.ireturn, 1) := by decide +kernel
theorem dX2_add_11 : decode cX2_add 11 = .ok (.aload_n 0, 1) := by decide +kernel
theorem dX2_add_12 : decode cX2_add 12 = .ok (.getfield 9, 3) := by decide +kernel
theorem dX2_add_15 : decode cX2_add 15 = .ok (.aload_n 0, 1) := by decide +kernel
theorem dX2_add_16 : decode cX2_add 16 = .ok (.getfield 18, 3) := by decide +kernel
theorem dX2_add_19 : decode cX2_add 19 = .ok (.iload_n 1, 1) := by decide +kernel
theorem dX2_add_20 : decode cX2_add 20 = .ok (.iastore, 1) := by decide +kernel
theorem dX2_add_21 : decode cX2_add 21 = .ok (.aload_n 0, 1) := by decide +kernel
theorem dX2_add_22 : decode cX2_add 22 = .ok (.getfield 15, 3) := by decide +kernel
theorem dX2_add_25 : decode cX2_add 25 = .ok (.aload_n 0, 1) := by decide +kernel
theorem dX2_add_26 : decode cX2_add 26 = .ok (.getfield 18, 3) := by decide +kernel
theorem dX2_add_29 : decode cX2_add 29 = .ok (.iload_n 2, 1) := by decide +kernel
theorem dX2_add_30 : decode cX2_add 30 = .ok (.iastore, 1) := by decide +kernel
theorem dX2_add_31 : decode cX2_add 31 = .ok (.aload_n 0, 1) := by decide +kernel
theorem dX2_add_32 : decode cX2_add 32 = .ok (.dup, 1) := by decide +kernel
theorem dX2_add_33 : decode cX2_add 33 = .ok (.getfield 18, 3) := by decide +kernel
theorem dX2_add_36 : decode cX2_add 36 = .ok (.iconst 1, 1) := by decide +kernel
theorem dX2_add_37 : decode cX2_add 37 = .ok (.iadd, 1) := by decide +kernel
theorem dX2_add_38 : decode cX2_add 38 = .ok (.putfield 18, 3) := by decide +kernel
theorem dX2_add_41 : decode cX2_add 41 = .ok (.iconst 1, 1) := by decide +kernel
theorem dX2_add_42 : decode cX2_add 42 = .ok (.ireturn, 1) := by decide +kernel
theorem dX2_take_0 : decode cX2_take 0 = .ok (.iconst 0, 1) := by decide +kernel
theorem dX2_take_1 : decode cX2_take 1 = .ok (.istore_n 2, 1) := by decide +kernel
theorem dX2_take_2 : decode cX2_take 2 = .ok (.iload_n 2, 1) := by decide +kernel
theorem dX2_take_3 : decode cX2_take 3 = .ok (.bipush 12, 2) := by decide +kernel
theorem dX2_take_5 : decode cX2_take 5 = .ok (.if_icmp .ge 33, 3) := by decide +kernel
theorem dX2_take_8 : decode cX2_take 8 = .ok (.aload_n 0, 1) := by decide +kernel
theorem dX2_take_9 : decode cX2_take 9 = .ok (.getfield 9, 3) := by decide +kernel
theorem dX2_take_12 : decode cX2_take 12 = .ok (.iload_n 2, 1) := by decide +kernel
theorem dX2_take_13 : decode cX2_take 13 = .ok (.aload_n 1, 1) := by decide +kernel
theorem dX2_take_14 : decode cX2_take 14 = .ok (.getfield 9, 3) := by decide +kernel
theorem dX2_take_17 : decode cX2_take 17 = .ok (.iload_n 2, 1) := by decide +kernel
theorem dX2_take_18 : decode cX2_take 18 = .ok (.iaload, 1) := by decide +kernel
theorem dX2_take_19 : decode cX2_take 19 = .ok (.iastore, 1) := by decide +kernel
theorem dX2_take_20 : decode cX2_take 20 = .ok (.aload_n 0, 1) := by decide +kernel
theorem dX2_take_21 : decode cX2_take 21 = .ok (.getfield 15, 3) := by decide +kernel
theorem dX2_take_24 : decode cX2_take 24 = .ok (.iload_n 2, 1) := by decide +kernel
theorem dX2_take_25 : decode cX2_take 25 = .ok (.aload_n 1, 1) := by decide +kernel
theorem dX2_take_26 : decode cX2_take 26 = .ok (.getfield 15, 3) := by decide +kernel
theorem dX2_take_29 : decode cX2_take 29 = .ok (.iload_n 2, 1) := by decide +kernel
theorem dX2_take_30 : decode cX2_take 30 = .ok (.iaload, 1) := by decide +kernel
theorem dX2_take_31 : decode cX2_take 31 = .ok (.iastore, 1) := by decide +kernel
theorem dX2_take_32 : decode cX2_take 32 = .ok (.iinc 2 1, 3) := by decide +kernel
theorem dX2_take_35 : decode cX2_take 35 = .ok (.goto (-33), 3) := by decide +kernel
theorem dX2_take_38 : decode cX2_take 38 = .ok (.aload_n 0, 1) := by decide +kernel
theorem dX2_take_39 : decode cX2_take 39 = .ok (.aload_n 1, 1) := by decide +kernel
theorem dX2_take_40 : decode cX2_take 40 = .ok (.getfield 18, 3) := by decide +kernel
theorem dX2_take_43 : decode cX2_take 43 = .ok (.putfield 18, 3) := by decide +kernel
theorem dX2_take_46 : decode cX2_take 46 = .ok (.return_, 1) := by decide +kernel
theorem dX3_init_0 : decode cX3_init 0 = .ok (.aload_n 0, 1) := by decide +kernel
theorem dX3_init_1 : decode cX3_init 1 = .ok (.invokespecial 3, 3) := by decide +kernel
theorem dX3_init_4 : decode cX3_init 4 = .ok (.aload_n 0, 1) := by decide +kernel
theorem dX3_init_5 : decode cX3_init 5 = .ok (.iconst 1, 1) := by decide +kernel
theorem dX3_init_6 : decode cX3_init 6 = .ok (.putfield 9, 3) := by decide +kernel
theorem dX3_init_9 : decode cX3_init 9 = .ok (.aload_n 0, 1) := by decide +kernel
theorem dX3_init_10 : decode cX3_init 10 = .ok (.iconst 2, 1) := by decide +kernel
theorem dX3_init_11 : decode cX3_init 11 = .ok (.putfield 15, 3) := by decide +kernel
theorem dX3_init_14 : decode cX3_init 14 = .ok (.aload_n 0, 1) := by decide +kernel
theorem dX3_init_15 : decode cX3_init 15 = .ok (.iconst 1, 1) := by decide +kernel
theorem dX3_init_16 : decode cX3_init 16 = .ok (.putfield 18, 3) := by decide +kernel
theorem dX3_init_19 : decode cX3_init 19 = .ok (.return_, 1) := by decide +kernel
theorem dX3_become_0 : decode cX3_become 0 = .ok (.aload_n 0, 1) := by decide +kernel
theorem dX3_become_1 : decode cX3_become 1 = .ok (.iload_n 1, 1) := by decide +kernel
theorem dX3_become_2 : decode cX3_become 2 = .ok (.putfield 21, 3) := by decide +kernel
theorem dX3_become_5 : decode cX3_become 5 = .ok (.aload_n 0, 1) := by decide +kernel
theorem dX3_become_6 : decode cX3_become 6 = .ok (.iload_n 2, 1) := by decide +kernel
theorem dX3_become_7 : decode cX3_become 7 = .ok (.putfield 9, 3) := by decide +kernel
theorem dX3_become_10 : decode cX3_become 10 = .ok (.aload_n 0, 1) := by decide +kernel
theorem dX3_become_11 : decode cX3_become 11 = .ok (.iload_n 3, 1) := by decide +kernel
theorem dX3_become_12 : decode cX3_become 12 = .ok (.iconst 2, 1) := by decide +kernel
theorem dX3_become_13 : decode cX3_become 13 = .ok (.if_icmp .ge 7, 3) := by decide +kernel
theorem dX3_become_16 : decode cX3_become 16 = .ok (.iconst 2, 1) := by decide +kernel
theorem dX3_become_17 : decode cX3_become 17 = .ok (.goto 4, 3) := by decide +kernel
theorem dX3_become_20 : decode cX3_become 20 = .ok (.iload_n 3, 1) := by decide +kernel
theorem dX3_become_21 : decode cX3_become 21 = .ok (.putfield 15, 3) := by decide +kernel
theorem dX3_become_24 : decode cX3_become 24 = .ok (.aload_n 0, 1) := by decide +kernel
theorem dX3_become_25 : decode cX3_become 25 = .ok (.iload 4, 2) := by decide +kernel
theorem dX3_become_27 : decode cX3_become 27 = .ok (.putfield 18, 3) := by decide +kernel
theorem dX3_become_30 : decode cX3_become 30 = .ok (.aload_n 0, 1) := by decide +kernel
theorem dX3_become_31 : decode cX3_become 31 = .ok (.iconst 0, 1) := by decide +kernel
theorem dX3_become_32 : decode cX3_become 32 = .ok (.putfield 24, 3) := by decide +kernel
theorem dX3_become_35 : decode cX3_become 35 = .ok (.return_, 1) := by decide +kernel
theorem dX3_take_0 : decode cX3_take 0 = .ok (.aload_n 0, 1) := by decide +kernel
theorem dX3_take_1 : decode cX3_take 1 = .ok (.aload_n 1, 1) := by decide +kernel
theorem dX3_take_2 : decode cX3_take 2 = .ok (.getfield 21, 3) := by decide +kernel
theorem dX3_take_5 : decode cX3_take 5 = .ok (.aload_n 1, 1) := by decide +kernel
theorem dX3_take_6 : decode cX3_take 6 = .ok (.getfield 9, 3) := by decide +kernel
theorem dX3_take_9 : decode cX3_take 9 = .ok (.aload_n 1, 1) := by decide +kernel
theorem dX3_take_10 : decode cX3_take 10 = .ok (.getfield 15, 3) := by decide +kernel
theorem dX3_take_13 : decode cX3_take 13 = .ok (.aload_n 1, 1) := by decide +kernel
theorem dX3_take_14 : decode cX3_take 14 = .ok (.getfield 18, 3) := by decide +kernel
theorem dX3_take_17 : decode cX3_take 17 = .ok (.invokevirtual 27, 3) := by decide +kernel
theorem dX3_take_20 : decode cX3_take 20 = .ok (.aload_n 0, 1) := by decide +kernel
theorem dX3_take_21 : decode cX3_take 21 = .ok (.aload_n 1, 1) := by decide +kernel
theorem dX3_take_22 : decode cX3_take 22 = .ok (.getfield 24, 3) := by decide +kernel
theorem dX3_take_25 : decode cX3_take 25 = .ok (.putfield 24, 3) := by decide +kernel
theorem dX3_take_28 : decode cX3_take 28 = .ok (.return_, 1) := by decide +kernel
theorem dX3_isOpenNow_0 : decode cX3_isOpenNow 0 = .ok (.aload_n 0, 1) := by decide +kernel
theorem dX3_isOpenNow_1 : decode cX3_isOpenNow 1 = .ok (.iload_n 1, 1) := by decide +kernel
theorem dX3_isOpenNow_2 : decode cX3_isOpenNow 2 = .ok (.aload_n 0, 1) := by decide +kernel
theorem dX3_isOpenNow_3 : decode cX3_isOpenNow 3 = .ok (.getfield 24, 3) := by decide +kernel
theorem dX3_isOpenNow_6 : decode cX3_isOpenNow 6 = .ok (.invokevirtual 31, 3) := by decide +kernel
theorem dX3_isOpenNow_9 : decode cX3_isOpenNow 9 = .ok (.ireturn, 1) := by decide +kernel
theorem dX3_isOpenAt_0 : decode cX3_isOpenAt 0 = .ok (.aload_n 0, 1) := by decide +kernel
theorem dX3_isOpenAt_1 : decode cX3_isOpenAt 1 = .ok (.getfield 21, 3) := by decide +kernel
theorem dX3_isOpenAt_4 : decode cX3_isOpenAt 4 = .ok (.tableswitch 102 1 3 #[28, 37, 68], 28) := by decide +kernel
theorem dX3_isOpenAt_32 : decode cX3_isOpenAt 32 = .ok (.aload_n 0, 1) := by decide +kernel
theorem dX3_isOpenAt_33 : decode cX3_isOpenAt 33 = .ok (.iload_n 1, 1) := by decide +kernel
theorem dX3_isOpenAt_34 : decode cX3_isOpenAt 34 = .ok (.iconst 2, 1) := by decide +kernel
theorem dX3_isOpenAt_35 : decode cX3_isOpenAt 35 = .ok (.idiv, 1) := by decide +kernel
theorem dX3_isOpenAt_36 : decode cX3_isOpenAt 36 = .ok (.iload_n 2, 1) := by decide +kernel
theorem dX3_isOpenAt_37 : decode cX3_isOpenAt 37 = .ok (.invokevirtual 35, 3) := by decide +kernel
theorem dX3_isOpenAt_40 : decode cX3_isOpenAt 40 = .ok (.ireturn, 1) := by decide +kernel
theorem dX3_isOpenAt_41 : decode cX3_isOpenAt 41 = .ok (.aload_n 0, 1) := by decide +kernel
theorem dX3_isOpenAt_42 : decode cX3_isOpenAt 42 = .ok (.iload_n 1, 1) := by decide +kernel
theorem dX3_isOpenAt_43 : decode cX3_isOpenAt 43 = .ok (.iload_n 2, 1) := by decide +kernel
theorem dX3_isOpenAt_44 : decode cX3_isOpenAt 44 = .ok (.invokevirtual 35, 3) := by decide +kernel
theorem dX3_isOpenAt_47 : decode cX3_isOpenAt 47 = .ok (.ifCond .ne 19, 3) := by decide +kernel
theorem dX3_isOpenAt_50 : decode cX3_isOpenAt 50 = .ok (.aload_n 0, 1) := by decide +kernel
theorem dX3_isOpenAt_51 : decode cX3_isOpenAt 51 = .ok (.iload_n 1, 1) := by decide +kernel
theorem dX3_isOpenAt_52 : decode cX3_isOpenAt 52 = .ok (.aload_n 0, 1) := by decide +kernel
theorem dX3_isOpenAt_53 : decode cX3_isOpenAt 53 = .ok (.getfield 15, 3) := by decide +kernel
theorem dX3_isOpenAt_56 : decode cX3_isOpenAt 56 = .ok (.iconst 2, 1) := by decide +kernel
theorem dX3_isOpenAt_57 : decode cX3_isOpenAt 57 = .ok (.idiv, 1) := by decide +kernel
theorem dX3_isOpenAt_58 : decode cX3_isOpenAt 58 = .ok (.iadd, 1) := by decide +kernel
theorem dX3_isOpenAt_59 : decode cX3_isOpenAt 59 = .ok (.iload_n 2, 1) := by decide +kernel
theorem dX3_isOpenAt_60 : decode cX3_isOpenAt 60 = .ok (.invokevirtual 35, 3) := by decide +kernel
theorem dX3_isOpenAt_63 : decode cX3_isOpenAt 63 = .ok (.ifCond .eq 7, 3) := by decide +kernel
theorem dX3_isOpenAt_66 : decode cX3_isOpenAt 66 = .ok (.iconst 1, 1) := by decide +kernel
theorem dX3_isOpenAt_67 : decode cX3_isOpenAt 67 = .ok (.goto 4, 3) := by decide +kernel
theorem dX3_isOpenAt_70 : decode cX3_isOpenAt 70 = .ok (.iconst 0, 1) := by decide +kernel
theorem dX3_isOpenAt_71 : decode cX3_isOpenAt 71 = .ok (.ireturn, 1) := by decide +kernel
theorem dX3_isOpenAt_72 : decode cX3_isOpenAt 72 = .ok (.iload_n 1, 1) := by decide +kernel
theorem dX3_isOpenAt_73 : decode cX3_isOpenAt 73 = .ok (.ifCond .le 31, 3) := by decide +kernel
theorem dX3_isOpenAt_76 : decode cX3_isOpenAt 76 = .ok (.aload_n 0, 1) := by decide +kernel
theorem dX3_isOpenAt_77 : decode cX3_isOpenAt 77 = .ok (.iload_n 1, 1) := by decide +kernel
theorem dX3_isOpenAt_78 : decode cX3_isOpenAt 78 = .ok (.iconst 2, 1) := by decide +kernel
theorem dX3_isOpenAt_79 : decode cX3_isOpenAt 79 = .ok (.idiv, 1) := by decide +kernel
theorem dX3_isOpenAt_80 : decode cX3_isOpenAt 80 = .ok (.iload_n 2, 1) := by decide +kernel
theorem dX3_isOpenAt_81 : decode cX3_isOpenAt 81 = .ok (.invokevirtual 35, 3) := by decide +kernel
theorem dX3_isOpenAt_84 : decode cX3_isOpenAt 84 = .ok (.ifCond .eq 20, 3) := by decide +kernel
theorem dX3_isOpenAt_87 : decode cX3_isOpenAt 87 = .ok (.aload_n 0, 1) := by decide +kernel
theorem dX3_isOpenAt_88 : decode cX3_isOpenAt 88 = .ok (.iload_n 1, 1) := by decide +kernel
theorem dX3_isOpenAt_89 : decode cX3_isOpenAt 89 = .ok (.iconst 1, 1) := by decide +kernel
theorem dX3_isOpenAt_90 : decode cX3_isOpenAt 90 = .ok (.isub, 1) := by decide +kernel
theorem dX3_isOpenAt_91 : decode cX3_isOpenAt 91 = .ok (.iconst 2, 1) := by decide +kernel
theorem dX3_isOpenAt_92 : decode cX3_isOpenAt 92 = .ok (.idiv, 1) := by decide +kernel
theorem dX3_isOpenAt_93 : decode cX3_isOpenAt 93 = .ok (.iload_n 2, 1) := by decide +kernel
theorem dX3_isOpenAt_94 : decode cX3_isOpenAt 94 = .ok (.invokevirtual 35, 3) := by decide +kernel
theorem dX3_isOpenAt_97 : decode cX3_isOpenAt 97 = .ok (.ifCond .eq 7, 3) := by decide +kernel
theorem dX3_isOpenAt_100 : decode cX3_isOpenAt 100 = .ok (.iconst 1, 1) := by decide +kernel
theorem dX3_isOpenAt_101 : decode cX3_isOpenAt 101 = .ok (.goto 4, 3) := by decide +kernel
theorem dX3_isOpenAt_104 : decode cX3_isOpenAt 104 = .ok (.iconst 0, 1) := by decide +kernel
theorem dX3_isOpenAt_105 : decode cX3_isOpenAt 105 = .ok (.ireturn, 1) := by decide +kernel
theorem dX3_isOpenAt_106 : decode cX3_isOpenAt 106 = .ok (.aload_n 0, 1) := by decide +kernel
theorem dX3_isOpenAt_107 : decode cX3_isOpenAt 107 = .ok (.iload_n 1, 1) := by decide +kernel
theorem dX3_isOpenAt_108 : decode cX3_isOpenAt 108 = .ok (.iload_n 2, 1) := by decide +kernel
theorem dX3_isOpenAt_109 : decode cX3_isOpenAt 109 = .ok (.invokevirtual 35, 3) := by decide +kernel
theorem dX3_isOpenAt_112 : decode cX3_isOpenAt 112 = .ok (.ireturn, 1) := by decide +kernel
theorem dX3_isPlainOpen_0 : decode cX3_isPlainOpen 0 = .ok (.aload_n 0, 1) := by decide +kernel
theorem dX3_isPlainOpen_1 : decode cX3_isPlainOpen 1 = .ok (.getfield 15, 3) := by decide +kernel
theorem dX3_isPlainOpen_4 : decode cX3_isPlainOpen 4 = .ok (.ifCond .le 22, 3) := by decide +kernel
theorem dX3_isPlainOpen_7 : decode cX3_isPlainOpen 7 = .ok (.iload_n 1, 1) := by decide +kernel
theorem dX3_isPlainOpen_8 : decode cX3_isPlainOpen 8 = .ok (.iload_n 2, 1) := by decide +kernel
theorem dX3_isPlainOpen_9 : decode cX3_isPlainOpen 9 = .ok (.iadd, 1) := by decide +kernel
theorem dX3_isPlainOpen_10 : decode cX3_isPlainOpen 10 = .ok (.aload_n 0, 1) := by decide +kernel
theorem dX3_isPlainOpen_11 : decode cX3_isPlainOpen 11 = .ok (.getfield 15, 3) := by decide +kernel
theorem dX3_isPlainOpen_14 : decode cX3_isPlainOpen 14 = .ok (.irem, 1) := by decide +kernel
theorem dX3_isPlainOpen_15 : decode cX3_isPlainOpen 15 = .ok (.aload_n 0, 1) := by decide +kernel
theorem dX3_isPlainOpen_16 : decode cX3_isPlainOpen 16 = .ok (.getfield 18, 3) := by decide +kernel
theorem dX3_isPlainOpen_19 : decode cX3_isPlainOpen 19 = .ok (.if_icmp .ge 7, 3) := by decide +kernel
theorem dX3_isPlainOpen_22 : decode cX3_isPlainOpen 22 = .ok (.iconst 1, 1) := by decide +kernel
theorem dX3_isPlainOpen_23 : decode cX3_isPlainOpen 23 = .ok (.goto 4, 3) := by decide +kernel
theorem dX3_isPlainOpen_26 : decode cX3_isPlainOpen 26 = .ok (.iconst 0, 1) := by decide +kernel
theorem dX3_isPlainOpen_27 : decode cX3_isPlainOpen 27 = .ok (.ireturn, 1) := by decide +kernel
theorem dX3_firstShut_0 : decode cX3_firstShut 0 = .ok (.iload_n 1, 1) := by decide +kernel
theorem dX3_firstShut_1 : decode cX3_firstShut 1 = .ok (.istore 4, 2) := by decide +kernel
theorem dX3_firstShut_3 : decode cX3_firstShut 3 = .ok (.iload 4, 2) := by decide +kernel
theorem dX3_firstShut_5 : decode cX3_firstShut 5 = .ok (.iload_n 2, 1) := by decide +kernel
theorem dX3_firstShut_6 : decode cX3_firstShut 6 = .ok (.if_icmp .ge 22, 3) := by decide +kernel
theorem dX3_firstShut_9 : decode cX3_firstShut 9 = .ok (.aload_n 0, 1) := by decide +kernel
theorem dX3_firstShut_10 : decode cX3_firstShut 10 = .ok (.iload 4, 2) := by decide +kernel
theorem dX3_firstShut_12 : decode cX3_firstShut 12 = .ok (.iload_n 3, 1) := by decide +kernel
theorem dX3_firstShut_13 : decode cX3_firstShut 13 = .ok (.invokevirtual 31, 3) := by decide +kernel
theorem dX3_firstShut_16 : decode cX3_firstShut 16 = .ok (.ifCond .ne 6, 3) := by decide +kernel
theorem dX3_firstShut_19 : decode cX3_firstShut 19 = .ok (.iload 4, 2) := by decide +kernel
theorem dX3_firstShut_21 : decode cX3_firstShut 21 = .ok (.ireturn, 1) := by decide +kernel
theorem dX3_firstShut_22 : decode cX3_firstShut 22 = .ok (.iinc 4 1, 3) := by decide +kernel
theorem dX3_firstShut_25 : decode cX3_firstShut 25 = .ok (.goto (-22), 3) := by decide +kernel
theorem dX3_firstShut_28 : decode cX3_firstShut 28 = .ok (.iload_n 2, 1) := by decide +kernel
theorem dX3_firstShut_29 : decode cX3_firstShut 29 = .ok (.ireturn, 1) := by decide +kernel
theorem dX3_phaseBehind_0 : decode cX3_phaseBehind 0 = .ok (.aload_n 0, 1) := by decide +kernel
theorem dX3_phaseBehind_1 : decode cX3_phaseBehind 1 = .ok (.getfield 15, 3) := by decide +kernel
theorem dX3_phaseBehind_4 : decode cX3_phaseBehind 4 = .ok (.ifCond .le 22, 3) := by decide +kernel
theorem dX3_phaseBehind_7 : decode cX3_phaseBehind 7 = .ok (.aload_n 0, 1) := by decide +kernel
theorem dX3_phaseBehind_8 : decode cX3_phaseBehind 8 = .ok (.getfield 24, 3) := by decide +kernel
theorem dX3_phaseBehind_11 : decode cX3_phaseBehind 11 = .ok (.aload_n 0, 1) := by decide +kernel
theorem dX3_phaseBehind_12 : decode cX3_phaseBehind 12 = .ok (.getfield 15, 3) := by decide +kernel
theorem dX3_phaseBehind_15 : decode cX3_phaseBehind 15 = .ok (.iadd, 1) := by decide +kernel
theorem dX3_phaseBehind_16 : decode cX3_phaseBehind 16 = .ok (.iload_n 1, 1) := by decide +kernel
theorem dX3_phaseBehind_17 : decode cX3_phaseBehind 17 = .ok (.iadd, 1) := by decide +kernel
theorem dX3_phaseBehind_18 : decode cX3_phaseBehind 18 = .ok (.aload_n 0, 1) := by decide +kernel
theorem dX3_phaseBehind_19 : decode cX3_phaseBehind 19 = .ok (.getfield 15, 3) := by decide +kernel
theorem dX3_phaseBehind_22 : decode cX3_phaseBehind 22 = .ok (.irem, 1) := by decide +kernel
theorem dX3_phaseBehind_23 : decode cX3_phaseBehind 23 = .ok (.goto 7, 3) := by decide +kernel
theorem dX3_phaseBehind_26 : decode cX3_phaseBehind 26 = .ok (.aload_n 0, 1) := by decide +kernel
theorem dX3_phaseBehind_27 : decode cX3_phaseBehind 27 = .ok (.getfield 24, 3) := by decide +kernel
theorem dX3_phaseBehind_30 : decode cX3_phaseBehind 30 = .ok (.ireturn, 1) := by decide +kernel
theorem dX4_init_0 : decode cX4_init 0 = .ok (.aload_n 0, 1) := by decide +kernel
theorem dX4_init_1 : decode cX4_init 1 = .ok (.invokespecial 3, 3) := by decide +kernel
theorem dX4_init_4 : decode cX4_init 4 = .ok (.aload_n 0, 1) := by decide +kernel
theorem dX4_init_5 : decode cX4_init 5 = .ok (.bipush 16, 2) := by decide +kernel
theorem dX4_init_7 : decode cX4_init 7 = .ok (.newarray .long, 2) := by decide +kernel
theorem dX4_init_9 : decode cX4_init 9 = .ok (.putfield 9, 3) := by decide +kernel
theorem dX4_init_12 : decode cX4_init 12 = .ok (.return_, 1) := by decide +kernel
theorem dX4_begin_0 : decode cX4_begin 0 = .ok (.aload_n 0, 1) := by decide +kernel
theorem dX4_begin_1 : decode cX4_begin 1 = .ok (.iconst 1, 1) := by decide +kernel
theorem dX4_begin_2 : decode cX4_begin 2 = .ok (.putfield 15, 3) := by decide +kernel
theorem dX4_begin_5 : decode cX4_begin 5 = .ok (.aload_n 0, 1) := by decide +kernel
theorem dX4_begin_6 : decode cX4_begin 6 = .ok (.iload_n 1, 1) := by decide +kernel
theorem dX4_begin_7 : decode cX4_begin 7 = .ok (.putfield 19, 3) := by decide +kernel
theorem dX4_begin_10 : decode cX4_begin 10 = .ok (.aload_n 0, 1) := by decide +kernel
theorem dX4_begin_11 : decode cX4_begin 11 = .ok (.iload_n 2, 1) := by decide +kernel
theorem dX4_begin_12 : decode cX4_begin 12 = .ok (.putfield 23, 3) := by decide +kernel
theorem dX4_begin_15 : decode cX4_begin 15 = .ok (.aload_n 0, 1) := by decide +kernel
theorem dX4_begin_16 : decode cX4_begin 16 = .ok (.getfield 9, 3) := by decide +kernel
theorem dX4_begin_19 : decode cX4_begin 19 = .ok (.lconst 0, 1) := by decide +kernel
theorem dX4_begin_20 : decode cX4_begin 20 = .ok (.invokestatic 26, 3) := by decide +kernel
theorem dX4_begin_23 : decode cX4_begin 23 = .ok (.return_, 1) := by decide +kernel
theorem dX4_hasItems_0 : decode cX4_hasItems 0 = .ok (.iload_n 1, 1) := by decide +kernel
theorem dX4_hasItems_1 : decode cX4_hasItems 1 = .ok (.ifCond .lt 21, 3) := by decide +kernel
theorem dX4_hasItems_4 : decode cX4_hasItems 4 = .ok (.iload_n 2, 1) := by decide +kernel
theorem dX4_hasItems_5 : decode cX4_hasItems 5 = .ok (.ifCond .lt 17, 3) := by decide +kernel
theorem dX4_hasItems_8 : decode cX4_hasItems 8 = .ok (.iload_n 1, 1) := by decide +kernel
theorem dX4_hasItems_9 : decode cX4_hasItems 9 = .ok (.aload_n 0, 1) := by decide +kernel
theorem dX4_hasItems_10 : decode cX4_hasItems 10 = .ok (.getfield 23, 3) := by decide +kernel
theorem dX4_hasItems_13 : decode cX4_hasItems 13 = .ok (.iload_n 2, 1) := by decide +kernel
theorem dX4_hasItems_14 : decode cX4_hasItems 14 = .ok (.isub, 1) := by decide +kernel
theorem dX4_hasItems_15 : decode cX4_hasItems 15 = .ok (.if_icmp .gt 7, 3) := by decide +kernel
theorem dX4_hasItems_18 : decode cX4_hasItems 18 = .ok (.iconst 1, 1) := by decide +kernel
theorem dX4_hasItems_19 : decode cX4_hasItems 19 = .ok (.goto 4, 3) := by decide +kernel
theorem dX4_hasItems_22 : decode cX4_hasItems 22 = .ok (.iconst 0, 1) := by decide +kernel
theorem dX4_hasItems_23 : decode cX4_hasItems 23 = .ok (.ireturn, 1) := by decide +kernel
theorem dX4_refusal_0 : decode cX4_refusal 0 = .ok (.aload_n 0, 1) := by decide +kernel
theorem dX4_refusal_1 : decode cX4_refusal 1 = .ok (.getfield 15, 3) := by decide +kernel
theorem dX4_refusal_4 : decode cX4_refusal 4 = .ok (.ifCond .ne 6, 3) := by decide +kernel
theorem dX4_refusal_7 : decode cX4_refusal 7 = .ok (.bipush (-11), 2) := by decide +kernel
theorem dX4_refusal_9 : decode cX4_refusal 9 = .ok (.ireturn, 1) := by decide +kernel
theorem dX4_refusal_10 : decode cX4_refusal 10 = .ok (.aload_n 0, 1) := by decide +kernel
theorem dX4_refusal_11 : decode cX4_refusal 11 = .ok (.getfield 19, 3) := by decide +kernel
theorem dX4_refusal_14 : decode cX4_refusal 14 = .ok (.iload_n 1, 1) := by decide +kernel
theorem dX4_refusal_15 : decode cX4_refusal 15 = .ok (.if_icmp .eq 6, 3) := by decide +kernel
theorem dX4_refusal_18 : decode cX4_refusal 18 = .ok (.bipush (-12), 2) := by decide +kernel
theorem dX4_refusal_20 : decode cX4_refusal 20 = .ok (.ireturn, 1) := by decide +kernel
theorem dX4_refusal_21 : decode cX4_refusal 21 = .ok (.aload_n 0, 1) := by decide +kernel
theorem dX4_refusal_22 : decode cX4_refusal 22 = .ok (.iload_n 2, 1) := by decide +kernel
theorem dX4_refusal_23 : decode cX4_refusal 23 = .ok (.iload_n 3, 1) := by decide +kernel
theorem dX4_refusal_24 : decode cX4_refusal 24 = .ok (.invokevirtual 32, 3) := by decide +kernel
theorem dX4_refusal_27 : decode cX4_refusal 27 = .ok (.ifCond .eq 7, 3) := by decide +kernel
theorem dX4_refusal_30 : decode cX4_refusal 30 = .ok (.iconst 0, 1) := by decide +kernel
theorem dX4_refusal_31 : decode cX4_refusal 31 = .ok (.goto 5, 3) := by decide +kernel
theorem dX4_refusal_34 : decode cX4_refusal 34 = .ok (.bipush (-13), 2) := by decide +kernel
theorem dX4_refusal_36 : decode cX4_refusal 36 = .ok (.ireturn, 1) := by decide +kernel
theorem dX5_init_0 : decode cX5_init 0 = .ok (.aload_n 0, 1) := by decide +kernel
theorem dX5_init_1 : decode cX5_init 1 = .ok (.invokespecial 3, 3) := by decide +kernel
theorem dX5_init_4 : decode cX5_init 4 = .ok (.aload_n 0, 1) := by decide +kernel
theorem dX5_init_5 : decode cX5_init 5 = .ok (.bipush 7, 2) := by decide +kernel
theorem dX5_init_7 : decode cX5_init 7 = .ok (.sipush 346, 3) := by decide +kernel
theorem dX5_init_10 : decode cX5_init 10 = .ok (.multianewarray 9 2, 4) := by decide +kernel
theorem dX5_init_14 : decode cX5_init 14 = .ok (.putfield 11, 3) := by decide +kernel
theorem dX5_init_17 : decode cX5_init 17 = .ok (.aload_n 0, 1) := by decide +kernel
theorem dX5_init_18 : decode cX5_init 18 = .ok (.sipush 347, 3) := by decide +kernel
theorem dX5_init_21 : decode cX5_init 21 = .ok (.newarray .int, 2) := by decide +kernel
theorem dX5_init_23 : decode cX5_init 23 = .ok (.putfield 16, 3) := by decide +kernel
theorem dX5_init_26 : decode cX5_init 26 = .ok (.aload_n 0, 1) := by decide +kernel
theorem dX5_init_27 : decode cX5_init 27 = .ok (.bipush 6, 2) := by decide +kernel
theorem dX5_init_29 : decode cX5_init 29 = .ok (.newarray .int, 2) := by decide +kernel
theorem dX5_init_31 : decode cX5_init 31 = .ok (.putfield 20, 3) := by decide +kernel
theorem dX5_init_34 : decode cX5_init 34 = .ok (.return_, 1) := by decide +kernel
theorem dX5_findSoonest_0 : decode cX5_findSoonest 0 = .ok (.aload_n 1, 1) := by decide +kernel
theorem dX5_findSoonest_1 : decode cX5_findSoonest 1 = .ok (.getfield 23, 3) := by decide +kernel
theorem dX5_findSoonest_4 : decode cX5_findSoonest 4 = .ok (.istore 4, 2) := by decide +kernel
theorem dX5_findSoonest_6 : decode cX5_findSoonest 6 = .ok (.iconst 0, 1) := by decide +kernel
theorem dX5_findSoonest_7 : decode cX5_findSoonest 7 = .ok (.istore 5, 2) := by decide +kernel
theorem dX5_findSoonest_9 : decode cX5_findSoonest 9 = .ok (.iload 5, 2) := by decide +kernel
theorem dX5_findSoonest_11 : decode cX5_findSoonest 11 = .ok (.sipush 346, 3) := by decide +kernel
theorem dX5_findSoonest_14 : decode cX5_findSoonest 14 = .ok (.if_icmp .ge 21, 3) := by decide +kernel
theorem dX5_findSoonest_17 : decode cX5_findSoonest 17 = .ok (.aload_n 0, 1) := by decide +kernel
theorem dX5_findSoonest_18 : decode cX5_findSoonest 18 = .ok (.getfield 11, 3) := by decide +kernel
theorem dX5_findSoonest_21 : decode cX5_findSoonest 21 = .ok (.iload 4, 2) := by decide +kernel
theorem dX5_findSoonest_23 : decode cX5_findSoonest 23 = .ok (.aaload, 1) := by decide +kernel
theorem dX5_findSoonest_24 : decode cX5_findSoonest 24 = .ok (.iload 5, 2) := by decide +kernel
theorem dX5_findSoonest_26 : decode cX5_findSoonest 26 = .ok (.iload 5, 2) := by decide +kernel
theorem dX5_findSoonest_28 : decode cX5_findSoonest 28 = .ok (.iastore, 1) := by decide +kernel
theorem dX5_findSoonest_29 : decode cX5_findSoonest 29 = .ok (.iinc 5 1, 3) := by decide +kernel
theorem dX5_findSoonest_32 : decode cX5_findSoonest 32 = .ok (.goto (-23), 3) := by decide +kernel
theorem dX5_findSoonest_35 : decode cX5_findSoonest 35 = .ok (.iload 4, 2) := by decide +kernel
theorem dX5_findSoonest_37 : decode cX5_findSoonest 37 = .ok (.iconst 1, 1) := by decide +kernel
theorem dX5_findSoonest_38 : decode cX5_findSoonest 38 = .ok (.isub, 1) := by decide +kernel
theorem dX5_findSoonest_39 : decode cX5_findSoonest 39 = .ok (.istore 5, 2) := by decide +kernel
theorem dX5_findSoonest_41 : decode cX5_findSoonest 41 = .ok (.iload 5, 2) := by decide +kernel
theorem dX5_findSoonest_43 : decode cX5_findSoonest 43 = .ok (.ifCond .lt 78, 3) := by decide +kernel
theorem dX5_findSoonest_46 : decode cX5_findSoonest 46 = .ok (.bipush 100, 2) := by decide +kernel
theorem dX5_findSoonest_48 : decode cX5_findSoonest 48 = .ok (.iload 5, 2) := by decide +kernel
theorem dX5_findSoonest_50 : decode cX5_findSoonest 50 = .ok (.bipush 41, 2) := by decide +kernel
theorem dX5_findSoonest_52 : decode cX5_findSoonest 52 = .ok (.imul, 1) := by decide +kernel
theorem dX5_findSoonest_53 : decode cX5_findSoonest 53 = .ok (.iadd, 1) := by decide +kernel
theorem dX5_findSoonest_54 : decode cX5_findSoonest 54 = .ok (.istore 6, 2) := by decide +kernel
theorem dX5_findSoonest_56 : decode cX5_findSoonest 56 = .ok (.aload_n 0, 1) := by decide +kernel
theorem dX5_findSoonest_57 : decode cX5_findSoonest 57 = .ok (.aload_n 1, 1) := by decide +kernel
theorem dX5_findSoonest_58 : decode cX5_findSoonest 58 = .ok (.getfield 29, 3) := by decide +kernel
theorem dX5_findSoonest_61 : decode cX5_findSoonest 61 = .ok (.iload 5, 2) := by decide +kernel
theorem dX5_findSoonest_63 : decode cX5_findSoonest 63 = .ok (.aaload, 1) := by decide +kernel
theorem dX5_findSoonest_64 : decode cX5_findSoonest 64 = .ok (.iload_n 3, 1) := by decide +kernel
theorem dX5_findSoonest_65 : decode cX5_findSoonest 65 = .ok (.iload 6, 2) := by decide +kernel
theorem dX5_findSoonest_67 : decode cX5_findSoonest 67 = .ok (.bipush 41, 2) := by decide +kernel
theorem dX5_findSoonest_69 : decode cX5_findSoonest 69 = .ok (.iadd, 1) := by decide +kernel
theorem dX5_findSoonest_70 : decode cX5_findSoonest 70 = .ok (.invokevirtual 33, 3) := by decide +kernel
theorem dX5_findSoonest_73 : decode cX5_findSoonest 73 = .ok (.iconst 0, 1) := by decide +kernel
theorem dX5_findSoonest_74 : decode cX5_findSoonest 74 = .ok (.istore 7, 2) := by decide +kernel
theorem dX5_findSoonest_76 : decode cX5_findSoonest 76 = .ok (.iload 7, 2) := by decide +kernel
theorem dX5_findSoonest_78 : decode cX5_findSoonest 78 = .ok (.iload 6, 2) := by decide +kernel
theorem dX5_findSoonest_80 : decode cX5_findSoonest 80 = .ok (.if_icmp .ge 35, 3) := by decide +kernel
theorem dX5_findSoonest_83 : decode cX5_findSoonest 83 = .ok (.aload_n 0, 1) := by decide +kernel
theorem dX5_findSoonest_84 : decode cX5_findSoonest 84 = .ok (.getfield 11, 3) := by decide +kernel
theorem dX5_findSoonest_87 : decode cX5_findSoonest 87 = .ok (.iload 5, 2) := by decide +kernel
theorem dX5_findSoonest_89 : decode cX5_findSoonest 89 = .ok (.aaload, 1) := by decide +kernel
theorem dX5_findSoonest_90 : decode cX5_findSoonest 90 = .ok (.iload 7, 2) := by decide +kernel
theorem dX5_findSoonest_92 : decode cX5_findSoonest 92 = .ok (.aload_n 0, 1) := by decide +kernel
theorem dX5_findSoonest_93 : decode cX5_findSoonest 93 = .ok (.aload_n 1, 1) := by decide +kernel
theorem dX5_findSoonest_94 : decode cX5_findSoonest 94 = .ok (.getfield 29, 3) := by decide +kernel
theorem dX5_findSoonest_97 : decode cX5_findSoonest 97 = .ok (.iload 5, 2) := by decide +kernel
theorem dX5_findSoonest_99 : decode cX5_findSoonest 99 = .ok (.aaload, 1) := by decide +kernel
theorem dX5_findSoonest_100 : decode cX5_findSoonest 100 = .ok (.aload_n 2, 1) := by decide +kernel
theorem dX5_findSoonest_101 : decode cX5_findSoonest 101 = .ok (.iload 5, 2) := by decide +kernel
theorem dX5_findSoonest_103 : decode cX5_findSoonest 103 = .ok (.iload 7, 2) := by decide +kernel
theorem dX5_findSoonest_105 : decode cX5_findSoonest 105 = .ok (.invokevirtual 37, 3) := by decide +kernel
theorem dX5_findSoonest_108 : decode cX5_findSoonest 108 = .ok (.iastore, 1) := by decide +kernel
theorem dX5_findSoonest_109 : decode cX5_findSoonest 109 = .ok (.iinc 7 1, 3) := by decide +kernel
theorem dX5_findSoonest_112 : decode cX5_findSoonest 112 = .ok (.goto (-36), 3) := by decide +kernel
theorem dX5_findSoonest_115 : decode cX5_findSoonest 115 = .ok (.iinc 5 (-1), 3) := by decide +kernel
theorem dX5_findSoonest_118 : decode cX5_findSoonest 118 = .ok (.goto (-77), 3) := by decide +kernel
theorem dX5_findSoonest_121 : decode cX5_findSoonest 121 = .ok (.aload_n 0, 1) := by decide +kernel
theorem dX5_findSoonest_122 : decode cX5_findSoonest 122 = .ok (.ldc 41, 2) := by decide +kernel
theorem dX5_findSoonest_124 : decode cX5_findSoonest 124 = .ok (.putfield 42, 3) := by decide +kernel
theorem dX5_findSoonest_127 : decode cX5_findSoonest 127 = .ok (.iconst 0, 1) := by decide +kernel
theorem dX5_findSoonest_128 : decode cX5_findSoonest 128 = .ok (.istore 5, 2) := by decide +kernel
theorem dX5_findSoonest_130 : decode cX5_findSoonest 130 = .ok (.iload 5, 2) := by decide +kernel
theorem dX5_findSoonest_132 : decode cX5_findSoonest 132 = .ok (.bipush 100, 2) := by decide +kernel
theorem dX5_findSoonest_134 : decode cX5_findSoonest 134 = .ok (.if_icmp .ge 58, 3) := by decide +kernel
theorem dX5_findSoonest_137 : decode cX5_findSoonest 137 = .ok (.aload_n 0, 1) := by decide +kernel
theorem dX5_findSoonest_138 : decode cX5_findSoonest 138 = .ok (.getfield 11, 3) := by decide +kernel
theorem dX5_findSoonest_141 : decode cX5_findSoonest 141 = .ok (.iconst 0, 1) := by decide +kernel
theorem dX5_findSoonest_142 : decode cX5_findSoonest 142 = .ok (.aaload, 1) := by decide +kernel
theorem dX5_findSoonest_143 : decode cX5_findSoonest 143 = .ok (.iload 5, 2) := by decide +kernel
theorem dX5_findSoonest_145 : decode cX5_findSoonest 145 = .ok (.iaload, 1) := by decide +kernel
theorem dX5_findSoonest_146 : decode cX5_findSoonest 146 = .ok (.aload_n 0, 1) := by decide +kernel
theorem dX5_findSoonest_147 : decode cX5_findSoonest 147 = .ok (.getfield 42, 3) := by decide +kernel
theorem dX5_findSoonest_150 : decode cX5_findSoonest 150 = .ok (.if_icmp .gt 36, 3) := by decide +kernel
theorem dX5_findSoonest_153 : decode cX5_findSoonest 153 = .ok (.aload_n 0, 1) := by decide +kernel
theorem dX5_findSoonest_154 : decode cX5_findSoonest 154 = .ok (.getfield 11, 3) := by decide +kernel
theorem dX5_findSoonest_157 : decode cX5_findSoonest 157 = .ok (.iconst 0, 1) := by decide +kernel
theorem dX5_findSoonest_158 : decode cX5_findSoonest 158 = .ok (.aaload, 1) := by decide +kernel
theorem dX5_findSoonest_159 : decode cX5_findSoonest 159 = .ok (.iload 5, 2) := by decide +kernel
theorem dX5_findSoonest_161 : decode cX5_findSoonest 161 = .ok (.iaload, 1) := by decide +kernel
theorem dX5_findSoonest_162 : decode cX5_findSoonest 162 = .ok (.ldc 41, 2) := by decide +kernel
theorem dX5_findSoonest_164 : decode cX5_findSoonest 164 = .ok (.if_icmp .eq 22, 3) := by decide +kernel
theorem dX5_findSoonest_167 : decode cX5_findSoonest 167 = .ok (.aload_n 0, 1) := by decide +kernel
theorem dX5_findSoonest_168 : decode cX5_findSoonest 168 = .ok (.aload_n 0, 1) := by decide +kernel
theorem dX5_findSoonest_169 : decode cX5_findSoonest 169 = .ok (.getfield 11, 3) := by decide +kernel
theorem dX5_findSoonest_172 : decode cX5_findSoonest 172 = .ok (.iconst 0, 1) := by decide +kernel
theorem dX5_findSoonest_173 : decode cX5_findSoonest 173 = .ok (.aaload, 1) := by decide +kernel
theorem dX5_findSoonest_174 : decode cX5_findSoonest 174 = .ok (.iload 5, 2) := by decide +kernel
theorem dX5_findSoonest_176 : decode cX5_findSoonest 176 = .ok (.iaload, 1) := by decide +kernel
theorem dX5_findSoonest_177 : decode cX5_findSoonest 177 = .ok (.putfield 42, 3) := by decide +kernel
theorem dX5_findSoonest_180 : decode cX5_findSoonest 180 = .ok (.aload_n 0, 1) := by decide +kernel
theorem dX5_findSoonest_181 : decode cX5_findSoonest 181 = .ok (.iload 5, 2) := by decide +kernel
theorem dX5_findSoonest_183 : decode cX5_findSoonest 183 = .ok (.putfield 45, 3) := by decide +kernel
theorem dX5_findSoonest_186 : decode cX5_findSoonest 186 = .ok (.iinc 5 1, 3) := by decide +kernel
theorem dX5_findSoonest_189 : decode cX5_findSoonest 189 = .ok (.goto (-59), 3) := by decide +kernel
theorem dX5_findSoonest_192 : decode cX5_findSoonest 192 = .ok (.aload_n 0, 1) := by decide +kernel
theorem dX5_findSoonest_193 : decode cX5_findSoonest 193 = .ok (.getfield 42, 3) := by decide +kernel
theorem dX5_findSoonest_196 : decode cX5_findSoonest 196 = .ok (.ldc 41, 2) := by decide +kernel
theorem dX5_findSoonest_198 : decode cX5_findSoonest 198 = .ok (.if_icmp .eq 10, 3) := by decide +kernel
theorem dX5_findSoonest_201 : decode cX5_findSoonest 201 = .ok (.aload_n 0, 1) := by decide +kernel
theorem dX5_findSoonest_202 : decode cX5_findSoonest 202 = .ok (.aload_n 1, 1) := by decide +kernel
theorem dX5_findSoonest_203 : decode cX5_findSoonest 203 = .ok (.aload_n 2, 1) := by decide +kernel
theorem dX5_findSoonest_204 : decode cX5_findSoonest 204 = .ok (.iload_n 3, 1) := by decide +kernel
theorem dX5_findSoonest_205 : decode cX5_findSoonest 205 = .ok (.invokevirtual 48, 3) := by decide +kernel
theorem dX5_findSoonest_208 : decode cX5_findSoonest 208 = .ok (.return_, 1) := by decide +kernel
theorem dX5_measure_0 : decode cX5_measure 0 = .ok (.aload_n 0, 1) := by decide +kernel
theorem dX5_measure_1 : decode cX5_measure 1 = .ok (.getfield 16, 3) := by decide +kernel
theorem dX5_measure_4 : decode cX5_measure 4 = .ok (.iload_n 3, 1) := by decide +kernel
theorem dX5_measure_5 : decode cX5_measure 5 = .ok (.iconst 0, 1) := by decide +kernel
theorem dX5_measure_6 : decode cX5_measure 6 = .ok (.iastore, 1) := by decide +kernel
theorem dX5_measure_7 : decode cX5_measure 7 = .ok (.iload_n 3, 1) := by decide +kernel
theorem dX5_measure_8 : decode cX5_measure 8 = .ok (.iconst 1, 1) := by decide +kernel
theorem dX5_measure_9 : decode cX5_measure 9 = .ok (.isub, 1) := by decide +kernel
theorem dX5_measure_10 : decode cX5_measure 10 = .ok (.istore 4, 2) := by decide +kernel
theorem dX5_measure_12 : decode cX5_measure 12 = .ok (.iload 4, 2) := by decide +kernel
theorem dX5_measure_14 : decode cX5_measure 14 = .ok (.ifCond .lt 42, 3) := by decide +kernel
theorem dX5_measure_17 : decode cX5_measure 17 = .ok (.aload_n 0, 1) := by decide +kernel
theorem dX5_measure_18 : decode cX5_measure 18 = .ok (.getfield 16, 3) := by decide +kernel
theorem dX5_measure_21 : decode cX5_measure 21 = .ok (.iload 4, 2) := by decide +kernel
theorem dX5_measure_23 : decode cX5_measure 23 = .ok (.aload_n 1, 1) := by decide +kernel
theorem dX5_measure_24 : decode cX5_measure 24 = .ok (.iload_n 2, 1) := by decide +kernel
theorem dX5_measure_25 : decode cX5_measure 25 = .ok (.iload 4, 2) := by decide +kernel
theorem dX5_measure_27 : decode cX5_measure 27 = .ok (.iadd, 1) := by decide +kernel
theorem dX5_measure_28 : decode cX5_measure 28 = .ok (.invokevirtual 52, 3) := by decide +kernel
theorem dX5_measure_31 : decode cX5_measure 31 = .ok (.ifCond .eq 17, 3) := by decide +kernel
theorem dX5_measure_34 : decode cX5_measure 34 = .ok (.aload_n 0, 1) := by decide +kernel
theorem dX5_measure_35 : decode cX5_measure 35 = .ok (.getfield 16, 3) := by decide +kernel
theorem dX5_measure_38 : decode cX5_measure 38 = .ok (.iload 4, 2) := by decide +kernel
theorem dX5_measure_40 : decode cX5_measure 40 = .ok (.iconst 1, 1) := by decide +kernel
theorem dX5_measure_41 : decode cX5_measure 41 = .ok (.iadd, 1) := by decide +kernel
theorem dX5_measure_42 : decode cX5_measure 42 = .ok (.iaload, 1) := by decide +kernel
theorem dX5_measure_43 : decode cX5_measure 43 = .ok (.iconst 1, 1) := by decide +kernel
theorem dX5_measure_44 : decode cX5_measure 44 = .ok (.iadd, 1) := by decide +kernel
theorem dX5_measure_45 : decode cX5_measure 45 = .ok (.goto 4, 3) := by decide +kernel
theorem dX5_measure_48 : decode cX5_measure 48 = .ok (.iconst 0, 1) := by decide +kernel
theorem dX5_measure_49 : decode cX5_measure 49 = .ok (.iastore, 1) := by decide +kernel
theorem dX5_measure_50 : decode cX5_measure 50 = .ok (.iinc 4 (-1), 3) := by decide +kernel
theorem dX5_measure_53 : decode cX5_measure 53 = .ok (.goto (-41), 3) := by decide +kernel
theorem dX5_measure_56 : decode cX5_measure 56 = .ok (.return_, 1) := by decide +kernel
theorem dX5_behindBy_0 : decode cX5_behindBy 0 = .ok (.iload_n 3, 1) := by decide +kernel
theorem dX5_behindBy_1 : decode cX5_behindBy 1 = .ok (.aload_n 1, 1) := by decide +kernel
theorem dX5_behindBy_2 : decode cX5_behindBy 2 = .ok (.getfield 58, 3) := by decide +kernel
theorem dX5_behindBy_5 : decode cX5_behindBy 5 = .ok (.iload 4, 2) := by decide +kernel
theorem dX5_behindBy_7 : decode cX5_behindBy 7 = .ok (.invokestatic 61, 3) := by decide +kernel
theorem dX5_behindBy_10 : decode cX5_behindBy 10 = .ok (.iadd, 1) := by decide +kernel
theorem dX5_behindBy_11 : decode cX5_behindBy 11 = .ok (.istore 5, 2) := by decide +kernel
theorem dX5_behindBy_13 : decode cX5_behindBy 13 = .ok (.aload_n 2, 1) := by decide +kernel
theorem dX5_behindBy_14 : decode cX5_behindBy 14 = .ok (.invokevirtual 65, 3) := by decide +kernel
theorem dX5_behindBy_17 : decode cX5_behindBy 17 = .ok (.iload 4, 2) := by decide +kernel
theorem dX5_behindBy_19 : decode cX5_behindBy 19 = .ok (.invokestatic 61, 3) := by decide +kernel
theorem dX5_behindBy_22 : decode cX5_behindBy 22 = .ok (.istore 6, 2) := by decide +kernel
theorem dX5_behindBy_24 : decode cX5_behindBy 24 = .ok (.iload 5, 2) := by decide +kernel
theorem dX5_behindBy_26 : decode cX5_behindBy 26 = .ok (.iload 6, 2) := by decide +kernel
theorem dX5_behindBy_28 : decode cX5_behindBy 28 = .ok (.iadd, 1) := by decide +kernel
theorem dX5_behindBy_29 : decode cX5_behindBy 29 = .ok (.sipush 346, 3) := by decide +kernel
theorem dX5_behindBy_32 : decode cX5_behindBy 32 = .ok (.if_icmp .ge 23, 3) := by decide +kernel
theorem dX5_behindBy_35 : decode cX5_behindBy 35 = .ok (.aload_n 0, 1) := by decide +kernel
theorem dX5_behindBy_36 : decode cX5_behindBy 36 = .ok (.getfield 16, 3) := by decide +kernel
theorem dX5_behindBy_39 : decode cX5_behindBy 39 = .ok (.iload 5, 2) := by decide +kernel
theorem dX5_behindBy_41 : decode cX5_behindBy 41 = .ok (.iaload, 1) := by decide +kernel
theorem dX5_behindBy_42 : decode cX5_behindBy 42 = .ok (.iload 6, 2) := by decide +kernel
theorem dX5_behindBy_44 : decode cX5_behindBy 44 = .ok (.if_icmp .lt 11, 3) := by decide +kernel
theorem dX5_behindBy_47 : decode cX5_behindBy 47 = .ok (.iload 5, 2) := by decide +kernel
theorem dX5_behindBy_49 : decode cX5_behindBy 49 = .ok (.iload 6, 2) := by decide +kernel
theorem dX5_behindBy_51 : decode cX5_behindBy 51 = .ok (.iadd, 1) := by decide +kernel
theorem dX5_behindBy_52 : decode cX5_behindBy 52 = .ok (.goto 5, 3) := by decide +kernel
theorem dX5_behindBy_55 : decode cX5_behindBy 55 = .ok (.ldc 41, 2) := by decide +kernel
theorem dX5_behindBy_57 : decode cX5_behindBy 57 = .ok (.ireturn, 1) := by decide +kernel
theorem dX5_soonestEnd_0 : decode cX5_soonestEnd 0 = .ok (.ldc 41, 2) := by decide +kernel
theorem dX5_soonestEnd_2 : decode cX5_soonestEnd 2 = .ok (.istore 5, 2) := by decide +kernel
theorem dX5_soonestEnd_4 : decode cX5_soonestEnd 4 = .ok (.aload_n 2, 1) := by decide +kernel
theorem dX5_soonestEnd_5 : decode cX5_soonestEnd 5 = .ok (.invokevirtual 71, 3) := by decide +kernel
theorem dX5_soonestEnd_8 : decode cX5_soonestEnd 8 = .ok (.istore 6, 2) := by decide +kernel
theorem dX5_soonestEnd_10 : decode cX5_soonestEnd 10 = .ok (.iload 6, 2) := by decide +kernel
theorem dX5_soonestEnd_12 : decode cX5_soonestEnd 12 = .ok (.aload_n 2, 1) := by decide +kernel
theorem dX5_soonestEnd_13 : decode cX5_soonestEnd 13 = .ok (.invokevirtual 74, 3) := by decide +kernel
theorem dX5_soonestEnd_16 : decode cX5_soonestEnd 16 = .ok (.if_icmp .gt 46, 3) := by decide +kernel
theorem dX5_soonestEnd_19 : decode cX5_soonestEnd 19 = .ok (.aload_n 0, 1) := by decide +kernel
theorem dX5_soonestEnd_20 : decode cX5_soonestEnd 20 = .ok (.aload_n 1, 1) := by decide +kernel
theorem dX5_soonestEnd_21 : decode cX5_soonestEnd 21 = .ok (.aload_n 2, 1) := by decide +kernel
theorem dX5_soonestEnd_22 : decode cX5_soonestEnd 22 = .ok (.iload 4, 2) := by decide +kernel
theorem dX5_soonestEnd_24 : decode cX5_soonestEnd 24 = .ok (.iload 6, 2) := by decide +kernel
theorem dX5_soonestEnd_26 : decode cX5_soonestEnd 26 = .ok (.invokevirtual 77, 3) := by decide +kernel
theorem dX5_soonestEnd_29 : decode cX5_soonestEnd 29 = .ok (.istore 7, 2) := by decide +kernel
theorem dX5_soonestEnd_31 : decode cX5_soonestEnd 31 = .ok (.iload 7, 2) := by decide +kernel
theorem dX5_soonestEnd_33 : decode cX5_soonestEnd 33 = .ok (.ldc 41, 2) := by decide +kernel
theorem dX5_soonestEnd_35 : decode cX5_soonestEnd 35 = .ok (.if_icmp .eq 21, 3) := by decide +kernel
theorem dX5_soonestEnd_38 : decode cX5_soonestEnd 38 = .ok (.iload 5, 2) := by decide +kernel
theorem dX5_soonestEnd_40 : decode cX5_soonestEnd 40 = .ok (.aload_n 0, 1) := by decide +kernel
theorem dX5_soonestEnd_41 : decode cX5_soonestEnd 41 = .ok (.getfield 11, 3) := by decide +kernel
theorem dX5_soonestEnd_44 : decode cX5_soonestEnd 44 = .ok (.iload_n 3, 1) := by decide +kernel
theorem dX5_soonestEnd_45 : decode cX5_soonestEnd 45 = .ok (.iconst 1, 1) := by decide +kernel
theorem dX5_soonestEnd_46 : decode cX5_soonestEnd 46 = .ok (.iadd, 1) := by decide +kernel
theorem dX5_soonestEnd_47 : decode cX5_soonestEnd 47 = .ok (.aaload, 1) := by decide +kernel
theorem dX5_soonestEnd_48 : decode cX5_soonestEnd 48 = .ok (.iload 7, 2) := by decide +kernel
theorem dX5_soonestEnd_50 : decode cX5_soonestEnd 50 = .ok (.iaload, 1) := by decide +kernel
theorem dX5_soonestEnd_51 : decode cX5_soonestEnd 51 = .ok (.invokestatic 80, 3) := by decide +kernel
theorem dX5_soonestEnd_54 : decode cX5_soonestEnd 54 = .ok (.istore 5, 2) := by decide +kernel
theorem dX5_soonestEnd_56 : decode cX5_soonestEnd 56 = .ok (.iinc 6 1, 3) := by decide +kernel
theorem dX5_soonestEnd_59 : decode cX5_soonestEnd 59 = .ok (.goto (-49), 3) := by decide +kernel
theorem dX5_soonestEnd_62 : decode cX5_soonestEnd 62 = .ok (.iload 5, 2) := by decide +kernel
theorem dX5_soonestEnd_64 : decode cX5_soonestEnd 64 = .ok (.ireturn, 1) := by decide +kernel
theorem dX5_tellPaces_0 : decode cX5_tellPaces 0 = .ok (.aload_n 0, 1) := by decide +kernel
theorem dX5_tellPaces_1 : decode cX5_tellPaces 1 = .ok (.getfield 45, 3) := by decide +kernel
theorem dX5_tellPaces_4 : decode cX5_tellPaces 4 = .ok (.istore 4, 2) := by decide +kernel
theorem dX5_tellPaces_6 : decode cX5_tellPaces 6 = .ok (.iconst 0, 1) := by decide +kernel
theorem dX5_tellPaces_7 : decode cX5_tellPaces 7 = .ok (.istore 5, 2) := by decide +kernel
theorem dX5_tellPaces_9 : decode cX5_tellPaces 9 = .ok (.iload 5, 2) := by decide +kernel
theorem dX5_tellPaces_11 : decode cX5_tellPaces 11 = .ok (.aload_n 1, 1) := by decide +kernel
theorem dX5_tellPaces_12 : decode cX5_tellPaces 12 = .ok (.getfield 23, 3) := by decide +kernel
theorem dX5_tellPaces_15 : decode cX5_tellPaces 15 = .ok (.if_icmp .ge 94, 3) := by decide +kernel
theorem dX5_tellPaces_18 : decode cX5_tellPaces 18 = .ok (.aload_n 0, 1) := by decide +kernel
theorem dX5_tellPaces_19 : decode cX5_tellPaces 19 = .ok (.aload_n 1, 1) := by decide +kernel
theorem dX5_tellPaces_20 : decode cX5_tellPaces 20 = .ok (.getfield 29, 3) := by decide +kernel
theorem dX5_tellPaces_23 : decode cX5_tellPaces 23 = .ok (.iload 5, 2) := by decide +kernel
theorem dX5_tellPaces_25 : decode cX5_tellPaces 25 = .ok (.aaload, 1) := by decide +kernel
theorem dX5_tellPaces_26 : decode cX5_tellPaces 26 = .ok (.iload_n 3, 1) := by decide +kernel
theorem dX5_tellPaces_27 : decode cX5_tellPaces 27 = .ok (.bipush 100, 2) := by decide +kernel
theorem dX5_tellPaces_29 : decode cX5_tellPaces 29 = .ok (.iload 5, 2) := by decide +kernel
theorem dX5_tellPaces_31 : decode cX5_tellPaces 31 = .ok (.iconst 1, 1) := by decide +kernel
theorem dX5_tellPaces_32 : decode cX5_tellPaces 32 = .ok (.iadd, 1) := by decide +kernel
theorem dX5_tellPaces_33 : decode cX5_tellPaces 33 = .ok (.bipush 41, 2) := by decide +kernel
theorem dX5_tellPaces_35 : decode cX5_tellPaces 35 = .ok (.imul, 1) := by decide +kernel
theorem dX5_tellPaces_36 : decode cX5_tellPaces 36 = .ok (.iadd, 1) := by decide +kernel
theorem dX5_tellPaces_37 : decode cX5_tellPaces 37 = .ok (.invokevirtual 33, 3) := by decide +kernel
theorem dX5_tellPaces_40 : decode cX5_tellPaces 40 = .ok (.aload_n 0, 1) := by decide +kernel
theorem dX5_tellPaces_41 : decode cX5_tellPaces 41 = .ok (.getfield 20, 3) := by decide +kernel
theorem dX5_tellPaces_44 : decode cX5_tellPaces 44 = .ok (.iload 5, 2) := by decide +kernel
theorem dX5_tellPaces_46 : decode cX5_tellPaces 46 = .ok (.aload_n 0, 1) := by decide +kernel
theorem dX5_tellPaces_47 : decode cX5_tellPaces 47 = .ok (.aload_n 1, 1) := by decide +kernel
theorem dX5_tellPaces_48 : decode cX5_tellPaces 48 = .ok (.getfield 29, 3) := by decide +kernel
theorem dX5_tellPaces_51 : decode cX5_tellPaces 51 = .ok (.iload 5, 2) := by decide +kernel
theorem dX5_tellPaces_53 : decode cX5_tellPaces 53 = .ok (.aaload, 1) := by decide +kernel
theorem dX5_tellPaces_54 : decode cX5_tellPaces 54 = .ok (.aload_n 2, 1) := by decide +kernel
theorem dX5_tellPaces_55 : decode cX5_tellPaces 55 = .ok (.iload 5, 2) := by decide +kernel
theorem dX5_tellPaces_57 : decode cX5_tellPaces 57 = .ok (.iload 4, 2) := by decide +kernel
theorem dX5_tellPaces_59 : decode cX5_tellPaces 59 = .ok (.invokevirtual 85, 3) := by decide +kernel
theorem dX5_tellPaces_62 : decode cX5_tellPaces 62 = .ok (.iastore, 1) := by decide +kernel
theorem dX5_tellPaces_63 : decode cX5_tellPaces 63 = .ok (.iload 4, 2) := by decide +kernel
theorem dX5_tellPaces_65 : decode cX5_tellPaces 65 = .ok (.aload_n 1, 1) := by decide +kernel
theorem dX5_tellPaces_66 : decode cX5_tellPaces 66 = .ok (.getfield 29, 3) := by decide +kernel
theorem dX5_tellPaces_69 : decode cX5_tellPaces 69 = .ok (.iload 5, 2) := by decide +kernel
theorem dX5_tellPaces_71 : decode cX5_tellPaces 71 = .ok (.aaload, 1) := by decide +kernel
theorem dX5_tellPaces_72 : decode cX5_tellPaces 72 = .ok (.getfield 58, 3) := by decide +kernel
theorem dX5_tellPaces_75 : decode cX5_tellPaces 75 = .ok (.aload_n 0, 1) := by decide +kernel
theorem dX5_tellPaces_76 : decode cX5_tellPaces 76 = .ok (.getfield 20, 3) := by decide +kernel
theorem dX5_tellPaces_79 : decode cX5_tellPaces 79 = .ok (.iload 5, 2) := by decide +kernel
theorem dX5_tellPaces_81 : decode cX5_tellPaces 81 = .ok (.iaload, 1) := by decide +kernel
theorem dX5_tellPaces_82 : decode cX5_tellPaces 82 = .ok (.invokestatic 61, 3) := by decide +kernel
theorem dX5_tellPaces_85 : decode cX5_tellPaces 85 = .ok (.aload_n 2, 1) := by decide +kernel
theorem dX5_tellPaces_86 : decode cX5_tellPaces 86 = .ok (.invokevirtual 65, 3) := by decide +kernel
theorem dX5_tellPaces_89 : decode cX5_tellPaces 89 = .ok (.aload_n 0, 1) := by decide +kernel
theorem dX5_tellPaces_90 : decode cX5_tellPaces 90 = .ok (.getfield 20, 3) := by decide +kernel
theorem dX5_tellPaces_93 : decode cX5_tellPaces 93 = .ok (.iload 5, 2) := by decide +kernel
theorem dX5_tellPaces_95 : decode cX5_tellPaces 95 = .ok (.iaload, 1) := by decide +kernel
theorem dX5_tellPaces_96 : decode cX5_tellPaces 96 = .ok (.invokestatic 61, 3) := by decide +kernel
theorem dX5_tellPaces_99 : decode cX5_tellPaces 99 = .ok (.iadd, 1) := by decide +kernel
theorem dX5_tellPaces_100 : decode cX5_tellPaces 100 = .ok (.iadd, 1) := by decide +kernel
theorem dX5_tellPaces_101 : decode cX5_tellPaces 101 = .ok (.istore 4, 2) := by decide +kernel
theorem dX5_tellPaces_103 : decode cX5_tellPaces 103 = .ok (.iinc 5 1, 3) := by decide +kernel
theorem dX5_tellPaces_106 : decode cX5_tellPaces 106 = .ok (.goto (-97), 3) := by decide +kernel
theorem dX5_tellPaces_109 : decode cX5_tellPaces 109 = .ok (.return_, 1) := by decide +kernel
theorem dX5_firstPace_0 : decode cX5_firstPace 0 = .ok (.aload_n 2, 1) := by decide +kernel
theorem dX5_firstPace_1 : decode cX5_firstPace 1 = .ok (.invokevirtual 71, 3) := by decide +kernel
theorem dX5_firstPace_4 : decode cX5_firstPace 4 = .ok (.istore 5, 2) := by decide +kernel
theorem dX5_firstPace_6 : decode cX5_firstPace 6 = .ok (.iload 5, 2) := by decide +kernel
theorem dX5_firstPace_8 : decode cX5_firstPace 8 = .ok (.aload_n 2, 1) := by decide +kernel
theorem dX5_firstPace_9 : decode cX5_firstPace 9 = .ok (.invokevirtual 74, 3) := by decide +kernel
theorem dX5_firstPace_12 : decode cX5_firstPace 12 = .ok (.if_icmp .ge 49, 3) := by decide +kernel
theorem dX5_firstPace_15 : decode cX5_firstPace 15 = .ok (.aload_n 0, 1) := by decide +kernel
theorem dX5_firstPace_16 : decode cX5_firstPace 16 = .ok (.aload_n 1, 1) := by decide +kernel
theorem dX5_firstPace_17 : decode cX5_firstPace 17 = .ok (.aload_n 2, 1) := by decide +kernel
theorem dX5_firstPace_18 : decode cX5_firstPace 18 = .ok (.iload 4, 2) := by decide +kernel
theorem dX5_firstPace_20 : decode cX5_firstPace 20 = .ok (.iload 5, 2) := by decide +kernel
theorem dX5_firstPace_22 : decode cX5_firstPace 22 = .ok (.invokevirtual 77, 3) := by decide +kernel
theorem dX5_firstPace_25 : decode cX5_firstPace 25 = .ok (.istore 6, 2) := by decide +kernel
theorem dX5_firstPace_27 : decode cX5_firstPace 27 = .ok (.iload 6, 2) := by decide +kernel
theorem dX5_firstPace_29 : decode cX5_firstPace 29 = .ok (.ldc 41, 2) := by decide +kernel
theorem dX5_firstPace_31 : decode cX5_firstPace 31 = .ok (.if_icmp .eq 24, 3) := by decide +kernel
theorem dX5_firstPace_34 : decode cX5_firstPace 34 = .ok (.aload_n 0, 1) := by decide +kernel
theorem dX5_firstPace_35 : decode cX5_firstPace 35 = .ok (.getfield 11, 3) := by decide +kernel
theorem dX5_firstPace_38 : decode cX5_firstPace 38 = .ok (.iload_n 3, 1) := by decide +kernel
theorem dX5_firstPace_39 : decode cX5_firstPace 39 = .ok (.iconst 1, 1) := by decide +kernel
theorem dX5_firstPace_40 : decode cX5_firstPace 40 = .ok (.iadd, 1) := by decide +kernel
theorem dX5_firstPace_41 : decode cX5_firstPace 41 = .ok (.aaload, 1) := by decide +kernel
theorem dX5_firstPace_42 : decode cX5_firstPace 42 = .ok (.iload 6, 2) := by decide +kernel
theorem dX5_firstPace_44 : decode cX5_firstPace 44 = .ok (.iaload, 1) := by decide +kernel
theorem dX5_firstPace_45 : decode cX5_firstPace 45 = .ok (.aload_n 0, 1) := by decide +kernel
theorem dX5_firstPace_46 : decode cX5_firstPace 46 = .ok (.getfield 42, 3) := by decide +kernel
theorem dX5_firstPace_49 : decode cX5_firstPace 49 = .ok (.if_icmp .ne 6, 3) := by decide +kernel
theorem dX5_firstPace_52 : decode cX5_firstPace 52 = .ok (.iload 5, 2) := by decide +kernel
theorem dX5_firstPace_54 : decode cX5_firstPace 54 = .ok (.ireturn, 1) := by decide +kernel
theorem dX5_firstPace_55 : decode cX5_firstPace 55 = .ok (.iinc 5 1, 3) := by decide +kernel
theorem dX5_firstPace_58 : decode cX5_firstPace 58 = .ok (.goto (-52), 3) := by decide +kernel
theorem dX5_firstPace_61 : decode cX5_firstPace 61 = .ok (.aload_n 2, 1) := by decide +kernel
theorem dX5_firstPace_62 : decode cX5_firstPace 62 = .ok (.invokevirtual 74, 3) := by decide +kernel
theorem dX5_firstPace_65 : decode cX5_firstPace 65 = .ok (.ireturn, 1) := by decide +kernel
theorem dX6_init_0 : decode cX6_init 0 = .ok (.aload_n 0, 1) := by decide +kernel
theorem dX6_init_1 : decode cX6_init 1 = .ok (.invokespecial 1, 3) := by decide +kernel
theorem dX6_init_4 : decode cX6_init 4 = .ok (.aload_n 0, 1) := by decide +kernel
theorem dX6_init_5 : decode cX6_init 5 = .ok (.iconst 1, 1) := by decide +kernel
theorem dX6_init_6 : decode cX6_init 6 = .ok (.putfield 7, 3) := by decide +kernel
theorem dX6_init_9 : decode cX6_init 9 = .ok (.aload_n 0, 1) := by decide +kernel
theorem dX6_init_10 : decode cX6_init 10 = .ok (.iconst 1, 1) := by decide +kernel
theorem dX6_init_11 : decode cX6_init 11 = .ok (.putfield 13, 3) := by decide +kernel
theorem dX6_init_14 : decode cX6_init 14 = .ok (.return_, 1) := by decide +kernel
theorem dX6_become_0 : decode cX6_become 0 = .ok (.aload_n 0, 1) := by decide +kernel
theorem dX6_become_1 : decode cX6_become 1 = .ok (.iload_n 1, 1) := by decide +kernel
theorem dX6_become_2 : decode cX6_become 2 = .ok (.putfield 16, 3) := by decide +kernel
theorem dX6_become_5 : decode cX6_become 5 = .ok (.aload_n 0, 1) := by decide +kernel
theorem dX6_become_6 : decode cX6_become 6 = .ok (.iload_n 2, 1) := by decide +kernel
theorem dX6_become_7 : decode cX6_become 7 = .ok (.putfield 7, 3) := by decide +kernel
theorem dX6_become_10 : decode cX6_become 10 = .ok (.aload_n 0, 1) := by decide +kernel
theorem dX6_become_11 : decode cX6_become 11 = .ok (.iload_n 3, 1) := by decide +kernel
theorem dX6_become_12 : decode cX6_become 12 = .ok (.putfield 13, 3) := by decide +kernel
theorem dX6_become_15 : decode cX6_become 15 = .ok (.return_, 1) := by decide +kernel
theorem dX6_take_0 : decode cX6_take 0 = .ok (.aload_n 0, 1) := by decide +kernel
theorem dX6_take_1 : decode cX6_take 1 = .ok (.aload_n 1, 1) := by decide +kernel
theorem dX6_take_2 : decode cX6_take 2 = .ok (.getfield 16, 3) := by decide +kernel
theorem dX6_take_5 : decode cX6_take 5 = .ok (.aload_n 1, 1) := by decide +kernel
theorem dX6_take_6 : decode cX6_take 6 = .ok (.getfield 7, 3) := by decide +kernel
theorem dX6_take_9 : decode cX6_take 9 = .ok (.aload_n 1, 1) := by decide +kernel
theorem dX6_take_10 : decode cX6_take 10 = .ok (.getfield 13, 3) := by decide +kernel
theorem dX6_take_13 : decode cX6_take 13 = .ok (.invokevirtual 19, 3) := by decide +kernel
theorem dX6_take_16 : decode cX6_take 16 = .ok (.return_, 1) := by decide +kernel
theorem dX6_low_0 : decode cX6_low 0 = .ok (.aload_n 0, 1) := by decide +kernel
theorem dX6_low_1 : decode cX6_low 1 = .ok (.getfield 16, 3) := by decide +kernel
theorem dX6_low_4 : decode cX6_low 4 = .ok (.iconst 2, 1) := by decide +kernel
theorem dX6_low_5 : decode cX6_low 5 = .ok (.if_icmp .ne 10, 3) := by decide +kernel
theorem dX6_low_8 : decode cX6_low 8 = .ok (.aload_n 0, 1) := by decide +kernel
theorem dX6_low_9 : decode cX6_low 9 = .ok (.invokevirtual 23, 3) := by decide +kernel
theorem dX6_low_12 : decode cX6_low 12 = .ok (.goto 4, 3) := by decide +kernel
theorem dX6_low_15 : decode cX6_low 15 = .ok (.iconst 1, 1) := by decide +kernel
theorem dX6_low_16 : decode cX6_low 16 = .ok (.ireturn, 1) := by decide +kernel
theorem dX6_high_0 : decode cX6_high 0 = .ok (.aload_n 0, 1) := by decide +kernel
theorem dX6_high_1 : decode cX6_high 1 = .ok (.getfield 16, 3) := by decide +kernel
theorem dX6_high_4 : decode cX6_high 4 = .ok (.iconst 1, 1) := by decide +kernel
theorem dX6_high_5 : decode cX6_high 5 = .ok (.if_icmp .eq 11, 3) := by decide +kernel
theorem dX6_high_8 : decode cX6_high 8 = .ok (.aload_n 0, 1) := by decide +kernel
theorem dX6_high_9 : decode cX6_high 9 = .ok (.getfield 16, 3) := by decide +kernel
theorem dX6_high_12 : decode cX6_high 12 = .ok (.iconst 3, 1) := by decide +kernel
theorem dX6_high_13 : decode cX6_high 13 = .ok (.if_icmp .ne 7, 3) := by decide +kernel
theorem dX6_high_16 : decode cX6_high 16 = .ok (.iconst 1, 1) := by decide +kernel
theorem dX6_high_17 : decode cX6_high 17 = .ok (.goto 4, 3) := by decide +kernel
theorem dX6_high_20 : decode cX6_high 20 = .ok (.iconst 0, 1) := by decide +kernel
theorem dX6_high_21 : decode cX6_high 21 = .ok (.istore_n 1, 1) := by decide +kernel
theorem dX6_high_22 : decode cX6_high 22 = .ok (.iload_n 1, 1) := by decide +kernel
theorem dX6_high_23 : decode cX6_high 23 = .ok (.ifCond .eq 15, 3) := by decide +kernel
theorem dX6_high_26 : decode cX6_high 26 = .ok (.aload_n 0, 1) := by decide +kernel
theorem dX6_high_27 : decode cX6_high 27 = .ok (.getfield 13, 3) := by decide +kernel
theorem dX6_high_30 : decode cX6_high 30 = .ok (.iconst 2, 1) := by decide +kernel
theorem dX6_high_31 : decode cX6_high 31 = .ok (.if_icmp .le 7, 3) := by decide +kernel
theorem dX6_high_34 : decode cX6_high 34 = .ok (.iconst 2, 1) := by decide +kernel
theorem dX6_high_35 : decode cX6_high 35 = .ok (.goto 7, 3) := by decide +kernel
theorem dX6_high_38 : decode cX6_high 38 = .ok (.aload_n 0, 1) := by decide +kernel
theorem dX6_high_39 : decode cX6_high 39 = .ok (.getfield 13, 3) := by decide +kernel
theorem dX6_high_42 : decode cX6_high 42 = .ok (.ireturn, 1) := by decide +kernel
theorem dX6_span_0 : decode cX6_span 0 = .ok (.aload_n 0, 1) := by decide +kernel
theorem dX6_span_1 : decode cX6_span 1 = .ok (.getfield 16, 3) := by decide +kernel
theorem dX6_span_4 : decode cX6_span 4 = .ok (.iconst 3, 1) := by decide +kernel
theorem dX6_span_5 : decode cX6_span 5 = .ok (.if_icmp .ne 12, 3) := by decide +kernel
theorem dX6_span_8 : decode cX6_span 8 = .ok (.aload_n 0, 1) := by decide +kernel
theorem dX6_span_9 : decode cX6_span 9 = .ok (.getfield 7, 3) := by decide +kernel
theorem dX6_span_12 : decode cX6_span 12 = .ok (.iconst 2, 1) := by decide +kernel
theorem dX6_span_13 : decode cX6_span 13 = .ok (.iadd, 1) := by decide +kernel
theorem dX6_span_14 : decode cX6_span 14 = .ok (.goto 7, 3) := by decide +kernel
theorem dX6_span_17 : decode cX6_span 17 = .ok (.aload_n 0, 1) := by decide +kernel
theorem dX6_span_18 : decode cX6_span 18 = .ok (.getfield 7, 3) := by decide +kernel
theorem dX6_span_21 : decode cX6_span 21 = .ok (.ireturn, 1) := by decide +kernel
theorem dX7_init_0 : decode cX7_init 0 = .ok (.aload_n 0, 1) := by decide +kernel
theorem dX7_init_1 : decode cX7_init 1 = .ok (.invokespecial 3, 3) := by decide +kernel
theorem dX7_init_4 : decode cX7_init 4 = .ok (.aload_n 0, 1) := by decide +kernel
theorem dX7_init_5 : decode cX7_init 5 = .ok (.bipush 100, 2) := by decide +kernel
theorem dX7_init_7 : decode cX7_init 7 = .ok (.newarray .char, 2) := by decide +kernel
theorem dX7_init_9 : decode cX7_init 9 = .ok (.putfield 9, 3) := by decide +kernel
theorem dX7_init_12 : decode cX7_init 12 = .ok (.aload_n 0, 1) := by decide +kernel
theorem dX7_init_13 : decode cX7_init 13 = .ok (.bipush 6, 2) := by decide +kernel
theorem dX7_init_15 : decode cX7_init 15 = .ok (.anewarray 15, 3) := by decide +kernel
theorem dX7_init_18 : decode cX7_init 18 = .ok (.putfield 17, 3) := by decide +kernel
theorem dX7_init_21 : decode cX7_init 21 = .ok (.aload_n 0, 1) := by decide +kernel
theorem dX7_init_22 : decode cX7_init 22 = .ok (.iconst 5, 1) := by decide +kernel
theorem dX7_init_23 : decode cX7_init 23 = .ok (.anewarray 21, 3) := by decide +kernel
theorem dX7_init_26 : decode cX7_init 26 = .ok (.putfield 23, 3) := by decide +kernel
theorem dX7_init_29 : decode cX7_init 29 = .ok (.iconst 0, 1) := by decide +kernel
theorem dX7_init_30 : decode cX7_init 30 = .ok (.istore_n 1, 1) := by decide +kernel
theorem dX7_init_31 : decode cX7_init 31 = .ok (.iload_n 1, 1) := by decide +kernel
theorem dX7_init_32 : decode cX7_init 32 = .ok (.bipush 6, 2) := by decide +kernel
theorem dX7_init_34 : decode cX7_init 34 = .ok (.if_icmp .ge 22, 3) := by decide +kernel
theorem dX7_init_37 : decode cX7_init 37 = .ok (.aload_n 0, 1) := by decide +kernel
theorem dX7_init_38 : decode cX7_init 38 = .ok (.getfield 17, 3) := by decide +kernel
theorem dX7_init_41 : decode cX7_init 41 = .ok (.iload_n 1, 1) := by decide +kernel
theorem dX7_init_42 : decode cX7_init 42 = .ok (.new 15, 3) := by decide +kernel
theorem dX7_init_45 : decode cX7_init 45 = .ok (.dup, 1) := by decide +kernel
theorem dX7_init_46 : decode cX7_init 46 = .ok (.invokespecial 27, 3) := by decide +kernel
theorem dX7_init_49 : decode cX7_init 49 = .ok (.aastore, 1) := by decide +kernel
theorem dX7_init_50 : decode cX7_init 50 = .ok (.iinc 1 1, 3) := by decide +kernel
theorem dX7_init_53 : decode cX7_init 53 = .ok (.goto (-22), 3) := by decide +kernel
theorem dX7_init_56 : decode cX7_init 56 = .ok (.iconst 0, 1) := by decide +kernel
theorem dX7_init_57 : decode cX7_init 57 = .ok (.istore_n 1, 1) := by decide +kernel
theorem dX7_init_58 : decode cX7_init 58 = .ok (.iload_n 1, 1) := by decide +kernel
theorem dX7_init_59 : decode cX7_init 59 = .ok (.iconst 5, 1) := by decide +kernel
theorem dX7_init_60 : decode cX7_init 60 = .ok (.if_icmp .ge 22, 3) := by decide +kernel
theorem dX7_init_63 : decode cX7_init 63 = .ok (.aload_n 0, 1) := by decide +kernel
theorem dX7_init_64 : decode cX7_init 64 = .ok (.getfield 23, 3) := by decide +kernel
theorem dX7_init_67 : decode cX7_init 67 = .ok (.iload_n 1, 1) := by decide +kernel
theorem dX7_init_68 : decode cX7_init 68 = .ok (.new 21, 3) := by decide +kernel
theorem dX7_init_71 : decode cX7_init 71 = .ok (.dup, 1) := by decide +kernel
theorem dX7_init_72 : decode cX7_init 72 = .ok (.invokespecial 28, 3) := by decide +kernel
theorem dX7_init_75 : decode cX7_init 75 = .ok (.aastore, 1) := by decide +kernel
theorem dX7_init_76 : decode cX7_init 76 = .ok (.iinc 1 1, 3) := by decide +kernel
theorem dX7_init_79 : decode cX7_init 79 = .ok (.goto (-21), 3) := by decide +kernel
theorem dX7_init_82 : decode cX7_init 82 = .ok (.return_, 1) := by decide +kernel
theorem dX7_add_0 : decode cX7_add 0 = .ok (.aload_n 0, 1) := by decide +kernel
theorem dX7_add_1 : decode cX7_add 1 = .ok (.getfield 29, 3) := by decide +kernel
theorem dX7_add_4 : decode cX7_add 4 = .ok (.bipush 100, 2) := by decide +kernel
theorem dX7_add_6 : decode cX7_add 6 = .ok (.if_icmp .lt 5, 3) := by decide +kernel
theorem dX7_add_9 : decode cX7_add 9 = .ok (.iconst 0, 1) := by decide +kernel
theorem dX7_add_10 : decode cX7_add 10 = .ok (.ireturn, 1) := by decide +kernel
theorem dX7_add_11 : decode cX7_add 11 = .ok (.aload_n 0, 1) := by decide +kernel
theorem dX7_add_12 : decode cX7_add 12 = .ok (.getfield 9, 3) := by decide +kernel
theorem dX7_add_15 : decode cX7_add 15 = .ok (.aload_n 0, 1) := by decide +kernel
theorem dX7_add_16 : decode cX7_add 16 = .ok (.getfield 29, 3) := by decide +kernel
theorem dX7_add_19 : decode cX7_add 19 = .ok (.iload_n 1, 1) := by decide +kernel
theorem dX7_add_20 : decode cX7_add 20 = .ok (.castore, 1) := by decide +kernel
theorem dX7_add_21 : decode cX7_add 21 = .ok (.aload_n 0, 1) := by decide +kernel
theorem dX7_add_22 : decode cX7_add 22 = .ok (.dup, 1) := by decide +kernel
theorem dX7_add_23 : decode cX7_add 23 = .ok (.getfield 29, 3) := by decide +kernel
theorem dX7_add_26 : decode cX7_add 26 = .ok (.iconst 1, 1) := by decide +kernel
theorem dX7_add_27 : decode cX7_add 27 = .ok (.iadd, 1) := by decide +kernel
theorem dX7_add_28 : decode cX7_add 28 = .ok (.putfield 29, 3) := by decide +kernel
theorem dX7_add_31 : decode cX7_add 31 = .ok (.iconst 1, 1) := by decide +kernel
theorem dX7_add_32 : decode cX7_add 32 = .ok (.ireturn, 1) := by decide +kernel
theorem dX7_isStrait_0 : decode cX7_isStrait 0 = .ok (.aload_n 0, 1) := by decide +kernel
theorem dX7_isStrait_1 : decode cX7_isStrait 1 = .ok (.iconst 0, 1) := by decide +kernel
theorem dX7_isStrait_2 : decode cX7_isStrait 2 = .ok (.putfield 33, 3) := by decide +kernel
theorem dX7_isStrait_5 : decode cX7_isStrait 5 = .ok (.aload_n 0, 1) := by decide +kernel
theorem dX7_isStrait_6 : decode cX7_isStrait 6 = .ok (.iconst 0, 1) := by decide +kernel
theorem dX7_isStrait_7 : decode cX7_isStrait 7 = .ok (.putfield 36, 3) := by decide +kernel
theorem dX7_isStrait_10 : decode cX7_isStrait 10 = .ok (.aload_n 0, 1) := by decide +kernel
theorem dX7_isStrait_11 : decode cX7_isStrait 11 = .ok (.iconst 0, 1) := by decide +kernel
theorem dX7_isStrait_12 : decode cX7_isStrait 12 = .ok (.putfield 39, 3) := by decide +kernel
theorem dX7_isStrait_15 : decode cX7_isStrait 15 = .ok (.iconst 1, 1) := by decide +kernel
theorem dX7_isStrait_16 : decode cX7_isStrait 16 = .ok (.istore_n 1, 1) := by decide +kernel
theorem dX7_isStrait_17 : decode cX7_isStrait 17 = .ok (.iload_n 1, 1) := by decide +kernel
theorem dX7_isStrait_18 : decode cX7_isStrait 18 = .ok (.ifCond .eq 67, 3) := by decide +kernel
theorem dX7_isStrait_21 : decode cX7_isStrait 21 = .ok (.aload_n 0, 1) := by decide +kernel
theorem dX7_isStrait_22 : decode cX7_isStrait 22 = .ok (.getfield 36, 3) := by decide +kernel
theorem dX7_isStrait_25 : decode cX7_isStrait 25 = .ok (.bipush 6, 2) := by decide +kernel
theorem dX7_isStrait_27 : decode cX7_isStrait 27 = .ok (.if_icmp .ge 58, 3) := by decide +kernel
theorem dX7_isStrait_30 : decode cX7_isStrait 30 = .ok (.aload_n 0, 1) := by decide +kernel
theorem dX7_isStrait_31 : decode cX7_isStrait 31 = .ok (.aload_n 0, 1) := by decide +kernel
theorem dX7_isStrait_32 : decode cX7_isStrait 32 = .ok (.getfield 17, 3) := by decide +kernel
theorem dX7_isStrait_35 : decode cX7_isStrait 35 = .ok (.aload_n 0, 1) := by decide +kernel
theorem dX7_isStrait_36 : decode cX7_isStrait 36 = .ok (.getfield 36, 3) := by decide +kernel
theorem dX7_isStrait_39 : decode cX7_isStrait 39 = .ok (.aaload, 1) := by decide +kernel
theorem dX7_isStrait_40 : decode cX7_isStrait 40 = .ok (.invokevirtual 42, 3) := by decide +kernel
theorem dX7_isStrait_43 : decode cX7_isStrait 43 = .ok (.ifCond .ne 5, 3) := by decide +kernel
theorem dX7_isStrait_46 : decode cX7_isStrait 46 = .ok (.iconst 0, 1) := by decide +kernel
theorem dX7_isStrait_47 : decode cX7_isStrait 47 = .ok (.ireturn, 1) := by decide +kernel
theorem dX7_isStrait_48 : decode cX7_isStrait 48 = .ok (.aload_n 0, 1) := by decide +kernel
theorem dX7_isStrait_49 : decode cX7_isStrait 49 = .ok (.dup, 1) := by decide +kernel
theorem dX7_isStrait_50 : decode cX7_isStrait 50 = .ok (.getfield 36, 3) := by decide +kernel
theorem dX7_isStrait_53 : decode cX7_isStrait 53 = .ok (.iconst 1, 1) := by decide +kernel
theorem dX7_isStrait_54 : decode cX7_isStrait 54 = .ok (.iadd, 1) := by decide +kernel
theorem dX7_isStrait_55 : decode cX7_isStrait 55 = .ok (.putfield 36, 3) := by decide +kernel
theorem dX7_isStrait_58 : decode cX7_isStrait 58 = .ok (.aload_n 0, 1) := by decide +kernel
theorem dX7_isStrait_59 : decode cX7_isStrait 59 = .ok (.getfield 36, 3) := by decide +kernel
theorem dX7_isStrait_62 : decode cX7_isStrait 62 = .ok (.bipush 6, 2) := by decide +kernel
theorem dX7_isStrait_64 : decode cX7_isStrait 64 = .ok (.if_icmp .ge 16, 3) := by decide +kernel
theorem dX7_isStrait_67 : decode cX7_isStrait 67 = .ok (.aload_n 0, 1) := by decide +kernel
theorem dX7_isStrait_68 : decode cX7_isStrait 68 = .ok (.bipush 44, 2) := by decide +kernel
theorem dX7_isStrait_70 : decode cX7_isStrait 70 = .ok (.invokevirtual 46, 3) := by decide +kernel
theorem dX7_isStrait_73 : decode cX7_isStrait 73 = .ok (.ifCond .eq 7, 3) := by decide +kernel
theorem dX7_isStrait_76 : decode cX7_isStrait 76 = .ok (.iconst 1, 1) := by decide +kernel
theorem dX7_isStrait_77 : decode cX7_isStrait 77 = .ok (.goto 4, 3) := by decide +kernel
theorem dX7_isStrait_80 : decode cX7_isStrait 80 = .ok (.iconst 0, 1) := by decide +kernel
theorem dX7_isStrait_81 : decode cX7_isStrait 81 = .ok (.istore_n 1, 1) := by decide +kernel
theorem dX7_isStrait_82 : decode cX7_isStrait 82 = .ok (.goto (-65), 3) := by decide +kernel
theorem dX7_isStrait_85 : decode cX7_isStrait 85 = .ok (.aload_n 0, 1) := by decide +kernel
theorem dX7_isStrait_86 : decode cX7_isStrait 86 = .ok (.bipush 59, 2) := by decide +kernel
theorem dX7_isStrait_88 : decode cX7_isStrait 88 = .ok (.invokevirtual 46, 3) := by decide +kernel
theorem dX7_isStrait_91 : decode cX7_isStrait 91 = .ok (.ifCond .eq 12, 3) := by decide +kernel
theorem dX7_isStrait_94 : decode cX7_isStrait 94 = .ok (.aload_n 0, 1) := by decide +kernel
theorem dX7_isStrait_95 : decode cX7_isStrait 95 = .ok (.invokevirtual 50, 3) := by decide +kernel
theorem dX7_isStrait_98 : decode cX7_isStrait 98 = .ok (.ifCond .ne 5, 3) := by decide +kernel
theorem dX7_isStrait_101 : decode cX7_isStrait 101 = .ok (.iconst 0, 1) := by decide +kernel
theorem dX7_isStrait_102 : decode cX7_isStrait 102 = .ok (.ireturn, 1) := by decide +kernel
theorem dX7_isStrait_103 : decode cX7_isStrait 103 = .ok (.aload_n 0, 1) := by decide +kernel
theorem dX7_isStrait_104 : decode cX7_isStrait 104 = .ok (.invokevirtual 54, 3) := by decide +kernel
theorem dX7_isStrait_107 : decode cX7_isStrait 107 = .ok (.ifCond .ne 7, 3) := by decide +kernel
theorem dX7_isStrait_110 : decode cX7_isStrait 110 = .ok (.iconst 1, 1) := by decide +kernel
theorem dX7_isStrait_111 : decode cX7_isStrait 111 = .ok (.goto 4, 3) := by decide +kernel
theorem dX7_isStrait_114 : decode cX7_isStrait 114 = .ok (.iconst 0, 1) := by decide +kernel
theorem dX7_isStrait_115 : decode cX7_isStrait 115 = .ok (.ireturn, 1) := by decide +kernel
theorem dX7_areShipsRead_0 : decode cX7_areShipsRead 0 = .ok (.iconst 1, 1) := by decide +kernel
theorem dX7_areShipsRead_1 : decode cX7_areShipsRead 1 = .ok (.istore_n 1, 1) := by decide +kernel
theorem dX7_areShipsRead_2 : decode cX7_areShipsRead 2 = .ok (.iload_n 1, 1) := by decide +kernel
theorem dX7_areShipsRead_3 : decode cX7_areShipsRead 3 = .ok (.ifCond .eq 65, 3) := by decide +kernel
theorem dX7_areShipsRead_6 : decode cX7_areShipsRead 6 = .ok (.aload_n 0, 1) := by decide +kernel
theorem dX7_areShipsRead_7 : decode cX7_areShipsRead 7 = .ok (.getfield 39, 3) := by decide +kernel
theorem dX7_areShipsRead_10 : decode cX7_areShipsRead 10 = .ok (.iconst 5, 1) := by decide +kernel
theorem dX7_areShipsRead_11 : decode cX7_areShipsRead 11 = .ok (.if_icmp .ge 57, 3) := by decide +kernel
theorem dX7_areShipsRead_14 : decode cX7_areShipsRead 14 = .ok (.aload_n 0, 1) := by decide +kernel
theorem dX7_areShipsRead_15 : decode cX7_areShipsRead 15 = .ok (.aload_n 0, 1) := by decide +kernel
theorem dX7_areShipsRead_16 : decode cX7_areShipsRead 16 = .ok (.getfield 23, 3) := by decide +kernel
theorem dX7_areShipsRead_19 : decode cX7_areShipsRead 19 = .ok (.aload_n 0, 1) := by decide +kernel
theorem dX7_areShipsRead_20 : decode cX7_areShipsRead 20 = .ok (.getfield 39, 3) := by decide +kernel
theorem dX7_areShipsRead_23 : decode cX7_areShipsRead 23 = .ok (.aaload, 1) := by decide +kernel
theorem dX7_areShipsRead_24 : decode cX7_areShipsRead 24 = .ok (.invokevirtual 58, 3) := by decide +kernel
theorem dX7_areShipsRead_27 : decode cX7_areShipsRead 27 = .ok (.ifCond .ne 5, 3) := by decide +kernel
theorem dX7_areShipsRead_30 : decode cX7_areShipsRead 30 = .ok (.iconst 0, 1) := by decide +kernel
theorem dX7_areShipsRead_31 : decode cX7_areShipsRead 31 = .ok (.ireturn, 1) := by decide +kernel
theorem dX7_areShipsRead_32 : decode cX7_areShipsRead 32 = .ok (.aload_n 0, 1) := by decide +kernel
theorem dX7_areShipsRead_33 : decode cX7_areShipsRead 33 = .ok (.dup, 1) := by decide +kernel
theorem dX7_areShipsRead_34 : decode cX7_areShipsRead 34 = .ok (.getfield 39, 3) := by decide +kernel
theorem dX7_areShipsRead_37 : decode cX7_areShipsRead 37 = .ok (.iconst 1, 1) := by decide +kernel
theorem dX7_areShipsRead_38 : decode cX7_areShipsRead 38 = .ok (.iadd, 1) := by decide +kernel
theorem dX7_areShipsRead_39 : decode cX7_areShipsRead 39 = .ok (.putfield 39, 3) := by decide +kernel
theorem dX7_areShipsRead_42 : decode cX7_areShipsRead 42 = .ok (.aload_n 0, 1) := by decide +kernel
theorem dX7_areShipsRead_43 : decode cX7_areShipsRead 43 = .ok (.getfield 39, 3) := by decide +kernel
theorem dX7_areShipsRead_46 : decode cX7_areShipsRead 46 = .ok (.iconst 5, 1) := by decide +kernel
theorem dX7_areShipsRead_47 : decode cX7_areShipsRead 47 = .ok (.if_icmp .ge 16, 3) := by decide +kernel
theorem dX7_areShipsRead_50 : decode cX7_areShipsRead 50 = .ok (.aload_n 0, 1) := by decide +kernel
theorem dX7_areShipsRead_51 : decode cX7_areShipsRead 51 = .ok (.bipush 44, 2) := by decide +kernel
theorem dX7_areShipsRead_53 : decode cX7_areShipsRead 53 = .ok (.invokevirtual 46, 3) := by decide +kernel
theorem dX7_areShipsRead_56 : decode cX7_areShipsRead 56 = .ok (.ifCond .eq 7, 3) := by decide +kernel
theorem dX7_areShipsRead_59 : decode cX7_areShipsRead 59 = .ok (.iconst 1, 1) := by decide +kernel
theorem dX7_areShipsRead_60 : decode cX7_areShipsRead 60 = .ok (.goto 4, 3) := by decide +kernel
theorem dX7_areShipsRead_63 : decode cX7_areShipsRead 63 = .ok (.iconst 0, 1) := by decide +kernel
theorem dX7_areShipsRead_64 : decode cX7_areShipsRead 64 = .ok (.istore_n 1, 1) := by decide +kernel
theorem dX7_areShipsRead_65 : decode cX7_areShipsRead 65 = .ok (.goto (-63), 3) := by decide +kernel
theorem dX7_areShipsRead_68 : decode cX7_areShipsRead 68 = .ok (.iconst 1, 1) := by decide +kernel
theorem dX7_areShipsRead_69 : decode cX7_areShipsRead 69 = .ok (.ireturn, 1) := by decide +kernel
theorem dX7_isPairRead_0 : decode cX7_isPairRead 0 = .ok (.aload_n 0, 1) := by decide +kernel
theorem dX7_isPairRead_1 : decode cX7_isPairRead 1 = .ok (.ldc 62, 2) := by decide +kernel
theorem dX7_isPairRead_3 : decode cX7_isPairRead 3 = .ok (.invokevirtual 64, 3) := by decide +kernel
theorem dX7_isPairRead_6 : decode cX7_isPairRead 6 = .ok (.istore_n 2, 1) := by decide +kernel
theorem dX7_isPairRead_7 : decode cX7_isPairRead 7 = .ok (.iload_n 2, 1) := by decide +kernel
theorem dX7_isPairRead_8 : decode cX7_isPairRead 8 = .ok (.ifCond .ge 7, 3) := by decide +kernel
theorem dX7_isPairRead_11 : decode cX7_isPairRead 11 = .ok (.iconst (-1), 1) := by decide +kernel
theorem dX7_isPairRead_12 : decode cX7_isPairRead 12 = .ok (.goto 10, 3) := by decide +kernel
theorem dX7_isPairRead_15 : decode cX7_isPairRead 15 = .ok (.aload_n 0, 1) := by decide +kernel
theorem dX7_isPairRead_16 : decode cX7_isPairRead 16 = .ok (.iconst 1, 1) := by decide +kernel
theorem dX7_isPairRead_17 : decode cX7_isPairRead 17 = .ok (.bipush 30, 2) := by decide +kernel
theorem dX7_isPairRead_19 : decode cX7_isPairRead 19 = .ok (.invokevirtual 68, 3) := by decide +kernel
theorem dX7_isPairRead_22 : decode cX7_isPairRead 22 = .ok (.istore_n 3, 1) := by decide +kernel
theorem dX7_isPairRead_23 : decode cX7_isPairRead 23 = .ok (.iload_n 3, 1) := by decide +kernel
theorem dX7_isPairRead_24 : decode cX7_isPairRead 24 = .ok (.ifCond .lt 12, 3) := by decide +kernel
theorem dX7_isPairRead_27 : decode cX7_isPairRead 27 = .ok (.aload_n 0, 1) := by decide +kernel
theorem dX7_isPairRead_28 : decode cX7_isPairRead 28 = .ok (.bipush 47, 2) := by decide +kernel
theorem dX7_isPairRead_30 : decode cX7_isPairRead 30 = .ok (.invokevirtual 46, 3) := by decide +kernel
theorem dX7_isPairRead_33 : decode cX7_isPairRead 33 = .ok (.ifCond .ne 5, 3) := by decide +kernel
theorem dX7_isPairRead_36 : decode cX7_isPairRead 36 = .ok (.iconst 0, 1) := by decide +kernel
theorem dX7_isPairRead_37 : decode cX7_isPairRead 37 = .ok (.ireturn, 1) := by decide +kernel
theorem dX7_isPairRead_38 : decode cX7_isPairRead 38 = .ok (.aload_n 0, 1) := by decide +kernel
theorem dX7_isPairRead_39 : decode cX7_isPairRead 39 = .ok (.iconst 2, 1) := by decide +kernel
theorem dX7_isPairRead_40 : decode cX7_isPairRead 40 = .ok (.bipush 24, 2) := by decide +kernel
theorem dX7_isPairRead_42 : decode cX7_isPairRead 42 = .ok (.invokevirtual 68, 3) := by decide +kernel
theorem dX7_isPairRead_45 : decode cX7_isPairRead 45 = .ok (.istore 4, 2) := by decide +kernel
theorem dX7_isPairRead_47 : decode cX7_isPairRead 47 = .ok (.iload 4, 2) := by decide +kernel
theorem dX7_isPairRead_49 : decode cX7_isPairRead 49 = .ok (.ifCond .lt 12, 3) := by decide +kernel
theorem dX7_isPairRead_52 : decode cX7_isPairRead 52 = .ok (.aload_n 0, 1) := by decide +kernel
theorem dX7_isPairRead_53 : decode cX7_isPairRead 53 = .ok (.bipush 47, 2) := by decide +kernel
theorem dX7_isPairRead_55 : decode cX7_isPairRead 55 = .ok (.invokevirtual 46, 3) := by decide +kernel
theorem dX7_isPairRead_58 : decode cX7_isPairRead 58 = .ok (.ifCond .ne 5, 3) := by decide +kernel
theorem dX7_isPairRead_61 : decode cX7_isPairRead 61 = .ok (.iconst 0, 1) := by decide +kernel
theorem dX7_isPairRead_62 : decode cX7_isPairRead 62 = .ok (.ireturn, 1) := by decide +kernel
theorem dX7_isPairRead_63 : decode cX7_isPairRead 63 = .ok (.aload_n 0, 1) := by decide +kernel
theorem dX7_isPairRead_64 : decode cX7_isPairRead 64 = .ok (.iconst 1, 1) := by decide +kernel
theorem dX7_isPairRead_65 : decode cX7_isPairRead 65 = .ok (.iload 4, 2) := by decide +kernel
theorem dX7_isPairRead_67 : decode cX7_isPairRead 67 = .ok (.invokevirtual 68, 3) := by decide +kernel
theorem dX7_isPairRead_70 : decode cX7_isPairRead 70 = .ok (.istore 5, 2) := by decide +kernel
theorem dX7_isPairRead_72 : decode cX7_isPairRead 72 = .ok (.iload 5, 2) := by decide +kernel
theorem dX7_isPairRead_74 : decode cX7_isPairRead 74 = .ok (.ifCond .ge 5, 3) := by decide +kernel
theorem dX7_isPairRead_77 : decode cX7_isPairRead 77 = .ok (.iconst 0, 1) := by decide +kernel
theorem dX7_isPairRead_78 : decode cX7_isPairRead 78 = .ok (.ireturn, 1) := by decide +kernel
theorem dX7_isPairRead_79 : decode cX7_isPairRead 79 = .ok (.aload_n 0, 1) := by decide +kernel
theorem dX7_isPairRead_80 : decode cX7_isPairRead 80 = .ok (.bipush 43, 2) := by decide +kernel
theorem dX7_isPairRead_82 : decode cX7_isPairRead 82 = .ok (.invokevirtual 46, 3) := by decide +kernel
theorem dX7_isPairRead_85 : decode cX7_isPairRead 85 = .ok (.ifCond .eq 15, 3) := by decide +kernel
theorem dX7_isPairRead_88 : decode cX7_isPairRead 88 = .ok (.aload_n 0, 1) := by decide +kernel
theorem dX7_isPairRead_89 : decode cX7_isPairRead 89 = .ok (.iconst 0, 1) := by decide +kernel
theorem dX7_isPairRead_90 : decode cX7_isPairRead 90 = .ok (.iload 4, 2) := by decide +kernel
theorem dX7_isPairRead_92 : decode cX7_isPairRead 92 = .ok (.iconst 1, 1) := by decide +kernel
theorem dX7_isPairRead_93 : decode cX7_isPairRead 93 = .ok (.isub, 1) := by decide +kernel
theorem dX7_isPairRead_94 : decode cX7_isPairRead 94 = .ok (.invokevirtual 68, 3) := by decide +kernel
theorem dX7_isPairRead_97 : decode cX7_isPairRead 97 = .ok (.goto 4, 3) := by decide +kernel
theorem dX7_isPairRead_100 : decode cX7_isPairRead 100 = .ok (.iconst 0, 1) := by decide +kernel
theorem dX7_isPairRead_101 : decode cX7_isPairRead 101 = .ok (.istore 6, 2) := by decide +kernel
theorem dX7_isPairRead_103 : decode cX7_isPairRead 103 = .ok (.iload 6, 2) := by decide +kernel
theorem dX7_isPairRead_105 : decode cX7_isPairRead 105 = .ok (.ifCond .ge 5, 3) := by decide +kernel
theorem dX7_isPairRead_108 : decode cX7_isPairRead 108 = .ok (.iconst 0, 1) := by decide +kernel
theorem dX7_isPairRead_109 : decode cX7_isPairRead 109 = .ok (.ireturn, 1) := by decide +kernel
theorem dX7_isPairRead_110 : decode cX7_isPairRead 110 = .ok (.aload_n 1, 1) := by decide +kernel
theorem dX7_isPairRead_111 : decode cX7_isPairRead 111 = .ok (.iload_n 2, 1) := by decide +kernel
theorem dX7_isPairRead_112 : decode cX7_isPairRead 112 = .ok (.iload_n 3, 1) := by decide +kernel
theorem dX7_isPairRead_113 : decode cX7_isPairRead 113 = .ok (.iload 4, 2) := by decide +kernel
theorem dX7_isPairRead_115 : decode cX7_isPairRead 115 = .ok (.iload 5, 2) := by decide +kernel
theorem dX7_isPairRead_117 : decode cX7_isPairRead 117 = .ok (.invokevirtual 72, 3) := by decide +kernel
theorem dX7_isPairRead_120 : decode cX7_isPairRead 120 = .ok (.aload_n 1, 1) := by decide +kernel
theorem dX7_isPairRead_121 : decode cX7_isPairRead 121 = .ok (.iload 6, 2) := by decide +kernel
theorem dX7_isPairRead_123 : decode cX7_isPairRead 123 = .ok (.putfield 76, 3) := by decide +kernel
theorem dX7_isPairRead_126 : decode cX7_isPairRead 126 = .ok (.iconst 1, 1) := by decide +kernel
theorem dX7_isPairRead_127 : decode cX7_isPairRead 127 = .ok (.ireturn, 1) := by decide +kernel
theorem dX7_isShipRead_0 : decode cX7_isShipRead 0 = .ok (.aload_n 0, 1) := by decide +kernel
theorem dX7_isShipRead_1 : decode cX7_isShipRead 1 = .ok (.ldc 79, 2) := by decide +kernel
theorem dX7_isShipRead_3 : decode cX7_isShipRead 3 = .ok (.invokevirtual 64, 3) := by decide +kernel
theorem dX7_isShipRead_6 : decode cX7_isShipRead 6 = .ok (.istore_n 2, 1) := by decide +kernel
theorem dX7_isShipRead_7 : decode cX7_isShipRead 7 = .ok (.iload_n 2, 1) := by decide +kernel
theorem dX7_isShipRead_8 : decode cX7_isShipRead 8 = .ok (.ifCond .ge 7, 3) := by decide +kernel
theorem dX7_isShipRead_11 : decode cX7_isShipRead 11 = .ok (.iconst (-1), 1) := by decide +kernel
theorem dX7_isShipRead_12 : decode cX7_isShipRead 12 = .ok (.goto 9, 3) := by decide +kernel
theorem dX7_isShipRead_15 : decode cX7_isShipRead 15 = .ok (.aload_n 0, 1) := by decide +kernel
theorem dX7_isShipRead_16 : decode cX7_isShipRead 16 = .ok (.bipush 9, 2) := by decide +kernel
theorem dX7_isShipRead_18 : decode cX7_isShipRead 18 = .ok (.invokevirtual 81, 3) := by decide +kernel
theorem dX7_isShipRead_21 : decode cX7_isShipRead 21 = .ok (.istore_n 3, 1) := by decide +kernel
theorem dX7_isShipRead_22 : decode cX7_isShipRead 22 = .ok (.iload_n 3, 1) := by decide +kernel
theorem dX7_isShipRead_23 : decode cX7_isShipRead 23 = .ok (.ifCond .ge 7, 3) := by decide +kernel
theorem dX7_isShipRead_26 : decode cX7_isShipRead 26 = .ok (.iconst (-1), 1) := by decide +kernel
theorem dX7_isShipRead_27 : decode cX7_isShipRead 27 = .ok (.goto 8, 3) := by decide +kernel
theorem dX7_isShipRead_30 : decode cX7_isShipRead 30 = .ok (.aload_n 0, 1) := by decide +kernel
theorem dX7_isShipRead_31 : decode cX7_isShipRead 31 = .ok (.iconst 5, 1) := by decide +kernel
theorem dX7_isShipRead_32 : decode cX7_isShipRead 32 = .ok (.invokevirtual 81, 3) := by decide +kernel
theorem dX7_isShipRead_35 : decode cX7_isShipRead 35 = .ok (.istore 4, 2) := by decide +kernel
theorem dX7_isShipRead_37 : decode cX7_isShipRead 37 = .ok (.iload 4, 2) := by decide +kernel
theorem dX7_isShipRead_39 : decode cX7_isShipRead 39 = .ok (.ifCond .ge 5, 3) := by decide +kernel
theorem dX7_isShipRead_42 : decode cX7_isShipRead 42 = .ok (.iconst 0, 1) := by decide +kernel
theorem dX7_isShipRead_43 : decode cX7_isShipRead 43 = .ok (.ireturn, 1) := by decide +kernel
theorem dX7_isShipRead_44 : decode cX7_isShipRead 44 = .ok (.aload_n 1, 1) := by decide +kernel
theorem dX7_isShipRead_45 : decode cX7_isShipRead 45 = .ok (.iload_n 2, 1) := by decide +kernel
theorem dX7_isShipRead_46 : decode cX7_isShipRead 46 = .ok (.iload_n 3, 1) := by decide +kernel
theorem dX7_isShipRead_47 : decode cX7_isShipRead 47 = .ok (.iload 4, 2) := by decide +kernel
theorem dX7_isShipRead_49 : decode cX7_isShipRead 49 = .ok (.invokevirtual 85, 3) := by decide +kernel
theorem dX7_isShipRead_52 : decode cX7_isShipRead 52 = .ok (.iconst 1, 1) := by decide +kernel
theorem dX7_isShipRead_53 : decode cX7_isShipRead 53 = .ok (.ireturn, 1) := by decide +kernel
theorem dX7_letterHere_0 : decode cX7_letterHere 0 = .ok (.aload_n 0, 1) := by decide +kernel
theorem dX7_letterHere_1 : decode cX7_letterHere 1 = .ok (.getfield 33, 3) := by decide +kernel
theorem dX7_letterHere_4 : decode cX7_letterHere 4 = .ok (.aload_n 0, 1) := by decide +kernel
theorem dX7_letterHere_5 : decode cX7_letterHere 5 = .ok (.getfield 29, 3) := by decide +kernel
theorem dX7_letterHere_8 : decode cX7_letterHere 8 = .ok (.if_icmp .ge 30, 3) := by decide +kernel
theorem dX7_letterHere_11 : decode cX7_letterHere 11 = .ok (.aload_n 0, 1) := by decide +kernel
theorem dX7_letterHere_12 : decode cX7_letterHere 12 = .ok (.getfield 9, 3) := by decide +kernel
theorem dX7_letterHere_15 : decode cX7_letterHere 15 = .ok (.aload_n 0, 1) := by decide +kernel
theorem dX7_letterHere_16 : decode cX7_letterHere 16 = .ok (.getfield 33, 3) := by decide +kernel
theorem dX7_letterHere_19 : decode cX7_letterHere 19 = .ok (.caload, 1) := by decide +kernel
theorem dX7_letterHere_20 : decode cX7_letterHere 20 = .ok (.bipush 32, 2) := by decide +kernel
theorem dX7_letterHere_22 : decode cX7_letterHere 22 = .ok (.if_icmp .ne 16, 3) := by decide +kernel
theorem dX7_letterHere_25 : decode cX7_letterHere 25 = .ok (.aload_n 0, 1) := by decide +kernel
theorem dX7_letterHere_26 : decode cX7_letterHere 26 = .ok (.dup, 1) := by decide +kernel
theorem dX7_letterHere_27 : decode cX7_letterHere 27 = .ok (.getfield 33, 3) := by decide +kernel
theorem dX7_letterHere_30 : decode cX7_letterHere 30 = .ok (.iconst 1, 1) := by decide +kernel
theorem dX7_letterHere_31 : decode cX7_letterHere 31 = .ok (.iadd, 1) := by decide +kernel
theorem dX7_letterHere_32 : decode cX7_letterHere 32 = .ok (.putfield 33, 3) := by decide +kernel
theorem dX7_letterHere_35 : decode cX7_letterHere 35 = .ok (.goto (-35), 3) := by decide +kernel
theorem dX7_letterHere_38 : decode cX7_letterHere 38 = .ok (.aload_n 0, 1) := by decide +kernel
theorem dX7_letterHere_39 : decode cX7_letterHere 39 = .ok (.getfield 33, 3) := by decide +kernel
theorem dX7_letterHere_42 : decode cX7_letterHere 42 = .ok (.aload_n 0, 1) := by decide +kernel
theorem dX7_letterHere_43 : decode cX7_letterHere 43 = .ok (.getfield 29, 3) := by decide +kernel
theorem dX7_letterHere_46 : decode cX7_letterHere 46 = .ok (.if_icmp .ge 15, 3) := by decide +kernel
theorem dX7_letterHere_49 : decode cX7_letterHere 49 = .ok (.aload_n 0, 1) := by decide +kernel
theorem dX7_letterHere_50 : decode cX7_letterHere 50 = .ok (.getfield 9, 3) := by decide +kernel
theorem dX7_letterHere_53 : decode cX7_letterHere 53 = .ok (.aload_n 0, 1) := by decide +kernel
theorem dX7_letterHere_54 : decode cX7_letterHere 54 = .ok (.getfield 33, 3) := by decide +kernel
theorem dX7_letterHere_57 : decode cX7_letterHere 57 = .ok (.caload, 1) := by decide +kernel
theorem dX7_letterHere_58 : decode cX7_letterHere 58 = .ok (.goto 4, 3) := by decide +kernel
theorem dX7_letterHere_61 : decode cX7_letterHere 61 = .ok (.iconst 0, 1) := by decide +kernel
theorem dX7_letterHere_62 : decode cX7_letterHere 62 = .ok (.ireturn, 1) := by decide +kernel
theorem dX7_isTaken_0 : decode cX7_isTaken 0 = .ok (.aload_n 0, 1) := by decide +kernel
theorem dX7_isTaken_1 : decode cX7_isTaken 1 = .ok (.invokevirtual 54, 3) := by decide +kernel
theorem dX7_isTaken_4 : decode cX7_isTaken 4 = .ok (.iload_n 1, 1) := by decide +kernel
theorem dX7_isTaken_5 : decode cX7_isTaken 5 = .ok (.if_icmp .eq 5, 3) := by decide +kernel
theorem dX7_isTaken_8 : decode cX7_isTaken 8 = .ok (.iconst 0, 1) := by decide +kernel
theorem dX7_isTaken_9 : decode cX7_isTaken 9 = .ok (.ireturn, 1) := by decide +kernel
theorem dX7_isTaken_10 : decode cX7_isTaken 10 = .ok (.aload_n 0, 1) := by decide +kernel
theorem dX7_isTaken_11 : decode cX7_isTaken 11 = .ok (.dup, 1) := by decide +kernel
theorem dX7_isTaken_12 : decode cX7_isTaken 12 = .ok (.getfield 33, 3) := by decide +kernel
theorem dX7_isTaken_15 : decode cX7_isTaken 15 = .ok (.iconst 1, 1) := by decide +kernel
theorem dX7_isTaken_16 : decode cX7_isTaken 16 = .ok (.iadd, 1) := by decide +kernel
theorem dX7_isTaken_17 : decode cX7_isTaken 17 = .ok (.putfield 33, 3) := by decide +kernel
theorem dX7_isTaken_20 : decode cX7_isTaken 20 = .ok (.iconst 1, 1) := by decide +kernel
theorem dX7_isTaken_21 : decode cX7_isTaken 21 = .ok (.ireturn, 1) := by decide +kernel
theorem dX7_kindRead_0 : decode cX7_kindRead 0 = .ok (.aload_n 1, 1) := by decide +kernel
theorem dX7_kindRead_1 : decode cX7_kindRead 1 = .ok (.aload_n 0, 1) := by decide +kernel
theorem dX7_kindRead_2 : decode cX7_kindRead 2 = .ok (.invokevirtual 54, 3) := by decide +kernel
theorem dX7_kindRead_5 : decode cX7_kindRead 5 = .ok (.invokevirtual 88, 3) := by decide +kernel
theorem dX7_kindRead_8 : decode cX7_kindRead 8 = .ok (.istore_n 2, 1) := by decide +kernel
theorem dX7_kindRead_9 : decode cX7_kindRead 9 = .ok (.aload_n 0, 1) := by decide +kernel
theorem dX7_kindRead_10 : decode cX7_kindRead 10 = .ok (.dup, 1) := by decide +kernel
theorem dX7_kindRead_11 : decode cX7_kindRead 11 = .ok (.getfield 33, 3) := by decide +kernel
theorem dX7_kindRead_14 : decode cX7_kindRead 14 = .ok (.iload_n 2, 1) := by decide +kernel
theorem dX7_kindRead_15 : decode cX7_kindRead 15 = .ok (.ifCond .ge 7, 3) := by decide +kernel
theorem dX7_kindRead_18 : decode cX7_kindRead 18 = .ok (.iconst 0, 1) := by decide +kernel
theorem dX7_kindRead_19 : decode cX7_kindRead 19 = .ok (.goto 4, 3) := by decide +kernel
theorem dX7_kindRead_22 : decode cX7_kindRead 22 = .ok (.iconst 1, 1) := by decide +kernel
theorem dX7_kindRead_23 : decode cX7_kindRead 23 = .ok (.iadd, 1) := by decide +kernel
theorem dX7_kindRead_24 : decode cX7_kindRead 24 = .ok (.putfield 33, 3) := by decide +kernel
theorem dX7_kindRead_27 : decode cX7_kindRead 27 = .ok (.iload_n 2, 1) := by decide +kernel
theorem dX7_kindRead_28 : decode cX7_kindRead 28 = .ok (.ireturn, 1) := by decide +kernel
theorem dX7_digitRead_0 : decode cX7_digitRead 0 = .ok (.aload_n 0, 1) := by decide +kernel
theorem dX7_digitRead_1 : decode cX7_digitRead 1 = .ok (.invokevirtual 54, 3) := by decide +kernel
theorem dX7_digitRead_4 : decode cX7_digitRead 4 = .ok (.bipush 48, 2) := by decide +kernel
theorem dX7_digitRead_6 : decode cX7_digitRead 6 = .ok (.isub, 1) := by decide +kernel
theorem dX7_digitRead_7 : decode cX7_digitRead 7 = .ok (.istore_n 2, 1) := by decide +kernel
theorem dX7_digitRead_8 : decode cX7_digitRead 8 = .ok (.iload_n 2, 1) := by decide +kernel
theorem dX7_digitRead_9 : decode cX7_digitRead 9 = .ok (.iconst 1, 1) := by decide +kernel
theorem dX7_digitRead_10 : decode cX7_digitRead 10 = .ok (.iload_n 1, 1) := by decide +kernel
theorem dX7_digitRead_11 : decode cX7_digitRead 11 = .ok (.invokestatic 93, 3) := by decide +kernel
theorem dX7_digitRead_14 : decode cX7_digitRead 14 = .ok (.ifCond .ne 5, 3) := by decide +kernel
theorem dX7_digitRead_17 : decode cX7_digitRead 17 = .ok (.iconst (-1), 1) := by decide +kernel
theorem dX7_digitRead_18 : decode cX7_digitRead 18 = .ok (.ireturn, 1) := by decide +kernel
theorem dX7_digitRead_19 : decode cX7_digitRead 19 = .ok (.aload_n 0, 1) := by decide +kernel
theorem dX7_digitRead_20 : decode cX7_digitRead 20 = .ok (.dup, 1) := by decide +kernel
theorem dX7_digitRead_21 : decode cX7_digitRead 21 = .ok (.getfield 33, 3) := by decide +kernel
theorem dX7_digitRead_24 : decode cX7_digitRead 24 = .ok (.iconst 1, 1) := by decide +kernel
theorem dX7_digitRead_25 : decode cX7_digitRead 25 = .ok (.iadd, 1) := by decide +kernel
theorem dX7_digitRead_26 : decode cX7_digitRead 26 = .ok (.putfield 33, 3) := by decide +kernel
theorem dX7_digitRead_29 : decode cX7_digitRead 29 = .ok (.iload_n 2, 1) := by decide +kernel
theorem dX7_digitRead_30 : decode cX7_digitRead 30 = .ok (.ireturn, 1) := by decide +kernel
theorem dX7_numberRead_0 : decode cX7_numberRead 0 = .ok (.aload_n 0, 1) := by decide +kernel
theorem dX7_numberRead_1 : decode cX7_numberRead 1 = .ok (.invokevirtual 54, 3) := by decide +kernel
theorem dX7_numberRead_4 : decode cX7_numberRead 4 = .ok (.pop, 1) := by decide +kernel
theorem dX7_numberRead_5 : decode cX7_numberRead 5 = .ok (.aload_n 0, 1) := by decide +kernel
theorem dX7_numberRead_6 : decode cX7_numberRead 6 = .ok (.getfield 33, 3) := by decide +kernel
theorem dX7_numberRead_9 : decode cX7_numberRead 9 = .ok (.istore_n 3, 1) := by decide +kernel
theorem dX7_numberRead_10 : decode cX7_numberRead 10 = .ok (.iconst 0, 1) := by decide +kernel
theorem dX7_numberRead_11 : decode cX7_numberRead 11 = .ok (.istore 4, 2) := by decide +kernel
theorem dX7_numberRead_13 : decode cX7_numberRead 13 = .ok (.aload_n 0, 1) := by decide +kernel
theorem dX7_numberRead_14 : decode cX7_numberRead 14 = .ok (.getfield 33, 3) := by decide +kernel
theorem dX7_numberRead_17 : decode cX7_numberRead 17 = .ok (.aload_n 0, 1) := by decide +kernel
theorem dX7_numberRead_18 : decode cX7_numberRead 18 = .ok (.getfield 29, 3) := by decide +kernel
theorem dX7_numberRead_21 : decode cX7_numberRead 21 = .ok (.if_icmp .ge 61, 3) := by decide +kernel
theorem dX7_numberRead_24 : decode cX7_numberRead 24 = .ok (.aload_n 0, 1) := by decide +kernel
theorem dX7_numberRead_25 : decode cX7_numberRead 25 = .ok (.getfield 9, 3) := by decide +kernel
theorem dX7_numberRead_28 : decode cX7_numberRead 28 = .ok (.aload_n 0, 1) := by decide +kernel
theorem dX7_numberRead_29 : decode cX7_numberRead 29 = .ok (.getfield 33, 3) := by decide +kernel
theorem dX7_numberRead_32 : decode cX7_numberRead 32 = .ok (.caload, 1) := by decide +kernel
theorem dX7_numberRead_33 : decode cX7_numberRead 33 = .ok (.bipush 48, 2) := by decide +kernel
theorem dX7_numberRead_35 : decode cX7_numberRead 35 = .ok (.bipush 57, 2) := by decide +kernel
theorem dX7_numberRead_37 : decode cX7_numberRead 37 = .ok (.invokestatic 93, 3) := by decide +kernel
theorem dX7_numberRead_40 : decode cX7_numberRead 40 = .ok (.ifCond .eq 42, 3) := by decide +kernel
theorem dX7_numberRead_43 : decode cX7_numberRead 43 = .ok (.iload 4, 2) := by decide +kernel
theorem dX7_numberRead_45 : decode cX7_numberRead 45 = .ok (.bipush 10, 2) := by decide +kernel
theorem dX7_numberRead_47 : decode cX7_numberRead 47 = .ok (.imul, 1) := by decide +kernel
theorem dX7_numberRead_48 : decode cX7_numberRead 48 = .ok (.aload_n 0, 1) := by decide +kernel
theorem dX7_numberRead_49 : decode cX7_numberRead 49 = .ok (.getfield 9, 3) := by decide +kernel
theorem dX7_numberRead_52 : decode cX7_numberRead 52 = .ok (.aload_n 0, 1) := by decide +kernel
theorem dX7_numberRead_53 : decode cX7_numberRead 53 = .ok (.getfield 33, 3) := by decide +kernel
theorem dX7_numberRead_56 : decode cX7_numberRead 56 = .ok (.caload, 1) := by decide +kernel
theorem dX7_numberRead_57 : decode cX7_numberRead 57 = .ok (.iadd, 1) := by decide +kernel
theorem dX7_numberRead_58 : decode cX7_numberRead 58 = .ok (.bipush 48, 2) := by decide +kernel
theorem dX7_numberRead_60 : decode cX7_numberRead 60 = .ok (.isub, 1) := by decide +kernel
theorem dX7_numberRead_61 : decode cX7_numberRead 61 = .ok (.sipush 9999, 3) := by decide +kernel
theorem dX7_numberRead_64 : decode cX7_numberRead 64 = .ok (.invokestatic 97, 3) := by decide +kernel
theorem dX7_numberRead_67 : decode cX7_numberRead 67 = .ok (.istore 4, 2) := by decide +kernel
theorem dX7_numberRead_69 : decode cX7_numberRead 69 = .ok (.aload_n 0, 1) := by decide +kernel
theorem dX7_numberRead_70 : decode cX7_numberRead 70 = .ok (.dup, 1) := by decide +kernel
theorem dX7_numberRead_71 : decode cX7_numberRead 71 = .ok (.getfield 33, 3) := by decide +kernel
theorem dX7_numberRead_74 : decode cX7_numberRead 74 = .ok (.iconst 1, 1) := by decide +kernel
theorem dX7_numberRead_75 : decode cX7_numberRead 75 = .ok (.iadd, 1) := by decide +kernel
theorem dX7_numberRead_76 : decode cX7_numberRead 76 = .ok (.putfield 33, 3) := by decide +kernel
theorem dX7_numberRead_79 : decode cX7_numberRead 79 = .ok (.goto (-66), 3) := by decide +kernel
theorem dX7_numberRead_82 : decode cX7_numberRead 82 = .ok (.aload_n 0, 1) := by decide +kernel
theorem dX7_numberRead_83 : decode cX7_numberRead 83 = .ok (.getfield 33, 3) := by decide +kernel
theorem dX7_numberRead_86 : decode cX7_numberRead 86 = .ok (.iload_n 3, 1) := by decide +kernel
theorem dX7_numberRead_87 : decode cX7_numberRead 87 = .ok (.if_icmp .eq 13, 3) := by decide +kernel
theorem dX7_numberRead_90 : decode cX7_numberRead 90 = .ok (.iload 4, 2) := by decide +kernel
theorem dX7_numberRead_92 : decode cX7_numberRead 92 = .ok (.iload_n 1, 1) := by decide +kernel
theorem dX7_numberRead_93 : decode cX7_numberRead 93 = .ok (.iload_n 2, 1) := by decide +kernel
theorem dX7_numberRead_94 : decode cX7_numberRead 94 = .ok (.invokestatic 93, 3) := by decide +kernel
theorem dX7_numberRead_97 : decode cX7_numberRead 97 = .ok (.ifCond .ne 10, 3) := by decide +kernel
theorem dX7_numberRead_100 : decode cX7_numberRead 100 = .ok (.aload_n 0, 1) := by decide +kernel
theorem dX7_numberRead_101 : decode cX7_numberRead 101 = .ok (.iload_n 3, 1) := by decide +kernel
theorem dX7_numberRead_102 : decode cX7_numberRead 102 = .ok (.putfield 33, 3) := by decide +kernel
theorem dX7_numberRead_105 : decode cX7_numberRead 105 = .ok (.iconst (-1), 1) := by decide +kernel
theorem dX7_numberRead_106 : decode cX7_numberRead 106 = .ok (.ireturn, 1) := by decide +kernel
theorem dX7_numberRead_107 : decode cX7_numberRead 107 = .ok (.iload 4, 2) := by decide +kernel
theorem dX7_numberRead_109 : decode cX7_numberRead 109 = .ok (.ireturn, 1) := by decide +kernel
theorem dX8_init_0 : decode cX8_init 0 = .ok (.aload_n 0, 1) := by decide +kernel
theorem dX8_init_1 : decode cX8_init 1 = .ok (.invokespecial 3, 3) := by decide +kernel
theorem dX8_init_4 : decode cX8_init 4 = .ok (.aload_n 0, 1) := by decide +kernel
theorem dX8_init_5 : decode cX8_init 5 = .ok (.iconst (-1), 1) := by decide +kernel
theorem dX8_init_6 : decode cX8_init 6 = .ok (.putfield 9, 3) := by decide +kernel
theorem dX8_init_9 : decode cX8_init 9 = .ok (.return_, 1) := by decide +kernel
theorem dX8_take_0 : decode cX8_take 0 = .ok (.aload_n 0, 1) := by decide +kernel
theorem dX8_take_1 : decode cX8_take 1 = .ok (.aload_n 1, 1) := by decide +kernel
theorem dX8_take_2 : decode cX8_take 2 = .ok (.getfield 15, 3) := by decide +kernel
theorem dX8_take_5 : decode cX8_take 5 = .ok (.putfield 15, 3) := by decide +kernel
theorem dX8_take_8 : decode cX8_take 8 = .ok (.aload_n 0, 1) := by decide +kernel
theorem dX8_take_9 : decode cX8_take 9 = .ok (.aload_n 1, 1) := by decide +kernel
theorem dX8_take_10 : decode cX8_take 10 = .ok (.getfield 9, 3) := by decide +kernel
theorem dX8_take_13 : decode cX8_take 13 = .ok (.putfield 9, 3) := by decide +kernel
theorem dX8_take_16 : decode cX8_take 16 = .ok (.aload_n 0, 1) := by decide +kernel
theorem dX8_take_17 : decode cX8_take 17 = .ok (.aload_n 1, 1) := by decide +kernel
theorem dX8_take_18 : decode cX8_take 18 = .ok (.getfield 18, 3) := by decide +kernel
theorem dX8_take_21 : decode cX8_take 21 = .ok (.putfield 18, 3) := by decide +kernel
theorem dX8_take_24 : decode cX8_take 24 = .ok (.aload_n 0, 1) := by decide +kernel
theorem dX8_take_25 : decode cX8_take 25 = .ok (.aload_n 1, 1) := by decide +kernel
theorem dX8_take_26 : decode cX8_take 26 = .ok (.getfield 21, 3) := by decide +kernel
theorem dX8_take_29 : decode cX8_take 29 = .ok (.putfield 21, 3) := by decide +kernel
theorem dX8_take_32 : decode cX8_take 32 = .ok (.return_, 1) := by decide +kernel
theorem dX9_init_0 : decode cX9_init 0 = .ok (.aload_n 0, 1) := by decide +kernel
theorem dX9_init_1 : decode cX9_init 1 = .ok (.invokespecial 3, 3) := by decide +kernel
theorem dX9_init_4 : decode cX9_init 4 = .ok (.aload_n 0, 1) := by decide +kernel
theorem dX9_init_5 : decode cX9_init 5 = .ok (.bipush 6, 2) := by decide +kernel
theorem dX9_init_7 : decode cX9_init 7 = .ok (.anewarray 9, 3) := by decide +kernel
theorem dX9_init_10 : decode cX9_init 10 = .ok (.putfield 11, 3) := by decide +kernel
theorem dX9_init_13 : decode cX9_init 13 = .ok (.aload_n 0, 1) := by decide +kernel
theorem dX9_init_14 : decode cX9_init 14 = .ok (.iconst 5, 1) := by decide +kernel
theorem dX9_init_15 : decode cX9_init 15 = .ok (.anewarray 17, 3) := by decide +kernel
theorem dX9_init_18 : decode cX9_init 18 = .ok (.putfield 19, 3) := by decide +kernel
theorem dX9_init_21 : decode cX9_init 21 = .ok (.aload_n 0, 1) := by decide +kernel
theorem dX9_init_22 : decode cX9_init 22 = .ok (.new 23, 3) := by decide +kernel
theorem dX9_init_25 : decode cX9_init 25 = .ok (.dup, 1) := by decide +kernel
theorem dX9_init_26 : decode cX9_init 26 = .ok (.invokespecial 25, 3) := by decide +kernel
theorem dX9_init_29 : decode cX9_init 29 = .ok (.putfield 26, 3) := by decide +kernel
theorem dX9_init_32 : decode cX9_init 32 = .ok (.aload_n 0, 1) := by decide +kernel
theorem dX9_init_33 : decode cX9_init 33 = .ok (.bipush 8, 2) := by decide +kernel
theorem dX9_init_35 : decode cX9_init 35 = .ok (.anewarray 23, 3) := by decide +kernel
theorem dX9_init_38 : decode cX9_init 38 = .ok (.putfield 30, 3) := by decide +kernel
theorem dX9_init_41 : decode cX9_init 41 = .ok (.aload_n 0, 1) := by decide +kernel
theorem dX9_init_42 : decode cX9_init 42 = .ok (.new 34, 3) := by decide +kernel
theorem dX9_init_45 : decode cX9_init 45 = .ok (.dup, 1) := by decide +kernel
theorem dX9_init_46 : decode cX9_init 46 = .ok (.invokespecial 36, 3) := by decide +kernel
theorem dX9_init_49 : decode cX9_init 49 = .ok (.putfield 37, 3) := by decide +kernel
theorem dX9_init_52 : decode cX9_init 52 = .ok (.aload_n 0, 1) := by decide +kernel
theorem dX9_init_53 : decode cX9_init 53 = .ok (.iconst 1, 1) := by decide +kernel
theorem dX9_init_54 : decode cX9_init 54 = .ok (.putfield 41, 3) := by decide +kernel
theorem dX9_init_57 : decode cX9_init 57 = .ok (.iconst 0, 1) := by decide +kernel
theorem dX9_init_58 : decode cX9_init 58 = .ok (.istore_n 1, 1) := by decide +kernel
theorem dX9_init_59 : decode cX9_init 59 = .ok (.iload_n 1, 1) := by decide +kernel
theorem dX9_init_60 : decode cX9_init 60 = .ok (.bipush 6, 2) := by decide +kernel
theorem dX9_init_62 : decode cX9_init 62 = .ok (.if_icmp .ge 22, 3) := by decide +kernel
theorem dX9_init_65 : decode cX9_init 65 = .ok (.aload_n 0, 1) := by decide +kernel
theorem dX9_init_66 : decode cX9_init 66 = .ok (.getfield 11, 3) := by decide +kernel
theorem dX9_init_69 : decode cX9_init 69 = .ok (.iload_n 1, 1) := by decide +kernel
theorem dX9_init_70 : decode cX9_init 70 = .ok (.new 9, 3) := by decide +kernel
theorem dX9_init_73 : decode cX9_init 73 = .ok (.dup, 1) := by decide +kernel
theorem dX9_init_74 : decode cX9_init 74 = .ok (.invokespecial 45, 3) := by decide +kernel
theorem dX9_init_77 : decode cX9_init 77 = .ok (.aastore, 1) := by decide +kernel
theorem dX9_init_78 : decode cX9_init 78 = .ok (.iinc 1 1, 3) := by decide +kernel
theorem dX9_init_81 : decode cX9_init 81 = .ok (.goto (-22), 3) := by decide +kernel
theorem dX9_init_84 : decode cX9_init 84 = .ok (.iconst 0, 1) := by decide +kernel
theorem dX9_init_85 : decode cX9_init 85 = .ok (.istore_n 1, 1) := by decide +kernel
theorem dX9_init_86 : decode cX9_init 86 = .ok (.iload_n 1, 1) := by decide +kernel
theorem dX9_init_87 : decode cX9_init 87 = .ok (.iconst 5, 1) := by decide +kernel
theorem dX9_init_88 : decode cX9_init 88 = .ok (.if_icmp .ge 22, 3) := by decide +kernel
theorem dX9_init_91 : decode cX9_init 91 = .ok (.aload_n 0, 1) := by decide +kernel
theorem dX9_init_92 : decode cX9_init 92 = .ok (.getfield 19, 3) := by decide +kernel
theorem dX9_init_95 : decode cX9_init 95 = .ok (.iload_n 1, 1) := by decide +kernel
theorem dX9_init_96 : decode cX9_init 96 = .ok (.new 17, 3) := by decide +kernel
theorem dX9_init_99 : decode cX9_init 99 = .ok (.dup, 1) := by decide +kernel
theorem dX9_init_100 : decode cX9_init 100 = .ok (.invokespecial 46, 3) := by decide +kernel
theorem dX9_init_103 : decode cX9_init 103 = .ok (.aastore, 1) := by decide +kernel
theorem dX9_init_104 : decode cX9_init 104 = .ok (.iinc 1 1, 3) := by decide +kernel
theorem dX9_init_107 : decode cX9_init 107 = .ok (.goto (-21), 3) := by decide +kernel
theorem dX9_init_110 : decode cX9_init 110 = .ok (.iconst 0, 1) := by decide +kernel
theorem dX9_init_111 : decode cX9_init 111 = .ok (.istore_n 1, 1) := by decide +kernel
theorem dX9_init_112 : decode cX9_init 112 = .ok (.iload_n 1, 1) := by decide +kernel
theorem dX9_init_113 : decode cX9_init 113 = .ok (.bipush 8, 2) := by decide +kernel
theorem dX9_init_115 : decode cX9_init 115 = .ok (.if_icmp .ge 22, 3) := by decide +kernel
theorem dX9_init_118 : decode cX9_init 118 = .ok (.aload_n 0, 1) := by decide +kernel
theorem dX9_init_119 : decode cX9_init 119 = .ok (.getfield 30, 3) := by decide +kernel
theorem dX9_init_122 : decode cX9_init 122 = .ok (.iload_n 1, 1) := by decide +kernel
theorem dX9_init_123 : decode cX9_init 123 = .ok (.new 23, 3) := by decide +kernel
theorem dX9_init_126 : decode cX9_init 126 = .ok (.dup, 1) := by decide +kernel
theorem dX9_init_127 : decode cX9_init 127 = .ok (.invokespecial 25, 3) := by decide +kernel
theorem dX9_init_130 : decode cX9_init 130 = .ok (.aastore, 1) := by decide +kernel
theorem dX9_init_131 : decode cX9_init 131 = .ok (.iinc 1 1, 3) := by decide +kernel
theorem dX9_init_134 : decode cX9_init 134 = .ok (.goto (-22), 3) := by decide +kernel
theorem dX9_init_137 : decode cX9_init 137 = .ok (.return_, 1) := by decide +kernel
theorem dX9_take_0 : decode cX9_take 0 = .ok (.aload_n 0, 1) := by decide +kernel
theorem dX9_take_1 : decode cX9_take 1 = .ok (.aload_n 1, 1) := by decide +kernel
theorem dX9_take_2 : decode cX9_take 2 = .ok (.getfield 11, 3) := by decide +kernel
theorem dX9_take_5 : decode cX9_take 5 = .ok (.aload_n 1, 1) := by decide +kernel
theorem dX9_take_6 : decode cX9_take 6 = .ok (.getfield 47, 3) := by decide +kernel
theorem dX9_take_9 : decode cX9_take 9 = .ok (.aload_n 1, 1) := by decide +kernel
theorem dX9_take_10 : decode cX9_take 10 = .ok (.getfield 19, 3) := by decide +kernel
theorem dX9_take_13 : decode cX9_take 13 = .ok (.aload_n 1, 1) := by decide +kernel
theorem dX9_take_14 : decode cX9_take 14 = .ok (.getfield 50, 3) := by decide +kernel
theorem dX9_take_17 : decode cX9_take 17 = .ok (.invokevirtual 53, 3) := by decide +kernel
theorem dX9_take_20 : decode cX9_take 20 = .ok (.aload_n 0, 1) := by decide +kernel
theorem dX9_take_21 : decode cX9_take 21 = .ok (.getfield 26, 3) := by decide +kernel
theorem dX9_take_24 : decode cX9_take 24 = .ok (.aload_n 1, 1) := by decide +kernel
theorem dX9_take_25 : decode cX9_take 25 = .ok (.getfield 26, 3) := by decide +kernel
theorem dX9_take_28 : decode cX9_take 28 = .ok (.invokevirtual 57, 3) := by decide +kernel
theorem dX9_take_31 : decode cX9_take 31 = .ok (.iconst 0, 1) := by decide +kernel
theorem dX9_take_32 : decode cX9_take 32 = .ok (.istore_n 2, 1) := by decide +kernel
theorem dX9_take_33 : decode cX9_take 33 = .ok (.iload_n 2, 1) := by decide +kernel
theorem dX9_take_34 : decode cX9_take 34 = .ok (.bipush 8, 2) := by decide +kernel
theorem dX9_take_36 : decode cX9_take 36 = .ok (.if_icmp .ge 24, 3) := by decide +kernel
theorem dX9_take_39 : decode cX9_take 39 = .ok (.aload_n 0, 1) := by decide +kernel
theorem dX9_take_40 : decode cX9_take 40 = .ok (.getfield 30, 3) := by decide +kernel
theorem dX9_take_43 : decode cX9_take 43 = .ok (.iload_n 2, 1) := by decide +kernel
theorem dX9_take_44 : decode cX9_take 44 = .ok (.aaload, 1) := by decide +kernel
theorem dX9_take_45 : decode cX9_take 45 = .ok (.aload_n 1, 1) := by decide +kernel
theorem dX9_take_46 : decode cX9_take 46 = .ok (.getfield 30, 3) := by decide +kernel
theorem dX9_take_49 : decode cX9_take 49 = .ok (.iload_n 2, 1) := by decide +kernel
theorem dX9_take_50 : decode cX9_take 50 = .ok (.aaload, 1) := by decide +kernel
theorem dX9_take_51 : decode cX9_take 51 = .ok (.invokevirtual 57, 3) := by decide +kernel
theorem dX9_take_54 : decode cX9_take 54 = .ok (.iinc 2 1, 3) := by decide +kernel
theorem dX9_take_57 : decode cX9_take 57 = .ok (.goto (-24), 3) := by decide +kernel
theorem dX9_take_60 : decode cX9_take 60 = .ok (.aload_n 0, 1) := by decide +kernel
theorem dX9_take_61 : decode cX9_take 61 = .ok (.aload_n 1, 1) := by decide +kernel
theorem dX9_take_62 : decode cX9_take 62 = .ok (.getfield 61, 3) := by decide +kernel
theorem dX9_take_65 : decode cX9_take 65 = .ok (.putfield 61, 3) := by decide +kernel
theorem dX9_take_68 : decode cX9_take 68 = .ok (.aload_n 0, 1) := by decide +kernel
theorem dX9_take_69 : decode cX9_take 69 = .ok (.aload_n 1, 1) := by decide +kernel
theorem dX9_take_70 : decode cX9_take 70 = .ok (.getfield 41, 3) := by decide +kernel
theorem dX9_take_73 : decode cX9_take 73 = .ok (.putfield 41, 3) := by decide +kernel
theorem dX9_take_76 : decode cX9_take 76 = .ok (.aload_n 0, 1) := by decide +kernel
theorem dX9_take_77 : decode cX9_take 77 = .ok (.getfield 37, 3) := by decide +kernel
theorem dX9_take_80 : decode cX9_take 80 = .ok (.aload_n 1, 1) := by decide +kernel
theorem dX9_take_81 : decode cX9_take 81 = .ok (.getfield 37, 3) := by decide +kernel
theorem dX9_take_84 : decode cX9_take 84 = .ok (.invokevirtual 64, 3) := by decide +kernel
theorem dX9_take_87 : decode cX9_take 87 = .ok (.return_, 1) := by decide +kernel
theorem dX9_settle_0 : decode cX9_settle 0 = .ok (.aload_n 0, 1) := by decide +kernel
theorem dX9_settle_1 : decode cX9_settle 1 = .ok (.aload_n 1, 1) := by decide +kernel
theorem dX9_settle_2 : decode cX9_settle 2 = .ok (.getfield 67, 3) := by decide +kernel
theorem dX9_settle_5 : decode cX9_settle 5 = .ok (.aload_n 1, 1) := by decide +kernel
theorem dX9_settle_6 : decode cX9_settle 6 = .ok (.getfield 70, 3) := by decide +kernel
theorem dX9_settle_9 : decode cX9_settle 9 = .ok (.aload_n 1, 1) := by decide +kernel
theorem dX9_settle_10 : decode cX9_settle 10 = .ok (.getfield 71, 3) := by decide +kernel
theorem dX9_settle_13 : decode cX9_settle 13 = .ok (.aload_n 1, 1) := by decide +kernel
theorem dX9_settle_14 : decode cX9_settle 14 = .ok (.getfield 72, 3) := by decide +kernel
theorem dX9_settle_17 : decode cX9_settle 17 = .ok (.invokevirtual 53, 3) := by decide +kernel
theorem dX9_settle_20 : decode cX9_settle 20 = .ok (.aload_n 0, 1) := by decide +kernel
theorem dX9_settle_21 : decode cX9_settle 21 = .ok (.getfield 26, 3) := by decide +kernel
theorem dX9_settle_24 : decode cX9_settle 24 = .ok (.iconst (-1), 1) := by decide +kernel
theorem dX9_settle_25 : decode cX9_settle 25 = .ok (.putfield 73, 3) := by decide +kernel
theorem dX9_settle_28 : decode cX9_settle 28 = .ok (.aload_n 0, 1) := by decide +kernel
theorem dX9_settle_29 : decode cX9_settle 29 = .ok (.iconst 0, 1) := by decide +kernel
theorem dX9_settle_30 : decode cX9_settle 30 = .ok (.putfield 61, 3) := by decide +kernel
theorem dX9_settle_33 : decode cX9_settle 33 = .ok (.return_, 1) := by decide +kernel
theorem dX9_takePairsAndShips_0 : decode cX9_takePairsAndShips 0 = .ok (.iconst 0, 1) := by decide +kernel
theorem dX9_takePairsAndShips_1 : decode cX9_takePairsAndShips 1 = .ok (.istore 5, 2) := by decide +kernel
theorem dX9_takePairsAndShips_3 : decode cX9_takePairsAndShips 3 = .ok (.iload 5, 2) := by decide +kernel
theorem dX9_takePairsAndShips_5 : decode cX9_takePairsAndShips 5 = .ok (.iload_n 2, 1) := by decide +kernel
theorem dX9_takePairsAndShips_6 : decode cX9_takePairsAndShips 6 = .ok (.if_icmp .ge 30, 3) := by decide +kernel
theorem dX9_takePairsAndShips_9 : decode cX9_takePairsAndShips 9 = .ok (.iload 5, 2) := by decide +kernel
theorem dX9_takePairsAndShips_11 : decode cX9_takePairsAndShips 11 = .ok (.bipush 6, 2) := by decide +kernel
theorem dX9_takePairsAndShips_13 : decode cX9_takePairsAndShips 13 = .ok (.if_icmp .ge 23, 3) := by decide +kernel
theorem dX9_takePairsAndShips_16 : decode cX9_takePairsAndShips 16 = .ok (.aload_n 0, 1) := by decide +kernel
theorem dX9_takePairsAndShips_17 : decode cX9_takePairsAndShips 17 = .ok (.getfield 11, 3) := by decide +kernel
theorem dX9_takePairsAndShips_20 : decode cX9_takePairsAndShips 20 = .ok (.iload 5, 2) := by decide +kernel
theorem dX9_takePairsAndShips_22 : decode cX9_takePairsAndShips 22 = .ok (.aaload, 1) := by decide +kernel
theorem dX9_takePairsAndShips_23 : decode cX9_takePairsAndShips 23 = .ok (.aload_n 1, 1) := by decide +kernel
theorem dX9_takePairsAndShips_24 : decode cX9_takePairsAndShips 24 = .ok (.iload 5, 2) := by decide +kernel
theorem dX9_takePairsAndShips_26 : decode cX9_takePairsAndShips 26 = .ok (.aaload, 1) := by decide +kernel
theorem dX9_takePairsAndShips_27 : decode cX9_takePairsAndShips 27 = .ok (.invokevirtual 76, 3) := by decide +kernel
theorem dX9_takePairsAndShips_30 : decode cX9_takePairsAndShips 30 = .ok (.iinc 5 1, 3) := by decide +kernel
theorem dX9_takePairsAndShips_33 : decode cX9_takePairsAndShips 33 = .ok (.goto (-30), 3) := by decide +kernel
theorem dX9_takePairsAndShips_36 : decode cX9_takePairsAndShips 36 = .ok (.iconst 0, 1) := by decide +kernel
theorem dX9_takePairsAndShips_37 : decode cX9_takePairsAndShips 37 = .ok (.istore 5, 2) := by decide +kernel
theorem dX9_takePairsAndShips_39 : decode cX9_takePairsAndShips 39 = .ok (.iload 5, 2) := by decide +kernel
theorem dX9_takePairsAndShips_41 : decode cX9_takePairsAndShips 41 = .ok (.iload 4, 2) := by decide +kernel
theorem dX9_takePairsAndShips_43 : decode cX9_takePairsAndShips 43 = .ok (.if_icmp .ge 29, 3) := by decide +kernel
theorem dX9_takePairsAndShips_46 : decode cX9_takePairsAndShips 46 = .ok (.iload 5, 2) := by decide +kernel
theorem dX9_takePairsAndShips_48 : decode cX9_takePairsAndShips 48 = .ok (.iconst 5, 1) := by decide +kernel
theorem dX9_takePairsAndShips_49 : decode cX9_takePairsAndShips 49 = .ok (.if_icmp .ge 23, 3) := by decide +kernel
theorem dX9_takePairsAndShips_52 : decode cX9_takePairsAndShips 52 = .ok (.aload_n 0, 1) := by decide +kernel
theorem dX9_takePairsAndShips_53 : decode cX9_takePairsAndShips 53 = .ok (.getfield 19, 3) := by decide +kernel
theorem dX9_takePairsAndShips_56 : decode cX9_takePairsAndShips 56 = .ok (.iload 5, 2) := by decide +kernel
theorem dX9_takePairsAndShips_58 : decode cX9_takePairsAndShips 58 = .ok (.aaload, 1) := by decide +kernel
theorem dX9_takePairsAndShips_59 : decode cX9_takePairsAndShips 59 = .ok (.aload_n 3, 1) := by decide +kernel
theorem dX9_takePairsAndShips_60 : decode cX9_takePairsAndShips 60 = .ok (.iload 5, 2) := by decide +kernel
theorem dX9_takePairsAndShips_62 : decode cX9_takePairsAndShips 62 = .ok (.aaload, 1) := by decide +kernel
theorem dX9_takePairsAndShips_63 : decode cX9_takePairsAndShips 63 = .ok (.invokevirtual 79, 3) := by decide +kernel
theorem dX9_takePairsAndShips_66 : decode cX9_takePairsAndShips 66 = .ok (.iinc 5 1, 3) := by decide +kernel
theorem dX9_takePairsAndShips_69 : decode cX9_takePairsAndShips 69 = .ok (.goto (-30), 3) := by decide +kernel
theorem dX9_takePairsAndShips_72 : decode cX9_takePairsAndShips 72 = .ok (.aload_n 0, 1) := by decide +kernel
theorem dX9_takePairsAndShips_73 : decode cX9_takePairsAndShips 73 = .ok (.iload_n 2, 1) := by decide +kernel
theorem dX9_takePairsAndShips_74 : decode cX9_takePairsAndShips 74 = .ok (.putfield 47, 3) := by decide +kernel
theorem dX9_takePairsAndShips_77 : decode cX9_takePairsAndShips 77 = .ok (.aload_n 0, 1) := by decide +kernel
theorem dX9_takePairsAndShips_78 : decode cX9_takePairsAndShips 78 = .ok (.iload 4, 2) := by decide +kernel
theorem dX9_takePairsAndShips_80 : decode cX9_takePairsAndShips 80 = .ok (.putfield 50, 3) := by decide +kernel
theorem dX9_takePairsAndShips_83 : decode cX9_takePairsAndShips 83 = .ok (.return_, 1) := by decide +kernel
theorem dX9_remember_0 : decode cX9_remember 0 = .ok (.aload_n 0, 1) := by decide +kernel
theorem dX9_remember_1 : decode cX9_remember 1 = .ok (.getfield 61, 3) := by decide +kernel
theorem dX9_remember_4 : decode cX9_remember 4 = .ok (.bipush 8, 2) := by decide +kernel
theorem dX9_remember_6 : decode cX9_remember 6 = .ok (.if_icmp .lt 40, 3) := by decide +kernel
theorem dX9_remember_9 : decode cX9_remember 9 = .ok (.iconst 1, 1) := by decide +kernel
theorem dX9_remember_10 : decode cX9_remember 10 = .ok (.istore_n 1, 1) := by decide +kernel
theorem dX9_remember_11 : decode cX9_remember 11 = .ok (.iload_n 1, 1) := by decide +kernel
theorem dX9_remember_12 : decode cX9_remember 12 = .ok (.bipush 8, 2) := by decide +kernel
theorem dX9_remember_14 : decode cX9_remember 14 = .ok (.if_icmp .ge 26, 3) := by decide +kernel
theorem dX9_remember_17 : decode cX9_remember 17 = .ok (.aload_n 0, 1) := by decide +kernel
theorem dX9_remember_18 : decode cX9_remember 18 = .ok (.getfield 30, 3) := by decide +kernel
theorem dX9_remember_21 : decode cX9_remember 21 = .ok (.iload_n 1, 1) := by decide +kernel
theorem dX9_remember_22 : decode cX9_remember 22 = .ok (.iconst 1, 1) := by decide +kernel
theorem dX9_remember_23 : decode cX9_remember 23 = .ok (.isub, 1) := by decide +kernel
theorem dX9_remember_24 : decode cX9_remember 24 = .ok (.aaload, 1) := by decide +kernel
theorem dX9_remember_25 : decode cX9_remember 25 = .ok (.aload_n 0, 1) := by decide +kernel
theorem dX9_remember_26 : decode cX9_remember 26 = .ok (.getfield 30, 3) := by decide +kernel
theorem dX9_remember_29 : decode cX9_remember 29 = .ok (.iload_n 1, 1) := by decide +kernel
theorem dX9_remember_30 : decode cX9_remember 30 = .ok (.aaload, 1) := by decide +kernel
theorem dX9_remember_31 : decode cX9_remember 31 = .ok (.invokevirtual 57, 3) := by decide +kernel
theorem dX9_remember_34 : decode cX9_remember 34 = .ok (.iinc 1 1, 3) := by decide +kernel
theorem dX9_remember_37 : decode cX9_remember 37 = .ok (.goto (-26), 3) := by decide +kernel
theorem dX9_remember_40 : decode cX9_remember 40 = .ok (.aload_n 0, 1) := by decide +kernel
theorem dX9_remember_41 : decode cX9_remember 41 = .ok (.bipush 7, 2) := by decide +kernel
theorem dX9_remember_43 : decode cX9_remember 43 = .ok (.putfield 61, 3) := by decide +kernel
theorem dX9_remember_46 : decode cX9_remember 46 = .ok (.aload_n 0, 1) := by decide +kernel
theorem dX9_remember_47 : decode cX9_remember 47 = .ok (.getfield 30, 3) := by decide +kernel
theorem dX9_remember_50 : decode cX9_remember 50 = .ok (.aload_n 0, 1) := by decide +kernel
theorem dX9_remember_51 : decode cX9_remember 51 = .ok (.getfield 61, 3) := by decide +kernel
theorem dX9_remember_54 : decode cX9_remember 54 = .ok (.aaload, 1) := by decide +kernel
theorem dX9_remember_55 : decode cX9_remember 55 = .ok (.aload_n 0, 1) := by decide +kernel
theorem dX9_remember_56 : decode cX9_remember 56 = .ok (.getfield 26, 3) := by decide +kernel
theorem dX9_remember_59 : decode cX9_remember 59 = .ok (.invokevirtual 57, 3) := by decide +kernel
theorem dX9_remember_62 : decode cX9_remember 62 = .ok (.aload_n 0, 1) := by decide +kernel
theorem dX9_remember_63 : decode cX9_remember 63 = .ok (.dup, 1) := by decide +kernel
theorem dX9_remember_64 : decode cX9_remember 64 = .ok (.getfield 61, 3) := by decide +kernel
theorem dX9_remember_67 : decode cX9_remember 67 = .ok (.iconst 1, 1) := by decide +kernel
theorem dX9_remember_68 : decode cX9_remember 68 = .ok (.iadd, 1) := by decide +kernel
theorem dX9_remember_69 : decode cX9_remember 69 = .ok (.putfield 61, 3) := by decide +kernel
theorem dX9_remember_72 : decode cX9_remember 72 = .ok (.return_, 1) := by decide +kernel
theorem dX9_recall_0 : decode cX9_recall 0 = .ok (.aload_n 0, 1) := by decide +kernel
theorem dX9_recall_1 : decode cX9_recall 1 = .ok (.getfield 61, 3) := by decide +kernel
theorem dX9_recall_4 : decode cX9_recall 4 = .ok (.ifCond .gt 5, 3) := by decide +kernel
theorem dX9_recall_7 : decode cX9_recall 7 = .ok (.iconst 0, 1) := by decide +kernel
theorem dX9_recall_8 : decode cX9_recall 8 = .ok (.ireturn, 1) := by decide +kernel
theorem dX9_recall_9 : decode cX9_recall 9 = .ok (.aload_n 0, 1) := by decide +kernel
theorem dX9_recall_10 : decode cX9_recall 10 = .ok (.dup, 1) := by decide +kernel
theorem dX9_recall_11 : decode cX9_recall 11 = .ok (.getfield 61, 3) := by decide +kernel
theorem dX9_recall_14 : decode cX9_recall 14 = .ok (.iconst 1, 1) := by decide +kernel
theorem dX9_recall_15 : decode cX9_recall 15 = .ok (.isub, 1) := by decide +kernel
theorem dX9_recall_16 : decode cX9_recall 16 = .ok (.putfield 61, 3) := by decide +kernel
theorem dX9_recall_19 : decode cX9_recall 19 = .ok (.aload_n 0, 1) := by decide +kernel
theorem dX9_recall_20 : decode cX9_recall 20 = .ok (.getfield 26, 3) := by decide +kernel
theorem dX9_recall_23 : decode cX9_recall 23 = .ok (.aload_n 0, 1) := by decide +kernel
theorem dX9_recall_24 : decode cX9_recall 24 = .ok (.getfield 30, 3) := by decide +kernel
theorem dX9_recall_27 : decode cX9_recall 27 = .ok (.aload_n 0, 1) := by decide +kernel
theorem dX9_recall_28 : decode cX9_recall 28 = .ok (.getfield 61, 3) := by decide +kernel
theorem dX9_recall_31 : decode cX9_recall 31 = .ok (.aaload, 1) := by decide +kernel
theorem dX9_recall_32 : decode cX9_recall 32 = .ok (.invokevirtual 57, 3) := by decide +kernel
theorem dX9_recall_35 : decode cX9_recall 35 = .ok (.iconst 1, 1) := by decide +kernel
theorem dX9_recall_36 : decode cX9_recall 36 = .ok (.ireturn, 1) := by decide +kernel
theorem dX9_drawn_0 : decode cX9_drawn 0 = .ok (.aload_n 0, 1) := by decide +kernel
theorem dX9_drawn_1 : decode cX9_drawn 1 = .ok (.aload_n 0, 1) := by decide +kernel
theorem dX9_drawn_2 : decode cX9_drawn 2 = .ok (.getfield 41, 3) := by decide +kernel
theorem dX9_drawn_5 : decode cX9_drawn 5 = .ok (.ldc 82, 2) := by decide +kernel
theorem dX9_drawn_7 : decode cX9_drawn 7 = .ok (.imul, 1) := by decide +kernel
theorem dX9_drawn_8 : decode cX9_drawn 8 = .ok (.sipush 12345, 3) := by decide +kernel
theorem dX9_drawn_11 : decode cX9_drawn 11 = .ok (.iadd, 1) := by decide +kernel
theorem dX9_drawn_12 : decode cX9_drawn 12 = .ok (.ldc 83, 2) := by decide +kernel
theorem dX9_drawn_14 : decode cX9_drawn 14 = .ok (.iand, 1) := by decide +kernel
theorem dX9_drawn_15 : decode cX9_drawn 15 = .ok (.putfield 41, 3) := by decide +kernel
theorem dX9_drawn_18 : decode cX9_drawn 18 = .ok (.aload_n 0, 1) := by decide +kernel
theorem dX9_drawn_19 : decode cX9_drawn 19 = .ok (.getfield 41, 3) := by decide +kernel
theorem dX9_drawn_22 : decode cX9_drawn 22 = .ok (.ldc 84, 2) := by decide +kernel
theorem dX9_drawn_24 : decode cX9_drawn 24 = .ok (.idiv, 1) := by decide +kernel
theorem dX9_drawn_25 : decode cX9_drawn 25 = .ok (.ireturn, 1) := by decide +kernel
end
section
theorem dX10_init_0 : decode cX10_init 0 = .ok (.aload_n 0, 1) := by decide +kernel
theorem dX10_init_1 : decode cX10_init 1 = .ok (.invokespecial 3, 3) := by decide +kernel
theorem dX10_init_4 : decode cX10_init 4 = .ok (.aload_n 0, 1) := by decide +kernel
theorem dX10_init_5 : decode cX10_init 5 = .ok (.new 9, 3) := by decide +kernel
theorem dX10_init_8 : decode cX10_init 8 = .ok (.dup, 1) := by decide +kernel
theorem dX10_init_9 : decode cX10_init 9 = .ok (.invokespecial 11, 3) := by decide +kernel
theorem dX10_init_12 : decode cX10_init 12 = .ok (.putfield 12, 3) := by decide +kernel
theorem dX10_init_15 : decode cX10_init 15 = .ok (.aload_n 0, 1) := by decide +kernel
theorem dX10_init_16 : decode cX10_init 16 = .ok (.new 9, 3) := by decide +kernel
theorem dX10_init_19 : decode cX10_init 19 = .ok (.dup, 1) := by decide +kernel
theorem dX10_init_20 : decode cX10_init 20 = .ok (.invokespecial 11, 3) := by decide +kernel
theorem dX10_init_23 : decode cX10_init 23 = .ok (.putfield 16, 3) := by decide +kernel
theorem dX10_init_26 : decode cX10_init 26 = .ok (.aload_n 0, 1) := by decide +kernel
theorem dX10_init_27 : decode cX10_init 27 = .ok (.new 19, 3) := by decide +kernel
theorem dX10_init_30 : decode cX10_init 30 = .ok (.dup, 1) := by decide +kernel
theorem dX10_init_31 : decode cX10_init 31 = .ok (.invokespecial 21, 3) := by decide +kernel
theorem dX10_init_34 : decode cX10_init 34 = .ok (.putfield 22, 3) := by decide +kernel
theorem dX10_init_37 : decode cX10_init 37 = .ok (.aload_n 0, 1) := by decide +kernel
theorem dX10_init_38 : decode cX10_init 38 = .ok (.new 26, 3) := by decide +kernel
theorem dX10_init_41 : decode cX10_init 41 = .ok (.dup, 1) := by decide +kernel
theorem dX10_init_42 : decode cX10_init 42 = .ok (.invokespecial 28, 3) := by decide +kernel
theorem dX10_init_45 : decode cX10_init 45 = .ok (.putfield 29, 3) := by decide +kernel
theorem dX10_init_48 : decode cX10_init 48 = .ok (.aload_n 0, 1) := by decide +kernel
theorem dX10_init_49 : decode cX10_init 49 = .ok (.new 33, 3) := by decide +kernel
theorem dX10_init_52 : decode cX10_init 52 = .ok (.dup, 1) := by decide +kernel
theorem dX10_init_53 : decode cX10_init 53 = .ok (.invokespecial 35, 3) := by decide +kernel
theorem dX10_init_56 : decode cX10_init 56 = .ok (.putfield 36, 3) := by decide +kernel
theorem dX10_init_59 : decode cX10_init 59 = .ok (.aload_n 0, 1) := by decide +kernel
theorem dX10_init_60 : decode cX10_init 60 = .ok (.new 40, 3) := by decide +kernel
theorem dX10_init_63 : decode cX10_init 63 = .ok (.dup, 1) := by decide +kernel
theorem dX10_init_64 : decode cX10_init 64 = .ok (.invokespecial 42, 3) := by decide +kernel
theorem dX10_init_67 : decode cX10_init 67 = .ok (.putfield 43, 3) := by decide +kernel
theorem dX10_init_70 : decode cX10_init 70 = .ok (.aload_n 0, 1) := by decide +kernel
theorem dX10_init_71 : decode cX10_init 71 = .ok (.iconst 4, 1) := by decide +kernel
theorem dX10_init_72 : decode cX10_init 72 = .ok (.anewarray 47, 3) := by decide +kernel
theorem dX10_init_75 : decode cX10_init 75 = .ok (.putfield 49, 3) := by decide +kernel
theorem dX10_init_78 : decode cX10_init 78 = .ok (.iconst 0, 1) := by decide +kernel
theorem dX10_init_79 : decode cX10_init 79 = .ok (.istore_n 1, 1) := by decide +kernel
theorem dX10_init_80 : decode cX10_init 80 = .ok (.iload_n 1, 1) := by decide +kernel
theorem dX10_init_81 : decode cX10_init 81 = .ok (.iconst 4, 1) := by decide +kernel
theorem dX10_init_82 : decode cX10_init 82 = .ok (.if_icmp .ge 22, 3) := by decide +kernel
theorem dX10_init_85 : decode cX10_init 85 = .ok (.aload_n 0, 1) := by decide +kernel
theorem dX10_init_86 : decode cX10_init 86 = .ok (.getfield 49, 3) := by decide +kernel
theorem dX10_init_89 : decode cX10_init 89 = .ok (.iload_n 1, 1) := by decide +kernel
theorem dX10_init_90 : decode cX10_init 90 = .ok (.new 47, 3) := by decide +kernel
theorem dX10_init_93 : decode cX10_init 93 = .ok (.dup, 1) := by decide +kernel
theorem dX10_init_94 : decode cX10_init 94 = .ok (.invokespecial 53, 3) := by decide +kernel
theorem dX10_init_97 : decode cX10_init 97 = .ok (.aastore, 1) := by decide +kernel
theorem dX10_init_98 : decode cX10_init 98 = .ok (.iinc 1 1, 3) := by decide +kernel
theorem dX10_init_101 : decode cX10_init 101 = .ok (.goto (-21), 3) := by decide +kernel
theorem dX10_init_104 : decode cX10_init 104 = .ok (.return_, 1) := by decide +kernel
theorem dX10_pair_0 : decode cX10_pair 0 = .ok (.iload_n 1, 1) := by decide +kernel
theorem dX10_pair_1 : decode cX10_pair 1 = .ok (.iconst 0, 1) := by decide +kernel
theorem dX10_pair_2 : decode cX10_pair 2 = .ok (.iconst 3, 1) := by decide +kernel
theorem dX10_pair_3 : decode cX10_pair 3 = .ok (.invokestatic 54, 3) := by decide +kernel
theorem dX10_pair_6 : decode cX10_pair 6 = .ok (.ifCond .eq 33, 3) := by decide +kernel
theorem dX10_pair_9 : decode cX10_pair 9 = .ok (.iload_n 2, 1) := by decide +kernel
theorem dX10_pair_10 : decode cX10_pair 10 = .ok (.iconst 1, 1) := by decide +kernel
theorem dX10_pair_11 : decode cX10_pair 11 = .ok (.bipush 30, 2) := by decide +kernel
theorem dX10_pair_13 : decode cX10_pair 13 = .ok (.invokestatic 54, 3) := by decide +kernel
theorem dX10_pair_16 : decode cX10_pair 16 = .ok (.ifCond .eq 23, 3) := by decide +kernel
theorem dX10_pair_19 : decode cX10_pair 19 = .ok (.iload_n 3, 1) := by decide +kernel
theorem dX10_pair_20 : decode cX10_pair 20 = .ok (.iconst 2, 1) := by decide +kernel
theorem dX10_pair_21 : decode cX10_pair 21 = .ok (.bipush 24, 2) := by decide +kernel
theorem dX10_pair_23 : decode cX10_pair 23 = .ok (.invokestatic 54, 3) := by decide +kernel
theorem dX10_pair_26 : decode cX10_pair 26 = .ok (.ifCond .eq 13, 3) := by decide +kernel
theorem dX10_pair_29 : decode cX10_pair 29 = .ok (.iload 4, 2) := by decide +kernel
theorem dX10_pair_31 : decode cX10_pair 31 = .ok (.iconst 1, 1) := by decide +kernel
theorem dX10_pair_32 : decode cX10_pair 32 = .ok (.iload_n 3, 1) := by decide +kernel
theorem dX10_pair_33 : decode cX10_pair 33 = .ok (.invokestatic 54, 3) := by decide +kernel
theorem dX10_pair_36 : decode cX10_pair 36 = .ok (.ifCond .ne 5, 3) := by decide +kernel
theorem dX10_pair_39 : decode cX10_pair 39 = .ok (.iconst (-1), 1) := by decide +kernel
theorem dX10_pair_40 : decode cX10_pair 40 = .ok (.ireturn, 1) := by decide +kernel
theorem dX10_pair_41 : decode cX10_pair 41 = .ok (.aload_n 0, 1) := by decide +kernel
theorem dX10_pair_42 : decode cX10_pair 42 = .ok (.getfield 12, 3) := by decide +kernel
theorem dX10_pair_45 : decode cX10_pair 45 = .ok (.getfield 58, 3) := by decide +kernel
theorem dX10_pair_48 : decode cX10_pair 48 = .ok (.bipush 6, 2) := by decide +kernel
theorem dX10_pair_50 : decode cX10_pair 50 = .ok (.if_icmp .lt 6, 3) := by decide +kernel
theorem dX10_pair_53 : decode cX10_pair 53 = .ok (.bipush (-3), 2) := by decide +kernel
theorem dX10_pair_55 : decode cX10_pair 55 = .ok (.ireturn, 1) := by decide +kernel
theorem dX10_pair_56 : decode cX10_pair 56 = .ok (.aload_n 0, 1) := by decide +kernel
theorem dX10_pair_57 : decode cX10_pair 57 = .ok (.getfield 12, 3) := by decide +kernel
theorem dX10_pair_60 : decode cX10_pair 60 = .ok (.getfield 62, 3) := by decide +kernel
theorem dX10_pair_63 : decode cX10_pair 63 = .ok (.aload_n 0, 1) := by decide +kernel
theorem dX10_pair_64 : decode cX10_pair 64 = .ok (.getfield 12, 3) := by decide +kernel
theorem dX10_pair_67 : decode cX10_pair 67 = .ok (.getfield 58, 3) := by decide +kernel
theorem dX10_pair_70 : decode cX10_pair 70 = .ok (.aaload, 1) := by decide +kernel
theorem dX10_pair_71 : decode cX10_pair 71 = .ok (.iload_n 1, 1) := by decide +kernel
theorem dX10_pair_72 : decode cX10_pair 72 = .ok (.iload_n 2, 1) := by decide +kernel
theorem dX10_pair_73 : decode cX10_pair 73 = .ok (.iload_n 3, 1) := by decide +kernel
theorem dX10_pair_74 : decode cX10_pair 74 = .ok (.iload 4, 2) := by decide +kernel
theorem dX10_pair_76 : decode cX10_pair 76 = .ok (.invokevirtual 66, 3) := by decide +kernel
theorem dX10_pair_79 : decode cX10_pair 79 = .ok (.aload_n 0, 1) := by decide +kernel
theorem dX10_pair_80 : decode cX10_pair 80 = .ok (.getfield 12, 3) := by decide +kernel
theorem dX10_pair_83 : decode cX10_pair 83 = .ok (.dup, 1) := by decide +kernel
theorem dX10_pair_84 : decode cX10_pair 84 = .ok (.getfield 58, 3) := by decide +kernel
theorem dX10_pair_87 : decode cX10_pair 87 = .ok (.dup_x1, 1) := by decide +kernel
theorem dX10_pair_88 : decode cX10_pair 88 = .ok (.iconst 1, 1) := by decide +kernel
theorem dX10_pair_89 : decode cX10_pair 89 = .ok (.iadd, 1) := by decide +kernel
theorem dX10_pair_90 : decode cX10_pair 90 = .ok (.putfield 58, 3) := by decide +kernel
theorem dX10_pair_93 : decode cX10_pair 93 = .ok (.ireturn, 1) := by decide +kernel
theorem dX10_phase_0 : decode cX10_phase 0 = .ok (.aload_n 0, 1) := by decide +kernel
theorem dX10_phase_1 : decode cX10_phase 1 = .ok (.iload_n 1, 1) := by decide +kernel
theorem dX10_phase_2 : decode cX10_phase 2 = .ok (.invokevirtual 72, 3) := by decide +kernel
theorem dX10_phase_5 : decode cX10_phase 5 = .ok (.ifCond .eq 25, 3) := by decide +kernel
theorem dX10_phase_8 : decode cX10_phase 8 = .ok (.iload_n 2, 1) := by decide +kernel
theorem dX10_phase_9 : decode cX10_phase 9 = .ok (.iconst 0, 1) := by decide +kernel
theorem dX10_phase_10 : decode cX10_phase 10 = .ok (.aload_n 0, 1) := by decide +kernel
theorem dX10_phase_11 : decode cX10_phase 11 = .ok (.getfield 12, 3) := by decide +kernel
theorem dX10_phase_14 : decode cX10_phase 14 = .ok (.getfield 62, 3) := by decide +kernel
theorem dX10_phase_17 : decode cX10_phase 17 = .ok (.iload_n 1, 1) := by decide +kernel
theorem dX10_phase_18 : decode cX10_phase 18 = .ok (.aaload, 1) := by decide +kernel
theorem dX10_phase_19 : decode cX10_phase 19 = .ok (.getfield 76, 3) := by decide +kernel
theorem dX10_phase_22 : decode cX10_phase 22 = .ok (.iconst 1, 1) := by decide +kernel
theorem dX10_phase_23 : decode cX10_phase 23 = .ok (.isub, 1) := by decide +kernel
theorem dX10_phase_24 : decode cX10_phase 24 = .ok (.invokestatic 54, 3) := by decide +kernel
theorem dX10_phase_27 : decode cX10_phase 27 = .ok (.ifCond .ne 5, 3) := by decide +kernel
theorem dX10_phase_30 : decode cX10_phase 30 = .ok (.iconst (-1), 1) := by decide +kernel
theorem dX10_phase_31 : decode cX10_phase 31 = .ok (.ireturn, 1) := by decide +kernel
theorem dX10_phase_32 : decode cX10_phase 32 = .ok (.aload_n 0, 1) := by decide +kernel
theorem dX10_phase_33 : decode cX10_phase 33 = .ok (.getfield 12, 3) := by decide +kernel
theorem dX10_phase_36 : decode cX10_phase 36 = .ok (.getfield 62, 3) := by decide +kernel
theorem dX10_phase_39 : decode cX10_phase 39 = .ok (.iload_n 1, 1) := by decide +kernel
theorem dX10_phase_40 : decode cX10_phase 40 = .ok (.aaload, 1) := by decide +kernel
theorem dX10_phase_41 : decode cX10_phase 41 = .ok (.getfield 79, 3) := by decide +kernel
theorem dX10_phase_44 : decode cX10_phase 44 = .ok (.istore_n 3, 1) := by decide +kernel
theorem dX10_phase_45 : decode cX10_phase 45 = .ok (.aload_n 0, 1) := by decide +kernel
theorem dX10_phase_46 : decode cX10_phase 46 = .ok (.getfield 12, 3) := by decide +kernel
theorem dX10_phase_49 : decode cX10_phase 49 = .ok (.getfield 62, 3) := by decide +kernel
theorem dX10_phase_52 : decode cX10_phase 52 = .ok (.iload_n 1, 1) := by decide +kernel
theorem dX10_phase_53 : decode cX10_phase 53 = .ok (.aaload, 1) := by decide +kernel
theorem dX10_phase_54 : decode cX10_phase 54 = .ok (.iload_n 2, 1) := by decide +kernel
theorem dX10_phase_55 : decode cX10_phase 55 = .ok (.putfield 79, 3) := by decide +kernel
theorem dX10_phase_58 : decode cX10_phase 58 = .ok (.iload_n 3, 1) := by decide +kernel
theorem dX10_phase_59 : decode cX10_phase 59 = .ok (.ireturn, 1) := by decide +kernel
theorem dX10_ship_0 : decode cX10_ship 0 = .ok (.iload_n 1, 1) := by decide +kernel
theorem dX10_ship_1 : decode cX10_ship 1 = .ok (.iconst 0, 1) := by decide +kernel
theorem dX10_ship_2 : decode cX10_ship 2 = .ok (.iconst 3, 1) := by decide +kernel
theorem dX10_ship_3 : decode cX10_ship 3 = .ok (.invokestatic 54, 3) := by decide +kernel
theorem dX10_ship_6 : decode cX10_ship 6 = .ok (.ifCond .eq 22, 3) := by decide +kernel
theorem dX10_ship_9 : decode cX10_ship 9 = .ok (.iload_n 2, 1) := by decide +kernel
theorem dX10_ship_10 : decode cX10_ship 10 = .ok (.iconst 1, 1) := by decide +kernel
theorem dX10_ship_11 : decode cX10_ship 11 = .ok (.bipush 9, 2) := by decide +kernel
theorem dX10_ship_13 : decode cX10_ship 13 = .ok (.invokestatic 54, 3) := by decide +kernel
theorem dX10_ship_16 : decode cX10_ship 16 = .ok (.ifCond .eq 12, 3) := by decide +kernel
theorem dX10_ship_19 : decode cX10_ship 19 = .ok (.iload_n 3, 1) := by decide +kernel
theorem dX10_ship_20 : decode cX10_ship 20 = .ok (.iconst 1, 1) := by decide +kernel
theorem dX10_ship_21 : decode cX10_ship 21 = .ok (.iconst 5, 1) := by decide +kernel
theorem dX10_ship_22 : decode cX10_ship 22 = .ok (.invokestatic 54, 3) := by decide +kernel
theorem dX10_ship_25 : decode cX10_ship 25 = .ok (.ifCond .ne 5, 3) := by decide +kernel
theorem dX10_ship_28 : decode cX10_ship 28 = .ok (.iconst (-1), 1) := by decide +kernel
theorem dX10_ship_29 : decode cX10_ship 29 = .ok (.ireturn, 1) := by decide +kernel
theorem dX10_ship_30 : decode cX10_ship 30 = .ok (.aload_n 0, 1) := by decide +kernel
theorem dX10_ship_31 : decode cX10_ship 31 = .ok (.getfield 12, 3) := by decide +kernel
theorem dX10_ship_34 : decode cX10_ship 34 = .ok (.getfield 82, 3) := by decide +kernel
theorem dX10_ship_37 : decode cX10_ship 37 = .ok (.iconst 5, 1) := by decide +kernel
theorem dX10_ship_38 : decode cX10_ship 38 = .ok (.if_icmp .lt 6, 3) := by decide +kernel
theorem dX10_ship_41 : decode cX10_ship 41 = .ok (.bipush (-3), 2) := by decide +kernel
theorem dX10_ship_43 : decode cX10_ship 43 = .ok (.ireturn, 1) := by decide +kernel
theorem dX10_ship_44 : decode cX10_ship 44 = .ok (.aload_n 0, 1) := by decide +kernel
theorem dX10_ship_45 : decode cX10_ship 45 = .ok (.getfield 12, 3) := by decide +kernel
theorem dX10_ship_48 : decode cX10_ship 48 = .ok (.getfield 85, 3) := by decide +kernel
theorem dX10_ship_51 : decode cX10_ship 51 = .ok (.aload_n 0, 1) := by decide +kernel
theorem dX10_ship_52 : decode cX10_ship 52 = .ok (.getfield 12, 3) := by decide +kernel
theorem dX10_ship_55 : decode cX10_ship 55 = .ok (.getfield 82, 3) := by decide +kernel
theorem dX10_ship_58 : decode cX10_ship 58 = .ok (.aaload, 1) := by decide +kernel
theorem dX10_ship_59 : decode cX10_ship 59 = .ok (.iload_n 1, 1) := by decide +kernel
theorem dX10_ship_60 : decode cX10_ship 60 = .ok (.iload_n 2, 1) := by decide +kernel
theorem dX10_ship_61 : decode cX10_ship 61 = .ok (.iload_n 3, 1) := by decide +kernel
theorem dX10_ship_62 : decode cX10_ship 62 = .ok (.invokevirtual 89, 3) := by decide +kernel
theorem dX10_ship_65 : decode cX10_ship 65 = .ok (.aload_n 0, 1) := by decide +kernel
theorem dX10_ship_66 : decode cX10_ship 66 = .ok (.getfield 12, 3) := by decide +kernel
theorem dX10_ship_69 : decode cX10_ship 69 = .ok (.dup, 1) := by decide +kernel
theorem dX10_ship_70 : decode cX10_ship 70 = .ok (.getfield 82, 3) := by decide +kernel
theorem dX10_ship_73 : decode cX10_ship 73 = .ok (.dup_x1, 1) := by decide +kernel
theorem dX10_ship_74 : decode cX10_ship 74 = .ok (.iconst 1, 1) := by decide +kernel
theorem dX10_ship_75 : decode cX10_ship 75 = .ok (.iadd, 1) := by decide +kernel
theorem dX10_ship_76 : decode cX10_ship 76 = .ok (.putfield 82, 3) := by decide +kernel
theorem dX10_ship_79 : decode cX10_ship 79 = .ok (.ireturn, 1) := by decide +kernel
theorem dX10_of_0 : decode cX10_of 0 = .ok (.aload_n 0, 1) := by decide +kernel
theorem dX10_of_1 : decode cX10_of 1 = .ok (.iload_n 1, 1) := by decide +kernel
theorem dX10_of_2 : decode cX10_of 2 = .ok (.invokevirtual 72, 3) := by decide +kernel
theorem dX10_of_5 : decode cX10_of 5 = .ok (.ifCond .ne 5, 3) := by decide +kernel
theorem dX10_of_8 : decode cX10_of 8 = .ok (.iconst (-1), 1) := by decide +kernel
theorem dX10_of_9 : decode cX10_of 9 = .ok (.ireturn, 1) := by decide +kernel
theorem dX10_of_10 : decode cX10_of 10 = .ok (.aload_n 0, 1) := by decide +kernel
theorem dX10_of_11 : decode cX10_of 11 = .ok (.getfield 12, 3) := by decide +kernel
theorem dX10_of_14 : decode cX10_of 14 = .ok (.getfield 62, 3) := by decide +kernel
theorem dX10_of_17 : decode cX10_of 17 = .ok (.iload_n 1, 1) := by decide +kernel
theorem dX10_of_18 : decode cX10_of 18 = .ok (.aaload, 1) := by decide +kernel
theorem dX10_of_19 : decode cX10_of 19 = .ok (.astore_n 3, 1) := by decide +kernel
theorem dX10_of_20 : decode cX10_of 20 = .ok (.iload_n 2, 1) := by decide +kernel
theorem dX10_of_21 : decode cX10_of 21 = .ok (.tableswitch 60 0 4 #[35, 40, 45, 50, 55], 35) := by decide +kernel
theorem dX10_of_56 : decode cX10_of 56 = .ok (.aload_n 3, 1) := by decide +kernel
theorem dX10_of_57 : decode cX10_of 57 = .ok (.getfield 94, 3) := by decide +kernel
theorem dX10_of_60 : decode cX10_of 60 = .ok (.ireturn, 1) := by decide +kernel
theorem dX10_of_61 : decode cX10_of 61 = .ok (.aload_n 3, 1) := by decide +kernel
theorem dX10_of_62 : decode cX10_of 62 = .ok (.getfield 97, 3) := by decide +kernel
theorem dX10_of_65 : decode cX10_of 65 = .ok (.ireturn, 1) := by decide +kernel
theorem dX10_of_66 : decode cX10_of 66 = .ok (.aload_n 3, 1) := by decide +kernel
theorem dX10_of_67 : decode cX10_of 67 = .ok (.getfield 76, 3) := by decide +kernel
theorem dX10_of_70 : decode cX10_of 70 = .ok (.ireturn, 1) := by decide +kernel
theorem dX10_of_71 : decode cX10_of 71 = .ok (.aload_n 3, 1) := by decide +kernel
theorem dX10_of_72 : decode cX10_of 72 = .ok (.getfield 100, 3) := by decide +kernel
theorem dX10_of_75 : decode cX10_of 75 = .ok (.ireturn, 1) := by decide +kernel
theorem dX10_of_76 : decode cX10_of 76 = .ok (.aload_n 3, 1) := by decide +kernel
theorem dX10_of_77 : decode cX10_of 77 = .ok (.getfield 79, 3) := by decide +kernel
theorem dX10_of_80 : decode cX10_of 80 = .ok (.ireturn, 1) := by decide +kernel
theorem dX10_of_81 : decode cX10_of 81 = .ok (.iconst (-1), 1) := by decide +kernel
theorem dX10_of_82 : decode cX10_of 82 = .ok (.ireturn, 1) := by decide +kernel
theorem dX10_told_0 : decode cX10_told 0 = .ok (.aload_n 0, 1) := by decide +kernel
theorem dX10_told_1 : decode cX10_told 1 = .ok (.iload_n 1, 1) := by decide +kernel
theorem dX10_told_2 : decode cX10_told 2 = .ok (.invokevirtual 103, 3) := by decide +kernel
theorem dX10_told_5 : decode cX10_told 5 = .ok (.ifCond .ne 5, 3) := by decide +kernel
theorem dX10_told_8 : decode cX10_told 8 = .ok (.iconst (-1), 1) := by decide +kernel
theorem dX10_told_9 : decode cX10_told 9 = .ok (.ireturn, 1) := by decide +kernel
theorem dX10_told_10 : decode cX10_told 10 = .ok (.aload_n 0, 1) := by decide +kernel
theorem dX10_told_11 : decode cX10_told 11 = .ok (.getfield 12, 3) := by decide +kernel
theorem dX10_told_14 : decode cX10_told 14 = .ok (.getfield 85, 3) := by decide +kernel
theorem dX10_told_17 : decode cX10_told 17 = .ok (.iload_n 1, 1) := by decide +kernel
theorem dX10_told_18 : decode cX10_told 18 = .ok (.aaload, 1) := by decide +kernel
theorem dX10_told_19 : decode cX10_told 19 = .ok (.astore_n 3, 1) := by decide +kernel
theorem dX10_told_20 : decode cX10_told 20 = .ok (.iload_n 2, 1) := by decide +kernel
theorem dX10_told_21 : decode cX10_told 21 = .ok (.tableswitch 69 0 5 #[39, 44, 49, 54, 59, 64], 39) := by decide +kernel
theorem dX10_told_60 : decode cX10_told 60 = .ok (.aload_n 3, 1) := by decide +kernel
theorem dX10_told_61 : decode cX10_told 61 = .ok (.getfield 106, 3) := by decide +kernel
theorem dX10_told_64 : decode cX10_told 64 = .ok (.ireturn, 1) := by decide +kernel
theorem dX10_told_65 : decode cX10_told 65 = .ok (.aload_n 3, 1) := by decide +kernel
theorem dX10_told_66 : decode cX10_told 66 = .ok (.getfield 107, 3) := by decide +kernel
theorem dX10_told_69 : decode cX10_told 69 = .ok (.ireturn, 1) := by decide +kernel
theorem dX10_told_70 : decode cX10_told 70 = .ok (.aload_n 3, 1) := by decide +kernel
theorem dX10_told_71 : decode cX10_told 71 = .ok (.getfield 110, 3) := by decide +kernel
theorem dX10_told_74 : decode cX10_told 74 = .ok (.ireturn, 1) := by decide +kernel
theorem dX10_told_75 : decode cX10_told 75 = .ok (.aload_n 3, 1) := by decide +kernel
theorem dX10_told_76 : decode cX10_told 76 = .ok (.invokevirtual 113, 3) := by decide +kernel
theorem dX10_told_79 : decode cX10_told 79 = .ok (.ireturn, 1) := by decide +kernel
theorem dX10_told_80 : decode cX10_told 80 = .ok (.aload_n 3, 1) := by decide +kernel
theorem dX10_told_81 : decode cX10_told 81 = .ok (.invokevirtual 117, 3) := by decide +kernel
theorem dX10_told_84 : decode cX10_told 84 = .ok (.ireturn, 1) := by decide +kernel
theorem dX10_told_85 : decode cX10_told 85 = .ok (.aload_n 3, 1) := by decide +kernel
theorem dX10_told_86 : decode cX10_told 86 = .ok (.invokevirtual 120, 3) := by decide +kernel
theorem dX10_told_89 : decode cX10_told 89 = .ok (.ireturn, 1) := by decide +kernel
theorem dX10_told_90 : decode cX10_told 90 = .ok (.iconst (-1), 1) := by decide +kernel
theorem dX10_told_91 : decode cX10_told 91 = .ok (.ireturn, 1) := by decide +kernel
theorem dX10_open_0 : decode cX10_open 0 = .ok (.aload_n 0, 1) := by decide +kernel
theorem dX10_open_1 : decode cX10_open 1 = .ok (.iload_n 1, 1) := by decide +kernel
theorem dX10_open_2 : decode cX10_open 2 = .ok (.invokevirtual 72, 3) := by decide +kernel
theorem dX10_open_5 : decode cX10_open 5 = .ok (.ifCond .eq 13, 3) := by decide +kernel
theorem dX10_open_8 : decode cX10_open 8 = .ok (.iload_n 2, 1) := by decide +kernel
theorem dX10_open_9 : decode cX10_open 9 = .ok (.iconst 0, 1) := by decide +kernel
theorem dX10_open_10 : decode cX10_open 10 = .ok (.ldc 123, 2) := by decide +kernel
theorem dX10_open_12 : decode cX10_open 12 = .ok (.invokestatic 54, 3) := by decide +kernel
theorem dX10_open_15 : decode cX10_open 15 = .ok (.ifCond .ne 5, 3) := by decide +kernel
theorem dX10_open_18 : decode cX10_open 18 = .ok (.iconst (-1), 1) := by decide +kernel
theorem dX10_open_19 : decode cX10_open 19 = .ok (.ireturn, 1) := by decide +kernel
theorem dX10_open_20 : decode cX10_open 20 = .ok (.aload_n 0, 1) := by decide +kernel
theorem dX10_open_21 : decode cX10_open 21 = .ok (.getfield 12, 3) := by decide +kernel
theorem dX10_open_24 : decode cX10_open 24 = .ok (.getfield 62, 3) := by decide +kernel
theorem dX10_open_27 : decode cX10_open 27 = .ok (.iload_n 1, 1) := by decide +kernel
theorem dX10_open_28 : decode cX10_open 28 = .ok (.aaload, 1) := by decide +kernel
theorem dX10_open_29 : decode cX10_open 29 = .ok (.iload_n 2, 1) := by decide +kernel
theorem dX10_open_30 : decode cX10_open 30 = .ok (.invokevirtual 124, 3) := by decide +kernel
theorem dX10_open_33 : decode cX10_open 33 = .ok (.invokestatic 127, 3) := by decide +kernel
theorem dX10_open_36 : decode cX10_open 36 = .ok (.ireturn, 1) := by decide +kernel
theorem dX10_type_0 : decode cX10_type 0 = .ok (.iload_n 1, 1) := by decide +kernel
theorem dX10_type_1 : decode cX10_type 1 = .ok (.bipush 32, 2) := by decide +kernel
theorem dX10_type_3 : decode cX10_type 3 = .ok (.bipush 126, 2) := by decide +kernel
theorem dX10_type_5 : decode cX10_type 5 = .ok (.invokestatic 54, 3) := by decide +kernel
theorem dX10_type_8 : decode cX10_type 8 = .ok (.ifCond .ne 5, 3) := by decide +kernel
theorem dX10_type_11 : decode cX10_type 11 = .ok (.iconst (-1), 1) := by decide +kernel
theorem dX10_type_12 : decode cX10_type 12 = .ok (.ireturn, 1) := by decide +kernel
theorem dX10_type_13 : decode cX10_type 13 = .ok (.aload_n 0, 1) := by decide +kernel
theorem dX10_type_14 : decode cX10_type 14 = .ok (.getfield 22, 3) := by decide +kernel
theorem dX10_type_17 : decode cX10_type 17 = .ok (.iload_n 1, 1) := by decide +kernel
theorem dX10_type_18 : decode cX10_type 18 = .ok (.i2c, 1) := by decide +kernel
theorem dX10_type_19 : decode cX10_type 19 = .ok (.invokevirtual 131, 3) := by decide +kernel
theorem dX10_type_22 : decode cX10_type 22 = .ok (.ifCond .eq 13, 3) := by decide +kernel
theorem dX10_type_25 : decode cX10_type 25 = .ok (.aload_n 0, 1) := by decide +kernel
theorem dX10_type_26 : decode cX10_type 26 = .ok (.getfield 22, 3) := by decide +kernel
theorem dX10_type_29 : decode cX10_type 29 = .ok (.getfield 135, 3) := by decide +kernel
theorem dX10_type_32 : decode cX10_type 32 = .ok (.goto 5, 3) := by decide +kernel
theorem dX10_type_35 : decode cX10_type 35 = .ok (.bipush (-3), 2) := by decide +kernel
theorem dX10_type_37 : decode cX10_type 37 = .ok (.ireturn, 1) := by decide +kernel
theorem dX10_strait_0 : decode cX10_strait 0 = .ok (.aload_n 0, 1) := by decide +kernel
theorem dX10_strait_1 : decode cX10_strait 1 = .ok (.getfield 22, 3) := by decide +kernel
theorem dX10_strait_4 : decode cX10_strait 4 = .ok (.invokevirtual 138, 3) := by decide +kernel
theorem dX10_strait_7 : decode cX10_strait 7 = .ok (.istore_n 1, 1) := by decide +kernel
theorem dX10_strait_8 : decode cX10_strait 8 = .ok (.bipush (-20), 2) := by decide +kernel
theorem dX10_strait_10 : decode cX10_strait 10 = .ok (.aload_n 0, 1) := by decide +kernel
theorem dX10_strait_11 : decode cX10_strait 11 = .ok (.getfield 22, 3) := by decide +kernel
theorem dX10_strait_14 : decode cX10_strait 14 = .ok (.getfield 142, 3) := by decide +kernel
theorem dX10_strait_17 : decode cX10_strait 17 = .ok (.isub, 1) := by decide +kernel
theorem dX10_strait_18 : decode cX10_strait 18 = .ok (.istore_n 2, 1) := by decide +kernel
theorem dX10_strait_19 : decode cX10_strait 19 = .ok (.aload_n 0, 1) := by decide +kernel
theorem dX10_strait_20 : decode cX10_strait 20 = .ok (.getfield 22, 3) := by decide +kernel
theorem dX10_strait_23 : decode cX10_strait 23 = .ok (.iconst 0, 1) := by decide +kernel
theorem dX10_strait_24 : decode cX10_strait 24 = .ok (.putfield 135, 3) := by decide +kernel
theorem dX10_strait_27 : decode cX10_strait 27 = .ok (.iload_n 1, 1) := by decide +kernel
theorem dX10_strait_28 : decode cX10_strait 28 = .ok (.ifCond .ne 5, 3) := by decide +kernel
theorem dX10_strait_31 : decode cX10_strait 31 = .ok (.iload_n 2, 1) := by decide +kernel
theorem dX10_strait_32 : decode cX10_strait 32 = .ok (.ireturn, 1) := by decide +kernel
theorem dX10_strait_33 : decode cX10_strait 33 = .ok (.aload_n 0, 1) := by decide +kernel
theorem dX10_strait_34 : decode cX10_strait 34 = .ok (.getfield 12, 3) := by decide +kernel
theorem dX10_strait_37 : decode cX10_strait 37 = .ok (.aload_n 0, 1) := by decide +kernel
theorem dX10_strait_38 : decode cX10_strait 38 = .ok (.getfield 22, 3) := by decide +kernel
theorem dX10_strait_41 : decode cX10_strait 41 = .ok (.invokevirtual 145, 3) := by decide +kernel
theorem dX10_strait_44 : decode cX10_strait 44 = .ok (.aload_n 0, 1) := by decide +kernel
theorem dX10_strait_45 : decode cX10_strait 45 = .ok (.getfield 12, 3) := by decide +kernel
theorem dX10_strait_48 : decode cX10_strait 48 = .ok (.getfield 58, 3) := by decide +kernel
theorem dX10_strait_51 : decode cX10_strait 51 = .ok (.ireturn, 1) := by decide +kernel
theorem dX10_count_0 : decode cX10_count 0 = .ok (.iload_n 1, 1) := by decide +kernel
theorem dX10_count_1 : decode cX10_count 1 = .ok (.tableswitch 145 0 7 #[47, 55, 63, 74, 104, 115, 126, 134], 47) := by decide +kernel
theorem dX10_count_48 : decode cX10_count 48 = .ok (.aload_n 0, 1) := by decide +kernel
theorem dX10_count_49 : decode cX10_count 49 = .ok (.getfield 12, 3) := by decide +kernel
theorem dX10_count_52 : decode cX10_count 52 = .ok (.getfield 58, 3) := by decide +kernel
theorem dX10_count_55 : decode cX10_count 55 = .ok (.ireturn, 1) := by decide +kernel
theorem dX10_count_56 : decode cX10_count 56 = .ok (.aload_n 0, 1) := by decide +kernel
theorem dX10_count_57 : decode cX10_count 57 = .ok (.getfield 12, 3) := by decide +kernel
theorem dX10_count_60 : decode cX10_count 60 = .ok (.getfield 82, 3) := by decide +kernel
theorem dX10_count_63 : decode cX10_count 63 = .ok (.ireturn, 1) := by decide +kernel
theorem dX10_count_64 : decode cX10_count 64 = .ok (.aload_n 0, 1) := by decide +kernel
theorem dX10_count_65 : decode cX10_count 65 = .ok (.getfield 12, 3) := by decide +kernel
theorem dX10_count_68 : decode cX10_count 68 = .ok (.getfield 149, 3) := by decide +kernel
theorem dX10_count_71 : decode cX10_count 71 = .ok (.getfield 153, 3) := by decide +kernel
theorem dX10_count_74 : decode cX10_count 74 = .ok (.ireturn, 1) := by decide +kernel
theorem dX10_count_75 : decode cX10_count 75 = .ok (.aload_n 0, 1) := by decide +kernel
theorem dX10_count_76 : decode cX10_count 76 = .ok (.getfield 12, 3) := by decide +kernel
theorem dX10_count_79 : decode cX10_count 79 = .ok (.getfield 149, 3) := by decide +kernel
theorem dX10_count_82 : decode cX10_count 82 = .ok (.getfield 158, 3) := by decide +kernel
theorem dX10_count_85 : decode cX10_count 85 = .ok (.iconst (-1), 1) := by decide +kernel
theorem dX10_count_86 : decode cX10_count 86 = .ok (.if_icmp .ne 8, 3) := by decide +kernel
theorem dX10_count_89 : decode cX10_count 89 = .ok (.bipush (-4), 2) := by decide +kernel
theorem dX10_count_91 : decode cX10_count 91 = .ok (.goto 13, 3) := by decide +kernel
theorem dX10_count_94 : decode cX10_count 94 = .ok (.aload_n 0, 1) := by decide +kernel
theorem dX10_count_95 : decode cX10_count 95 = .ok (.getfield 12, 3) := by decide +kernel
theorem dX10_count_98 : decode cX10_count 98 = .ok (.getfield 149, 3) := by decide +kernel
theorem dX10_count_101 : decode cX10_count 101 = .ok (.getfield 158, 3) := by decide +kernel
theorem dX10_count_104 : decode cX10_count 104 = .ok (.ireturn, 1) := by decide +kernel
theorem dX10_count_105 : decode cX10_count 105 = .ok (.aload_n 0, 1) := by decide +kernel
theorem dX10_count_106 : decode cX10_count 106 = .ok (.getfield 12, 3) := by decide +kernel
theorem dX10_count_109 : decode cX10_count 109 = .ok (.getfield 149, 3) := by decide +kernel
theorem dX10_count_112 : decode cX10_count 112 = .ok (.getfield 161, 3) := by decide +kernel
theorem dX10_count_115 : decode cX10_count 115 = .ok (.ireturn, 1) := by decide +kernel
theorem dX10_count_116 : decode cX10_count 116 = .ok (.aload_n 0, 1) := by decide +kernel
theorem dX10_count_117 : decode cX10_count 117 = .ok (.getfield 12, 3) := by decide +kernel
theorem dX10_count_120 : decode cX10_count 120 = .ok (.getfield 149, 3) := by decide +kernel
theorem dX10_count_123 : decode cX10_count 123 = .ok (.getfield 164, 3) := by decide +kernel
theorem dX10_count_126 : decode cX10_count 126 = .ok (.ireturn, 1) := by decide +kernel
theorem dX10_count_127 : decode cX10_count 127 = .ok (.aload_n 0, 1) := by decide +kernel
theorem dX10_count_128 : decode cX10_count 128 = .ok (.getfield 12, 3) := by decide +kernel
theorem dX10_count_131 : decode cX10_count 131 = .ok (.getfield 167, 3) := by decide +kernel
theorem dX10_count_134 : decode cX10_count 134 = .ok (.ireturn, 1) := by decide +kernel
theorem dX10_count_135 : decode cX10_count 135 = .ok (.aload_n 0, 1) := by decide +kernel
theorem dX10_count_136 : decode cX10_count 136 = .ok (.getfield 12, 3) := by decide +kernel
theorem dX10_count_139 : decode cX10_count 139 = .ok (.getfield 170, 3) := by decide +kernel
theorem dX10_count_142 : decode cX10_count 142 = .ok (.getfield 174, 3) := by decide +kernel
theorem dX10_count_145 : decode cX10_count 145 = .ok (.ireturn, 1) := by decide +kernel
theorem dX10_count_146 : decode cX10_count 146 = .ok (.iconst (-1), 1) := by decide +kernel
theorem dX10_count_147 : decode cX10_count 147 = .ok (.ireturn, 1) := by decide +kernel
theorem dX10_setOut_0 : decode cX10_setOut 0 = .ok (.aload_n 0, 1) := by decide +kernel
theorem dX10_setOut_1 : decode cX10_setOut 1 = .ok (.iload_n 1, 1) := by decide +kernel
theorem dX10_setOut_2 : decode cX10_setOut 2 = .ok (.invokevirtual 103, 3) := by decide +kernel
theorem dX10_setOut_5 : decode cX10_setOut 5 = .ok (.ifCond .ne 5, 3) := by decide +kernel
theorem dX10_setOut_8 : decode cX10_setOut 8 = .ok (.iconst (-1), 1) := by decide +kernel
theorem dX10_setOut_9 : decode cX10_setOut 9 = .ok (.ireturn, 1) := by decide +kernel
theorem dX10_setOut_10 : decode cX10_setOut 10 = .ok (.aload_n 0, 1) := by decide +kernel
theorem dX10_setOut_11 : decode cX10_setOut 11 = .ok (.getfield 12, 3) := by decide +kernel
theorem dX10_setOut_14 : decode cX10_setOut 14 = .ok (.getfield 149, 3) := by decide +kernel
theorem dX10_setOut_17 : decode cX10_setOut 17 = .ok (.astore_n 2, 1) := by decide +kernel
theorem dX10_setOut_18 : decode cX10_setOut 18 = .ok (.aload_n 2, 1) := by decide +kernel
theorem dX10_setOut_19 : decode cX10_setOut 19 = .ok (.getfield 158, 3) := by decide +kernel
theorem dX10_setOut_22 : decode cX10_setOut 22 = .ok (.iconst (-1), 1) := by decide +kernel
theorem dX10_setOut_23 : decode cX10_setOut 23 = .ok (.if_icmp .eq 20, 3) := by decide +kernel
theorem dX10_setOut_26 : decode cX10_setOut 26 = .ok (.aload_n 2, 1) := by decide +kernel
theorem dX10_setOut_27 : decode cX10_setOut 27 = .ok (.getfield 161, 3) := by decide +kernel
theorem dX10_setOut_30 : decode cX10_setOut 30 = .ok (.aload_n 0, 1) := by decide +kernel
theorem dX10_setOut_31 : decode cX10_setOut 31 = .ok (.getfield 12, 3) := by decide +kernel
theorem dX10_setOut_34 : decode cX10_setOut 34 = .ok (.getfield 58, 3) := by decide +kernel
theorem dX10_setOut_37 : decode cX10_setOut 37 = .ok (.if_icmp .ge 6, 3) := by decide +kernel
theorem dX10_setOut_40 : decode cX10_setOut 40 = .ok (.bipush (-2), 2) := by decide +kernel
theorem dX10_setOut_42 : decode cX10_setOut 42 = .ok (.ireturn, 1) := by decide +kernel
theorem dX10_setOut_43 : decode cX10_setOut 43 = .ok (.aload_n 0, 1) := by decide +kernel
theorem dX10_setOut_44 : decode cX10_setOut 44 = .ok (.getfield 12, 3) := by decide +kernel
theorem dX10_setOut_47 : decode cX10_setOut 47 = .ok (.invokevirtual 177, 3) := by decide +kernel
theorem dX10_setOut_50 : decode cX10_setOut 50 = .ok (.aload_n 2, 1) := by decide +kernel
theorem dX10_setOut_51 : decode cX10_setOut 51 = .ok (.iload_n 1, 1) := by decide +kernel
theorem dX10_setOut_52 : decode cX10_setOut 52 = .ok (.putfield 158, 3) := by decide +kernel
theorem dX10_setOut_55 : decode cX10_setOut 55 = .ok (.aload_n 2, 1) := by decide +kernel
theorem dX10_setOut_56 : decode cX10_setOut 56 = .ok (.iconst 0, 1) := by decide +kernel
theorem dX10_setOut_57 : decode cX10_setOut 57 = .ok (.putfield 161, 3) := by decide +kernel
theorem dX10_setOut_60 : decode cX10_setOut 60 = .ok (.aload_n 2, 1) := by decide +kernel
theorem dX10_setOut_61 : decode cX10_setOut 61 = .ok (.iconst 0, 1) := by decide +kernel
theorem dX10_setOut_62 : decode cX10_setOut 62 = .ok (.putfield 164, 3) := by decide +kernel
theorem dX10_setOut_65 : decode cX10_setOut 65 = .ok (.aload_n 0, 1) := by decide +kernel
theorem dX10_setOut_66 : decode cX10_setOut 66 = .ok (.getfield 12, 3) := by decide +kernel
theorem dX10_setOut_69 : decode cX10_setOut 69 = .ok (.getfield 58, 3) := by decide +kernel
theorem dX10_setOut_72 : decode cX10_setOut 72 = .ok (.ireturn, 1) := by decide +kernel
theorem dX10_idle_0 : decode cX10_idle 0 = .ok (.iload_n 1, 1) := by decide +kernel
theorem dX10_idle_1 : decode cX10_idle 1 = .ok (.iconst 1, 1) := by decide +kernel
theorem dX10_idle_2 : decode cX10_idle 2 = .ok (.bipush 99, 2) := by decide +kernel
theorem dX10_idle_4 : decode cX10_idle 4 = .ok (.invokestatic 54, 3) := by decide +kernel
theorem dX10_idle_7 : decode cX10_idle 7 = .ok (.ifCond .ne 5, 3) := by decide +kernel
theorem dX10_idle_10 : decode cX10_idle 10 = .ok (.iconst (-1), 1) := by decide +kernel
theorem dX10_idle_11 : decode cX10_idle 11 = .ok (.ireturn, 1) := by decide +kernel
theorem dX10_idle_12 : decode cX10_idle 12 = .ok (.aload_n 0, 1) := by decide +kernel
theorem dX10_idle_13 : decode cX10_idle 13 = .ok (.getfield 12, 3) := by decide +kernel
theorem dX10_idle_16 : decode cX10_idle 16 = .ok (.getfield 149, 3) := by decide +kernel
theorem dX10_idle_19 : decode cX10_idle 19 = .ok (.getfield 153, 3) := by decide +kernel
theorem dX10_idle_22 : decode cX10_idle 22 = .ok (.iload_n 1, 1) := by decide +kernel
theorem dX10_idle_23 : decode cX10_idle 23 = .ok (.iadd, 1) := by decide +kernel
theorem dX10_idle_24 : decode cX10_idle 24 = .ok (.sipush 9999, 3) := by decide +kernel
theorem dX10_idle_27 : decode cX10_idle 27 = .ok (.if_icmp .le 6, 3) := by decide +kernel
theorem dX10_idle_30 : decode cX10_idle 30 = .ok (.bipush (-3), 2) := by decide +kernel
theorem dX10_idle_32 : decode cX10_idle 32 = .ok (.ireturn, 1) := by decide +kernel
theorem dX10_idle_33 : decode cX10_idle 33 = .ok (.aload_n 0, 1) := by decide +kernel
theorem dX10_idle_34 : decode cX10_idle 34 = .ok (.getfield 12, 3) := by decide +kernel
theorem dX10_idle_37 : decode cX10_idle 37 = .ok (.invokevirtual 177, 3) := by decide +kernel
theorem dX10_idle_40 : decode cX10_idle 40 = .ok (.aload_n 0, 1) := by decide +kernel
theorem dX10_idle_41 : decode cX10_idle 41 = .ok (.getfield 12, 3) := by decide +kernel
theorem dX10_idle_44 : decode cX10_idle 44 = .ok (.getfield 149, 3) := by decide +kernel
theorem dX10_idle_47 : decode cX10_idle 47 = .ok (.dup, 1) := by decide +kernel
theorem dX10_idle_48 : decode cX10_idle 48 = .ok (.getfield 153, 3) := by decide +kernel
theorem dX10_idle_51 : decode cX10_idle 51 = .ok (.iload_n 1, 1) := by decide +kernel
theorem dX10_idle_52 : decode cX10_idle 52 = .ok (.iadd, 1) := by decide +kernel
theorem dX10_idle_53 : decode cX10_idle 53 = .ok (.putfield 153, 3) := by decide +kernel
theorem dX10_idle_56 : decode cX10_idle 56 = .ok (.aload_n 0, 1) := by decide +kernel
theorem dX10_idle_57 : decode cX10_idle 57 = .ok (.getfield 12, 3) := by decide +kernel
theorem dX10_idle_60 : decode cX10_idle 60 = .ok (.getfield 149, 3) := by decide +kernel
theorem dX10_idle_63 : decode cX10_idle 63 = .ok (.getfield 153, 3) := by decide +kernel
theorem dX10_idle_66 : decode cX10_idle 66 = .ok (.ireturn, 1) := by decide +kernel
theorem dX10_pass_0 : decode cX10_pass 0 = .ok (.aload_n 0, 1) := by decide +kernel
theorem dX10_pass_1 : decode cX10_pass 1 = .ok (.getfield 12, 3) := by decide +kernel
theorem dX10_pass_4 : decode cX10_pass 4 = .ok (.getfield 149, 3) := by decide +kernel
theorem dX10_pass_7 : decode cX10_pass 7 = .ok (.astore_n 2, 1) := by decide +kernel
theorem dX10_pass_8 : decode cX10_pass 8 = .ok (.aload_n 0, 1) := by decide +kernel
theorem dX10_pass_9 : decode cX10_pass 9 = .ok (.aload_n 2, 1) := by decide +kernel
theorem dX10_pass_10 : decode cX10_pass 10 = .ok (.getfield 158, 3) := by decide +kernel
theorem dX10_pass_13 : decode cX10_pass 13 = .ok (.invokevirtual 103, 3) := by decide +kernel
theorem dX10_pass_16 : decode cX10_pass 16 = .ok (.ifCond .eq 14, 3) := by decide +kernel
theorem dX10_pass_19 : decode cX10_pass 19 = .ok (.aload_n 0, 1) := by decide +kernel
theorem dX10_pass_20 : decode cX10_pass 20 = .ok (.aload_n 2, 1) := by decide +kernel
theorem dX10_pass_21 : decode cX10_pass 21 = .ok (.getfield 161, 3) := by decide +kernel
theorem dX10_pass_24 : decode cX10_pass 24 = .ok (.invokevirtual 72, 3) := by decide +kernel
theorem dX10_pass_27 : decode cX10_pass 27 = .ok (.ifCond .ne 6, 3) := by decide +kernel
theorem dX10_pass_30 : decode cX10_pass 30 = .ok (.bipush (-2), 2) := by decide +kernel
theorem dX10_pass_32 : decode cX10_pass 32 = .ok (.ireturn, 1) := by decide +kernel
theorem dX10_pass_33 : decode cX10_pass 33 = .ok (.aload_n 0, 1) := by decide +kernel
theorem dX10_pass_34 : decode cX10_pass 34 = .ok (.getfield 12, 3) := by decide +kernel
theorem dX10_pass_37 : decode cX10_pass 37 = .ok (.getfield 85, 3) := by decide +kernel
theorem dX10_pass_40 : decode cX10_pass 40 = .ok (.aload_n 2, 1) := by decide +kernel
theorem dX10_pass_41 : decode cX10_pass 41 = .ok (.getfield 158, 3) := by decide +kernel
theorem dX10_pass_44 : decode cX10_pass 44 = .ok (.aaload, 1) := by decide +kernel
theorem dX10_pass_45 : decode cX10_pass 45 = .ok (.astore_n 3, 1) := by decide +kernel
theorem dX10_pass_46 : decode cX10_pass 46 = .ok (.iload_n 1, 1) := by decide +kernel
theorem dX10_pass_47 : decode cX10_pass 47 = .ok (.aload_n 3, 1) := by decide +kernel
theorem dX10_pass_48 : decode cX10_pass 48 = .ok (.invokevirtual 113, 3) := by decide +kernel
theorem dX10_pass_51 : decode cX10_pass 51 = .ok (.aload_n 3, 1) := by decide +kernel
theorem dX10_pass_52 : decode cX10_pass 52 = .ok (.invokevirtual 117, 3) := by decide +kernel
theorem dX10_pass_55 : decode cX10_pass 55 = .ok (.invokestatic 54, 3) := by decide +kernel
theorem dX10_pass_58 : decode cX10_pass 58 = .ok (.ifCond .ne 5, 3) := by decide +kernel
theorem dX10_pass_61 : decode cX10_pass 61 = .ok (.iconst (-1), 1) := by decide +kernel
theorem dX10_pass_62 : decode cX10_pass 62 = .ok (.ireturn, 1) := by decide +kernel
theorem dX10_pass_63 : decode cX10_pass 63 = .ok (.aload_n 0, 1) := by decide +kernel
theorem dX10_pass_64 : decode cX10_pass 64 = .ok (.getfield 29, 3) := by decide +kernel
theorem dX10_pass_67 : decode cX10_pass 67 = .ok (.aload_n 0, 1) := by decide +kernel
theorem dX10_pass_68 : decode cX10_pass 68 = .ok (.getfield 12, 3) := by decide +kernel
theorem dX10_pass_71 : decode cX10_pass 71 = .ok (.getfield 62, 3) := by decide +kernel
theorem dX10_pass_74 : decode cX10_pass 74 = .ok (.aload_n 2, 1) := by decide +kernel
theorem dX10_pass_75 : decode cX10_pass 75 = .ok (.getfield 161, 3) := by decide +kernel
theorem dX10_pass_78 : decode cX10_pass 78 = .ok (.aaload, 1) := by decide +kernel
theorem dX10_pass_79 : decode cX10_pass 79 = .ok (.aload_n 3, 1) := by decide +kernel
theorem dX10_pass_80 : decode cX10_pass 80 = .ok (.aload_n 2, 1) := by decide +kernel
theorem dX10_pass_81 : decode cX10_pass 81 = .ok (.getfield 153, 3) := by decide +kernel
theorem dX10_pass_84 : decode cX10_pass 84 = .ok (.iload_n 1, 1) := by decide +kernel
theorem dX10_pass_85 : decode cX10_pass 85 = .ok (.invokevirtual 180, 3) := by decide +kernel
theorem dX10_pass_88 : decode cX10_pass 88 = .ok (.istore 4, 2) := by decide +kernel
theorem dX10_pass_90 : decode cX10_pass 90 = .ok (.aload_n 0, 1) := by decide +kernel
theorem dX10_pass_91 : decode cX10_pass 91 = .ok (.getfield 29, 3) := by decide +kernel
theorem dX10_pass_94 : decode cX10_pass 94 = .ok (.getfield 184, 3) := by decide +kernel
theorem dX10_pass_97 : decode cX10_pass 97 = .ok (.sipush 9999, 3) := by decide +kernel
theorem dX10_pass_100 : decode cX10_pass 100 = .ok (.if_icmp .le 6, 3) := by decide +kernel
theorem dX10_pass_103 : decode cX10_pass 103 = .ok (.bipush (-3), 2) := by decide +kernel
theorem dX10_pass_105 : decode cX10_pass 105 = .ok (.ireturn, 1) := by decide +kernel
theorem dX10_pass_106 : decode cX10_pass 106 = .ok (.aload_n 0, 1) := by decide +kernel
theorem dX10_pass_107 : decode cX10_pass 107 = .ok (.getfield 12, 3) := by decide +kernel
theorem dX10_pass_110 : decode cX10_pass 110 = .ok (.invokevirtual 177, 3) := by decide +kernel
theorem dX10_pass_113 : decode cX10_pass 113 = .ok (.aload_n 2, 1) := by decide +kernel
theorem dX10_pass_114 : decode cX10_pass 114 = .ok (.aload_n 0, 1) := by decide +kernel
theorem dX10_pass_115 : decode cX10_pass 115 = .ok (.getfield 29, 3) := by decide +kernel
theorem dX10_pass_118 : decode cX10_pass 118 = .ok (.getfield 184, 3) := by decide +kernel
theorem dX10_pass_121 : decode cX10_pass 121 = .ok (.putfield 153, 3) := by decide +kernel
theorem dX10_pass_124 : decode cX10_pass 124 = .ok (.iload 4, 2) := by decide +kernel
theorem dX10_pass_126 : decode cX10_pass 126 = .ok (.iconst 2, 1) := by decide +kernel
theorem dX10_pass_127 : decode cX10_pass 127 = .ok (.if_icmp .ne 11, 3) := by decide +kernel
theorem dX10_pass_130 : decode cX10_pass 130 = .ok (.aload_n 2, 1) := by decide +kernel
theorem dX10_pass_131 : decode cX10_pass 131 = .ok (.iconst (-1), 1) := by decide +kernel
theorem dX10_pass_132 : decode cX10_pass 132 = .ok (.putfield 158, 3) := by decide +kernel
theorem dX10_pass_135 : decode cX10_pass 135 = .ok (.goto 33, 3) := by decide +kernel
theorem dX10_pass_138 : decode cX10_pass 138 = .ok (.aload_n 2, 1) := by decide +kernel
theorem dX10_pass_139 : decode cX10_pass 139 = .ok (.dup, 1) := by decide +kernel
theorem dX10_pass_140 : decode cX10_pass 140 = .ok (.getfield 161, 3) := by decide +kernel
theorem dX10_pass_143 : decode cX10_pass 143 = .ok (.iconst 1, 1) := by decide +kernel
theorem dX10_pass_144 : decode cX10_pass 144 = .ok (.iadd, 1) := by decide +kernel
theorem dX10_pass_145 : decode cX10_pass 145 = .ok (.putfield 161, 3) := by decide +kernel
theorem dX10_pass_148 : decode cX10_pass 148 = .ok (.aload_n 2, 1) := by decide +kernel
theorem dX10_pass_149 : decode cX10_pass 149 = .ok (.dup, 1) := by decide +kernel
theorem dX10_pass_150 : decode cX10_pass 150 = .ok (.getfield 164, 3) := by decide +kernel
theorem dX10_pass_153 : decode cX10_pass 153 = .ok (.iload 4, 2) := by decide +kernel
theorem dX10_pass_155 : decode cX10_pass 155 = .ok (.iconst 1, 1) := by decide +kernel
theorem dX10_pass_156 : decode cX10_pass 156 = .ok (.if_icmp .ne 7, 3) := by decide +kernel
theorem dX10_pass_159 : decode cX10_pass 159 = .ok (.iconst 1, 1) := by decide +kernel
theorem dX10_pass_160 : decode cX10_pass 160 = .ok (.goto 4, 3) := by decide +kernel
theorem dX10_pass_163 : decode cX10_pass 163 = .ok (.iconst 0, 1) := by decide +kernel
theorem dX10_pass_164 : decode cX10_pass 164 = .ok (.iadd, 1) := by decide +kernel
theorem dX10_pass_165 : decode cX10_pass 165 = .ok (.putfield 164, 3) := by decide +kernel
theorem dX10_pass_168 : decode cX10_pass 168 = .ok (.iload 4, 2) := by decide +kernel
theorem dX10_pass_170 : decode cX10_pass 170 = .ok (.ireturn, 1) := by decide +kernel
theorem dX10_undo_0 : decode cX10_undo 0 = .ok (.aload_n 0, 1) := by decide +kernel
theorem dX10_undo_1 : decode cX10_undo 1 = .ok (.getfield 12, 3) := by decide +kernel
theorem dX10_undo_4 : decode cX10_undo 4 = .ok (.invokevirtual 187, 3) := by decide +kernel
theorem dX10_undo_7 : decode cX10_undo 7 = .ok (.ifCond .eq 13, 3) := by decide +kernel
theorem dX10_undo_10 : decode cX10_undo 10 = .ok (.aload_n 0, 1) := by decide +kernel
theorem dX10_undo_11 : decode cX10_undo 11 = .ok (.getfield 12, 3) := by decide +kernel
theorem dX10_undo_14 : decode cX10_undo 14 = .ok (.getfield 167, 3) := by decide +kernel
theorem dX10_undo_17 : decode cX10_undo 17 = .ok (.goto 5, 3) := by decide +kernel
theorem dX10_undo_20 : decode cX10_undo 20 = .ok (.bipush (-4), 2) := by decide +kernel
theorem dX10_undo_22 : decode cX10_undo 22 = .ok (.ireturn, 1) := by decide +kernel
theorem dX10_seed_0 : decode cX10_seed 0 = .ok (.iload_n 1, 1) := by decide +kernel
theorem dX10_seed_1 : decode cX10_seed 1 = .ok (.ifCond .ge 5, 3) := by decide +kernel
theorem dX10_seed_4 : decode cX10_seed 4 = .ok (.iconst (-1), 1) := by decide +kernel
theorem dX10_seed_5 : decode cX10_seed 5 = .ok (.ireturn, 1) := by decide +kernel
theorem dX10_seed_6 : decode cX10_seed 6 = .ok (.aload_n 0, 1) := by decide +kernel
theorem dX10_seed_7 : decode cX10_seed 7 = .ok (.getfield 12, 3) := by decide +kernel
theorem dX10_seed_10 : decode cX10_seed 10 = .ok (.getfield 190, 3) := by decide +kernel
theorem dX10_seed_13 : decode cX10_seed 13 = .ok (.istore_n 2, 1) := by decide +kernel
theorem dX10_seed_14 : decode cX10_seed 14 = .ok (.aload_n 0, 1) := by decide +kernel
theorem dX10_seed_15 : decode cX10_seed 15 = .ok (.getfield 12, 3) := by decide +kernel
theorem dX10_seed_18 : decode cX10_seed 18 = .ok (.iload_n 1, 1) := by decide +kernel
theorem dX10_seed_19 : decode cX10_seed 19 = .ok (.putfield 190, 3) := by decide +kernel
theorem dX10_seed_22 : decode cX10_seed 22 = .ok (.iload_n 2, 1) := by decide +kernel
theorem dX10_seed_23 : decode cX10_seed 23 = .ok (.ireturn, 1) := by decide +kernel
theorem dX10_lots_0 : decode cX10_lots 0 = .ok (.aload_n 0, 1) := by decide +kernel
theorem dX10_lots_1 : decode cX10_lots 1 = .ok (.iload_n 1, 1) := by decide +kernel
theorem dX10_lots_2 : decode cX10_lots 2 = .ok (.invokevirtual 103, 3) := by decide +kernel
theorem dX10_lots_5 : decode cX10_lots 5 = .ok (.ifCond .eq 13, 3) := by decide +kernel
theorem dX10_lots_8 : decode cX10_lots 8 = .ok (.iload_n 2, 1) := by decide +kernel
theorem dX10_lots_9 : decode cX10_lots 9 = .ok (.iconst 1, 1) := by decide +kernel
theorem dX10_lots_10 : decode cX10_lots 10 = .ok (.bipush 99, 2) := by decide +kernel
theorem dX10_lots_12 : decode cX10_lots 12 = .ok (.invokestatic 54, 3) := by decide +kernel
theorem dX10_lots_15 : decode cX10_lots 15 = .ok (.ifCond .ne 5, 3) := by decide +kernel
theorem dX10_lots_18 : decode cX10_lots 18 = .ok (.iconst (-1), 1) := by decide +kernel
theorem dX10_lots_19 : decode cX10_lots 19 = .ok (.ireturn, 1) := by decide +kernel
theorem dX10_lots_20 : decode cX10_lots 20 = .ok (.iconst 0, 1) := by decide +kernel
theorem dX10_lots_21 : decode cX10_lots 21 = .ok (.istore_n 3, 1) := by decide +kernel
theorem dX10_lots_22 : decode cX10_lots 22 = .ok (.iconst 0, 1) := by decide +kernel
theorem dX10_lots_23 : decode cX10_lots 23 = .ok (.istore 4, 2) := by decide +kernel
theorem dX10_lots_25 : decode cX10_lots 25 = .ok (.iconst 0, 1) := by decide +kernel
theorem dX10_lots_26 : decode cX10_lots 26 = .ok (.istore 5, 2) := by decide +kernel
theorem dX10_lots_28 : decode cX10_lots 28 = .ok (.iload 5, 2) := by decide +kernel
theorem dX10_lots_30 : decode cX10_lots 30 = .ok (.iload_n 2, 1) := by decide +kernel
theorem dX10_lots_31 : decode cX10_lots 31 = .ok (.if_icmp .ge 64, 3) := by decide +kernel
theorem dX10_lots_34 : decode cX10_lots 34 = .ok (.aload_n 0, 1) := by decide +kernel
theorem dX10_lots_35 : decode cX10_lots 35 = .ok (.iload_n 1, 1) := by decide +kernel
theorem dX10_lots_36 : decode cX10_lots 36 = .ok (.aload_n 0, 1) := by decide +kernel
theorem dX10_lots_37 : decode cX10_lots 37 = .ok (.getfield 12, 3) := by decide +kernel
theorem dX10_lots_40 : decode cX10_lots 40 = .ok (.invokevirtual 193, 3) := by decide +kernel
theorem dX10_lots_43 : decode cX10_lots 43 = .ok (.bipush 60, 2) := by decide +kernel
theorem dX10_lots_45 : decode cX10_lots 45 = .ok (.irem, 1) := by decide +kernel
theorem dX10_lots_46 : decode cX10_lots 46 = .ok (.invokevirtual 196, 3) := by decide +kernel
theorem dX10_lots_49 : decode cX10_lots 49 = .ok (.iload_n 3, 1) := by decide +kernel
theorem dX10_lots_50 : decode cX10_lots 50 = .ok (.aload_n 0, 1) := by decide +kernel
theorem dX10_lots_51 : decode cX10_lots 51 = .ok (.getfield 29, 3) := by decide +kernel
theorem dX10_lots_54 : decode cX10_lots 54 = .ok (.invokevirtual 200, 3) := by decide +kernel
theorem dX10_lots_57 : decode cX10_lots 57 = .ok (.ifCond .eq 7, 3) := by decide +kernel
theorem dX10_lots_60 : decode cX10_lots 60 = .ok (.iconst 1, 1) := by decide +kernel
theorem dX10_lots_61 : decode cX10_lots 61 = .ok (.goto 4, 3) := by decide +kernel
theorem dX10_lots_64 : decode cX10_lots 64 = .ok (.iconst 0, 1) := by decide +kernel
theorem dX10_lots_65 : decode cX10_lots 65 = .ok (.iadd, 1) := by decide +kernel
theorem dX10_lots_66 : decode cX10_lots 66 = .ok (.istore_n 3, 1) := by decide +kernel
theorem dX10_lots_67 : decode cX10_lots 67 = .ok (.iload 4, 2) := by decide +kernel
theorem dX10_lots_69 : decode cX10_lots 69 = .ok (.aload_n 0, 1) := by decide +kernel
theorem dX10_lots_70 : decode cX10_lots 70 = .ok (.getfield 29, 3) := by decide +kernel
theorem dX10_lots_73 : decode cX10_lots 73 = .ok (.getfield 203, 3) := by decide +kernel
theorem dX10_lots_76 : decode cX10_lots 76 = .ok (.bipush (-4), 2) := by decide +kernel
theorem dX10_lots_78 : decode cX10_lots 78 = .ok (.if_icmp .ne 7, 3) := by decide +kernel
theorem dX10_lots_81 : decode cX10_lots 81 = .ok (.iconst 0, 1) := by decide +kernel
theorem dX10_lots_82 : decode cX10_lots 82 = .ok (.goto 4, 3) := by decide +kernel
theorem dX10_lots_85 : decode cX10_lots 85 = .ok (.iconst 1, 1) := by decide +kernel
theorem dX10_lots_86 : decode cX10_lots 86 = .ok (.iadd, 1) := by decide +kernel
theorem dX10_lots_87 : decode cX10_lots 87 = .ok (.istore 4, 2) := by decide +kernel
theorem dX10_lots_89 : decode cX10_lots 89 = .ok (.iinc 5 1, 3) := by decide +kernel
theorem dX10_lots_92 : decode cX10_lots 92 = .ok (.goto (-64), 3) := by decide +kernel
theorem dX10_lots_95 : decode cX10_lots 95 = .ok (.iload_n 3, 1) := by decide +kernel
theorem dX10_lots_96 : decode cX10_lots 96 = .ok (.bipush 100, 2) := by decide +kernel
theorem dX10_lots_98 : decode cX10_lots 98 = .ok (.iload 4, 2) := by decide +kernel
theorem dX10_lots_100 : decode cX10_lots 100 = .ok (.imul, 1) := by decide +kernel
theorem dX10_lots_101 : decode cX10_lots 101 = .ok (.iadd, 1) := by decide +kernel
theorem dX10_lots_102 : decode cX10_lots 102 = .ok (.ireturn, 1) := by decide +kernel
theorem dX10_soonest_0 : decode cX10_soonest 0 = .ok (.aload_n 0, 1) := by decide +kernel
theorem dX10_soonest_1 : decode cX10_soonest 1 = .ok (.iload_n 1, 1) := by decide +kernel
theorem dX10_soonest_2 : decode cX10_soonest 2 = .ok (.iload_n 2, 1) := by decide +kernel
theorem dX10_soonest_3 : decode cX10_soonest 3 = .ok (.invokevirtual 206, 3) := by decide +kernel
theorem dX10_soonest_6 : decode cX10_soonest 6 = .ok (.ifCond .eq 21, 3) := by decide +kernel
theorem dX10_soonest_9 : decode cX10_soonest 9 = .ok (.iload_n 3, 1) := by decide +kernel
theorem dX10_soonest_10 : decode cX10_soonest 10 = .ok (.bipush (-2), 2) := by decide +kernel
theorem dX10_soonest_12 : decode cX10_soonest 12 = .ok (.aload_n 0, 1) := by decide +kernel
theorem dX10_soonest_13 : decode cX10_soonest 13 = .ok (.getfield 12, 3) := by decide +kernel
theorem dX10_soonest_16 : decode cX10_soonest 16 = .ok (.getfield 58, 3) := by decide +kernel
theorem dX10_soonest_19 : decode cX10_soonest 19 = .ok (.iconst 1, 1) := by decide +kernel
theorem dX10_soonest_20 : decode cX10_soonest 20 = .ok (.isub, 1) := by decide +kernel
theorem dX10_soonest_21 : decode cX10_soonest 21 = .ok (.invokestatic 54, 3) := by decide +kernel
theorem dX10_soonest_24 : decode cX10_soonest 24 = .ok (.ifCond .ne 5, 3) := by decide +kernel
theorem dX10_soonest_27 : decode cX10_soonest 27 = .ok (.iconst (-1), 1) := by decide +kernel
theorem dX10_soonest_28 : decode cX10_soonest 28 = .ok (.ireturn, 1) := by decide +kernel
theorem dX10_soonest_29 : decode cX10_soonest 29 = .ok (.aload_n 0, 1) := by decide +kernel
theorem dX10_soonest_30 : decode cX10_soonest 30 = .ok (.getfield 36, 3) := by decide +kernel
theorem dX10_soonest_33 : decode cX10_soonest 33 = .ok (.aload_n 0, 1) := by decide +kernel
theorem dX10_soonest_34 : decode cX10_soonest 34 = .ok (.getfield 12, 3) := by decide +kernel
theorem dX10_soonest_37 : decode cX10_soonest 37 = .ok (.aload_n 0, 1) := by decide +kernel
theorem dX10_soonest_38 : decode cX10_soonest 38 = .ok (.getfield 12, 3) := by decide +kernel
theorem dX10_soonest_41 : decode cX10_soonest 41 = .ok (.getfield 85, 3) := by decide +kernel
theorem dX10_soonest_44 : decode cX10_soonest 44 = .ok (.iload_n 1, 1) := by decide +kernel
theorem dX10_soonest_45 : decode cX10_soonest 45 = .ok (.aaload, 1) := by decide +kernel
theorem dX10_soonest_46 : decode cX10_soonest 46 = .ok (.iload_n 2, 1) := by decide +kernel
theorem dX10_soonest_47 : decode cX10_soonest 47 = .ok (.invokevirtual 210, 3) := by decide +kernel
theorem dX10_soonest_50 : decode cX10_soonest 50 = .ok (.aload_n 0, 1) := by decide +kernel
theorem dX10_soonest_51 : decode cX10_soonest 51 = .ok (.getfield 36, 3) := by decide +kernel
theorem dX10_soonest_54 : decode cX10_soonest 54 = .ok (.getfield 214, 3) := by decide +kernel
theorem dX10_soonest_57 : decode cX10_soonest 57 = .ok (.ldc 217, 2) := by decide +kernel
theorem dX10_soonest_59 : decode cX10_soonest 59 = .ok (.if_icmp .ne 6, 3) := by decide +kernel
theorem dX10_soonest_62 : decode cX10_soonest 62 = .ok (.bipush (-4), 2) := by decide +kernel
theorem dX10_soonest_64 : decode cX10_soonest 64 = .ok (.ireturn, 1) := by decide +kernel
theorem dX10_soonest_65 : decode cX10_soonest 65 = .ok (.iload_n 3, 1) := by decide +kernel
theorem dX10_soonest_66 : decode cX10_soonest 66 = .ok (.bipush (-2), 2) := by decide +kernel
theorem dX10_soonest_68 : decode cX10_soonest 68 = .ok (.if_icmp .ne 13, 3) := by decide +kernel
theorem dX10_soonest_71 : decode cX10_soonest 71 = .ok (.iload_n 2, 1) := by decide +kernel
theorem dX10_soonest_72 : decode cX10_soonest 72 = .ok (.aload_n 0, 1) := by decide +kernel
theorem dX10_soonest_73 : decode cX10_soonest 73 = .ok (.getfield 36, 3) := by decide +kernel
theorem dX10_soonest_76 : decode cX10_soonest 76 = .ok (.getfield 214, 3) := by decide +kernel
theorem dX10_soonest_79 : decode cX10_soonest 79 = .ok (.iadd, 1) := by decide +kernel
theorem dX10_soonest_80 : decode cX10_soonest 80 = .ok (.ireturn, 1) := by decide +kernel
theorem dX10_soonest_81 : decode cX10_soonest 81 = .ok (.iload_n 3, 1) := by decide +kernel
theorem dX10_soonest_82 : decode cX10_soonest 82 = .ok (.iconst (-1), 1) := by decide +kernel
theorem dX10_soonest_83 : decode cX10_soonest 83 = .ok (.if_icmp .ne 15, 3) := by decide +kernel
theorem dX10_soonest_86 : decode cX10_soonest 86 = .ok (.iload_n 2, 1) := by decide +kernel
theorem dX10_soonest_87 : decode cX10_soonest 87 = .ok (.aload_n 0, 1) := by decide +kernel
theorem dX10_soonest_88 : decode cX10_soonest 88 = .ok (.getfield 36, 3) := by decide +kernel
theorem dX10_soonest_91 : decode cX10_soonest 91 = .ok (.getfield 218, 3) := by decide +kernel
theorem dX10_soonest_94 : decode cX10_soonest 94 = .ok (.iadd, 1) := by decide +kernel
theorem dX10_soonest_95 : decode cX10_soonest 95 = .ok (.goto 12, 3) := by decide +kernel
theorem dX10_soonest_98 : decode cX10_soonest 98 = .ok (.aload_n 0, 1) := by decide +kernel
theorem dX10_soonest_99 : decode cX10_soonest 99 = .ok (.getfield 36, 3) := by decide +kernel
theorem dX10_soonest_102 : decode cX10_soonest 102 = .ok (.getfield 221, 3) := by decide +kernel
theorem dX10_soonest_105 : decode cX10_soonest 105 = .ok (.iload_n 3, 1) := by decide +kernel
theorem dX10_soonest_106 : decode cX10_soonest 106 = .ok (.iaload, 1) := by decide +kernel
theorem dX10_soonest_107 : decode cX10_soonest 107 = .ok (.ireturn, 1) := by decide +kernel
theorem dX10_full_0 : decode cX10_full 0 = .ok (.aload_n 0, 1) := by decide +kernel
theorem dX10_full_1 : decode cX10_full 1 = .ok (.iload_n 1, 1) := by decide +kernel
theorem dX10_full_2 : decode cX10_full 2 = .ok (.iload_n 2, 1) := by decide +kernel
theorem dX10_full_3 : decode cX10_full 3 = .ok (.invokevirtual 206, 3) := by decide +kernel
theorem dX10_full_6 : decode cX10_full 6 = .ok (.ifCond .eq 12, 3) := by decide +kernel
theorem dX10_full_9 : decode cX10_full 9 = .ok (.iload_n 3, 1) := by decide +kernel
theorem dX10_full_10 : decode cX10_full 10 = .ok (.iconst 0, 1) := by decide +kernel
theorem dX10_full_11 : decode cX10_full 11 = .ok (.iconst 2, 1) := by decide +kernel
theorem dX10_full_12 : decode cX10_full 12 = .ok (.invokestatic 54, 3) := by decide +kernel
theorem dX10_full_15 : decode cX10_full 15 = .ok (.ifCond .ne 5, 3) := by decide +kernel
theorem dX10_full_18 : decode cX10_full 18 = .ok (.iconst (-1), 1) := by decide +kernel
theorem dX10_full_19 : decode cX10_full 19 = .ok (.ireturn, 1) := by decide +kernel
theorem dX10_full_20 : decode cX10_full 20 = .ok (.aload_n 0, 1) := by decide +kernel
theorem dX10_full_21 : decode cX10_full 21 = .ok (.iload_n 1, 1) := by decide +kernel
theorem dX10_full_22 : decode cX10_full 22 = .ok (.iload_n 2, 1) := by decide +kernel
theorem dX10_full_23 : decode cX10_full 23 = .ok (.invokevirtual 196, 3) := by decide +kernel
theorem dX10_full_26 : decode cX10_full 26 = .ok (.aload_n 0, 1) := by decide +kernel
theorem dX10_full_27 : decode cX10_full 27 = .ok (.getfield 29, 3) := by decide +kernel
theorem dX10_full_30 : decode cX10_full 30 = .ok (.iload_n 3, 1) := by decide +kernel
theorem dX10_full_31 : decode cX10_full 31 = .ok (.invokevirtual 225, 3) := by decide +kernel
theorem dX10_full_34 : decode cX10_full 34 = .ok (.ireturn, 1) := by decide +kernel
theorem dX10_fog_0 : decode cX10_fog 0 = .ok (.aload_n 0, 1) := by decide +kernel
theorem dX10_fog_1 : decode cX10_fog 1 = .ok (.iload_n 1, 1) := by decide +kernel
theorem dX10_fog_2 : decode cX10_fog 2 = .ok (.iload_n 2, 1) := by decide +kernel
theorem dX10_fog_3 : decode cX10_fog 3 = .ok (.invokevirtual 206, 3) := by decide +kernel
theorem dX10_fog_6 : decode cX10_fog 6 = .ok (.ifCond .eq 12, 3) := by decide +kernel
theorem dX10_fog_9 : decode cX10_fog 9 = .ok (.iload_n 3, 1) := by decide +kernel
theorem dX10_fog_10 : decode cX10_fog 10 = .ok (.iconst 0, 1) := by decide +kernel
theorem dX10_fog_11 : decode cX10_fog 11 = .ok (.iconst 1, 1) := by decide +kernel
theorem dX10_fog_12 : decode cX10_fog 12 = .ok (.invokestatic 54, 3) := by decide +kernel
theorem dX10_fog_15 : decode cX10_fog 15 = .ok (.ifCond .ne 5, 3) := by decide +kernel
theorem dX10_fog_18 : decode cX10_fog 18 = .ok (.iconst (-1), 1) := by decide +kernel
theorem dX10_fog_19 : decode cX10_fog 19 = .ok (.ireturn, 1) := by decide +kernel
theorem dX10_fog_20 : decode cX10_fog 20 = .ok (.aload_n 0, 1) := by decide +kernel
theorem dX10_fog_21 : decode cX10_fog 21 = .ok (.getfield 29, 3) := by decide +kernel
theorem dX10_fog_24 : decode cX10_fog 24 = .ok (.aload_n 0, 1) := by decide +kernel
theorem dX10_fog_25 : decode cX10_fog 25 = .ok (.getfield 12, 3) := by decide +kernel
theorem dX10_fog_28 : decode cX10_fog 28 = .ok (.aload_n 0, 1) := by decide +kernel
theorem dX10_fog_29 : decode cX10_fog 29 = .ok (.getfield 12, 3) := by decide +kernel
theorem dX10_fog_32 : decode cX10_fog 32 = .ok (.getfield 85, 3) := by decide +kernel
theorem dX10_fog_35 : decode cX10_fog 35 = .ok (.iload_n 1, 1) := by decide +kernel
theorem dX10_fog_36 : decode cX10_fog 36 = .ok (.aaload, 1) := by decide +kernel
theorem dX10_fog_37 : decode cX10_fog 37 = .ok (.iload_n 2, 1) := by decide +kernel
theorem dX10_fog_38 : decode cX10_fog 38 = .ok (.invokevirtual 229, 3) := by decide +kernel
theorem dX10_fog_41 : decode cX10_fog 41 = .ok (.aload_n 0, 1) := by decide +kernel
theorem dX10_fog_42 : decode cX10_fog 42 = .ok (.getfield 29, 3) := by decide +kernel
theorem dX10_fog_45 : decode cX10_fog 45 = .ok (.aload_n 0, 1) := by decide +kernel
theorem dX10_fog_46 : decode cX10_fog 46 = .ok (.getfield 12, 3) := by decide +kernel
theorem dX10_fog_49 : decode cX10_fog 49 = .ok (.invokevirtual 232, 3) := by decide +kernel
theorem dX10_fog_52 : decode cX10_fog 52 = .ok (.istore 4, 2) := by decide +kernel
theorem dX10_fog_54 : decode cX10_fog 54 = .ok (.iload 4, 2) := by decide +kernel
theorem dX10_fog_56 : decode cX10_fog 56 = .ok (.ifCond .ne 5, 3) := by decide +kernel
theorem dX10_fog_59 : decode cX10_fog 59 = .ok (.iload_n 3, 1) := by decide +kernel
theorem dX10_fog_60 : decode cX10_fog 60 = .ok (.ireturn, 1) := by decide +kernel
theorem dX10_fog_61 : decode cX10_fog 61 = .ok (.iconst 1, 1) := by decide +kernel
theorem dX10_fog_62 : decode cX10_fog 62 = .ok (.iconst 2, 1) := by decide +kernel
theorem dX10_fog_63 : decode cX10_fog 63 = .ok (.aload_n 0, 1) := by decide +kernel
theorem dX10_fog_64 : decode cX10_fog 64 = .ok (.getfield 12, 3) := by decide +kernel
theorem dX10_fog_67 : decode cX10_fog 67 = .ok (.getfield 58, 3) := by decide +kernel
theorem dX10_fog_70 : decode cX10_fog 70 = .ok (.imul, 1) := by decide +kernel
theorem dX10_fog_71 : decode cX10_fog 71 = .ok (.ishl, 1) := by decide +kernel
theorem dX10_fog_72 : decode cX10_fog 72 = .ok (.istore 5, 2) := by decide +kernel
theorem dX10_fog_74 : decode cX10_fog 74 = .ok (.iload 4, 2) := by decide +kernel
theorem dX10_fog_76 : decode cX10_fog 76 = .ok (.iconst 2, 1) := by decide +kernel
theorem dX10_fog_77 : decode cX10_fog 77 = .ok (.irem, 1) := by decide +kernel
theorem dX10_fog_78 : decode cX10_fog 78 = .ok (.ifCond .ne 24, 3) := by decide +kernel
theorem dX10_fog_81 : decode cX10_fog 81 = .ok (.iload 5, 2) := by decide +kernel
theorem dX10_fog_83 : decode cX10_fog 83 = .ok (.iconst 1, 1) := by decide +kernel
theorem dX10_fog_84 : decode cX10_fog 84 = .ok (.if_icmp .le 18, 3) := by decide +kernel
theorem dX10_fog_87 : decode cX10_fog 87 = .ok (.iload 4, 2) := by decide +kernel
theorem dX10_fog_89 : decode cX10_fog 89 = .ok (.iconst 2, 1) := by decide +kernel
theorem dX10_fog_90 : decode cX10_fog 90 = .ok (.idiv, 1) := by decide +kernel
theorem dX10_fog_91 : decode cX10_fog 91 = .ok (.istore 4, 2) := by decide +kernel
theorem dX10_fog_93 : decode cX10_fog 93 = .ok (.iload 5, 2) := by decide +kernel
theorem dX10_fog_95 : decode cX10_fog 95 = .ok (.iconst 2, 1) := by decide +kernel
theorem dX10_fog_96 : decode cX10_fog 96 = .ok (.idiv, 1) := by decide +kernel
theorem dX10_fog_97 : decode cX10_fog 97 = .ok (.istore 5, 2) := by decide +kernel
theorem dX10_fog_99 : decode cX10_fog 99 = .ok (.goto (-25), 3) := by decide +kernel
theorem dX10_fog_102 : decode cX10_fog 102 = .ok (.iload_n 3, 1) := by decide +kernel
theorem dX10_fog_103 : decode cX10_fog 103 = .ok (.ifCond .ne 8, 3) := by decide +kernel
theorem dX10_fog_106 : decode cX10_fog 106 = .ok (.iload 4, 2) := by decide +kernel
theorem dX10_fog_108 : decode cX10_fog 108 = .ok (.goto 5, 3) := by decide +kernel
theorem dX10_fog_111 : decode cX10_fog 111 = .ok (.iload 5, 2) := by decide +kernel
theorem dX10_fog_113 : decode cX10_fog 113 = .ok (.ireturn, 1) := by decide +kernel
theorem dX10_sure_0 : decode cX10_sure 0 = .ok (.aload_n 0, 1) := by decide +kernel
theorem dX10_sure_1 : decode cX10_sure 1 = .ok (.iload_n 1, 1) := by decide +kernel
theorem dX10_sure_2 : decode cX10_sure 2 = .ok (.iload_n 2, 1) := by decide +kernel
theorem dX10_sure_3 : decode cX10_sure 3 = .ok (.invokevirtual 206, 3) := by decide +kernel
theorem dX10_sure_6 : decode cX10_sure 6 = .ok (.ifCond .ne 5, 3) := by decide +kernel
theorem dX10_sure_9 : decode cX10_sure 9 = .ok (.iconst (-1), 1) := by decide +kernel
theorem dX10_sure_10 : decode cX10_sure 10 = .ok (.ireturn, 1) := by decide +kernel
theorem dX10_sure_11 : decode cX10_sure 11 = .ok (.iload_n 2, 1) := by decide +kernel
theorem dX10_sure_12 : decode cX10_sure 12 = .ok (.istore_n 3, 1) := by decide +kernel
theorem dX10_sure_13 : decode cX10_sure 13 = .ok (.iconst (-1), 1) := by decide +kernel
theorem dX10_sure_14 : decode cX10_sure 14 = .ok (.istore 4, 2) := by decide +kernel
theorem dX10_sure_16 : decode cX10_sure 16 = .ok (.iload_n 2, 1) := by decide +kernel
theorem dX10_sure_17 : decode cX10_sure 17 = .ok (.istore 5, 2) := by decide +kernel
theorem dX10_sure_19 : decode cX10_sure 19 = .ok (.iload 5, 2) := by decide +kernel
theorem dX10_sure_21 : decode cX10_sure 21 = .ok (.iload_n 2, 1) := by decide +kernel
theorem dX10_sure_22 : decode cX10_sure 22 = .ok (.bipush 60, 2) := by decide +kernel
theorem dX10_sure_24 : decode cX10_sure 24 = .ok (.iadd, 1) := by decide +kernel
theorem dX10_sure_25 : decode cX10_sure 25 = .ok (.if_icmp .ge 58, 3) := by decide +kernel
theorem dX10_sure_28 : decode cX10_sure 28 = .ok (.aload_n 0, 1) := by decide +kernel
theorem dX10_sure_29 : decode cX10_sure 29 = .ok (.getfield 29, 3) := by decide +kernel
theorem dX10_sure_32 : decode cX10_sure 32 = .ok (.aload_n 0, 1) := by decide +kernel
theorem dX10_sure_33 : decode cX10_sure 33 = .ok (.getfield 12, 3) := by decide +kernel
theorem dX10_sure_36 : decode cX10_sure 36 = .ok (.aload_n 0, 1) := by decide +kernel
theorem dX10_sure_37 : decode cX10_sure 37 = .ok (.getfield 12, 3) := by decide +kernel
theorem dX10_sure_40 : decode cX10_sure 40 = .ok (.getfield 85, 3) := by decide +kernel
theorem dX10_sure_43 : decode cX10_sure 43 = .ok (.iload_n 1, 1) := by decide +kernel
theorem dX10_sure_44 : decode cX10_sure 44 = .ok (.aaload, 1) := by decide +kernel
theorem dX10_sure_45 : decode cX10_sure 45 = .ok (.iload 5, 2) := by decide +kernel
theorem dX10_sure_47 : decode cX10_sure 47 = .ok (.invokevirtual 229, 3) := by decide +kernel
theorem dX10_sure_50 : decode cX10_sure 50 = .ok (.aload_n 0, 1) := by decide +kernel
theorem dX10_sure_51 : decode cX10_sure 51 = .ok (.getfield 29, 3) := by decide +kernel
theorem dX10_sure_54 : decode cX10_sure 54 = .ok (.aload_n 0, 1) := by decide +kernel
theorem dX10_sure_55 : decode cX10_sure 55 = .ok (.getfield 12, 3) := by decide +kernel
theorem dX10_sure_58 : decode cX10_sure 58 = .ok (.invokevirtual 232, 3) := by decide +kernel
theorem dX10_sure_61 : decode cX10_sure 61 = .ok (.istore 6, 2) := by decide +kernel
theorem dX10_sure_63 : decode cX10_sure 63 = .ok (.iload 6, 2) := by decide +kernel
theorem dX10_sure_65 : decode cX10_sure 65 = .ok (.iload 4, 2) := by decide +kernel
theorem dX10_sure_67 : decode cX10_sure 67 = .ok (.if_icmp .le 10, 3) := by decide +kernel
theorem dX10_sure_70 : decode cX10_sure 70 = .ok (.iload 6, 2) := by decide +kernel
theorem dX10_sure_72 : decode cX10_sure 72 = .ok (.istore 4, 2) := by decide +kernel
theorem dX10_sure_74 : decode cX10_sure 74 = .ok (.iload 5, 2) := by decide +kernel
theorem dX10_sure_76 : decode cX10_sure 76 = .ok (.istore_n 3, 1) := by decide +kernel
theorem dX10_sure_77 : decode cX10_sure 77 = .ok (.iinc 5 1, 3) := by decide +kernel
theorem dX10_sure_80 : decode cX10_sure 80 = .ok (.goto (-61), 3) := by decide +kernel
theorem dX10_sure_83 : decode cX10_sure 83 = .ok (.iload_n 3, 1) := by decide +kernel
theorem dX10_sure_84 : decode cX10_sure 84 = .ok (.ireturn, 1) := by decide +kernel
theorem dX10_stones_0 : decode cX10_stones 0 = .ok (.aload_n 0, 1) := by decide +kernel
theorem dX10_stones_1 : decode cX10_stones 1 = .ok (.iload_n 1, 1) := by decide +kernel
theorem dX10_stones_2 : decode cX10_stones 2 = .ok (.iload_n 2, 1) := by decide +kernel
theorem dX10_stones_3 : decode cX10_stones 3 = .ok (.invokevirtual 206, 3) := by decide +kernel
theorem dX10_stones_6 : decode cX10_stones 6 = .ok (.ifCond .eq 20, 3) := by decide +kernel
theorem dX10_stones_9 : decode cX10_stones 9 = .ok (.iload_n 3, 1) := by decide +kernel
theorem dX10_stones_10 : decode cX10_stones 10 = .ok (.iconst (-1), 1) := by decide +kernel
theorem dX10_stones_11 : decode cX10_stones 11 = .ok (.aload_n 0, 1) := by decide +kernel
theorem dX10_stones_12 : decode cX10_stones 12 = .ok (.getfield 12, 3) := by decide +kernel
theorem dX10_stones_15 : decode cX10_stones 15 = .ok (.getfield 58, 3) := by decide +kernel
theorem dX10_stones_18 : decode cX10_stones 18 = .ok (.iconst 1, 1) := by decide +kernel
theorem dX10_stones_19 : decode cX10_stones 19 = .ok (.isub, 1) := by decide +kernel
theorem dX10_stones_20 : decode cX10_stones 20 = .ok (.invokestatic 54, 3) := by decide +kernel
theorem dX10_stones_23 : decode cX10_stones 23 = .ok (.ifCond .ne 5, 3) := by decide +kernel
theorem dX10_stones_26 : decode cX10_stones 26 = .ok (.iconst (-1), 1) := by decide +kernel
theorem dX10_stones_27 : decode cX10_stones 27 = .ok (.ireturn, 1) := by decide +kernel
theorem dX10_stones_28 : decode cX10_stones 28 = .ok (.aload_n 0, 1) := by decide +kernel
theorem dX10_stones_29 : decode cX10_stones 29 = .ok (.getfield 29, 3) := by decide +kernel
theorem dX10_stones_32 : decode cX10_stones 32 = .ok (.aload_n 0, 1) := by decide +kernel
theorem dX10_stones_33 : decode cX10_stones 33 = .ok (.getfield 12, 3) := by decide +kernel
theorem dX10_stones_36 : decode cX10_stones 36 = .ok (.aload_n 0, 1) := by decide +kernel
theorem dX10_stones_37 : decode cX10_stones 37 = .ok (.getfield 12, 3) := by decide +kernel
theorem dX10_stones_40 : decode cX10_stones 40 = .ok (.getfield 85, 3) := by decide +kernel
theorem dX10_stones_43 : decode cX10_stones 43 = .ok (.iload_n 1, 1) := by decide +kernel
theorem dX10_stones_44 : decode cX10_stones 44 = .ok (.aaload, 1) := by decide +kernel
theorem dX10_stones_45 : decode cX10_stones 45 = .ok (.iload_n 2, 1) := by decide +kernel
theorem dX10_stones_46 : decode cX10_stones 46 = .ok (.invokevirtual 229, 3) := by decide +kernel
theorem dX10_stones_49 : decode cX10_stones 49 = .ok (.iconst 0, 1) := by decide +kernel
theorem dX10_stones_50 : decode cX10_stones 50 = .ok (.istore 4, 2) := by decide +kernel
theorem dX10_stones_52 : decode cX10_stones 52 = .ok (.iconst 0, 1) := by decide +kernel
theorem dX10_stones_53 : decode cX10_stones 53 = .ok (.istore 5, 2) := by decide +kernel
theorem dX10_stones_55 : decode cX10_stones 55 = .ok (.iconst 0, 1) := by decide +kernel
theorem dX10_stones_56 : decode cX10_stones 56 = .ok (.istore 6, 2) := by decide +kernel
theorem dX10_stones_58 : decode cX10_stones 58 = .ok (.iload 6, 2) := by decide +kernel
theorem dX10_stones_60 : decode cX10_stones 60 = .ok (.aload_n 0, 1) := by decide +kernel
theorem dX10_stones_61 : decode cX10_stones 61 = .ok (.getfield 12, 3) := by decide +kernel
theorem dX10_stones_64 : decode cX10_stones 64 = .ok (.getfield 58, 3) := by decide +kernel
theorem dX10_stones_67 : decode cX10_stones 67 = .ok (.if_icmp .ge 56, 3) := by decide +kernel
theorem dX10_stones_70 : decode cX10_stones 70 = .ok (.aload_n 0, 1) := by decide +kernel
theorem dX10_stones_71 : decode cX10_stones 71 = .ok (.getfield 29, 3) := by decide +kernel
theorem dX10_stones_74 : decode cX10_stones 74 = .ok (.aload_n 0, 1) := by decide +kernel
theorem dX10_stones_75 : decode cX10_stones 75 = .ok (.getfield 12, 3) := by decide +kernel
theorem dX10_stones_78 : decode cX10_stones 78 = .ok (.iload 6, 2) := by decide +kernel
theorem dX10_stones_80 : decode cX10_stones 80 = .ok (.invokevirtual 236, 3) := by decide +kernel
theorem dX10_stones_83 : decode cX10_stones 83 = .ok (.istore 7, 2) := by decide +kernel
theorem dX10_stones_85 : decode cX10_stones 85 = .ok (.iload 7, 2) := by decide +kernel
theorem dX10_stones_87 : decode cX10_stones 87 = .ok (.bipush (-4), 2) := by decide +kernel
theorem dX10_stones_89 : decode cX10_stones 89 = .ok (.if_icmp .ne 6, 3) := by decide +kernel
theorem dX10_stones_92 : decode cX10_stones 92 = .ok (.bipush (-4), 2) := by decide +kernel
theorem dX10_stones_94 : decode cX10_stones 94 = .ok (.ireturn, 1) := by decide +kernel
theorem dX10_stones_95 : decode cX10_stones 95 = .ok (.iload 4, 2) := by decide +kernel
theorem dX10_stones_97 : decode cX10_stones 97 = .ok (.iload 7, 2) := by decide +kernel
theorem dX10_stones_99 : decode cX10_stones 99 = .ok (.iadd, 1) := by decide +kernel
theorem dX10_stones_100 : decode cX10_stones 100 = .ok (.istore 4, 2) := by decide +kernel
theorem dX10_stones_102 : decode cX10_stones 102 = .ok (.iload 6, 2) := by decide +kernel
theorem dX10_stones_104 : decode cX10_stones 104 = .ok (.iload_n 3, 1) := by decide +kernel
theorem dX10_stones_105 : decode cX10_stones 105 = .ok (.if_icmp .ne 8, 3) := by decide +kernel
theorem dX10_stones_108 : decode cX10_stones 108 = .ok (.iload 7, 2) := by decide +kernel
theorem dX10_stones_110 : decode cX10_stones 110 = .ok (.goto 5, 3) := by decide +kernel
theorem dX10_stones_113 : decode cX10_stones 113 = .ok (.iload 5, 2) := by decide +kernel
theorem dX10_stones_115 : decode cX10_stones 115 = .ok (.istore 5, 2) := by decide +kernel
theorem dX10_stones_117 : decode cX10_stones 117 = .ok (.iinc 6 1, 3) := by decide +kernel
theorem dX10_stones_120 : decode cX10_stones 120 = .ok (.goto (-62), 3) := by decide +kernel
theorem dX10_stones_123 : decode cX10_stones 123 = .ok (.iload_n 3, 1) := by decide +kernel
theorem dX10_stones_124 : decode cX10_stones 124 = .ok (.iconst (-1), 1) := by decide +kernel
theorem dX10_stones_125 : decode cX10_stones 125 = .ok (.if_icmp .ne 8, 3) := by decide +kernel
theorem dX10_stones_128 : decode cX10_stones 128 = .ok (.iload 4, 2) := by decide +kernel
theorem dX10_stones_130 : decode cX10_stones 130 = .ok (.goto 5, 3) := by decide +kernel
theorem dX10_stones_133 : decode cX10_stones 133 = .ok (.iload 5, 2) := by decide +kernel
theorem dX10_stones_135 : decode cX10_stones 135 = .ok (.ireturn, 1) := by decide +kernel
theorem dX10_convoy_0 : decode cX10_convoy 0 = .ok (.aload_n 0, 1) := by decide +kernel
theorem dX10_convoy_1 : decode cX10_convoy 1 = .ok (.iload_n 1, 1) := by decide +kernel
theorem dX10_convoy_2 : decode cX10_convoy 2 = .ok (.invokevirtual 72, 3) := by decide +kernel
theorem dX10_convoy_5 : decode cX10_convoy 5 = .ok (.ifCond .eq 33, 3) := by decide +kernel
theorem dX10_convoy_8 : decode cX10_convoy 8 = .ok (.iload_n 2, 1) := by decide +kernel
theorem dX10_convoy_9 : decode cX10_convoy 9 = .ok (.iconst 0, 1) := by decide +kernel
theorem dX10_convoy_10 : decode cX10_convoy 10 = .ok (.sipush 9999, 3) := by decide +kernel
theorem dX10_convoy_13 : decode cX10_convoy 13 = .ok (.invokestatic 54, 3) := by decide +kernel
theorem dX10_convoy_16 : decode cX10_convoy 16 = .ok (.ifCond .eq 22, 3) := by decide +kernel
theorem dX10_convoy_19 : decode cX10_convoy 19 = .ok (.iload_n 3, 1) := by decide +kernel
theorem dX10_convoy_20 : decode cX10_convoy 20 = .ok (.iconst 0, 1) := by decide +kernel
theorem dX10_convoy_21 : decode cX10_convoy 21 = .ok (.iconst 1, 1) := by decide +kernel
theorem dX10_convoy_22 : decode cX10_convoy 22 = .ok (.aload_n 0, 1) := by decide +kernel
theorem dX10_convoy_23 : decode cX10_convoy 23 = .ok (.getfield 12, 3) := by decide +kernel
theorem dX10_convoy_26 : decode cX10_convoy 26 = .ok (.getfield 82, 3) := by decide +kernel
theorem dX10_convoy_29 : decode cX10_convoy 29 = .ok (.ishl, 1) := by decide +kernel
theorem dX10_convoy_30 : decode cX10_convoy 30 = .ok (.iconst 1, 1) := by decide +kernel
theorem dX10_convoy_31 : decode cX10_convoy 31 = .ok (.isub, 1) := by decide +kernel
theorem dX10_convoy_32 : decode cX10_convoy 32 = .ok (.invokestatic 54, 3) := by decide +kernel
theorem dX10_convoy_35 : decode cX10_convoy 35 = .ok (.ifCond .ne 5, 3) := by decide +kernel
theorem dX10_convoy_38 : decode cX10_convoy 38 = .ok (.iconst (-1), 1) := by decide +kernel
theorem dX10_convoy_39 : decode cX10_convoy 39 = .ok (.ireturn, 1) := by decide +kernel
theorem dX10_convoy_40 : decode cX10_convoy 40 = .ok (.aload_n 0, 1) := by decide +kernel
theorem dX10_convoy_41 : decode cX10_convoy 41 = .ok (.getfield 12, 3) := by decide +kernel
theorem dX10_convoy_44 : decode cX10_convoy 44 = .ok (.getfield 62, 3) := by decide +kernel
theorem dX10_convoy_47 : decode cX10_convoy 47 = .ok (.iload_n 1, 1) := by decide +kernel
theorem dX10_convoy_48 : decode cX10_convoy 48 = .ok (.aaload, 1) := by decide +kernel
theorem dX10_convoy_49 : decode cX10_convoy 49 = .ok (.astore 4, 2) := by decide +kernel
theorem dX10_convoy_51 : decode cX10_convoy 51 = .ok (.aload 4, 2) := by decide +kernel
theorem dX10_convoy_53 : decode cX10_convoy 53 = .ok (.iload_n 2, 1) := by decide +kernel
theorem dX10_convoy_54 : decode cX10_convoy 54 = .ok (.iload_n 2, 1) := by decide +kernel
theorem dX10_convoy_55 : decode cX10_convoy 55 = .ok (.bipush 55, 2) := by decide +kernel
theorem dX10_convoy_57 : decode cX10_convoy 57 = .ok (.iadd, 1) := by decide +kernel
theorem dX10_convoy_58 : decode cX10_convoy 58 = .ok (.aload 4, 2) := by decide +kernel
theorem dX10_convoy_60 : decode cX10_convoy 60 = .ok (.getfield 79, 3) := by decide +kernel
theorem dX10_convoy_63 : decode cX10_convoy 63 = .ok (.invokevirtual 240, 3) := by decide +kernel
theorem dX10_convoy_66 : decode cX10_convoy 66 = .ok (.iload_n 2, 1) := by decide +kernel
theorem dX10_convoy_67 : decode cX10_convoy 67 = .ok (.isub, 1) := by decide +kernel
theorem dX10_convoy_68 : decode cX10_convoy 68 = .ok (.istore 5, 2) := by decide +kernel
theorem dX10_convoy_70 : decode cX10_convoy 70 = .ok (.iconst 0, 1) := by decide +kernel
theorem dX10_convoy_71 : decode cX10_convoy 71 = .ok (.istore 6, 2) := by decide +kernel
theorem dX10_convoy_73 : decode cX10_convoy 73 = .ok (.iconst 1, 1) := by decide +kernel
theorem dX10_convoy_74 : decode cX10_convoy 74 = .ok (.istore 7, 2) := by decide +kernel
theorem dX10_convoy_76 : decode cX10_convoy 76 = .ok (.iload 7, 2) := by decide +kernel
theorem dX10_convoy_78 : decode cX10_convoy 78 = .ok (.iload_n 3, 1) := by decide +kernel
theorem dX10_convoy_79 : decode cX10_convoy 79 = .ok (.if_icmp .gt 58, 3) := by decide +kernel
theorem dX10_convoy_82 : decode cX10_convoy 82 = .ok (.iload 7, 2) := by decide +kernel
theorem dX10_convoy_84 : decode cX10_convoy 84 = .ok (.iload_n 3, 1) := by decide +kernel
theorem dX10_convoy_85 : decode cX10_convoy 85 = .ok (.iconst (-1), 1) := by decide +kernel
theorem dX10_convoy_86 : decode cX10_convoy 86 = .ok (.ixor, 1) := by decide +kernel
theorem dX10_convoy_87 : decode cX10_convoy 87 = .ok (.iand, 1) := by decide +kernel
theorem dX10_convoy_88 : decode cX10_convoy 88 = .ok (.ifCond .ne 7, 3) := by decide +kernel
theorem dX10_convoy_91 : decode cX10_convoy 91 = .ok (.iconst 1, 1) := by decide +kernel
theorem dX10_convoy_92 : decode cX10_convoy 92 = .ok (.goto 4, 3) := by decide +kernel
theorem dX10_convoy_95 : decode cX10_convoy 95 = .ok (.iconst 0, 1) := by decide +kernel
theorem dX10_convoy_96 : decode cX10_convoy 96 = .ok (.istore 8, 2) := by decide +kernel
theorem dX10_convoy_98 : decode cX10_convoy 98 = .ok (.iload 8, 2) := by decide +kernel
theorem dX10_convoy_100 : decode cX10_convoy 100 = .ok (.ifCond .eq 31, 3) := by decide +kernel
theorem dX10_convoy_103 : decode cX10_convoy 103 = .ok (.iload 7, 2) := by decide +kernel
theorem dX10_convoy_105 : decode cX10_convoy 105 = .ok (.invokestatic 244, 3) := by decide +kernel
theorem dX10_convoy_108 : decode cX10_convoy 108 = .ok (.iload 6, 2) := by decide +kernel
theorem dX10_convoy_110 : decode cX10_convoy 110 = .ok (.invokestatic 244, 3) := by decide +kernel
theorem dX10_convoy_113 : decode cX10_convoy 113 = .ok (.if_icmp .le 18, 3) := by decide +kernel
theorem dX10_convoy_116 : decode cX10_convoy 116 = .ok (.aload_n 0, 1) := by decide +kernel
theorem dX10_convoy_117 : decode cX10_convoy 117 = .ok (.iload 7, 2) := by decide +kernel
theorem dX10_convoy_119 : decode cX10_convoy 119 = .ok (.invokevirtual 249, 3) := by decide +kernel
theorem dX10_convoy_122 : decode cX10_convoy 122 = .ok (.iload 5, 2) := by decide +kernel
theorem dX10_convoy_124 : decode cX10_convoy 124 = .ok (.if_icmp .gt 7, 3) := by decide +kernel
theorem dX10_convoy_127 : decode cX10_convoy 127 = .ok (.iload 7, 2) := by decide +kernel
theorem dX10_convoy_129 : decode cX10_convoy 129 = .ok (.istore 6, 2) := by decide +kernel
theorem dX10_convoy_131 : decode cX10_convoy 131 = .ok (.iinc 7 1, 3) := by decide +kernel
theorem dX10_convoy_134 : decode cX10_convoy 134 = .ok (.goto (-58), 3) := by decide +kernel
theorem dX10_convoy_137 : decode cX10_convoy 137 = .ok (.iload 6, 2) := by decide +kernel
theorem dX10_convoy_139 : decode cX10_convoy 139 = .ok (.ireturn, 1) := by decide +kernel
theorem dX10_rudder_0 : decode cX10_rudder 0 = .ok (.aload_n 0, 1) := by decide +kernel
theorem dX10_rudder_1 : decode cX10_rudder 1 = .ok (.iload_n 1, 1) := by decide +kernel
theorem dX10_rudder_2 : decode cX10_rudder 2 = .ok (.iload_n 2, 1) := by decide +kernel
theorem dX10_rudder_3 : decode cX10_rudder 3 = .ok (.invokevirtual 206, 3) := by decide +kernel
theorem dX10_rudder_6 : decode cX10_rudder 6 = .ok (.ifCond .eq 14, 3) := by decide +kernel
theorem dX10_rudder_9 : decode cX10_rudder 9 = .ok (.iload_n 3, 1) := by decide +kernel
theorem dX10_rudder_10 : decode cX10_rudder 10 = .ok (.iconst 0, 1) := by decide +kernel
theorem dX10_rudder_11 : decode cX10_rudder 11 = .ok (.sipush 999, 3) := by decide +kernel
theorem dX10_rudder_14 : decode cX10_rudder 14 = .ok (.invokestatic 54, 3) := by decide +kernel
theorem dX10_rudder_17 : decode cX10_rudder 17 = .ok (.ifCond .ne 5, 3) := by decide +kernel
theorem dX10_rudder_20 : decode cX10_rudder 20 = .ok (.iconst (-1), 1) := by decide +kernel
theorem dX10_rudder_21 : decode cX10_rudder 21 = .ok (.ireturn, 1) := by decide +kernel
theorem dX10_rudder_22 : decode cX10_rudder 22 = .ok (.iconst 0, 1) := by decide +kernel
theorem dX10_rudder_23 : decode cX10_rudder 23 = .ok (.istore 4, 2) := by decide +kernel
theorem dX10_rudder_25 : decode cX10_rudder 25 = .ok (.iload_n 2, 1) := by decide +kernel
theorem dX10_rudder_26 : decode cX10_rudder 26 = .ok (.istore 5, 2) := by decide +kernel
theorem dX10_rudder_28 : decode cX10_rudder 28 = .ok (.iload 5, 2) := by decide +kernel
theorem dX10_rudder_30 : decode cX10_rudder 30 = .ok (.iload_n 2, 1) := by decide +kernel
theorem dX10_rudder_31 : decode cX10_rudder 31 = .ok (.iload_n 3, 1) := by decide +kernel
theorem dX10_rudder_32 : decode cX10_rudder 32 = .ok (.iadd, 1) := by decide +kernel
theorem dX10_rudder_33 : decode cX10_rudder 33 = .ok (.if_icmp .gt 44, 3) := by decide +kernel
theorem dX10_rudder_36 : decode cX10_rudder 36 = .ok (.aload_n 0, 1) := by decide +kernel
theorem dX10_rudder_37 : decode cX10_rudder 37 = .ok (.iload_n 1, 1) := by decide +kernel
theorem dX10_rudder_38 : decode cX10_rudder 38 = .ok (.iload 5, 2) := by decide +kernel
theorem dX10_rudder_40 : decode cX10_rudder 40 = .ok (.invokevirtual 196, 3) := by decide +kernel
theorem dX10_rudder_43 : decode cX10_rudder 43 = .ok (.iload 4, 2) := by decide +kernel
theorem dX10_rudder_45 : decode cX10_rudder 45 = .ok (.aload_n 0, 1) := by decide +kernel
theorem dX10_rudder_46 : decode cX10_rudder 46 = .ok (.getfield 29, 3) := by decide +kernel
theorem dX10_rudder_49 : decode cX10_rudder 49 = .ok (.getfield 203, 3) := by decide +kernel
theorem dX10_rudder_52 : decode cX10_rudder 52 = .ok (.bipush (-4), 2) := by decide +kernel
theorem dX10_rudder_54 : decode cX10_rudder 54 = .ok (.if_icmp .ne 13, 3) := by decide +kernel
theorem dX10_rudder_57 : decode cX10_rudder 57 = .ok (.aload_n 0, 1) := by decide +kernel
theorem dX10_rudder_58 : decode cX10_rudder 58 = .ok (.getfield 29, 3) := by decide +kernel
theorem dX10_rudder_61 : decode cX10_rudder 61 = .ok (.getfield 252, 3) := by decide +kernel
theorem dX10_rudder_64 : decode cX10_rudder 64 = .ok (.goto 4, 3) := by decide +kernel
theorem dX10_rudder_67 : decode cX10_rudder 67 = .ok (.iconst 0, 1) := by decide +kernel
theorem dX10_rudder_68 : decode cX10_rudder 68 = .ok (.ior, 1) := by decide +kernel
theorem dX10_rudder_69 : decode cX10_rudder 69 = .ok (.istore 4, 2) := by decide +kernel
theorem dX10_rudder_71 : decode cX10_rudder 71 = .ok (.iinc 5 1, 3) := by decide +kernel
theorem dX10_rudder_74 : decode cX10_rudder 74 = .ok (.goto (-46), 3) := by decide +kernel
theorem dX10_rudder_77 : decode cX10_rudder 77 = .ok (.iload 4, 2) := by decide +kernel
theorem dX10_rudder_79 : decode cX10_rudder 79 = .ok (.ireturn, 1) := by decide +kernel
theorem dX10_worth_0 : decode cX10_worth 0 = .ok (.aload_n 0, 1) := by decide +kernel
theorem dX10_worth_1 : decode cX10_worth 1 = .ok (.iload_n 1, 1) := by decide +kernel
theorem dX10_worth_2 : decode cX10_worth 2 = .ok (.invokevirtual 103, 3) := by decide +kernel
theorem dX10_worth_5 : decode cX10_worth 5 = .ok (.ifCond .eq 11, 3) := by decide +kernel
theorem dX10_worth_8 : decode cX10_worth 8 = .ok (.aload_n 0, 1) := by decide +kernel
theorem dX10_worth_9 : decode cX10_worth 9 = .ok (.iload_n 2, 1) := by decide +kernel
theorem dX10_worth_10 : decode cX10_worth 10 = .ok (.invokevirtual 72, 3) := by decide +kernel
theorem dX10_worth_13 : decode cX10_worth 13 = .ok (.ifCond .ne 5, 3) := by decide +kernel
theorem dX10_worth_16 : decode cX10_worth 16 = .ok (.iconst (-1), 1) := by decide +kernel
theorem dX10_worth_17 : decode cX10_worth 17 = .ok (.ireturn, 1) := by decide +kernel
theorem dX10_worth_18 : decode cX10_worth 18 = .ok (.iconst 0, 1) := by decide +kernel
theorem dX10_worth_19 : decode cX10_worth 19 = .ok (.istore_n 3, 1) := by decide +kernel
theorem dX10_worth_20 : decode cX10_worth 20 = .ok (.iconst 0, 1) := by decide +kernel
theorem dX10_worth_21 : decode cX10_worth 21 = .ok (.istore 4, 2) := by decide +kernel
theorem dX10_worth_23 : decode cX10_worth 23 = .ok (.iload 4, 2) := by decide +kernel
theorem dX10_worth_25 : decode cX10_worth 25 = .ok (.bipush 60, 2) := by decide +kernel
theorem dX10_worth_27 : decode cX10_worth 27 = .ok (.if_icmp .ge 81, 3) := by decide +kernel
theorem dX10_worth_30 : decode cX10_worth 30 = .ok (.aload_n 0, 1) := by decide +kernel
theorem dX10_worth_31 : decode cX10_worth 31 = .ok (.getfield 29, 3) := by decide +kernel
theorem dX10_worth_34 : decode cX10_worth 34 = .ok (.aload_n 0, 1) := by decide +kernel
theorem dX10_worth_35 : decode cX10_worth 35 = .ok (.getfield 12, 3) := by decide +kernel
theorem dX10_worth_38 : decode cX10_worth 38 = .ok (.aload_n 0, 1) := by decide +kernel
theorem dX10_worth_39 : decode cX10_worth 39 = .ok (.getfield 12, 3) := by decide +kernel
theorem dX10_worth_42 : decode cX10_worth 42 = .ok (.getfield 85, 3) := by decide +kernel
theorem dX10_worth_45 : decode cX10_worth 45 = .ok (.iload_n 1, 1) := by decide +kernel
theorem dX10_worth_46 : decode cX10_worth 46 = .ok (.aaload, 1) := by decide +kernel
theorem dX10_worth_47 : decode cX10_worth 47 = .ok (.iload 4, 2) := by decide +kernel
theorem dX10_worth_49 : decode cX10_worth 49 = .ok (.invokevirtual 229, 3) := by decide +kernel
theorem dX10_worth_52 : decode cX10_worth 52 = .ok (.aload_n 0, 1) := by decide +kernel
theorem dX10_worth_53 : decode cX10_worth 53 = .ok (.getfield 29, 3) := by decide +kernel
theorem dX10_worth_56 : decode cX10_worth 56 = .ok (.aload_n 0, 1) := by decide +kernel
theorem dX10_worth_57 : decode cX10_worth 57 = .ok (.getfield 12, 3) := by decide +kernel
theorem dX10_worth_60 : decode cX10_worth 60 = .ok (.iload_n 2, 1) := by decide +kernel
theorem dX10_worth_61 : decode cX10_worth 61 = .ok (.invokevirtual 253, 3) := by decide +kernel
theorem dX10_worth_64 : decode cX10_worth 64 = .ok (.ifCond .eq 22, 3) := by decide +kernel
theorem dX10_worth_67 : decode cX10_worth 67 = .ok (.aload_n 0, 1) := by decide +kernel
theorem dX10_worth_68 : decode cX10_worth 68 = .ok (.getfield 29, 3) := by decide +kernel
theorem dX10_worth_71 : decode cX10_worth 71 = .ok (.aload_n 0, 1) := by decide +kernel
theorem dX10_worth_72 : decode cX10_worth 72 = .ok (.getfield 12, 3) := by decide +kernel
theorem dX10_worth_75 : decode cX10_worth 75 = .ok (.iload_n 2, 1) := by decide +kernel
theorem dX10_worth_76 : decode cX10_worth 76 = .ok (.invokevirtual 257, 3) := by decide +kernel
theorem dX10_worth_79 : decode cX10_worth 79 = .ok (.ifCond .ne 7, 3) := by decide +kernel
theorem dX10_worth_82 : decode cX10_worth 82 = .ok (.iconst 1, 1) := by decide +kernel
theorem dX10_worth_83 : decode cX10_worth 83 = .ok (.goto 4, 3) := by decide +kernel
theorem dX10_worth_86 : decode cX10_worth 86 = .ok (.iconst 0, 1) := by decide +kernel
theorem dX10_worth_87 : decode cX10_worth 87 = .ok (.istore 5, 2) := by decide +kernel
theorem dX10_worth_89 : decode cX10_worth 89 = .ok (.iload_n 3, 1) := by decide +kernel
theorem dX10_worth_90 : decode cX10_worth 90 = .ok (.iload 5, 2) := by decide +kernel
theorem dX10_worth_92 : decode cX10_worth 92 = .ok (.ifCond .eq 7, 3) := by decide +kernel
theorem dX10_worth_95 : decode cX10_worth 95 = .ok (.iconst 1, 1) := by decide +kernel
theorem dX10_worth_96 : decode cX10_worth 96 = .ok (.goto 4, 3) := by decide +kernel
theorem dX10_worth_99 : decode cX10_worth 99 = .ok (.iconst 0, 1) := by decide +kernel
theorem dX10_worth_100 : decode cX10_worth 100 = .ok (.iadd, 1) := by decide +kernel
theorem dX10_worth_101 : decode cX10_worth 101 = .ok (.istore_n 3, 1) := by decide +kernel
theorem dX10_worth_102 : decode cX10_worth 102 = .ok (.iinc 4 1, 3) := by decide +kernel
theorem dX10_worth_105 : decode cX10_worth 105 = .ok (.goto (-82), 3) := by decide +kernel
theorem dX10_worth_108 : decode cX10_worth 108 = .ok (.iload_n 3, 1) := by decide +kernel
theorem dX10_worth_109 : decode cX10_worth 109 = .ok (.ireturn, 1) := by decide +kernel
theorem dX10_look_0 : decode cX10_look 0 = .ok (.iload_n 1, 1) := by decide +kernel
theorem dX10_look_1 : decode cX10_look 1 = .ok (.iconst 0, 1) := by decide +kernel
theorem dX10_look_2 : decode cX10_look 2 = .ok (.sipush 9999, 3) := by decide +kernel
theorem dX10_look_5 : decode cX10_look 5 = .ok (.invokestatic 54, 3) := by decide +kernel
theorem dX10_look_8 : decode cX10_look 8 = .ok (.ifCond .eq 12, 3) := by decide +kernel
theorem dX10_look_11 : decode cX10_look 11 = .ok (.iload_n 2, 1) := by decide +kernel
theorem dX10_look_12 : decode cX10_look 12 = .ok (.iconst 0, 1) := by decide +kernel
theorem dX10_look_13 : decode cX10_look 13 = .ok (.iconst 1, 1) := by decide +kernel
theorem dX10_look_14 : decode cX10_look 14 = .ok (.invokestatic 54, 3) := by decide +kernel
theorem dX10_look_17 : decode cX10_look 17 = .ok (.ifCond .ne 5, 3) := by decide +kernel
theorem dX10_look_20 : decode cX10_look 20 = .ok (.iconst (-1), 1) := by decide +kernel
theorem dX10_look_21 : decode cX10_look 21 = .ok (.ireturn, 1) := by decide +kernel
theorem dX10_look_22 : decode cX10_look 22 = .ok (.aload_n 0, 1) := by decide +kernel
theorem dX10_look_23 : decode cX10_look 23 = .ok (.getfield 12, 3) := by decide +kernel
theorem dX10_look_26 : decode cX10_look 26 = .ok (.getfield 170, 3) := by decide +kernel
theorem dX10_look_29 : decode cX10_look 29 = .ok (.iload_n 1, 1) := by decide +kernel
theorem dX10_look_30 : decode cX10_look 30 = .ok (.iload_n 2, 1) := by decide +kernel
theorem dX10_look_31 : decode cX10_look 31 = .ok (.invokevirtual 260, 3) := by decide +kernel
theorem dX10_look_34 : decode cX10_look 34 = .ok (.ifCond .eq 16, 3) := by decide +kernel
theorem dX10_look_37 : decode cX10_look 37 = .ok (.aload_n 0, 1) := by decide +kernel
theorem dX10_look_38 : decode cX10_look 38 = .ok (.getfield 12, 3) := by decide +kernel
theorem dX10_look_41 : decode cX10_look 41 = .ok (.getfield 170, 3) := by decide +kernel
theorem dX10_look_44 : decode cX10_look 44 = .ok (.getfield 174, 3) := by decide +kernel
theorem dX10_look_47 : decode cX10_look 47 = .ok (.goto 5, 3) := by decide +kernel
theorem dX10_look_50 : decode cX10_look 50 = .ok (.bipush (-3), 2) := by decide +kernel
theorem dX10_look_52 : decode cX10_look 52 = .ok (.ireturn, 1) := by decide +kernel
theorem dX10_forget_0 : decode cX10_forget 0 = .ok (.aload_n 0, 1) := by decide +kernel
theorem dX10_forget_1 : decode cX10_forget 1 = .ok (.getfield 12, 3) := by decide +kernel
theorem dX10_forget_4 : decode cX10_forget 4 = .ok (.getfield 170, 3) := by decide +kernel
theorem dX10_forget_7 : decode cX10_forget 7 = .ok (.getfield 174, 3) := by decide +kernel
theorem dX10_forget_10 : decode cX10_forget 10 = .ok (.istore_n 1, 1) := by decide +kernel
theorem dX10_forget_11 : decode cX10_forget 11 = .ok (.aload_n 0, 1) := by decide +kernel
theorem dX10_forget_12 : decode cX10_forget 12 = .ok (.getfield 12, 3) := by decide +kernel
theorem dX10_forget_15 : decode cX10_forget 15 = .ok (.getfield 170, 3) := by decide +kernel
theorem dX10_forget_18 : decode cX10_forget 18 = .ok (.iconst 0, 1) := by decide +kernel
theorem dX10_forget_19 : decode cX10_forget 19 = .ok (.putfield 174, 3) := by decide +kernel
theorem dX10_forget_22 : decode cX10_forget 22 = .ok (.iload_n 1, 1) := by decide +kernel
theorem dX10_forget_23 : decode cX10_forget 23 = .ok (.ireturn, 1) := by decide +kernel
theorem dX10_fits_0 : decode cX10_fits 0 = .ok (.iload_n 1, 1) := by decide +kernel
theorem dX10_fits_1 : decode cX10_fits 1 = .ok (.iconst 0, 1) := by decide +kernel
theorem dX10_fits_2 : decode cX10_fits 2 = .ok (.iconst 1, 1) := by decide +kernel
theorem dX10_fits_3 : decode cX10_fits 3 = .ok (.invokestatic 54, 3) := by decide +kernel
theorem dX10_fits_6 : decode cX10_fits 6 = .ok (.ifCond .ne 5, 3) := by decide +kernel
theorem dX10_fits_9 : decode cX10_fits 9 = .ok (.iconst (-1), 1) := by decide +kernel
theorem dX10_fits_10 : decode cX10_fits 10 = .ok (.ireturn, 1) := by decide +kernel
theorem dX10_fits_11 : decode cX10_fits 11 = .ok (.aload_n 0, 1) := by decide +kernel
theorem dX10_fits_12 : decode cX10_fits 12 = .ok (.getfield 43, 3) := by decide +kernel
theorem dX10_fits_15 : decode cX10_fits 15 = .ok (.aload_n 0, 1) := by decide +kernel
theorem dX10_fits_16 : decode cX10_fits 16 = .ok (.getfield 12, 3) := by decide +kernel
theorem dX10_fits_19 : decode cX10_fits 19 = .ok (.getfield 170, 3) := by decide +kernel
theorem dX10_fits_22 : decode cX10_fits 22 = .ok (.iconst 0, 1) := by decide +kernel
theorem dX10_fits_23 : decode cX10_fits 23 = .ok (.iconst 0, 1) := by decide +kernel
theorem dX10_fits_24 : decode cX10_fits 24 = .ok (.invokevirtual 262, 3) := by decide +kernel
theorem dX10_fits_27 : decode cX10_fits 27 = .ok (.iload_n 1, 1) := by decide +kernel
theorem dX10_fits_28 : decode cX10_fits 28 = .ok (.ifCond .ne 13, 3) := by decide +kernel
theorem dX10_fits_31 : decode cX10_fits 31 = .ok (.aload_n 0, 1) := by decide +kernel
theorem dX10_fits_32 : decode cX10_fits 32 = .ok (.getfield 43, 3) := by decide +kernel
theorem dX10_fits_35 : decode cX10_fits 35 = .ok (.getfield 266, 3) := by decide +kernel
theorem dX10_fits_38 : decode cX10_fits 38 = .ok (.goto 10, 3) := by decide +kernel
theorem dX10_fits_41 : decode cX10_fits 41 = .ok (.aload_n 0, 1) := by decide +kernel
theorem dX10_fits_42 : decode cX10_fits 42 = .ok (.getfield 43, 3) := by decide +kernel
theorem dX10_fits_45 : decode cX10_fits 45 = .ok (.getfield 269, 3) := by decide +kernel
theorem dX10_fits_48 : decode cX10_fits 48 = .ok (.ireturn, 1) := by decide +kernel
theorem dX10_foretell_0 : decode cX10_foretell 0 = .ok (.iload_n 1, 1) := by decide +kernel
theorem dX10_foretell_1 : decode cX10_foretell 1 = .ok (.iconst 0, 1) := by decide +kernel
theorem dX10_foretell_2 : decode cX10_foretell 2 = .ok (.sipush 9999, 3) := by decide +kernel
theorem dX10_foretell_5 : decode cX10_foretell 5 = .ok (.invokestatic 54, 3) := by decide +kernel
theorem dX10_foretell_8 : decode cX10_foretell 8 = .ok (.ifCond .ne 5, 3) := by decide +kernel
theorem dX10_foretell_11 : decode cX10_foretell 11 = .ok (.iconst (-1), 1) := by decide +kernel
theorem dX10_foretell_12 : decode cX10_foretell 12 = .ok (.ireturn, 1) := by decide +kernel
theorem dX10_foretell_13 : decode cX10_foretell 13 = .ok (.aload_n 0, 1) := by decide +kernel
theorem dX10_foretell_14 : decode cX10_foretell 14 = .ok (.getfield 43, 3) := by decide +kernel
theorem dX10_foretell_17 : decode cX10_foretell 17 = .ok (.aload_n 0, 1) := by decide +kernel
theorem dX10_foretell_18 : decode cX10_foretell 18 = .ok (.getfield 12, 3) := by decide +kernel
theorem dX10_foretell_21 : decode cX10_foretell 21 = .ok (.getfield 170, 3) := by decide +kernel
theorem dX10_foretell_24 : decode cX10_foretell 24 = .ok (.iload_n 1, 1) := by decide +kernel
theorem dX10_foretell_25 : decode cX10_foretell 25 = .ok (.iconst 1, 1) := by decide +kernel
theorem dX10_foretell_26 : decode cX10_foretell 26 = .ok (.invokevirtual 262, 3) := by decide +kernel
theorem dX10_foretell_29 : decode cX10_foretell 29 = .ok (.aload_n 0, 1) := by decide +kernel
theorem dX10_foretell_30 : decode cX10_foretell 30 = .ok (.getfield 43, 3) := by decide +kernel
theorem dX10_foretell_33 : decode cX10_foretell 33 = .ok (.getfield 266, 3) := by decide +kernel
theorem dX10_foretell_36 : decode cX10_foretell 36 = .ok (.ifCond .ne 6, 3) := by decide +kernel
theorem dX10_foretell_39 : decode cX10_foretell 39 = .ok (.bipush (-4), 2) := by decide +kernel
theorem dX10_foretell_41 : decode cX10_foretell 41 = .ok (.ireturn, 1) := by decide +kernel
theorem dX10_foretell_42 : decode cX10_foretell 42 = .ok (.aload_n 0, 1) := by decide +kernel
theorem dX10_foretell_43 : decode cX10_foretell 43 = .ok (.getfield 43, 3) := by decide +kernel
theorem dX10_foretell_46 : decode cX10_foretell 46 = .ok (.getfield 272, 3) := by decide +kernel
theorem dX10_foretell_49 : decode cX10_foretell 49 = .ok (.iconst 0, 1) := by decide +kernel
theorem dX10_foretell_50 : decode cX10_foretell 50 = .ok (.iaload, 1) := by decide +kernel
theorem dX10_foretell_51 : decode cX10_foretell 51 = .ok (.istore_n 2, 1) := by decide +kernel
theorem dX10_foretell_52 : decode cX10_foretell 52 = .ok (.iload_n 2, 1) := by decide +kernel
theorem dX10_foretell_53 : decode cX10_foretell 53 = .ok (.aload_n 0, 1) := by decide +kernel
theorem dX10_foretell_54 : decode cX10_foretell 54 = .ok (.getfield 43, 3) := by decide +kernel
theorem dX10_foretell_57 : decode cX10_foretell 57 = .ok (.getfield 266, 3) := by decide +kernel
theorem dX10_foretell_60 : decode cX10_foretell 60 = .ok (.if_icmp .ne 5, 3) := by decide +kernel
theorem dX10_foretell_63 : decode cX10_foretell 63 = .ok (.iconst 1, 1) := by decide +kernel
theorem dX10_foretell_64 : decode cX10_foretell 64 = .ok (.ireturn, 1) := by decide +kernel
theorem dX10_foretell_65 : decode cX10_foretell 65 = .ok (.iload_n 2, 1) := by decide +kernel
theorem dX10_foretell_66 : decode cX10_foretell 66 = .ok (.ifCond .ne 7, 3) := by decide +kernel
theorem dX10_foretell_69 : decode cX10_foretell 69 = .ok (.iconst 0, 1) := by decide +kernel
theorem dX10_foretell_70 : decode cX10_foretell 70 = .ok (.goto 4, 3) := by decide +kernel
theorem dX10_foretell_73 : decode cX10_foretell 73 = .ok (.iconst 2, 1) := by decide +kernel
theorem dX10_foretell_74 : decode cX10_foretell 74 = .ok (.ireturn, 1) := by decide +kernel
theorem dX10_next_0 : decode cX10_next 0 = .ok (.iload_n 1, 1) := by decide +kernel
theorem dX10_next_1 : decode cX10_next 1 = .ok (.iconst 0, 1) := by decide +kernel
theorem dX10_next_2 : decode cX10_next 2 = .ok (.sipush 9999, 3) := by decide +kernel
theorem dX10_next_5 : decode cX10_next 5 = .ok (.invokestatic 54, 3) := by decide +kernel
theorem dX10_next_8 : decode cX10_next 8 = .ok (.ifCond .eq 12, 3) := by decide +kernel
theorem dX10_next_11 : decode cX10_next 11 = .ok (.iload_n 2, 1) := by decide +kernel
theorem dX10_next_12 : decode cX10_next 12 = .ok (.iconst 0, 1) := by decide +kernel
theorem dX10_next_13 : decode cX10_next 13 = .ok (.iconst 1, 1) := by decide +kernel
theorem dX10_next_14 : decode cX10_next 14 = .ok (.invokestatic 54, 3) := by decide +kernel
theorem dX10_next_17 : decode cX10_next 17 = .ok (.ifCond .ne 5, 3) := by decide +kernel
theorem dX10_next_20 : decode cX10_next 20 = .ok (.iconst (-1), 1) := by decide +kernel
theorem dX10_next_21 : decode cX10_next 21 = .ok (.ireturn, 1) := by decide +kernel
theorem dX10_next_22 : decode cX10_next 22 = .ok (.aload_n 0, 1) := by decide +kernel
theorem dX10_next_23 : decode cX10_next 23 = .ok (.getfield 43, 3) := by decide +kernel
theorem dX10_next_26 : decode cX10_next 26 = .ok (.aload_n 0, 1) := by decide +kernel
theorem dX10_next_27 : decode cX10_next 27 = .ok (.getfield 12, 3) := by decide +kernel
theorem dX10_next_30 : decode cX10_next 30 = .ok (.getfield 170, 3) := by decide +kernel
theorem dX10_next_33 : decode cX10_next 33 = .ok (.iload_n 1, 1) := by decide +kernel
theorem dX10_next_34 : decode cX10_next 34 = .ok (.bipush 60, 2) := by decide +kernel
theorem dX10_next_36 : decode cX10_next 36 = .ok (.invokevirtual 262, 3) := by decide +kernel
theorem dX10_next_39 : decode cX10_next 39 = .ok (.aload_n 0, 1) := by decide +kernel
theorem dX10_next_40 : decode cX10_next 40 = .ok (.getfield 43, 3) := by decide +kernel
theorem dX10_next_43 : decode cX10_next 43 = .ok (.getfield 266, 3) := by decide +kernel
theorem dX10_next_46 : decode cX10_next 46 = .ok (.ifCond .ne 6, 3) := by decide +kernel
theorem dX10_next_49 : decode cX10_next 49 = .ok (.bipush (-4), 2) := by decide +kernel
theorem dX10_next_51 : decode cX10_next 51 = .ok (.ireturn, 1) := by decide +kernel
theorem dX10_next_52 : decode cX10_next 52 = .ok (.iconst 0, 1) := by decide +kernel
theorem dX10_next_53 : decode cX10_next 53 = .ok (.istore_n 3, 1) := by decide +kernel
theorem dX10_next_54 : decode cX10_next 54 = .ok (.iconst 1, 1) := by decide +kernel
theorem dX10_next_55 : decode cX10_next 55 = .ok (.istore 4, 2) := by decide +kernel
theorem dX10_next_57 : decode cX10_next 57 = .ok (.iload 4, 2) := by decide +kernel
theorem dX10_next_59 : decode cX10_next 59 = .ok (.bipush 60, 2) := by decide +kernel
theorem dX10_next_61 : decode cX10_next 61 = .ok (.if_icmp .ge 32, 3) := by decide +kernel
theorem dX10_next_64 : decode cX10_next 64 = .ok (.aload_n 0, 1) := by decide +kernel
theorem dX10_next_65 : decode cX10_next 65 = .ok (.getfield 43, 3) := by decide +kernel
theorem dX10_next_68 : decode cX10_next 68 = .ok (.iload 4, 2) := by decide +kernel
theorem dX10_next_70 : decode cX10_next 70 = .ok (.invokevirtual 275, 3) := by decide +kernel
theorem dX10_next_73 : decode cX10_next 73 = .ok (.aload_n 0, 1) := by decide +kernel
theorem dX10_next_74 : decode cX10_next 74 = .ok (.getfield 43, 3) := by decide +kernel
theorem dX10_next_77 : decode cX10_next 77 = .ok (.iload_n 3, 1) := by decide +kernel
theorem dX10_next_78 : decode cX10_next 78 = .ok (.invokevirtual 275, 3) := by decide +kernel
theorem dX10_next_81 : decode cX10_next 81 = .ok (.if_icmp .ge 6, 3) := by decide +kernel
theorem dX10_next_84 : decode cX10_next 84 = .ok (.iload 4, 2) := by decide +kernel
theorem dX10_next_86 : decode cX10_next 86 = .ok (.istore_n 3, 1) := by decide +kernel
theorem dX10_next_87 : decode cX10_next 87 = .ok (.iinc 4 1, 3) := by decide +kernel
theorem dX10_next_90 : decode cX10_next 90 = .ok (.goto (-33), 3) := by decide +kernel
theorem dX10_next_93 : decode cX10_next 93 = .ok (.iload_n 2, 1) := by decide +kernel
theorem dX10_next_94 : decode cX10_next 94 = .ok (.ifCond .ne 9, 3) := by decide +kernel
theorem dX10_next_97 : decode cX10_next 97 = .ok (.iload_n 1, 1) := by decide +kernel
theorem dX10_next_98 : decode cX10_next 98 = .ok (.iload_n 3, 1) := by decide +kernel
theorem dX10_next_99 : decode cX10_next 99 = .ok (.iadd, 1) := by decide +kernel
theorem dX10_next_100 : decode cX10_next 100 = .ok (.goto 11, 3) := by decide +kernel
theorem dX10_next_103 : decode cX10_next 103 = .ok (.aload_n 0, 1) := by decide +kernel
theorem dX10_next_104 : decode cX10_next 104 = .ok (.getfield 43, 3) := by decide +kernel
theorem dX10_next_107 : decode cX10_next 107 = .ok (.iload_n 3, 1) := by decide +kernel
theorem dX10_next_108 : decode cX10_next 108 = .ok (.invokevirtual 275, 3) := by decide +kernel
theorem dX10_next_111 : decode cX10_next 111 = .ok (.ireturn, 1) := by decide +kernel
theorem dX10_image_0 : decode cX10_image 0 = .ok (.aload_n 0, 1) := by decide +kernel
theorem dX10_image_1 : decode cX10_image 1 = .ok (.getfield 16, 3) := by decide +kernel
theorem dX10_image_4 : decode cX10_image 4 = .ok (.aload_n 0, 1) := by decide +kernel
theorem dX10_image_5 : decode cX10_image 5 = .ok (.getfield 12, 3) := by decide +kernel
theorem dX10_image_8 : decode cX10_image 8 = .ok (.invokevirtual 278, 3) := by decide +kernel
theorem dX10_image_11 : decode cX10_image 11 = .ok (.aload_n 0, 1) := by decide +kernel
theorem dX10_image_12 : decode cX10_image 12 = .ok (.iconst 1, 1) := by decide +kernel
theorem dX10_image_13 : decode cX10_image 13 = .ok (.putfield 282, 3) := by decide +kernel
theorem dX10_image_16 : decode cX10_image 16 = .ok (.iconst 1, 1) := by decide +kernel
theorem dX10_image_17 : decode cX10_image 17 = .ok (.ireturn, 1) := by decide +kernel
theorem dX10_restore_0 : decode cX10_restore 0 = .ok (.aload_n 0, 1) := by decide +kernel
theorem dX10_restore_1 : decode cX10_restore 1 = .ok (.getfield 282, 3) := by decide +kernel
theorem dX10_restore_4 : decode cX10_restore 4 = .ok (.ifCond .ne 6, 3) := by decide +kernel
theorem dX10_restore_7 : decode cX10_restore 7 = .ok (.bipush (-4), 2) := by decide +kernel
theorem dX10_restore_9 : decode cX10_restore 9 = .ok (.ireturn, 1) := by decide +kernel
theorem dX10_restore_10 : decode cX10_restore 10 = .ok (.aload_n 0, 1) := by decide +kernel
theorem dX10_restore_11 : decode cX10_restore 11 = .ok (.getfield 12, 3) := by decide +kernel
theorem dX10_restore_14 : decode cX10_restore 14 = .ok (.aload_n 0, 1) := by decide +kernel
theorem dX10_restore_15 : decode cX10_restore 15 = .ok (.getfield 16, 3) := by decide +kernel
theorem dX10_restore_18 : decode cX10_restore 18 = .ok (.invokevirtual 278, 3) := by decide +kernel
theorem dX10_restore_21 : decode cX10_restore 21 = .ok (.iconst 1, 1) := by decide +kernel
theorem dX10_restore_22 : decode cX10_restore 22 = .ok (.ireturn, 1) := by decide +kernel
theorem dX10_judged_0 : decode cX10_judged 0 = .ok (.aload_n 0, 1) := by decide +kernel
theorem dX10_judged_1 : decode cX10_judged 1 = .ok (.iload_n 1, 1) := by decide +kernel
theorem dX10_judged_2 : decode cX10_judged 2 = .ok (.iload_n 2, 1) := by decide +kernel
theorem dX10_judged_3 : decode cX10_judged 3 = .ok (.invokevirtual 206, 3) := by decide +kernel
theorem dX10_judged_6 : decode cX10_judged 6 = .ok (.ifCond .eq 23, 3) := by decide +kernel
theorem dX10_judged_9 : decode cX10_judged 9 = .ok (.aload_n 0, 1) := by decide +kernel
theorem dX10_judged_10 : decode cX10_judged 10 = .ok (.iload_n 3, 1) := by decide +kernel
theorem dX10_judged_11 : decode cX10_judged 11 = .ok (.iload 4, 2) := by decide +kernel
theorem dX10_judged_13 : decode cX10_judged 13 = .ok (.invokevirtual 286, 3) := by decide +kernel
theorem dX10_judged_16 : decode cX10_judged 16 = .ok (.ifCond .eq 13, 3) := by decide +kernel
theorem dX10_judged_19 : decode cX10_judged 19 = .ok (.iload 6, 2) := by decide +kernel
theorem dX10_judged_21 : decode cX10_judged 21 = .ok (.iconst 0, 1) := by decide +kernel
theorem dX10_judged_22 : decode cX10_judged 22 = .ok (.iconst 2, 1) := by decide +kernel
theorem dX10_judged_23 : decode cX10_judged 23 = .ok (.invokestatic 54, 3) := by decide +kernel
theorem dX10_judged_26 : decode cX10_judged 26 = .ok (.ifCond .ne 5, 3) := by decide +kernel
theorem dX10_judged_29 : decode cX10_judged 29 = .ok (.iconst (-1), 1) := by decide +kernel
theorem dX10_judged_30 : decode cX10_judged 30 = .ok (.ireturn, 1) := by decide +kernel
theorem dX10_judged_31 : decode cX10_judged 31 = .ok (.aload_n 0, 1) := by decide +kernel
theorem dX10_judged_32 : decode cX10_judged 32 = .ok (.getfield 49, 3) := by decide +kernel
theorem dX10_judged_35 : decode cX10_judged 35 = .ok (.iload_n 3, 1) := by decide +kernel
theorem dX10_judged_36 : decode cX10_judged 36 = .ok (.aaload, 1) := by decide +kernel
theorem dX10_judged_37 : decode cX10_judged 37 = .ok (.astore 7, 2) := by decide +kernel
theorem dX10_judged_39 : decode cX10_judged 39 = .ok (.aload 7, 2) := by decide +kernel
theorem dX10_judged_41 : decode cX10_judged 41 = .ok (.iload 4, 2) := by decide +kernel
theorem dX10_judged_43 : decode cX10_judged 43 = .ok (.iload 5, 2) := by decide +kernel
theorem dX10_judged_45 : decode cX10_judged 45 = .ok (.aload_n 0, 1) := by decide +kernel
theorem dX10_judged_46 : decode cX10_judged 46 = .ok (.getfield 12, 3) := by decide +kernel
theorem dX10_judged_49 : decode cX10_judged 49 = .ok (.getfield 58, 3) := by decide +kernel
theorem dX10_judged_52 : decode cX10_judged 52 = .ok (.invokevirtual 289, 3) := by decide +kernel
theorem dX10_judged_55 : decode cX10_judged 55 = .ok (.istore 8, 2) := by decide +kernel
theorem dX10_judged_57 : decode cX10_judged 57 = .ok (.iload 8, 2) := by decide +kernel
theorem dX10_judged_59 : decode cX10_judged 59 = .ok (.ifCond .eq 6, 3) := by decide +kernel
theorem dX10_judged_62 : decode cX10_judged 62 = .ok (.iload 8, 2) := by decide +kernel
theorem dX10_judged_64 : decode cX10_judged 64 = .ok (.ireturn, 1) := by decide +kernel
theorem dX10_judged_65 : decode cX10_judged 65 = .ok (.aload_n 0, 1) := by decide +kernel
theorem dX10_judged_66 : decode cX10_judged 66 = .ok (.getfield 12, 3) := by decide +kernel
theorem dX10_judged_69 : decode cX10_judged 69 = .ok (.getfield 85, 3) := by decide +kernel
theorem dX10_judged_72 : decode cX10_judged 72 = .ok (.iload_n 1, 1) := by decide +kernel
theorem dX10_judged_73 : decode cX10_judged 73 = .ok (.aaload, 1) := by decide +kernel
theorem dX10_judged_74 : decode cX10_judged 74 = .ok (.astore 9, 2) := by decide +kernel
theorem dX10_judged_76 : decode cX10_judged 76 = .ok (.iconst 0, 1) := by decide +kernel
theorem dX10_judged_77 : decode cX10_judged 77 = .ok (.istore 10, 2) := by decide +kernel
theorem dX10_judged_79 : decode cX10_judged 79 = .ok (.iload 10, 2) := by decide +kernel
theorem dX10_judged_81 : decode cX10_judged 81 = .ok (.aload_n 0, 1) := by decide +kernel
theorem dX10_judged_82 : decode cX10_judged 82 = .ok (.getfield 12, 3) := by decide +kernel
theorem dX10_judged_85 : decode cX10_judged 85 = .ok (.getfield 58, 3) := by decide +kernel
theorem dX10_judged_88 : decode cX10_judged 88 = .ok (.if_icmp .ge 62, 3) := by decide +kernel
theorem dX10_judged_91 : decode cX10_judged 91 = .ok (.aload 7, 2) := by decide +kernel
theorem dX10_judged_93 : decode cX10_judged 93 = .ok (.getfield 292, 3) := by decide +kernel
theorem dX10_judged_96 : decode cX10_judged 96 = .ok (.iload 5, 2) := by decide +kernel
theorem dX10_judged_98 : decode cX10_judged 98 = .ok (.iload 10, 2) := by decide +kernel
theorem dX10_judged_100 : decode cX10_judged 100 = .ok (.iadd, 1) := by decide +kernel
theorem dX10_judged_101 : decode cX10_judged 101 = .ok (.laload, 1) := by decide +kernel
theorem dX10_judged_102 : decode cX10_judged 102 = .ok (.lstore 11, 2) := by decide +kernel
theorem dX10_judged_104 : decode cX10_judged 104 = .ok (.lload 11, 2) := by decide +kernel
theorem dX10_judged_106 : decode cX10_judged 106 = .ok (.aload 9, 2) := by decide +kernel
theorem dX10_judged_108 : decode cX10_judged 108 = .ok (.invokevirtual 113, 3) := by decide +kernel
theorem dX10_judged_111 : decode cX10_judged 111 = .ok (.i2l, 1) := by decide +kernel
theorem dX10_judged_112 : decode cX10_judged 112 = .ok (.lcmp, 1) := by decide +kernel
theorem dX10_judged_113 : decode cX10_judged 113 = .ok (.ifCond .lt 15, 3) := by decide +kernel
theorem dX10_judged_116 : decode cX10_judged 116 = .ok (.lload 11, 2) := by decide +kernel
theorem dX10_judged_118 : decode cX10_judged 118 = .ok (.aload 9, 2) := by decide +kernel
theorem dX10_judged_120 : decode cX10_judged 120 = .ok (.invokevirtual 117, 3) := by decide +kernel
theorem dX10_judged_123 : decode cX10_judged 123 = .ok (.i2l, 1) := by decide +kernel
theorem dX10_judged_124 : decode cX10_judged 124 = .ok (.lcmp, 1) := by decide +kernel
theorem dX10_judged_125 : decode cX10_judged 125 = .ok (.ifCond .le 6, 3) := by decide +kernel
theorem dX10_judged_128 : decode cX10_judged 128 = .ok (.bipush (-2), 2) := by decide +kernel
theorem dX10_judged_130 : decode cX10_judged 130 = .ok (.ireturn, 1) := by decide +kernel
theorem dX10_judged_131 : decode cX10_judged 131 = .ok (.aload_n 0, 1) := by decide +kernel
theorem dX10_judged_132 : decode cX10_judged 132 = .ok (.getfield 29, 3) := by decide +kernel
theorem dX10_judged_135 : decode cX10_judged 135 = .ok (.getfield 296, 3) := by decide +kernel
theorem dX10_judged_138 : decode cX10_judged 138 = .ok (.iload 10, 2) := by decide +kernel
theorem dX10_judged_140 : decode cX10_judged 140 = .ok (.lload 11, 2) := by decide +kernel
theorem dX10_judged_142 : decode cX10_judged 142 = .ok (.l2i, 1) := by decide +kernel
theorem dX10_judged_143 : decode cX10_judged 143 = .ok (.iastore, 1) := by decide +kernel
theorem dX10_judged_144 : decode cX10_judged 144 = .ok (.iinc 10 1, 3) := by decide +kernel
theorem dX10_judged_147 : decode cX10_judged 147 = .ok (.goto (-68), 3) := by decide +kernel
theorem dX10_judged_150 : decode cX10_judged 150 = .ok (.aload_n 0, 1) := by decide +kernel
theorem dX10_judged_151 : decode cX10_judged 151 = .ok (.getfield 29, 3) := by decide +kernel
theorem dX10_judged_154 : decode cX10_judged 154 = .ok (.aload_n 0, 1) := by decide +kernel
theorem dX10_judged_155 : decode cX10_judged 155 = .ok (.getfield 12, 3) := by decide +kernel
theorem dX10_judged_158 : decode cX10_judged 158 = .ok (.aload 9, 2) := by decide +kernel
theorem dX10_judged_160 : decode cX10_judged 160 = .ok (.iload_n 2, 1) := by decide +kernel
theorem dX10_judged_161 : decode cX10_judged 161 = .ok (.invokevirtual 297, 3) := by decide +kernel
theorem dX10_judged_164 : decode cX10_judged 164 = .ok (.aload_n 0, 1) := by decide +kernel
theorem dX10_judged_165 : decode cX10_judged 165 = .ok (.getfield 29, 3) := by decide +kernel
theorem dX10_judged_168 : decode cX10_judged 168 = .ok (.iload 6, 2) := by decide +kernel
theorem dX10_judged_170 : decode cX10_judged 170 = .ok (.invokevirtual 225, 3) := by decide +kernel
theorem dX10_judged_173 : decode cX10_judged 173 = .ok (.ireturn, 1) := by decide +kernel
theorem dX10_film_0 : decode cX10_film 0 = .ok (.iload_n 1, 1) := by decide +kernel
theorem dX10_film_1 : decode cX10_film 1 = .ok (.iconst 0, 1) := by decide +kernel
theorem dX10_film_2 : decode cX10_film 2 = .ok (.ldc 123, 2) := by decide +kernel
theorem dX10_film_4 : decode cX10_film 4 = .ok (.invokestatic 54, 3) := by decide +kernel
theorem dX10_film_7 : decode cX10_film 7 = .ok (.ifCond .eq 12, 3) := by decide +kernel
theorem dX10_film_10 : decode cX10_film 10 = .ok (.aload_n 0, 1) := by decide +kernel
theorem dX10_film_11 : decode cX10_film 11 = .ok (.iload_n 2, 1) := by decide +kernel
theorem dX10_film_12 : decode cX10_film 12 = .ok (.iload_n 3, 1) := by decide +kernel
theorem dX10_film_13 : decode cX10_film 13 = .ok (.invokevirtual 286, 3) := by decide +kernel
theorem dX10_film_16 : decode cX10_film 16 = .ok (.ifCond .ne 5, 3) := by decide +kernel
theorem dX10_film_19 : decode cX10_film 19 = .ok (.iconst (-1), 1) := by decide +kernel
theorem dX10_film_20 : decode cX10_film 20 = .ok (.ireturn, 1) := by decide +kernel
theorem dX10_film_21 : decode cX10_film 21 = .ok (.aload_n 0, 1) := by decide +kernel
theorem dX10_film_22 : decode cX10_film 22 = .ok (.getfield 49, 3) := by decide +kernel
theorem dX10_film_25 : decode cX10_film 25 = .ok (.iload_n 2, 1) := by decide +kernel
theorem dX10_film_26 : decode cX10_film 26 = .ok (.aaload, 1) := by decide +kernel
theorem dX10_film_27 : decode cX10_film 27 = .ok (.astore 5, 2) := by decide +kernel
theorem dX10_film_29 : decode cX10_film 29 = .ok (.aload 5, 2) := by decide +kernel
theorem dX10_film_31 : decode cX10_film 31 = .ok (.iload_n 3, 1) := by decide +kernel
theorem dX10_film_32 : decode cX10_film 32 = .ok (.iload 4, 2) := by decide +kernel
theorem dX10_film_34 : decode cX10_film 34 = .ok (.aload_n 0, 1) := by decide +kernel
theorem dX10_film_35 : decode cX10_film 35 = .ok (.getfield 12, 3) := by decide +kernel
theorem dX10_film_38 : decode cX10_film 38 = .ok (.getfield 58, 3) := by decide +kernel
theorem dX10_film_41 : decode cX10_film 41 = .ok (.invokevirtual 289, 3) := by decide +kernel
theorem dX10_film_44 : decode cX10_film 44 = .ok (.istore 6, 2) := by decide +kernel
theorem dX10_film_46 : decode cX10_film 46 = .ok (.iload 6, 2) := by decide +kernel
theorem dX10_film_48 : decode cX10_film 48 = .ok (.ifCond .eq 6, 3) := by decide +kernel
theorem dX10_film_51 : decode cX10_film 51 = .ok (.iload 6, 2) := by decide +kernel
theorem dX10_film_53 : decode cX10_film 53 = .ok (.ireturn, 1) := by decide +kernel
theorem dX10_film_54 : decode cX10_film 54 = .ok (.iconst 0, 1) := by decide +kernel
theorem dX10_film_55 : decode cX10_film 55 = .ok (.istore 7, 2) := by decide +kernel
theorem dX10_film_57 : decode cX10_film 57 = .ok (.iload 7, 2) := by decide +kernel
theorem dX10_film_59 : decode cX10_film 59 = .ok (.aload_n 0, 1) := by decide +kernel
theorem dX10_film_60 : decode cX10_film 60 = .ok (.getfield 12, 3) := by decide +kernel
theorem dX10_film_63 : decode cX10_film 63 = .ok (.getfield 58, 3) := by decide +kernel
theorem dX10_film_66 : decode cX10_film 66 = .ok (.if_icmp .ge 38, 3) := by decide +kernel
theorem dX10_film_69 : decode cX10_film 69 = .ok (.aload 5, 2) := by decide +kernel
theorem dX10_film_71 : decode cX10_film 71 = .ok (.getfield 292, 3) := by decide +kernel
theorem dX10_film_74 : decode cX10_film 74 = .ok (.iload 4, 2) := by decide +kernel
theorem dX10_film_76 : decode cX10_film 76 = .ok (.iload 7, 2) := by decide +kernel
theorem dX10_film_78 : decode cX10_film 78 = .ok (.iadd, 1) := by decide +kernel
theorem dX10_film_79 : decode cX10_film 79 = .ok (.aload_n 0, 1) := by decide +kernel
theorem dX10_film_80 : decode cX10_film 80 = .ok (.getfield 12, 3) := by decide +kernel
theorem dX10_film_83 : decode cX10_film 83 = .ok (.getfield 62, 3) := by decide +kernel
theorem dX10_film_86 : decode cX10_film 86 = .ok (.iload 7, 2) := by decide +kernel
theorem dX10_film_88 : decode cX10_film 88 = .ok (.aaload, 1) := by decide +kernel
theorem dX10_film_89 : decode cX10_film 89 = .ok (.iload_n 1, 1) := by decide +kernel
theorem dX10_film_90 : decode cX10_film 90 = .ok (.invokevirtual 124, 3) := by decide +kernel
theorem dX10_film_93 : decode cX10_film 93 = .ok (.invokestatic 127, 3) := by decide +kernel
theorem dX10_film_96 : decode cX10_film 96 = .ok (.i2l, 1) := by decide +kernel
theorem dX10_film_97 : decode cX10_film 97 = .ok (.lastore, 1) := by decide +kernel
theorem dX10_film_98 : decode cX10_film 98 = .ok (.iinc 7 1, 3) := by decide +kernel
theorem dX10_film_101 : decode cX10_film 101 = .ok (.goto (-44), 3) := by decide +kernel
theorem dX10_film_104 : decode cX10_film 104 = .ok (.aload_n 0, 1) := by decide +kernel
theorem dX10_film_105 : decode cX10_film 105 = .ok (.getfield 12, 3) := by decide +kernel
theorem dX10_film_108 : decode cX10_film 108 = .ok (.getfield 58, 3) := by decide +kernel
theorem dX10_film_111 : decode cX10_film 111 = .ok (.ireturn, 1) := by decide +kernel
theorem dX10_sheet_0 : decode cX10_sheet 0 = .ok (.aload_n 0, 1) := by decide +kernel
theorem dX10_sheet_1 : decode cX10_sheet 1 = .ok (.iload_n 1, 1) := by decide +kernel
theorem dX10_sheet_2 : decode cX10_sheet 2 = .ok (.iload_n 2, 1) := by decide +kernel
theorem dX10_sheet_3 : decode cX10_sheet 3 = .ok (.invokevirtual 286, 3) := by decide +kernel
theorem dX10_sheet_6 : decode cX10_sheet 6 = .ok (.ifCond .eq 9, 3) := by decide +kernel
theorem dX10_sheet_9 : decode cX10_sheet 9 = .ok (.iload_n 3, 1) := by decide +kernel
theorem dX10_sheet_10 : decode cX10_sheet 10 = .ok (.bipush 16, 2) := by decide +kernel
theorem dX10_sheet_12 : decode cX10_sheet 12 = .ok (.if_icmp .le 5, 3) := by decide +kernel
theorem dX10_sheet_15 : decode cX10_sheet 15 = .ok (.iconst (-1), 1) := by decide +kernel
theorem dX10_sheet_16 : decode cX10_sheet 16 = .ok (.ireturn, 1) := by decide +kernel
theorem dX10_sheet_17 : decode cX10_sheet 17 = .ok (.iload_n 3, 1) := by decide +kernel
theorem dX10_sheet_18 : decode cX10_sheet 18 = .ok (.ifCond .ge 6, 3) := by decide +kernel
theorem dX10_sheet_21 : decode cX10_sheet 21 = .ok (.bipush (-14), 2) := by decide +kernel
theorem dX10_sheet_23 : decode cX10_sheet 23 = .ok (.ireturn, 1) := by decide +kernel
theorem dX10_sheet_24 : decode cX10_sheet 24 = .ok (.aload_n 0, 1) := by decide +kernel
theorem dX10_sheet_25 : decode cX10_sheet 25 = .ok (.getfield 49, 3) := by decide +kernel
theorem dX10_sheet_28 : decode cX10_sheet 28 = .ok (.iload_n 1, 1) := by decide +kernel
theorem dX10_sheet_29 : decode cX10_sheet 29 = .ok (.aaload, 1) := by decide +kernel
theorem dX10_sheet_30 : decode cX10_sheet 30 = .ok (.iload_n 2, 1) := by decide +kernel
theorem dX10_sheet_31 : decode cX10_sheet 31 = .ok (.iload_n 3, 1) := by decide +kernel
theorem dX10_sheet_32 : decode cX10_sheet 32 = .ok (.invokevirtual 300, 3) := by decide +kernel
theorem dX10_sheet_35 : decode cX10_sheet 35 = .ok (.iload_n 3, 1) := by decide +kernel
theorem dX10_sheet_36 : decode cX10_sheet 36 = .ok (.ireturn, 1) := by decide +kernel
theorem dX10_drop_0 : decode cX10_drop 0 = .ok (.iload_n 1, 1) := by decide +kernel
theorem dX10_drop_1 : decode cX10_drop 1 = .ok (.iconst 0, 1) := by decide +kernel
theorem dX10_drop_2 : decode cX10_drop 2 = .ok (.iconst 3, 1) := by decide +kernel
theorem dX10_drop_3 : decode cX10_drop 3 = .ok (.invokestatic 54, 3) := by decide +kernel
theorem dX10_drop_6 : decode cX10_drop 6 = .ok (.ifCond .ne 5, 3) := by decide +kernel
theorem dX10_drop_9 : decode cX10_drop 9 = .ok (.iconst (-1), 1) := by decide +kernel
theorem dX10_drop_10 : decode cX10_drop 10 = .ok (.ireturn, 1) := by decide +kernel
theorem dX10_drop_11 : decode cX10_drop 11 = .ok (.aload_n 0, 1) := by decide +kernel
theorem dX10_drop_12 : decode cX10_drop 12 = .ok (.getfield 49, 3) := by decide +kernel
theorem dX10_drop_15 : decode cX10_drop 15 = .ok (.iload_n 1, 1) := by decide +kernel
theorem dX10_drop_16 : decode cX10_drop 16 = .ok (.aaload, 1) := by decide +kernel
theorem dX10_drop_17 : decode cX10_drop 17 = .ok (.getfield 302, 3) := by decide +kernel
theorem dX10_drop_20 : decode cX10_drop 20 = .ok (.ifCond .ne 6, 3) := by decide +kernel
theorem dX10_drop_23 : decode cX10_drop 23 = .ok (.bipush (-11), 2) := by decide +kernel
theorem dX10_drop_25 : decode cX10_drop 25 = .ok (.ireturn, 1) := by decide +kernel
theorem dX10_drop_26 : decode cX10_drop 26 = .ok (.aload_n 0, 1) := by decide +kernel
theorem dX10_drop_27 : decode cX10_drop 27 = .ok (.getfield 49, 3) := by decide +kernel
theorem dX10_drop_30 : decode cX10_drop 30 = .ok (.iload_n 1, 1) := by decide +kernel
theorem dX10_drop_31 : decode cX10_drop 31 = .ok (.aaload, 1) := by decide +kernel
theorem dX10_drop_32 : decode cX10_drop 32 = .ok (.iconst 0, 1) := by decide +kernel
theorem dX10_drop_33 : decode cX10_drop 33 = .ok (.putfield 302, 3) := by decide +kernel
theorem dX10_drop_36 : decode cX10_drop 36 = .ok (.aload_n 0, 1) := by decide +kernel
theorem dX10_drop_37 : decode cX10_drop 37 = .ok (.getfield 49, 3) := by decide +kernel
theorem dX10_drop_40 : decode cX10_drop 40 = .ok (.iload_n 1, 1) := by decide +kernel
theorem dX10_drop_41 : decode cX10_drop 41 = .ok (.aaload, 1) := by decide +kernel
theorem dX10_drop_42 : decode cX10_drop 42 = .ok (.getfield 305, 3) := by decide +kernel
theorem dX10_drop_45 : decode cX10_drop 45 = .ok (.ireturn, 1) := by decide +kernel
theorem dX10_item_0 : decode cX10_item 0 = .ok (.aload_n 0, 1) := by decide +kernel
theorem dX10_item_1 : decode cX10_item 1 = .ok (.iload_n 1, 1) := by decide +kernel
theorem dX10_item_2 : decode cX10_item 2 = .ok (.iload_n 2, 1) := by decide +kernel
theorem dX10_item_3 : decode cX10_item 3 = .ok (.invokevirtual 286, 3) := by decide +kernel
theorem dX10_item_6 : decode cX10_item 6 = .ok (.ifCond .ne 5, 3) := by decide +kernel
theorem dX10_item_9 : decode cX10_item 9 = .ok (.iconst (-1), 1) := by decide +kernel
theorem dX10_item_10 : decode cX10_item 10 = .ok (.ireturn, 1) := by decide +kernel
theorem dX10_item_11 : decode cX10_item 11 = .ok (.aload_n 0, 1) := by decide +kernel
theorem dX10_item_12 : decode cX10_item 12 = .ok (.getfield 49, 3) := by decide +kernel
theorem dX10_item_15 : decode cX10_item 15 = .ok (.iload_n 1, 1) := by decide +kernel
theorem dX10_item_16 : decode cX10_item 16 = .ok (.aaload, 1) := by decide +kernel
theorem dX10_item_17 : decode cX10_item 17 = .ok (.iload_n 2, 1) := by decide +kernel
theorem dX10_item_18 : decode cX10_item 18 = .ok (.iload_n 3, 1) := by decide +kernel
theorem dX10_item_19 : decode cX10_item 19 = .ok (.iconst 1, 1) := by decide +kernel
theorem dX10_item_20 : decode cX10_item 20 = .ok (.invokevirtual 289, 3) := by decide +kernel
theorem dX10_item_23 : decode cX10_item 23 = .ok (.istore 6, 2) := by decide +kernel
theorem dX10_item_25 : decode cX10_item 25 = .ok (.iload 6, 2) := by decide +kernel
theorem dX10_item_27 : decode cX10_item 27 = .ok (.ifCond .eq 6, 3) := by decide +kernel
theorem dX10_item_30 : decode cX10_item 30 = .ok (.iload 6, 2) := by decide +kernel
theorem dX10_item_32 : decode cX10_item 32 = .ok (.ireturn, 1) := by decide +kernel
theorem dX10_item_33 : decode cX10_item 33 = .ok (.aload_n 0, 1) := by decide +kernel
theorem dX10_item_34 : decode cX10_item 34 = .ok (.getfield 49, 3) := by decide +kernel
theorem dX10_item_37 : decode cX10_item 37 = .ok (.iload_n 1, 1) := by decide +kernel
theorem dX10_item_38 : decode cX10_item 38 = .ok (.aaload, 1) := by decide +kernel
theorem dX10_item_39 : decode cX10_item 39 = .ok (.getfield 292, 3) := by decide +kernel
theorem dX10_item_42 : decode cX10_item 42 = .ok (.iload_n 3, 1) := by decide +kernel
theorem dX10_item_43 : decode cX10_item 43 = .ok (.iload_n 2, 1) := by decide +kernel
theorem dX10_item_44 : decode cX10_item 44 = .ok (.lload 4, 2) := by decide +kernel
theorem dX10_item_46 : decode cX10_item 46 = .ok (.invokestatic 306, 3) := by decide +kernel
theorem dX10_item_49 : decode cX10_item 49 = .ok (.lastore, 1) := by decide +kernel
theorem dX10_item_50 : decode cX10_item 50 = .ok (.iconst 1, 1) := by decide +kernel
theorem dX10_item_51 : decode cX10_item 51 = .ok (.ireturn, 1) := by decide +kernel
theorem dX10_copy_0 : decode cX10_copy 0 = .ok (.iload_n 1, 1) := by decide +kernel
theorem dX10_copy_1 : decode cX10_copy 1 = .ok (.iconst 0, 1) := by decide +kernel
theorem dX10_copy_2 : decode cX10_copy 2 = .ok (.iconst 3, 1) := by decide +kernel
theorem dX10_copy_3 : decode cX10_copy 3 = .ok (.invokestatic 54, 3) := by decide +kernel
theorem dX10_copy_6 : decode cX10_copy 6 = .ok (.ifCond .eq 12, 3) := by decide +kernel
theorem dX10_copy_9 : decode cX10_copy 9 = .ok (.iload_n 3, 1) := by decide +kernel
theorem dX10_copy_10 : decode cX10_copy 10 = .ok (.iconst 0, 1) := by decide +kernel
theorem dX10_copy_11 : decode cX10_copy 11 = .ok (.iconst 3, 1) := by decide +kernel
theorem dX10_copy_12 : decode cX10_copy 12 = .ok (.invokestatic 54, 3) := by decide +kernel
theorem dX10_copy_15 : decode cX10_copy 15 = .ok (.ifCond .ne 5, 3) := by decide +kernel
theorem dX10_copy_18 : decode cX10_copy 18 = .ok (.iconst (-1), 1) := by decide +kernel
theorem dX10_copy_19 : decode cX10_copy 19 = .ok (.ireturn, 1) := by decide +kernel
theorem dX10_copy_20 : decode cX10_copy 20 = .ok (.aload_n 0, 1) := by decide +kernel
theorem dX10_copy_21 : decode cX10_copy 21 = .ok (.getfield 49, 3) := by decide +kernel
theorem dX10_copy_24 : decode cX10_copy 24 = .ok (.iload_n 1, 1) := by decide +kernel
theorem dX10_copy_25 : decode cX10_copy 25 = .ok (.aaload, 1) := by decide +kernel
theorem dX10_copy_26 : decode cX10_copy 26 = .ok (.astore 6, 2) := by decide +kernel
theorem dX10_copy_28 : decode cX10_copy 28 = .ok (.aload_n 0, 1) := by decide +kernel
theorem dX10_copy_29 : decode cX10_copy 29 = .ok (.getfield 49, 3) := by decide +kernel
theorem dX10_copy_32 : decode cX10_copy 32 = .ok (.iload_n 3, 1) := by decide +kernel
theorem dX10_copy_33 : decode cX10_copy 33 = .ok (.aaload, 1) := by decide +kernel
theorem dX10_copy_34 : decode cX10_copy 34 = .ok (.astore 7, 2) := by decide +kernel
theorem dX10_copy_36 : decode cX10_copy 36 = .ok (.aload 6, 2) := by decide +kernel
theorem dX10_copy_38 : decode cX10_copy 38 = .ok (.getfield 302, 3) := by decide +kernel
theorem dX10_copy_41 : decode cX10_copy 41 = .ok (.ifCond .eq 11, 3) := by decide +kernel
theorem dX10_copy_44 : decode cX10_copy 44 = .ok (.aload 7, 2) := by decide +kernel
theorem dX10_copy_46 : decode cX10_copy 46 = .ok (.getfield 302, 3) := by decide +kernel
theorem dX10_copy_49 : decode cX10_copy 49 = .ok (.ifCond .ne 6, 3) := by decide +kernel
theorem dX10_copy_52 : decode cX10_copy 52 = .ok (.bipush (-11), 2) := by decide +kernel
theorem dX10_copy_54 : decode cX10_copy 54 = .ok (.ireturn, 1) := by decide +kernel
theorem dX10_copy_55 : decode cX10_copy 55 = .ok (.aload 6, 2) := by decide +kernel
theorem dX10_copy_57 : decode cX10_copy 57 = .ok (.getfield 310, 3) := by decide +kernel
theorem dX10_copy_60 : decode cX10_copy 60 = .ok (.aload 7, 2) := by decide +kernel
theorem dX10_copy_62 : decode cX10_copy 62 = .ok (.getfield 310, 3) := by decide +kernel
theorem dX10_copy_65 : decode cX10_copy 65 = .ok (.if_icmp .eq 6, 3) := by decide +kernel
theorem dX10_copy_68 : decode cX10_copy 68 = .ok (.bipush (-12), 2) := by decide +kernel
theorem dX10_copy_70 : decode cX10_copy 70 = .ok (.ireturn, 1) := by decide +kernel
theorem dX10_copy_71 : decode cX10_copy 71 = .ok (.aload 6, 2) := by decide +kernel
theorem dX10_copy_73 : decode cX10_copy 73 = .ok (.iload_n 2, 1) := by decide +kernel
theorem dX10_copy_74 : decode cX10_copy 74 = .ok (.iload 5, 2) := by decide +kernel
theorem dX10_copy_76 : decode cX10_copy 76 = .ok (.invokevirtual 313, 3) := by decide +kernel
theorem dX10_copy_79 : decode cX10_copy 79 = .ok (.ifCond .eq 15, 3) := by decide +kernel
theorem dX10_copy_82 : decode cX10_copy 82 = .ok (.aload 7, 2) := by decide +kernel
theorem dX10_copy_84 : decode cX10_copy 84 = .ok (.iload 4, 2) := by decide +kernel
theorem dX10_copy_86 : decode cX10_copy 86 = .ok (.iload 5, 2) := by decide +kernel
theorem dX10_copy_88 : decode cX10_copy 88 = .ok (.invokevirtual 313, 3) := by decide +kernel
theorem dX10_copy_91 : decode cX10_copy 91 = .ok (.ifCond .ne 6, 3) := by decide +kernel
theorem dX10_copy_94 : decode cX10_copy 94 = .ok (.bipush (-13), 2) := by decide +kernel
theorem dX10_copy_96 : decode cX10_copy 96 = .ok (.ireturn, 1) := by decide +kernel
theorem dX10_copy_97 : decode cX10_copy 97 = .ok (.aload 6, 2) := by decide +kernel
theorem dX10_copy_99 : decode cX10_copy 99 = .ok (.getfield 292, 3) := by decide +kernel
theorem dX10_copy_102 : decode cX10_copy 102 = .ok (.iload_n 2, 1) := by decide +kernel
theorem dX10_copy_103 : decode cX10_copy 103 = .ok (.aload 7, 2) := by decide +kernel
theorem dX10_copy_105 : decode cX10_copy 105 = .ok (.getfield 292, 3) := by decide +kernel
theorem dX10_copy_108 : decode cX10_copy 108 = .ok (.iload 4, 2) := by decide +kernel
theorem dX10_copy_110 : decode cX10_copy 110 = .ok (.iload 5, 2) := by decide +kernel
theorem dX10_copy_112 : decode cX10_copy 112 = .ok (.invokestatic 316, 3) := by decide +kernel
theorem dX10_copy_115 : decode cX10_copy 115 = .ok (.iload 5, 2) := by decide +kernel
theorem dX10_copy_117 : decode cX10_copy 117 = .ok (.ireturn, 1) := by decide +kernel
theorem dX10_isWithin_0 : decode cX10_isWithin 0 = .ok (.iload_n 0, 1) := by decide +kernel
theorem dX10_isWithin_1 : decode cX10_isWithin 1 = .ok (.iload_n 1, 1) := by decide +kernel
theorem dX10_isWithin_2 : decode cX10_isWithin 2 = .ok (.if_icmp .lt 12, 3) := by decide +kernel
theorem dX10_isWithin_5 : decode cX10_isWithin 5 = .ok (.iload_n 0, 1) := by decide +kernel
theorem dX10_isWithin_6 : decode cX10_isWithin 6 = .ok (.iload_n 2, 1) := by decide +kernel
theorem dX10_isWithin_7 : decode cX10_isWithin 7 = .ok (.if_icmp .gt 7, 3) := by decide +kernel
theorem dX10_isWithin_10 : decode cX10_isWithin 10 = .ok (.iconst 1, 1) := by decide +kernel
theorem dX10_isWithin_11 : decode cX10_isWithin 11 = .ok (.goto 4, 3) := by decide +kernel
theorem dX10_isWithin_14 : decode cX10_isWithin 14 = .ok (.iconst 0, 1) := by decide +kernel
theorem dX10_isWithin_15 : decode cX10_isWithin 15 = .ok (.ireturn, 1) := by decide +kernel
theorem dX10_oneIf_0 : decode cX10_oneIf 0 = .ok (.iload_n 0, 1) := by decide +kernel
theorem dX10_oneIf_1 : decode cX10_oneIf 1 = .ok (.ifCond .eq 7, 3) := by decide +kernel
theorem dX10_oneIf_4 : decode cX10_oneIf 4 = .ok (.iconst 1, 1) := by decide +kernel
theorem dX10_oneIf_5 : decode cX10_oneIf 5 = .ok (.goto 4, 3) := by decide +kernel
theorem dX10_oneIf_8 : decode cX10_oneIf 8 = .ok (.iconst 0, 1) := by decide +kernel
theorem dX10_oneIf_9 : decode cX10_oneIf 9 = .ok (.ireturn, 1) := by decide +kernel
theorem dX10_secondsFor_0 : decode cX10_secondsFor 0 = .ok (.iload_n 1, 1) := by decide +kernel
theorem dX10_secondsFor_1 : decode cX10_secondsFor 1 = .ok (.iconst 1, 1) := by decide +kernel
theorem dX10_secondsFor_2 : decode cX10_secondsFor 2 = .ok (.if_icmp .ge 7, 3) := by decide +kernel
theorem dX10_secondsFor_5 : decode cX10_secondsFor 5 = .ok (.iload_n 0, 1) := by decide +kernel
theorem dX10_secondsFor_6 : decode cX10_secondsFor 6 = .ok (.goto 10, 3) := by decide +kernel
theorem dX10_secondsFor_9 : decode cX10_secondsFor 9 = .ok (.iload_n 0, 1) := by decide +kernel
theorem dX10_secondsFor_10 : decode cX10_secondsFor 10 = .ok (.iload_n 1, 1) := by decide +kernel
theorem dX10_secondsFor_11 : decode cX10_secondsFor 11 = .ok (.iadd, 1) := by decide +kernel
theorem dX10_secondsFor_12 : decode cX10_secondsFor 12 = .ok (.iconst 1, 1) := by decide +kernel
theorem dX10_secondsFor_13 : decode cX10_secondsFor 13 = .ok (.isub, 1) := by decide +kernel
theorem dX10_secondsFor_14 : decode cX10_secondsFor 14 = .ok (.iload_n 1, 1) := by decide +kernel
theorem dX10_secondsFor_15 : decode cX10_secondsFor 15 = .ok (.idiv, 1) := by decide +kernel
theorem dX10_secondsFor_16 : decode cX10_secondsFor 16 = .ok (.ireturn, 1) := by decide +kernel
theorem dX10_lowestBits_0 : decode cX10_lowestBits 0 = .ok (.iload_n 0, 1) := by decide +kernel
theorem dX10_lowestBits_1 : decode cX10_lowestBits 1 = .ok (.tableswitch 41 0 2 #[27, 32, 37], 27) := by decide +kernel
theorem dX10_lowestBits_28 : decode cX10_lowestBits 28 = .ok (.lload_n 1, 1) := by decide +kernel
theorem dX10_lowestBits_29 : decode cX10_lowestBits 29 = .ok (.l2i, 1) := by decide +kernel
theorem dX10_lowestBits_30 : decode cX10_lowestBits 30 = .ok (.i2b, 1) := by decide +kernel
theorem dX10_lowestBits_31 : decode cX10_lowestBits 31 = .ok (.i2l, 1) := by decide +kernel
theorem dX10_lowestBits_32 : decode cX10_lowestBits 32 = .ok (.lreturn, 1) := by decide +kernel
theorem dX10_lowestBits_33 : decode cX10_lowestBits 33 = .ok (.lload_n 1, 1) := by decide +kernel
theorem dX10_lowestBits_34 : decode cX10_lowestBits 34 = .ok (.l2i, 1) := by decide +kernel
theorem dX10_lowestBits_35 : decode cX10_lowestBits 35 = .ok (.i2s, 1) := by decide +kernel
theorem dX10_lowestBits_36 : decode cX10_lowestBits 36 = .ok (.i2l, 1) := by decide +kernel
theorem dX10_lowestBits_37 : decode cX10_lowestBits 37 = .ok (.lreturn, 1) := by decide +kernel
theorem dX10_lowestBits_38 : decode cX10_lowestBits 38 = .ok (.lload_n 1, 1) := by decide +kernel
theorem dX10_lowestBits_39 : decode cX10_lowestBits 39 = .ok (.l2i, 1) := by decide +kernel
theorem dX10_lowestBits_40 : decode cX10_lowestBits 40 = .ok (.i2l, 1) := by decide +kernel
theorem dX10_lowestBits_41 : decode cX10_lowestBits 41 = .ok (.lreturn, 1) := by decide +kernel
theorem dX10_lowestBits_42 : decode cX10_lowestBits 42 = .ok (.lload_n 1, 1) := by decide +kernel
theorem dX10_lowestBits_43 : decode cX10_lowestBits 43 = .ok (.lreturn, 1) := by decide +kernel
theorem dX10_isPair_0 : decode cX10_isPair 0 = .ok (.iload_n 1, 1) := by decide +kernel
theorem dX10_isPair_1 : decode cX10_isPair 1 = .ok (.iconst 0, 1) := by decide +kernel
theorem dX10_isPair_2 : decode cX10_isPair 2 = .ok (.aload_n 0, 1) := by decide +kernel
theorem dX10_isPair_3 : decode cX10_isPair 3 = .ok (.getfield 12, 3) := by decide +kernel
theorem dX10_isPair_6 : decode cX10_isPair 6 = .ok (.getfield 58, 3) := by decide +kernel
theorem dX10_isPair_9 : decode cX10_isPair 9 = .ok (.iconst 1, 1) := by decide +kernel
theorem dX10_isPair_10 : decode cX10_isPair 10 = .ok (.isub, 1) := by decide +kernel
theorem dX10_isPair_11 : decode cX10_isPair 11 = .ok (.invokestatic 54, 3) := by decide +kernel
theorem dX10_isPair_14 : decode cX10_isPair 14 = .ok (.ireturn, 1) := by decide +kernel
theorem dX10_isShip_0 : decode cX10_isShip 0 = .ok (.iload_n 1, 1) := by decide +kernel
theorem dX10_isShip_1 : decode cX10_isShip 1 = .ok (.iconst 0, 1) := by decide +kernel
theorem dX10_isShip_2 : decode cX10_isShip 2 = .ok (.aload_n 0, 1) := by decide +kernel
theorem dX10_isShip_3 : decode cX10_isShip 3 = .ok (.getfield 12, 3) := by decide +kernel
theorem dX10_isShip_6 : decode cX10_isShip 6 = .ok (.getfield 82, 3) := by decide +kernel
theorem dX10_isShip_9 : decode cX10_isShip 9 = .ok (.iconst 1, 1) := by decide +kernel
theorem dX10_isShip_10 : decode cX10_isShip 10 = .ok (.isub, 1) := by decide +kernel
theorem dX10_isShip_11 : decode cX10_isShip 11 = .ok (.invokestatic 54, 3) := by decide +kernel
theorem dX10_isShip_14 : decode cX10_isShip 14 = .ok (.ireturn, 1) := by decide +kernel
theorem dX10_isBegin_0 : decode cX10_isBegin 0 = .ok (.aload_n 0, 1) := by decide +kernel
theorem dX10_isBegin_1 : decode cX10_isBegin 1 = .ok (.iload_n 1, 1) := by decide +kernel
theorem dX10_isBegin_2 : decode cX10_isBegin 2 = .ok (.invokevirtual 103, 3) := by decide +kernel
theorem dX10_isBegin_5 : decode cX10_isBegin 5 = .ok (.ifCond .eq 18, 3) := by decide +kernel
theorem dX10_isBegin_8 : decode cX10_isBegin 8 = .ok (.iload_n 2, 1) := by decide +kernel
theorem dX10_isBegin_9 : decode cX10_isBegin 9 = .ok (.iconst 0, 1) := by decide +kernel
theorem dX10_isBegin_10 : decode cX10_isBegin 10 = .ok (.sipush 9999, 3) := by decide +kernel
theorem dX10_isBegin_13 : decode cX10_isBegin 13 = .ok (.invokestatic 54, 3) := by decide +kernel
theorem dX10_isBegin_16 : decode cX10_isBegin 16 = .ok (.ifCond .eq 7, 3) := by decide +kernel
theorem dX10_isBegin_19 : decode cX10_isBegin 19 = .ok (.iconst 1, 1) := by decide +kernel
theorem dX10_isBegin_20 : decode cX10_isBegin 20 = .ok (.goto 4, 3) := by decide +kernel
theorem dX10_isBegin_23 : decode cX10_isBegin 23 = .ok (.iconst 0, 1) := by decide +kernel
theorem dX10_isBegin_24 : decode cX10_isBegin 24 = .ok (.ireturn, 1) := by decide +kernel
theorem dX10_isRow_0 : decode cX10_isRow 0 = .ok (.iload_n 1, 1) := by decide +kernel
theorem dX10_isRow_1 : decode cX10_isRow 1 = .ok (.iconst 0, 1) := by decide +kernel
theorem dX10_isRow_2 : decode cX10_isRow 2 = .ok (.iconst 3, 1) := by decide +kernel
theorem dX10_isRow_3 : decode cX10_isRow 3 = .ok (.invokestatic 54, 3) := by decide +kernel
theorem dX10_isRow_6 : decode cX10_isRow 6 = .ok (.ifCond .eq 16, 3) := by decide +kernel
theorem dX10_isRow_9 : decode cX10_isRow 9 = .ok (.iload_n 2, 1) := by decide +kernel
theorem dX10_isRow_10 : decode cX10_isRow 10 = .ok (.iconst 0, 1) := by decide +kernel
theorem dX10_isRow_11 : decode cX10_isRow 11 = .ok (.iconst 3, 1) := by decide +kernel
theorem dX10_isRow_12 : decode cX10_isRow 12 = .ok (.invokestatic 54, 3) := by decide +kernel
theorem dX10_isRow_15 : decode cX10_isRow 15 = .ok (.ifCond .eq 7, 3) := by decide +kernel
theorem dX10_isRow_18 : decode cX10_isRow 18 = .ok (.iconst 1, 1) := by decide +kernel
theorem dX10_isRow_19 : decode cX10_isRow 19 = .ok (.goto 4, 3) := by decide +kernel
theorem dX10_isRow_22 : decode cX10_isRow 22 = .ok (.iconst 0, 1) := by decide +kernel
theorem dX10_isRow_23 : decode cX10_isRow 23 = .ok (.ireturn, 1) := by decide +kernel
theorem dX10_goFull_0 : decode cX10_goFull 0 = .ok (.aload_n 0, 1) := by decide +kernel
theorem dX10_goFull_1 : decode cX10_goFull 1 = .ok (.getfield 12, 3) := by decide +kernel
theorem dX10_goFull_4 : decode cX10_goFull 4 = .ok (.getfield 85, 3) := by decide +kernel
theorem dX10_goFull_7 : decode cX10_goFull 7 = .ok (.iload_n 1, 1) := by decide +kernel
theorem dX10_goFull_8 : decode cX10_goFull 8 = .ok (.aaload, 1) := by decide +kernel
theorem dX10_goFull_9 : decode cX10_goFull 9 = .ok (.astore_n 3, 1) := by decide +kernel
theorem dX10_goFull_10 : decode cX10_goFull 10 = .ok (.aload_n 0, 1) := by decide +kernel
theorem dX10_goFull_11 : decode cX10_goFull 11 = .ok (.getfield 29, 3) := by decide +kernel
theorem dX10_goFull_14 : decode cX10_goFull 14 = .ok (.getfield 296, 3) := by decide +kernel
theorem dX10_goFull_17 : decode cX10_goFull 17 = .ok (.aload_n 3, 1) := by decide +kernel
theorem dX10_goFull_18 : decode cX10_goFull 18 = .ok (.invokevirtual 117, 3) := by decide +kernel
theorem dX10_goFull_21 : decode cX10_goFull 21 = .ok (.invokestatic 322, 3) := by decide +kernel
theorem dX10_goFull_24 : decode cX10_goFull 24 = .ok (.aload_n 0, 1) := by decide +kernel
theorem dX10_goFull_25 : decode cX10_goFull 25 = .ok (.getfield 29, 3) := by decide +kernel
theorem dX10_goFull_28 : decode cX10_goFull 28 = .ok (.aload_n 0, 1) := by decide +kernel
theorem dX10_goFull_29 : decode cX10_goFull 29 = .ok (.getfield 12, 3) := by decide +kernel
theorem dX10_goFull_32 : decode cX10_goFull 32 = .ok (.aload_n 3, 1) := by decide +kernel
theorem dX10_goFull_33 : decode cX10_goFull 33 = .ok (.iload_n 2, 1) := by decide +kernel
theorem dX10_goFull_34 : decode cX10_goFull 34 = .ok (.invokevirtual 297, 3) := by decide +kernel
theorem dX10_goFull_37 : decode cX10_goFull 37 = .ok (.return_, 1) := by decide +kernel
theorem dX10_convoyTime_0 : decode cX10_convoyTime 0 = .ok (.iconst 0, 1) := by decide +kernel
theorem dX10_convoyTime_1 : decode cX10_convoyTime 1 = .ok (.istore_n 2, 1) := by decide +kernel
theorem dX10_convoyTime_2 : decode cX10_convoyTime 2 = .ok (.iconst 0, 1) := by decide +kernel
theorem dX10_convoyTime_3 : decode cX10_convoyTime 3 = .ok (.istore_n 3, 1) := by decide +kernel
theorem dX10_convoyTime_4 : decode cX10_convoyTime 4 = .ok (.iload_n 3, 1) := by decide +kernel
theorem dX10_convoyTime_5 : decode cX10_convoyTime 5 = .ok (.aload_n 0, 1) := by decide +kernel
theorem dX10_convoyTime_6 : decode cX10_convoyTime 6 = .ok (.getfield 12, 3) := by decide +kernel
theorem dX10_convoyTime_9 : decode cX10_convoyTime 9 = .ok (.getfield 82, 3) := by decide +kernel
theorem dX10_convoyTime_12 : decode cX10_convoyTime 12 = .ok (.if_icmp .ge 48, 3) := by decide +kernel
theorem dX10_convoyTime_15 : decode cX10_convoyTime 15 = .ok (.iload_n 1, 1) := by decide +kernel
theorem dX10_convoyTime_16 : decode cX10_convoyTime 16 = .ok (.iload_n 3, 1) := by decide +kernel
theorem dX10_convoyTime_17 : decode cX10_convoyTime 17 = .ok (.ishr, 1) := by decide +kernel
theorem dX10_convoyTime_18 : decode cX10_convoyTime 18 = .ok (.iconst 1, 1) := by decide +kernel
theorem dX10_convoyTime_19 : decode cX10_convoyTime 19 = .ok (.iand, 1) := by decide +kernel
theorem dX10_convoyTime_20 : decode cX10_convoyTime 20 = .ok (.iconst 1, 1) := by decide +kernel
theorem dX10_convoyTime_21 : decode cX10_convoyTime 21 = .ok (.if_icmp .ne 33, 3) := by decide +kernel
theorem dX10_convoyTime_24 : decode cX10_convoyTime 24 = .ok (.iload_n 2, 1) := by decide +kernel
theorem dX10_convoyTime_25 : decode cX10_convoyTime 25 = .ok (.aload_n 0, 1) := by decide +kernel
theorem dX10_convoyTime_26 : decode cX10_convoyTime 26 = .ok (.getfield 12, 3) := by decide +kernel
theorem dX10_convoyTime_29 : decode cX10_convoyTime 29 = .ok (.getfield 85, 3) := by decide +kernel
theorem dX10_convoyTime_32 : decode cX10_convoyTime 32 = .ok (.iload_n 3, 1) := by decide +kernel
theorem dX10_convoyTime_33 : decode cX10_convoyTime 33 = .ok (.aaload, 1) := by decide +kernel
theorem dX10_convoyTime_34 : decode cX10_convoyTime 34 = .ok (.invokevirtual 120, 3) := by decide +kernel
theorem dX10_convoyTime_37 : decode cX10_convoyTime 37 = .ok (.aload_n 0, 1) := by decide +kernel
theorem dX10_convoyTime_38 : decode cX10_convoyTime 38 = .ok (.getfield 12, 3) := by decide +kernel
theorem dX10_convoyTime_41 : decode cX10_convoyTime 41 = .ok (.getfield 85, 3) := by decide +kernel
theorem dX10_convoyTime_44 : decode cX10_convoyTime 44 = .ok (.iload_n 3, 1) := by decide +kernel
theorem dX10_convoyTime_45 : decode cX10_convoyTime 45 = .ok (.aaload, 1) := by decide +kernel
theorem dX10_convoyTime_46 : decode cX10_convoyTime 46 = .ok (.invokevirtual 117, 3) := by decide +kernel
theorem dX10_convoyTime_49 : decode cX10_convoyTime 49 = .ok (.invokestatic 328, 3) := by decide +kernel
theorem dX10_convoyTime_52 : decode cX10_convoyTime 52 = .ok (.iadd, 1) := by decide +kernel
theorem dX10_convoyTime_53 : decode cX10_convoyTime 53 = .ok (.istore_n 2, 1) := by decide +kernel
theorem dX10_convoyTime_54 : decode cX10_convoyTime 54 = .ok (.iinc 3 1, 3) := by decide +kernel
theorem dX10_convoyTime_57 : decode cX10_convoyTime 57 = .ok (.goto (-53), 3) := by decide +kernel
theorem dX10_convoyTime_60 : decode cX10_convoyTime 60 = .ok (.iload_n 2, 1) := by decide +kernel
theorem dX10_convoyTime_61 : decode cX10_convoyTime 61 = .ok (.ireturn, 1) := by decide +kernel
theorem dJ11_isValidCodePoint_9a6ad_0 : decode cJ11_isValidCodePoint_9a6ad 0 = .ok (.iload_n 0, 1) := by decide +kernel
theorem dJ11_isValidCodePoint_9a6ad_1 : decode cJ11_isValidCodePoint_9a6ad 1 = .ok (.bipush 16, 2) := by decide +kernel
theorem dJ11_isValidCodePoint_9a6ad_3 : decode cJ11_isValidCodePoint_9a6ad 3 = .ok (.iushr, 1) := by decide +kernel
theorem dJ11_isValidCodePoint_9a6ad_4 : decode cJ11_isValidCodePoint_9a6ad 4 = .ok (.istore_n 1, 1) := by decide +kernel
theorem dJ11_isValidCodePoint_9a6ad_5 : decode cJ11_isValidCodePoint_9a6ad 5 = .ok (.iload_n 1, 1) := by decide +kernel
theorem dJ11_isValidCodePoint_9a6ad_6 : decode cJ11_isValidCodePoint_9a6ad 6 = .ok (.bipush 17, 2) := by decide +kernel
theorem dJ11_isValidCodePoint_9a6ad_8 : decode cJ11_isValidCodePoint_9a6ad 8 = .ok (.if_icmp .ge 7, 3) := by decide +kernel
theorem dJ11_isValidCodePoint_9a6ad_11 : decode cJ11_isValidCodePoint_9a6ad 11 = .ok (.iconst 1, 1) := by decide +kernel
theorem dJ11_isValidCodePoint_9a6ad_12 : decode cJ11_isValidCodePoint_9a6ad 12 = .ok (.goto 4, 3) := by decide +kernel
theorem dJ11_isValidCodePoint_9a6ad_15 : decode cJ11_isValidCodePoint_9a6ad 15 = .ok (.iconst 0, 1) := by decide +kernel
theorem dJ11_isValidCodePoint_9a6ad_16 : decode cJ11_isValidCodePoint_9a6ad 16 = .ok (.ireturn, 1) := by decide +kernel
theorem dJ11_highSurrogate_5068e_0 : decode cJ11_highSurrogate_5068e 0 = .ok (.iload_n 0, 1) := by decide +kernel
theorem dJ11_highSurrogate_5068e_1 : decode cJ11_highSurrogate_5068e 1 = .ok (.bipush 10, 2) := by decide +kernel
theorem dJ11_highSurrogate_5068e_3 : decode cJ11_highSurrogate_5068e 3 = .ok (.iushr, 1) := by decide +kernel
theorem dJ11_highSurrogate_5068e_4 : decode cJ11_highSurrogate_5068e 4 = .ok (.ldc 110, 2) := by decide +kernel
theorem dJ11_highSurrogate_5068e_6 : decode cJ11_highSurrogate_5068e 6 = .ok (.iadd, 1) := by decide +kernel
theorem dJ11_highSurrogate_5068e_7 : decode cJ11_highSurrogate_5068e 7 = .ok (.i2c, 1) := by decide +kernel
theorem dJ11_highSurrogate_5068e_8 : decode cJ11_highSurrogate_5068e 8 = .ok (.ireturn, 1) := by decide +kernel
theorem dJ11_lowSurrogate_5068e_0 : decode cJ11_lowSurrogate_5068e 0 = .ok (.iload_n 0, 1) := by decide +kernel
theorem dJ11_lowSurrogate_5068e_1 : decode cJ11_lowSurrogate_5068e 1 = .ok (.sipush 1023, 3) := by decide +kernel
theorem dJ11_lowSurrogate_5068e_4 : decode cJ11_lowSurrogate_5068e 4 = .ok (.iand, 1) := by decide +kernel
theorem dJ11_lowSurrogate_5068e_5 : decode cJ11_lowSurrogate_5068e 5 = .ok (.ldc 76, 2) := by decide +kernel
theorem dJ11_lowSurrogate_5068e_7 : decode cJ11_lowSurrogate_5068e 7 = .ok (.iadd, 1) := by decide +kernel
theorem dJ11_lowSurrogate_5068e_8 : decode cJ11_lowSurrogate_5068e 8 = .ok (.i2c, 1) := by decide +kernel
theorem dJ11_lowSurrogate_5068e_9 : decode cJ11_lowSurrogate_5068e 9 = .ok (.ireturn, 1) := by decide +kernel
theorem dJ6_bitCount_0f7a4_0 : decode cJ6_bitCount_0f7a4 0 = .ok (.iload_n 0, 1) := by decide +kernel
theorem dJ6_bitCount_0f7a4_1 : decode cJ6_bitCount_0f7a4 1 = .ok (.iload_n 0, 1) := by decide +kernel
theorem dJ6_bitCount_0f7a4_2 : decode cJ6_bitCount_0f7a4 2 = .ok (.iconst 1, 1) := by decide +kernel
theorem dJ6_bitCount_0f7a4_3 : decode cJ6_bitCount_0f7a4 3 = .ok (.iushr, 1) := by decide +kernel
theorem dJ6_bitCount_0f7a4_4 : decode cJ6_bitCount_0f7a4 4 = .ok (.ldc_w 265, 3) := by decide +kernel
theorem dJ6_bitCount_0f7a4_7 : decode cJ6_bitCount_0f7a4 7 = .ok (.iand, 1) := by decide +kernel
theorem dJ6_bitCount_0f7a4_8 : decode cJ6_bitCount_0f7a4 8 = .ok (.isub, 1) := by decide +kernel
theorem dJ6_bitCount_0f7a4_9 : decode cJ6_bitCount_0f7a4 9 = .ok (.istore_n 0, 1) := by decide +kernel
theorem dJ6_bitCount_0f7a4_10 : decode cJ6_bitCount_0f7a4 10 = .ok (.iload_n 0, 1) := by decide +kernel
theorem dJ6_bitCount_0f7a4_11 : decode cJ6_bitCount_0f7a4 11 = .ok (.ldc_w 266, 3) := by decide +kernel
theorem dJ6_bitCount_0f7a4_14 : decode cJ6_bitCount_0f7a4 14 = .ok (.iand, 1) := by decide +kernel
theorem dJ6_bitCount_0f7a4_15 : decode cJ6_bitCount_0f7a4 15 = .ok (.iload_n 0, 1) := by decide +kernel
theorem dJ6_bitCount_0f7a4_16 : decode cJ6_bitCount_0f7a4 16 = .ok (.iconst 2, 1) := by decide +kernel
theorem dJ6_bitCount_0f7a4_17 : decode cJ6_bitCount_0f7a4 17 = .ok (.iushr, 1) := by decide +kernel
theorem dJ6_bitCount_0f7a4_18 : decode cJ6_bitCount_0f7a4 18 = .ok (.ldc_w 266, 3) := by decide +kernel
theorem dJ6_bitCount_0f7a4_21 : decode cJ6_bitCount_0f7a4 21 = .ok (.iand, 1) := by decide +kernel
theorem dJ6_bitCount_0f7a4_22 : decode cJ6_bitCount_0f7a4 22 = .ok (.iadd, 1) := by decide +kernel
theorem dJ6_bitCount_0f7a4_23 : decode cJ6_bitCount_0f7a4 23 = .ok (.istore_n 0, 1) := by decide +kernel
theorem dJ6_bitCount_0f7a4_24 : decode cJ6_bitCount_0f7a4 24 = .ok (.iload_n 0, 1) := by decide +kernel
theorem dJ6_bitCount_0f7a4_25 : decode cJ6_bitCount_0f7a4 25 = .ok (.iload_n 0, 1) := by decide +kernel
theorem dJ6_bitCount_0f7a4_26 : decode cJ6_bitCount_0f7a4 26 = .ok (.iconst 4, 1) := by decide +kernel
theorem dJ6_bitCount_0f7a4_27 : decode cJ6_bitCount_0f7a4 27 = .ok (.iushr, 1) := by decide +kernel
theorem dJ6_bitCount_0f7a4_28 : decode cJ6_bitCount_0f7a4 28 = .ok (.iadd, 1) := by decide +kernel
theorem dJ6_bitCount_0f7a4_29 : decode cJ6_bitCount_0f7a4 29 = .ok (.ldc_w 267, 3) := by decide +kernel
theorem dJ6_bitCount_0f7a4_32 : decode cJ6_bitCount_0f7a4 32 = .ok (.iand, 1) := by decide +kernel
theorem dJ6_bitCount_0f7a4_33 : decode cJ6_bitCount_0f7a4 33 = .ok (.istore_n 0, 1) := by decide +kernel
theorem dJ6_bitCount_0f7a4_34 : decode cJ6_bitCount_0f7a4 34 = .ok (.iload_n 0, 1) := by decide +kernel
theorem dJ6_bitCount_0f7a4_35 : decode cJ6_bitCount_0f7a4 35 = .ok (.iload_n 0, 1) := by decide +kernel
theorem dJ6_bitCount_0f7a4_36 : decode cJ6_bitCount_0f7a4 36 = .ok (.bipush 8, 2) := by decide +kernel
theorem dJ6_bitCount_0f7a4_38 : decode cJ6_bitCount_0f7a4 38 = .ok (.iushr, 1) := by decide +kernel
theorem dJ6_bitCount_0f7a4_39 : decode cJ6_bitCount_0f7a4 39 = .ok (.iadd, 1) := by decide +kernel
theorem dJ6_bitCount_0f7a4_40 : decode cJ6_bitCount_0f7a4 40 = .ok (.istore_n 0, 1) := by decide +kernel
theorem dJ6_bitCount_0f7a4_41 : decode cJ6_bitCount_0f7a4 41 = .ok (.iload_n 0, 1) := by decide +kernel
theorem dJ6_bitCount_0f7a4_42 : decode cJ6_bitCount_0f7a4 42 = .ok (.iload_n 0, 1) := by decide +kernel
theorem dJ6_bitCount_0f7a4_43 : decode cJ6_bitCount_0f7a4 43 = .ok (.bipush 16, 2) := by decide +kernel
theorem dJ6_bitCount_0f7a4_45 : decode cJ6_bitCount_0f7a4 45 = .ok (.iushr, 1) := by decide +kernel
theorem dJ6_bitCount_0f7a4_46 : decode cJ6_bitCount_0f7a4 46 = .ok (.iadd, 1) := by decide +kernel
theorem dJ6_bitCount_0f7a4_47 : decode cJ6_bitCount_0f7a4 47 = .ok (.istore_n 0, 1) := by decide +kernel
theorem dJ6_bitCount_0f7a4_48 : decode cJ6_bitCount_0f7a4 48 = .ok (.iload_n 0, 1) := by decide +kernel
theorem dJ6_bitCount_0f7a4_49 : decode cJ6_bitCount_0f7a4 49 = .ok (.bipush 63, 2) := by decide +kernel
theorem dJ6_bitCount_0f7a4_51 : decode cJ6_bitCount_0f7a4 51 = .ok (.iand, 1) := by decide +kernel
theorem dJ6_bitCount_0f7a4_52 : decode cJ6_bitCount_0f7a4 52 = .ok (.ireturn, 1) := by decide +kernel
theorem dJ9_max_7cf53_0 : decode cJ9_max_7cf53 0 = .ok (.iload_n 0, 1) := by decide +kernel
theorem dJ9_max_7cf53_1 : decode cJ9_max_7cf53 1 = .ok (.iload_n 1, 1) := by decide +kernel
theorem dJ9_max_7cf53_2 : decode cJ9_max_7cf53 2 = .ok (.if_icmp .lt 7, 3) := by decide +kernel
theorem dJ9_max_7cf53_5 : decode cJ9_max_7cf53 5 = .ok (.iload_n 0, 1) := by decide +kernel
theorem dJ9_max_7cf53_6 : decode cJ9_max_7cf53 6 = .ok (.goto 4, 3) := by decide +kernel
theorem dJ9_max_7cf53_9 : decode cJ9_max_7cf53 9 = .ok (.iload_n 1, 1) := by decide +kernel
theorem dJ9_max_7cf53_10 : decode cJ9_max_7cf53 10 = .ok (.ireturn, 1) := by decide +kernel
theorem dJ9_min_7cf53_0 : decode cJ9_min_7cf53 0 = .ok (.iload_n 0, 1) := by decide +kernel
theorem dJ9_min_7cf53_1 : decode cJ9_min_7cf53 1 = .ok (.iload_n 1, 1) := by decide +kernel
theorem dJ9_min_7cf53_2 : decode cJ9_min_7cf53 2 = .ok (.if_icmp .gt 7, 3) := by decide +kernel
theorem dJ9_min_7cf53_5 : decode cJ9_min_7cf53 5 = .ok (.iload_n 0, 1) := by decide +kernel
theorem dJ9_min_7cf53_6 : decode cJ9_min_7cf53 6 = .ok (.goto 4, 3) := by decide +kernel
theorem dJ9_min_7cf53_9 : decode cJ9_min_7cf53 9 = .ok (.iload_n 1, 1) := by decide +kernel
theorem dJ9_min_7cf53_10 : decode cJ9_min_7cf53 10 = .ok (.ireturn, 1) := by decide +kernel
theorem dJ0_length_8abf5_0 : decode cJ0_length_8abf5 0 = .ok (.aload_n 0, 1) := by decide +kernel
theorem dJ0_length_8abf5_1 : decode cJ0_length_8abf5 1 = .ok (.getfield 9, 3) := by decide +kernel
theorem dJ0_length_8abf5_4 : decode cJ0_length_8abf5 4 = .ok (.arraylength, 1) := by decide +kernel
theorem dJ0_length_8abf5_5 : decode cJ0_length_8abf5 5 = .ok (.aload_n 0, 1) := by decide +kernel
theorem dJ0_length_8abf5_6 : decode cJ0_length_8abf5 6 = .ok (.invokevirtual 335, 3) := by decide +kernel
theorem dJ0_length_8abf5_9 : decode cJ0_length_8abf5 9 = .ok (.ishr, 1) := by decide +kernel
theorem dJ0_length_8abf5_10 : decode cJ0_length_8abf5 10 = .ok (.ireturn, 1) := by decide +kernel
theorem dJ0_indexOf_0f7a4_0 : decode cJ0_indexOf_0f7a4 0 = .ok (.aload_n 0, 1) := by decide +kernel
theorem dJ0_indexOf_0f7a4_1 : decode cJ0_indexOf_0f7a4 1 = .ok (.iload_n 1, 1) := by decide +kernel
theorem dJ0_indexOf_0f7a4_2 : decode cJ0_indexOf_0f7a4 2 = .ok (.iconst 0, 1) := by decide +kernel
theorem dJ0_indexOf_0f7a4_3 : decode cJ0_indexOf_0f7a4 3 = .ok (.invokevirtual 633, 3) := by decide +kernel
theorem dJ0_indexOf_0f7a4_6 : decode cJ0_indexOf_0f7a4 6 = .ok (.ireturn, 1) := by decide +kernel
theorem dJ0_indexOf_7cf53_0 : decode cJ0_indexOf_7cf53 0 = .ok (.aload_n 0, 1) := by decide +kernel
theorem dJ0_indexOf_7cf53_1 : decode cJ0_indexOf_7cf53 1 = .ok (.invokevirtual 492, 3) := by decide +kernel
theorem dJ0_indexOf_7cf53_4 : decode cJ0_indexOf_7cf53 4 = .ok (.ifCond .eq 19, 3) := by decide +kernel
theorem dJ0_indexOf_7cf53_7 : decode cJ0_indexOf_7cf53 7 = .ok (.aload_n 0, 1) := by decide +kernel
theorem dJ0_indexOf_7cf53_8 : decode cJ0_indexOf_7cf53 8 = .ok (.getfield 9, 3) := by decide +kernel
theorem dJ0_indexOf_7cf53_11 : decode cJ0_indexOf_7cf53 11 = .ok (.iload_n 1, 1) := by decide +kernel
theorem dJ0_indexOf_7cf53_12 : decode cJ0_indexOf_7cf53 12 = .ok (.iload_n 2, 1) := by decide +kernel
theorem dJ0_indexOf_7cf53_13 : decode cJ0_indexOf_7cf53 13 = .ok (.aload_n 0, 1) := by decide +kernel
theorem dJ0_indexOf_7cf53_14 : decode cJ0_indexOf_7cf53 14 = .ok (.invokevirtual 505, 3) := by decide +kernel
theorem dJ0_indexOf_7cf53_17 : decode cJ0_indexOf_7cf53 17 = .ok (.invokestatic 637, 3) := by decide +kernel
theorem dJ0_indexOf_7cf53_20 : decode cJ0_indexOf_7cf53 20 = .ok (.goto 16, 3) := by decide +kernel
theorem dJ0_indexOf_7cf53_23 : decode cJ0_indexOf_7cf53 23 = .ok (.aload_n 0, 1) := by decide +kernel
theorem dJ0_indexOf_7cf53_24 : decode cJ0_indexOf_7cf53 24 = .ok (.getfield 9, 3) := by decide +kernel
theorem dJ0_indexOf_7cf53_27 : decode cJ0_indexOf_7cf53 27 = .ok (.iload_n 1, 1) := by decide +kernel
theorem dJ0_indexOf_7cf53_28 : decode cJ0_indexOf_7cf53 28 = .ok (.iload_n 2, 1) := by decide +kernel
theorem dJ0_indexOf_7cf53_29 : decode cJ0_indexOf_7cf53 29 = .ok (.aload_n 0, 1) := by decide +kernel
theorem dJ0_indexOf_7cf53_30 : decode cJ0_indexOf_7cf53 30 = .ok (.invokevirtual 505, 3) := by decide +kernel
theorem dJ0_indexOf_7cf53_33 : decode cJ0_indexOf_7cf53 33 = .ok (.invokestatic 640, 3) := by decide +kernel
theorem dJ0_indexOf_7cf53_36 : decode cJ0_indexOf_7cf53 36 = .ok (.ireturn, 1) := by decide +kernel
theorem dJ0_coder_7d493_0 : decode cJ0_coder_7d493 0 = .ok (.getstatic 38, 3) := by decide +kernel
theorem dJ0_coder_7d493_3 : decode cJ0_coder_7d493 3 = .ok (.ifCond .eq 10, 3) := by decide +kernel
theorem dJ0_coder_7d493_6 : decode cJ0_coder_7d493 6 = .ok (.aload_n 0, 1) := by decide +kernel
theorem dJ0_coder_7d493_7 : decode cJ0_coder_7d493 7 = .ok (.getfield 15, 3) := by decide +kernel
theorem dJ0_coder_7d493_10 : decode cJ0_coder_7d493 10 = .ok (.goto 4, 3) := by decide +kernel
theorem dJ0_coder_7d493_13 : decode cJ0_coder_7d493 13 = .ok (.iconst 1, 1) := by decide +kernel
theorem dJ0_coder_7d493_14 : decode cJ0_coder_7d493 14 = .ok (.ireturn, 1) := by decide +kernel
theorem dJ0_isLatin1_aae02_0 : decode cJ0_isLatin1_aae02 0 = .ok (.getstatic 38, 3) := by decide +kernel
theorem dJ0_isLatin1_aae02_3 : decode cJ0_isLatin1_aae02 3 = .ok (.ifCond .eq 14, 3) := by decide +kernel
theorem dJ0_isLatin1_aae02_6 : decode cJ0_isLatin1_aae02 6 = .ok (.aload_n 0, 1) := by decide +kernel
theorem dJ0_isLatin1_aae02_7 : decode cJ0_isLatin1_aae02 7 = .ok (.getfield 15, 3) := by decide +kernel
theorem dJ0_isLatin1_aae02_10 : decode cJ0_isLatin1_aae02 10 = .ok (.ifCond .ne 7, 3) := by decide +kernel
theorem dJ0_isLatin1_aae02_13 : decode cJ0_isLatin1_aae02 13 = .ok (.iconst 1, 1) := by decide +kernel
theorem dJ0_isLatin1_aae02_14 : decode cJ0_isLatin1_aae02 14 = .ok (.goto 4, 3) := by decide +kernel
theorem dJ0_isLatin1_aae02_17 : decode cJ0_isLatin1_aae02 17 = .ok (.iconst 0, 1) := by decide +kernel
theorem dJ0_isLatin1_aae02_18 : decode cJ0_isLatin1_aae02 18 = .ok (.ireturn, 1) := by decide +kernel
theorem dJ0_checkBoundsBeginEnd_23922_0 : decode cJ0_checkBoundsBeginEnd_23922 0 = .ok (.iload_n 0, 1) := by decide +kernel
theorem dJ0_checkBoundsBeginEnd_23922_1 : decode cJ0_checkBoundsBeginEnd_23922 1 = .ok (.iload_n 1, 1) := by decide +kernel
theorem dJ0_checkBoundsBeginEnd_23922_2 : decode cJ0_checkBoundsBeginEnd_23922 2 = .ok (.iload_n 2, 1) := by decide +kernel
theorem dJ0_checkBoundsBeginEnd_23922_3 : decode cJ0_checkBoundsBeginEnd_23922 3 = .ok (.getstatic 1053, 3) := by decide +kernel
theorem dJ0_checkBoundsBeginEnd_23922_6 : decode cJ0_checkBoundsBeginEnd_23922 6 = .ok (.invokestatic 1062, 3) := by decide +kernel
theorem dJ0_checkBoundsBeginEnd_23922_9 : decode cJ0_checkBoundsBeginEnd_23922 9 = .ok (.pop, 1) := by decide +kernel
theorem dJ0_checkBoundsBeginEnd_23922_10 : decode cJ0_checkBoundsBeginEnd_23922 10 = .ok (.return_, 1) := by decide +kernel
theorem dJ1_canEncode_9a6ad_0 : decode cJ1_canEncode_9a6ad 0 = .ok (.iload_n 0, 1) := by decide +kernel
theorem dJ1_canEncode_9a6ad_1 : decode cJ1_canEncode_9a6ad 1 = .ok (.ifCond .lt 14, 3) := by decide +kernel
theorem dJ1_canEncode_9a6ad_4 : decode cJ1_canEncode_9a6ad 4 = .ok (.iload_n 0, 1) := by decide +kernel
theorem dJ1_canEncode_9a6ad_5 : decode cJ1_canEncode_9a6ad 5 = .ok (.sipush 255, 3) := by decide +kernel
theorem dJ1_canEncode_9a6ad_8 : decode cJ1_canEncode_9a6ad 8 = .ok (.if_icmp .gt 7, 3) := by decide +kernel
theorem dJ1_canEncode_9a6ad_11 : decode cJ1_canEncode_9a6ad 11 = .ok (.iconst 1, 1) := by decide +kernel
theorem dJ1_canEncode_9a6ad_12 : decode cJ1_canEncode_9a6ad 12 = .ok (.goto 4, 3) := by decide +kernel
theorem dJ1_canEncode_9a6ad_15 : decode cJ1_canEncode_9a6ad 15 = .ok (.iconst 0, 1) := by decide +kernel
theorem dJ1_canEncode_9a6ad_16 : decode cJ1_canEncode_9a6ad 16 = .ok (.ireturn, 1) := by decide +kernel
theorem dJ1_indexOf_4cfef_0 : decode cJ1_indexOf_4cfef 0 = .ok (.iload_n 1, 1) := by decide +kernel
theorem dJ1_indexOf_4cfef_1 : decode cJ1_indexOf_4cfef 1 = .ok (.invokestatic 88, 3) := by decide +kernel
theorem dJ1_indexOf_4cfef_4 : decode cJ1_indexOf_4cfef 4 = .ok (.ifCond .ne 5, 3) := by decide +kernel
theorem dJ1_indexOf_4cfef_7 : decode cJ1_indexOf_4cfef 7 = .ok (.iconst (-1), 1) := by decide +kernel
theorem dJ1_indexOf_4cfef_8 : decode cJ1_indexOf_4cfef 8 = .ok (.ireturn, 1) := by decide +kernel
theorem dJ1_indexOf_4cfef_9 : decode cJ1_indexOf_4cfef 9 = .ok (.iload_n 2, 1) := by decide +kernel
theorem dJ1_indexOf_4cfef_10 : decode cJ1_indexOf_4cfef 10 = .ok (.iconst 0, 1) := by decide +kernel
theorem dJ1_indexOf_4cfef_11 : decode cJ1_indexOf_4cfef 11 = .ok (.invokestatic 92, 3) := by decide +kernel
theorem dJ1_indexOf_4cfef_14 : decode cJ1_indexOf_4cfef 14 = .ok (.istore_n 2, 1) := by decide +kernel
theorem dJ1_indexOf_4cfef_15 : decode cJ1_indexOf_4cfef 15 = .ok (.iload_n 3, 1) := by decide +kernel
theorem dJ1_indexOf_4cfef_16 : decode cJ1_indexOf_4cfef 16 = .ok (.aload_n 0, 1) := by decide +kernel
theorem dJ1_indexOf_4cfef_17 : decode cJ1_indexOf_4cfef 17 = .ok (.arraylength, 1) := by decide +kernel
theorem dJ1_indexOf_4cfef_18 : decode cJ1_indexOf_4cfef 18 = .ok (.invokestatic 38, 3) := by decide +kernel
theorem dJ1_indexOf_4cfef_21 : decode cJ1_indexOf_4cfef 21 = .ok (.istore_n 3, 1) := by decide +kernel
theorem dJ1_indexOf_4cfef_22 : decode cJ1_indexOf_4cfef 22 = .ok (.iload_n 2, 1) := by decide +kernel
theorem dJ1_indexOf_4cfef_23 : decode cJ1_indexOf_4cfef 23 = .ok (.iload_n 3, 1) := by decide +kernel
theorem dJ1_indexOf_4cfef_24 : decode cJ1_indexOf_4cfef 24 = .ok (.if_icmp .lt 5, 3) := by decide +kernel
theorem dJ1_indexOf_4cfef_27 : decode cJ1_indexOf_4cfef 27 = .ok (.iconst (-1), 1) := by decide +kernel
theorem dJ1_indexOf_4cfef_28 : decode cJ1_indexOf_4cfef 28 = .ok (.ireturn, 1) := by decide +kernel
theorem dJ1_indexOf_4cfef_29 : decode cJ1_indexOf_4cfef 29 = .ok (.aload_n 0, 1) := by decide +kernel
theorem dJ1_indexOf_4cfef_30 : decode cJ1_indexOf_4cfef 30 = .ok (.iload_n 1, 1) := by decide +kernel
theorem dJ1_indexOf_4cfef_31 : decode cJ1_indexOf_4cfef 31 = .ok (.iload_n 2, 1) := by decide +kernel
theorem dJ1_indexOf_4cfef_32 : decode cJ1_indexOf_4cfef 32 = .ok (.iload_n 3, 1) := by decide +kernel
theorem dJ1_indexOf_4cfef_33 : decode cJ1_indexOf_4cfef 33 = .ok (.invokestatic 95, 3) := by decide +kernel
theorem dJ1_indexOf_4cfef_36 : decode cJ1_indexOf_4cfef 36 = .ok (.ireturn, 1) := by decide +kernel
theorem dJ1_indexOfChar_4cfef_0 : decode cJ1_indexOfChar_4cfef 0 = .ok (.iload_n 1, 1) := by decide +kernel
theorem dJ1_indexOfChar_4cfef_1 : decode cJ1_indexOfChar_4cfef 1 = .ok (.i2b, 1) := by decide +kernel
theorem dJ1_indexOfChar_4cfef_2 : decode cJ1_indexOfChar_4cfef 2 = .ok (.istore 4, 2) := by decide +kernel
theorem dJ1_indexOfChar_4cfef_4 : decode cJ1_indexOfChar_4cfef 4 = .ok (.iload_n 2, 1) := by decide +kernel
theorem dJ1_indexOfChar_4cfef_5 : decode cJ1_indexOfChar_4cfef 5 = .ok (.istore 5, 2) := by decide +kernel
theorem dJ1_indexOfChar_4cfef_7 : decode cJ1_indexOfChar_4cfef 7 = .ok (.iload 5, 2) := by decide +kernel
theorem dJ1_indexOfChar_4cfef_9 : decode cJ1_indexOfChar_4cfef 9 = .ok (.iload_n 3, 1) := by decide +kernel
theorem dJ1_indexOfChar_4cfef_10 : decode cJ1_indexOfChar_4cfef 10 = .ok (.if_icmp .ge 21, 3) := by decide +kernel
theorem dJ1_indexOfChar_4cfef_13 : decode cJ1_indexOfChar_4cfef 13 = .ok (.aload_n 0, 1) := by decide +kernel
theorem dJ1_indexOfChar_4cfef_14 : decode cJ1_indexOfChar_4cfef 14 = .ok (.iload 5, 2) := by decide +kernel
theorem dJ1_indexOfChar_4cfef_16 : decode cJ1_indexOfChar_4cfef 16 = .ok (.baload, 1) := by decide +kernel
theorem dJ1_indexOfChar_4cfef_17 : decode cJ1_indexOfChar_4cfef 17 = .ok (.iload 4, 2) := by decide +kernel
theorem dJ1_indexOfChar_4cfef_19 : decode cJ1_indexOfChar_4cfef 19 = .ok (.if_icmp .ne 6, 3) := by decide +kernel
theorem dJ1_indexOfChar_4cfef_22 : decode cJ1_indexOfChar_4cfef 22 = .ok (.iload 5, 2) := by decide +kernel
theorem dJ1_indexOfChar_4cfef_24 : decode cJ1_indexOfChar_4cfef 24 = .ok (.ireturn, 1) := by decide +kernel
theorem dJ1_indexOfChar_4cfef_25 : decode cJ1_indexOfChar_4cfef 25 = .ok (.iinc 5 1, 3) := by decide +kernel
theorem dJ1_indexOfChar_4cfef_28 : decode cJ1_indexOfChar_4cfef 28 = .ok (.goto (-21), 3) := by decide +kernel
theorem dJ1_indexOfChar_4cfef_31 : decode cJ1_indexOfChar_4cfef 31 = .ok (.iconst (-1), 1) := by decide +kernel
theorem dJ1_indexOfChar_4cfef_32 : decode cJ1_indexOfChar_4cfef 32 = .ok (.ireturn, 1) := by decide +kernel
theorem dJ2_getChar_3b067_0 : decode cJ2_getChar_3b067 0 = .ok (.getstatic 44, 3) := by decide +kernel
theorem dJ2_getChar_3b067_3 : decode cJ2_getChar_3b067 3 = .ok (.ifCond .ne 25, 3) := by decide +kernel
theorem dJ2_getChar_3b067_6 : decode cJ2_getChar_3b067 6 = .ok (.iload_n 1, 1) := by decide +kernel
theorem dJ2_getChar_3b067_7 : decode cJ2_getChar_3b067 7 = .ok (.ifCond .lt 11, 3) := by decide +kernel
theorem dJ2_getChar_3b067_10 : decode cJ2_getChar_3b067 10 = .ok (.iload_n 1, 1) := by decide +kernel
theorem dJ2_getChar_3b067_11 : decode cJ2_getChar_3b067 11 = .ok (.aload_n 0, 1) := by decide +kernel
theorem dJ2_getChar_3b067_12 : decode cJ2_getChar_3b067 12 = .ok (.invokestatic 48, 3) := by decide +kernel
theorem dJ2_getChar_3b067_15 : decode cJ2_getChar_3b067 15 = .ok (.if_icmp .lt 13, 3) := by decide +kernel
theorem dJ2_getChar_3b067_18 : decode cJ2_getChar_3b067 18 = .ok (.new 52, 3) := by decide +kernel
theorem dJ2_getChar_3b067_21 : decode cJ2_getChar_3b067 21 = .ok (.dup, 1) := by decide +kernel
theorem dJ2_getChar_3b067_22 : decode cJ2_getChar_3b067 22 = .ok (.ldc 54, 2) := by decide +kernel
theorem dJ2_getChar_3b067_24 : decode cJ2_getChar_3b067 24 = .ok (.invokespecial 56, 3) := by decide +kernel
theorem dJ2_getChar_3b067_27 : decode cJ2_getChar_3b067 27 = .ok (.athrow, 1) := by decide +kernel
theorem dJ2_getChar_3b067_28 : decode cJ2_getChar_3b067 28 = .ok (.iload_n 1, 1) := by decide +kernel
theorem dJ2_getChar_3b067_29 : decode cJ2_getChar_3b067 29 = .ok (.iconst 1, 1) := by decide +kernel
theorem dJ2_getChar_3b067_30 : decode cJ2_getChar_3b067 30 = .ok (.ishl, 1) := by decide +kernel
theorem dJ2_getChar_3b067_31 : decode cJ2_getChar_3b067 31 = .ok (.istore_n 1, 1) := by decide +kernel
theorem dJ2_getChar_3b067_32 : decode cJ2_getChar_3b067 32 = .ok (.aload_n 0, 1) := by decide +kernel
theorem dJ2_getChar_3b067_33 : decode cJ2_getChar_3b067 33 = .ok (.iload_n 1, 1) := by decide +kernel
theorem dJ2_getChar_3b067_34 : decode cJ2_getChar_3b067 34 = .ok (.iinc 1 1, 3) := by decide +kernel
theorem dJ2_getChar_3b067_37 : decode cJ2_getChar_3b067 37 = .ok (.baload, 1) := by decide +kernel
theorem dJ2_getChar_3b067_38 : decode cJ2_getChar_3b067 38 = .ok (.sipush 255, 3) := by decide +kernel
theorem dJ2_getChar_3b067_41 : decode cJ2_getChar_3b067 41 = .ok (.iand, 1) := by decide +kernel
theorem dJ2_getChar_3b067_42 : decode cJ2_getChar_3b067 42 = .ok (.getstatic 59, 3) := by decide +kernel
theorem dJ2_getChar_3b067_45 : decode cJ2_getChar_3b067 45 = .ok (.ishl, 1) := by decide +kernel
theorem dJ2_getChar_3b067_46 : decode cJ2_getChar_3b067 46 = .ok (.aload_n 0, 1) := by decide +kernel
theorem dJ2_getChar_3b067_47 : decode cJ2_getChar_3b067 47 = .ok (.iload_n 1, 1) := by decide +kernel
theorem dJ2_getChar_3b067_48 : decode cJ2_getChar_3b067 48 = .ok (.baload, 1) := by decide +kernel
theorem dJ2_getChar_3b067_49 : decode cJ2_getChar_3b067 49 = .ok (.sipush 255, 3) := by decide +kernel
theorem dJ2_getChar_3b067_52 : decode cJ2_getChar_3b067 52 = .ok (.iand, 1) := by decide +kernel
theorem dJ2_getChar_3b067_53 : decode cJ2_getChar_3b067 53 = .ok (.getstatic 63, 3) := by decide +kernel
theorem dJ2_getChar_3b067_56 : decode cJ2_getChar_3b067 56 = .ok (.ishl, 1) := by decide +kernel
theorem dJ2_getChar_3b067_57 : decode cJ2_getChar_3b067 57 = .ok (.ior, 1) := by decide +kernel
theorem dJ2_getChar_3b067_58 : decode cJ2_getChar_3b067 58 = .ok (.i2c, 1) := by decide +kernel
theorem dJ2_getChar_3b067_59 : decode cJ2_getChar_3b067 59 = .ok (.ireturn, 1) := by decide +kernel
theorem dJ2_length_9d52b_0 : decode cJ2_length_9d52b 0 = .ok (.aload_n 0, 1) := by decide +kernel
theorem dJ2_length_9d52b_1 : decode cJ2_length_9d52b 1 = .ok (.arraylength, 1) := by decide +kernel
theorem dJ2_length_9d52b_2 : decode cJ2_length_9d52b 2 = .ok (.iconst 1, 1) := by decide +kernel
theorem dJ2_length_9d52b_3 : decode cJ2_length_9d52b 3 = .ok (.ishr, 1) := by decide +kernel
theorem dJ2_length_9d52b_4 : decode cJ2_length_9d52b 4 = .ok (.ireturn, 1) := by decide +kernel
theorem dJ2_indexOf_4cfef_0 : decode cJ2_indexOf_4cfef 0 = .ok (.iload_n 2, 1) := by decide +kernel
theorem dJ2_indexOf_4cfef_1 : decode cJ2_indexOf_4cfef 1 = .ok (.iconst 0, 1) := by decide +kernel
theorem dJ2_indexOf_4cfef_2 : decode cJ2_indexOf_4cfef 2 = .ok (.invokestatic 224, 3) := by decide +kernel
theorem dJ2_indexOf_4cfef_5 : decode cJ2_indexOf_4cfef 5 = .ok (.istore_n 2, 1) := by decide +kernel
theorem dJ2_indexOf_4cfef_6 : decode cJ2_indexOf_4cfef 6 = .ok (.iload_n 3, 1) := by decide +kernel
theorem dJ2_indexOf_4cfef_7 : decode cJ2_indexOf_4cfef 7 = .ok (.aload_n 0, 1) := by decide +kernel
theorem dJ2_indexOf_4cfef_8 : decode cJ2_indexOf_4cfef 8 = .ok (.arraylength, 1) := by decide +kernel
theorem dJ2_indexOf_4cfef_9 : decode cJ2_indexOf_4cfef 9 = .ok (.iconst 1, 1) := by decide +kernel
theorem dJ2_indexOf_4cfef_10 : decode cJ2_indexOf_4cfef 10 = .ok (.ishr, 1) := by decide +kernel
theorem dJ2_indexOf_4cfef_11 : decode cJ2_indexOf_4cfef 11 = .ok (.invokestatic 183, 3) := by decide +kernel
theorem dJ2_indexOf_4cfef_14 : decode cJ2_indexOf_4cfef 14 = .ok (.istore_n 3, 1) := by decide +kernel
theorem dJ2_indexOf_4cfef_15 : decode cJ2_indexOf_4cfef 15 = .ok (.iload_n 2, 1) := by decide +kernel
theorem dJ2_indexOf_4cfef_16 : decode cJ2_indexOf_4cfef 16 = .ok (.iload_n 3, 1) := by decide +kernel
theorem dJ2_indexOf_4cfef_17 : decode cJ2_indexOf_4cfef 17 = .ok (.if_icmp .lt 5, 3) := by decide +kernel
theorem dJ2_indexOf_4cfef_20 : decode cJ2_indexOf_4cfef 20 = .ok (.iconst (-1), 1) := by decide +kernel
theorem dJ2_indexOf_4cfef_21 : decode cJ2_indexOf_4cfef 21 = .ok (.ireturn, 1) := by decide +kernel
theorem dJ2_indexOf_4cfef_22 : decode cJ2_indexOf_4cfef 22 = .ok (.iload_n 1, 1) := by decide +kernel
theorem dJ2_indexOf_4cfef_23 : decode cJ2_indexOf_4cfef 23 = .ok (.ldc 227, 2) := by decide +kernel
theorem dJ2_indexOf_4cfef_25 : decode cJ2_indexOf_4cfef 25 = .ok (.if_icmp .ge 11, 3) := by decide +kernel
theorem dJ2_indexOf_4cfef_28 : decode cJ2_indexOf_4cfef 28 = .ok (.aload_n 0, 1) := by decide +kernel
theorem dJ2_indexOf_4cfef_29 : decode cJ2_indexOf_4cfef 29 = .ok (.iload_n 1, 1) := by decide +kernel
theorem dJ2_indexOf_4cfef_30 : decode cJ2_indexOf_4cfef 30 = .ok (.iload_n 2, 1) := by decide +kernel
theorem dJ2_indexOf_4cfef_31 : decode cJ2_indexOf_4cfef 31 = .ok (.iload_n 3, 1) := by decide +kernel
theorem dJ2_indexOf_4cfef_32 : decode cJ2_indexOf_4cfef 32 = .ok (.invokestatic 228, 3) := by decide +kernel
theorem dJ2_indexOf_4cfef_35 : decode cJ2_indexOf_4cfef 35 = .ok (.ireturn, 1) := by decide +kernel
theorem dJ2_indexOf_4cfef_36 : decode cJ2_indexOf_4cfef 36 = .ok (.aload_n 0, 1) := by decide +kernel
theorem dJ2_indexOf_4cfef_37 : decode cJ2_indexOf_4cfef 37 = .ok (.iload_n 1, 1) := by decide +kernel
theorem dJ2_indexOf_4cfef_38 : decode cJ2_indexOf_4cfef 38 = .ok (.iload_n 2, 1) := by decide +kernel
theorem dJ2_indexOf_4cfef_39 : decode cJ2_indexOf_4cfef 39 = .ok (.iload_n 3, 1) := by decide +kernel
theorem dJ2_indexOf_4cfef_40 : decode cJ2_indexOf_4cfef 40 = .ok (.invokestatic 232, 3) := by decide +kernel
theorem dJ2_indexOf_4cfef_43 : decode cJ2_indexOf_4cfef 43 = .ok (.ireturn, 1) := by decide +kernel
theorem dJ2_indexOfChar_4cfef_0 : decode cJ2_indexOfChar_4cfef 0 = .ok (.iload_n 2, 1) := by decide +kernel
theorem dJ2_indexOfChar_4cfef_1 : decode cJ2_indexOfChar_4cfef 1 = .ok (.iload_n 3, 1) := by decide +kernel
theorem dJ2_indexOfChar_4cfef_2 : decode cJ2_indexOfChar_4cfef 2 = .ok (.aload_n 0, 1) := by decide +kernel
theorem dJ2_indexOfChar_4cfef_3 : decode cJ2_indexOfChar_4cfef 3 = .ok (.invokestatic 96, 3) := by decide +kernel
theorem dJ2_indexOfChar_4cfef_6 : decode cJ2_indexOfChar_4cfef 6 = .ok (.aload_n 0, 1) := by decide +kernel
theorem dJ2_indexOfChar_4cfef_7 : decode cJ2_indexOfChar_4cfef 7 = .ok (.iload_n 1, 1) := by decide +kernel
theorem dJ2_indexOfChar_4cfef_8 : decode cJ2_indexOfChar_4cfef 8 = .ok (.iload_n 2, 1) := by decide +kernel
theorem dJ2_indexOfChar_4cfef_9 : decode cJ2_indexOfChar_4cfef 9 = .ok (.iload_n 3, 1) := by decide +kernel
theorem dJ2_indexOfChar_4cfef_10 : decode cJ2_indexOfChar_4cfef 10 = .ok (.invokestatic 244, 3) := by decide +kernel
theorem dJ2_indexOfChar_4cfef_13 : decode cJ2_indexOfChar_4cfef 13 = .ok (.ireturn, 1) := by decide +kernel
theorem dJ2_indexOfCharUnsafe_4cfef_0 : decode cJ2_indexOfCharUnsafe_4cfef 0 = .ok (.iload_n 2, 1) := by decide +kernel
theorem dJ2_indexOfCharUnsafe_4cfef_1 : decode cJ2_indexOfCharUnsafe_4cfef 1 = .ok (.istore 4, 2) := by decide +kernel
theorem dJ2_indexOfCharUnsafe_4cfef_3 : decode cJ2_indexOfCharUnsafe_4cfef 3 = .ok (.iload 4, 2) := by decide +kernel
theorem dJ2_indexOfCharUnsafe_4cfef_5 : decode cJ2_indexOfCharUnsafe_4cfef 5 = .ok (.iload_n 3, 1) := by decide +kernel
theorem dJ2_indexOfCharUnsafe_4cfef_6 : decode cJ2_indexOfCharUnsafe_4cfef 6 = .ok (.if_icmp .ge 22, 3) := by decide +kernel
theorem dJ2_indexOfCharUnsafe_4cfef_9 : decode cJ2_indexOfCharUnsafe_4cfef 9 = .ok (.aload_n 0, 1) := by decide +kernel
theorem dJ2_indexOfCharUnsafe_4cfef_10 : decode cJ2_indexOfCharUnsafe_4cfef 10 = .ok (.iload 4, 2) := by decide +kernel
theorem dJ2_indexOfCharUnsafe_4cfef_12 : decode cJ2_indexOfCharUnsafe_4cfef 12 = .ok (.invokestatic 71, 3) := by decide +kernel
theorem dJ2_indexOfCharUnsafe_4cfef_15 : decode cJ2_indexOfCharUnsafe_4cfef 15 = .ok (.iload_n 1, 1) := by decide +kernel
theorem dJ2_indexOfCharUnsafe_4cfef_16 : decode cJ2_indexOfCharUnsafe_4cfef 16 = .ok (.if_icmp .ne 6, 3) := by decide +kernel
theorem dJ2_indexOfCharUnsafe_4cfef_19 : decode cJ2_indexOfCharUnsafe_4cfef 19 = .ok (.iload 4, 2) := by decide +kernel
theorem dJ2_indexOfCharUnsafe_4cfef_21 : decode cJ2_indexOfCharUnsafe_4cfef 21 = .ok (.ireturn, 1) := by decide +kernel
theorem dJ2_indexOfCharUnsafe_4cfef_22 : decode cJ2_indexOfCharUnsafe_4cfef 22 = .ok (.iinc 4 1, 3) := by decide +kernel
theorem dJ2_indexOfCharUnsafe_4cfef_25 : decode cJ2_indexOfCharUnsafe_4cfef 25 = .ok (.goto (-22), 3) := by decide +kernel
theorem dJ2_indexOfCharUnsafe_4cfef_28 : decode cJ2_indexOfCharUnsafe_4cfef 28 = .ok (.iconst (-1), 1) := by decide +kernel
theorem dJ2_indexOfCharUnsafe_4cfef_29 : decode cJ2_indexOfCharUnsafe_4cfef 29 = .ok (.ireturn, 1) := by decide +kernel
theorem dJ2_indexOfSupplementary_4cfef_0 : decode cJ2_indexOfSupplementary_4cfef 0 = .ok (.iload_n 1, 1) := by decide +kernel
theorem dJ2_indexOfSupplementary_4cfef_1 : decode cJ2_indexOfSupplementary_4cfef 1 = .ok (.invokestatic 164, 3) := by decide +kernel
theorem dJ2_indexOfSupplementary_4cfef_4 : decode cJ2_indexOfSupplementary_4cfef 4 = .ok (.ifCond .eq 65, 3) := by decide +kernel
theorem dJ2_indexOfSupplementary_4cfef_7 : decode cJ2_indexOfSupplementary_4cfef 7 = .ok (.iload_n 1, 1) := by decide +kernel
theorem dJ2_indexOfSupplementary_4cfef_8 : decode cJ2_indexOfSupplementary_4cfef 8 = .ok (.invokestatic 157, 3) := by decide +kernel
theorem dJ2_indexOfSupplementary_4cfef_11 : decode cJ2_indexOfSupplementary_4cfef 11 = .ok (.istore 4, 2) := by decide +kernel
theorem dJ2_indexOfSupplementary_4cfef_13 : decode cJ2_indexOfSupplementary_4cfef 13 = .ok (.iload_n 1, 1) := by decide +kernel
theorem dJ2_indexOfSupplementary_4cfef_14 : decode cJ2_indexOfSupplementary_4cfef 14 = .ok (.invokestatic 161, 3) := by decide +kernel
theorem dJ2_indexOfSupplementary_4cfef_17 : decode cJ2_indexOfSupplementary_4cfef 17 = .ok (.istore 5, 2) := by decide +kernel
theorem dJ2_indexOfSupplementary_4cfef_19 : decode cJ2_indexOfSupplementary_4cfef 19 = .ok (.iload_n 2, 1) := by decide +kernel
theorem dJ2_indexOfSupplementary_4cfef_20 : decode cJ2_indexOfSupplementary_4cfef 20 = .ok (.iload_n 3, 1) := by decide +kernel
theorem dJ2_indexOfSupplementary_4cfef_21 : decode cJ2_indexOfSupplementary_4cfef 21 = .ok (.aload_n 0, 1) := by decide +kernel
theorem dJ2_indexOfSupplementary_4cfef_22 : decode cJ2_indexOfSupplementary_4cfef 22 = .ok (.invokestatic 96, 3) := by decide +kernel
theorem dJ2_indexOfSupplementary_4cfef_25 : decode cJ2_indexOfSupplementary_4cfef 25 = .ok (.iload_n 2, 1) := by decide +kernel
theorem dJ2_indexOfSupplementary_4cfef_26 : decode cJ2_indexOfSupplementary_4cfef 26 = .ok (.istore 6, 2) := by decide +kernel
theorem dJ2_indexOfSupplementary_4cfef_28 : decode cJ2_indexOfSupplementary_4cfef 28 = .ok (.iload 6, 2) := by decide +kernel
theorem dJ2_indexOfSupplementary_4cfef_30 : decode cJ2_indexOfSupplementary_4cfef 30 = .ok (.iload_n 3, 1) := by decide +kernel
theorem dJ2_indexOfSupplementary_4cfef_31 : decode cJ2_indexOfSupplementary_4cfef 31 = .ok (.iconst 1, 1) := by decide +kernel
theorem dJ2_indexOfSupplementary_4cfef_32 : decode cJ2_indexOfSupplementary_4cfef 32 = .ok (.isub, 1) := by decide +kernel
theorem dJ2_indexOfSupplementary_4cfef_33 : decode cJ2_indexOfSupplementary_4cfef 33 = .ok (.if_icmp .ge 36, 3) := by decide +kernel
theorem dJ2_indexOfSupplementary_4cfef_36 : decode cJ2_indexOfSupplementary_4cfef 36 = .ok (.aload_n 0, 1) := by decide +kernel
theorem dJ2_indexOfSupplementary_4cfef_37 : decode cJ2_indexOfSupplementary_4cfef 37 = .ok (.iload 6, 2) := by decide +kernel
theorem dJ2_indexOfSupplementary_4cfef_39 : decode cJ2_indexOfSupplementary_4cfef 39 = .ok (.invokestatic 71, 3) := by decide +kernel
theorem dJ2_indexOfSupplementary_4cfef_42 : decode cJ2_indexOfSupplementary_4cfef 42 = .ok (.iload 4, 2) := by decide +kernel
theorem dJ2_indexOfSupplementary_4cfef_44 : decode cJ2_indexOfSupplementary_4cfef 44 = .ok (.if_icmp .ne 19, 3) := by decide +kernel
theorem dJ2_indexOfSupplementary_4cfef_47 : decode cJ2_indexOfSupplementary_4cfef 47 = .ok (.aload_n 0, 1) := by decide +kernel
theorem dJ2_indexOfSupplementary_4cfef_48 : decode cJ2_indexOfSupplementary_4cfef 48 = .ok (.iload 6, 2) := by decide +kernel
theorem dJ2_indexOfSupplementary_4cfef_50 : decode cJ2_indexOfSupplementary_4cfef 50 = .ok (.iconst 1, 1) := by decide +kernel
theorem dJ2_indexOfSupplementary_4cfef_51 : decode cJ2_indexOfSupplementary_4cfef 51 = .ok (.iadd, 1) := by decide +kernel
theorem dJ2_indexOfSupplementary_4cfef_52 : decode cJ2_indexOfSupplementary_4cfef 52 = .ok (.invokestatic 71, 3) := by decide +kernel
theorem dJ2_indexOfSupplementary_4cfef_55 : decode cJ2_indexOfSupplementary_4cfef 55 = .ok (.iload 5, 2) := by decide +kernel
theorem dJ2_indexOfSupplementary_4cfef_57 : decode cJ2_indexOfSupplementary_4cfef 57 = .ok (.if_icmp .ne 6, 3) := by decide +kernel
theorem dJ2_indexOfSupplementary_4cfef_60 : decode cJ2_indexOfSupplementary_4cfef 60 = .ok (.iload 6, 2) := by decide +kernel
theorem dJ2_indexOfSupplementary_4cfef_62 : decode cJ2_indexOfSupplementary_4cfef 62 = .ok (.ireturn, 1) := by decide +kernel
theorem dJ2_indexOfSupplementary_4cfef_63 : decode cJ2_indexOfSupplementary_4cfef 63 = .ok (.iinc 6 1, 3) := by decide +kernel
theorem dJ2_indexOfSupplementary_4cfef_66 : decode cJ2_indexOfSupplementary_4cfef 66 = .ok (.goto (-38), 3) := by decide +kernel
theorem dJ2_indexOfSupplementary_4cfef_69 : decode cJ2_indexOfSupplementary_4cfef 69 = .ok (.iconst (-1), 1) := by decide +kernel
theorem dJ2_indexOfSupplementary_4cfef_70 : decode cJ2_indexOfSupplementary_4cfef 70 = .ok (.ireturn, 1) := by decide +kernel
theorem dJ2_checkBoundsBeginEnd_d044e_0 : decode cJ2_checkBoundsBeginEnd_d044e 0 = .ok (.iload_n 0, 1) := by decide +kernel
theorem dJ2_checkBoundsBeginEnd_d044e_1 : decode cJ2_checkBoundsBeginEnd_d044e 1 = .ok (.iload_n 1, 1) := by decide +kernel
theorem dJ2_checkBoundsBeginEnd_d044e_2 : decode cJ2_checkBoundsBeginEnd_d044e 2 = .ok (.aload_n 2, 1) := by decide +kernel
theorem dJ2_checkBoundsBeginEnd_d044e_3 : decode cJ2_checkBoundsBeginEnd_d044e 3 = .ok (.invokestatic 48, 3) := by decide +kernel
theorem dJ2_checkBoundsBeginEnd_d044e_6 : decode cJ2_checkBoundsBeginEnd_d044e 6 = .ok (.invokestatic 241, 3) := by decide +kernel
theorem dJ2_checkBoundsBeginEnd_d044e_9 : decode cJ2_checkBoundsBeginEnd_d044e 9 = .ok (.return_, 1) := by decide +kernel
theorem dJ7_fill_d0a16_0 : decode cJ7_fill_d0a16 0 = .ok (.iconst 0, 1) := by decide +kernel
theorem dJ7_fill_d0a16_1 : decode cJ7_fill_d0a16 1 = .ok (.istore_n 3, 1) := by decide +kernel
theorem dJ7_fill_d0a16_2 : decode cJ7_fill_d0a16 2 = .ok (.aload_n 0, 1) := by decide +kernel
theorem dJ7_fill_d0a16_3 : decode cJ7_fill_d0a16 3 = .ok (.arraylength, 1) := by decide +kernel
theorem dJ7_fill_d0a16_4 : decode cJ7_fill_d0a16 4 = .ok (.istore 4, 2) := by decide +kernel
theorem dJ7_fill_d0a16_6 : decode cJ7_fill_d0a16 6 = .ok (.iload_n 3, 1) := by decide +kernel
theorem dJ7_fill_d0a16_7 : decode cJ7_fill_d0a16 7 = .ok (.iload 4, 2) := by decide +kernel
theorem dJ7_fill_d0a16_9 : decode cJ7_fill_d0a16 9 = .ok (.if_icmp .ge 13, 3) := by decide +kernel
theorem dJ7_fill_d0a16_12 : decode cJ7_fill_d0a16 12 = .ok (.aload_n 0, 1) := by decide +kernel
theorem dJ7_fill_d0a16_13 : decode cJ7_fill_d0a16 13 = .ok (.iload_n 3, 1) := by decide +kernel
theorem dJ7_fill_d0a16_14 : decode cJ7_fill_d0a16 14 = .ok (.lload_n 1, 1) := by decide +kernel
theorem dJ7_fill_d0a16_15 : decode cJ7_fill_d0a16 15 = .ok (.lastore, 1) := by decide +kernel
theorem dJ7_fill_d0a16_16 : decode cJ7_fill_d0a16 16 = .ok (.iinc 3 1, 3) := by decide +kernel
theorem dJ7_fill_d0a16_19 : decode cJ7_fill_d0a16 19 = .ok (.goto (-13), 3) := by decide +kernel
theorem dJ7_fill_d0a16_22 : decode cJ7_fill_d0a16 22 = .ok (.return_, 1) := by decide +kernel
theorem dJ7_fill_53178_0 : decode cJ7_fill_53178 0 = .ok (.iconst 0, 1) := by decide +kernel
theorem dJ7_fill_53178_1 : decode cJ7_fill_53178 1 = .ok (.istore_n 2, 1) := by decide +kernel
theorem dJ7_fill_53178_2 : decode cJ7_fill_53178 2 = .ok (.aload_n 0, 1) := by decide +kernel
theorem dJ7_fill_53178_3 : decode cJ7_fill_53178 3 = .ok (.arraylength, 1) := by decide +kernel
theorem dJ7_fill_53178_4 : decode cJ7_fill_53178 4 = .ok (.istore_n 3, 1) := by decide +kernel
theorem dJ7_fill_53178_5 : decode cJ7_fill_53178 5 = .ok (.iload_n 2, 1) := by decide +kernel
theorem dJ7_fill_53178_6 : decode cJ7_fill_53178 6 = .ok (.iload_n 3, 1) := by decide +kernel
theorem dJ7_fill_53178_7 : decode cJ7_fill_53178 7 = .ok (.if_icmp .ge 13, 3) := by decide +kernel
theorem dJ7_fill_53178_10 : decode cJ7_fill_53178 10 = .ok (.aload_n 0, 1) := by decide +kernel
theorem dJ7_fill_53178_11 : decode cJ7_fill_53178 11 = .ok (.iload_n 2, 1) := by decide +kernel
theorem dJ7_fill_53178_12 : decode cJ7_fill_53178 12 = .ok (.iload_n 1, 1) := by decide +kernel
theorem dJ7_fill_53178_13 : decode cJ7_fill_53178 13 = .ok (.iastore, 1) := by decide +kernel
theorem dJ7_fill_53178_14 : decode cJ7_fill_53178 14 = .ok (.iinc 2 1, 3) := by decide +kernel
theorem dJ7_fill_53178_17 : decode cJ7_fill_53178 17 = .ok (.goto (-12), 3) := by decide +kernel
theorem dJ7_fill_53178_20 : decode cJ7_fill_53178 20 = .ok (.return_, 1) := by decide +kernel
theorem dJ3_checkFromToIndex_8c36e_0 : decode cJ3_checkFromToIndex_8c36e 0 = .ok (.iload_n 0, 1) := by decide +kernel
theorem dJ3_checkFromToIndex_8c36e_1 : decode cJ3_checkFromToIndex_8c36e 1 = .ok (.ifCond .lt 13, 3) := by decide +kernel
theorem dJ3_checkFromToIndex_8c36e_4 : decode cJ3_checkFromToIndex_8c36e 4 = .ok (.iload_n 0, 1) := by decide +kernel
theorem dJ3_checkFromToIndex_8c36e_5 : decode cJ3_checkFromToIndex_8c36e 5 = .ok (.iload_n 1, 1) := by decide +kernel
theorem dJ3_checkFromToIndex_8c36e_6 : decode cJ3_checkFromToIndex_8c36e 6 = .ok (.if_icmp .gt 8, 3) := by decide +kernel
theorem dJ3_checkFromToIndex_8c36e_9 : decode cJ3_checkFromToIndex_8c36e 9 = .ok (.iload_n 1, 1) := by decide +kernel
theorem dJ3_checkFromToIndex_8c36e_10 : decode cJ3_checkFromToIndex_8c36e 10 = .ok (.iload_n 2, 1) := by decide +kernel
theorem dJ3_checkFromToIndex_8c36e_11 : decode cJ3_checkFromToIndex_8c36e 11 = .ok (.if_icmp .le 11, 3) := by decide +kernel
theorem dJ3_checkFromToIndex_8c36e_14 : decode cJ3_checkFromToIndex_8c36e 14 = .ok (.aload_n 3, 1) := by decide +kernel
theorem dJ3_checkFromToIndex_8c36e_15 : decode cJ3_checkFromToIndex_8c36e 15 = .ok (.iload_n 0, 1) := by decide +kernel
theorem dJ3_checkFromToIndex_8c36e_16 : decode cJ3_checkFromToIndex_8c36e 16 = .ok (.iload_n 1, 1) := by decide +kernel
theorem dJ3_checkFromToIndex_8c36e_17 : decode cJ3_checkFromToIndex_8c36e 17 = .ok (.iload_n 2, 1) := by decide +kernel
theorem dJ3_checkFromToIndex_8c36e_18 : decode cJ3_checkFromToIndex_8c36e 18 = .ok (.invokestatic 99, 3) := by decide +kernel
theorem dJ3_checkFromToIndex_8c36e_21 : decode cJ3_checkFromToIndex_8c36e 21 = .ok (.athrow, 1) := by decide +kernel
theorem dJ3_checkFromToIndex_8c36e_22 : decode cJ3_checkFromToIndex_8c36e 22 = .ok (.iload_n 0, 1) := by decide +kernel
theorem dJ3_checkFromToIndex_8c36e_23 : decode cJ3_checkFromToIndex_8c36e 23 = .ok (.ireturn, 1) := by decide +kernel
end
section
theorem dL_law_0 : decode cL_law 0 = .ok (.new 7, 3) := by decide +kernel
theorem dL_law_3 : decode cL_law 3 = .ok (.dup, 1) := by decide +kernel
theorem dL_law_4 : decode cL_law 4 = .ok (.invokespecial 9, 3) := by decide +kernel
theorem dL_law_7 : decode cL_law 7 = .ok (.astore_n 1, 1) := by decide +kernel
theorem dL_law_8 : decode cL_law 8 = .ok (.new 10, 3) := by decide +kernel
theorem dL_law_11 : decode cL_law 11 = .ok (.dup, 1) := by decide +kernel
theorem dL_law_12 : decode cL_law 12 = .ok (.invokespecial 12, 3) := by decide +kernel
theorem dL_law_15 : decode cL_law 15 = .ok (.astore_n 2, 1) := by decide +kernel
theorem dL_law_16 : decode cL_law 16 = .ok (.iconst 0, 1) := by decide +kernel
theorem dL_law_17 : decode cL_law 17 = .ok (.istore_n 3, 1) := by decide +kernel
theorem dL_law_18 : decode cL_law 18 = .ok (.iload_n 3, 1) := by decide +kernel
theorem dL_law_19 : decode cL_law 19 = .ok (.aload_n 0, 1) := by decide +kernel
theorem dL_law_20 : decode cL_law 20 = .ok (.arraylength, 1) := by decide +kernel
theorem dL_law_21 : decode cL_law 21 = .ok (.bipush 7, 2) := by decide +kernel
theorem dL_law_23 : decode cL_law 23 = .ok (.isub, 1) := by decide +kernel
theorem dL_law_24 : decode cL_law 24 = .ok (.if_icmp .gt 1414, 3) := by decide +kernel
theorem dL_law_27 : decode cL_law 27 = .ok (.aload_n 0, 1) := by decide +kernel
theorem dL_law_28 : decode cL_law 28 = .ok (.iload_n 3, 1) := by decide +kernel
theorem dL_law_29 : decode cL_law 29 = .ok (.iaload, 1) := by decide +kernel
theorem dL_law_30 : decode cL_law 30 = .ok (.bipush 63, 2) := by decide +kernel
theorem dL_law_32 : decode cL_law 32 = .ok (.iand, 1) := by decide +kernel
theorem dL_law_33 : decode cL_law 33 = .ok (.tableswitch 1399 0 35 #[159, 212, 245, 288, 321, 354, 387, 410, 423, 446, 469, 492, 515, 528, 551, 584, 627, 670, 713, 746, 789, 832, 875, 908, 941, 954, 977, 1000, 1033, 1046, 1059, 1134, 1187, 1230, 1253, 1336], 159) := by decide +kernel
theorem dL_law_192 : decode cL_law 192 = .ok (.aload_n 1, 1) := by decide +kernel
theorem dL_law_193 : decode cL_law 193 = .ok (.aload_n 0, 1) := by decide +kernel
theorem dL_law_194 : decode cL_law 194 = .ok (.iload_n 3, 1) := by decide +kernel
theorem dL_law_195 : decode cL_law 195 = .ok (.iconst 1, 1) := by decide +kernel
theorem dL_law_196 : decode cL_law 196 = .ok (.iadd, 1) := by decide +kernel
theorem dL_law_197 : decode cL_law 197 = .ok (.iaload, 1) := by decide +kernel
theorem dL_law_198 : decode cL_law 198 = .ok (.aload_n 0, 1) := by decide +kernel
theorem dL_law_199 : decode cL_law 199 = .ok (.iload_n 3, 1) := by decide +kernel
theorem dL_law_200 : decode cL_law 200 = .ok (.iconst 2, 1) := by decide +kernel
theorem dL_law_201 : decode cL_law 201 = .ok (.iadd, 1) := by decide +kernel
theorem dL_law_202 : decode cL_law 202 = .ok (.iaload, 1) := by decide +kernel
theorem dL_law_203 : decode cL_law 203 = .ok (.aload_n 0, 1) := by decide +kernel
theorem dL_law_204 : decode cL_law 204 = .ok (.iload_n 3, 1) := by decide +kernel
theorem dL_law_205 : decode cL_law 205 = .ok (.iconst 3, 1) := by decide +kernel
theorem dL_law_206 : decode cL_law 206 = .ok (.iadd, 1) := by decide +kernel
theorem dL_law_207 : decode cL_law 207 = .ok (.iaload, 1) := by decide +kernel
theorem dL_law_208 : decode cL_law 208 = .ok (.aload_n 0, 1) := by decide +kernel
theorem dL_law_209 : decode cL_law 209 = .ok (.iload_n 3, 1) := by decide +kernel
theorem dL_law_210 : decode cL_law 210 = .ok (.iconst 4, 1) := by decide +kernel
theorem dL_law_211 : decode cL_law 211 = .ok (.iadd, 1) := by decide +kernel
theorem dL_law_212 : decode cL_law 212 = .ok (.iaload, 1) := by decide +kernel
theorem dL_law_213 : decode cL_law 213 = .ok (.invokevirtual 13, 3) := by decide +kernel
theorem dL_law_216 : decode cL_law 216 = .ok (.aload_n 2, 1) := by decide +kernel
theorem dL_law_217 : decode cL_law 217 = .ok (.aload_n 0, 1) := by decide +kernel
theorem dL_law_218 : decode cL_law 218 = .ok (.iload_n 3, 1) := by decide +kernel
theorem dL_law_219 : decode cL_law 219 = .ok (.iconst 1, 1) := by decide +kernel
theorem dL_law_220 : decode cL_law 220 = .ok (.iadd, 1) := by decide +kernel
theorem dL_law_221 : decode cL_law 221 = .ok (.iaload, 1) := by decide +kernel
theorem dL_law_222 : decode cL_law 222 = .ok (.aload_n 0, 1) := by decide +kernel
theorem dL_law_223 : decode cL_law 223 = .ok (.iload_n 3, 1) := by decide +kernel
theorem dL_law_224 : decode cL_law 224 = .ok (.iconst 2, 1) := by decide +kernel
theorem dL_law_225 : decode cL_law 225 = .ok (.iadd, 1) := by decide +kernel
theorem dL_law_226 : decode cL_law 226 = .ok (.iaload, 1) := by decide +kernel
theorem dL_law_227 : decode cL_law 227 = .ok (.aload_n 0, 1) := by decide +kernel
theorem dL_law_228 : decode cL_law 228 = .ok (.iload_n 3, 1) := by decide +kernel
theorem dL_law_229 : decode cL_law 229 = .ok (.iconst 3, 1) := by decide +kernel
theorem dL_law_230 : decode cL_law 230 = .ok (.iadd, 1) := by decide +kernel
theorem dL_law_231 : decode cL_law 231 = .ok (.iaload, 1) := by decide +kernel
theorem dL_law_232 : decode cL_law 232 = .ok (.aload_n 0, 1) := by decide +kernel
theorem dL_law_233 : decode cL_law 233 = .ok (.iload_n 3, 1) := by decide +kernel
theorem dL_law_234 : decode cL_law 234 = .ok (.iconst 4, 1) := by decide +kernel
theorem dL_law_235 : decode cL_law 235 = .ok (.iadd, 1) := by decide +kernel
theorem dL_law_236 : decode cL_law 236 = .ok (.iaload, 1) := by decide +kernel
theorem dL_law_237 : decode cL_law 237 = .ok (.invokevirtual 17, 3) := by decide +kernel
theorem dL_law_240 : decode cL_law 240 = .ok (.if_icmp .eq 1192, 3) := by decide +kernel
theorem dL_law_243 : decode cL_law 243 = .ok (.iconst 0, 1) := by decide +kernel
theorem dL_law_244 : decode cL_law 244 = .ok (.ireturn, 1) := by decide +kernel
theorem dL_law_245 : decode cL_law 245 = .ok (.aload_n 1, 1) := by decide +kernel
theorem dL_law_246 : decode cL_law 246 = .ok (.aload_n 0, 1) := by decide +kernel
theorem dL_law_247 : decode cL_law 247 = .ok (.iload_n 3, 1) := by decide +kernel
theorem dL_law_248 : decode cL_law 248 = .ok (.iconst 1, 1) := by decide +kernel
theorem dL_law_249 : decode cL_law 249 = .ok (.iadd, 1) := by decide +kernel
theorem dL_law_250 : decode cL_law 250 = .ok (.iaload, 1) := by decide +kernel
theorem dL_law_251 : decode cL_law 251 = .ok (.aload_n 0, 1) := by decide +kernel
theorem dL_law_252 : decode cL_law 252 = .ok (.iload_n 3, 1) := by decide +kernel
theorem dL_law_253 : decode cL_law 253 = .ok (.iconst 2, 1) := by decide +kernel
theorem dL_law_254 : decode cL_law 254 = .ok (.iadd, 1) := by decide +kernel
theorem dL_law_255 : decode cL_law 255 = .ok (.iaload, 1) := by decide +kernel
theorem dL_law_256 : decode cL_law 256 = .ok (.invokevirtual 18, 3) := by decide +kernel
theorem dL_law_259 : decode cL_law 259 = .ok (.aload_n 2, 1) := by decide +kernel
theorem dL_law_260 : decode cL_law 260 = .ok (.aload_n 0, 1) := by decide +kernel
theorem dL_law_261 : decode cL_law 261 = .ok (.iload_n 3, 1) := by decide +kernel
theorem dL_law_262 : decode cL_law 262 = .ok (.iconst 1, 1) := by decide +kernel
theorem dL_law_263 : decode cL_law 263 = .ok (.iadd, 1) := by decide +kernel
theorem dL_law_264 : decode cL_law 264 = .ok (.iaload, 1) := by decide +kernel
theorem dL_law_265 : decode cL_law 265 = .ok (.aload_n 0, 1) := by decide +kernel
theorem dL_law_266 : decode cL_law 266 = .ok (.iload_n 3, 1) := by decide +kernel
theorem dL_law_267 : decode cL_law 267 = .ok (.iconst 2, 1) := by decide +kernel
theorem dL_law_268 : decode cL_law 268 = .ok (.iadd, 1) := by decide +kernel
theorem dL_law_269 : decode cL_law 269 = .ok (.iaload, 1) := by decide +kernel
theorem dL_law_270 : decode cL_law 270 = .ok (.invokevirtual 22, 3) := by decide +kernel
theorem dL_law_273 : decode cL_law 273 = .ok (.if_icmp .eq 1159, 3) := by decide +kernel
theorem dL_law_276 : decode cL_law 276 = .ok (.iconst 0, 1) := by decide +kernel
theorem dL_law_277 : decode cL_law 277 = .ok (.ireturn, 1) := by decide +kernel
theorem dL_law_278 : decode cL_law 278 = .ok (.aload_n 1, 1) := by decide +kernel
theorem dL_law_279 : decode cL_law 279 = .ok (.aload_n 0, 1) := by decide +kernel
theorem dL_law_280 : decode cL_law 280 = .ok (.iload_n 3, 1) := by decide +kernel
theorem dL_law_281 : decode cL_law 281 = .ok (.iconst 1, 1) := by decide +kernel
theorem dL_law_282 : decode cL_law 282 = .ok (.iadd, 1) := by decide +kernel
theorem dL_law_283 : decode cL_law 283 = .ok (.iaload, 1) := by decide +kernel
theorem dL_law_284 : decode cL_law 284 = .ok (.aload_n 0, 1) := by decide +kernel
theorem dL_law_285 : decode cL_law 285 = .ok (.iload_n 3, 1) := by decide +kernel
theorem dL_law_286 : decode cL_law 286 = .ok (.iconst 2, 1) := by decide +kernel
theorem dL_law_287 : decode cL_law 287 = .ok (.iadd, 1) := by decide +kernel
theorem dL_law_288 : decode cL_law 288 = .ok (.iaload, 1) := by decide +kernel
theorem dL_law_289 : decode cL_law 289 = .ok (.aload_n 0, 1) := by decide +kernel
theorem dL_law_290 : decode cL_law 290 = .ok (.iload_n 3, 1) := by decide +kernel
theorem dL_law_291 : decode cL_law 291 = .ok (.iconst 3, 1) := by decide +kernel
theorem dL_law_292 : decode cL_law 292 = .ok (.iadd, 1) := by decide +kernel
theorem dL_law_293 : decode cL_law 293 = .ok (.iaload, 1) := by decide +kernel
theorem dL_law_294 : decode cL_law 294 = .ok (.invokevirtual 23, 3) := by decide +kernel
theorem dL_law_297 : decode cL_law 297 = .ok (.aload_n 2, 1) := by decide +kernel
theorem dL_law_298 : decode cL_law 298 = .ok (.aload_n 0, 1) := by decide +kernel
theorem dL_law_299 : decode cL_law 299 = .ok (.iload_n 3, 1) := by decide +kernel
theorem dL_law_300 : decode cL_law 300 = .ok (.iconst 1, 1) := by decide +kernel
theorem dL_law_301 : decode cL_law 301 = .ok (.iadd, 1) := by decide +kernel
theorem dL_law_302 : decode cL_law 302 = .ok (.iaload, 1) := by decide +kernel
theorem dL_law_303 : decode cL_law 303 = .ok (.aload_n 0, 1) := by decide +kernel
theorem dL_law_304 : decode cL_law 304 = .ok (.iload_n 3, 1) := by decide +kernel
theorem dL_law_305 : decode cL_law 305 = .ok (.iconst 2, 1) := by decide +kernel
theorem dL_law_306 : decode cL_law 306 = .ok (.iadd, 1) := by decide +kernel
theorem dL_law_307 : decode cL_law 307 = .ok (.iaload, 1) := by decide +kernel
theorem dL_law_308 : decode cL_law 308 = .ok (.aload_n 0, 1) := by decide +kernel
theorem dL_law_309 : decode cL_law 309 = .ok (.iload_n 3, 1) := by decide +kernel
theorem dL_law_310 : decode cL_law 310 = .ok (.iconst 3, 1) := by decide +kernel
theorem dL_law_311 : decode cL_law 311 = .ok (.iadd, 1) := by decide +kernel
theorem dL_law_312 : decode cL_law 312 = .ok (.iaload, 1) := by decide +kernel
theorem dL_law_313 : decode cL_law 313 = .ok (.invokevirtual 27, 3) := by decide +kernel
theorem dL_law_316 : decode cL_law 316 = .ok (.if_icmp .eq 1116, 3) := by decide +kernel
theorem dL_law_319 : decode cL_law 319 = .ok (.iconst 0, 1) := by decide +kernel
theorem dL_law_320 : decode cL_law 320 = .ok (.ireturn, 1) := by decide +kernel
theorem dL_law_321 : decode cL_law 321 = .ok (.aload_n 1, 1) := by decide +kernel
theorem dL_law_322 : decode cL_law 322 = .ok (.aload_n 0, 1) := by decide +kernel
theorem dL_law_323 : decode cL_law 323 = .ok (.iload_n 3, 1) := by decide +kernel
theorem dL_law_324 : decode cL_law 324 = .ok (.iconst 1, 1) := by decide +kernel
theorem dL_law_325 : decode cL_law 325 = .ok (.iadd, 1) := by decide +kernel
theorem dL_law_326 : decode cL_law 326 = .ok (.iaload, 1) := by decide +kernel
theorem dL_law_327 : decode cL_law 327 = .ok (.aload_n 0, 1) := by decide +kernel
theorem dL_law_328 : decode cL_law 328 = .ok (.iload_n 3, 1) := by decide +kernel
theorem dL_law_329 : decode cL_law 329 = .ok (.iconst 2, 1) := by decide +kernel
theorem dL_law_330 : decode cL_law 330 = .ok (.iadd, 1) := by decide +kernel
theorem dL_law_331 : decode cL_law 331 = .ok (.iaload, 1) := by decide +kernel
theorem dL_law_332 : decode cL_law 332 = .ok (.invokevirtual 28, 3) := by decide +kernel
theorem dL_law_335 : decode cL_law 335 = .ok (.aload_n 2, 1) := by decide +kernel
theorem dL_law_336 : decode cL_law 336 = .ok (.aload_n 0, 1) := by decide +kernel
theorem dL_law_337 : decode cL_law 337 = .ok (.iload_n 3, 1) := by decide +kernel
theorem dL_law_338 : decode cL_law 338 = .ok (.iconst 1, 1) := by decide +kernel
theorem dL_law_339 : decode cL_law 339 = .ok (.iadd, 1) := by decide +kernel
theorem dL_law_340 : decode cL_law 340 = .ok (.iaload, 1) := by decide +kernel
theorem dL_law_341 : decode cL_law 341 = .ok (.aload_n 0, 1) := by decide +kernel
theorem dL_law_342 : decode cL_law 342 = .ok (.iload_n 3, 1) := by decide +kernel
theorem dL_law_343 : decode cL_law 343 = .ok (.iconst 2, 1) := by decide +kernel
theorem dL_law_344 : decode cL_law 344 = .ok (.iadd, 1) := by decide +kernel
theorem dL_law_345 : decode cL_law 345 = .ok (.iaload, 1) := by decide +kernel
theorem dL_law_346 : decode cL_law 346 = .ok (.invokevirtual 31, 3) := by decide +kernel
theorem dL_law_349 : decode cL_law 349 = .ok (.if_icmp .eq 1083, 3) := by decide +kernel
theorem dL_law_352 : decode cL_law 352 = .ok (.iconst 0, 1) := by decide +kernel
theorem dL_law_353 : decode cL_law 353 = .ok (.ireturn, 1) := by decide +kernel
theorem dL_law_354 : decode cL_law 354 = .ok (.aload_n 1, 1) := by decide +kernel
theorem dL_law_355 : decode cL_law 355 = .ok (.aload_n 0, 1) := by decide +kernel
theorem dL_law_356 : decode cL_law 356 = .ok (.iload_n 3, 1) := by decide +kernel
theorem dL_law_357 : decode cL_law 357 = .ok (.iconst 1, 1) := by decide +kernel
theorem dL_law_358 : decode cL_law 358 = .ok (.iadd, 1) := by decide +kernel
theorem dL_law_359 : decode cL_law 359 = .ok (.iaload, 1) := by decide +kernel
theorem dL_law_360 : decode cL_law 360 = .ok (.aload_n 0, 1) := by decide +kernel
theorem dL_law_361 : decode cL_law 361 = .ok (.iload_n 3, 1) := by decide +kernel
theorem dL_law_362 : decode cL_law 362 = .ok (.iconst 2, 1) := by decide +kernel
theorem dL_law_363 : decode cL_law 363 = .ok (.iadd, 1) := by decide +kernel
theorem dL_law_364 : decode cL_law 364 = .ok (.iaload, 1) := by decide +kernel
theorem dL_law_365 : decode cL_law 365 = .ok (.invokevirtual 32, 3) := by decide +kernel
theorem dL_law_368 : decode cL_law 368 = .ok (.aload_n 2, 1) := by decide +kernel
theorem dL_law_369 : decode cL_law 369 = .ok (.aload_n 0, 1) := by decide +kernel
theorem dL_law_370 : decode cL_law 370 = .ok (.iload_n 3, 1) := by decide +kernel
theorem dL_law_371 : decode cL_law 371 = .ok (.iconst 1, 1) := by decide +kernel
theorem dL_law_372 : decode cL_law 372 = .ok (.iadd, 1) := by decide +kernel
theorem dL_law_373 : decode cL_law 373 = .ok (.iaload, 1) := by decide +kernel
theorem dL_law_374 : decode cL_law 374 = .ok (.aload_n 0, 1) := by decide +kernel
theorem dL_law_375 : decode cL_law 375 = .ok (.iload_n 3, 1) := by decide +kernel
theorem dL_law_376 : decode cL_law 376 = .ok (.iconst 2, 1) := by decide +kernel
theorem dL_law_377 : decode cL_law 377 = .ok (.iadd, 1) := by decide +kernel
theorem dL_law_378 : decode cL_law 378 = .ok (.iaload, 1) := by decide +kernel
theorem dL_law_379 : decode cL_law 379 = .ok (.invokevirtual 35, 3) := by decide +kernel
theorem dL_law_382 : decode cL_law 382 = .ok (.if_icmp .eq 1050, 3) := by decide +kernel
theorem dL_law_385 : decode cL_law 385 = .ok (.iconst 0, 1) := by decide +kernel
theorem dL_law_386 : decode cL_law 386 = .ok (.ireturn, 1) := by decide +kernel
theorem dL_law_387 : decode cL_law 387 = .ok (.aload_n 1, 1) := by decide +kernel
theorem dL_law_388 : decode cL_law 388 = .ok (.aload_n 0, 1) := by decide +kernel
theorem dL_law_389 : decode cL_law 389 = .ok (.iload_n 3, 1) := by decide +kernel
theorem dL_law_390 : decode cL_law 390 = .ok (.iconst 1, 1) := by decide +kernel
theorem dL_law_391 : decode cL_law 391 = .ok (.iadd, 1) := by decide +kernel
theorem dL_law_392 : decode cL_law 392 = .ok (.iaload, 1) := by decide +kernel
theorem dL_law_393 : decode cL_law 393 = .ok (.aload_n 0, 1) := by decide +kernel
theorem dL_law_394 : decode cL_law 394 = .ok (.iload_n 3, 1) := by decide +kernel
theorem dL_law_395 : decode cL_law 395 = .ok (.iconst 2, 1) := by decide +kernel
theorem dL_law_396 : decode cL_law 396 = .ok (.iadd, 1) := by decide +kernel
theorem dL_law_397 : decode cL_law 397 = .ok (.iaload, 1) := by decide +kernel
theorem dL_law_398 : decode cL_law 398 = .ok (.invokevirtual 36, 3) := by decide +kernel
theorem dL_law_401 : decode cL_law 401 = .ok (.aload_n 2, 1) := by decide +kernel
theorem dL_law_402 : decode cL_law 402 = .ok (.aload_n 0, 1) := by decide +kernel
theorem dL_law_403 : decode cL_law 403 = .ok (.iload_n 3, 1) := by decide +kernel
theorem dL_law_404 : decode cL_law 404 = .ok (.iconst 1, 1) := by decide +kernel
theorem dL_law_405 : decode cL_law 405 = .ok (.iadd, 1) := by decide +kernel
theorem dL_law_406 : decode cL_law 406 = .ok (.iaload, 1) := by decide +kernel
theorem dL_law_407 : decode cL_law 407 = .ok (.aload_n 0, 1) := by decide +kernel
theorem dL_law_408 : decode cL_law 408 = .ok (.iload_n 3, 1) := by decide +kernel
theorem dL_law_409 : decode cL_law 409 = .ok (.iconst 2, 1) := by decide +kernel
theorem dL_law_410 : decode cL_law 410 = .ok (.iadd, 1) := by decide +kernel
theorem dL_law_411 : decode cL_law 411 = .ok (.iaload, 1) := by decide +kernel
theorem dL_law_412 : decode cL_law 412 = .ok (.invokevirtual 39, 3) := by decide +kernel
theorem dL_law_415 : decode cL_law 415 = .ok (.if_icmp .eq 1017, 3) := by decide +kernel
theorem dL_law_418 : decode cL_law 418 = .ok (.iconst 0, 1) := by decide +kernel
theorem dL_law_419 : decode cL_law 419 = .ok (.ireturn, 1) := by decide +kernel
theorem dL_law_420 : decode cL_law 420 = .ok (.aload_n 1, 1) := by decide +kernel
theorem dL_law_421 : decode cL_law 421 = .ok (.aload_n 0, 1) := by decide +kernel
theorem dL_law_422 : decode cL_law 422 = .ok (.iload_n 3, 1) := by decide +kernel
theorem dL_law_423 : decode cL_law 423 = .ok (.iconst 1, 1) := by decide +kernel
theorem dL_law_424 : decode cL_law 424 = .ok (.iadd, 1) := by decide +kernel
theorem dL_law_425 : decode cL_law 425 = .ok (.iaload, 1) := by decide +kernel
theorem dL_law_426 : decode cL_law 426 = .ok (.invokevirtual 40, 3) := by decide +kernel
theorem dL_law_429 : decode cL_law 429 = .ok (.aload_n 2, 1) := by decide +kernel
theorem dL_law_430 : decode cL_law 430 = .ok (.aload_n 0, 1) := by decide +kernel
theorem dL_law_431 : decode cL_law 431 = .ok (.iload_n 3, 1) := by decide +kernel
theorem dL_law_432 : decode cL_law 432 = .ok (.iconst 1, 1) := by decide +kernel
theorem dL_law_433 : decode cL_law 433 = .ok (.iadd, 1) := by decide +kernel
theorem dL_law_434 : decode cL_law 434 = .ok (.iaload, 1) := by decide +kernel
theorem dL_law_435 : decode cL_law 435 = .ok (.invokevirtual 44, 3) := by decide +kernel
theorem dL_law_438 : decode cL_law 438 = .ok (.if_icmp .eq 994, 3) := by decide +kernel
theorem dL_law_441 : decode cL_law 441 = .ok (.iconst 0, 1) := by decide +kernel
theorem dL_law_442 : decode cL_law 442 = .ok (.ireturn, 1) := by decide +kernel
theorem dL_law_443 : decode cL_law 443 = .ok (.aload_n 1, 1) := by decide +kernel
theorem dL_law_444 : decode cL_law 444 = .ok (.invokevirtual 45, 3) := by decide +kernel
theorem dL_law_447 : decode cL_law 447 = .ok (.aload_n 2, 1) := by decide +kernel
theorem dL_law_448 : decode cL_law 448 = .ok (.invokevirtual 49, 3) := by decide +kernel
theorem dL_law_451 : decode cL_law 451 = .ok (.if_icmp .eq 981, 3) := by decide +kernel
theorem dL_law_454 : decode cL_law 454 = .ok (.iconst 0, 1) := by decide +kernel
theorem dL_law_455 : decode cL_law 455 = .ok (.ireturn, 1) := by decide +kernel
theorem dL_law_456 : decode cL_law 456 = .ok (.aload_n 1, 1) := by decide +kernel
theorem dL_law_457 : decode cL_law 457 = .ok (.aload_n 0, 1) := by decide +kernel
theorem dL_law_458 : decode cL_law 458 = .ok (.iload_n 3, 1) := by decide +kernel
theorem dL_law_459 : decode cL_law 459 = .ok (.iconst 1, 1) := by decide +kernel
theorem dL_law_460 : decode cL_law 460 = .ok (.iadd, 1) := by decide +kernel
theorem dL_law_461 : decode cL_law 461 = .ok (.iaload, 1) := by decide +kernel
theorem dL_law_462 : decode cL_law 462 = .ok (.invokevirtual 50, 3) := by decide +kernel
theorem dL_law_465 : decode cL_law 465 = .ok (.aload_n 2, 1) := by decide +kernel
theorem dL_law_466 : decode cL_law 466 = .ok (.aload_n 0, 1) := by decide +kernel
theorem dL_law_467 : decode cL_law 467 = .ok (.iload_n 3, 1) := by decide +kernel
theorem dL_law_468 : decode cL_law 468 = .ok (.iconst 1, 1) := by decide +kernel
theorem dL_law_469 : decode cL_law 469 = .ok (.iadd, 1) := by decide +kernel
theorem dL_law_470 : decode cL_law 470 = .ok (.iaload, 1) := by decide +kernel
theorem dL_law_471 : decode cL_law 471 = .ok (.invokevirtual 53, 3) := by decide +kernel
theorem dL_law_474 : decode cL_law 474 = .ok (.if_icmp .eq 958, 3) := by decide +kernel
theorem dL_law_477 : decode cL_law 477 = .ok (.iconst 0, 1) := by decide +kernel
theorem dL_law_478 : decode cL_law 478 = .ok (.ireturn, 1) := by decide +kernel
theorem dL_law_479 : decode cL_law 479 = .ok (.aload_n 1, 1) := by decide +kernel
theorem dL_law_480 : decode cL_law 480 = .ok (.aload_n 0, 1) := by decide +kernel
theorem dL_law_481 : decode cL_law 481 = .ok (.iload_n 3, 1) := by decide +kernel
theorem dL_law_482 : decode cL_law 482 = .ok (.iconst 1, 1) := by decide +kernel
theorem dL_law_483 : decode cL_law 483 = .ok (.iadd, 1) := by decide +kernel
theorem dL_law_484 : decode cL_law 484 = .ok (.iaload, 1) := by decide +kernel
theorem dL_law_485 : decode cL_law 485 = .ok (.invokevirtual 54, 3) := by decide +kernel
theorem dL_law_488 : decode cL_law 488 = .ok (.aload_n 2, 1) := by decide +kernel
theorem dL_law_489 : decode cL_law 489 = .ok (.aload_n 0, 1) := by decide +kernel
theorem dL_law_490 : decode cL_law 490 = .ok (.iload_n 3, 1) := by decide +kernel
theorem dL_law_491 : decode cL_law 491 = .ok (.iconst 1, 1) := by decide +kernel
theorem dL_law_492 : decode cL_law 492 = .ok (.iadd, 1) := by decide +kernel
theorem dL_law_493 : decode cL_law 493 = .ok (.iaload, 1) := by decide +kernel
theorem dL_law_494 : decode cL_law 494 = .ok (.invokevirtual 57, 3) := by decide +kernel
theorem dL_law_497 : decode cL_law 497 = .ok (.if_icmp .eq 935, 3) := by decide +kernel
theorem dL_law_500 : decode cL_law 500 = .ok (.iconst 0, 1) := by decide +kernel
theorem dL_law_501 : decode cL_law 501 = .ok (.ireturn, 1) := by decide +kernel
theorem dL_law_502 : decode cL_law 502 = .ok (.aload_n 1, 1) := by decide +kernel
theorem dL_law_503 : decode cL_law 503 = .ok (.aload_n 0, 1) := by decide +kernel
theorem dL_law_504 : decode cL_law 504 = .ok (.iload_n 3, 1) := by decide +kernel
theorem dL_law_505 : decode cL_law 505 = .ok (.iconst 1, 1) := by decide +kernel
theorem dL_law_506 : decode cL_law 506 = .ok (.iadd, 1) := by decide +kernel
theorem dL_law_507 : decode cL_law 507 = .ok (.iaload, 1) := by decide +kernel
theorem dL_law_508 : decode cL_law 508 = .ok (.invokevirtual 58, 3) := by decide +kernel
theorem dL_law_511 : decode cL_law 511 = .ok (.aload_n 2, 1) := by decide +kernel
theorem dL_law_512 : decode cL_law 512 = .ok (.aload_n 0, 1) := by decide +kernel
theorem dL_law_513 : decode cL_law 513 = .ok (.iload_n 3, 1) := by decide +kernel
theorem dL_law_514 : decode cL_law 514 = .ok (.iconst 1, 1) := by decide +kernel
theorem dL_law_515 : decode cL_law 515 = .ok (.iadd, 1) := by decide +kernel
theorem dL_law_516 : decode cL_law 516 = .ok (.iaload, 1) := by decide +kernel
theorem dL_law_517 : decode cL_law 517 = .ok (.invokevirtual 61, 3) := by decide +kernel
theorem dL_law_520 : decode cL_law 520 = .ok (.if_icmp .eq 912, 3) := by decide +kernel
theorem dL_law_523 : decode cL_law 523 = .ok (.iconst 0, 1) := by decide +kernel
theorem dL_law_524 : decode cL_law 524 = .ok (.ireturn, 1) := by decide +kernel
theorem dL_law_525 : decode cL_law 525 = .ok (.aload_n 1, 1) := by decide +kernel
theorem dL_law_526 : decode cL_law 526 = .ok (.aload_n 0, 1) := by decide +kernel
theorem dL_law_527 : decode cL_law 527 = .ok (.iload_n 3, 1) := by decide +kernel
theorem dL_law_528 : decode cL_law 528 = .ok (.iconst 1, 1) := by decide +kernel
theorem dL_law_529 : decode cL_law 529 = .ok (.iadd, 1) := by decide +kernel
theorem dL_law_530 : decode cL_law 530 = .ok (.iaload, 1) := by decide +kernel
theorem dL_law_531 : decode cL_law 531 = .ok (.invokevirtual 62, 3) := by decide +kernel
theorem dL_law_534 : decode cL_law 534 = .ok (.aload_n 2, 1) := by decide +kernel
theorem dL_law_535 : decode cL_law 535 = .ok (.aload_n 0, 1) := by decide +kernel
theorem dL_law_536 : decode cL_law 536 = .ok (.iload_n 3, 1) := by decide +kernel
theorem dL_law_537 : decode cL_law 537 = .ok (.iconst 1, 1) := by decide +kernel
theorem dL_law_538 : decode cL_law 538 = .ok (.iadd, 1) := by decide +kernel
theorem dL_law_539 : decode cL_law 539 = .ok (.iaload, 1) := by decide +kernel
theorem dL_law_540 : decode cL_law 540 = .ok (.invokevirtual 65, 3) := by decide +kernel
theorem dL_law_543 : decode cL_law 543 = .ok (.if_icmp .eq 889, 3) := by decide +kernel
theorem dL_law_546 : decode cL_law 546 = .ok (.iconst 0, 1) := by decide +kernel
theorem dL_law_547 : decode cL_law 547 = .ok (.ireturn, 1) := by decide +kernel
theorem dL_law_548 : decode cL_law 548 = .ok (.aload_n 1, 1) := by decide +kernel
theorem dL_law_549 : decode cL_law 549 = .ok (.invokevirtual 66, 3) := by decide +kernel
theorem dL_law_552 : decode cL_law 552 = .ok (.aload_n 2, 1) := by decide +kernel
theorem dL_law_553 : decode cL_law 553 = .ok (.invokevirtual 69, 3) := by decide +kernel
theorem dL_law_556 : decode cL_law 556 = .ok (.if_icmp .eq 876, 3) := by decide +kernel
theorem dL_law_559 : decode cL_law 559 = .ok (.iconst 0, 1) := by decide +kernel
theorem dL_law_560 : decode cL_law 560 = .ok (.ireturn, 1) := by decide +kernel
theorem dL_law_561 : decode cL_law 561 = .ok (.aload_n 1, 1) := by decide +kernel
theorem dL_law_562 : decode cL_law 562 = .ok (.aload_n 0, 1) := by decide +kernel
theorem dL_law_563 : decode cL_law 563 = .ok (.iload_n 3, 1) := by decide +kernel
theorem dL_law_564 : decode cL_law 564 = .ok (.iconst 1, 1) := by decide +kernel
theorem dL_law_565 : decode cL_law 565 = .ok (.iadd, 1) := by decide +kernel
theorem dL_law_566 : decode cL_law 566 = .ok (.iaload, 1) := by decide +kernel
theorem dL_law_567 : decode cL_law 567 = .ok (.invokevirtual 70, 3) := by decide +kernel
theorem dL_law_570 : decode cL_law 570 = .ok (.aload_n 2, 1) := by decide +kernel
theorem dL_law_571 : decode cL_law 571 = .ok (.aload_n 0, 1) := by decide +kernel
theorem dL_law_572 : decode cL_law 572 = .ok (.iload_n 3, 1) := by decide +kernel
theorem dL_law_573 : decode cL_law 573 = .ok (.iconst 1, 1) := by decide +kernel
theorem dL_law_574 : decode cL_law 574 = .ok (.iadd, 1) := by decide +kernel
theorem dL_law_575 : decode cL_law 575 = .ok (.iaload, 1) := by decide +kernel
theorem dL_law_576 : decode cL_law 576 = .ok (.invokevirtual 73, 3) := by decide +kernel
theorem dL_law_579 : decode cL_law 579 = .ok (.if_icmp .eq 853, 3) := by decide +kernel
theorem dL_law_582 : decode cL_law 582 = .ok (.iconst 0, 1) := by decide +kernel
theorem dL_law_583 : decode cL_law 583 = .ok (.ireturn, 1) := by decide +kernel
theorem dL_law_584 : decode cL_law 584 = .ok (.aload_n 1, 1) := by decide +kernel
theorem dL_law_585 : decode cL_law 585 = .ok (.aload_n 0, 1) := by decide +kernel
theorem dL_law_586 : decode cL_law 586 = .ok (.iload_n 3, 1) := by decide +kernel
theorem dL_law_587 : decode cL_law 587 = .ok (.iconst 1, 1) := by decide +kernel
theorem dL_law_588 : decode cL_law 588 = .ok (.iadd, 1) := by decide +kernel
theorem dL_law_589 : decode cL_law 589 = .ok (.iaload, 1) := by decide +kernel
theorem dL_law_590 : decode cL_law 590 = .ok (.aload_n 0, 1) := by decide +kernel
theorem dL_law_591 : decode cL_law 591 = .ok (.iload_n 3, 1) := by decide +kernel
theorem dL_law_592 : decode cL_law 592 = .ok (.iconst 2, 1) := by decide +kernel
theorem dL_law_593 : decode cL_law 593 = .ok (.iadd, 1) := by decide +kernel
theorem dL_law_594 : decode cL_law 594 = .ok (.iaload, 1) := by decide +kernel
theorem dL_law_595 : decode cL_law 595 = .ok (.invokevirtual 74, 3) := by decide +kernel
theorem dL_law_598 : decode cL_law 598 = .ok (.aload_n 2, 1) := by decide +kernel
theorem dL_law_599 : decode cL_law 599 = .ok (.aload_n 0, 1) := by decide +kernel
theorem dL_law_600 : decode cL_law 600 = .ok (.iload_n 3, 1) := by decide +kernel
theorem dL_law_601 : decode cL_law 601 = .ok (.iconst 1, 1) := by decide +kernel
theorem dL_law_602 : decode cL_law 602 = .ok (.iadd, 1) := by decide +kernel
theorem dL_law_603 : decode cL_law 603 = .ok (.iaload, 1) := by decide +kernel
theorem dL_law_604 : decode cL_law 604 = .ok (.aload_n 0, 1) := by decide +kernel
theorem dL_law_605 : decode cL_law 605 = .ok (.iload_n 3, 1) := by decide +kernel
theorem dL_law_606 : decode cL_law 606 = .ok (.iconst 2, 1) := by decide +kernel
theorem dL_law_607 : decode cL_law 607 = .ok (.iadd, 1) := by decide +kernel
theorem dL_law_608 : decode cL_law 608 = .ok (.iaload, 1) := by decide +kernel
theorem dL_law_609 : decode cL_law 609 = .ok (.invokevirtual 77, 3) := by decide +kernel
theorem dL_law_612 : decode cL_law 612 = .ok (.if_icmp .eq 820, 3) := by decide +kernel
theorem dL_law_615 : decode cL_law 615 = .ok (.iconst 0, 1) := by decide +kernel
theorem dL_law_616 : decode cL_law 616 = .ok (.ireturn, 1) := by decide +kernel
theorem dL_law_617 : decode cL_law 617 = .ok (.aload_n 1, 1) := by decide +kernel
theorem dL_law_618 : decode cL_law 618 = .ok (.aload_n 0, 1) := by decide +kernel
theorem dL_law_619 : decode cL_law 619 = .ok (.iload_n 3, 1) := by decide +kernel
theorem dL_law_620 : decode cL_law 620 = .ok (.iconst 1, 1) := by decide +kernel
theorem dL_law_621 : decode cL_law 621 = .ok (.iadd, 1) := by decide +kernel
theorem dL_law_622 : decode cL_law 622 = .ok (.iaload, 1) := by decide +kernel
theorem dL_law_623 : decode cL_law 623 = .ok (.aload_n 0, 1) := by decide +kernel
theorem dL_law_624 : decode cL_law 624 = .ok (.iload_n 3, 1) := by decide +kernel
theorem dL_law_625 : decode cL_law 625 = .ok (.iconst 2, 1) := by decide +kernel
theorem dL_law_626 : decode cL_law 626 = .ok (.iadd, 1) := by decide +kernel
theorem dL_law_627 : decode cL_law 627 = .ok (.iaload, 1) := by decide +kernel
theorem dL_law_628 : decode cL_law 628 = .ok (.aload_n 0, 1) := by decide +kernel
theorem dL_law_629 : decode cL_law 629 = .ok (.iload_n 3, 1) := by decide +kernel
theorem dL_law_630 : decode cL_law 630 = .ok (.iconst 3, 1) := by decide +kernel
theorem dL_law_631 : decode cL_law 631 = .ok (.iadd, 1) := by decide +kernel
theorem dL_law_632 : decode cL_law 632 = .ok (.iaload, 1) := by decide +kernel
theorem dL_law_633 : decode cL_law 633 = .ok (.invokevirtual 78, 3) := by decide +kernel
theorem dL_law_636 : decode cL_law 636 = .ok (.aload_n 2, 1) := by decide +kernel
theorem dL_law_637 : decode cL_law 637 = .ok (.aload_n 0, 1) := by decide +kernel
theorem dL_law_638 : decode cL_law 638 = .ok (.iload_n 3, 1) := by decide +kernel
theorem dL_law_639 : decode cL_law 639 = .ok (.iconst 1, 1) := by decide +kernel
theorem dL_law_640 : decode cL_law 640 = .ok (.iadd, 1) := by decide +kernel
theorem dL_law_641 : decode cL_law 641 = .ok (.iaload, 1) := by decide +kernel
theorem dL_law_642 : decode cL_law 642 = .ok (.aload_n 0, 1) := by decide +kernel
theorem dL_law_643 : decode cL_law 643 = .ok (.iload_n 3, 1) := by decide +kernel
theorem dL_law_644 : decode cL_law 644 = .ok (.iconst 2, 1) := by decide +kernel
theorem dL_law_645 : decode cL_law 645 = .ok (.iadd, 1) := by decide +kernel
theorem dL_law_646 : decode cL_law 646 = .ok (.iaload, 1) := by decide +kernel
theorem dL_law_647 : decode cL_law 647 = .ok (.aload_n 0, 1) := by decide +kernel
theorem dL_law_648 : decode cL_law 648 = .ok (.iload_n 3, 1) := by decide +kernel
theorem dL_law_649 : decode cL_law 649 = .ok (.iconst 3, 1) := by decide +kernel
theorem dL_law_650 : decode cL_law 650 = .ok (.iadd, 1) := by decide +kernel
theorem dL_law_651 : decode cL_law 651 = .ok (.iaload, 1) := by decide +kernel
theorem dL_law_652 : decode cL_law 652 = .ok (.invokevirtual 81, 3) := by decide +kernel
theorem dL_law_655 : decode cL_law 655 = .ok (.if_icmp .eq 777, 3) := by decide +kernel
theorem dL_law_658 : decode cL_law 658 = .ok (.iconst 0, 1) := by decide +kernel
theorem dL_law_659 : decode cL_law 659 = .ok (.ireturn, 1) := by decide +kernel
theorem dL_law_660 : decode cL_law 660 = .ok (.aload_n 1, 1) := by decide +kernel
theorem dL_law_661 : decode cL_law 661 = .ok (.aload_n 0, 1) := by decide +kernel
theorem dL_law_662 : decode cL_law 662 = .ok (.iload_n 3, 1) := by decide +kernel
theorem dL_law_663 : decode cL_law 663 = .ok (.iconst 1, 1) := by decide +kernel
theorem dL_law_664 : decode cL_law 664 = .ok (.iadd, 1) := by decide +kernel
theorem dL_law_665 : decode cL_law 665 = .ok (.iaload, 1) := by decide +kernel
theorem dL_law_666 : decode cL_law 666 = .ok (.aload_n 0, 1) := by decide +kernel
theorem dL_law_667 : decode cL_law 667 = .ok (.iload_n 3, 1) := by decide +kernel
theorem dL_law_668 : decode cL_law 668 = .ok (.iconst 2, 1) := by decide +kernel
theorem dL_law_669 : decode cL_law 669 = .ok (.iadd, 1) := by decide +kernel
theorem dL_law_670 : decode cL_law 670 = .ok (.iaload, 1) := by decide +kernel
theorem dL_law_671 : decode cL_law 671 = .ok (.aload_n 0, 1) := by decide +kernel
theorem dL_law_672 : decode cL_law 672 = .ok (.iload_n 3, 1) := by decide +kernel
theorem dL_law_673 : decode cL_law 673 = .ok (.iconst 3, 1) := by decide +kernel
theorem dL_law_674 : decode cL_law 674 = .ok (.iadd, 1) := by decide +kernel
theorem dL_law_675 : decode cL_law 675 = .ok (.iaload, 1) := by decide +kernel
theorem dL_law_676 : decode cL_law 676 = .ok (.invokevirtual 82, 3) := by decide +kernel
theorem dL_law_679 : decode cL_law 679 = .ok (.aload_n 2, 1) := by decide +kernel
theorem dL_law_680 : decode cL_law 680 = .ok (.aload_n 0, 1) := by decide +kernel
theorem dL_law_681 : decode cL_law 681 = .ok (.iload_n 3, 1) := by decide +kernel
theorem dL_law_682 : decode cL_law 682 = .ok (.iconst 1, 1) := by decide +kernel
theorem dL_law_683 : decode cL_law 683 = .ok (.iadd, 1) := by decide +kernel
theorem dL_law_684 : decode cL_law 684 = .ok (.iaload, 1) := by decide +kernel
theorem dL_law_685 : decode cL_law 685 = .ok (.aload_n 0, 1) := by decide +kernel
theorem dL_law_686 : decode cL_law 686 = .ok (.iload_n 3, 1) := by decide +kernel
theorem dL_law_687 : decode cL_law 687 = .ok (.iconst 2, 1) := by decide +kernel
theorem dL_law_688 : decode cL_law 688 = .ok (.iadd, 1) := by decide +kernel
theorem dL_law_689 : decode cL_law 689 = .ok (.iaload, 1) := by decide +kernel
theorem dL_law_690 : decode cL_law 690 = .ok (.aload_n 0, 1) := by decide +kernel
theorem dL_law_691 : decode cL_law 691 = .ok (.iload_n 3, 1) := by decide +kernel
theorem dL_law_692 : decode cL_law 692 = .ok (.iconst 3, 1) := by decide +kernel
theorem dL_law_693 : decode cL_law 693 = .ok (.iadd, 1) := by decide +kernel
theorem dL_law_694 : decode cL_law 694 = .ok (.iaload, 1) := by decide +kernel
theorem dL_law_695 : decode cL_law 695 = .ok (.invokevirtual 85, 3) := by decide +kernel
theorem dL_law_698 : decode cL_law 698 = .ok (.if_icmp .eq 734, 3) := by decide +kernel
theorem dL_law_701 : decode cL_law 701 = .ok (.iconst 0, 1) := by decide +kernel
theorem dL_law_702 : decode cL_law 702 = .ok (.ireturn, 1) := by decide +kernel
theorem dL_law_703 : decode cL_law 703 = .ok (.aload_n 1, 1) := by decide +kernel
theorem dL_law_704 : decode cL_law 704 = .ok (.aload_n 0, 1) := by decide +kernel
theorem dL_law_705 : decode cL_law 705 = .ok (.iload_n 3, 1) := by decide +kernel
theorem dL_law_706 : decode cL_law 706 = .ok (.iconst 1, 1) := by decide +kernel
theorem dL_law_707 : decode cL_law 707 = .ok (.iadd, 1) := by decide +kernel
theorem dL_law_708 : decode cL_law 708 = .ok (.iaload, 1) := by decide +kernel
theorem dL_law_709 : decode cL_law 709 = .ok (.aload_n 0, 1) := by decide +kernel
theorem dL_law_710 : decode cL_law 710 = .ok (.iload_n 3, 1) := by decide +kernel
theorem dL_law_711 : decode cL_law 711 = .ok (.iconst 2, 1) := by decide +kernel
theorem dL_law_712 : decode cL_law 712 = .ok (.iadd, 1) := by decide +kernel
theorem dL_law_713 : decode cL_law 713 = .ok (.iaload, 1) := by decide +kernel
theorem dL_law_714 : decode cL_law 714 = .ok (.aload_n 0, 1) := by decide +kernel
theorem dL_law_715 : decode cL_law 715 = .ok (.iload_n 3, 1) := by decide +kernel
theorem dL_law_716 : decode cL_law 716 = .ok (.iconst 3, 1) := by decide +kernel
theorem dL_law_717 : decode cL_law 717 = .ok (.iadd, 1) := by decide +kernel
theorem dL_law_718 : decode cL_law 718 = .ok (.iaload, 1) := by decide +kernel
theorem dL_law_719 : decode cL_law 719 = .ok (.invokevirtual 86, 3) := by decide +kernel
theorem dL_law_722 : decode cL_law 722 = .ok (.aload_n 2, 1) := by decide +kernel
theorem dL_law_723 : decode cL_law 723 = .ok (.aload_n 0, 1) := by decide +kernel
theorem dL_law_724 : decode cL_law 724 = .ok (.iload_n 3, 1) := by decide +kernel
theorem dL_law_725 : decode cL_law 725 = .ok (.iconst 1, 1) := by decide +kernel
theorem dL_law_726 : decode cL_law 726 = .ok (.iadd, 1) := by decide +kernel
theorem dL_law_727 : decode cL_law 727 = .ok (.iaload, 1) := by decide +kernel
theorem dL_law_728 : decode cL_law 728 = .ok (.aload_n 0, 1) := by decide +kernel
theorem dL_law_729 : decode cL_law 729 = .ok (.iload_n 3, 1) := by decide +kernel
theorem dL_law_730 : decode cL_law 730 = .ok (.iconst 2, 1) := by decide +kernel
theorem dL_law_731 : decode cL_law 731 = .ok (.iadd, 1) := by decide +kernel
theorem dL_law_732 : decode cL_law 732 = .ok (.iaload, 1) := by decide +kernel
theorem dL_law_733 : decode cL_law 733 = .ok (.aload_n 0, 1) := by decide +kernel
theorem dL_law_734 : decode cL_law 734 = .ok (.iload_n 3, 1) := by decide +kernel
theorem dL_law_735 : decode cL_law 735 = .ok (.iconst 3, 1) := by decide +kernel
theorem dL_law_736 : decode cL_law 736 = .ok (.iadd, 1) := by decide +kernel
theorem dL_law_737 : decode cL_law 737 = .ok (.iaload, 1) := by decide +kernel
theorem dL_law_738 : decode cL_law 738 = .ok (.invokevirtual 89, 3) := by decide +kernel
theorem dL_law_741 : decode cL_law 741 = .ok (.if_icmp .eq 691, 3) := by decide +kernel
theorem dL_law_744 : decode cL_law 744 = .ok (.iconst 0, 1) := by decide +kernel
theorem dL_law_745 : decode cL_law 745 = .ok (.ireturn, 1) := by decide +kernel
theorem dL_law_746 : decode cL_law 746 = .ok (.aload_n 1, 1) := by decide +kernel
theorem dL_law_747 : decode cL_law 747 = .ok (.aload_n 0, 1) := by decide +kernel
theorem dL_law_748 : decode cL_law 748 = .ok (.iload_n 3, 1) := by decide +kernel
theorem dL_law_749 : decode cL_law 749 = .ok (.iconst 1, 1) := by decide +kernel
theorem dL_law_750 : decode cL_law 750 = .ok (.iadd, 1) := by decide +kernel
theorem dL_law_751 : decode cL_law 751 = .ok (.iaload, 1) := by decide +kernel
theorem dL_law_752 : decode cL_law 752 = .ok (.aload_n 0, 1) := by decide +kernel
theorem dL_law_753 : decode cL_law 753 = .ok (.iload_n 3, 1) := by decide +kernel
theorem dL_law_754 : decode cL_law 754 = .ok (.iconst 2, 1) := by decide +kernel
theorem dL_law_755 : decode cL_law 755 = .ok (.iadd, 1) := by decide +kernel
theorem dL_law_756 : decode cL_law 756 = .ok (.iaload, 1) := by decide +kernel
theorem dL_law_757 : decode cL_law 757 = .ok (.invokevirtual 90, 3) := by decide +kernel
theorem dL_law_760 : decode cL_law 760 = .ok (.aload_n 2, 1) := by decide +kernel
theorem dL_law_761 : decode cL_law 761 = .ok (.aload_n 0, 1) := by decide +kernel
theorem dL_law_762 : decode cL_law 762 = .ok (.iload_n 3, 1) := by decide +kernel
theorem dL_law_763 : decode cL_law 763 = .ok (.iconst 1, 1) := by decide +kernel
theorem dL_law_764 : decode cL_law 764 = .ok (.iadd, 1) := by decide +kernel
theorem dL_law_765 : decode cL_law 765 = .ok (.iaload, 1) := by decide +kernel
theorem dL_law_766 : decode cL_law 766 = .ok (.aload_n 0, 1) := by decide +kernel
theorem dL_law_767 : decode cL_law 767 = .ok (.iload_n 3, 1) := by decide +kernel
theorem dL_law_768 : decode cL_law 768 = .ok (.iconst 2, 1) := by decide +kernel
theorem dL_law_769 : decode cL_law 769 = .ok (.iadd, 1) := by decide +kernel
theorem dL_law_770 : decode cL_law 770 = .ok (.iaload, 1) := by decide +kernel
theorem dL_law_771 : decode cL_law 771 = .ok (.invokevirtual 93, 3) := by decide +kernel
theorem dL_law_774 : decode cL_law 774 = .ok (.if_icmp .eq 658, 3) := by decide +kernel
theorem dL_law_777 : decode cL_law 777 = .ok (.iconst 0, 1) := by decide +kernel
theorem dL_law_778 : decode cL_law 778 = .ok (.ireturn, 1) := by decide +kernel
theorem dL_law_779 : decode cL_law 779 = .ok (.aload_n 1, 1) := by decide +kernel
theorem dL_law_780 : decode cL_law 780 = .ok (.aload_n 0, 1) := by decide +kernel
theorem dL_law_781 : decode cL_law 781 = .ok (.iload_n 3, 1) := by decide +kernel
theorem dL_law_782 : decode cL_law 782 = .ok (.iconst 1, 1) := by decide +kernel
theorem dL_law_783 : decode cL_law 783 = .ok (.iadd, 1) := by decide +kernel
theorem dL_law_784 : decode cL_law 784 = .ok (.iaload, 1) := by decide +kernel
theorem dL_law_785 : decode cL_law 785 = .ok (.aload_n 0, 1) := by decide +kernel
theorem dL_law_786 : decode cL_law 786 = .ok (.iload_n 3, 1) := by decide +kernel
theorem dL_law_787 : decode cL_law 787 = .ok (.iconst 2, 1) := by decide +kernel
theorem dL_law_788 : decode cL_law 788 = .ok (.iadd, 1) := by decide +kernel
theorem dL_law_789 : decode cL_law 789 = .ok (.iaload, 1) := by decide +kernel
theorem dL_law_790 : decode cL_law 790 = .ok (.aload_n 0, 1) := by decide +kernel
theorem dL_law_791 : decode cL_law 791 = .ok (.iload_n 3, 1) := by decide +kernel
theorem dL_law_792 : decode cL_law 792 = .ok (.iconst 3, 1) := by decide +kernel
theorem dL_law_793 : decode cL_law 793 = .ok (.iadd, 1) := by decide +kernel
theorem dL_law_794 : decode cL_law 794 = .ok (.iaload, 1) := by decide +kernel
theorem dL_law_795 : decode cL_law 795 = .ok (.invokevirtual 94, 3) := by decide +kernel
theorem dL_law_798 : decode cL_law 798 = .ok (.aload_n 2, 1) := by decide +kernel
theorem dL_law_799 : decode cL_law 799 = .ok (.aload_n 0, 1) := by decide +kernel
theorem dL_law_800 : decode cL_law 800 = .ok (.iload_n 3, 1) := by decide +kernel
theorem dL_law_801 : decode cL_law 801 = .ok (.iconst 1, 1) := by decide +kernel
theorem dL_law_802 : decode cL_law 802 = .ok (.iadd, 1) := by decide +kernel
theorem dL_law_803 : decode cL_law 803 = .ok (.iaload, 1) := by decide +kernel
theorem dL_law_804 : decode cL_law 804 = .ok (.aload_n 0, 1) := by decide +kernel
theorem dL_law_805 : decode cL_law 805 = .ok (.iload_n 3, 1) := by decide +kernel
theorem dL_law_806 : decode cL_law 806 = .ok (.iconst 2, 1) := by decide +kernel
theorem dL_law_807 : decode cL_law 807 = .ok (.iadd, 1) := by decide +kernel
theorem dL_law_808 : decode cL_law 808 = .ok (.iaload, 1) := by decide +kernel
theorem dL_law_809 : decode cL_law 809 = .ok (.aload_n 0, 1) := by decide +kernel
theorem dL_law_810 : decode cL_law 810 = .ok (.iload_n 3, 1) := by decide +kernel
theorem dL_law_811 : decode cL_law 811 = .ok (.iconst 3, 1) := by decide +kernel
theorem dL_law_812 : decode cL_law 812 = .ok (.iadd, 1) := by decide +kernel
theorem dL_law_813 : decode cL_law 813 = .ok (.iaload, 1) := by decide +kernel
theorem dL_law_814 : decode cL_law 814 = .ok (.invokevirtual 97, 3) := by decide +kernel
theorem dL_law_817 : decode cL_law 817 = .ok (.if_icmp .eq 615, 3) := by decide +kernel
theorem dL_law_820 : decode cL_law 820 = .ok (.iconst 0, 1) := by decide +kernel
theorem dL_law_821 : decode cL_law 821 = .ok (.ireturn, 1) := by decide +kernel
theorem dL_law_822 : decode cL_law 822 = .ok (.aload_n 1, 1) := by decide +kernel
theorem dL_law_823 : decode cL_law 823 = .ok (.aload_n 0, 1) := by decide +kernel
theorem dL_law_824 : decode cL_law 824 = .ok (.iload_n 3, 1) := by decide +kernel
theorem dL_law_825 : decode cL_law 825 = .ok (.iconst 1, 1) := by decide +kernel
theorem dL_law_826 : decode cL_law 826 = .ok (.iadd, 1) := by decide +kernel
theorem dL_law_827 : decode cL_law 827 = .ok (.iaload, 1) := by decide +kernel
theorem dL_law_828 : decode cL_law 828 = .ok (.aload_n 0, 1) := by decide +kernel
theorem dL_law_829 : decode cL_law 829 = .ok (.iload_n 3, 1) := by decide +kernel
theorem dL_law_830 : decode cL_law 830 = .ok (.iconst 2, 1) := by decide +kernel
theorem dL_law_831 : decode cL_law 831 = .ok (.iadd, 1) := by decide +kernel
theorem dL_law_832 : decode cL_law 832 = .ok (.iaload, 1) := by decide +kernel
theorem dL_law_833 : decode cL_law 833 = .ok (.aload_n 0, 1) := by decide +kernel
theorem dL_law_834 : decode cL_law 834 = .ok (.iload_n 3, 1) := by decide +kernel
theorem dL_law_835 : decode cL_law 835 = .ok (.iconst 3, 1) := by decide +kernel
theorem dL_law_836 : decode cL_law 836 = .ok (.iadd, 1) := by decide +kernel
theorem dL_law_837 : decode cL_law 837 = .ok (.iaload, 1) := by decide +kernel
theorem dL_law_838 : decode cL_law 838 = .ok (.invokevirtual 98, 3) := by decide +kernel
theorem dL_law_841 : decode cL_law 841 = .ok (.aload_n 2, 1) := by decide +kernel
theorem dL_law_842 : decode cL_law 842 = .ok (.aload_n 0, 1) := by decide +kernel
theorem dL_law_843 : decode cL_law 843 = .ok (.iload_n 3, 1) := by decide +kernel
theorem dL_law_844 : decode cL_law 844 = .ok (.iconst 1, 1) := by decide +kernel
theorem dL_law_845 : decode cL_law 845 = .ok (.iadd, 1) := by decide +kernel
theorem dL_law_846 : decode cL_law 846 = .ok (.iaload, 1) := by decide +kernel
theorem dL_law_847 : decode cL_law 847 = .ok (.aload_n 0, 1) := by decide +kernel
theorem dL_law_848 : decode cL_law 848 = .ok (.iload_n 3, 1) := by decide +kernel
theorem dL_law_849 : decode cL_law 849 = .ok (.iconst 2, 1) := by decide +kernel
theorem dL_law_850 : decode cL_law 850 = .ok (.iadd, 1) := by decide +kernel
theorem dL_law_851 : decode cL_law 851 = .ok (.iaload, 1) := by decide +kernel
theorem dL_law_852 : decode cL_law 852 = .ok (.aload_n 0, 1) := by decide +kernel
theorem dL_law_853 : decode cL_law 853 = .ok (.iload_n 3, 1) := by decide +kernel
theorem dL_law_854 : decode cL_law 854 = .ok (.iconst 3, 1) := by decide +kernel
theorem dL_law_855 : decode cL_law 855 = .ok (.iadd, 1) := by decide +kernel
theorem dL_law_856 : decode cL_law 856 = .ok (.iaload, 1) := by decide +kernel
theorem dL_law_857 : decode cL_law 857 = .ok (.invokevirtual 101, 3) := by decide +kernel
theorem dL_law_860 : decode cL_law 860 = .ok (.if_icmp .eq 572, 3) := by decide +kernel
theorem dL_law_863 : decode cL_law 863 = .ok (.iconst 0, 1) := by decide +kernel
theorem dL_law_864 : decode cL_law 864 = .ok (.ireturn, 1) := by decide +kernel
theorem dL_law_865 : decode cL_law 865 = .ok (.aload_n 1, 1) := by decide +kernel
theorem dL_law_866 : decode cL_law 866 = .ok (.aload_n 0, 1) := by decide +kernel
theorem dL_law_867 : decode cL_law 867 = .ok (.iload_n 3, 1) := by decide +kernel
theorem dL_law_868 : decode cL_law 868 = .ok (.iconst 1, 1) := by decide +kernel
theorem dL_law_869 : decode cL_law 869 = .ok (.iadd, 1) := by decide +kernel
theorem dL_law_870 : decode cL_law 870 = .ok (.iaload, 1) := by decide +kernel
theorem dL_law_871 : decode cL_law 871 = .ok (.aload_n 0, 1) := by decide +kernel
theorem dL_law_872 : decode cL_law 872 = .ok (.iload_n 3, 1) := by decide +kernel
theorem dL_law_873 : decode cL_law 873 = .ok (.iconst 2, 1) := by decide +kernel
theorem dL_law_874 : decode cL_law 874 = .ok (.iadd, 1) := by decide +kernel
theorem dL_law_875 : decode cL_law 875 = .ok (.iaload, 1) := by decide +kernel
theorem dL_law_876 : decode cL_law 876 = .ok (.aload_n 0, 1) := by decide +kernel
theorem dL_law_877 : decode cL_law 877 = .ok (.iload_n 3, 1) := by decide +kernel
theorem dL_law_878 : decode cL_law 878 = .ok (.iconst 3, 1) := by decide +kernel
theorem dL_law_879 : decode cL_law 879 = .ok (.iadd, 1) := by decide +kernel
theorem dL_law_880 : decode cL_law 880 = .ok (.iaload, 1) := by decide +kernel
theorem dL_law_881 : decode cL_law 881 = .ok (.invokevirtual 102, 3) := by decide +kernel
theorem dL_law_884 : decode cL_law 884 = .ok (.aload_n 2, 1) := by decide +kernel
theorem dL_law_885 : decode cL_law 885 = .ok (.aload_n 0, 1) := by decide +kernel
theorem dL_law_886 : decode cL_law 886 = .ok (.iload_n 3, 1) := by decide +kernel
theorem dL_law_887 : decode cL_law 887 = .ok (.iconst 1, 1) := by decide +kernel
theorem dL_law_888 : decode cL_law 888 = .ok (.iadd, 1) := by decide +kernel
theorem dL_law_889 : decode cL_law 889 = .ok (.iaload, 1) := by decide +kernel
theorem dL_law_890 : decode cL_law 890 = .ok (.aload_n 0, 1) := by decide +kernel
theorem dL_law_891 : decode cL_law 891 = .ok (.iload_n 3, 1) := by decide +kernel
theorem dL_law_892 : decode cL_law 892 = .ok (.iconst 2, 1) := by decide +kernel
theorem dL_law_893 : decode cL_law 893 = .ok (.iadd, 1) := by decide +kernel
theorem dL_law_894 : decode cL_law 894 = .ok (.iaload, 1) := by decide +kernel
theorem dL_law_895 : decode cL_law 895 = .ok (.aload_n 0, 1) := by decide +kernel
theorem dL_law_896 : decode cL_law 896 = .ok (.iload_n 3, 1) := by decide +kernel
theorem dL_law_897 : decode cL_law 897 = .ok (.iconst 3, 1) := by decide +kernel
theorem dL_law_898 : decode cL_law 898 = .ok (.iadd, 1) := by decide +kernel
theorem dL_law_899 : decode cL_law 899 = .ok (.iaload, 1) := by decide +kernel
theorem dL_law_900 : decode cL_law 900 = .ok (.invokevirtual 105, 3) := by decide +kernel
theorem dL_law_903 : decode cL_law 903 = .ok (.if_icmp .eq 529, 3) := by decide +kernel
theorem dL_law_906 : decode cL_law 906 = .ok (.iconst 0, 1) := by decide +kernel
theorem dL_law_907 : decode cL_law 907 = .ok (.ireturn, 1) := by decide +kernel
theorem dL_law_908 : decode cL_law 908 = .ok (.aload_n 1, 1) := by decide +kernel
theorem dL_law_909 : decode cL_law 909 = .ok (.aload_n 0, 1) := by decide +kernel
theorem dL_law_910 : decode cL_law 910 = .ok (.iload_n 3, 1) := by decide +kernel
theorem dL_law_911 : decode cL_law 911 = .ok (.iconst 1, 1) := by decide +kernel
theorem dL_law_912 : decode cL_law 912 = .ok (.iadd, 1) := by decide +kernel
theorem dL_law_913 : decode cL_law 913 = .ok (.iaload, 1) := by decide +kernel
theorem dL_law_914 : decode cL_law 914 = .ok (.aload_n 0, 1) := by decide +kernel
theorem dL_law_915 : decode cL_law 915 = .ok (.iload_n 3, 1) := by decide +kernel
theorem dL_law_916 : decode cL_law 916 = .ok (.iconst 2, 1) := by decide +kernel
theorem dL_law_917 : decode cL_law 917 = .ok (.iadd, 1) := by decide +kernel
theorem dL_law_918 : decode cL_law 918 = .ok (.iaload, 1) := by decide +kernel
theorem dL_law_919 : decode cL_law 919 = .ok (.invokevirtual 106, 3) := by decide +kernel
theorem dL_law_922 : decode cL_law 922 = .ok (.aload_n 2, 1) := by decide +kernel
theorem dL_law_923 : decode cL_law 923 = .ok (.aload_n 0, 1) := by decide +kernel
theorem dL_law_924 : decode cL_law 924 = .ok (.iload_n 3, 1) := by decide +kernel
theorem dL_law_925 : decode cL_law 925 = .ok (.iconst 1, 1) := by decide +kernel
theorem dL_law_926 : decode cL_law 926 = .ok (.iadd, 1) := by decide +kernel
theorem dL_law_927 : decode cL_law 927 = .ok (.iaload, 1) := by decide +kernel
theorem dL_law_928 : decode cL_law 928 = .ok (.aload_n 0, 1) := by decide +kernel
theorem dL_law_929 : decode cL_law 929 = .ok (.iload_n 3, 1) := by decide +kernel
theorem dL_law_930 : decode cL_law 930 = .ok (.iconst 2, 1) := by decide +kernel
theorem dL_law_931 : decode cL_law 931 = .ok (.iadd, 1) := by decide +kernel
theorem dL_law_932 : decode cL_law 932 = .ok (.iaload, 1) := by decide +kernel
theorem dL_law_933 : decode cL_law 933 = .ok (.invokevirtual 109, 3) := by decide +kernel
theorem dL_law_936 : decode cL_law 936 = .ok (.if_icmp .eq 496, 3) := by decide +kernel
theorem dL_law_939 : decode cL_law 939 = .ok (.iconst 0, 1) := by decide +kernel
theorem dL_law_940 : decode cL_law 940 = .ok (.ireturn, 1) := by decide +kernel
theorem dL_law_941 : decode cL_law 941 = .ok (.aload_n 1, 1) := by decide +kernel
theorem dL_law_942 : decode cL_law 942 = .ok (.aload_n 0, 1) := by decide +kernel
theorem dL_law_943 : decode cL_law 943 = .ok (.iload_n 3, 1) := by decide +kernel
theorem dL_law_944 : decode cL_law 944 = .ok (.iconst 1, 1) := by decide +kernel
theorem dL_law_945 : decode cL_law 945 = .ok (.iadd, 1) := by decide +kernel
theorem dL_law_946 : decode cL_law 946 = .ok (.iaload, 1) := by decide +kernel
theorem dL_law_947 : decode cL_law 947 = .ok (.aload_n 0, 1) := by decide +kernel
theorem dL_law_948 : decode cL_law 948 = .ok (.iload_n 3, 1) := by decide +kernel
theorem dL_law_949 : decode cL_law 949 = .ok (.iconst 2, 1) := by decide +kernel
theorem dL_law_950 : decode cL_law 950 = .ok (.iadd, 1) := by decide +kernel
theorem dL_law_951 : decode cL_law 951 = .ok (.iaload, 1) := by decide +kernel
theorem dL_law_952 : decode cL_law 952 = .ok (.invokevirtual 110, 3) := by decide +kernel
theorem dL_law_955 : decode cL_law 955 = .ok (.aload_n 2, 1) := by decide +kernel
theorem dL_law_956 : decode cL_law 956 = .ok (.aload_n 0, 1) := by decide +kernel
theorem dL_law_957 : decode cL_law 957 = .ok (.iload_n 3, 1) := by decide +kernel
theorem dL_law_958 : decode cL_law 958 = .ok (.iconst 1, 1) := by decide +kernel
theorem dL_law_959 : decode cL_law 959 = .ok (.iadd, 1) := by decide +kernel
theorem dL_law_960 : decode cL_law 960 = .ok (.iaload, 1) := by decide +kernel
theorem dL_law_961 : decode cL_law 961 = .ok (.aload_n 0, 1) := by decide +kernel
theorem dL_law_962 : decode cL_law 962 = .ok (.iload_n 3, 1) := by decide +kernel
theorem dL_law_963 : decode cL_law 963 = .ok (.iconst 2, 1) := by decide +kernel
theorem dL_law_964 : decode cL_law 964 = .ok (.iadd, 1) := by decide +kernel
theorem dL_law_965 : decode cL_law 965 = .ok (.iaload, 1) := by decide +kernel
theorem dL_law_966 : decode cL_law 966 = .ok (.invokevirtual 113, 3) := by decide +kernel
theorem dL_law_969 : decode cL_law 969 = .ok (.if_icmp .eq 463, 3) := by decide +kernel
theorem dL_law_972 : decode cL_law 972 = .ok (.iconst 0, 1) := by decide +kernel
theorem dL_law_973 : decode cL_law 973 = .ok (.ireturn, 1) := by decide +kernel
theorem dL_law_974 : decode cL_law 974 = .ok (.aload_n 1, 1) := by decide +kernel
theorem dL_law_975 : decode cL_law 975 = .ok (.invokevirtual 114, 3) := by decide +kernel
theorem dL_law_978 : decode cL_law 978 = .ok (.aload_n 2, 1) := by decide +kernel
theorem dL_law_979 : decode cL_law 979 = .ok (.invokevirtual 117, 3) := by decide +kernel
theorem dL_law_982 : decode cL_law 982 = .ok (.if_icmp .eq 450, 3) := by decide +kernel
theorem dL_law_985 : decode cL_law 985 = .ok (.iconst 0, 1) := by decide +kernel
theorem dL_law_986 : decode cL_law 986 = .ok (.ireturn, 1) := by decide +kernel
theorem dL_law_987 : decode cL_law 987 = .ok (.aload_n 1, 1) := by decide +kernel
theorem dL_law_988 : decode cL_law 988 = .ok (.aload_n 0, 1) := by decide +kernel
theorem dL_law_989 : decode cL_law 989 = .ok (.iload_n 3, 1) := by decide +kernel
theorem dL_law_990 : decode cL_law 990 = .ok (.iconst 1, 1) := by decide +kernel
theorem dL_law_991 : decode cL_law 991 = .ok (.iadd, 1) := by decide +kernel
theorem dL_law_992 : decode cL_law 992 = .ok (.iaload, 1) := by decide +kernel
theorem dL_law_993 : decode cL_law 993 = .ok (.invokevirtual 118, 3) := by decide +kernel
theorem dL_law_996 : decode cL_law 996 = .ok (.aload_n 2, 1) := by decide +kernel
theorem dL_law_997 : decode cL_law 997 = .ok (.aload_n 0, 1) := by decide +kernel
theorem dL_law_998 : decode cL_law 998 = .ok (.iload_n 3, 1) := by decide +kernel
theorem dL_law_999 : decode cL_law 999 = .ok (.iconst 1, 1) := by decide +kernel
theorem dL_law_1000 : decode cL_law 1000 = .ok (.iadd, 1) := by decide +kernel
theorem dL_law_1001 : decode cL_law 1001 = .ok (.iaload, 1) := by decide +kernel
theorem dL_law_1002 : decode cL_law 1002 = .ok (.invokevirtual 121, 3) := by decide +kernel
theorem dL_law_1005 : decode cL_law 1005 = .ok (.if_icmp .eq 427, 3) := by decide +kernel
theorem dL_law_1008 : decode cL_law 1008 = .ok (.iconst 0, 1) := by decide +kernel
theorem dL_law_1009 : decode cL_law 1009 = .ok (.ireturn, 1) := by decide +kernel
theorem dL_law_1010 : decode cL_law 1010 = .ok (.aload_n 1, 1) := by decide +kernel
theorem dL_law_1011 : decode cL_law 1011 = .ok (.aload_n 0, 1) := by decide +kernel
theorem dL_law_1012 : decode cL_law 1012 = .ok (.iload_n 3, 1) := by decide +kernel
theorem dL_law_1013 : decode cL_law 1013 = .ok (.iconst 1, 1) := by decide +kernel
theorem dL_law_1014 : decode cL_law 1014 = .ok (.iadd, 1) := by decide +kernel
theorem dL_law_1015 : decode cL_law 1015 = .ok (.iaload, 1) := by decide +kernel
theorem dL_law_1016 : decode cL_law 1016 = .ok (.invokevirtual 122, 3) := by decide +kernel
theorem dL_law_1019 : decode cL_law 1019 = .ok (.aload_n 2, 1) := by decide +kernel
theorem dL_law_1020 : decode cL_law 1020 = .ok (.aload_n 0, 1) := by decide +kernel
theorem dL_law_1021 : decode cL_law 1021 = .ok (.iload_n 3, 1) := by decide +kernel
theorem dL_law_1022 : decode cL_law 1022 = .ok (.iconst 1, 1) := by decide +kernel
theorem dL_law_1023 : decode cL_law 1023 = .ok (.iadd, 1) := by decide +kernel
theorem dL_law_1024 : decode cL_law 1024 = .ok (.iaload, 1) := by decide +kernel
theorem dL_law_1025 : decode cL_law 1025 = .ok (.invokevirtual 125, 3) := by decide +kernel
theorem dL_law_1028 : decode cL_law 1028 = .ok (.if_icmp .eq 404, 3) := by decide +kernel
theorem dL_law_1031 : decode cL_law 1031 = .ok (.iconst 0, 1) := by decide +kernel
theorem dL_law_1032 : decode cL_law 1032 = .ok (.ireturn, 1) := by decide +kernel
theorem dL_law_1033 : decode cL_law 1033 = .ok (.aload_n 1, 1) := by decide +kernel
theorem dL_law_1034 : decode cL_law 1034 = .ok (.aload_n 0, 1) := by decide +kernel
theorem dL_law_1035 : decode cL_law 1035 = .ok (.iload_n 3, 1) := by decide +kernel
theorem dL_law_1036 : decode cL_law 1036 = .ok (.iconst 1, 1) := by decide +kernel
theorem dL_law_1037 : decode cL_law 1037 = .ok (.iadd, 1) := by decide +kernel
theorem dL_law_1038 : decode cL_law 1038 = .ok (.iaload, 1) := by decide +kernel
theorem dL_law_1039 : decode cL_law 1039 = .ok (.aload_n 0, 1) := by decide +kernel
theorem dL_law_1040 : decode cL_law 1040 = .ok (.iload_n 3, 1) := by decide +kernel
theorem dL_law_1041 : decode cL_law 1041 = .ok (.iconst 2, 1) := by decide +kernel
theorem dL_law_1042 : decode cL_law 1042 = .ok (.iadd, 1) := by decide +kernel
theorem dL_law_1043 : decode cL_law 1043 = .ok (.iaload, 1) := by decide +kernel
theorem dL_law_1044 : decode cL_law 1044 = .ok (.invokevirtual 126, 3) := by decide +kernel
theorem dL_law_1047 : decode cL_law 1047 = .ok (.aload_n 2, 1) := by decide +kernel
theorem dL_law_1048 : decode cL_law 1048 = .ok (.aload_n 0, 1) := by decide +kernel
theorem dL_law_1049 : decode cL_law 1049 = .ok (.iload_n 3, 1) := by decide +kernel
theorem dL_law_1050 : decode cL_law 1050 = .ok (.iconst 1, 1) := by decide +kernel
theorem dL_law_1051 : decode cL_law 1051 = .ok (.iadd, 1) := by decide +kernel
theorem dL_law_1052 : decode cL_law 1052 = .ok (.iaload, 1) := by decide +kernel
theorem dL_law_1053 : decode cL_law 1053 = .ok (.aload_n 0, 1) := by decide +kernel
theorem dL_law_1054 : decode cL_law 1054 = .ok (.iload_n 3, 1) := by decide +kernel
theorem dL_law_1055 : decode cL_law 1055 = .ok (.iconst 2, 1) := by decide +kernel
theorem dL_law_1056 : decode cL_law 1056 = .ok (.iadd, 1) := by decide +kernel
theorem dL_law_1057 : decode cL_law 1057 = .ok (.iaload, 1) := by decide +kernel
theorem dL_law_1058 : decode cL_law 1058 = .ok (.invokevirtual 129, 3) := by decide +kernel
theorem dL_law_1061 : decode cL_law 1061 = .ok (.if_icmp .eq 371, 3) := by decide +kernel
theorem dL_law_1064 : decode cL_law 1064 = .ok (.iconst 0, 1) := by decide +kernel
theorem dL_law_1065 : decode cL_law 1065 = .ok (.ireturn, 1) := by decide +kernel
theorem dL_law_1066 : decode cL_law 1066 = .ok (.aload_n 1, 1) := by decide +kernel
theorem dL_law_1067 : decode cL_law 1067 = .ok (.invokevirtual 130, 3) := by decide +kernel
theorem dL_law_1070 : decode cL_law 1070 = .ok (.aload_n 2, 1) := by decide +kernel
theorem dL_law_1071 : decode cL_law 1071 = .ok (.invokevirtual 133, 3) := by decide +kernel
theorem dL_law_1074 : decode cL_law 1074 = .ok (.if_icmp .eq 358, 3) := by decide +kernel
theorem dL_law_1077 : decode cL_law 1077 = .ok (.iconst 0, 1) := by decide +kernel
theorem dL_law_1078 : decode cL_law 1078 = .ok (.ireturn, 1) := by decide +kernel
theorem dL_law_1079 : decode cL_law 1079 = .ok (.aload_n 1, 1) := by decide +kernel
theorem dL_law_1080 : decode cL_law 1080 = .ok (.invokevirtual 134, 3) := by decide +kernel
theorem dL_law_1083 : decode cL_law 1083 = .ok (.aload_n 2, 1) := by decide +kernel
theorem dL_law_1084 : decode cL_law 1084 = .ok (.invokevirtual 137, 3) := by decide +kernel
theorem dL_law_1087 : decode cL_law 1087 = .ok (.if_icmp .eq 345, 3) := by decide +kernel
theorem dL_law_1090 : decode cL_law 1090 = .ok (.iconst 0, 1) := by decide +kernel
theorem dL_law_1091 : decode cL_law 1091 = .ok (.ireturn, 1) := by decide +kernel
theorem dL_law_1092 : decode cL_law 1092 = .ok (.aload_n 1, 1) := by decide +kernel
theorem dL_law_1093 : decode cL_law 1093 = .ok (.aload_n 0, 1) := by decide +kernel
theorem dL_law_1094 : decode cL_law 1094 = .ok (.iload_n 3, 1) := by decide +kernel
theorem dL_law_1095 : decode cL_law 1095 = .ok (.iconst 1, 1) := by decide +kernel
theorem dL_law_1096 : decode cL_law 1096 = .ok (.iadd, 1) := by decide +kernel
theorem dL_law_1097 : decode cL_law 1097 = .ok (.iaload, 1) := by decide +kernel
theorem dL_law_1098 : decode cL_law 1098 = .ok (.aload_n 0, 1) := by decide +kernel
theorem dL_law_1099 : decode cL_law 1099 = .ok (.iload_n 3, 1) := by decide +kernel
theorem dL_law_1100 : decode cL_law 1100 = .ok (.iconst 2, 1) := by decide +kernel
theorem dL_law_1101 : decode cL_law 1101 = .ok (.iadd, 1) := by decide +kernel
theorem dL_law_1102 : decode cL_law 1102 = .ok (.iaload, 1) := by decide +kernel
theorem dL_law_1103 : decode cL_law 1103 = .ok (.aload_n 0, 1) := by decide +kernel
theorem dL_law_1104 : decode cL_law 1104 = .ok (.iload_n 3, 1) := by decide +kernel
theorem dL_law_1105 : decode cL_law 1105 = .ok (.iconst 3, 1) := by decide +kernel
theorem dL_law_1106 : decode cL_law 1106 = .ok (.iadd, 1) := by decide +kernel
theorem dL_law_1107 : decode cL_law 1107 = .ok (.iaload, 1) := by decide +kernel
theorem dL_law_1108 : decode cL_law 1108 = .ok (.aload_n 0, 1) := by decide +kernel
theorem dL_law_1109 : decode cL_law 1109 = .ok (.iload_n 3, 1) := by decide +kernel
theorem dL_law_1110 : decode cL_law 1110 = .ok (.iconst 4, 1) := by decide +kernel
theorem dL_law_1111 : decode cL_law 1111 = .ok (.iadd, 1) := by decide +kernel
theorem dL_law_1112 : decode cL_law 1112 = .ok (.iaload, 1) := by decide +kernel
theorem dL_law_1113 : decode cL_law 1113 = .ok (.aload_n 0, 1) := by decide +kernel
theorem dL_law_1114 : decode cL_law 1114 = .ok (.iload_n 3, 1) := by decide +kernel
theorem dL_law_1115 : decode cL_law 1115 = .ok (.iconst 5, 1) := by decide +kernel
theorem dL_law_1116 : decode cL_law 1116 = .ok (.iadd, 1) := by decide +kernel
theorem dL_law_1117 : decode cL_law 1117 = .ok (.iaload, 1) := by decide +kernel
theorem dL_law_1118 : decode cL_law 1118 = .ok (.aload_n 0, 1) := by decide +kernel
theorem dL_law_1119 : decode cL_law 1119 = .ok (.iload_n 3, 1) := by decide +kernel
theorem dL_law_1120 : decode cL_law 1120 = .ok (.bipush 6, 2) := by decide +kernel
theorem dL_law_1122 : decode cL_law 1122 = .ok (.iadd, 1) := by decide +kernel
theorem dL_law_1123 : decode cL_law 1123 = .ok (.iaload, 1) := by decide +kernel
theorem dL_law_1124 : decode cL_law 1124 = .ok (.invokevirtual 138, 3) := by decide +kernel
theorem dL_law_1127 : decode cL_law 1127 = .ok (.aload_n 2, 1) := by decide +kernel
theorem dL_law_1128 : decode cL_law 1128 = .ok (.aload_n 0, 1) := by decide +kernel
theorem dL_law_1129 : decode cL_law 1129 = .ok (.iload_n 3, 1) := by decide +kernel
theorem dL_law_1130 : decode cL_law 1130 = .ok (.iconst 1, 1) := by decide +kernel
theorem dL_law_1131 : decode cL_law 1131 = .ok (.iadd, 1) := by decide +kernel
theorem dL_law_1132 : decode cL_law 1132 = .ok (.iaload, 1) := by decide +kernel
theorem dL_law_1133 : decode cL_law 1133 = .ok (.aload_n 0, 1) := by decide +kernel
theorem dL_law_1134 : decode cL_law 1134 = .ok (.iload_n 3, 1) := by decide +kernel
theorem dL_law_1135 : decode cL_law 1135 = .ok (.iconst 2, 1) := by decide +kernel
theorem dL_law_1136 : decode cL_law 1136 = .ok (.iadd, 1) := by decide +kernel
theorem dL_law_1137 : decode cL_law 1137 = .ok (.iaload, 1) := by decide +kernel
theorem dL_law_1138 : decode cL_law 1138 = .ok (.aload_n 0, 1) := by decide +kernel
theorem dL_law_1139 : decode cL_law 1139 = .ok (.iload_n 3, 1) := by decide +kernel
theorem dL_law_1140 : decode cL_law 1140 = .ok (.iconst 3, 1) := by decide +kernel
theorem dL_law_1141 : decode cL_law 1141 = .ok (.iadd, 1) := by decide +kernel
theorem dL_law_1142 : decode cL_law 1142 = .ok (.iaload, 1) := by decide +kernel
theorem dL_law_1143 : decode cL_law 1143 = .ok (.aload_n 0, 1) := by decide +kernel
theorem dL_law_1144 : decode cL_law 1144 = .ok (.iload_n 3, 1) := by decide +kernel
theorem dL_law_1145 : decode cL_law 1145 = .ok (.iconst 4, 1) := by decide +kernel
theorem dL_law_1146 : decode cL_law 1146 = .ok (.iadd, 1) := by decide +kernel
theorem dL_law_1147 : decode cL_law 1147 = .ok (.iaload, 1) := by decide +kernel
theorem dL_law_1148 : decode cL_law 1148 = .ok (.aload_n 0, 1) := by decide +kernel
theorem dL_law_1149 : decode cL_law 1149 = .ok (.iload_n 3, 1) := by decide +kernel
theorem dL_law_1150 : decode cL_law 1150 = .ok (.iconst 5, 1) := by decide +kernel
theorem dL_law_1151 : decode cL_law 1151 = .ok (.iadd, 1) := by decide +kernel
theorem dL_law_1152 : decode cL_law 1152 = .ok (.iaload, 1) := by decide +kernel
theorem dL_law_1153 : decode cL_law 1153 = .ok (.aload_n 0, 1) := by decide +kernel
theorem dL_law_1154 : decode cL_law 1154 = .ok (.iload_n 3, 1) := by decide +kernel
theorem dL_law_1155 : decode cL_law 1155 = .ok (.bipush 6, 2) := by decide +kernel
theorem dL_law_1157 : decode cL_law 1157 = .ok (.iadd, 1) := by decide +kernel
theorem dL_law_1158 : decode cL_law 1158 = .ok (.iaload, 1) := by decide +kernel
theorem dL_law_1159 : decode cL_law 1159 = .ok (.invokevirtual 142, 3) := by decide +kernel
theorem dL_law_1162 : decode cL_law 1162 = .ok (.if_icmp .eq 270, 3) := by decide +kernel
theorem dL_law_1165 : decode cL_law 1165 = .ok (.iconst 0, 1) := by decide +kernel
theorem dL_law_1166 : decode cL_law 1166 = .ok (.ireturn, 1) := by decide +kernel
theorem dL_law_1167 : decode cL_law 1167 = .ok (.aload_n 1, 1) := by decide +kernel
theorem dL_law_1168 : decode cL_law 1168 = .ok (.aload_n 0, 1) := by decide +kernel
theorem dL_law_1169 : decode cL_law 1169 = .ok (.iload_n 3, 1) := by decide +kernel
theorem dL_law_1170 : decode cL_law 1170 = .ok (.iconst 1, 1) := by decide +kernel
theorem dL_law_1171 : decode cL_law 1171 = .ok (.iadd, 1) := by decide +kernel
theorem dL_law_1172 : decode cL_law 1172 = .ok (.iaload, 1) := by decide +kernel
theorem dL_law_1173 : decode cL_law 1173 = .ok (.aload_n 0, 1) := by decide +kernel
theorem dL_law_1174 : decode cL_law 1174 = .ok (.iload_n 3, 1) := by decide +kernel
theorem dL_law_1175 : decode cL_law 1175 = .ok (.iconst 2, 1) := by decide +kernel
theorem dL_law_1176 : decode cL_law 1176 = .ok (.iadd, 1) := by decide +kernel
theorem dL_law_1177 : decode cL_law 1177 = .ok (.iaload, 1) := by decide +kernel
theorem dL_law_1178 : decode cL_law 1178 = .ok (.aload_n 0, 1) := by decide +kernel
theorem dL_law_1179 : decode cL_law 1179 = .ok (.iload_n 3, 1) := by decide +kernel
theorem dL_law_1180 : decode cL_law 1180 = .ok (.iconst 3, 1) := by decide +kernel
theorem dL_law_1181 : decode cL_law 1181 = .ok (.iadd, 1) := by decide +kernel
theorem dL_law_1182 : decode cL_law 1182 = .ok (.iaload, 1) := by decide +kernel
theorem dL_law_1183 : decode cL_law 1183 = .ok (.aload_n 0, 1) := by decide +kernel
theorem dL_law_1184 : decode cL_law 1184 = .ok (.iload_n 3, 1) := by decide +kernel
theorem dL_law_1185 : decode cL_law 1185 = .ok (.iconst 4, 1) := by decide +kernel
theorem dL_law_1186 : decode cL_law 1186 = .ok (.iadd, 1) := by decide +kernel
theorem dL_law_1187 : decode cL_law 1187 = .ok (.iaload, 1) := by decide +kernel
theorem dL_law_1188 : decode cL_law 1188 = .ok (.invokevirtual 143, 3) := by decide +kernel
theorem dL_law_1191 : decode cL_law 1191 = .ok (.aload_n 2, 1) := by decide +kernel
theorem dL_law_1192 : decode cL_law 1192 = .ok (.aload_n 0, 1) := by decide +kernel
theorem dL_law_1193 : decode cL_law 1193 = .ok (.iload_n 3, 1) := by decide +kernel
theorem dL_law_1194 : decode cL_law 1194 = .ok (.iconst 1, 1) := by decide +kernel
theorem dL_law_1195 : decode cL_law 1195 = .ok (.iadd, 1) := by decide +kernel
theorem dL_law_1196 : decode cL_law 1196 = .ok (.iaload, 1) := by decide +kernel
theorem dL_law_1197 : decode cL_law 1197 = .ok (.aload_n 0, 1) := by decide +kernel
theorem dL_law_1198 : decode cL_law 1198 = .ok (.iload_n 3, 1) := by decide +kernel
theorem dL_law_1199 : decode cL_law 1199 = .ok (.iconst 2, 1) := by decide +kernel
theorem dL_law_1200 : decode cL_law 1200 = .ok (.iadd, 1) := by decide +kernel
theorem dL_law_1201 : decode cL_law 1201 = .ok (.iaload, 1) := by decide +kernel
theorem dL_law_1202 : decode cL_law 1202 = .ok (.aload_n 0, 1) := by decide +kernel
theorem dL_law_1203 : decode cL_law 1203 = .ok (.iload_n 3, 1) := by decide +kernel
theorem dL_law_1204 : decode cL_law 1204 = .ok (.iconst 3, 1) := by decide +kernel
theorem dL_law_1205 : decode cL_law 1205 = .ok (.iadd, 1) := by decide +kernel
theorem dL_law_1206 : decode cL_law 1206 = .ok (.iaload, 1) := by decide +kernel
theorem dL_law_1207 : decode cL_law 1207 = .ok (.aload_n 0, 1) := by decide +kernel
theorem dL_law_1208 : decode cL_law 1208 = .ok (.iload_n 3, 1) := by decide +kernel
theorem dL_law_1209 : decode cL_law 1209 = .ok (.iconst 4, 1) := by decide +kernel
theorem dL_law_1210 : decode cL_law 1210 = .ok (.iadd, 1) := by decide +kernel
theorem dL_law_1211 : decode cL_law 1211 = .ok (.iaload, 1) := by decide +kernel
theorem dL_law_1212 : decode cL_law 1212 = .ok (.invokevirtual 146, 3) := by decide +kernel
theorem dL_law_1215 : decode cL_law 1215 = .ok (.if_icmp .eq 217, 3) := by decide +kernel
theorem dL_law_1218 : decode cL_law 1218 = .ok (.iconst 0, 1) := by decide +kernel
theorem dL_law_1219 : decode cL_law 1219 = .ok (.ireturn, 1) := by decide +kernel
theorem dL_law_1220 : decode cL_law 1220 = .ok (.aload_n 1, 1) := by decide +kernel
theorem dL_law_1221 : decode cL_law 1221 = .ok (.aload_n 0, 1) := by decide +kernel
theorem dL_law_1222 : decode cL_law 1222 = .ok (.iload_n 3, 1) := by decide +kernel
theorem dL_law_1223 : decode cL_law 1223 = .ok (.iconst 1, 1) := by decide +kernel
theorem dL_law_1224 : decode cL_law 1224 = .ok (.iadd, 1) := by decide +kernel
theorem dL_law_1225 : decode cL_law 1225 = .ok (.iaload, 1) := by decide +kernel
theorem dL_law_1226 : decode cL_law 1226 = .ok (.aload_n 0, 1) := by decide +kernel
theorem dL_law_1227 : decode cL_law 1227 = .ok (.iload_n 3, 1) := by decide +kernel
theorem dL_law_1228 : decode cL_law 1228 = .ok (.iconst 2, 1) := by decide +kernel
theorem dL_law_1229 : decode cL_law 1229 = .ok (.iadd, 1) := by decide +kernel
theorem dL_law_1230 : decode cL_law 1230 = .ok (.iaload, 1) := by decide +kernel
theorem dL_law_1231 : decode cL_law 1231 = .ok (.aload_n 0, 1) := by decide +kernel
theorem dL_law_1232 : decode cL_law 1232 = .ok (.iload_n 3, 1) := by decide +kernel
theorem dL_law_1233 : decode cL_law 1233 = .ok (.iconst 3, 1) := by decide +kernel
theorem dL_law_1234 : decode cL_law 1234 = .ok (.iadd, 1) := by decide +kernel
theorem dL_law_1235 : decode cL_law 1235 = .ok (.iaload, 1) := by decide +kernel
theorem dL_law_1236 : decode cL_law 1236 = .ok (.invokevirtual 147, 3) := by decide +kernel
theorem dL_law_1239 : decode cL_law 1239 = .ok (.aload_n 2, 1) := by decide +kernel
theorem dL_law_1240 : decode cL_law 1240 = .ok (.aload_n 0, 1) := by decide +kernel
theorem dL_law_1241 : decode cL_law 1241 = .ok (.iload_n 3, 1) := by decide +kernel
theorem dL_law_1242 : decode cL_law 1242 = .ok (.iconst 1, 1) := by decide +kernel
theorem dL_law_1243 : decode cL_law 1243 = .ok (.iadd, 1) := by decide +kernel
theorem dL_law_1244 : decode cL_law 1244 = .ok (.iaload, 1) := by decide +kernel
theorem dL_law_1245 : decode cL_law 1245 = .ok (.aload_n 0, 1) := by decide +kernel
theorem dL_law_1246 : decode cL_law 1246 = .ok (.iload_n 3, 1) := by decide +kernel
theorem dL_law_1247 : decode cL_law 1247 = .ok (.iconst 2, 1) := by decide +kernel
theorem dL_law_1248 : decode cL_law 1248 = .ok (.iadd, 1) := by decide +kernel
theorem dL_law_1249 : decode cL_law 1249 = .ok (.iaload, 1) := by decide +kernel
theorem dL_law_1250 : decode cL_law 1250 = .ok (.aload_n 0, 1) := by decide +kernel
theorem dL_law_1251 : decode cL_law 1251 = .ok (.iload_n 3, 1) := by decide +kernel
theorem dL_law_1252 : decode cL_law 1252 = .ok (.iconst 3, 1) := by decide +kernel
theorem dL_law_1253 : decode cL_law 1253 = .ok (.iadd, 1) := by decide +kernel
theorem dL_law_1254 : decode cL_law 1254 = .ok (.iaload, 1) := by decide +kernel
theorem dL_law_1255 : decode cL_law 1255 = .ok (.invokevirtual 150, 3) := by decide +kernel
theorem dL_law_1258 : decode cL_law 1258 = .ok (.if_icmp .eq 174, 3) := by decide +kernel
theorem dL_law_1261 : decode cL_law 1261 = .ok (.iconst 0, 1) := by decide +kernel
theorem dL_law_1262 : decode cL_law 1262 = .ok (.ireturn, 1) := by decide +kernel
theorem dL_law_1263 : decode cL_law 1263 = .ok (.aload_n 1, 1) := by decide +kernel
theorem dL_law_1264 : decode cL_law 1264 = .ok (.aload_n 0, 1) := by decide +kernel
theorem dL_law_1265 : decode cL_law 1265 = .ok (.iload_n 3, 1) := by decide +kernel
theorem dL_law_1266 : decode cL_law 1266 = .ok (.iconst 1, 1) := by decide +kernel
theorem dL_law_1267 : decode cL_law 1267 = .ok (.iadd, 1) := by decide +kernel
theorem dL_law_1268 : decode cL_law 1268 = .ok (.iaload, 1) := by decide +kernel
theorem dL_law_1269 : decode cL_law 1269 = .ok (.invokevirtual 151, 3) := by decide +kernel
theorem dL_law_1272 : decode cL_law 1272 = .ok (.aload_n 2, 1) := by decide +kernel
theorem dL_law_1273 : decode cL_law 1273 = .ok (.aload_n 0, 1) := by decide +kernel
theorem dL_law_1274 : decode cL_law 1274 = .ok (.iload_n 3, 1) := by decide +kernel
theorem dL_law_1275 : decode cL_law 1275 = .ok (.iconst 1, 1) := by decide +kernel
theorem dL_law_1276 : decode cL_law 1276 = .ok (.iadd, 1) := by decide +kernel
theorem dL_law_1277 : decode cL_law 1277 = .ok (.iaload, 1) := by decide +kernel
theorem dL_law_1278 : decode cL_law 1278 = .ok (.invokevirtual 154, 3) := by decide +kernel
theorem dL_law_1281 : decode cL_law 1281 = .ok (.if_icmp .eq 151, 3) := by decide +kernel
theorem dL_law_1284 : decode cL_law 1284 = .ok (.iconst 0, 1) := by decide +kernel
theorem dL_law_1285 : decode cL_law 1285 = .ok (.ireturn, 1) := by decide +kernel
theorem dL_law_1286 : decode cL_law 1286 = .ok (.aload_n 1, 1) := by decide +kernel
theorem dL_law_1287 : decode cL_law 1287 = .ok (.aload_n 0, 1) := by decide +kernel
theorem dL_law_1288 : decode cL_law 1288 = .ok (.iload_n 3, 1) := by decide +kernel
theorem dL_law_1289 : decode cL_law 1289 = .ok (.iconst 1, 1) := by decide +kernel
theorem dL_law_1290 : decode cL_law 1290 = .ok (.iadd, 1) := by decide +kernel
theorem dL_law_1291 : decode cL_law 1291 = .ok (.iaload, 1) := by decide +kernel
theorem dL_law_1292 : decode cL_law 1292 = .ok (.aload_n 0, 1) := by decide +kernel
theorem dL_law_1293 : decode cL_law 1293 = .ok (.iload_n 3, 1) := by decide +kernel
theorem dL_law_1294 : decode cL_law 1294 = .ok (.iconst 2, 1) := by decide +kernel
theorem dL_law_1295 : decode cL_law 1295 = .ok (.iadd, 1) := by decide +kernel
theorem dL_law_1296 : decode cL_law 1296 = .ok (.iaload, 1) := by decide +kernel
theorem dL_law_1297 : decode cL_law 1297 = .ok (.aload_n 0, 1) := by decide +kernel
theorem dL_law_1298 : decode cL_law 1298 = .ok (.iload_n 3, 1) := by decide +kernel
theorem dL_law_1299 : decode cL_law 1299 = .ok (.iconst 3, 1) := by decide +kernel
theorem dL_law_1300 : decode cL_law 1300 = .ok (.iadd, 1) := by decide +kernel
theorem dL_law_1301 : decode cL_law 1301 = .ok (.iaload, 1) := by decide +kernel
theorem dL_law_1302 : decode cL_law 1302 = .ok (.aload_n 0, 1) := by decide +kernel
theorem dL_law_1303 : decode cL_law 1303 = .ok (.iload_n 3, 1) := by decide +kernel
theorem dL_law_1304 : decode cL_law 1304 = .ok (.iconst 4, 1) := by decide +kernel
theorem dL_law_1305 : decode cL_law 1305 = .ok (.iadd, 1) := by decide +kernel
theorem dL_law_1306 : decode cL_law 1306 = .ok (.iaload, 1) := by decide +kernel
theorem dL_law_1307 : decode cL_law 1307 = .ok (.i2l, 1) := by decide +kernel
theorem dL_law_1308 : decode cL_law 1308 = .ok (.bipush 32, 2) := by decide +kernel
theorem dL_law_1310 : decode cL_law 1310 = .ok (.lshl, 1) := by decide +kernel
theorem dL_law_1311 : decode cL_law 1311 = .ok (.aload_n 0, 1) := by decide +kernel
theorem dL_law_1312 : decode cL_law 1312 = .ok (.iload_n 3, 1) := by decide +kernel
theorem dL_law_1313 : decode cL_law 1313 = .ok (.iconst 5, 1) := by decide +kernel
theorem dL_law_1314 : decode cL_law 1314 = .ok (.iadd, 1) := by decide +kernel
theorem dL_law_1315 : decode cL_law 1315 = .ok (.iaload, 1) := by decide +kernel
theorem dL_law_1316 : decode cL_law 1316 = .ok (.i2l, 1) := by decide +kernel
theorem dL_law_1317 : decode cL_law 1317 = .ok (.ldc2_w 155, 3) := by decide +kernel
theorem dL_law_1320 : decode cL_law 1320 = .ok (.land, 1) := by decide +kernel
theorem dL_law_1321 : decode cL_law 1321 = .ok (.lor, 1) := by decide +kernel
theorem dL_law_1322 : decode cL_law 1322 = .ok (.invokevirtual 157, 3) := by decide +kernel
theorem dL_law_1325 : decode cL_law 1325 = .ok (.aload_n 2, 1) := by decide +kernel
theorem dL_law_1326 : decode cL_law 1326 = .ok (.aload_n 0, 1) := by decide +kernel
theorem dL_law_1327 : decode cL_law 1327 = .ok (.iload_n 3, 1) := by decide +kernel
theorem dL_law_1328 : decode cL_law 1328 = .ok (.iconst 1, 1) := by decide +kernel
theorem dL_law_1329 : decode cL_law 1329 = .ok (.iadd, 1) := by decide +kernel
theorem dL_law_1330 : decode cL_law 1330 = .ok (.iaload, 1) := by decide +kernel
theorem dL_law_1331 : decode cL_law 1331 = .ok (.aload_n 0, 1) := by decide +kernel
theorem dL_law_1332 : decode cL_law 1332 = .ok (.iload_n 3, 1) := by decide +kernel
theorem dL_law_1333 : decode cL_law 1333 = .ok (.iconst 2, 1) := by decide +kernel
theorem dL_law_1334 : decode cL_law 1334 = .ok (.iadd, 1) := by decide +kernel
theorem dL_law_1335 : decode cL_law 1335 = .ok (.iaload, 1) := by decide +kernel
theorem dL_law_1336 : decode cL_law 1336 = .ok (.aload_n 0, 1) := by decide +kernel
theorem dL_law_1337 : decode cL_law 1337 = .ok (.iload_n 3, 1) := by decide +kernel
theorem dL_law_1338 : decode cL_law 1338 = .ok (.iconst 3, 1) := by decide +kernel
theorem dL_law_1339 : decode cL_law 1339 = .ok (.iadd, 1) := by decide +kernel
theorem dL_law_1340 : decode cL_law 1340 = .ok (.iaload, 1) := by decide +kernel
theorem dL_law_1341 : decode cL_law 1341 = .ok (.aload_n 0, 1) := by decide +kernel
theorem dL_law_1342 : decode cL_law 1342 = .ok (.iload_n 3, 1) := by decide +kernel
theorem dL_law_1343 : decode cL_law 1343 = .ok (.iconst 4, 1) := by decide +kernel
theorem dL_law_1344 : decode cL_law 1344 = .ok (.iadd, 1) := by decide +kernel
theorem dL_law_1345 : decode cL_law 1345 = .ok (.iaload, 1) := by decide +kernel
theorem dL_law_1346 : decode cL_law 1346 = .ok (.i2l, 1) := by decide +kernel
theorem dL_law_1347 : decode cL_law 1347 = .ok (.bipush 32, 2) := by decide +kernel
theorem dL_law_1349 : decode cL_law 1349 = .ok (.lshl, 1) := by decide +kernel
theorem dL_law_1350 : decode cL_law 1350 = .ok (.aload_n 0, 1) := by decide +kernel
theorem dL_law_1351 : decode cL_law 1351 = .ok (.iload_n 3, 1) := by decide +kernel
theorem dL_law_1352 : decode cL_law 1352 = .ok (.iconst 5, 1) := by decide +kernel
theorem dL_law_1353 : decode cL_law 1353 = .ok (.iadd, 1) := by decide +kernel
theorem dL_law_1354 : decode cL_law 1354 = .ok (.iaload, 1) := by decide +kernel
theorem dL_law_1355 : decode cL_law 1355 = .ok (.i2l, 1) := by decide +kernel
theorem dL_law_1356 : decode cL_law 1356 = .ok (.ldc2_w 155, 3) := by decide +kernel
theorem dL_law_1359 : decode cL_law 1359 = .ok (.land, 1) := by decide +kernel
theorem dL_law_1360 : decode cL_law 1360 = .ok (.lor, 1) := by decide +kernel
theorem dL_law_1361 : decode cL_law 1361 = .ok (.invokevirtual 161, 3) := by decide +kernel
theorem dL_law_1364 : decode cL_law 1364 = .ok (.if_icmp .eq 68, 3) := by decide +kernel
theorem dL_law_1367 : decode cL_law 1367 = .ok (.iconst 0, 1) := by decide +kernel
theorem dL_law_1368 : decode cL_law 1368 = .ok (.ireturn, 1) := by decide +kernel
theorem dL_law_1369 : decode cL_law 1369 = .ok (.aload_n 1, 1) := by decide +kernel
theorem dL_law_1370 : decode cL_law 1370 = .ok (.aload_n 0, 1) := by decide +kernel
theorem dL_law_1371 : decode cL_law 1371 = .ok (.iload_n 3, 1) := by decide +kernel
theorem dL_law_1372 : decode cL_law 1372 = .ok (.iconst 1, 1) := by decide +kernel
theorem dL_law_1373 : decode cL_law 1373 = .ok (.iadd, 1) := by decide +kernel
theorem dL_law_1374 : decode cL_law 1374 = .ok (.iaload, 1) := by decide +kernel
theorem dL_law_1375 : decode cL_law 1375 = .ok (.aload_n 0, 1) := by decide +kernel
theorem dL_law_1376 : decode cL_law 1376 = .ok (.iload_n 3, 1) := by decide +kernel
theorem dL_law_1377 : decode cL_law 1377 = .ok (.iconst 2, 1) := by decide +kernel
theorem dL_law_1378 : decode cL_law 1378 = .ok (.iadd, 1) := by decide +kernel
theorem dL_law_1379 : decode cL_law 1379 = .ok (.iaload, 1) := by decide +kernel
theorem dL_law_1380 : decode cL_law 1380 = .ok (.aload_n 0, 1) := by decide +kernel
theorem dL_law_1381 : decode cL_law 1381 = .ok (.iload_n 3, 1) := by decide +kernel
theorem dL_law_1382 : decode cL_law 1382 = .ok (.iconst 3, 1) := by decide +kernel
theorem dL_law_1383 : decode cL_law 1383 = .ok (.iadd, 1) := by decide +kernel
theorem dL_law_1384 : decode cL_law 1384 = .ok (.iaload, 1) := by decide +kernel
theorem dL_law_1385 : decode cL_law 1385 = .ok (.aload_n 0, 1) := by decide +kernel
theorem dL_law_1386 : decode cL_law 1386 = .ok (.iload_n 3, 1) := by decide +kernel
theorem dL_law_1387 : decode cL_law 1387 = .ok (.iconst 4, 1) := by decide +kernel
theorem dL_law_1388 : decode cL_law 1388 = .ok (.iadd, 1) := by decide +kernel
theorem dL_law_1389 : decode cL_law 1389 = .ok (.iaload, 1) := by decide +kernel
theorem dL_law_1390 : decode cL_law 1390 = .ok (.aload_n 0, 1) := by decide +kernel
theorem dL_law_1391 : decode cL_law 1391 = .ok (.iload_n 3, 1) := by decide +kernel
theorem dL_law_1392 : decode cL_law 1392 = .ok (.iconst 5, 1) := by decide +kernel
theorem dL_law_1393 : decode cL_law 1393 = .ok (.iadd, 1) := by decide +kernel
theorem dL_law_1394 : decode cL_law 1394 = .ok (.iaload, 1) := by decide +kernel
theorem dL_law_1395 : decode cL_law 1395 = .ok (.invokevirtual 162, 3) := by decide +kernel
theorem dL_law_1398 : decode cL_law 1398 = .ok (.aload_n 2, 1) := by decide +kernel
theorem dL_law_1399 : decode cL_law 1399 = .ok (.aload_n 0, 1) := by decide +kernel
theorem dL_law_1400 : decode cL_law 1400 = .ok (.iload_n 3, 1) := by decide +kernel
theorem dL_law_1401 : decode cL_law 1401 = .ok (.iconst 1, 1) := by decide +kernel
theorem dL_law_1402 : decode cL_law 1402 = .ok (.iadd, 1) := by decide +kernel
theorem dL_law_1403 : decode cL_law 1403 = .ok (.iaload, 1) := by decide +kernel
theorem dL_law_1404 : decode cL_law 1404 = .ok (.aload_n 0, 1) := by decide +kernel
theorem dL_law_1405 : decode cL_law 1405 = .ok (.iload_n 3, 1) := by decide +kernel
theorem dL_law_1406 : decode cL_law 1406 = .ok (.iconst 2, 1) := by decide +kernel
theorem dL_law_1407 : decode cL_law 1407 = .ok (.iadd, 1) := by decide +kernel
theorem dL_law_1408 : decode cL_law 1408 = .ok (.iaload, 1) := by decide +kernel
theorem dL_law_1409 : decode cL_law 1409 = .ok (.aload_n 0, 1) := by decide +kernel
theorem dL_law_1410 : decode cL_law 1410 = .ok (.iload_n 3, 1) := by decide +kernel
theorem dL_law_1411 : decode cL_law 1411 = .ok (.iconst 3, 1) := by decide +kernel
theorem dL_law_1412 : decode cL_law 1412 = .ok (.iadd, 1) := by decide +kernel
theorem dL_law_1413 : decode cL_law 1413 = .ok (.iaload, 1) := by decide +kernel
theorem dL_law_1414 : decode cL_law 1414 = .ok (.aload_n 0, 1) := by decide +kernel
theorem dL_law_1415 : decode cL_law 1415 = .ok (.iload_n 3, 1) := by decide +kernel
theorem dL_law_1416 : decode cL_law 1416 = .ok (.iconst 4, 1) := by decide +kernel
theorem dL_law_1417 : decode cL_law 1417 = .ok (.iadd, 1) := by decide +kernel
theorem dL_law_1418 : decode cL_law 1418 = .ok (.iaload, 1) := by decide +kernel
theorem dL_law_1419 : decode cL_law 1419 = .ok (.aload_n 0, 1) := by decide +kernel
theorem dL_law_1420 : decode cL_law 1420 = .ok (.iload_n 3, 1) := by decide +kernel
theorem dL_law_1421 : decode cL_law 1421 = .ok (.iconst 5, 1) := by decide +kernel
theorem dL_law_1422 : decode cL_law 1422 = .ok (.iadd, 1) := by decide +kernel
theorem dL_law_1423 : decode cL_law 1423 = .ok (.iaload, 1) := by decide +kernel
theorem dL_law_1424 : decode cL_law 1424 = .ok (.invokevirtual 166, 3) := by decide +kernel
theorem dL_law_1427 : decode cL_law 1427 = .ok (.if_icmp .eq 5, 3) := by decide +kernel
theorem dL_law_1430 : decode cL_law 1430 = .ok (.iconst 0, 1) := by decide +kernel
theorem dL_law_1431 : decode cL_law 1431 = .ok (.ireturn, 1) := by decide +kernel
theorem dL_law_1432 : decode cL_law 1432 = .ok (.iinc 3 7, 3) := by decide +kernel
theorem dL_law_1435 : decode cL_law 1435 = .ok (.goto (-1417), 3) := by decide +kernel
theorem dL_law_1438 : decode cL_law 1438 = .ok (.iconst 1, 1) := by decide +kernel
theorem dL_law_1439 : decode cL_law 1439 = .ok (.ireturn, 1) := by decide +kernel
end
section
/-! the state: int fields by object and slot, int rows, long rows; objects and rows by their offset from the world's base -/
abbrev cr_S : Type := (Nat → Nat → Int32) × (Nat → Nat → Int32) × (Nat → Nat → Int64)
def rF (σ : cr_S) (o k : Nat) : Int32 := σ.1 o k
def rA (σ : cr_S) (o : Nat) (i : Int32) : Int32 := σ.2.1 o i.toNatClampNeg
def rL (σ : cr_S) (o : Nat) (i : Int32) : Int64 := σ.2.2 o i.toNatClampNeg
def sF (σ : cr_S) (o k : Nat) (v : Int32) : cr_S := (va_up σ.1 o (upd (σ.1 o) k v), σ.2.1, σ.2.2)
def sA (σ : cr_S) (o : Nat) (i v : Int32) : cr_S := (σ.1, va_up σ.2.1 o (upd (σ.2.1 o) i.toNatClampNeg v), σ.2.2)
def sL (σ : cr_S) (o : Nat) (i : Int32) (v : Int64) : cr_S := (σ.1, σ.2.1, va_up σ.2.2 o (vp_updL (σ.2.2 o) i.toNatClampNeg v))
def chk {α : Type} (c : Prop) [Decidable c] (k : Option α) : Option α := if c then k else none
theorem chk_some {α : Type} {c : Prop} [Decidable c] {k : Option α} {r : α} (h : chk c k = some r) : c ∧ k = some r := by
  unfold chk at h
  by_cases q : c
  · rw [if_pos q] at h; exact ⟨q, h⟩
  · rw [if_neg q] at h; cases h
def cr_let {α β : Type} (x : α) (k : α → β) : β := k x
theorem let_some {α β : Type} {x : α} {k : α → Option β} {r : β} (h : cr_let x k = some r) : ∃ y, y = x ∧ k y = some r := ⟨x, rfl, h⟩
theorem bind_some {α β : Type} {x : Option α} {k : α → Option β} {r : β} (h : x.bind k = some r) : ∃ y, x = some y ∧ k y = some r := by
  cases x with
  | none => cases h
  | some y => exact ⟨y, rfl, h⟩
/-- the shapes: an object of a class (a slot is an int, or a place of the world), an int row, a long row, a row of places -/
abbrev cr_Sh : Type := (Nat × List (Option Nat)) ⊕ ((Nat × Nat) ⊕ (Nat ⊕ (Nat × Nat × (Nat → Nat))))
def cr_fs (base : Nat) (f : Nat → Int32) : Nat → List (Option Nat) → List Value
  | _, [] => []
  | k, none :: t => .int (f k) :: cr_fs base f (k + 1) t
  | k, some r :: t => .ref (base + r) :: cr_fs base f (k + 1) t
theorem cr_fs_i {base : Nat} {f : Nat → Int32} : ∀ {sl : List (Option Nat)} {j k : Nat}, sl[k]? = some none → (cr_fs base f j sl)[k]? = some (.int (f (j + k)))
  | [], j, k, h => by simp at h
  | none :: t, j, 0, h => rfl
  | some r :: t, j, 0, h => by simp at h
  | none :: t, j, k + 1, h => by
    have := cr_fs_i (base := base) (f := f) (sl := t) (j := j + 1) (k := k) (by simpa using h)
    rw [show j + (k + 1) = j + 1 + k by omega]
    simpa [cr_fs] using this
  | some r :: t, j, k + 1, h => by
    have := cr_fs_i (base := base) (f := f) (sl := t) (j := j + 1) (k := k) (by simpa using h)
    rw [show j + (k + 1) = j + 1 + k by omega]
    simpa [cr_fs] using this
theorem cr_fs_r {base : Nat} {f : Nat → Int32} {r : Nat} : ∀ {sl : List (Option Nat)} {j k : Nat}, sl[k]? = some (some r) → (cr_fs base f j sl)[k]? = some (.ref (base + r))
  | [], j, k, h => by simp at h
  | none :: t, j, 0, h => by simp at h
  | some r :: t, j, 0, h => by
    simp at h
    subst h
    rfl
  | none :: t, j, k + 1, h => by simpa [cr_fs] using cr_fs_r (base := base) (f := f) (sl := t) (j := j + 1) (k := k) (by simpa using h)
  | some r :: t, j, k + 1, h => by simpa [cr_fs] using cr_fs_r (base := base) (f := f) (sl := t) (j := j + 1) (k := k) (by simpa using h)
theorem cr_fs_c {base : Nat} {f g : Nat → Int32} : ∀ {sl : List (Option Nat)} {j : Nat}, (∀ i, j ≤ i → f i = g i) → cr_fs base f j sl = cr_fs base g j sl
  | [], j, h => rfl
  | none :: t, j, h => by
    simp only [cr_fs]
    rw [h j (Nat.le_refl j), cr_fs_c (sl := t) (fun i hi => h i (by omega))]
  | some r :: t, j, h => by
    simp only [cr_fs]
    rw [cr_fs_c (sl := t) (fun i hi => h i (by omega))]
theorem cr_fs_s {base : Nat} {f : Nat → Int32} {v : Int32} : ∀ {sl : List (Option Nat)} {j k : Nat}, sl[k]? = some none → (cr_fs base f j sl).set k (.int v) = cr_fs base (upd f (j + k) v) j sl
  | [], j, k, h => by simp at h
  | none :: t, j, 0, h => by
    simp only [cr_fs, List.set_cons_zero, Nat.add_zero]
    rw [show upd f j v j = v from pk_us, cr_fs_c (f := upd f j v) (g := f) (fun i hi => pk_un (by omega))]
  | some r :: t, j, 0, h => by simp at h
  | none :: t, j, k + 1, h => by
    have := cr_fs_s (base := base) (f := f) (v := v) (sl := t) (j := j + 1) (k := k) (by simpa using h)
    simp only [cr_fs, List.set_cons_succ]
    rw [this, show j + (k + 1) = j + 1 + k by omega, show upd f (j + 1 + k) v j = f j from pk_un (by omega)]
  | some r :: t, j, k + 1, h => by
    have := cr_fs_s (base := base) (f := f) (v := v) (sl := t) (j := j + 1) (k := k) (by simpa using h)
    simp only [cr_fs, List.set_cons_succ]
    rw [this, show j + (k + 1) = j + 1 + k by omega]
theorem cr_fs_n {base : Nat} {f : Nat → Int32} : ∀ {sl : List (Option Nat)} {j : Nat}, (cr_fs base f j sl).length = sl.length
  | [], j => rfl
  | none :: t, j => by simp [cr_fs, cr_fs_n (sl := t)]
  | some r :: t, j => by simp [cr_fs, cr_fs_n (sl := t)]
def cr_E (base : Nat) (cA : Nat → ClassId) (σ : cr_S) (o : Nat) (x : cr_Sh) : va_E := match x with
  | .inl q => .inr (q.1, cr_fs base (σ.1 o) 0 q.2)
  | .inr (.inl q) => .inl (cA q.1, q.2, .inl (σ.2.1 o))
  | .inr (.inr (.inl n)) => .inl (cA 2, n, .inr (.inl (σ.2.2 o)))
  | .inr (.inr (.inr q)) => .inl (cA q.1, q.2.1, .inr (.inr (.inr (.inr (fun i => some (base + q.2.2 i))))))
def cr_L (sf : Nat → cr_Sh) (N base : Nat) (cA : Nat → ClassId) (σ : cr_S) : va_W := (List.range N).map (fun o => (base + o, cr_E base cA σ o (sf o)))
def cr_A (N base : Nat) : Nat → Prop := fun q => base ≤ q ∧ q < base + N
theorem cr_L_at {sf : Nat → cr_Sh} {N base : Nat} {cA : Nat → ClassId} {σ : cr_S} {o : Nat} (h : o < N) : (cr_L sf N base cA σ)[o]? = some (base + o, cr_E base cA σ o (sf o)) := by
  simp [cr_L, h]
theorem cr_L_in {sf : Nat → cr_Sh} {N base : Nat} {cA : Nat → ClassId} {σ : cr_S} {k : Nat} {q : Nat × va_E} (h : (cr_L sf N base cA σ)[k]? = some q) : k < N ∧ q = (base + k, cr_E base cA σ k (sf k)) := by
  by_cases hk : k < N
  · rw [cr_L_at hk] at h
    exact ⟨hk, (Option.some.inj h).symm⟩
  · simp [cr_L, hk] at h
theorem cr_L_D {sf : Nat → cr_Sh} {N base : Nat} {cA : Nat → ClassId} {σ : cr_S} : va_D (cr_A N base) (cr_L sf N base cA σ) := by
  refine ⟨fun i j p q hi hj h => ?_, fun k q hk => ?_⟩
  · obtain ⟨-, rfl⟩ := cr_L_in hi
    obtain ⟨-, rfl⟩ := cr_L_in hj
    exact Nat.add_left_cancel h
  · obtain ⟨h, rfl⟩ := cr_L_in hk
    exact ⟨Nat.le_add_right _ _, Nat.add_lt_add_left h _⟩
theorem cr_L_set {sf : Nat → cr_Sh} {N base : Nat} {cA : Nat → ClassId} {σ σ' : cr_S} {o : Nat} {e : va_E} (ho : o < N) (he : cr_E base cA σ' o (sf o) = e) (hr : ∀ j, j ≠ o → ∀ x, cr_E base cA σ' j x = cr_E base cA σ j x) : (cr_L sf N base cA σ).set o (base + o, e) = cr_L sf N base cA σ' := by
  apply List.ext_getElem?
  intro j
  by_cases hj : j = o
  · subst hj
    rw [cr_L_at ho, he, List.getElem?_set_self (by simpa [cr_L] using ho)]
  · rw [List.getElem?_set_ne (Ne.symm hj)]
    by_cases hN : j < N
    · rw [cr_L_at hN, cr_L_at hN, hr j hj]
    · simp [cr_L, hN]
theorem cr_E_sF {base : Nat} {cA : Nat → ClassId} {σ : cr_S} {o k : Nat} {v : Int32} (j : Nat) (h : j ≠ o) (x : cr_Sh) : cr_E base cA (sF σ o k v) j x = cr_E base cA σ j x := by
  rcases x with q | q | q | q
  · simp only [cr_E, sF, va_up_ne _ _ h]
  · rfl
  · rfl
  · rfl
theorem cr_E_sA {base : Nat} {cA : Nat → ClassId} {σ : cr_S} {o : Nat} {i v : Int32} (j : Nat) (h : j ≠ o) (x : cr_Sh) : cr_E base cA (sA σ o i v) j x = cr_E base cA σ j x := by
  rcases x with q | q | q | q
  · rfl
  · simp only [cr_E, sA, va_up_ne _ _ h]
  · rfl
  · rfl
theorem cr_E_sL {base : Nat} {cA : Nat → ClassId} {σ : cr_S} {o : Nat} {i : Int32} {v : Int64} (j : Nat) (h : j ≠ o) (x : cr_Sh) : cr_E base cA (sL σ o i v) j x = cr_E base cA σ j x := by
  rcases x with q | q | q | q
  · rfl
  · rfl
  · simp only [cr_E, sL, va_up_ne _ _ h]
  · rfl
/-! the words: all of the tables' that are good; those of nest mates apart -/
def cr_T : List Cond := lw_tbl.filter goodWord
def cr_isN : Cond → Bool
  | .methodLinkNest _ _ _ _ => true
  | _ => false
def cr_NW : List Cond := lw_tbl.filter cr_isN
theorem cr_T_mem {w : Cond} (h : w ∈ lw_tbl) (g : goodWord w = true) : w ∈ cr_T := List.mem_filter.mpr ⟨h, g⟩
theorem cr_T_sub {w : Cond} (h : w ∈ cr_T) : w ∈ lw_tbl := (List.mem_filter.mp h).1
theorem cr_good {ws : List Cond} (h : ∀ w ∈ ws, w ∈ cr_T) : GoodIn cr_T ws := fun w hw => ⟨h w hw, good_of_word (List.mem_filter.mp (h w hw)).2⟩
theorem cr_NW_is {w : Cond} (h : w ∈ cr_NW) : ∃ a i x b, w = .methodLinkNest a i x b := by
  have h := (List.mem_filter.mp h).2
  cases w <;> first | exact ⟨_, _, _, _, rfl⟩ | cases h
theorem cr_NW_warm {u U : State} (hW : u.WarmedH U.vm) (h : ∀ w ∈ cr_NW, va_Nw w u) : ∀ w ∈ cr_NW, va_Nw w U := fun w hw => by
  have := h w hw
  obtain ⟨a, i, x, b, rfl⟩ := cr_NW_is hw
  exact va_Nw.warmM hW this
theorem cr_NW_same {u U : State} (e : u.vm = U.vm) (h : ∀ w ∈ cr_NW, va_Nw w u) : ∀ w ∈ cr_NW, va_Nw w U := fun w hw => by
  have := h w hw
  obtain ⟨a, i, x, b, rfl⟩ := cr_NW_is hw
  exact va_Nw.same rfl e this
def cr_tys (cA : Nat → ClassId) : List (ClassId × FieldType) := [(cA 0, .int), (cA 1, .char), (cA 2, .long), (cA 3, .object "ClashRocks$Pair"), (cA 4, .object "ClashRocks$Ship"), (cA 5, .object "ClashRocks$Voyage"), (cA 6, .object "ClashRocks$Row"), (cA 7, .array .int)]
/-- the world at a state of the machine -/
def cr_H (sf : Nat → cr_Sh) (N base : Nat) (D : va_G) (cA : Nat → ClassId) (σ : cr_S) (U : State) : Prop := va_P D vwCl (cr_L sf N base cA σ) U.heap ∧ va_K D vwCl (cr_tys cA) U ∧ ∀ w ∈ cr_NW, va_Nw w U
def cr_w (y : MethodName) (bytes : ByteArray) (maxL : Nat) (ret : Option FieldType) : List Cond := Cond.code y bytes maxL ret :: cr_T
def cr_Qi (sf : Nat → cr_Sh) (N base : Nat) (D : va_G) (cA : Nat → ClassId) (res : cr_S × Int32) : Array Value → State → Outcome → State → Prop := va_Qi (fun (r : Int32) (_ : Unit) => r = res.2) (fun _ t => va_P D vwCl (cr_L sf N base cA res.1) t.heap) (cr_A N base)
def cr_Ql (sf : Nat → cr_Sh) (N base : Nat) (D : va_G) (cA : Nat → ClassId) (res : cr_S × Int64) : Array Value → State → Outcome → State → Prop := va_Ql (fun (r : Int64) (_ : Unit) => r = res.2) (fun _ t => va_P D vwCl (cr_L sf N base cA res.1) t.heap) (cr_A N base)
def cr_Qv (sf : Nat → cr_Sh) (N base : Nat) (D : va_G) (cA : Nat → ClassId) (res : cr_S) : Array Value → State → Outcome → State → Prop := va_Qv (fun _ : Unit => True) (fun _ t => va_P D vwCl (cr_L sf N base cA res) t.heap) (cr_A N base)
/-- a contract: from the world σ with these arguments -/
def cr_M (l : Launch) (y : MethodName) (bytes : ByteArray) (maxL : Nat) (ret : Option FieldType) (fr lo : Nat) (sf : Nat → cr_Sh) (N base : Nat) (D : va_G) (cA : Nat → ClassId) (av : List Value) (σ : cr_S) (Qc : Array Value → State → Outcome → State → Prop) : Prop :=
  Met l y (cr_w y bytes maxL ret) { frames := fr, cells := 0, slots := 0, locals := lo } (va_Pc av (cr_H sf N base D cA σ)) Qc 0 0 (cr_A N base)
def cr_W (p : Program) (l : Launch) (e : Env) (R : Room) (s : State) (m : MethodId) (args : Array Value) (below : List Frame) (meth : Method) (c : Code) (sf : Nat → cr_Sh) (N base : Nat) (D : va_G) (cA : Nat → ClassId) (nL : Nat) (Q : State → Prop) (σ : cr_S) (pc : Nat) (lv : List (Nat × Value)) (st : List Value) : Prop :=
  ∀ (H : Heap) (locs : List Loc) (ls : Array Slot), va_P D vwCl (cr_L sf N base cA σ) H → va_S (cr_A N base) s.heap H locs → lv_has ls nL lv → W p l e R s m args below meth c H locs 0 0 Q (F0 m pc ls st)
def cr_C (p : Program) (l : Launch) (e : Env) (R : Room) (s : State) (m : MethodId) (args : Array Value) (below : List Frame) (meth : Method) (c : Code) (sf : Nat → cr_Sh) (N base : Nat) (D : va_G) (cA : Nat → ClassId) (cc : ByteArray) (nL : Nat) (own : String) : Prop :=
  p.tables.exec = Jvm.exec ∧ c.code = cc ∧ c.maxLocals = nL ∧ s.vm.findClass own = some m.cls ∧ (∀ w ∈ cr_T, w.before args s = true) ∧ (∀ w ∈ cr_NW, va_Nw w s) ∧ va_K D vwCl (cr_tys cA) s ∧ meth.locks = false
section
variable {p : Program} {l : Launch} {e : Env} {R : Room} {s : State} {m : MethodId} {args : Array Value} {below : List Frame} {meth : Method} {c : Code} {sf : Nat → cr_Sh} {N base : Nat} {D : va_G} {cA : Nat → ClassId} {cc : ByteArray} {nL : Nat} {own : String} {Q : State → Prop} {σ : cr_S} {pc pc' : Nat} {lv lv' : List (Nat × Value)} {st : List Value}
theorem g_iconst (C : cr_C p l e R s m args below meth c sf N base D cA cc nL own) {n : Int} {v : Int32} (hd : decode cc pc = .ok (.iconst n, 1)) (hv : Int32.ofInt n = v) (hp : pc + 1 = pc') (k : cr_W p l e R s m args below meth c sf N base D cA nL Q σ pc' lv (.int v :: st)) : cr_W p l e R s m args below meth c sf N base D cA nL Q σ pc lv (st) := by
  subst hp
  intro H locs ls hP hS hl
  exact lv_iconst C.1 C.2.1 hd hv (k H locs ls hP hS hl)
theorem g_bipush (C : cr_C p l e R s m args below meth c sf N base D cA cc nL own) {n : Int} {v : Int32} (hd : decode cc pc = .ok (.bipush n, 2)) (hv : (Int8.ofInt n).toInt32 = v) (hp : pc + 2 = pc') (k : cr_W p l e R s m args below meth c sf N base D cA nL Q σ pc' lv (.int v :: st)) : cr_W p l e R s m args below meth c sf N base D cA nL Q σ pc lv (st) := by
  subst hp
  intro H locs ls hP hS hl
  exact lv_bipush C.1 C.2.1 hd hv (k H locs ls hP hS hl)
theorem g_sipush (C : cr_C p l e R s m args below meth c sf N base D cA cc nL own) {n : Int} {v : Int32} (hd : decode cc pc = .ok (.sipush n, 3)) (hv : (Int16.ofInt n).toInt32 = v) (hp : pc + 3 = pc') (k : cr_W p l e R s m args below meth c sf N base D cA nL Q σ pc' lv (.int v :: st)) : cr_W p l e R s m args below meth c sf N base D cA nL Q σ pc lv (st) := by
  subst hp
  intro H locs ls hP hS hl
  exact lv_sipush C.1 C.2.1 hd hv (k H locs ls hP hS hl)
theorem g_lconst (C : cr_C p l e R s m args below meth c sf N base D cA cc nL own) {n : Fin 2} {v : Int64} (hd : decode cc pc = .ok (.lconst n, 1)) (hv : Int64.ofNat (n : Nat) = v) (hp : pc + 1 = pc') (k : cr_W p l e R s m args below meth c sf N base D cA nL Q σ pc' lv (.long v :: st)) : cr_W p l e R s m args below meth c sf N base D cA nL Q σ pc lv (st) := by
  subst hp
  intro H locs ls hP hS hl
  exact lv_lconst C.1 C.2.1 hd hv (k H locs ls hP hS hl)
theorem g_ldc (C : cr_C p l e R s m args below meth c sf N base D cA cc nL own) {index : Nat} {v : Int32} (hd : decode cc pc = .ok (.ldc index, 2)) (hw : Cond.constant own index v ∈ cr_T) (hp : pc + 2 = pc') (k : cr_W p l e R s m args below meth c sf N base D cA nL Q σ pc' lv (.int v :: st)) : cr_W p l e R s m args below meth c sf N base D cA nL Q σ pc lv (st) := by
  subst hp
  intro H locs ls hP hS hl
  exact lv_ldc C.1 C.2.1 C.2.2.2.1 (C.2.2.2.2.1 _ hw) hd (k H locs ls hP hS hl)
theorem g_ldcw (C : cr_C p l e R s m args below meth c sf N base D cA cc nL own) {index : Nat} {v : Int32} (hd : decode cc pc = .ok (.ldc_w index, 3)) (hw : Cond.constant own index v ∈ cr_T) (hp : pc + 3 = pc') (k : cr_W p l e R s m args below meth c sf N base D cA nL Q σ pc' lv (.int v :: st)) : cr_W p l e R s m args below meth c sf N base D cA nL Q σ pc lv (st) := by
  subst hp
  intro H locs ls hP hS hl
  exact lv_ldcw C.1 C.2.1 C.2.2.2.1 (C.2.2.2.2.1 _ hw) hd (k H locs ls hP hS hl)
theorem g_ldc2 (C : cr_C p l e R s m args below meth c sf N base D cA cc nL own) {index : Nat} {v : Int64} (hd : decode cc pc = .ok (.ldc2_w index, 3)) (hw : Cond.constantLong own index v ∈ cr_T) (hp : pc + 3 = pc') (k : cr_W p l e R s m args below meth c sf N base D cA nL Q σ pc' lv (.long v :: st)) : cr_W p l e R s m args below meth c sf N base D cA nL Q σ pc lv (st) := by
  subst hp
  intro H locs ls hP hS hl
  exact lv_ldc2 C.1 C.2.1 C.2.2.2.1 (C.2.2.2.2.1 _ hw) hd (k H locs ls hP hS hl)
theorem g_iadd (C : cr_C p l e R s m args below meth c sf N base D cA cc nL own) {x y : Int32} (hd : decode cc pc = .ok (.iadd, 1))  (hp : pc + 1 = pc') (k : cr_W p l e R s m args below meth c sf N base D cA nL Q σ pc' lv (.int (x + y) :: st)) : cr_W p l e R s m args below meth c sf N base D cA nL Q σ pc lv (.int y :: .int x :: st) := by
  subst hp
  intro H locs ls hP hS hl
  exact lv_iadd C.1 C.2.1 hd (k H locs ls hP hS hl)
theorem g_isub (C : cr_C p l e R s m args below meth c sf N base D cA cc nL own) {x y : Int32} (hd : decode cc pc = .ok (.isub, 1))  (hp : pc + 1 = pc') (k : cr_W p l e R s m args below meth c sf N base D cA nL Q σ pc' lv (.int (x - y) :: st)) : cr_W p l e R s m args below meth c sf N base D cA nL Q σ pc lv (.int y :: .int x :: st) := by
  subst hp
  intro H locs ls hP hS hl
  exact lv_isub C.1 C.2.1 hd (k H locs ls hP hS hl)
theorem g_imul (C : cr_C p l e R s m args below meth c sf N base D cA cc nL own) {x y : Int32} (hd : decode cc pc = .ok (.imul, 1))  (hp : pc + 1 = pc') (k : cr_W p l e R s m args below meth c sf N base D cA nL Q σ pc' lv (.int (x * y) :: st)) : cr_W p l e R s m args below meth c sf N base D cA nL Q σ pc lv (.int y :: .int x :: st) := by
  subst hp
  intro H locs ls hP hS hl
  exact lv_imul C.1 C.2.1 hd (k H locs ls hP hS hl)
theorem g_iand (C : cr_C p l e R s m args below meth c sf N base D cA cc nL own) {x y : Int32} (hd : decode cc pc = .ok (.iand, 1))  (hp : pc + 1 = pc') (k : cr_W p l e R s m args below meth c sf N base D cA nL Q σ pc' lv (.int (x &&& y) :: st)) : cr_W p l e R s m args below meth c sf N base D cA nL Q σ pc lv (.int y :: .int x :: st) := by
  subst hp
  intro H locs ls hP hS hl
  exact lv_iand C.1 C.2.1 hd (k H locs ls hP hS hl)
theorem g_ior (C : cr_C p l e R s m args below meth c sf N base D cA cc nL own) {x y : Int32} (hd : decode cc pc = .ok (.ior, 1))  (hp : pc + 1 = pc') (k : cr_W p l e R s m args below meth c sf N base D cA nL Q σ pc' lv (.int (x ||| y) :: st)) : cr_W p l e R s m args below meth c sf N base D cA nL Q σ pc lv (.int y :: .int x :: st) := by
  subst hp
  intro H locs ls hP hS hl
  exact lv_ior C.1 C.2.1 hd (k H locs ls hP hS hl)
theorem g_ixor (C : cr_C p l e R s m args below meth c sf N base D cA cc nL own) {x y : Int32} (hd : decode cc pc = .ok (.ixor, 1))  (hp : pc + 1 = pc') (k : cr_W p l e R s m args below meth c sf N base D cA nL Q σ pc' lv (.int (x ^^^ y) :: st)) : cr_W p l e R s m args below meth c sf N base D cA nL Q σ pc lv (.int y :: .int x :: st) := by
  subst hp
  intro H locs ls hP hS hl
  exact lv_ixor C.1 C.2.1 hd (k H locs ls hP hS hl)
theorem g_ishl (C : cr_C p l e R s m args below meth c sf N base D cA cc nL own) {x y : Int32} (hd : decode cc pc = .ok (.ishl, 1))  (hp : pc + 1 = pc') (k : cr_W p l e R s m args below meth c sf N base D cA nL Q σ pc' lv (.int (x <<< (y &&& 31)) :: st)) : cr_W p l e R s m args below meth c sf N base D cA nL Q σ pc lv (.int y :: .int x :: st) := by
  subst hp
  intro H locs ls hP hS hl
  exact lv_ishl C.1 C.2.1 hd (k H locs ls hP hS hl)
theorem g_ishr (C : cr_C p l e R s m args below meth c sf N base D cA cc nL own) {x y : Int32} (hd : decode cc pc = .ok (.ishr, 1))  (hp : pc + 1 = pc') (k : cr_W p l e R s m args below meth c sf N base D cA nL Q σ pc' lv (.int (x >>> (y &&& 31)) :: st)) : cr_W p l e R s m args below meth c sf N base D cA nL Q σ pc lv (.int y :: .int x :: st) := by
  subst hp
  intro H locs ls hP hS hl
  exact lv_ishr C.1 C.2.1 hd (k H locs ls hP hS hl)
theorem g_idiv (C : cr_C p l e R s m args below meth c sf N base D cA cc nL own) {x y : Int32} (hd : decode cc pc = .ok (.idiv, 1)) (hne : ¬ y = 0) (hp : pc + 1 = pc') (k : cr_W p l e R s m args below meth c sf N base D cA nL Q σ pc' lv (.int (x / y) :: st)) : cr_W p l e R s m args below meth c sf N base D cA nL Q σ pc lv (.int y :: .int x :: st) := by
  subst hp
  intro H locs ls hP hS hl
  exact lv_idiv C.1 C.2.1 hd hne (k H locs ls hP hS hl)
theorem g_irem (C : cr_C p l e R s m args below meth c sf N base D cA cc nL own) {x y : Int32} (hd : decode cc pc = .ok (.irem, 1)) (hne : ¬ y = 0) (hp : pc + 1 = pc') (k : cr_W p l e R s m args below meth c sf N base D cA nL Q σ pc' lv (.int (x - x / y * y) :: st)) : cr_W p l e R s m args below meth c sf N base D cA nL Q σ pc lv (.int y :: .int x :: st) := by
  subst hp
  intro H locs ls hP hS hl
  exact lv_irem C.1 C.2.1 hd hne (k H locs ls hP hS hl)
theorem g_ineg (C : cr_C p l e R s m args below meth c sf N base D cA cc nL own) {x : Int32} (hd : decode cc pc = .ok (.ineg, 1))  (hp : pc + 1 = pc') (k : cr_W p l e R s m args below meth c sf N base D cA nL Q σ pc' lv (.int (-x) :: st)) : cr_W p l e R s m args below meth c sf N base D cA nL Q σ pc lv (.int x :: st) := by
  subst hp
  intro H locs ls hP hS hl
  exact lv_ineg C.1 C.2.1 hd (k H locs ls hP hS hl)
theorem g_iushr (C : cr_C p l e R s m args below meth c sf N base D cA cc nL own) {x y : Int32} (hd : decode cc pc = .ok (.iushr, 1))  (hp : pc + 1 = pc') (k : cr_W p l e R s m args below meth c sf N base D cA nL Q σ pc' lv (.int ((x.toUInt32 >>> (y.toUInt32 &&& Int32.toUInt32 31)).toInt32) :: st)) : cr_W p l e R s m args below meth c sf N base D cA nL Q σ pc lv (.int y :: .int x :: st) := by
  subst hp
  intro H locs ls hP hS hl
  exact lv_iushr C.1 C.2.1 hd rfl (k H locs ls hP hS hl)
theorem g_i2l (C : cr_C p l e R s m args below meth c sf N base D cA cc nL own) {x : Int32} (hd : decode cc pc = .ok (.i2l, 1))  (hp : pc + 1 = pc') (k : cr_W p l e R s m args below meth c sf N base D cA nL Q σ pc' lv (.long x.toInt64 :: st)) : cr_W p l e R s m args below meth c sf N base D cA nL Q σ pc lv (.int x :: st) := by
  subst hp
  intro H locs ls hP hS hl
  exact lv_i2l C.1 C.2.1 hd rfl (k H locs ls hP hS hl)
theorem g_l2i (C : cr_C p l e R s m args below meth c sf N base D cA cc nL own) {x : Int64} (hd : decode cc pc = .ok (.l2i, 1))  (hp : pc + 1 = pc') (k : cr_W p l e R s m args below meth c sf N base D cA nL Q σ pc' lv (.int x.toInt32 :: st)) : cr_W p l e R s m args below meth c sf N base D cA nL Q σ pc lv (.long x :: st) := by
  subst hp
  intro H locs ls hP hS hl
  exact lv_l2i C.1 C.2.1 hd rfl (k H locs ls hP hS hl)
theorem g_i2b (C : cr_C p l e R s m args below meth c sf N base D cA cc nL own) {x : Int32} (hd : decode cc pc = .ok (.i2b, 1))  (hp : pc + 1 = pc') (k : cr_W p l e R s m args below meth c sf N base D cA nL Q σ pc' lv (.int x.toInt8.toInt32 :: st)) : cr_W p l e R s m args below meth c sf N base D cA nL Q σ pc lv (.int x :: st) := by
  subst hp
  intro H locs ls hP hS hl
  exact lv_i2b C.1 C.2.1 hd rfl (k H locs ls hP hS hl)
theorem g_i2s (C : cr_C p l e R s m args below meth c sf N base D cA cc nL own) {x : Int32} (hd : decode cc pc = .ok (.i2s, 1))  (hp : pc + 1 = pc') (k : cr_W p l e R s m args below meth c sf N base D cA nL Q σ pc' lv (.int x.toInt16.toInt32 :: st)) : cr_W p l e R s m args below meth c sf N base D cA nL Q σ pc lv (.int x :: st) := by
  subst hp
  intro H locs ls hP hS hl
  exact lv_i2s C.1 C.2.1 hd rfl (k H locs ls hP hS hl)
theorem g_i2c (C : cr_C p l e R s m args below meth c sf N base D cA cc nL own) {x : Int32} (hd : decode cc pc = .ok (.i2c, 1))  (hp : pc + 1 = pc') (k : cr_W p l e R s m args below meth c sf N base D cA nL Q σ pc' lv (.int ((x.toUInt32 % 65536).toInt32) :: st)) : cr_W p l e R s m args below meth c sf N base D cA nL Q σ pc lv (.int x :: st) := by
  subst hp
  intro H locs ls hP hS hl
  exact lv_i2c C.1 C.2.1 hd rfl (k H locs ls hP hS hl)
theorem g_ladd (C : cr_C p l e R s m args below meth c sf N base D cA cc nL own) {x y : Int64} (hd : decode cc pc = .ok (.ladd, 1))  (hp : pc + 1 = pc') (k : cr_W p l e R s m args below meth c sf N base D cA nL Q σ pc' lv (.long (x + y) :: st)) : cr_W p l e R s m args below meth c sf N base D cA nL Q σ pc lv (.long y :: .long x :: st) := by
  subst hp
  intro H locs ls hP hS hl
  exact lv_ladd C.1 C.2.1 hd (k H locs ls hP hS hl)
theorem g_land (C : cr_C p l e R s m args below meth c sf N base D cA cc nL own) {x y : Int64} (hd : decode cc pc = .ok (.land, 1))  (hp : pc + 1 = pc') (k : cr_W p l e R s m args below meth c sf N base D cA nL Q σ pc' lv (.long (x &&& y) :: st)) : cr_W p l e R s m args below meth c sf N base D cA nL Q σ pc lv (.long y :: .long x :: st) := by
  subst hp
  intro H locs ls hP hS hl
  exact lv_land C.1 C.2.1 hd (k H locs ls hP hS hl)
theorem g_lor (C : cr_C p l e R s m args below meth c sf N base D cA cc nL own) {x y : Int64} (hd : decode cc pc = .ok (.lor, 1))  (hp : pc + 1 = pc') (k : cr_W p l e R s m args below meth c sf N base D cA nL Q σ pc' lv (.long (x ||| y) :: st)) : cr_W p l e R s m args below meth c sf N base D cA nL Q σ pc lv (.long y :: .long x :: st) := by
  subst hp
  intro H locs ls hP hS hl
  exact lv_lor C.1 C.2.1 hd (k H locs ls hP hS hl)
theorem g_lshl (C : cr_C p l e R s m args below meth c sf N base D cA cc nL own) {x : Int64} {y : Int32} (hd : decode cc pc = .ok (.lshl, 1))  (hp : pc + 1 = pc') (k : cr_W p l e R s m args below meth c sf N base D cA nL Q σ pc' lv (.long (x <<< (y.toInt64 &&& 63)) :: st)) : cr_W p l e R s m args below meth c sf N base D cA nL Q σ pc lv (.int y :: .long x :: st) := by
  subst hp
  intro H locs ls hP hS hl
  exact lv_lshl C.1 C.2.1 hd rfl (k H locs ls hP hS hl)
theorem g_lcmp (C : cr_C p l e R s m args below meth c sf N base D cA cc nL own) {x y : Int64} (hd : decode cc pc = .ok (.lcmp, 1))  (hp : pc + 1 = pc') (k : cr_W p l e R s m args below meth c sf N base D cA nL Q σ pc' lv (.int (lg_cmp x y) :: st)) : cr_W p l e R s m args below meth c sf N base D cA nL Q σ pc lv (.long y :: .long x :: st) := by
  subst hp
  intro H locs ls hP hS hl
  exact W.lcmp C.1 C.2.1 hd (k H locs ls hP hS hl)
theorem g_dup (C : cr_C p l e R s m args below meth c sf N base D cA cc nL own) {va : Value} (hd : decode cc pc = .ok (.dup, 1)) (hc : va.category = 1) (hp : pc + 1 = pc') (k : cr_W p l e R s m args below meth c sf N base D cA nL Q σ pc' lv (va :: va :: st)) : cr_W p l e R s m args below meth c sf N base D cA nL Q σ pc lv (va :: st) := by
  subst hp
  intro H locs ls hP hS hl
  exact lv_dup C.1 C.2.1 hd hc (k H locs ls hP hS hl)
theorem g_pop (C : cr_C p l e R s m args below meth c sf N base D cA cc nL own) {va : Value} (hd : decode cc pc = .ok (.pop, 1)) (hc : va.category = 1) (hp : pc + 1 = pc') (k : cr_W p l e R s m args below meth c sf N base D cA nL Q σ pc' lv (st)) : cr_W p l e R s m args below meth c sf N base D cA nL Q σ pc lv (va :: st) := by
  subst hp
  intro H locs ls hP hS hl
  exact lv_pop C.1 C.2.1 hd hc (k H locs ls hP hS hl)
theorem g_dup_x1 (C : cr_C p l e R s m args below meth c sf N base D cA cc nL own) {va vb : Value} (hd : decode cc pc = .ok (.dup_x1, 1)) (hc : va.category = 1) (hc2 : vb.category = 1) (hp : pc + 1 = pc') (k : cr_W p l e R s m args below meth c sf N base D cA nL Q σ pc' lv (va :: vb :: va :: st)) : cr_W p l e R s m args below meth c sf N base D cA nL Q σ pc lv (va :: vb :: st) := by
  subst hp
  intro H locs ls hP hS hl
  exact lv_dup_x1 C.1 C.2.1 hd hc hc2 (k H locs ls hP hS hl)
theorem g_dup2 (C : cr_C p l e R s m args below meth c sf N base D cA cc nL own) {va vb : Value} (hd : decode cc pc = .ok (.dup2, 1)) (hc : va.category = 1) (hc2 : vb.category = 1) (hp : pc + 1 = pc') (k : cr_W p l e R s m args below meth c sf N base D cA nL Q σ pc' lv (va :: vb :: va :: vb :: st)) : cr_W p l e R s m args below meth c sf N base D cA nL Q σ pc lv (va :: vb :: st) := by
  subst hp
  intro H locs ls hP hS hl
  exact lv_dup2_11 C.1 C.2.1 hd hc hc2 (k H locs ls hP hS hl)
theorem g_iload (C : cr_C p l e R s m args below meth c sf N base D cA cc nL own) {i : Nat} {x : Int32} (hd : decode cc pc = .ok (.iload i, 2)) (n : Nat) (hk : lv[n]? = some (i, .int x)) (hp : pc + 2 = pc') (k : cr_W p l e R s m args below meth c sf N base D cA nL Q σ pc' lv (.int x :: st)) : cr_W p l e R s m args below meth c sf N base D cA nL Q σ pc lv (st) := by
  subst hp
  intro H locs ls hP hS hl
  exact lv_iload C.1 C.2.1 hd (lv_at hl n hk) (k H locs ls hP hS hl)
theorem g_iload_n (C : cr_C p l e R s m args below meth c sf N base D cA cc nL own) {j : Fin 4} {x : Int32} (hd : decode cc pc = .ok (.iload_n j, 1)) (n : Nat) (hk : lv[n]? = some ((j : Nat), .int x)) (hp : pc + 1 = pc') (k : cr_W p l e R s m args below meth c sf N base D cA nL Q σ pc' lv (.int x :: st)) : cr_W p l e R s m args below meth c sf N base D cA nL Q σ pc lv (st) := by
  subst hp
  intro H locs ls hP hS hl
  exact lv_iload_n C.1 C.2.1 hd rfl (lv_at hl n hk) (k H locs ls hP hS hl)
theorem g_lload (C : cr_C p l e R s m args below meth c sf N base D cA cc nL own) {i : Nat} {x : Int64} (hd : decode cc pc = .ok (.lload i, 2)) (n : Nat) (hk : lv[n]? = some (i, .long x)) (hp : pc + 2 = pc') (k : cr_W p l e R s m args below meth c sf N base D cA nL Q σ pc' lv (.long x :: st)) : cr_W p l e R s m args below meth c sf N base D cA nL Q σ pc lv (st) := by
  subst hp
  intro H locs ls hP hS hl
  exact lv_lload C.1 C.2.1 hd (lv_at hl n hk) (k H locs ls hP hS hl)
theorem g_lload_n (C : cr_C p l e R s m args below meth c sf N base D cA cc nL own) {j : Fin 4} {x : Int64} (hd : decode cc pc = .ok (.lload_n j, 1)) (n : Nat) (hk : lv[n]? = some ((j : Nat), .long x)) (hp : pc + 1 = pc') (k : cr_W p l e R s m args below meth c sf N base D cA nL Q σ pc' lv (.long x :: st)) : cr_W p l e R s m args below meth c sf N base D cA nL Q σ pc lv (st) := by
  subst hp
  intro H locs ls hP hS hl
  exact lv_lload_n C.1 C.2.1 hd rfl (lv_at hl n hk) (k H locs ls hP hS hl)
theorem g_aload (C : cr_C p l e R s m args below meth c sf N base D cA cc nL own) {i : Nat} {x : Nat} (hd : decode cc pc = .ok (.aload i, 2)) (n : Nat) (hk : lv[n]? = some (i, .ref x)) (hp : pc + 2 = pc') (k : cr_W p l e R s m args below meth c sf N base D cA nL Q σ pc' lv (.ref x :: st)) : cr_W p l e R s m args below meth c sf N base D cA nL Q σ pc lv (st) := by
  subst hp
  intro H locs ls hP hS hl
  exact lv_aload C.1 C.2.1 hd (lv_at hl n hk) (k H locs ls hP hS hl)
theorem g_aload_n (C : cr_C p l e R s m args below meth c sf N base D cA cc nL own) {j : Fin 4} {x : Nat} (hd : decode cc pc = .ok (.aload_n j, 1)) (n : Nat) (hk : lv[n]? = some ((j : Nat), .ref x)) (hp : pc + 1 = pc') (k : cr_W p l e R s m args below meth c sf N base D cA nL Q σ pc' lv (.ref x :: st)) : cr_W p l e R s m args below meth c sf N base D cA nL Q σ pc lv (st) := by
  subst hp
  intro H locs ls hP hS hl
  exact lv_aload_n C.1 C.2.1 hd rfl (lv_at hl n hk) (k H locs ls hP hS hl)
theorem g_istore (C : cr_C p l e R s m args below meth c sf N base D cA cc nL own) {i : Nat} {x : Int32} (hd : decode cc pc = .ok (.istore i, 2))  (hn : i < nL) (hv : (i, Value.int x) :: lv.filter (fun q => !(q.1 == i) && !(q.1 + 1 == i && q.2.category == 2)) = lv') (hp : pc + 2 = pc') (k : cr_W p l e R s m args below meth c sf N base D cA nL Q σ pc' lv' st) : cr_W p l e R s m args below meth c sf N base D cA nL Q σ pc lv (Value.int x :: st) := by
  subst hp
  intro H locs ls hP hS hl
  exact lv_istore C.1 C.2.1 hd hl hn hv (fun ls' hl' => k H locs ls' hP hS hl')
theorem g_istore_n (C : cr_C p l e R s m args below meth c sf N base D cA cc nL own) {j : Fin 4} {i : Nat} {x : Int32} (hd : decode cc pc = .ok (.istore_n j, 1)) (hi : (j : Nat) = i) (hn : i < nL) (hv : (i, Value.int x) :: lv.filter (fun q => !(q.1 == i) && !(q.1 + 1 == i && q.2.category == 2)) = lv') (hp : pc + 1 = pc') (k : cr_W p l e R s m args below meth c sf N base D cA nL Q σ pc' lv' st) : cr_W p l e R s m args below meth c sf N base D cA nL Q σ pc lv (Value.int x :: st) := by
  subst hp
  intro H locs ls hP hS hl
  exact lv_istore_n C.1 C.2.1 hd hi hl hn hv (fun ls' hl' => k H locs ls' hP hS hl')
theorem g_lstore (C : cr_C p l e R s m args below meth c sf N base D cA cc nL own) {i : Nat} {x : Int64} (hd : decode cc pc = .ok (.lstore i, 2))  (hn : i + 1 < nL) (hv : (i, Value.long x) :: lv.filter (fun q => !(q.1 == i) && (!(q.1 == i + 1) && !(q.1 + 1 == i && q.2.category == 2))) = lv') (hp : pc + 2 = pc') (k : cr_W p l e R s m args below meth c sf N base D cA nL Q σ pc' lv' st) : cr_W p l e R s m args below meth c sf N base D cA nL Q σ pc lv (Value.long x :: st) := by
  subst hp
  intro H locs ls hP hS hl
  exact lv_lstore C.1 C.2.1 hd hl hn hv (fun ls' hl' => k H locs ls' hP hS hl')
theorem g_lstore_n (C : cr_C p l e R s m args below meth c sf N base D cA cc nL own) {j : Fin 4} {i : Nat} {x : Int64} (hd : decode cc pc = .ok (.lstore_n j, 1)) (hi : (j : Nat) = i) (hn : i + 1 < nL) (hv : (i, Value.long x) :: lv.filter (fun q => !(q.1 == i) && (!(q.1 == i + 1) && !(q.1 + 1 == i && q.2.category == 2))) = lv') (hp : pc + 1 = pc') (k : cr_W p l e R s m args below meth c sf N base D cA nL Q σ pc' lv' st) : cr_W p l e R s m args below meth c sf N base D cA nL Q σ pc lv (Value.long x :: st) := by
  subst hp
  intro H locs ls hP hS hl
  exact lv_lstore_n C.1 C.2.1 hd hi hl hn hv (fun ls' hl' => k H locs ls' hP hS hl')
theorem g_astore (C : cr_C p l e R s m args below meth c sf N base D cA cc nL own) {i : Nat} {x : Nat} (hd : decode cc pc = .ok (.astore i, 2))  (hn : i < nL) (hv : (i, Value.ref x) :: lv.filter (fun q => !(q.1 == i) && !(q.1 + 1 == i && q.2.category == 2)) = lv') (hp : pc + 2 = pc') (k : cr_W p l e R s m args below meth c sf N base D cA nL Q σ pc' lv' st) : cr_W p l e R s m args below meth c sf N base D cA nL Q σ pc lv (Value.ref x :: st) := by
  subst hp
  intro H locs ls hP hS hl
  exact lv_astore C.1 C.2.1 hd hl hn hv (fun ls' hl' => k H locs ls' hP hS hl')
theorem g_astore_n (C : cr_C p l e R s m args below meth c sf N base D cA cc nL own) {j : Fin 4} {i : Nat} {x : Nat} (hd : decode cc pc = .ok (.astore_n j, 1)) (hi : (j : Nat) = i) (hn : i < nL) (hv : (i, Value.ref x) :: lv.filter (fun q => !(q.1 == i) && !(q.1 + 1 == i && q.2.category == 2)) = lv') (hp : pc + 1 = pc') (k : cr_W p l e R s m args below meth c sf N base D cA nL Q σ pc' lv' st) : cr_W p l e R s m args below meth c sf N base D cA nL Q σ pc lv (Value.ref x :: st) := by
  subst hp
  intro H locs ls hP hS hl
  exact lv_astore_n C.1 C.2.1 hd hi hl hn hv (fun ls' hl' => k H locs ls' hP hS hl')
theorem g_iinc (C : cr_C p l e R s m args below meth c sf N base D cA cc nL own) {i : Nat} {d : Int} {x v : Int32} (hd : decode cc pc = .ok (.iinc i d, 3)) (n : Nat) (hk : lv[n]? = some (i, .int x)) (hw : x + Int32.ofInt d = v) (hn : i < nL) (hv : (i, Value.int v) :: lv.filter (fun q => !(q.1 == i) && !(q.1 + 1 == i && q.2.category == 2)) = lv') (hp : pc + 3 = pc') (k : cr_W p l e R s m args below meth c sf N base D cA nL Q σ pc' lv' st) : cr_W p l e R s m args below meth c sf N base D cA nL Q σ pc lv st := by
  subst hp
  intro H locs ls hP hS hl
  exact lv_iinc C.1 C.2.1 hd hl hk hw hn hv (fun ls' hl' => k H locs ls' hP hS hl')
theorem g_if_eq (C : cr_C p l e R s m args below meth c sf N base D cA cc nL own) {x : Int32} {off : Int} {tgt : Nat} (hd : decode cc pc = .ok (.ifCond .eq off, 3)) (ht : (pc : Int) + off = (tgt : Int)) (hp : pc + 3 = pc') (kt : x = 0 → cr_W p l e R s m args below meth c sf N base D cA nL Q σ tgt lv st) (kf : ¬ x = 0 → cr_W p l e R s m args below meth c sf N base D cA nL Q σ pc' lv st) : cr_W p l e R s m args below meth c sf N base D cA nL Q σ pc lv (.int x :: st) := by
  subst hp
  intro H locs ls hP hS hl
  exact lv_if_eq C.1 C.2.1 hd ht (fun q => kt q H locs ls hP hS hl) (fun q => kf q H locs ls hP hS hl)
theorem g_icmp_eq (C : cr_C p l e R s m args below meth c sf N base D cA cc nL own) {x y : Int32} {off : Int} {tgt : Nat} (hd : decode cc pc = .ok (.if_icmp .eq off, 3)) (ht : (pc : Int) + off = (tgt : Int)) (hp : pc + 3 = pc') (kt : x = y → cr_W p l e R s m args below meth c sf N base D cA nL Q σ tgt lv st) (kf : ¬ x = y → cr_W p l e R s m args below meth c sf N base D cA nL Q σ pc' lv st) : cr_W p l e R s m args below meth c sf N base D cA nL Q σ pc lv (.int y :: .int x :: st) := by
  subst hp
  intro H locs ls hP hS hl
  exact lv_icmp_eq C.1 C.2.1 hd ht (fun q => kt q H locs ls hP hS hl) (fun q => kf q H locs ls hP hS hl)
theorem g_if_ne (C : cr_C p l e R s m args below meth c sf N base D cA cc nL own) {x : Int32} {off : Int} {tgt : Nat} (hd : decode cc pc = .ok (.ifCond .ne off, 3)) (ht : (pc : Int) + off = (tgt : Int)) (hp : pc + 3 = pc') (kt : ¬ x = 0 → cr_W p l e R s m args below meth c sf N base D cA nL Q σ tgt lv st) (kf : x = 0 → cr_W p l e R s m args below meth c sf N base D cA nL Q σ pc' lv st) : cr_W p l e R s m args below meth c sf N base D cA nL Q σ pc lv (.int x :: st) := by
  subst hp
  intro H locs ls hP hS hl
  exact lv_if_ne C.1 C.2.1 hd ht (fun q => kt q H locs ls hP hS hl) (fun q => kf q H locs ls hP hS hl)
theorem g_icmp_ne (C : cr_C p l e R s m args below meth c sf N base D cA cc nL own) {x y : Int32} {off : Int} {tgt : Nat} (hd : decode cc pc = .ok (.if_icmp .ne off, 3)) (ht : (pc : Int) + off = (tgt : Int)) (hp : pc + 3 = pc') (kt : ¬ x = y → cr_W p l e R s m args below meth c sf N base D cA nL Q σ tgt lv st) (kf : x = y → cr_W p l e R s m args below meth c sf N base D cA nL Q σ pc' lv st) : cr_W p l e R s m args below meth c sf N base D cA nL Q σ pc lv (.int y :: .int x :: st) := by
  subst hp
  intro H locs ls hP hS hl
  exact lv_icmp_ne C.1 C.2.1 hd ht (fun q => kt q H locs ls hP hS hl) (fun q => kf q H locs ls hP hS hl)
theorem g_if_lt (C : cr_C p l e R s m args below meth c sf N base D cA cc nL own) {x : Int32} {off : Int} {tgt : Nat} (hd : decode cc pc = .ok (.ifCond .lt off, 3)) (ht : (pc : Int) + off = (tgt : Int)) (hp : pc + 3 = pc') (kt : x < 0 → cr_W p l e R s m args below meth c sf N base D cA nL Q σ tgt lv st) (kf : ¬ x < 0 → cr_W p l e R s m args below meth c sf N base D cA nL Q σ pc' lv st) : cr_W p l e R s m args below meth c sf N base D cA nL Q σ pc lv (.int x :: st) := by
  subst hp
  intro H locs ls hP hS hl
  exact lv_if_lt C.1 C.2.1 hd ht (fun q => kt q H locs ls hP hS hl) (fun q => kf q H locs ls hP hS hl)
theorem g_icmp_lt (C : cr_C p l e R s m args below meth c sf N base D cA cc nL own) {x y : Int32} {off : Int} {tgt : Nat} (hd : decode cc pc = .ok (.if_icmp .lt off, 3)) (ht : (pc : Int) + off = (tgt : Int)) (hp : pc + 3 = pc') (kt : x < y → cr_W p l e R s m args below meth c sf N base D cA nL Q σ tgt lv st) (kf : ¬ x < y → cr_W p l e R s m args below meth c sf N base D cA nL Q σ pc' lv st) : cr_W p l e R s m args below meth c sf N base D cA nL Q σ pc lv (.int y :: .int x :: st) := by
  subst hp
  intro H locs ls hP hS hl
  exact lv_icmp_lt C.1 C.2.1 hd ht (fun q => kt q H locs ls hP hS hl) (fun q => kf q H locs ls hP hS hl)
theorem g_if_ge (C : cr_C p l e R s m args below meth c sf N base D cA cc nL own) {x : Int32} {off : Int} {tgt : Nat} (hd : decode cc pc = .ok (.ifCond .ge off, 3)) (ht : (pc : Int) + off = (tgt : Int)) (hp : pc + 3 = pc') (kt : 0 ≤ x → cr_W p l e R s m args below meth c sf N base D cA nL Q σ tgt lv st) (kf : ¬ 0 ≤ x → cr_W p l e R s m args below meth c sf N base D cA nL Q σ pc' lv st) : cr_W p l e R s m args below meth c sf N base D cA nL Q σ pc lv (.int x :: st) := by
  subst hp
  intro H locs ls hP hS hl
  exact lv_if_ge C.1 C.2.1 hd ht (fun q => kt q H locs ls hP hS hl) (fun q => kf q H locs ls hP hS hl)
theorem g_icmp_ge (C : cr_C p l e R s m args below meth c sf N base D cA cc nL own) {x y : Int32} {off : Int} {tgt : Nat} (hd : decode cc pc = .ok (.if_icmp .ge off, 3)) (ht : (pc : Int) + off = (tgt : Int)) (hp : pc + 3 = pc') (kt : y ≤ x → cr_W p l e R s m args below meth c sf N base D cA nL Q σ tgt lv st) (kf : ¬ y ≤ x → cr_W p l e R s m args below meth c sf N base D cA nL Q σ pc' lv st) : cr_W p l e R s m args below meth c sf N base D cA nL Q σ pc lv (.int y :: .int x :: st) := by
  subst hp
  intro H locs ls hP hS hl
  exact lv_icmp_ge C.1 C.2.1 hd ht (fun q => kt q H locs ls hP hS hl) (fun q => kf q H locs ls hP hS hl)
theorem g_if_gt (C : cr_C p l e R s m args below meth c sf N base D cA cc nL own) {x : Int32} {off : Int} {tgt : Nat} (hd : decode cc pc = .ok (.ifCond .gt off, 3)) (ht : (pc : Int) + off = (tgt : Int)) (hp : pc + 3 = pc') (kt : 0 < x → cr_W p l e R s m args below meth c sf N base D cA nL Q σ tgt lv st) (kf : ¬ 0 < x → cr_W p l e R s m args below meth c sf N base D cA nL Q σ pc' lv st) : cr_W p l e R s m args below meth c sf N base D cA nL Q σ pc lv (.int x :: st) := by
  subst hp
  intro H locs ls hP hS hl
  exact lv_if_gt C.1 C.2.1 hd ht (fun q => kt q H locs ls hP hS hl) (fun q => kf q H locs ls hP hS hl)
theorem g_icmp_gt (C : cr_C p l e R s m args below meth c sf N base D cA cc nL own) {x y : Int32} {off : Int} {tgt : Nat} (hd : decode cc pc = .ok (.if_icmp .gt off, 3)) (ht : (pc : Int) + off = (tgt : Int)) (hp : pc + 3 = pc') (kt : y < x → cr_W p l e R s m args below meth c sf N base D cA nL Q σ tgt lv st) (kf : ¬ y < x → cr_W p l e R s m args below meth c sf N base D cA nL Q σ pc' lv st) : cr_W p l e R s m args below meth c sf N base D cA nL Q σ pc lv (.int y :: .int x :: st) := by
  subst hp
  intro H locs ls hP hS hl
  exact lv_icmp_gt C.1 C.2.1 hd ht (fun q => kt q H locs ls hP hS hl) (fun q => kf q H locs ls hP hS hl)
theorem g_if_le (C : cr_C p l e R s m args below meth c sf N base D cA cc nL own) {x : Int32} {off : Int} {tgt : Nat} (hd : decode cc pc = .ok (.ifCond .le off, 3)) (ht : (pc : Int) + off = (tgt : Int)) (hp : pc + 3 = pc') (kt : x ≤ 0 → cr_W p l e R s m args below meth c sf N base D cA nL Q σ tgt lv st) (kf : ¬ x ≤ 0 → cr_W p l e R s m args below meth c sf N base D cA nL Q σ pc' lv st) : cr_W p l e R s m args below meth c sf N base D cA nL Q σ pc lv (.int x :: st) := by
  subst hp
  intro H locs ls hP hS hl
  exact lv_if_le C.1 C.2.1 hd ht (fun q => kt q H locs ls hP hS hl) (fun q => kf q H locs ls hP hS hl)
theorem g_icmp_le (C : cr_C p l e R s m args below meth c sf N base D cA cc nL own) {x y : Int32} {off : Int} {tgt : Nat} (hd : decode cc pc = .ok (.if_icmp .le off, 3)) (ht : (pc : Int) + off = (tgt : Int)) (hp : pc + 3 = pc') (kt : x ≤ y → cr_W p l e R s m args below meth c sf N base D cA nL Q σ tgt lv st) (kf : ¬ x ≤ y → cr_W p l e R s m args below meth c sf N base D cA nL Q σ pc' lv st) : cr_W p l e R s m args below meth c sf N base D cA nL Q σ pc lv (.int y :: .int x :: st) := by
  subst hp
  intro H locs ls hP hS hl
  exact lv_icmp_le C.1 C.2.1 hd ht (fun q => kt q H locs ls hP hS hl) (fun q => kf q H locs ls hP hS hl)
theorem g_goto (C : cr_C p l e R s m args below meth c sf N base D cA cc nL own) {off : Int} {tgt : Nat} (hd : decode cc pc = .ok (.goto off, 3)) (ht : (pc : Int) + off = (tgt : Int)) (k : cr_W p l e R s m args below meth c sf N base D cA nL Q σ tgt lv st) : cr_W p l e R s m args below meth c sf N base D cA nL Q σ pc lv st := by
  intro H locs ls hP hS hl
  exact lv_goto C.1 C.2.1 hd ht (k H locs ls hP hS hl)
theorem g_tableIn (C : cr_C p l e R s m args below meth c sf N base D cA cc nL own) {dflt lo hi : Int} {offs : Array Int} {len : Nat} {x : Int32} {off : Int} {tgt : Nat} (hd : decode cc pc = .ok (.tableswitch dflt lo hi offs, len)) (h1 : ¬ x.toInt < lo) (h2 : ¬ hi < x.toInt) (ho : offs[(x.toInt - lo).toNat]? = some off) (ht : (pc : Int) + off = (tgt : Int)) (k : cr_W p l e R s m args below meth c sf N base D cA nL Q σ tgt lv st) : cr_W p l e R s m args below meth c sf N base D cA nL Q σ pc lv (.int x :: st) := by
  intro H locs ls hP hS hl
  exact lv_tableIn C.1 C.2.1 hd h1 h2 ho ht (k H locs ls hP hS hl)
theorem g_tableOut (C : cr_C p l e R s m args below meth c sf N base D cA cc nL own) {dflt lo hi : Int} {offs : Array Int} {len : Nat} {x : Int32} {tgt : Nat} (hd : decode cc pc = .ok (.tableswitch dflt lo hi offs, len)) (h1 : x.toInt < lo ∨ hi < x.toInt) (ht : (pc : Int) + dflt = (tgt : Int)) (k : cr_W p l e R s m args below meth c sf N base D cA nL Q σ tgt lv st) : cr_W p l e R s m args below meth c sf N base D cA nL Q σ pc lv (.int x :: st) := by
  intro H locs ls hP hS hl
  exact lv_tableOut C.1 C.2.1 hd h1 ht (k H locs ls hP hS hl)
theorem g_sub (C : cr_C p l e R s m args below meth c sf N base D cA cc nL own) (ks : List Nat) (hv : lv_pick lv ks = lv') (k : cr_W p l e R s m args below meth c sf N base D cA nL Q σ pc lv' st) : cr_W p l e R s m args below meth c sf N base D cA nL Q σ pc lv st := fun H locs ls hP hS hl => k H locs ls hP hS (lv_sub hl ks hv)
theorem g_getI (C : cr_C p l e R s m args below meth c sf N base D cA cc nL own) {ref : String} {index ci : Nat} {cn : String} {T : u_T} {nf : Nat} {sl : List (Option Nat)} {o : Nat} (hc : vwCl[ci]? = some (cn, T, nf)) (hin : ∀ w ∈ u_ws cn T nf, w ∈ cr_T) (ho : o < N) (hs : sf o = .inl (ci, sl)) (f : Nat) (hf : f < nf) (hsl : sl[f]? = some none) (hw : Cond.fieldLink own index (T f).1 (T f).2.1 (T f).2.2.1 ∈ cr_T) (hd : decode cc pc = .ok (.getfield index, 3)) (hp : pc + 3 = pc') (k : cr_W p l e R s m args below meth c sf N base D cA nL Q σ pc' lv (.int (rF σ o f) :: st)) : cr_W p l e R s m args below meth c sf N base D cA nL Q σ pc lv (.ref (base + o) :: st) := by
  subst hp
  intro H locs ls hP hS hl
  have he := cr_L_at (sf := sf) (base := base) (cA := cA) (σ := σ) ho
  rw [hs] at he
  refine va_get (D := D) (ci := ci) C.1 C.2.1 C.2.2.2.2.1 hin C.2.2.2.1 C.2.2.2.2.2.2.1 hP o he hc f hf (C.2.2.2.2.1 _ hw) (fun _ h9 => h9) (v := .int (rF σ o f)) ?_ hd (k H locs ls hP hS hl)
  have := cr_fs_i (base := base) (f := σ.1 o) (sl := sl) (j := 0) (k := f) hsl
  rwa [Nat.zero_add] at this
theorem g_getR (C : cr_C p l e R s m args below meth c sf N base D cA cc nL own) {index ci : Nat} {cn : String} {T : u_T} {nf : Nat} {sl : List (Option Nat)} {o r : Nat} (hc : vwCl[ci]? = some (cn, T, nf)) (hin : ∀ w ∈ u_ws cn T nf, w ∈ cr_T) (ho : o < N) (hs : sf o = .inl (ci, sl)) (f : Nat) (hf : f < nf) (hsl : sl[f]? = some (some r)) (hw : Cond.fieldLink own index (T f).1 (T f).2.1 (T f).2.2.1 ∈ cr_T) (hd : decode cc pc = .ok (.getfield index, 3)) (hp : pc + 3 = pc') (k : cr_W p l e R s m args below meth c sf N base D cA nL Q σ pc' lv (.ref (base + r) :: st)) : cr_W p l e R s m args below meth c sf N base D cA nL Q σ pc lv (.ref (base + o) :: st) := by
  subst hp
  intro H locs ls hP hS hl
  have he := cr_L_at (sf := sf) (base := base) (cA := cA) (σ := σ) ho
  rw [hs] at he
  exact va_get (D := D) (ci := ci) C.1 C.2.1 C.2.2.2.2.1 hin C.2.2.2.1 C.2.2.2.2.2.2.1 hP o he hc f hf (C.2.2.2.2.1 _ hw) (fun _ h9 => h9) (v := .ref (base + r)) (cr_fs_r hsl) hd (k H locs ls hP hS hl)
theorem g_putI (C : cr_C p l e R s m args below meth c sf N base D cA cc nL own) {σ' : cr_S} {index ci : Nat} {cn : String} {T : u_T} {nf : Nat} {sl : List (Option Nat)} {o : Nat} {v : Int32} {ty : FieldType} (hc : vwCl[ci]? = some (cn, T, nf)) (hin : ∀ w ∈ u_ws cn T nf, w ∈ cr_T) (ty0 : Nat → FieldType) (hty : ∀ k, k < nf → parseFieldDescriptor (T k).2.2.1 = some (ty0 k)) (hnm : ∀ a, a < nf → ∀ b, b < nf → a ≠ b → (T a).2.1 ≠ (T b).2.1) (ho : o < N) (hs : sf o = .inl (ci, sl)) (f : Nat) (hf : f < nf) (hsl : sl[f]? = some none) (hfin : (T f).2.2.2 = false) (hw : Cond.fieldLink own index (T f).1 (T f).2.1 (T f).2.2.1 ∈ cr_T) (htf : ty0 f = ty) (hn : narrow ty (.int v) = .int v) (hfit : fits ty (.int v) = true) (hd : decode cc pc = .ok (.putfield index, 3)) (hp : pc + 3 = pc') (hσ : σ' = sF σ o f v) (k : cr_W p l e R s m args below meth c sf N base D cA nL Q σ' pc' lv st) : cr_W p l e R s m args below meth c sf N base D cA nL Q σ pc lv (.int v :: .ref (base + o) :: st) := by
  subst hp
  subst hσ
  intro H locs ls hP hS hl
  have he := cr_L_at (sf := sf) (base := base) (cA := cA) (σ := σ) ho
  rw [hs] at he
  have hlt : f < (cr_fs base (σ.1 o) 0 sl).length := by
    rw [cr_fs_n]
    exact (List.getElem?_eq_some_iff.mp hsl).1
  refine va_put (D := D) (ci := ci) (ty := ty) C.1 C.2.1 C.2.2.2.2.1 hin ty0 hty hnm C.2.2.2.1 C.2.2.2.2.2.2.1 hP cr_L_D hS o he hc f hf (C.2.2.2.2.1 _ hw) (fun _ h9 => h9) hfin (by rw [hty f hf, htf]) hn hfit hlt hd (fun H1 locs1 hP1 _ hS1 => ?_)
  rw [cr_L_set (σ' := sF σ o f v) ho (by
    rw [hs]
    have := cr_fs_s (base := base) (f := σ.1 o) (v := v) (sl := sl) (j := 0) (k := f) hsl
    rw [Nat.zero_add] at this
    rw [this]
    simp only [cr_E, sF, va_up_self]) (fun j hj x => cr_E_sF j hj x)] at hP1
  exact k H1 locs1 ls hP1 hS1 hl
theorem g_iald (C : cr_C p l e R s m args below meth c sf N base D cA cc nL own) {o n : Nat} {i : Int32} (ho : o < N) (hs : sf o = .inr (.inl (0, n))) (hi : vp_in i n) (hd : decode cc pc = .ok (.iaload, 1)) (hp : pc + 1 = pc') (k : cr_W p l e R s m args below meth c sf N base D cA nL Q σ pc' lv (.int (rA σ o i) :: st)) : cr_W p l e R s m args below meth c sf N base D cA nL Q σ pc lv (.int i :: .ref (base + o) :: st) := by
  subst hp
  intro H locs ls hP hS hl
  have he := cr_L_at (sf := sf) (base := base) (cA := cA) (σ := σ) ho
  rw [hs] at he
  exact va_iald (D := D) C.1 C.2.1 C.2.2.2.2.2.2.1 hP o 0 he rfl hi hd (k H locs ls hP hS hl)
theorem g_cald (C : cr_C p l e R s m args below meth c sf N base D cA cc nL own) {o n : Nat} {i : Int32} (ho : o < N) (hs : sf o = .inr (.inl (1, n))) (hi : vp_in i n) (hd : decode cc pc = .ok (.caload, 1)) (hp : pc + 1 = pc') (k : cr_W p l e R s m args below meth c sf N base D cA nL Q σ pc' lv (.int (rA σ o i) :: st)) : cr_W p l e R s m args below meth c sf N base D cA nL Q σ pc lv (.int i :: .ref (base + o) :: st) := by
  subst hp
  intro H locs ls hP hS hl
  have he := cr_L_at (sf := sf) (base := base) (cA := cA) (σ := σ) ho
  rw [hs] at he
  exact va_cald (D := D) C.1 C.2.1 C.2.2.2.2.2.2.1 hP o 1 he rfl hi hd (k H locs ls hP hS hl)
theorem g_lald (C : cr_C p l e R s m args below meth c sf N base D cA cc nL own) {o n : Nat} {i : Int32} (ho : o < N) (hs : sf o = .inr (.inr (.inl n))) (hi : vp_in i n) (hd : decode cc pc = .ok (.laload, 1)) (hp : pc + 1 = pc') (k : cr_W p l e R s m args below meth c sf N base D cA nL Q σ pc' lv (.long (rL σ o i) :: st)) : cr_W p l e R s m args below meth c sf N base D cA nL Q σ pc lv (.int i :: .ref (base + o) :: st) := by
  subst hp
  intro H locs ls hP hS hl
  have he := cr_L_at (sf := sf) (base := base) (cA := cA) (σ := σ) ho
  rw [hs] at he
  exact va_lald (D := D) C.1 C.2.1 C.2.2.2.2.2.2.1 hP o 2 he rfl hi hd (k H locs ls hP hS hl)
theorem g_iast (C : cr_C p l e R s m args below meth c sf N base D cA cc nL own) {σ' : cr_S} {o n : Nat} {i v : Int32} (ho : o < N) (hs : sf o = .inr (.inl (0, n))) (hi : vp_in i n) (hd : decode cc pc = .ok (.iastore, 1)) (hp : pc + 1 = pc') (hσ : σ' = sA σ o i v) (k : cr_W p l e R s m args below meth c sf N base D cA nL Q σ' pc' lv st) : cr_W p l e R s m args below meth c sf N base D cA nL Q σ pc lv (.int v :: .int i :: .ref (base + o) :: st) := by
  subst hp
  subst hσ
  intro H locs ls hP hS hl
  have he := cr_L_at (sf := sf) (base := base) (cA := cA) (σ := σ) ho
  rw [hs] at he
  refine va_iast (D := D) C.1 C.2.1 C.2.2.2.2.2.2.1 hP cr_L_D hS o 0 he rfl hi hd (fun H1 locs1 hP1 _ hS1 => ?_)
  rw [cr_L_set (σ' := sA σ o i v) ho (by
    rw [hs]
    simp only [cr_E, sA, va_up_self]) (fun j hj x => cr_E_sA j hj x)] at hP1
  exact k H1 locs1 ls hP1 hS1 hl
theorem g_cast (C : cr_C p l e R s m args below meth c sf N base D cA cc nL own) {σ' : cr_S} {o n : Nat} {i v : Int32} (ho : o < N) (hs : sf o = .inr (.inl (1, n))) (hi : vp_in i n) (hd : decode cc pc = .ok (.castore, 1)) (hp : pc + 1 = pc') (hσ : σ' = sA σ o i (vp_nar .char v)) (k : cr_W p l e R s m args below meth c sf N base D cA nL Q σ' pc' lv st) : cr_W p l e R s m args below meth c sf N base D cA nL Q σ pc lv (.int v :: .int i :: .ref (base + o) :: st) := by
  subst hp
  subst hσ
  intro H locs ls hP hS hl
  have he := cr_L_at (sf := sf) (base := base) (cA := cA) (σ := σ) ho
  rw [hs] at he
  refine va_cast (D := D) C.1 C.2.1 C.2.2.2.2.2.2.1 hP cr_L_D hS o 1 he rfl hi hd (fun H1 locs1 hP1 _ hS1 => ?_)
  rw [cr_L_set (σ' := sA σ o i (vp_nar .char v)) ho (by
    rw [hs]
    simp only [cr_E, sA, va_up_self]) (fun j hj x => cr_E_sA j hj x)] at hP1
  exact k H1 locs1 ls hP1 hS1 hl
theorem g_last (C : cr_C p l e R s m args below meth c sf N base D cA cc nL own) {σ' : cr_S} {o n : Nat} {i : Int32} {v : Int64} (ho : o < N) (hs : sf o = .inr (.inr (.inl n))) (hi : vp_in i n) (hd : decode cc pc = .ok (.lastore, 1)) (hp : pc + 1 = pc') (hσ : σ' = sL σ o i v) (k : cr_W p l e R s m args below meth c sf N base D cA nL Q σ' pc' lv st) : cr_W p l e R s m args below meth c sf N base D cA nL Q σ pc lv (.long v :: .int i :: .ref (base + o) :: st) := by
  subst hp
  subst hσ
  intro H locs ls hP hS hl
  have he := cr_L_at (sf := sf) (base := base) (cA := cA) (σ := σ) ho
  rw [hs] at he
  refine va_last (D := D) C.1 C.2.1 C.2.2.2.2.2.2.1 hP cr_L_D hS o 2 he rfl hi hd (fun H1 locs1 hP1 _ hS1 => ?_)
  rw [cr_L_set (σ' := sL σ o i v) ho (by
    rw [hs]
    simp only [cr_E, sL, va_up_self]) (fun j hj x => cr_E_sL j hj x)] at hP1
  exact k H1 locs1 ls hP1 hS1 hl
theorem g_aald (C : cr_C p l e R s m args below meth c sf N base D cA cc nL own) {o n t : Nat} {r : Nat → Nat} {cn : String} {i : Int32} (ho : o < N) (hs : sf o = .inr (.inr (.inr (t, n, r)))) (ht : (cr_tys cA)[t]? = some (cA t, .object cn)) (hi : vp_in i n) (hd : decode cc pc = .ok (.aaload, 1)) (hp : pc + 1 = pc') (k : cr_W p l e R s m args below meth c sf N base D cA nL Q σ pc' lv (.ref (base + r i.toNatClampNeg) :: st)) : cr_W p l e R s m args below meth c sf N base D cA nL Q σ pc lv (.int i :: .ref (base + o) :: st) := by
  subst hp
  intro H locs ls hP hS hl
  have he := cr_L_at (sf := sf) (base := base) (cA := cA) (σ := σ) ho
  rw [hs] at he
  exact va_aldq (D := D) C.1 C.2.1 C.2.2.2.2.2.2.1 hP o t he ht hi hd (k H locs ls hP hS hl)
theorem g_alenI (C : cr_C p l e R s m args below meth c sf N base D cA cc nL own) {o n t : Nat} {v : Int32} {ty : FieldType} (ho : o < N) (hs : sf o = .inr (.inl (t, n))) (ht : (cr_tys cA)[t]? = some (cA t, ty)) (hv : Int32.ofNat n = v) (hd : decode cc pc = .ok (.arraylength, 1)) (hp : pc + 1 = pc') (k : cr_W p l e R s m args below meth c sf N base D cA nL Q σ pc' lv (.int v :: st)) : cr_W p l e R s m args below meth c sf N base D cA nL Q σ pc lv (.ref (base + o) :: st) := by
  subst hp
  intro H locs ls hP hS hl
  have he := cr_L_at (sf := sf) (base := base) (cA := cA) (σ := σ) ho
  rw [hs] at he
  exact va_alen (D := D) C.1 C.2.1 C.2.2.2.2.2.2.1 hP o t he ht hv hd (k H locs ls hP hS hl)
theorem g_alenL (C : cr_C p l e R s m args below meth c sf N base D cA cc nL own) {o n : Nat} {v : Int32} (ho : o < N) (hs : sf o = .inr (.inr (.inl n))) (hv : Int32.ofNat n = v) (hd : decode cc pc = .ok (.arraylength, 1)) (hp : pc + 1 = pc') (k : cr_W p l e R s m args below meth c sf N base D cA nL Q σ pc' lv (.int v :: st)) : cr_W p l e R s m args below meth c sf N base D cA nL Q σ pc lv (.ref (base + o) :: st) := by
  subst hp
  intro H locs ls hP hS hl
  have he := cr_L_at (sf := sf) (base := base) (cA := cA) (σ := σ) ho
  rw [hs] at he
  exact va_alen (D := D) C.1 C.2.1 C.2.2.2.2.2.2.1 hP o 2 he rfl hv hd (k H locs ls hP hS hl)
theorem g_iret (C : cr_C p l e R s m args below meth c sf N base D cA cc nL own) {res : cr_S × Int32} {v : Int32} (hr : meth.sig.returnType = some .int)  (hd : decode cc pc = .ok (.ireturn, 1)) (h : (some (σ, v) : Option (cr_S × Int32)) = some res) : cr_W p l e R s m args below meth c sf N base D cA nL (MQ below (cr_Qi sf N base D cA res) args s 0 0 (cr_A N base)) σ pc lv [.int v] := by
  intro H locs ls hP hS hl
  have hlocks : meth.locks = false := C.2.2.2.2.2.2.2
  cases h
  exact W.iret (v := v) C.1 C.2.1 hr (fun t ht hW => ⟨⟨v, (), rfl, rfl, by show va_P _ _ _ t.heap; rw [ht]; exact hP⟩, hS.F ht⟩) hS.2.2 hd
theorem g_zret (C : cr_C p l e R s m args below meth c sf N base D cA cc nL own) {res : cr_S × Int32} {v : Int32} (hr : meth.sig.returnType = some .boolean) (hz : narrow .boolean (.int v) = .int v) (hd : decode cc pc = .ok (.ireturn, 1)) (h : (some (σ, v) : Option (cr_S × Int32)) = some res) : cr_W p l e R s m args below meth c sf N base D cA nL (MQ below (cr_Qi sf N base D cA res) args s 0 0 (cr_A N base)) σ pc lv [.int v] := by
  intro H locs ls hP hS hl
  have hlocks : meth.locks = false := C.2.2.2.2.2.2.2
  cases h
  exact W.zret (v := v) C.1 C.2.1 hr hz (fun t ht hW => ⟨⟨v, (), rfl, rfl, by show va_P _ _ _ t.heap; rw [ht]; exact hP⟩, hS.F ht⟩) hS.2.2 hd
theorem g_cret (C : cr_C p l e R s m args below meth c sf N base D cA cc nL own) {res : cr_S × Int32} {v : Int32} (hr : meth.sig.returnType = some .char) (hz : narrow .char (.int v) = .int v) (hd : decode cc pc = .ok (.ireturn, 1)) (h : (some (σ, v) : Option (cr_S × Int32)) = some res) : cr_W p l e R s m args below meth c sf N base D cA nL (MQ below (cr_Qi sf N base D cA res) args s 0 0 (cr_A N base)) σ pc lv [.int v] := by
  intro H locs ls hP hS hl
  have hlocks : meth.locks = false := C.2.2.2.2.2.2.2
  cases h
  exact W.zret (v := v) C.1 C.2.1 hr hz (fun t ht hW => ⟨⟨v, (), rfl, rfl, by show va_P _ _ _ t.heap; rw [ht]; exact hP⟩, hS.F ht⟩) hS.2.2 hd
theorem g_lret (C : cr_C p l e R s m args below meth c sf N base D cA cc nL own) {res : cr_S × Int64} {v : Int64} (hr : meth.sig.returnType = some .long) (hd : decode cc pc = .ok (.lreturn, 1)) (h : (some (σ, v) : Option (cr_S × Int64)) = some res) : cr_W p l e R s m args below meth c sf N base D cA nL (MQ below (cr_Ql sf N base D cA res) args s 0 0 (cr_A N base)) σ pc lv [.long v] := by
  intro H locs ls hP hS hl
  have hlocks : meth.locks = false := C.2.2.2.2.2.2.2
  cases h
  exact W.lret (v := v) C.1 C.2.1 hr (fun t ht hW => ⟨⟨v, (), rfl, rfl, by show va_P _ _ _ t.heap; rw [ht]; exact hP⟩, hS.F ht⟩) hS.2.2 hd
theorem g_vret (C : cr_C p l e R s m args below meth c sf N base D cA cc nL own) {res : cr_S} (hr : meth.sig.returnType = none) (hd : decode cc pc = .ok (.return_, 1)) (h : (some σ : Option cr_S) = some res) : cr_W p l e R s m args below meth c sf N base D cA nL (MQ below (cr_Qv sf N base D cA res) args s 0 0 (cr_A N base)) σ pc lv [] := by
  intro H locs ls hP hS hl
  have hlocks : meth.locks = false := C.2.2.2.2.2.2.2
  cases h
  exact W.vret C.1 C.2.1 hr (fun t ht hW => ⟨⟨(), rfl, trivial, by show va_P _ _ _ t.heap; rw [ht]; exact hP⟩, hS.F ht⟩) hS.2.2 hd
theorem cr_blind {av : List Value} : FrameBlind (va_Pc av (cr_H sf N base D cA σ)) := fun a U g mk q => by
  obtain ⟨q0, qP, qK, qN⟩ := q
  exact ⟨q0, qP, va_K.moved (u := U) (U := U.calling g mk a) (Vm.Alike.refl U.vm) qK, cr_NW_same (u := U) (U := U.calling g mk a) rfl qN⟩
theorem cr_pre (C : cr_C p l e R s m args below meth c sf N base D cA cc nL own) {av : List Value} {H : Heap} (hP : va_P D vwCl (cr_L sf N base cA σ) H) (U : State) (hU : U.heap = H) (hW : s.WarmedH U.vm) : va_Pc av (cr_H sf N base D cA σ) av.toArray U :=
  ⟨rfl, by rw [hU]; exact hP, va_K.moved hW.alike C.2.2.2.2.2.2.1, cr_NW_warm hW C.2.2.2.2.2.1⟩
/-- what a call of y wants of the tables, wherever it stands -/
def cr_Y (y : MethodName) (bytes : ByteArray) (maxL n : Nat) (ret : Option FieldType) : Prop := Cond.code y bytes maxL ret ∈ cr_T ∧ Cond.initialized y.cls ∈ cr_T ∧ y.cls ≠ "java/lang/invoke/MethodHandle" ∧ y.cls ≠ "java/lang/invoke/VarHandle" ∧ (parseMethodDescriptor y.desc).map (fun d => d.parameters.length) = some n
theorem cr_callB (C : cr_C p l e R s m args below meth c sf N base D cA cc nL own) {y : MethodName} {bytes : ByteArray} {maxL n fr lo index : Nat} {ret : Option FieldType} (hY : cr_Y y bytes maxL n ret) (hl : Cond.methodLink own index y ∈ cr_T) (hR : fr + 1 ≤ R.frames ∧ 8 + (maxL + 11) + lo ≤ R.locals) : CallB R s args own index y bytes maxL ret (cr_w y bytes maxL ret) { frames := fr, cells := 0, slots := 0, locals := lo } 0 0 n :=
  callB_of n C.2.2.2.2.1 (cr_good (fun w h => (List.mem_cons.mp h).elim (fun q => by rw [q]; exact hY.1) id)) rfl rfl rfl (C.2.2.2.2.1 _ hY.2.1) (C.2.2.2.2.1 _ hl) hY.2.2 hR
theorem cr_callN (C : cr_C p l e R s m args below meth c sf N base D cA cc nL own) {y : MethodName} {bytes : ByteArray} {maxL n fr lo index : Nat} {host : String} {ret : Option FieldType} (hY : cr_Y y bytes maxL n ret) (hl : Cond.methodLinkNest own index y host ∈ cr_NW) (hR : fr + 1 ≤ R.frames ∧ 8 + (maxL + 11) + lo ≤ R.locals) : va_CN R s args own index y host bytes maxL ret (cr_w y bytes maxL ret) { frames := fr, cells := 0, slots := 0, locals := lo } 0 0 n :=
  va_cnB n C.2.2.2.2.1 (cr_good (fun w h => (List.mem_cons.mp h).elim (fun q => by rw [q]; exact hY.1) id)) rfl rfl rfl (C.2.2.2.2.2.1 _ hl) (C.2.2.2.2.1 _ hY.2.1) hY.2.2 hR
theorem g_callVi (C : cr_C p l e R s m args below meth c sf N base D cA cc nL own) {y : MethodName} {bytes : ByteArray} {maxL n fr lo index : Nat} {ret : Option FieldType} {res : cr_S × Int32} (As : List Value) {stk : List Value} {ci : Nat} {cn : String} {T : u_T} {nf : Nat} {sl : List (Option Nat)} {o : Nat} (hY : cr_Y y bytes maxL n ret) (hc : vwCl[ci]? = some (cn, T, nf)) (ho : o < N) (hs : sf o = .inl (ci, sl)) (hv : Cond.instanceMethod y ∈ cr_T ∧ Cond.selects cn y y ∈ cr_T) (hl : Cond.methodLink own index y ∈ cr_T) (hR : fr + 1 ≤ R.frames ∧ 8 + (maxL + 11) + lo ≤ R.locals) (hn : As.length = n) (hm : (st.map fun v => v.category).sum ≤ 8) (hk : stk = As.reverse ++ .ref (base + o) :: st) (hd : decode cc pc = .ok (.invokevirtual index, 3)) (hM : cr_M l y bytes maxL ret fr lo sf N base D cA (.ref (base + o) :: As) σ (cr_Qi sf N base D cA res)) (hp : pc + 3 = pc') (k : cr_W p l e R s m args below meth c sf N base D cA nL Q res.1 pc' lv (.int res.2 :: st)) : cr_W p l e R s m args below meth c sf N base D cA nL Q σ pc lv stk := by
  subst hp
  subst hk
  intro H locs ls hP hS hl9
  have he := cr_L_at (sf := sf) (base := base) (cA := cA) (σ := σ) ho
  rw [hs] at he
  refine va_calli (va_runV (C := cn) (As := As) (rest := st) ⟨C.1, C.2.1, C.2.2.1, C.2.2.2.1, C.2.2.2.2.1⟩ hM ⟨cr_callB C hY hl hR, C.2.2.2.2.1 _ hv.1, C.2.2.2.2.1 _ hv.2⟩ ⟨cr_blind, va_recv C.2.2.2.2.2.2.1 hP hc he, fun U hU hW => cr_pre C hP U hU hW⟩ rfl hn hl9.1 rfl (lv_room hm) hd ⟨Nat.zero_le _, Nat.zero_le _⟩) hS (fun q _ h => h) (fun q h => h) (fun r u t H1 locs1 ht hvm hw hB hz1 hk1 hS1 => ?_)
  cases hw
  rw [ht] at hB
  exact k H1 locs1 ls hB hS1 hl9
theorem g_callVl (C : cr_C p l e R s m args below meth c sf N base D cA cc nL own) {y : MethodName} {bytes : ByteArray} {maxL n fr lo index : Nat} {ret : Option FieldType} {res : cr_S × Int64} (As : List Value) {stk : List Value} {ci : Nat} {cn : String} {T : u_T} {nf : Nat} {sl : List (Option Nat)} {o : Nat} (hY : cr_Y y bytes maxL n ret) (hc : vwCl[ci]? = some (cn, T, nf)) (ho : o < N) (hs : sf o = .inl (ci, sl)) (hv : Cond.instanceMethod y ∈ cr_T ∧ Cond.selects cn y y ∈ cr_T) (hl : Cond.methodLink own index y ∈ cr_T) (hR : fr + 1 ≤ R.frames ∧ 8 + (maxL + 11) + lo ≤ R.locals) (hn : As.length = n) (hm : (st.map fun v => v.category).sum ≤ 8) (hk : stk = As.reverse ++ .ref (base + o) :: st) (hd : decode cc pc = .ok (.invokevirtual index, 3)) (hM : cr_M l y bytes maxL ret fr lo sf N base D cA (.ref (base + o) :: As) σ (cr_Ql sf N base D cA res)) (hp : pc + 3 = pc') (k : cr_W p l e R s m args below meth c sf N base D cA nL Q res.1 pc' lv (.long res.2 :: st)) : cr_W p l e R s m args below meth c sf N base D cA nL Q σ pc lv stk := by
  subst hp
  subst hk
  intro H locs ls hP hS hl9
  have he := cr_L_at (sf := sf) (base := base) (cA := cA) (σ := σ) ho
  rw [hs] at he
  refine va_calll (va_runV (C := cn) (As := As) (rest := st) ⟨C.1, C.2.1, C.2.2.1, C.2.2.2.1, C.2.2.2.2.1⟩ hM ⟨cr_callB C hY hl hR, C.2.2.2.2.1 _ hv.1, C.2.2.2.2.1 _ hv.2⟩ ⟨cr_blind, va_recv C.2.2.2.2.2.2.1 hP hc he, fun U hU hW => cr_pre C hP U hU hW⟩ rfl hn hl9.1 rfl (lv_room hm) hd ⟨Nat.zero_le _, Nat.zero_le _⟩) hS (fun q _ h => h) (fun q h => h) (fun r u t H1 locs1 ht hvm hw hB hz1 hk1 hS1 => ?_)
  cases hw
  rw [ht] at hB
  exact k H1 locs1 ls hB hS1 hl9
theorem g_callVv (C : cr_C p l e R s m args below meth c sf N base D cA cc nL own) {y : MethodName} {bytes : ByteArray} {maxL n fr lo index : Nat} {ret : Option FieldType} {res : cr_S} (As : List Value) {stk : List Value} {ci : Nat} {cn : String} {T : u_T} {nf : Nat} {sl : List (Option Nat)} {o : Nat} (hY : cr_Y y bytes maxL n ret) (hc : vwCl[ci]? = some (cn, T, nf)) (ho : o < N) (hs : sf o = .inl (ci, sl)) (hv : Cond.instanceMethod y ∈ cr_T ∧ Cond.selects cn y y ∈ cr_T) (hl : Cond.methodLink own index y ∈ cr_T) (hR : fr + 1 ≤ R.frames ∧ 8 + (maxL + 11) + lo ≤ R.locals) (hn : As.length = n) (hm : (st.map fun v => v.category).sum ≤ 8) (hk : stk = As.reverse ++ .ref (base + o) :: st) (hd : decode cc pc = .ok (.invokevirtual index, 3)) (hM : cr_M l y bytes maxL ret fr lo sf N base D cA (.ref (base + o) :: As) σ (cr_Qv sf N base D cA res)) (hp : pc + 3 = pc') (k : cr_W p l e R s m args below meth c sf N base D cA nL Q res pc' lv (st)) : cr_W p l e R s m args below meth c sf N base D cA nL Q σ pc lv stk := by
  subst hp
  subst hk
  intro H locs ls hP hS hl9
  have he := cr_L_at (sf := sf) (base := base) (cA := cA) (σ := σ) ho
  rw [hs] at he
  refine va_callv (va_runV (C := cn) (As := As) (rest := st) ⟨C.1, C.2.1, C.2.2.1, C.2.2.2.1, C.2.2.2.2.1⟩ hM ⟨cr_callB C hY hl hR, C.2.2.2.2.1 _ hv.1, C.2.2.2.2.1 _ hv.2⟩ ⟨cr_blind, va_recv C.2.2.2.2.2.2.1 hP hc he, fun U hU hW => cr_pre C hP U hU hW⟩ rfl hn hl9.1 rfl (lv_room hm) hd ⟨Nat.zero_le _, Nat.zero_le _⟩) hS (fun q _ h => h) (fun q h => h) (fun u t H1 locs1 ht hvm hw hB hz1 hk1 hS1 => ?_)
  rw [ht] at hB
  exact k H1 locs1 ls hB hS1 hl9
theorem g_callSi (C : cr_C p l e R s m args below meth c sf N base D cA cc nL own) {y : MethodName} {bytes : ByteArray} {maxL n fr lo index : Nat} {ret : Option FieldType} {res : cr_S × Int32} (As : List Value) {stk : List Value}  (hY : cr_Y y bytes maxL n ret) (hv : Cond.static y ∈ cr_T) (hl : Cond.methodLink own index y ∈ cr_T) (hR : fr + 1 ≤ R.frames ∧ 8 + (maxL + 11) + lo ≤ R.locals) (hn : As.length = n) (hm : (st.map fun v => v.category).sum ≤ 8) (hk : stk = As.reverse ++ st) (hd : decode cc pc = .ok (.invokestatic index, 3)) (hM : cr_M l y bytes maxL ret fr lo sf N base D cA As σ (cr_Qi sf N base D cA res)) (hp : pc + 3 = pc') (k : cr_W p l e R s m args below meth c sf N base D cA nL Q res.1 pc' lv (.int res.2 :: st)) : cr_W p l e R s m args below meth c sf N base D cA nL Q σ pc lv stk := by
  subst hp
  subst hk
  intro H locs ls hP hS hl9
  refine va_calli (va_runS (As := As) (rest := st) ⟨C.1, C.2.1, C.2.2.1, C.2.2.2.1, C.2.2.2.2.1⟩ hM ⟨cr_callB C hY hl hR, C.2.2.2.2.1 _ hv⟩ ⟨cr_blind, fun U hU hW => cr_pre C hP U hU hW⟩ rfl hn hl9.1 rfl (lv_room hm) hd ⟨Nat.zero_le _, Nat.zero_le _⟩) hS (fun q _ h => h) (fun q h => h) (fun r u t H1 locs1 ht hvm hw hB hz1 hk1 hS1 => ?_)
  cases hw
  rw [ht] at hB
  exact k H1 locs1 ls hB hS1 hl9
theorem g_callSl (C : cr_C p l e R s m args below meth c sf N base D cA cc nL own) {y : MethodName} {bytes : ByteArray} {maxL n fr lo index : Nat} {ret : Option FieldType} {res : cr_S × Int64} (As : List Value) {stk : List Value}  (hY : cr_Y y bytes maxL n ret) (hv : Cond.static y ∈ cr_T) (hl : Cond.methodLink own index y ∈ cr_T) (hR : fr + 1 ≤ R.frames ∧ 8 + (maxL + 11) + lo ≤ R.locals) (hn : As.length = n) (hm : (st.map fun v => v.category).sum ≤ 8) (hk : stk = As.reverse ++ st) (hd : decode cc pc = .ok (.invokestatic index, 3)) (hM : cr_M l y bytes maxL ret fr lo sf N base D cA As σ (cr_Ql sf N base D cA res)) (hp : pc + 3 = pc') (k : cr_W p l e R s m args below meth c sf N base D cA nL Q res.1 pc' lv (.long res.2 :: st)) : cr_W p l e R s m args below meth c sf N base D cA nL Q σ pc lv stk := by
  subst hp
  subst hk
  intro H locs ls hP hS hl9
  refine va_calll (va_runS (As := As) (rest := st) ⟨C.1, C.2.1, C.2.2.1, C.2.2.2.1, C.2.2.2.2.1⟩ hM ⟨cr_callB C hY hl hR, C.2.2.2.2.1 _ hv⟩ ⟨cr_blind, fun U hU hW => cr_pre C hP U hU hW⟩ rfl hn hl9.1 rfl (lv_room hm) hd ⟨Nat.zero_le _, Nat.zero_le _⟩) hS (fun q _ h => h) (fun q h => h) (fun r u t H1 locs1 ht hvm hw hB hz1 hk1 hS1 => ?_)
  cases hw
  rw [ht] at hB
  exact k H1 locs1 ls hB hS1 hl9
theorem g_callSv (C : cr_C p l e R s m args below meth c sf N base D cA cc nL own) {y : MethodName} {bytes : ByteArray} {maxL n fr lo index : Nat} {ret : Option FieldType} {res : cr_S} (As : List Value) {stk : List Value}  (hY : cr_Y y bytes maxL n ret) (hv : Cond.static y ∈ cr_T) (hl : Cond.methodLink own index y ∈ cr_T) (hR : fr + 1 ≤ R.frames ∧ 8 + (maxL + 11) + lo ≤ R.locals) (hn : As.length = n) (hm : (st.map fun v => v.category).sum ≤ 8) (hk : stk = As.reverse ++ st) (hd : decode cc pc = .ok (.invokestatic index, 3)) (hM : cr_M l y bytes maxL ret fr lo sf N base D cA As σ (cr_Qv sf N base D cA res)) (hp : pc + 3 = pc') (k : cr_W p l e R s m args below meth c sf N base D cA nL Q res pc' lv (st)) : cr_W p l e R s m args below meth c sf N base D cA nL Q σ pc lv stk := by
  subst hp
  subst hk
  intro H locs ls hP hS hl9
  refine va_callv (va_runS (As := As) (rest := st) ⟨C.1, C.2.1, C.2.2.1, C.2.2.2.1, C.2.2.2.2.1⟩ hM ⟨cr_callB C hY hl hR, C.2.2.2.2.1 _ hv⟩ ⟨cr_blind, fun U hU hW => cr_pre C hP U hU hW⟩ rfl hn hl9.1 rfl (lv_room hm) hd ⟨Nat.zero_le _, Nat.zero_le _⟩) hS (fun q _ h => h) (fun q h => h) (fun u t H1 locs1 ht hvm hw hB hz1 hk1 hS1 => ?_)
  rw [ht] at hB
  exact k H1 locs1 ls hB hS1 hl9
theorem g_callNi (C : cr_C p l e R s m args below meth c sf N base D cA cc nL own) {y : MethodName} {bytes : ByteArray} {maxL n fr lo index : Nat} {ret : Option FieldType} {res : cr_S × Int32} (As : List Value) {stk : List Value} {host : String} (hY : cr_Y y bytes maxL n ret) (hv : Cond.static y ∈ cr_T) (hl : Cond.methodLinkNest own index y host ∈ cr_NW) (hR : fr + 1 ≤ R.frames ∧ 8 + (maxL + 11) + lo ≤ R.locals) (hn : As.length = n) (hm : (st.map fun v => v.category).sum ≤ 8) (hk : stk = As.reverse ++ st) (hd : decode cc pc = .ok (.invokestatic index, 3)) (hM : cr_M l y bytes maxL ret fr lo sf N base D cA As σ (cr_Qi sf N base D cA res)) (hp : pc + 3 = pc') (k : cr_W p l e R s m args below meth c sf N base D cA nL Q res.1 pc' lv (.int res.2 :: st)) : cr_W p l e R s m args below meth c sf N base D cA nL Q σ pc lv stk := by
  subst hp
  subst hk
  intro H locs ls hP hS hl9
  refine va_calli (va_runSN (As := As) (rest := st) ⟨C.1, C.2.1, C.2.2.1, C.2.2.2.1, C.2.2.2.2.1⟩ hM ⟨cr_callN C hY hl hR, C.2.2.2.2.1 _ hv, trivial⟩ ⟨cr_blind, fun U hU hW => cr_pre C hP U hU hW⟩ rfl hn hl9.1 rfl (lv_room hm) hd ⟨Nat.zero_le _, Nat.zero_le _⟩) hS (fun q _ h => h) (fun q h => h) (fun r u t H1 locs1 ht hvm hw hB hz1 hk1 hS1 => ?_)
  cases hw
  rw [ht] at hB
  exact k H1 locs1 ls hB hS1 hl9
theorem g_callNl (C : cr_C p l e R s m args below meth c sf N base D cA cc nL own) {y : MethodName} {bytes : ByteArray} {maxL n fr lo index : Nat} {ret : Option FieldType} {res : cr_S × Int64} (As : List Value) {stk : List Value} {host : String} (hY : cr_Y y bytes maxL n ret) (hv : Cond.static y ∈ cr_T) (hl : Cond.methodLinkNest own index y host ∈ cr_NW) (hR : fr + 1 ≤ R.frames ∧ 8 + (maxL + 11) + lo ≤ R.locals) (hn : As.length = n) (hm : (st.map fun v => v.category).sum ≤ 8) (hk : stk = As.reverse ++ st) (hd : decode cc pc = .ok (.invokestatic index, 3)) (hM : cr_M l y bytes maxL ret fr lo sf N base D cA As σ (cr_Ql sf N base D cA res)) (hp : pc + 3 = pc') (k : cr_W p l e R s m args below meth c sf N base D cA nL Q res.1 pc' lv (.long res.2 :: st)) : cr_W p l e R s m args below meth c sf N base D cA nL Q σ pc lv stk := by
  subst hp
  subst hk
  intro H locs ls hP hS hl9
  refine va_calll (va_runSN (As := As) (rest := st) ⟨C.1, C.2.1, C.2.2.1, C.2.2.2.1, C.2.2.2.2.1⟩ hM ⟨cr_callN C hY hl hR, C.2.2.2.2.1 _ hv, trivial⟩ ⟨cr_blind, fun U hU hW => cr_pre C hP U hU hW⟩ rfl hn hl9.1 rfl (lv_room hm) hd ⟨Nat.zero_le _, Nat.zero_le _⟩) hS (fun q _ h => h) (fun q h => h) (fun r u t H1 locs1 ht hvm hw hB hz1 hk1 hS1 => ?_)
  cases hw
  rw [ht] at hB
  exact k H1 locs1 ls hB hS1 hl9
theorem g_callNv (C : cr_C p l e R s m args below meth c sf N base D cA cc nL own) {y : MethodName} {bytes : ByteArray} {maxL n fr lo index : Nat} {ret : Option FieldType} {res : cr_S} (As : List Value) {stk : List Value} {host : String} (hY : cr_Y y bytes maxL n ret) (hv : Cond.static y ∈ cr_T) (hl : Cond.methodLinkNest own index y host ∈ cr_NW) (hR : fr + 1 ≤ R.frames ∧ 8 + (maxL + 11) + lo ≤ R.locals) (hn : As.length = n) (hm : (st.map fun v => v.category).sum ≤ 8) (hk : stk = As.reverse ++ st) (hd : decode cc pc = .ok (.invokestatic index, 3)) (hM : cr_M l y bytes maxL ret fr lo sf N base D cA As σ (cr_Qv sf N base D cA res)) (hp : pc + 3 = pc') (k : cr_W p l e R s m args below meth c sf N base D cA nL Q res pc' lv (st)) : cr_W p l e R s m args below meth c sf N base D cA nL Q σ pc lv stk := by
  subst hp
  subst hk
  intro H locs ls hP hS hl9
  refine va_callv (va_runSN (As := As) (rest := st) ⟨C.1, C.2.1, C.2.2.1, C.2.2.2.1, C.2.2.2.2.1⟩ hM ⟨cr_callN C hY hl hR, C.2.2.2.2.1 _ hv, trivial⟩ ⟨cr_blind, fun U hU hW => cr_pre C hP U hU hW⟩ rfl hn hl9.1 rfl (lv_room hm) hd ⟨Nat.zero_le _, Nat.zero_le _⟩) hS (fun q _ h => h) (fun q h => h) (fun u t H1 locs1 ht hvm hw hB hz1 hk1 hS1 => ?_)
  rw [ht] at hB
  exact k H1 locs1 ls hB hS1 hl9
end
/-- a contract out of a walk from the entry -/
theorem cr_enter {l : Launch} {y : MethodName} {bytes : ByteArray} {maxL fr lo : Nat} {ret : Option FieldType} {sf : Nat → cr_Sh} {N base : Nat} {D : va_G} {cA : Nat → ClassId} {σ : cr_S} {Qc : Array Value → State → Outcome → State → Prop} (av : List Value) (lv : List (Nat × Value)) (hy : plainName y.cls = true) (hn : (lg_sl av).length ≤ maxL) (hlv : lv_args 0 av = lv)
    (k : ∀ (p : Program) (e : Env) (R : Room) (s : State) (m : MethodId) (below : List Frame) (meth : Method) (c : Code), cr_C p l e R s m av.toArray below meth c sf N base D cA bytes maxL y.cls → meth.sig.returnType = ret → (fr ≤ R.frames ∧ lo ≤ R.locals) → cr_W p l e R s m av.toArray below meth c sf N base D cA maxL (MQ below Qc av.toArray s 0 0 (cr_A N base)) σ 0 lv []) : cr_M l y bytes maxL ret fr lo sf N base D cA av σ Qc := by
  refine Met.ofW (cc := bytes) (maxL := maxL) (ret := ret) hy rfl ?_
  intro p e s m args below meth c s₁ B hml hv
  obtain ⟨rfl, hP, hK, hN⟩ := hv
  have hts := atoms_spec (ws := cr_w y bytes maxL ret) B.pre
  have hown : s.vm.findClass y.cls = some m.cls := findClass_of_methodNamed B.named
  have hl := lv_entry av (n := maxL) hn
  rw [lg_entry_eq]
  rw [hlv] at hl
  exact k p e _ s m below meth c ⟨B.exec, B.bytes, hml, hown, fun w h => hts w (List.mem_cons_of_mem _ h), hN, hK, B.notSynchronized⟩ B.returns ⟨Nat.le_refl _, Nat.le_refl _⟩ s.heap [] _ hP va_S.rf hl
end
