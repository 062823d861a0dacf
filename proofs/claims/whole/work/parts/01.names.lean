-- ===== PART A: goes FIRST, ahead of the names: the tables' words, and 'selects' of the private methods out of them =====
/-- a private method of a class that the tables say can be made, by its rows of tables_1 -/
def lw_okq (q : MethodName × Nat) : Prop := (q.1.cls ≠ "java/lang/invoke/MethodHandle" ∧ q.1.cls ≠ "java/lang/invoke/VarHandle") ∧ Cond.instantiable q.1.cls q.2 ∈ tables_1 ∧ Cond.privateMethod q.1 ∈ tables_1 ∧ Cond.instanceMethod q.1 ∈ tables_1
theorem lw_p0 : lw_okq (⟨"PennyRates$Roads", "nextOnWay", "(II)I"⟩, 5) := ⟨⟨by decide +kernel, by decide +kernel⟩, List.mem_of_getElem? (i := 31) (by decide +kernel), List.mem_of_getElem? (i := 512) (by decide +kernel), List.mem_of_getElem? (i := 513) (by decide +kernel)⟩
theorem lw_p1 : lw_okq (⟨"PennyRates$LawText", "begin", "()V"⟩, 10) := ⟨⟨by decide +kernel, by decide +kernel⟩, List.mem_of_getElem? (i := 61) (by decide +kernel), List.mem_of_getElem? (i := 544) (by decide +kernel), List.mem_of_getElem? (i := 545) (by decide +kernel)⟩
theorem lw_p2 : lw_okq (⟨"PennyRates$LawText", "clause", "()Z"⟩, 10) := ⟨⟨by decide +kernel, by decide +kernel⟩, List.mem_of_getElem? (i := 61) (by decide +kernel), List.mem_of_getElem? (i := 549) (by decide +kernel), List.mem_of_getElem? (i := 550) (by decide +kernel)⟩
theorem lw_p3 : lw_okq (⟨"PennyRates$LawText", "word", "()I"⟩, 10) := ⟨⟨by decide +kernel, by decide +kernel⟩, List.mem_of_getElem? (i := 61) (by decide +kernel), List.mem_of_getElem? (i := 553) (by decide +kernel), List.mem_of_getElem? (i := 554) (by decide +kernel)⟩
theorem lw_p4 : lw_okq (⟨"PennyRates$LawText", "likeness", "(Ljava/lang/String;)I"⟩, 10) := ⟨⟨by decide +kernel, by decide +kernel⟩, List.mem_of_getElem? (i := 61) (by decide +kernel), List.mem_of_getElem? (i := 571) (by decide +kernel), List.mem_of_getElem? (i := 572) (by decide +kernel)⟩
theorem lw_p5 : lw_okq (⟨"PennyRates$LawText", "goodClause", "()Z"⟩, 10) := ⟨⟨by decide +kernel, by decide +kernel⟩, List.mem_of_getElem? (i := 61) (by decide +kernel), List.mem_of_getElem? (i := 626) (by decide +kernel), List.mem_of_getElem? (i := 627) (by decide +kernel)⟩
theorem lw_p6 : lw_okq (⟨"PennyRates$LawText", "takes", "(C)Z"⟩, 10) := ⟨⟨by decide +kernel, by decide +kernel⟩, List.mem_of_getElem? (i := 61) (by decide +kernel), List.mem_of_getElem? (i := 630) (by decide +kernel), List.mem_of_getElem? (i := 631) (by decide +kernel)⟩
theorem lw_p7 : lw_okq (⟨"PennyRates$LawText", "number", "(I)I"⟩, 10) := ⟨⟨by decide +kernel, by decide +kernel⟩, List.mem_of_getElem? (i := 61) (by decide +kernel), List.mem_of_getElem? (i := 634) (by decide +kernel), List.mem_of_getElem? (i := 635) (by decide +kernel)⟩
theorem lw_p8 : lw_okq (⟨"PennyRates$LawText", "mostClause", "()Z"⟩, 10) := ⟨⟨by decide +kernel, by decide +kernel⟩, List.mem_of_getElem? (i := 61) (by decide +kernel), List.mem_of_getElem? (i := 638) (by decide +kernel), List.mem_of_getElem? (i := 639) (by decide +kernel)⟩
theorem lw_p9 : lw_okq (⟨"PennyRates$LawText", "numberInto", "(I)Z"⟩, 10) := ⟨⟨by decide +kernel, by decide +kernel⟩, List.mem_of_getElem? (i := 61) (by decide +kernel), List.mem_of_getElem? (i := 642) (by decide +kernel), List.mem_of_getElem? (i := 643) (by decide +kernel)⟩
theorem lw_p10 : lw_okq (⟨"PennyRates$LawText", "either", "(I)Z"⟩, 10) := ⟨⟨by decide +kernel, by decide +kernel⟩, List.mem_of_getElem? (i := 61) (by decide +kernel), List.mem_of_getElem? (i := 646) (by decide +kernel), List.mem_of_getElem? (i := 647) (by decide +kernel)⟩
theorem lw_p11 : lw_okq (⟨"PennyRates$LawText", "both", "(I)Z"⟩, 10) := ⟨⟨by decide +kernel, by decide +kernel⟩, List.mem_of_getElem? (i := 61) (by decide +kernel), List.mem_of_getElem? (i := 650) (by decide +kernel), List.mem_of_getElem? (i := 651) (by decide +kernel)⟩
theorem lw_p12 : lw_okq (⟨"PennyRates$LawText", "factor", "(I)Z"⟩, 10) := ⟨⟨by decide +kernel, by decide +kernel⟩, List.mem_of_getElem? (i := 61) (by decide +kernel), List.mem_of_getElem? (i := 654) (by decide +kernel), List.mem_of_getElem? (i := 655) (by decide +kernel)⟩
theorem lw_p13 : lw_okq (⟨"PennyRates$LawText", "emit", "(II)V"⟩, 10) := ⟨⟨by decide +kernel, by decide +kernel⟩, List.mem_of_getElem? (i := 61) (by decide +kernel), List.mem_of_getElem? (i := 658) (by decide +kernel), List.mem_of_getElem? (i := 659) (by decide +kernel)⟩
theorem lw_p14 : lw_okq (⟨"PennyRates$LawText", "test", "()Z"⟩, 10) := ⟨⟨by decide +kernel, by decide +kernel⟩, List.mem_of_getElem? (i := 61) (by decide +kernel), List.mem_of_getElem? (i := 662) (by decide +kernel), List.mem_of_getElem? (i := 663) (by decide +kernel)⟩
theorem lw_p15 : lw_okq (⟨"PennyRates", "soonest", "(I)I"⟩, 11) := ⟨⟨by decide +kernel, by decide +kernel⟩, List.mem_of_getElem? (i := 23) (by decide +kernel), List.mem_of_getElem? (i := 727) (by decide +kernel), List.mem_of_getElem? (i := 728) (by decide +kernel)⟩
def lw_privs_1 : List (MethodName × Nat) := [(⟨"PennyRates$Roads", "nextOnWay", "(II)I"⟩, 5), (⟨"PennyRates$LawText", "begin", "()V"⟩, 10), (⟨"PennyRates$LawText", "clause", "()Z"⟩, 10), (⟨"PennyRates$LawText", "word", "()I"⟩, 10), (⟨"PennyRates$LawText", "likeness", "(Ljava/lang/String;)I"⟩, 10), (⟨"PennyRates$LawText", "goodClause", "()Z"⟩, 10), (⟨"PennyRates$LawText", "takes", "(C)Z"⟩, 10), (⟨"PennyRates$LawText", "number", "(I)I"⟩, 10), (⟨"PennyRates$LawText", "mostClause", "()Z"⟩, 10), (⟨"PennyRates$LawText", "numberInto", "(I)Z"⟩, 10), (⟨"PennyRates$LawText", "either", "(I)Z"⟩, 10), (⟨"PennyRates$LawText", "both", "(I)Z"⟩, 10), (⟨"PennyRates$LawText", "factor", "(I)Z"⟩, 10), (⟨"PennyRates$LawText", "emit", "(II)V"⟩, 10), (⟨"PennyRates$LawText", "test", "()Z"⟩, 10), (⟨"PennyRates", "soonest", "(I)I"⟩, 11)]
theorem lw_r1 : ∀ q ∈ lw_privs_1, lw_okq q := List.forall_mem_cons.mpr ⟨lw_p0, List.forall_mem_cons.mpr ⟨lw_p1, List.forall_mem_cons.mpr ⟨lw_p2, List.forall_mem_cons.mpr ⟨lw_p3, List.forall_mem_cons.mpr ⟨lw_p4, List.forall_mem_cons.mpr ⟨lw_p5, List.forall_mem_cons.mpr ⟨lw_p6, List.forall_mem_cons.mpr ⟨lw_p7, List.forall_mem_cons.mpr ⟨lw_p8, List.forall_mem_cons.mpr ⟨lw_p9, List.forall_mem_cons.mpr ⟨lw_p10, List.forall_mem_cons.mpr ⟨lw_p11, List.forall_mem_cons.mpr ⟨lw_p12, List.forall_mem_cons.mpr ⟨lw_p13, List.forall_mem_cons.mpr ⟨lw_p14, List.forall_mem_cons.mpr ⟨lw_p15, fun _ h => absurd h List.not_mem_nil⟩⟩⟩⟩⟩⟩⟩⟩⟩⟩⟩⟩⟩⟩⟩⟩
theorem lw_p16 : lw_okq (⟨"PennyRates$Rates", "perTon", "(LPennyRates$Rate;I)I"⟩, 5) := ⟨⟨by decide +kernel, by decide +kernel⟩, List.mem_of_getElem? (i := 158) (by decide +kernel), List.mem_of_getElem? (i := 804) (by decide +kernel), List.mem_of_getElem? (i := 805) (by decide +kernel)⟩
theorem lw_p17 : lw_okq (⟨"PennyRates$Rates", "weigh", "(LPennyRates$Rate;I)I"⟩, 5) := ⟨⟨by decide +kernel, by decide +kernel⟩, List.mem_of_getElem? (i := 158) (by decide +kernel), List.mem_of_getElem? (i := 833) (by decide +kernel), List.mem_of_getElem? (i := 834) (by decide +kernel)⟩
theorem lw_p18 : lw_okq (⟨"PennyRates", "truckRefusal", "(IIIII)I"⟩, 11) := ⟨⟨by decide +kernel, by decide +kernel⟩, List.mem_of_getElem? (i := 23) (by decide +kernel), List.mem_of_getElem? (i := 847) (by decide +kernel), List.mem_of_getElem? (i := 848) (by decide +kernel)⟩
theorem lw_p19 : lw_okq (⟨"PennyRates", "bookRow", "(IJ)I"⟩, 11) := ⟨⟨by decide +kernel, by decide +kernel⟩, List.mem_of_getElem? (i := 23) (by decide +kernel), List.mem_of_getElem? (i := 868) (by decide +kernel), List.mem_of_getElem? (i := 869) (by decide +kernel)⟩
theorem lw_p20 : lw_okq (⟨"PennyRates$Trucks", "rateOfTruck", "(I)LPennyRates$Rate;"⟩, 11) := ⟨⟨by decide +kernel, by decide +kernel⟩, List.mem_of_getElem? (i := 257) (by decide +kernel), List.mem_of_getElem? (i := 888) (by decide +kernel), List.mem_of_getElem? (i := 889) (by decide +kernel)⟩
theorem lw_p21 : lw_okq (⟨"PennyRates$Trucks", "gatherFacts", "(II)V"⟩, 11) := ⟨⟨by decide +kernel, by decide +kernel⟩, List.mem_of_getElem? (i := 257) (by decide +kernel), List.mem_of_getElem? (i := 903) (by decide +kernel), List.mem_of_getElem? (i := 904) (by decide +kernel)⟩
theorem lw_p22 : lw_okq (⟨"PennyRates$Trucks", "courtsLaw", "(II)LPennyRates$Law;"⟩, 11) := ⟨⟨by decide +kernel, by decide +kernel⟩, List.mem_of_getElem? (i := 257) (by decide +kernel), List.mem_of_getElem? (i := 915) (by decide +kernel), List.mem_of_getElem? (i := 916) (by decide +kernel)⟩
theorem lw_p23 : lw_okq (⟨"PennyRates$Trucks", "claim", "(III)J"⟩, 11) := ⟨⟨by decide +kernel, by decide +kernel⟩, List.mem_of_getElem? (i := 257) (by decide +kernel), List.mem_of_getElem? (i := 953) (by decide +kernel), List.mem_of_getElem? (i := 954) (by decide +kernel)⟩
theorem lw_p24 : lw_okq (⟨"PennyRates$Carriage", "addLeg", "(I)Z"⟩, 6) := ⟨⟨by decide +kernel, by decide +kernel⟩, List.mem_of_getElem? (i := 298) (by decide +kernel), List.mem_of_getElem? (i := 975) (by decide +kernel), List.mem_of_getElem? (i := 976) (by decide +kernel)⟩
theorem lw_p25 : lw_okq (⟨"PennyRates$Carriage", "firstLeg", "(II)I"⟩, 6) := ⟨⟨by decide +kernel, by decide +kernel⟩, List.mem_of_getElem? (i := 298) (by decide +kernel), List.mem_of_getElem? (i := 993) (by decide +kernel), List.mem_of_getElem? (i := 994) (by decide +kernel)⟩
theorem lw_p26 : lw_okq (⟨"PennyRates$Wants", "isWorth", "(I)Z"⟩, 15) := ⟨⟨by decide +kernel, by decide +kernel⟩, List.mem_of_getElem? (i := 324) (by decide +kernel), List.mem_of_getElem? (i := 1026) (by decide +kernel), List.mem_of_getElem? (i := 1027) (by decide +kernel)⟩
theorem lw_p27 : lw_okq (⟨"PennyRates$Wants", "addTakenBySets", "(III)V"⟩, 15) := ⟨⟨by decide +kernel, by decide +kernel⟩, List.mem_of_getElem? (i := 324) (by decide +kernel), List.mem_of_getElem? (i := 1081) (by decide +kernel), List.mem_of_getElem? (i := 1082) (by decide +kernel)⟩
theorem lw_p28 : lw_okq (⟨"PennyRates$Wants", "priceListed", "(II)I"⟩, 15) := ⟨⟨by decide +kernel, by decide +kernel⟩, List.mem_of_getElem? (i := 324) (by decide +kernel), List.mem_of_getElem? (i := 1085) (by decide +kernel), List.mem_of_getElem? (i := 1086) (by decide +kernel)⟩
theorem lw_p29 : lw_okq (⟨"PennyRates$Wants", "takenIfRaised", "(II)I"⟩, 15) := ⟨⟨by decide +kernel, by decide +kernel⟩, List.mem_of_getElem? (i := 324) (by decide +kernel), List.mem_of_getElem? (i := 1090) (by decide +kernel), List.mem_of_getElem? (i := 1091) (by decide +kernel)⟩
theorem lw_p30 : lw_okq (⟨"PennyRates$Trucks", "paidPerTon", "(I)I"⟩, 11) := ⟨⟨by decide +kernel, by decide +kernel⟩, List.mem_of_getElem? (i := 257) (by decide +kernel), List.mem_of_getElem? (i := 1116) (by decide +kernel), List.mem_of_getElem? (i := 1117) (by decide +kernel)⟩
theorem lw_p31 : lw_okq (⟨"PennyRates$Acts", "send", "(IIII)I"⟩, 6) := ⟨⟨by decide +kernel, by decide +kernel⟩, List.mem_of_getElem? (i := 378) (by decide +kernel), List.mem_of_getElem? (i := 1139) (by decide +kernel), List.mem_of_getElem? (i := 1140) (by decide +kernel)⟩
def lw_privs_2 : List (MethodName × Nat) := [(⟨"PennyRates$Rates", "perTon", "(LPennyRates$Rate;I)I"⟩, 5), (⟨"PennyRates$Rates", "weigh", "(LPennyRates$Rate;I)I"⟩, 5), (⟨"PennyRates", "truckRefusal", "(IIIII)I"⟩, 11), (⟨"PennyRates", "bookRow", "(IJ)I"⟩, 11), (⟨"PennyRates$Trucks", "rateOfTruck", "(I)LPennyRates$Rate;"⟩, 11), (⟨"PennyRates$Trucks", "gatherFacts", "(II)V"⟩, 11), (⟨"PennyRates$Trucks", "courtsLaw", "(II)LPennyRates$Law;"⟩, 11), (⟨"PennyRates$Trucks", "claim", "(III)J"⟩, 11), (⟨"PennyRates$Carriage", "addLeg", "(I)Z"⟩, 6), (⟨"PennyRates$Carriage", "firstLeg", "(II)I"⟩, 6), (⟨"PennyRates$Wants", "isWorth", "(I)Z"⟩, 15), (⟨"PennyRates$Wants", "addTakenBySets", "(III)V"⟩, 15), (⟨"PennyRates$Wants", "priceListed", "(II)I"⟩, 15), (⟨"PennyRates$Wants", "takenIfRaised", "(II)I"⟩, 15), (⟨"PennyRates$Trucks", "paidPerTon", "(I)I"⟩, 11), (⟨"PennyRates$Acts", "send", "(IIII)I"⟩, 6)]
theorem lw_r2 : ∀ q ∈ lw_privs_2, lw_okq q := List.forall_mem_cons.mpr ⟨lw_p16, List.forall_mem_cons.mpr ⟨lw_p17, List.forall_mem_cons.mpr ⟨lw_p18, List.forall_mem_cons.mpr ⟨lw_p19, List.forall_mem_cons.mpr ⟨lw_p20, List.forall_mem_cons.mpr ⟨lw_p21, List.forall_mem_cons.mpr ⟨lw_p22, List.forall_mem_cons.mpr ⟨lw_p23, List.forall_mem_cons.mpr ⟨lw_p24, List.forall_mem_cons.mpr ⟨lw_p25, List.forall_mem_cons.mpr ⟨lw_p26, List.forall_mem_cons.mpr ⟨lw_p27, List.forall_mem_cons.mpr ⟨lw_p28, List.forall_mem_cons.mpr ⟨lw_p29, List.forall_mem_cons.mpr ⟨lw_p30, List.forall_mem_cons.mpr ⟨lw_p31, fun _ h => absurd h List.not_mem_nil⟩⟩⟩⟩⟩⟩⟩⟩⟩⟩⟩⟩⟩⟩⟩⟩
theorem lw_p32 : lw_okq (⟨"PennyRates$Acts", "upperBody", "(III)I"⟩, 6) := ⟨⟨by decide +kernel, by decide +kernel⟩, List.mem_of_getElem? (i := 378) (by decide +kernel), List.mem_of_getElem? (i := 1150) (by decide +kernel), List.mem_of_getElem? (i := 1151) (by decide +kernel)⟩
theorem lw_p33 : lw_okq (⟨"PennyRates$Acts", "lowerBody", "(III)I"⟩, 6) := ⟨⟨by decide +kernel, by decide +kernel⟩, List.mem_of_getElem? (i := 378) (by decide +kernel), List.mem_of_getElem? (i := 1154) (by decide +kernel), List.mem_of_getElem? (i := 1155) (by decide +kernel)⟩
theorem lw_p34 : lw_okq (⟨"PennyRatesModel", "in", "(III)Z"⟩, 79) := ⟨⟨by decide +kernel, by decide +kernel⟩, List.mem_of_getElem? (i := 1208) (by decide +kernel), List.mem_of_getElem? (i := 1457) (by decide +kernel), List.mem_of_getElem? (i := 1458) (by decide +kernel)⟩
theorem lw_p35 : lw_okq (⟨"PennyRatesModel", "isOwner", "(I)Z"⟩, 79) := ⟨⟨by decide +kernel, by decide +kernel⟩, List.mem_of_getElem? (i := 1208) (by decide +kernel), List.mem_of_getElem? (i := 1465) (by decide +kernel), List.mem_of_getElem? (i := 1466) (by decide +kernel)⟩
theorem lw_p36 : lw_okq (⟨"PennyRatesModel", "isStation", "(I)Z"⟩, 79) := ⟨⟨by decide +kernel, by decide +kernel⟩, List.mem_of_getElem? (i := 1208) (by decide +kernel), List.mem_of_getElem? (i := 1469) (by decide +kernel), List.mem_of_getElem? (i := 1470) (by decide +kernel)⟩
theorem lw_p37 : lw_okq (⟨"PennyRatesModel", "milesBy", "(III)I"⟩, 79) := ⟨⟨by decide +kernel, by decide +kernel⟩, List.mem_of_getElem? (i := 1208) (by decide +kernel), List.mem_of_getElem? (i := 1477) (by decide +kernel), List.mem_of_getElem? (i := 1478) (by decide +kernel)⟩
theorem lw_p38 : lw_okq (⟨"PennyRatesModel", "findFar", "(I)V"⟩, 79) := ⟨⟨by decide +kernel, by decide +kernel⟩, List.mem_of_getElem? (i := 1208) (by decide +kernel), List.mem_of_getElem? (i := 1481) (by decide +kernel), List.mem_of_getElem? (i := 1482) (by decide +kernel)⟩
theorem lw_p39 : lw_okq (⟨"PennyRatesModel", "findWay", "(II)Z"⟩, 79) := ⟨⟨by decide +kernel, by decide +kernel⟩, List.mem_of_getElem? (i := 1208) (by decide +kernel), List.mem_of_getElem? (i := 1490) (by decide +kernel), List.mem_of_getElem? (i := 1491) (by decide +kernel)⟩
theorem lw_p40 : lw_okq (⟨"PennyRatesModel", "lineFor", "(II)I"⟩, 79) := ⟨⟨by decide +kernel, by decide +kernel⟩, List.mem_of_getElem? (i := 1208) (by decide +kernel), List.mem_of_getElem? (i := 1494) (by decide +kernel), List.mem_of_getElem? (i := 1495) (by decide +kernel)⟩
theorem lw_p41 : lw_okq (⟨"PennyRatesModel", "isDay", "(I)Z"⟩, 79) := ⟨⟨by decide +kernel, by decide +kernel⟩, List.mem_of_getElem? (i := 1208) (by decide +kernel), List.mem_of_getElem? (i := 1506) (by decide +kernel), List.mem_of_getElem? (i := 1507) (by decide +kernel)⟩
theorem lw_p42 : lw_okq (⟨"PennyRatesModel", "goes", "(I)Z"⟩, 79) := ⟨⟨by decide +kernel, by decide +kernel⟩, List.mem_of_getElem? (i := 1208) (by decide +kernel), List.mem_of_getElem? (i := 1510) (by decide +kernel), List.mem_of_getElem? (i := 1511) (by decide +kernel)⟩
theorem lw_p43 : lw_okq (⟨"PennyRatesModel", "takesClause", "()Z"⟩, 79) := ⟨⟨by decide +kernel, by decide +kernel⟩, List.mem_of_getElem? (i := 1208) (by decide +kernel), List.mem_of_getElem? (i := 1514) (by decide +kernel), List.mem_of_getElem? (i := 1515) (by decide +kernel)⟩
theorem lw_p44 : lw_okq (⟨"PennyRatesModel", "next", "()I"⟩, 79) := ⟨⟨by decide +kernel, by decide +kernel⟩, List.mem_of_getElem? (i := 1208) (by decide +kernel), List.mem_of_getElem? (i := 1518) (by decide +kernel), List.mem_of_getElem? (i := 1519) (by decide +kernel)⟩
theorem lw_p45 : lw_okq (⟨"PennyRatesModel", "takesWord", "(JI)Z"⟩, 79) := ⟨⟨by decide +kernel, by decide +kernel⟩, List.mem_of_getElem? (i := 1208) (by decide +kernel), List.mem_of_getElem? (i := 1523) (by decide +kernel), List.mem_of_getElem? (i := 1524) (by decide +kernel)⟩
theorem lw_p46 : lw_okq (⟨"PennyRatesModel", "takes", "(I)Z"⟩, 79) := ⟨⟨by decide +kernel, by decide +kernel⟩, List.mem_of_getElem? (i := 1208) (by decide +kernel), List.mem_of_getElem? (i := 1528) (by decide +kernel), List.mem_of_getElem? (i := 1529) (by decide +kernel)⟩
theorem lw_p47 : lw_okq (⟨"PennyRatesModel", "takesPlain", "(I)Z"⟩, 79) := ⟨⟨by decide +kernel, by decide +kernel⟩, List.mem_of_getElem? (i := 1208) (by decide +kernel), List.mem_of_getElem? (i := 1532) (by decide +kernel), List.mem_of_getElem? (i := 1533) (by decide +kernel)⟩
def lw_privs_3 : List (MethodName × Nat) := [(⟨"PennyRates$Acts", "upperBody", "(III)I"⟩, 6), (⟨"PennyRates$Acts", "lowerBody", "(III)I"⟩, 6), (⟨"PennyRatesModel", "in", "(III)Z"⟩, 79), (⟨"PennyRatesModel", "isOwner", "(I)Z"⟩, 79), (⟨"PennyRatesModel", "isStation", "(I)Z"⟩, 79), (⟨"PennyRatesModel", "milesBy", "(III)I"⟩, 79), (⟨"PennyRatesModel", "findFar", "(I)V"⟩, 79), (⟨"PennyRatesModel", "findWay", "(II)Z"⟩, 79), (⟨"PennyRatesModel", "lineFor", "(II)I"⟩, 79), (⟨"PennyRatesModel", "isDay", "(I)Z"⟩, 79), (⟨"PennyRatesModel", "goes", "(I)Z"⟩, 79), (⟨"PennyRatesModel", "takesClause", "()Z"⟩, 79), (⟨"PennyRatesModel", "next", "()I"⟩, 79), (⟨"PennyRatesModel", "takesWord", "(JI)Z"⟩, 79), (⟨"PennyRatesModel", "takes", "(I)Z"⟩, 79), (⟨"PennyRatesModel", "takesPlain", "(I)Z"⟩, 79)]
theorem lw_r3 : ∀ q ∈ lw_privs_3, lw_okq q := List.forall_mem_cons.mpr ⟨lw_p32, List.forall_mem_cons.mpr ⟨lw_p33, List.forall_mem_cons.mpr ⟨lw_p34, List.forall_mem_cons.mpr ⟨lw_p35, List.forall_mem_cons.mpr ⟨lw_p36, List.forall_mem_cons.mpr ⟨lw_p37, List.forall_mem_cons.mpr ⟨lw_p38, List.forall_mem_cons.mpr ⟨lw_p39, List.forall_mem_cons.mpr ⟨lw_p40, List.forall_mem_cons.mpr ⟨lw_p41, List.forall_mem_cons.mpr ⟨lw_p42, List.forall_mem_cons.mpr ⟨lw_p43, List.forall_mem_cons.mpr ⟨lw_p44, List.forall_mem_cons.mpr ⟨lw_p45, List.forall_mem_cons.mpr ⟨lw_p46, List.forall_mem_cons.mpr ⟨lw_p47, fun _ h => absurd h List.not_mem_nil⟩⟩⟩⟩⟩⟩⟩⟩⟩⟩⟩⟩⟩⟩⟩⟩
theorem lw_p48 : lw_okq (⟨"PennyRatesModel", "takesNumber", "()Z"⟩, 79) := ⟨⟨by decide +kernel, by decide +kernel⟩, List.mem_of_getElem? (i := 1208) (by decide +kernel), List.mem_of_getElem? (i := 1536) (by decide +kernel), List.mem_of_getElem? (i := 1537) (by decide +kernel)⟩
theorem lw_p49 : lw_okq (⟨"PennyRatesModel", "isDigit", "()Z"⟩, 79) := ⟨⟨by decide +kernel, by decide +kernel⟩, List.mem_of_getElem? (i := 1208) (by decide +kernel), List.mem_of_getElem? (i := 1540) (by decide +kernel), List.mem_of_getElem? (i := 1541) (by decide +kernel)⟩
theorem lw_p50 : lw_okq (⟨"PennyRatesModel", "takesGood", "()Z"⟩, 79) := ⟨⟨by decide +kernel, by decide +kernel⟩, List.mem_of_getElem? (i := 1208) (by decide +kernel), List.mem_of_getElem? (i := 1545) (by decide +kernel), List.mem_of_getElem? (i := 1546) (by decide +kernel)⟩
theorem lw_p51 : lw_okq (⟨"PennyRatesModel", "takesMost", "()Z"⟩, 79) := ⟨⟨by decide +kernel, by decide +kernel⟩, List.mem_of_getElem? (i := 1208) (by decide +kernel), List.mem_of_getElem? (i := 1550) (by decide +kernel), List.mem_of_getElem? (i := 1551) (by decide +kernel)⟩
theorem lw_p52 : lw_okq (⟨"PennyRatesModel", "takesE", "()Z"⟩, 79) := ⟨⟨by decide +kernel, by decide +kernel⟩, List.mem_of_getElem? (i := 1208) (by decide +kernel), List.mem_of_getElem? (i := 1556) (by decide +kernel), List.mem_of_getElem? (i := 1557) (by decide +kernel)⟩
theorem lw_p53 : lw_okq (⟨"PennyRatesModel", "takesTest", "()Z"⟩, 79) := ⟨⟨by decide +kernel, by decide +kernel⟩, List.mem_of_getElem? (i := 1208) (by decide +kernel), List.mem_of_getElem? (i := 1560) (by decide +kernel), List.mem_of_getElem? (i := 1561) (by decide +kernel)⟩
theorem lw_p54 : lw_okq (⟨"PennyRatesModel", "push", "(Z)V"⟩, 79) := ⟨⟨by decide +kernel, by decide +kernel⟩, List.mem_of_getElem? (i := 1208) (by decide +kernel), List.mem_of_getElem? (i := 1564) (by decide +kernel), List.mem_of_getElem? (i := 1565) (by decide +kernel)⟩
theorem lw_p55 : lw_okq (⟨"PennyRatesModel", "settle", "(I)V"⟩, 79) := ⟨⟨by decide +kernel, by decide +kernel⟩, List.mem_of_getElem? (i := 1208) (by decide +kernel), List.mem_of_getElem? (i := 1568) (by decide +kernel), List.mem_of_getElem? (i := 1569) (by decide +kernel)⟩
theorem lw_p56 : lw_okq (⟨"PennyRatesModel", "look", "(II)V"⟩, 79) := ⟨⟨by decide +kernel, by decide +kernel⟩, List.mem_of_getElem? (i := 1208) (by decide +kernel), List.mem_of_getElem? (i := 1582) (by decide +kernel), List.mem_of_getElem? (i := 1583) (by decide +kernel)⟩
theorem lw_p57 : lw_okq (⟨"PennyRatesModel", "clean", "()V"⟩, 79) := ⟨⟨by decide +kernel, by decide +kernel⟩, List.mem_of_getElem? (i := 1208) (by decide +kernel), List.mem_of_getElem? (i := 1586) (by decide +kernel), List.mem_of_getElem? (i := 1587) (by decide +kernel)⟩
theorem lw_p58 : lw_okq (⟨"PennyRatesModel", "lawOn", "(II)I"⟩, 79) := ⟨⟨by decide +kernel, by decide +kernel⟩, List.mem_of_getElem? (i := 1208) (by decide +kernel), List.mem_of_getElem? (i := 1590) (by decide +kernel), List.mem_of_getElem? (i := 1591) (by decide +kernel)⟩
theorem lw_p59 : lw_okq (⟨"PennyRatesModel", "printed", "(II)I"⟩, 79) := ⟨⟨by decide +kernel, by decide +kernel⟩, List.mem_of_getElem? (i := 1208) (by decide +kernel), List.mem_of_getElem? (i := 1598) (by decide +kernel), List.mem_of_getElem? (i := 1599) (by decide +kernel)⟩
theorem lw_p60 : lw_okq (⟨"PennyRatesModel", "add", "(IIIIIIIII)I"⟩, 79) := ⟨⟨by decide +kernel, by decide +kernel⟩, List.mem_of_getElem? (i := 1208) (by decide +kernel), List.mem_of_getElem? (i := 1602) (by decide +kernel), List.mem_of_getElem? (i := 1603) (by decide +kernel)⟩
theorem lw_p61 : lw_okq (⟨"PennyRatesModel", "isGood", "(I)Z"⟩, 79) := ⟨⟨by decide +kernel, by decide +kernel⟩, List.mem_of_getElem? (i := 1208) (by decide +kernel), List.mem_of_getElem? (i := 1610) (by decide +kernel), List.mem_of_getElem? (i := 1611) (by decide +kernel)⟩
theorem lw_p62 : lw_okq (⟨"PennyRatesModel", "isRate", "(I)Z"⟩, 79) := ⟨⟨by decide +kernel, by decide +kernel⟩, List.mem_of_getElem? (i := 1208) (by decide +kernel), List.mem_of_getElem? (i := 1618) (by decide +kernel), List.mem_of_getElem? (i := 1619) (by decide +kernel)⟩
theorem lw_p63 : lw_okq (⟨"PennyRatesModel", "nowKind", "(I)I"⟩, 79) := ⟨⟨by decide +kernel, by decide +kernel⟩, List.mem_of_getElem? (i := 1208) (by decide +kernel), List.mem_of_getElem? (i := 1622) (by decide +kernel), List.mem_of_getElem? (i := 1623) (by decide +kernel)⟩
def lw_privs_4 : List (MethodName × Nat) := [(⟨"PennyRatesModel", "takesNumber", "()Z"⟩, 79), (⟨"PennyRatesModel", "isDigit", "()Z"⟩, 79), (⟨"PennyRatesModel", "takesGood", "()Z"⟩, 79), (⟨"PennyRatesModel", "takesMost", "()Z"⟩, 79), (⟨"PennyRatesModel", "takesE", "()Z"⟩, 79), (⟨"PennyRatesModel", "takesTest", "()Z"⟩, 79), (⟨"PennyRatesModel", "push", "(Z)V"⟩, 79), (⟨"PennyRatesModel", "settle", "(I)V"⟩, 79), (⟨"PennyRatesModel", "look", "(II)V"⟩, 79), (⟨"PennyRatesModel", "clean", "()V"⟩, 79), (⟨"PennyRatesModel", "lawOn", "(II)I"⟩, 79), (⟨"PennyRatesModel", "printed", "(II)I"⟩, 79), (⟨"PennyRatesModel", "add", "(IIIIIIIII)I"⟩, 79), (⟨"PennyRatesModel", "isGood", "(I)Z"⟩, 79), (⟨"PennyRatesModel", "isRate", "(I)Z"⟩, 79), (⟨"PennyRatesModel", "nowKind", "(I)I"⟩, 79)]
theorem lw_r4 : ∀ q ∈ lw_privs_4, lw_okq q := List.forall_mem_cons.mpr ⟨lw_p48, List.forall_mem_cons.mpr ⟨lw_p49, List.forall_mem_cons.mpr ⟨lw_p50, List.forall_mem_cons.mpr ⟨lw_p51, List.forall_mem_cons.mpr ⟨lw_p52, List.forall_mem_cons.mpr ⟨lw_p53, List.forall_mem_cons.mpr ⟨lw_p54, List.forall_mem_cons.mpr ⟨lw_p55, List.forall_mem_cons.mpr ⟨lw_p56, List.forall_mem_cons.mpr ⟨lw_p57, List.forall_mem_cons.mpr ⟨lw_p58, List.forall_mem_cons.mpr ⟨lw_p59, List.forall_mem_cons.mpr ⟨lw_p60, List.forall_mem_cons.mpr ⟨lw_p61, List.forall_mem_cons.mpr ⟨lw_p62, List.forall_mem_cons.mpr ⟨lw_p63, fun _ h => absurd h List.not_mem_nil⟩⟩⟩⟩⟩⟩⟩⟩⟩⟩⟩⟩⟩⟩⟩⟩
theorem lw_p64 : lw_okq (⟨"PennyRatesModel", "isTons", "(I)Z"⟩, 79) := ⟨⟨by decide +kernel, by decide +kernel⟩, List.mem_of_getElem? (i := 1208) (by decide +kernel), List.mem_of_getElem? (i := 1642) (by decide +kernel), List.mem_of_getElem? (i := 1643) (by decide +kernel)⟩
theorem lw_p65 : lw_okq (⟨"PennyRatesModel", "prepare", "(I)V"⟩, 79) := ⟨⟨by decide +kernel, by decide +kernel⟩, List.mem_of_getElem? (i := 1208) (by decide +kernel), List.mem_of_getElem? (i := 1646) (by decide +kernel), List.mem_of_getElem? (i := 1647) (by decide +kernel)⟩
theorem lw_p66 : lw_okq (⟨"PennyRatesModel", "chargeOf", "(IIII)I"⟩, 79) := ⟨⟨by decide +kernel, by decide +kernel⟩, List.mem_of_getElem? (i := 1208) (by decide +kernel), List.mem_of_getElem? (i := 1650) (by decide +kernel), List.mem_of_getElem? (i := 1651) (by decide +kernel)⟩
theorem lw_p67 : lw_okq (⟨"PennyRatesModel", "mostOf", "(II)I"⟩, 79) := ⟨⟨by decide +kernel, by decide +kernel⟩, List.mem_of_getElem? (i := 1208) (by decide +kernel), List.mem_of_getElem? (i := 1658) (by decide +kernel), List.mem_of_getElem? (i := 1659) (by decide +kernel)⟩
theorem lw_p68 : lw_okq (⟨"PennyRatesModel", "isTape", "(I)Z"⟩, 79) := ⟨⟨by decide +kernel, by decide +kernel⟩, List.mem_of_getElem? (i := 1208) (by decide +kernel), List.mem_of_getElem? (i := 1675) (by decide +kernel), List.mem_of_getElem? (i := 1676) (by decide +kernel)⟩
theorem lw_p69 : lw_okq (⟨"PennyRatesModel", "isTruck", "(I)Z"⟩, 79) := ⟨⟨by decide +kernel, by decide +kernel⟩, List.mem_of_getElem? (i := 1208) (by decide +kernel), List.mem_of_getElem? (i := 1688) (by decide +kernel), List.mem_of_getElem? (i := 1689) (by decide +kernel)⟩
theorem lw_p70 : lw_okq (⟨"PennyRatesModel", "dueOf", "(I)I"⟩, 79) := ⟨⟨by decide +kernel, by decide +kernel⟩, List.mem_of_getElem? (i := 1208) (by decide +kernel), List.mem_of_getElem? (i := 1692) (by decide +kernel), List.mem_of_getElem? (i := 1693) (by decide +kernel)⟩
theorem lw_p71 : lw_okq (⟨"PennyRatesModel", "areSame", "(II)Z"⟩, 79) := ⟨⟨by decide +kernel, by decide +kernel⟩, List.mem_of_getElem? (i := 1208) (by decide +kernel), List.mem_of_getElem? (i := 1700) (by decide +kernel), List.mem_of_getElem? (i := 1701) (by decide +kernel)⟩
theorem lw_p72 : lw_okq (⟨"PennyRatesModel", "ask", "(II)V"⟩, 79) := ⟨⟨by decide +kernel, by decide +kernel⟩, List.mem_of_getElem? (i := 1208) (by decide +kernel), List.mem_of_getElem? (i := 1704) (by decide +kernel), List.mem_of_getElem? (i := 1705) (by decide +kernel)⟩
theorem lw_p73 : lw_okq (⟨"PennyRatesModel", "isBoat", "(I)Z"⟩, 79) := ⟨⟨by decide +kernel, by decide +kernel⟩, List.mem_of_getElem? (i := 1208) (by decide +kernel), List.mem_of_getElem? (i := 1708) (by decide +kernel), List.mem_of_getElem? (i := 1709) (by decide +kernel)⟩
theorem lw_p74 : lw_okq (⟨"PennyRatesModel", "areUnlike", "(II)Z"⟩, 79) := ⟨⟨by decide +kernel, by decide +kernel⟩, List.mem_of_getElem? (i := 1208) (by decide +kernel), List.mem_of_getElem? (i := 1712) (by decide +kernel), List.mem_of_getElem? (i := 1713) (by decide +kernel)⟩
theorem lw_p75 : lw_okq (⟨"PennyRatesModel", "findCheap", "(IIIII)Z"⟩, 79) := ⟨⟨by decide +kernel, by decide +kernel⟩, List.mem_of_getElem? (i := 1208) (by decide +kernel), List.mem_of_getElem? (i := 1730) (by decide +kernel), List.mem_of_getElem? (i := 1731) (by decide +kernel)⟩
theorem lw_p76 : lw_okq (⟨"PennyRatesModel", "sumUp", "(II)Z"⟩, 79) := ⟨⟨by decide +kernel, by decide +kernel⟩, List.mem_of_getElem? (i := 1208) (by decide +kernel), List.mem_of_getElem? (i := 1734) (by decide +kernel), List.mem_of_getElem? (i := 1735) (by decide +kernel)⟩
theorem lw_p77 : lw_okq (⟨"PennyRatesModel", "doesShip", "(II)Z"⟩, 79) := ⟨⟨by decide +kernel, by decide +kernel⟩, List.mem_of_getElem? (i := 1208) (by decide +kernel), List.mem_of_getElem? (i := 1751) (by decide +kernel), List.mem_of_getElem? (i := 1752) (by decide +kernel)⟩
theorem lw_p78 : lw_okq (⟨"PennyRatesModel", "takingsOf", "(II)I"⟩, 79) := ⟨⟨by decide +kernel, by decide +kernel⟩, List.mem_of_getElem? (i := 1208) (by decide +kernel), List.mem_of_getElem? (i := 1759) (by decide +kernel), List.mem_of_getElem? (i := 1760) (by decide +kernel)⟩
theorem lw_p79 : lw_okq (⟨"PennyRatesModel", "ones", "(I)I"⟩, 79) := ⟨⟨by decide +kernel, by decide +kernel⟩, List.mem_of_getElem? (i := 1208) (by decide +kernel), List.mem_of_getElem? (i := 1779) (by decide +kernel), List.mem_of_getElem? (i := 1780) (by decide +kernel)⟩
def lw_privs_5 : List (MethodName × Nat) := [(⟨"PennyRatesModel", "isTons", "(I)Z"⟩, 79), (⟨"PennyRatesModel", "prepare", "(I)V"⟩, 79), (⟨"PennyRatesModel", "chargeOf", "(IIII)I"⟩, 79), (⟨"PennyRatesModel", "mostOf", "(II)I"⟩, 79), (⟨"PennyRatesModel", "isTape", "(I)Z"⟩, 79), (⟨"PennyRatesModel", "isTruck", "(I)Z"⟩, 79), (⟨"PennyRatesModel", "dueOf", "(I)I"⟩, 79), (⟨"PennyRatesModel", "areSame", "(II)Z"⟩, 79), (⟨"PennyRatesModel", "ask", "(II)V"⟩, 79), (⟨"PennyRatesModel", "isBoat", "(I)Z"⟩, 79), (⟨"PennyRatesModel", "areUnlike", "(II)Z"⟩, 79), (⟨"PennyRatesModel", "findCheap", "(IIIII)Z"⟩, 79), (⟨"PennyRatesModel", "sumUp", "(II)Z"⟩, 79), (⟨"PennyRatesModel", "doesShip", "(II)Z"⟩, 79), (⟨"PennyRatesModel", "takingsOf", "(II)I"⟩, 79), (⟨"PennyRatesModel", "ones", "(I)I"⟩, 79)]
theorem lw_r5 : ∀ q ∈ lw_privs_5, lw_okq q := List.forall_mem_cons.mpr ⟨lw_p64, List.forall_mem_cons.mpr ⟨lw_p65, List.forall_mem_cons.mpr ⟨lw_p66, List.forall_mem_cons.mpr ⟨lw_p67, List.forall_mem_cons.mpr ⟨lw_p68, List.forall_mem_cons.mpr ⟨lw_p69, List.forall_mem_cons.mpr ⟨lw_p70, List.forall_mem_cons.mpr ⟨lw_p71, List.forall_mem_cons.mpr ⟨lw_p72, List.forall_mem_cons.mpr ⟨lw_p73, List.forall_mem_cons.mpr ⟨lw_p74, List.forall_mem_cons.mpr ⟨lw_p75, List.forall_mem_cons.mpr ⟨lw_p76, List.forall_mem_cons.mpr ⟨lw_p77, List.forall_mem_cons.mpr ⟨lw_p78, List.forall_mem_cons.mpr ⟨lw_p79, fun _ h => absurd h List.not_mem_nil⟩⟩⟩⟩⟩⟩⟩⟩⟩⟩⟩⟩⟩⟩⟩⟩
theorem lw_p80 : lw_okq (⟨"PennyRatesModel", "isFriend", "(IIIIIII)Z"⟩, 79) := ⟨⟨by decide +kernel, by decide +kernel⟩, List.mem_of_getElem? (i := 1208) (by decide +kernel), List.mem_of_getElem? (i := 1787) (by decide +kernel), List.mem_of_getElem? (i := 1788) (by decide +kernel)⟩
theorem lw_p81 : lw_okq (⟨"PennyRatesModel", "chargesOf", "(III)I"⟩, 79) := ⟨⟨by decide +kernel, by decide +kernel⟩, List.mem_of_getElem? (i := 1208) (by decide +kernel), List.mem_of_getElem? (i := 1795) (by decide +kernel), List.mem_of_getElem? (i := 1796) (by decide +kernel)⟩
theorem lw_p82 : lw_okq (⟨"PennyRatesModel", "body", "(I)V"⟩, 79) := ⟨⟨by decide +kernel, by decide +kernel⟩, List.mem_of_getElem? (i := 1208) (by decide +kernel), List.mem_of_getElem? (i := 1799) (by decide +kernel), List.mem_of_getElem? (i := 1800) (by decide +kernel)⟩
theorem lw_p83 : lw_okq (⟨"PennyRatesModel", "plainCharges", "(II)I"⟩, 79) := ⟨⟨by decide +kernel, by decide +kernel⟩, List.mem_of_getElem? (i := 1208) (by decide +kernel), List.mem_of_getElem? (i := 1803) (by decide +kernel), List.mem_of_getElem? (i := 1804) (by decide +kernel)⟩
theorem lw_p84 : lw_okq (⟨"PennyRatesModel", "splitsOf", "(III)I"⟩, 79) := ⟨⟨by decide +kernel, by decide +kernel⟩, List.mem_of_getElem? (i := 1208) (by decide +kernel), List.mem_of_getElem? (i := 1807) (by decide +kernel), List.mem_of_getElem? (i := 1808) (by decide +kernel)⟩
theorem lw_p85 : lw_okq (⟨"PennyRatesModel", "throughSplits", "(III)I"⟩, 79) := ⟨⟨by decide +kernel, by decide +kernel⟩, List.mem_of_getElem? (i := 1208) (by decide +kernel), List.mem_of_getElem? (i := 1811) (by decide +kernel), List.mem_of_getElem? (i := 1812) (by decide +kernel)⟩
theorem lw_p86 : lw_okq (⟨"PennyRatesModel", "plainSplits", "(III)I"⟩, 79) := ⟨⟨by decide +kernel, by decide +kernel⟩, List.mem_of_getElem? (i := 1208) (by decide +kernel), List.mem_of_getElem? (i := 1815) (by decide +kernel), List.mem_of_getElem? (i := 1816) (by decide +kernel)⟩
theorem lw_p87 : lw_okq (⟨"PennyRatesModel", "endsOf", "(III)I"⟩, 79) := ⟨⟨by decide +kernel, by decide +kernel⟩, List.mem_of_getElem? (i := 1208) (by decide +kernel), List.mem_of_getElem? (i := 1819) (by decide +kernel), List.mem_of_getElem? (i := 1820) (by decide +kernel)⟩
theorem lw_p88 : lw_okq (⟨"PennyRatesModel", "plainEnds", "(III)I"⟩, 79) := ⟨⟨by decide +kernel, by decide +kernel⟩, List.mem_of_getElem? (i := 1208) (by decide +kernel), List.mem_of_getElem? (i := 1823) (by decide +kernel), List.mem_of_getElem? (i := 1824) (by decide +kernel)⟩
def lw_privs_6 : List (MethodName × Nat) := [(⟨"PennyRatesModel", "isFriend", "(IIIIIII)Z"⟩, 79), (⟨"PennyRatesModel", "chargesOf", "(III)I"⟩, 79), (⟨"PennyRatesModel", "body", "(I)V"⟩, 79), (⟨"PennyRatesModel", "plainCharges", "(II)I"⟩, 79), (⟨"PennyRatesModel", "splitsOf", "(III)I"⟩, 79), (⟨"PennyRatesModel", "throughSplits", "(III)I"⟩, 79), (⟨"PennyRatesModel", "plainSplits", "(III)I"⟩, 79), (⟨"PennyRatesModel", "endsOf", "(III)I"⟩, 79), (⟨"PennyRatesModel", "plainEnds", "(III)I"⟩, 79)]
theorem lw_r6 : ∀ q ∈ lw_privs_6, lw_okq q := List.forall_mem_cons.mpr ⟨lw_p80, List.forall_mem_cons.mpr ⟨lw_p81, List.forall_mem_cons.mpr ⟨lw_p82, List.forall_mem_cons.mpr ⟨lw_p83, List.forall_mem_cons.mpr ⟨lw_p84, List.forall_mem_cons.mpr ⟨lw_p85, List.forall_mem_cons.mpr ⟨lw_p86, List.forall_mem_cons.mpr ⟨lw_p87, List.forall_mem_cons.mpr ⟨lw_p88, fun _ h => absurd h List.not_mem_nil⟩⟩⟩⟩⟩⟩⟩⟩⟩
def lw_privs : List (MethodName × Nat) := lw_privs_1 ++ (lw_privs_2 ++ (lw_privs_3 ++ (lw_privs_4 ++ (lw_privs_5 ++ (lw_privs_6)))))
def lw_tbl : List Cond := k2_sels lw_privs ++ tables_1
theorem lw_privs_ok : ∀ q ∈ lw_privs, lw_okq q := by
  show ∀ q ∈ lw_privs_1 ++ (lw_privs_2 ++ (lw_privs_3 ++ (lw_privs_4 ++ (lw_privs_5 ++ (lw_privs_6))))), lw_okq q
  exact List.forall_mem_append.mpr ⟨lw_r1, List.forall_mem_append.mpr ⟨lw_r2, List.forall_mem_append.mpr ⟨lw_r3, List.forall_mem_append.mpr ⟨lw_r4, List.forall_mem_append.mpr ⟨lw_r5, lw_r6⟩⟩⟩⟩⟩
def RX0 : String := "PennyRates$Acts"
def TX0 : u_T := fun k => match k with
  | 0 => ("PennyRates$Acts", "kept", "[I", true)
  | 1 => ("PennyRates$Acts", "ran", "I", false)
  | 2 => ("PennyRates$Acts", "kind", "I", false)
  | 3 => ("PennyRates$Acts", "number", "I", false)
  | 4 => ("PennyRates$Acts", "owner", "I", false)
  | _ => ("PennyRates$Acts", "pence", "I", false)
def tyX0 : Nat → FieldType := fun k => match k with
  | 0 => .array .int
  | 1 => .int
  | 2 => .int
  | 3 => .int
  | 4 => .int
  | _ => .int
abbrev wsX00 : List Cond := u_ws RX0 TX0 6
theorem nmX0 : ∀ a, a < 6 → ∀ b, b < 6 → a ≠ b → (TX0 a).2.1 ≠ (TX0 b).2.1 := by decide +kernel
theorem tyX0_ok : ∀ k, k < 6 → parseFieldDescriptor (TX0 k).2.2.1 = some (tyX0 k) := by decide +kernel
abbrev cX0_init : ByteArray := prog_2_method_1_code
def yX0_init : MethodName := ⟨RX0, "<init>", "()V"⟩
abbrev cX0_forget : ByteArray := prog_2_method_2_code
def yX0_forget : MethodName := ⟨RX0, "forget", "()V"⟩
abbrev cX0_keeps : ByteArray := prog_2_method_3_code
def yX0_keeps : MethodName := ⟨RX0, "keeps", "(I)Z"⟩
abbrev cX0_isUnder : ByteArray := prog_2_method_4_code
def yX0_isUnder : MethodName := ⟨RX0, "isUnder", "(II)Z"⟩
abbrev cX0_run : ByteArray := prog_2_method_5_code
def yX0_run : MethodName := ⟨RX0, "run", "(LPennyRates$Rate;II)I"⟩
abbrev cX0_bodyFrom : ByteArray := prog_2_method_6_code
def yX0_bodyFrom : MethodName := ⟨RX0, "bodyFrom", "(II)I"⟩
abbrev cX0_send : ByteArray := prog_2_method_7_code
def yX0_send : MethodName := ⟨RX0, "send", "(IIII)I"⟩
abbrev cX0_upperBody : ByteArray := prog_2_method_8_code
def yX0_upperBody : MethodName := ⟨RX0, "upperBody", "(III)I"⟩
abbrev cX0_lowerBody : ByteArray := prog_2_method_9_code
def yX0_lowerBody : MethodName := ⟨RX0, "lowerBody", "(III)I"⟩
def RX1 : String := "PennyRates$Carriage"
def TX1 : u_T := fun k => match k with
  | 0 => ("PennyRates$Carriage", "rates", "LPennyRates$Rates;", true)
  | 1 => ("PennyRates$Carriage", "fees", "[I", true)
  | 2 => ("PennyRates$Carriage", "serving", "[I", true)
  | 3 => ("PennyRates$Carriage", "sums", "[I", true)
  | 4 => ("PennyRates$Carriage", "servingCount", "I", false)
  | _ => ("PennyRates$Carriage", "legsThatHelp", "I", false)
def tyX1 : Nat → FieldType := fun k => match k with
  | 0 => .object "PennyRates$Rates"
  | 1 => .array .int
  | 2 => .array .int
  | 3 => .array .int
  | 4 => .int
  | _ => .int
abbrev wsX10 : List Cond := u_ws RX1 TX1 6
theorem nmX1 : ∀ a, a < 6 → ∀ b, b < 6 → a ≠ b → (TX1 a).2.1 ≠ (TX1 b).2.1 := by decide +kernel
theorem tyX1_ok : ∀ k, k < 6 → parseFieldDescriptor (TX1 k).2.2.1 = some (tyX1 k) := by decide +kernel
abbrev cX1_init : ByteArray := prog_3_method_1_code
def yX1_init : MethodName := ⟨RX1, "<init>", "(LPennyRates$Rates;)V"⟩
abbrev cX1_price : ByteArray := prog_3_method_2_code
def yX1_price : MethodName := ⟨RX1, "price", "(III)V"⟩
abbrev cX1_reach : ByteArray := prog_3_method_3_code
def yX1_reach : MethodName := ⟨RX1, "reach", "(I)V"⟩
abbrev cX1_addLeg : ByteArray := prog_3_method_4_code
def yX1_addLeg : MethodName := ⟨RX1, "addLeg", "(I)Z"⟩
abbrev cX1_leastFrom : ByteArray := prog_3_method_5_code
def yX1_leastFrom : MethodName := ⟨RX1, "leastFrom", "(I)I"⟩
abbrev cX1_legsFrom : ByteArray := prog_3_method_6_code
def yX1_legsFrom : MethodName := ⟨RX1, "legsFrom", "(I)I"⟩
abbrev cX1_firstLeg : ByteArray := prog_3_method_7_code
def yX1_firstLeg : MethodName := ⟨RX1, "firstLeg", "(II)I"⟩
abbrev cX1_leg : ByteArray := prog_3_method_8_code
def yX1_leg : MethodName := ⟨RX1, "leg", "(II)I"⟩
abbrev cX1_takenBy : ByteArray := prog_3_method_9_code
def yX1_takenBy : MethodName := ⟨RX1, "takenBy", "(II)I"⟩
def RX2 : String := "PennyRates$Law"
def TX2 : u_T := fun k => match k with
  | 0 => ("PennyRates$Law", "number", "I", true)
  | 1 => ("PennyRates$Law", "owner", "I", true)
  | 2 => ("PennyRates$Law", "day", "I", true)
  | 3 => ("PennyRates$Law", "values", "[I", true)
  | 4 => ("PennyRates$Law", "same", "[I", true)
  | _ => ("PennyRates$Law", "excuse", "[I", true)
def tyX2 : Nat → FieldType := fun k => match k with
  | 0 => .int
  | 1 => .int
  | 2 => .int
  | 3 => .array .int
  | 4 => .array .int
  | _ => .array .int
abbrev wsX20 : List Cond := u_ws RX2 TX2 6
theorem nmX2 : ∀ a, a < 6 → ∀ b, b < 6 → a ≠ b → (TX2 a).2.1 ≠ (TX2 b).2.1 := by decide +kernel
theorem tyX2_ok : ∀ k, k < 6 → parseFieldDescriptor (TX2 k).2.2.1 = some (tyX2 k) := by decide +kernel
abbrev cX2_init : ByteArray := prog_4_method_1_code
def yX2_init : MethodName := ⟨RX2, "<init>", "(III[I[I[I)V"⟩
abbrev cX2_judge : ByteArray := prog_4_method_2_code
def yX2_judge : MethodName := ⟨RX2, "judge", "([I[IZ)Z"⟩
abbrev cX2_passes : ByteArray := prog_4_method_3_code
def yX2_passes : MethodName := ⟨RX2, "passes", "(II[I)Z"⟩
def RX3 : String := "PennyRates$LawText"
def TX3 : u_T := fun k => match k with
  | 0 => ("PennyRates$LawText", "bytes", "[B", true)
  | 1 => ("PennyRates$LawText", "values", "[I", true)
  | 2 => ("PennyRates$LawText", "steps", "[I", true)
  | 3 => ("PennyRates$LawText", "length", "I", false)
  | 4 => ("PennyRates$LawText", "at", "I", false)
  | 5 => ("PennyRates$LawText", "stepsEnd", "I", false)
  | 6 => ("PennyRates$LawText", "sameStart", "I", false)
  | 7 => ("PennyRates$LawText", "sameEnd", "I", false)
  | 8 => ("PennyRates$LawText", "excuseStart", "I", false)
  | _ => ("PennyRates$LawText", "excuseEnd", "I", false)
def tyX3 : Nat → FieldType := fun k => match k with
  | 0 => .array .byte
  | 1 => .array .int
  | 2 => .array .int
  | 3 => .int
  | 4 => .int
  | 5 => .int
  | 6 => .int
  | 7 => .int
  | 8 => .int
  | _ => .int
abbrev wsX30 : List Cond := u_ws RX3 TX3 10
theorem nmX3 : ∀ a, a < 10 → ∀ b, b < 10 → a ≠ b → (TX3 a).2.1 ≠ (TX3 b).2.1 := by decide +kernel
theorem tyX3_ok : ∀ k, k < 10 → parseFieldDescriptor (TX3 k).2.2.1 = some (tyX3 k) := by decide +kernel
abbrev cX3_init : ByteArray := prog_5_method_1_code
def yX3_init : MethodName := ⟨RX3, "<init>", "()V"⟩
abbrev cX3_hasRoom : ByteArray := prog_5_method_2_code
def yX3_hasRoom : MethodName := ⟨RX3, "hasRoom", "(I)Z"⟩
abbrev cX3_append : ByteArray := prog_5_method_3_code
def yX3_append : MethodName := ⟨RX3, "append", "(II)I"⟩
abbrev cX3_sameSteps : ByteArray := prog_5_method_4_code
def yX3_sameSteps : MethodName := ⟨RX3, "sameSteps", "()[I"⟩
abbrev cX3_excuseSteps : ByteArray := prog_5_method_5_code
def yX3_excuseSteps : MethodName := ⟨RX3, "excuseSteps", "()[I"⟩
abbrev cX3_parses : ByteArray := prog_5_method_6_code
def yX3_parses : MethodName := ⟨RX3, "parses", "()Z"⟩
abbrev cX3_begin : ByteArray := prog_5_method_7_code
def yX3_begin : MethodName := ⟨RX3, "begin", "()V"⟩
abbrev cX3_takes : ByteArray := prog_5_method_8_code
def yX3_takes : MethodName := ⟨RX3, "takes", "(C)Z"⟩
abbrev cX3_clause : ByteArray := prog_5_method_9_code
def yX3_clause : MethodName := ⟨RX3, "clause", "()Z"⟩
abbrev cX3_spelled : ByteArray := prog_5_method_10_code
def yX3_spelled : MethodName := ⟨RX3, "spelled", "(I)Ljava/lang/String;"⟩
abbrev cX3_word : ByteArray := prog_5_method_11_code
def yX3_word : MethodName := ⟨RX3, "word", "()I"⟩
abbrev cX3_likeness : ByteArray := prog_5_method_12_code
def yX3_likeness : MethodName := ⟨RX3, "likeness", "(Ljava/lang/String;)I"⟩
abbrev cX3_number : ByteArray := prog_5_method_13_code
def yX3_number : MethodName := ⟨RX3, "number", "(I)I"⟩
abbrev cX3_numberInto : ByteArray := prog_5_method_14_code
def yX3_numberInto : MethodName := ⟨RX3, "numberInto", "(I)Z"⟩
abbrev cX3_goodClause : ByteArray := prog_5_method_15_code
def yX3_goodClause : MethodName := ⟨RX3, "goodClause", "()Z"⟩
abbrev cX3_mostClause : ByteArray := prog_5_method_16_code
def yX3_mostClause : MethodName := ⟨RX3, "mostClause", "()Z"⟩
abbrev cX3_emit : ByteArray := prog_5_method_17_code
def yX3_emit : MethodName := ⟨RX3, "emit", "(II)V"⟩
abbrev cX3_either : ByteArray := prog_5_method_18_code
def yX3_either : MethodName := ⟨RX3, "either", "(I)Z"⟩
abbrev cX3_both : ByteArray := prog_5_method_19_code
def yX3_both : MethodName := ⟨RX3, "both", "(I)Z"⟩
abbrev cX3_factor : ByteArray := prog_5_method_20_code
def yX3_factor : MethodName := ⟨RX3, "factor", "(I)Z"⟩
abbrev cX3_test : ByteArray := prog_5_method_21_code
def yX3_test : MethodName := ⟨RX3, "test", "()Z"⟩
def RX4 : String := "PennyRates$Laws"
def TX4 : u_T := fun k => match k with
  | 0 => ("PennyRates$Laws", "rows", "[LPennyRates$Law;", true)
  | 1 => ("PennyRates$Laws", "latest", "[LPennyRates$Law;", true)
  | 2 => ("PennyRates$Laws", "noLaw", "LPennyRates$Law;", true)
  | 3 => ("PennyRates$Laws", "settledDay", "I", false)
  | _ => ("PennyRates$Laws", "count", "I", false)
def tyX4 : Nat → FieldType := fun k => match k with
  | 0 => .array (.object "PennyRates$Law")
  | 1 => .array (.object "PennyRates$Law")
  | 2 => .object "PennyRates$Law"
  | 3 => .int
  | _ => .int
abbrev wsX40 : List Cond := u_ws RX4 TX4 5
theorem nmX4 : ∀ a, a < 5 → ∀ b, b < 5 → a ≠ b → (TX4 a).2.1 ≠ (TX4 b).2.1 := by decide +kernel
theorem tyX4_ok : ∀ k, k < 5 → parseFieldDescriptor (TX4 k).2.2.1 = some (tyX4 k) := by decide +kernel
abbrev cX4_init : ByteArray := prog_6_method_1_code
def yX4_init : MethodName := ⟨RX4, "<init>", "()V"⟩
abbrev cX4_areFull : ByteArray := prog_6_method_2_code
def yX4_areFull : MethodName := ⟨RX4, "areFull", "()Z"⟩
abbrev cX4_add : ByteArray := prog_6_method_3_code
def yX4_add : MethodName := ⟨RX4, "add", "(IILPennyRates$LawText;)I"⟩
abbrev cX4_inForce : ByteArray := prog_6_method_4_code
def yX4_inForce : MethodName := ⟨RX4, "inForce", "(II)LPennyRates$Law;"⟩
abbrev cX4_value : ByteArray := prog_6_method_5_code
def yX4_value : MethodName := ⟨RX4, "value", "(III)I"⟩
abbrev cX4_usual : ByteArray := prog_6_method_6_code
def yX4_usual : MethodName := ⟨RX4, "usual", "(I)I"⟩
def RX5 : String := "PennyRates$Rate"
def TX5 : u_T := fun k => match k with
  | 0 => ("PennyRates$Rate", "number", "I", false)
  | 1 => ("PennyRates$Rate", "was", "I", false)
  | 2 => ("PennyRates$Rate", "owner", "I", false)
  | 3 => ("PennyRates$Rate", "from", "I", false)
  | 4 => ("PennyRates$Rate", "to", "I", false)
  | 5 => ("PennyRates$Rate", "pence", "I", false)
  | 6 => ("PennyRates$Rate", "carried", "I", false)
  | 7 => ("PennyRates$Rate", "since", "I", false)
  | 8 => ("PennyRates$Rate", "until", "I", false)
  | 9 => ("PennyRates$Rate", "least", "I", false)
  | 10 => ("PennyRates$Rate", "instead", "I", false)
  | _ => ("PennyRates$Rate", "withdrawn", "Z", false)
def tyX5 : Nat → FieldType := fun k => match k with
  | 0 => .int
  | 1 => .int
  | 2 => .int
  | 3 => .int
  | 4 => .int
  | 5 => .int
  | 6 => .int
  | 7 => .int
  | 8 => .int
  | 9 => .int
  | 10 => .int
  | _ => .boolean
abbrev wsX50 : List Cond := u_ws RX5 TX5 12
theorem nmX5 : ∀ a, a < 12 → ∀ b, b < 12 → a ≠ b → (TX5 a).2.1 ≠ (TX5 b).2.1 := by decide +kernel
theorem tyX5_ok : ∀ k, k < 12 → parseFieldDescriptor (TX5 k).2.2.1 = some (tyX5 k) := by decide +kernel
abbrev cX5_init : ByteArray := prog_7_method_1_code
def yX5_init : MethodName := ⟨RX5, "<init>", "()V"⟩
abbrev cX5_kind : ByteArray := prog_7_method_2_code
def yX5_kind : MethodName := ⟨RX5, "kind", "()I"⟩
abbrev cX5_isPrinted : ByteArray := prog_7_method_3_code
def yX5_isPrinted : MethodName := ⟨RX5, "isPrinted", "(I)Z"⟩
abbrev cX5_takeOut : ByteArray := prog_7_method_4_code
def yX5_takeOut : MethodName := ⟨RX5, "takeOut", "(I)V"⟩
abbrev cX5_putBack : ByteArray := prog_7_method_5_code
def yX5_putBack : MethodName := ⟨RX5, "putBack", "()V"⟩
abbrev cX5_fact : ByteArray := prog_7_method_6_code
def yX5_fact : MethodName := ⟨RX5, "fact", "(I)I"⟩
def RX6 : String := "PennyRates$Rates"
def TX6 : u_T := fun k => match k with
  | 0 => ("PennyRates$Rates", "roads", "LPennyRates$Roads;", true)
  | 1 => ("PennyRates$Rates", "laws", "LPennyRates$Laws;", true)
  | 2 => ("PennyRates$Rates", "rows", "[LPennyRates$Rate;", true)
  | 3 => ("PennyRates$Rates", "weights", "[I", true)
  | _ => ("PennyRates$Rates", "count", "I", false)
def tyX6 : Nat → FieldType := fun k => match k with
  | 0 => .object "PennyRates$Roads"
  | 1 => .object "PennyRates$Laws"
  | 2 => .array (.object "PennyRates$Rate")
  | 3 => .array .int
  | _ => .int
abbrev wsX60 : List Cond := u_ws RX6 TX6 5
theorem nmX6 : ∀ a, a < 5 → ∀ b, b < 5 → a ≠ b → (TX6 a).2.1 ≠ (TX6 b).2.1 := by decide +kernel
theorem tyX6_ok : ∀ k, k < 5 → parseFieldDescriptor (TX6 k).2.2.1 = some (tyX6 k) := by decide +kernel
abbrev cX6_init : ByteArray := prog_8_method_1_code
def yX6_init : MethodName := ⟨RX6, "<init>", "(LPennyRates$Roads;LPennyRates$Laws;)V"⟩
abbrev cX6_has : ByteArray := prog_8_method_2_code
def yX6_has : MethodName := ⟨RX6, "has", "(I)Z"⟩
abbrev cX6_areFull : ByteArray := prog_8_method_3_code
def yX6_areFull : MethodName := ⟨RX6, "areFull", "()Z"⟩
abbrev cX6_row : ByteArray := prog_8_method_4_code
def yX6_row : MethodName := ⟨RX6, "row", "(I)LPennyRates$Rate;"⟩
abbrev cX6_add : ByteArray := prog_8_method_5_code
def yX6_add : MethodName := ⟨RX6, "add", "(IIIIIII)I"⟩
abbrev cX6_classOf : ByteArray := prog_8_method_6_code
def yX6_classOf : MethodName := ⟨RX6, "classOf", "(LPennyRates$Rate;I)I"⟩
abbrev cX6_perTon : ByteArray := prog_8_method_7_code
def yX6_perTon : MethodName := ⟨RX6, "perTon", "(LPennyRates$Rate;I)I"⟩
abbrev cX6_fee : ByteArray := prog_8_method_8_code
def yX6_fee : MethodName := ⟨RX6, "fee", "(LPennyRates$Rate;IIII)I"⟩
abbrev cX6_ceiling : ByteArray := prog_8_method_9_code
def yX6_ceiling : MethodName := ⟨RX6, "ceiling", "(LPennyRates$Rate;I)I"⟩
abbrev cX6_over : ByteArray := prog_8_method_10_code
def yX6_over : MethodName := ⟨RX6, "over", "(LPennyRates$Rate;I)I"⟩
abbrev cX6_share : ByteArray := prog_8_method_11_code
def yX6_share : MethodName := ⟨RX6, "share", "(LPennyRates$Rate;II)I"⟩
abbrev cX6_weigh : ByteArray := prog_8_method_12_code
def yX6_weigh : MethodName := ⟨RX6, "weigh", "(LPennyRates$Rate;I)I"⟩
def RX7 : String := "PennyRates$Roads"
def TX7 : u_T := fun k => match k with
  | 0 => ("PennyRates$Roads", "owners", "[I", true)
  | 1 => ("PennyRates$Roads", "lengths", "[I", true)
  | 2 => ("PennyRates$Roads", "beside", "[I", true)
  | 3 => ("PennyRates$Roads", "fewest", "[[I", true)
  | _ => ("PennyRates$Roads", "count", "I", false)
def tyX7 : Nat → FieldType := fun k => match k with
  | 0 => .array .int
  | 1 => .array .int
  | 2 => .array .int
  | 3 => .array (.array .int)
  | _ => .int
abbrev wsX70 : List Cond := u_ws RX7 TX7 5
theorem nmX7 : ∀ a, a < 5 → ∀ b, b < 5 → a ≠ b → (TX7 a).2.1 ≠ (TX7 b).2.1 := by decide +kernel
theorem tyX7_ok : ∀ k, k < 5 → parseFieldDescriptor (TX7 k).2.2.1 = some (tyX7 k) := by decide +kernel
abbrev cX7_init : ByteArray := prog_9_method_1_code
def yX7_init : MethodName := ⟨RX7, "<init>", "()V"⟩
abbrev cX7_isFull : ByteArray := prog_9_method_2_code
def yX7_isFull : MethodName := ⟨RX7, "isFull", "()Z"⟩
abbrev cX7_add : ByteArray := prog_9_method_3_code
def yX7_add : MethodName := ⟨RX7, "add", "(IIII)I"⟩
abbrev cX7_shorten : ByteArray := prog_9_method_4_code
def yX7_shorten : MethodName := ⟨RX7, "shorten", "([IIII)V"⟩
abbrev cX7_between : ByteArray := prog_9_method_5_code
def yX7_between : MethodName := ⟨RX7, "between", "(III)I"⟩
abbrev cX7_nextOnWay : ByteArray := prog_9_method_6_code
def yX7_nextOnWay : MethodName := ⟨RX7, "nextOnWay", "(II)I"⟩
abbrev cX7_lineOnWay : ByteArray := prog_9_method_7_code
def yX7_lineOnWay : MethodName := ⟨RX7, "lineOnWay", "(III)I"⟩
abbrev cX7_addMilesOfOwners : ByteArray := prog_9_method_8_code
def yX7_addMilesOfOwners : MethodName := ⟨RX7, "addMilesOfOwners", "(II[I)V"⟩
def RX8 : String := "PennyRates$Tapes"
def TX8 : u_T := fun k => match k with
  | 0 => ("PennyRates$Tapes", "sorts", "[I", true)
  | 1 => ("PennyRates$Tapes", "sizes", "[I", true)
  | _ => ("PennyRates$Tapes", "cells", "[[J", true)
def tyX8 : Nat → FieldType := fun k => match k with
  | 0 => .array .int
  | 1 => .array .int
  | _ => .array (.array .long)
abbrev wsX80 : List Cond := u_ws RX8 TX8 3
theorem nmX8 : ∀ a, a < 3 → ∀ b, b < 3 → a ≠ b → (TX8 a).2.1 ≠ (TX8 b).2.1 := by decide +kernel
theorem tyX8_ok : ∀ k, k < 3 → parseFieldDescriptor (TX8 k).2.2.1 = some (tyX8 k) := by decide +kernel
abbrev cX8_init : ByteArray := prog_10_method_1_code
def yX8_init : MethodName := ⟨RX8, "<init>", "()V"⟩
abbrev cX8_lay : ByteArray := prog_10_method_2_code
def yX8_lay : MethodName := ⟨RX8, "lay", "(III)V"⟩
abbrev cX8_reaches : ByteArray := prog_10_method_3_code
def yX8_reaches : MethodName := ⟨RX8, "reaches", "(III)Z"⟩
abbrev cX8_cut : ByteArray := prog_10_method_4_code
def yX8_cut : MethodName := ⟨RX8, "cut", "(IJ)J"⟩
def RX9 : String := "PennyRates$Trucks"
def TX9 : u_T := fun k => match k with
  | 0 => ("PennyRates$Trucks", "rates", "LPennyRates$Rates;", true)
  | 1 => ("PennyRates$Trucks", "laws", "LPennyRates$Laws;", true)
  | 2 => ("PennyRates$Trucks", "rateOf", "[I", true)
  | 3 => ("PennyRates$Trucks", "goods", "[I", true)
  | 4 => ("PennyRates$Trucks", "tons", "[I", true)
  | 5 => ("PennyRates$Trucks", "paid", "[I", true)
  | 6 => ("PennyRates$Trucks", "days", "[I", true)
  | 7 => ("PennyRates$Trucks", "facts", "[I", true)
  | 8 => ("PennyRates$Trucks", "marked", "[I", true)
  | 9 => ("PennyRates$Trucks", "markedCount", "I", false)
  | _ => ("PennyRates$Trucks", "count", "I", false)
def tyX9 : Nat → FieldType := fun k => match k with
  | 0 => .object "PennyRates$Rates"
  | 1 => .object "PennyRates$Laws"
  | 2 => .array .int
  | 3 => .array .int
  | 4 => .array .int
  | 5 => .array .int
  | 6 => .array .int
  | 7 => .array .int
  | 8 => .array .int
  | 9 => .int
  | _ => .int
abbrev wsX90 : List Cond := u_ws RX9 TX9 11
theorem nmX9 : ∀ a, a < 11 → ∀ b, b < 11 → a ≠ b → (TX9 a).2.1 ≠ (TX9 b).2.1 := by decide +kernel
theorem tyX9_ok : ∀ k, k < 11 → parseFieldDescriptor (TX9 k).2.2.1 = some (tyX9 k) := by decide +kernel
abbrev cX9_init : ByteArray := prog_11_method_1_code
def yX9_init : MethodName := ⟨RX9, "<init>", "(LPennyRates$Rates;LPennyRates$Laws;)V"⟩
abbrev cX9_has : ByteArray := prog_11_method_2_code
def yX9_has : MethodName := ⟨RX9, "has", "(I)Z"⟩
abbrev cX9_areFull : ByteArray := prog_11_method_3_code
def yX9_areFull : MethodName := ⟨RX9, "areFull", "()Z"⟩
abbrev cX9_add : ByteArray := prog_11_method_4_code
def yX9_add : MethodName := ⟨RX9, "add", "(IIIII)I"⟩
abbrev cX9_rateOfTruck : ByteArray := prog_11_method_5_code
def yX9_rateOfTruck : MethodName := ⟨RX9, "rateOfTruck", "(I)LPennyRates$Rate;"⟩
abbrev cX9_dueOf : ByteArray := prog_11_method_6_code
def yX9_dueOf : MethodName := ⟨RX9, "dueOf", "(I)I"⟩
abbrev cX9_oneIf : ByteArray := prog_11_method_7_code
def yX9_oneIf : MethodName := ⟨RX9, "oneIf", "(Z)I"⟩
abbrev cX9_courtsLaw : ByteArray := prog_11_method_8_code
def yX9_courtsLaw : MethodName := ⟨RX9, "courtsLaw", "(II)LPennyRates$Law;"⟩
abbrev cX9_gatherFacts : ByteArray := prog_11_method_9_code
def yX9_gatherFacts : MethodName := ⟨RX9, "gatherFacts", "(II)V"⟩
abbrev cX9_areSame : ByteArray := prog_11_method_10_code
def yX9_areSame : MethodName := ⟨RX9, "areSame", "(II)Z"⟩
abbrev cX9_areUnlike : ByteArray := prog_11_method_11_code
def yX9_areUnlike : MethodName := ⟨RX9, "areUnlike", "(II)Z"⟩
abbrev cX9_countUnlike : ByteArray := prog_11_method_12_code
def yX9_countUnlike : MethodName := ⟨RX9, "countUnlike", "()I"⟩
abbrev cX9_firstUnlike : ByteArray := prog_11_method_13_code
def yX9_firstUnlike : MethodName := ⟨RX9, "firstUnlike", "(Z)I"⟩
abbrev cX9_claims : ByteArray := prog_11_method_14_code
def yX9_claims : MethodName := ⟨RX9, "claims", "(II)J"⟩
abbrev cX9_claim : ByteArray := prog_11_method_15_code
def yX9_claim : MethodName := ⟨RX9, "claim", "(III)J"⟩
abbrev cX9_markFriends : ByteArray := prog_11_method_16_code
def yX9_markFriends : MethodName := ⟨RX9, "markFriends", "(IIIIII)I"⟩
abbrev cX9_paidPerTon : ByteArray := prog_11_method_17_code
def yX9_paidPerTon : MethodName := ⟨RX9, "paidPerTon", "(I)I"⟩
abbrev cX9_leastPaid : ByteArray := prog_11_method_18_code
def yX9_leastPaid : MethodName := ⟨RX9, "leastPaid", "()I"⟩
abbrev cX9_greatestPaid : ByteArray := prog_11_method_19_code
def yX9_greatestPaid : MethodName := ⟨RX9, "greatestPaid", "()I"⟩
abbrev cX9_rebate : ByteArray := prog_11_method_20_code
def yX9_rebate : MethodName := ⟨RX9, "rebate", "()I"⟩
def RX10 : String := "PennyRates$Wants"
def TX10 : u_T := fun k => match k with
  | 0 => ("PennyRates$Wants", "rates", "LPennyRates$Rates;", true)
  | 1 => ("PennyRates$Wants", "carriage", "LPennyRates$Carriage;", true)
  | 2 => ("PennyRates$Wants", "froms", "[I", true)
  | 3 => ("PennyRates$Wants", "tos", "[I", true)
  | 4 => ("PennyRates$Wants", "goods", "[I", true)
  | 5 => ("PennyRates$Wants", "tons", "[I", true)
  | 6 => ("PennyRates$Wants", "pence", "[I", true)
  | 7 => ("PennyRates$Wants", "listed", "[I", true)
  | 8 => ("PennyRates$Wants", "raisedPence", "[I", true)
  | 9 => ("PennyRates$Wants", "plainFees", "[I", true)
  | 10 => ("PennyRates$Wants", "raisedFees", "[I", true)
  | 11 => ("PennyRates$Wants", "takenOfOne", "[I", true)
  | 12 => ("PennyRates$Wants", "takenOfAll", "[I", true)
  | 13 => ("PennyRates$Wants", "count", "I", false)
  | _ => ("PennyRates$Wants", "listCount", "I", false)
def tyX10 : Nat → FieldType := fun k => match k with
  | 0 => .object "PennyRates$Rates"
  | 1 => .object "PennyRates$Carriage"
  | 2 => .array .int
  | 3 => .array .int
  | 4 => .array .int
  | 5 => .array .int
  | 6 => .array .int
  | 7 => .array .int
  | 8 => .array .int
  | 9 => .array .int
  | 10 => .array .int
  | 11 => .array .int
  | 12 => .array .int
  | 13 => .int
  | _ => .int
abbrev wsX100 : List Cond := u_ws RX10 TX10 15
theorem nmX10 : ∀ a, a < 15 → ∀ b, b < 15 → a ≠ b → (TX10 a).2.1 ≠ (TX10 b).2.1 := by decide +kernel
theorem tyX10_ok : ∀ k, k < 15 → parseFieldDescriptor (TX10 k).2.2.1 = some (tyX10 k) := by decide +kernel
abbrev cX10_init : ByteArray := prog_12_method_1_code
def yX10_init : MethodName := ⟨RX10, "<init>", "(LPennyRates$Rates;LPennyRates$Carriage;)V"⟩
abbrev cX10_has : ByteArray := prog_12_method_2_code
def yX10_has : MethodName := ⟨RX10, "has", "(I)Z"⟩
abbrev cX10_areFull : ByteArray := prog_12_method_3_code
def yX10_areFull : MethodName := ⟨RX10, "areFull", "()Z"⟩
abbrev cX10_add : ByteArray := prog_12_method_4_code
def yX10_add : MethodName := ⟨RX10, "add", "(IIIII)I"⟩
abbrev cX10_isWorth : ByteArray := prog_12_method_5_code
def yX10_isWorth : MethodName := ⟨RX10, "isWorth", "(I)Z"⟩
abbrev cX10_goes : ByteArray := prog_12_method_6_code
def yX10_goes : MethodName := ⟨RX10, "goes", "(II)Z"⟩
abbrev cX10_sumTaken : ByteArray := prog_12_method_7_code
def yX10_sumTaken : MethodName := ⟨RX10, "sumTaken", "(II)I"⟩
abbrev cX10_isListed : ByteArray := prog_12_method_8_code
def yX10_isListed : MethodName := ⟨RX10, "isListed", "(I)Z"⟩
abbrev cX10_listIsFull : ByteArray := prog_12_method_9_code
def yX10_listIsFull : MethodName := ⟨RX10, "listIsFull", "()Z"⟩
abbrev cX10_enlist : ByteArray := prog_12_method_10_code
def yX10_enlist : MethodName := ⟨RX10, "enlist", "(I)I"⟩
abbrev cX10_fewestRaised : ByteArray := prog_12_method_11_code
def yX10_fewestRaised : MethodName := ⟨RX10, "fewestRaised", "(II)I"⟩
abbrev cX10_addTakenBySets : ByteArray := prog_12_method_12_code
def yX10_addTakenBySets : MethodName := ⟨RX10, "addTakenBySets", "(III)V"⟩
abbrev cX10_priceListed : ByteArray := prog_12_method_13_code
def yX10_priceListed : MethodName := ⟨RX10, "priceListed", "(II)I"⟩
abbrev cX10_takenIfRaised : ByteArray := prog_12_method_14_code
def yX10_takenIfRaised : MethodName := ⟨RX10, "takenIfRaised", "(II)I"⟩
def RX11 : String := "PennyRates"
def TX11 : u_T := fun k => match k with
  | 0 => ("PennyRates", "roads", "LPennyRates$Roads;", true)
  | 1 => ("PennyRates", "text", "LPennyRates$LawText;", true)
  | 2 => ("PennyRates", "laws", "LPennyRates$Laws;", true)
  | 3 => ("PennyRates", "rates", "LPennyRates$Rates;", true)
  | 4 => ("PennyRates", "trucks", "LPennyRates$Trucks;", true)
  | 5 => ("PennyRates", "carriage", "LPennyRates$Carriage;", true)
  | 6 => ("PennyRates", "wants", "LPennyRates$Wants;", true)
  | 7 => ("PennyRates", "acts", "LPennyRates$Acts;", true)
  | 8 => ("PennyRates", "tapes", "LPennyRates$Tapes;", true)
  | 9 => ("PennyRates", "today", "I", false)
  | _ => ("PennyRates", "bookEnd", "I", false)
def tyX11 : Nat → FieldType := fun k => match k with
  | 0 => .object "PennyRates$Roads"
  | 1 => .object "PennyRates$LawText"
  | 2 => .object "PennyRates$Laws"
  | 3 => .object "PennyRates$Rates"
  | 4 => .object "PennyRates$Trucks"
  | 5 => .object "PennyRates$Carriage"
  | 6 => .object "PennyRates$Wants"
  | 7 => .object "PennyRates$Acts"
  | 8 => .object "PennyRates$Tapes"
  | 9 => .int
  | _ => .int
abbrev wsX110 : List Cond := u_ws RX11 TX11 11
theorem nmX11 : ∀ a, a < 11 → ∀ b, b < 11 → a ≠ b → (TX11 a).2.1 ≠ (TX11 b).2.1 := by decide +kernel
theorem tyX11_ok : ∀ k, k < 11 → parseFieldDescriptor (TX11 k).2.2.1 = some (tyX11 k) := by decide +kernel
abbrev cX11_init : ByteArray := prog_1_method_1_code
def yX11_init : MethodName := ⟨RX11, "<init>", "()V"⟩
abbrev cX11_pass : ByteArray := prog_1_method_2_code
def yX11_pass : MethodName := ⟨RX11, "pass", "(I)I"⟩
abbrev cX11_line : ByteArray := prog_1_method_3_code
def yX11_line : MethodName := ⟨RX11, "line", "(IIII)I"⟩
abbrev cX11_miles : ByteArray := prog_1_method_4_code
def yX11_miles : MethodName := ⟨RX11, "miles", "(III)I"⟩
abbrev cX11_way : ByteArray := prog_1_method_5_code
def yX11_way : MethodName := ⟨RX11, "way", "(III)I"⟩
abbrev cX11_feed : ByteArray := prog_1_method_6_code
def yX11_feed : MethodName := ⟨RX11, "feed", "(II)I"⟩
abbrev cX11_law : ByteArray := prog_1_method_7_code
def yX11_law : MethodName := ⟨RX11, "law", "(II)I"⟩
abbrev cX11_holds : ByteArray := prog_1_method_8_code
def yX11_holds : MethodName := ⟨RX11, "holds", "(III)I"⟩
abbrev cX11_rate : ByteArray := prog_1_method_9_code
def yX11_rate : MethodName := ⟨RX11, "rate", "(IIIIIII)I"⟩
abbrev cX11_special : ByteArray := prog_1_method_10_code
def yX11_special : MethodName := ⟨RX11, "special", "(IIIIII)I"⟩
abbrev cX11_withdraw : ByteArray := prog_1_method_11_code
def yX11_withdraw : MethodName := ⟨RX11, "withdraw", "(I)I"⟩
abbrev cX11_set : ByteArray := prog_1_method_12_code
def yX11_set : MethodName := ⟨RX11, "set", "(II)I"⟩
abbrev cX11_undo : ByteArray := prog_1_method_13_code
def yX11_undo : MethodName := ⟨RX11, "undo", "(I)I"⟩
abbrev cX11_of : ByteArray := prog_1_method_14_code
def yX11_of : MethodName := ⟨RX11, "of", "(II)I"⟩
abbrev cX11_charge : ByteArray := prog_1_method_15_code
def yX11_charge : MethodName := ⟨RX11, "charge", "(IIII)I"⟩
abbrev cX11_most : ByteArray := prog_1_method_16_code
def yX11_most : MethodName := ⟨RX11, "most", "(III)I"⟩
abbrev cX11_part : ByteArray := prog_1_method_17_code
def yX11_part : MethodName := ⟨RX11, "part", "(III)I"⟩
abbrev cX11_truck : ByteArray := prog_1_method_18_code
def yX11_truck : MethodName := ⟨RX11, "truck", "(IIIII)I"⟩
abbrev cX11_book : ByteArray := prog_1_method_19_code
def yX11_book : MethodName := ⟨RX11, "book", "(III)I"⟩
abbrev cX11_ended : ByteArray := prog_1_method_20_code
def yX11_ended : MethodName := ⟨RX11, "ended", "()I"⟩
abbrev cX11_due : ByteArray := prog_1_method_21_code
def yX11_due : MethodName := ⟨RX11, "due", "(I)I"⟩
abbrev cX11_unlike : ByteArray := prog_1_method_22_code
def yX11_unlike : MethodName := ⟨RX11, "unlike", "(III)I"⟩
abbrev cX11_unlikes : ByteArray := prog_1_method_23_code
def yX11_unlikes : MethodName := ⟨RX11, "unlikes", "(I)I"⟩
abbrev cX11_suit : ByteArray := prog_1_method_24_code
def yX11_suit : MethodName := ⟨RX11, "suit", "(I)J"⟩
abbrev cX11_cheap : ByteArray := prog_1_method_25_code
def yX11_cheap : MethodName := ⟨RX11, "cheap", "(IIIIII)I"⟩
abbrev cX11_cry : ByteArray := prog_1_method_26_code
def yX11_cry : MethodName := ⟨RX11, "cry", "(IIIII)I"⟩
abbrev cX11_want : ByteArray := prog_1_method_27_code
def yX11_want : MethodName := ⟨RX11, "want", "(IIIII)I"⟩
abbrev cX11_ships : ByteArray := prog_1_method_28_code
def yX11_ships : MethodName := ⟨RX11, "ships", "(II)I"⟩
abbrev cX11_takings : ByteArray := prog_1_method_29_code
def yX11_takings : MethodName := ⟨RX11, "takings", "(II)I"⟩
abbrev cX11_tries : ByteArray := prog_1_method_30_code
def yX11_tries : MethodName := ⟨RX11, "tries", "(III)I"⟩
abbrev cX11_list : ByteArray := prog_1_method_31_code
def yX11_list : MethodName := ⟨RX11, "list", "(I)I"⟩
abbrev cX11_listless : ByteArray := prog_1_method_32_code
def yX11_listless : MethodName := ⟨RX11, "listless", "()I"⟩
abbrev cX11_change : ByteArray := prog_1_method_33_code
def yX11_change : MethodName := ⟨RX11, "change", "(I)I"⟩
abbrev cX11_friends : ByteArray := prog_1_method_34_code
def yX11_friends : MethodName := ⟨RX11, "friends", "(IIIIIII)I"⟩
abbrev cX11_act : ByteArray := prog_1_method_35_code
def yX11_act : MethodName := ⟨RX11, "act", "(III)I"⟩
abbrev cX11_trace : ByteArray := prog_1_method_36_code
def yX11_trace : MethodName := ⟨RX11, "trace", "(I)I"⟩
abbrev cX11_taken : ByteArray := prog_1_method_37_code
def yX11_taken : MethodName := ⟨RX11, "taken", "(II)I"⟩
abbrev cX11_count : ByteArray := prog_1_method_38_code
def yX11_count : MethodName := ⟨RX11, "count", "(I)I"⟩
abbrev cX11_tape : ByteArray := prog_1_method_39_code
def yX11_tape : MethodName := ⟨RX11, "tape", "(III)I"⟩
abbrev cX11_item : ByteArray := prog_1_method_40_code
def yX11_item : MethodName := ⟨RX11, "item", "(IIJ)I"⟩
abbrev cX11_read : ByteArray := prog_1_method_41_code
def yX11_read : MethodName := ⟨RX11, "read", "(II)J"⟩
abbrev cX11_shift : ByteArray := prog_1_method_42_code
def yX11_shift : MethodName := ⟨RX11, "shift", "(IIIII)I"⟩
abbrev cX11_isOwner : ByteArray := prog_1_method_43_code
def yX11_isOwner : MethodName := ⟨RX11, "isOwner", "(I)Z"⟩
abbrev cX11_isOwnerOrNoOne : ByteArray := prog_1_method_44_code
def yX11_isOwnerOrNoOne : MethodName := ⟨RX11, "isOwnerOrNoOne", "(I)Z"⟩
abbrev cX11_isStation : ByteArray := prog_1_method_45_code
def yX11_isStation : MethodName := ⟨RX11, "isStation", "(I)Z"⟩
abbrev cX11_areStations : ByteArray := prog_1_method_46_code
def yX11_areStations : MethodName := ⟨RX11, "areStations", "(II)Z"⟩
abbrev cX11_isGood : ByteArray := prog_1_method_47_code
def yX11_isGood : MethodName := ⟨RX11, "isGood", "(I)Z"⟩
abbrev cX11_isDay : ByteArray := prog_1_method_48_code
def yX11_isDay : MethodName := ⟨RX11, "isDay", "(I)Z"⟩
abbrev cX11_areTons : ByteArray := prog_1_method_49_code
def yX11_areTons : MethodName := ⟨RX11, "areTons", "(I)Z"⟩
abbrev cX11_isPence : ByteArray := prog_1_method_50_code
def yX11_isPence : MethodName := ⟨RX11, "isPence", "(II)Z"⟩
abbrev cX11_isTape : ByteArray := prog_1_method_51_code
def yX11_isTape : MethodName := ⟨RX11, "isTape", "(I)Z"⟩
abbrev cX11_soonest : ByteArray := prog_1_method_52_code
def yX11_soonest : MethodName := ⟨RX11, "soonest", "(I)I"⟩
abbrev cX11_truckRefusal : ByteArray := prog_1_method_53_code
def yX11_truckRefusal : MethodName := ⟨RX11, "truckRefusal", "(IIIII)I"⟩
abbrev cX11_bookRow : ByteArray := prog_1_method_54_code
def yX11_bookRow : MethodName := ⟨RX11, "bookRow", "(IJ)I"⟩
def RX12 : String := "PennyRatesModel"
def TX12 : u_T := fun k => match k with
  | 0 => ("PennyRatesModel", "today", "I", false)
  | 1 => ("PennyRatesModel", "lines", "I", false)
  | 2 => ("PennyRatesModel", "lineOwner", "[I", true)
  | 3 => ("PennyRatesModel", "lineA", "[I", true)
  | 4 => ("PennyRatesModel", "lineB", "[I", true)
  | 5 => ("PennyRatesModel", "lineMiles", "[I", true)
  | 6 => ("PennyRatesModel", "far", "[I", true)
  | 7 => ("PennyRatesModel", "direct", "[I", true)
  | 8 => ("PennyRatesModel", "wayLine", "[I", true)
  | 9 => ("PennyRatesModel", "wayMany", "I", false)
  | 10 => ("PennyRatesModel", "laws", "I", false)
  | 11 => ("PennyRatesModel", "fed", "I", false)
  | 12 => ("PennyRatesModel", "lawOwner", "[I", true)
  | 13 => ("PennyRatesModel", "lawDay", "[I", true)
  | 14 => ("PennyRatesModel", "text", "[I", true)
  | 15 => ("PennyRatesModel", "size", "[I", true)
  | 16 => ("PennyRatesModel", "classOf", "[I", true)
  | 17 => ("PennyRatesModel", "most", "[I", true)
  | 18 => ("PennyRatesModel", "plain", "[I", true)
  | 19 => ("PennyRatesModel", "isByMiles", "Z", false)
  | 20 => ("PennyRatesModel", "isSame", "Z", false)
  | 21 => ("PennyRatesModel", "isExcused", "Z", false)
  | 22 => ("PennyRatesModel", "facts", "[I", true)
  | 23 => ("PennyRatesModel", "base", "I", false)
  | 24 => ("PennyRatesModel", "many", "I", false)
  | 25 => ("PennyRatesModel", "at", "I", false)
  | 26 => ("PennyRatesModel", "value", "I", false)
  | 27 => ("PennyRatesModel", "waits", "[I", true)
  | 28 => ("PennyRatesModel", "pile", "[Z", true)
  | 29 => ("PennyRatesModel", "waiting", "I", false)
  | 30 => ("PennyRatesModel", "piled", "I", false)
  | 31 => ("PennyRatesModel", "open", "I", false)
  | 32 => ("PennyRatesModel", "rates", "I", false)
  | 33 => ("PennyRatesModel", "kind", "[I", true)
  | 34 => ("PennyRatesModel", "owner", "[I", true)
  | 35 => ("PennyRatesModel", "from", "[I", true)
  | 36 => ("PennyRatesModel", "to", "[I", true)
  | 37 => ("PennyRatesModel", "pence", "[I", true)
  | 38 => ("PennyRatesModel", "cls", "[I", true)
  | 39 => ("PennyRatesModel", "since", "[I", true)
  | 40 => ("PennyRatesModel", "until", "[I", true)
  | 41 => ("PennyRatesModel", "leastTons", "[I", true)
  | 42 => ("PennyRatesModel", "inPlace", "[I", true)
  | 43 => ("PennyRatesModel", "ownSmall", "[I", true)
  | 44 => ("PennyRatesModel", "ownTerm", "[I", true)
  | 45 => ("PennyRatesModel", "ownClass", "[I", true)
  | 46 => ("PennyRatesModel", "tollPence", "[I", true)
  | 47 => ("PennyRatesModel", "share", "[I", true)
  | 48 => ("PennyRatesModel", "parts", "[I", true)
  | 49 => ("PennyRatesModel", "rest", "[I", true)
  | 50 => ("PennyRatesModel", "trucks", "I", false)
  | 51 => ("PennyRatesModel", "end0", "I", false)
  | 52 => ("PennyRatesModel", "truckRate", "[I", true)
  | 53 => ("PennyRatesModel", "truckGood", "[I", true)
  | 54 => ("PennyRatesModel", "truckTons", "[I", true)
  | 55 => ("PennyRatesModel", "paid", "[I", true)
  | 56 => ("PennyRatesModel", "truckDay", "[I", true)
  | 57 => ("PennyRatesModel", "fee", "[I", true)
  | 58 => ("PennyRatesModel", "least", "[I", true)
  | 59 => ("PennyRatesModel", "goal", "I", false)
  | 60 => ("PennyRatesModel", "cheapMany", "I", false)
  | 61 => ("PennyRatesModel", "cheapSum", "I", false)
  | 62 => ("PennyRatesModel", "cheapRate", "[I", true)
  | 63 => ("PennyRatesModel", "wants0", "I", false)
  | 64 => ("PennyRatesModel", "wantFrom", "[I", true)
  | 65 => ("PennyRatesModel", "wantTo", "[I", true)
  | 66 => ("PennyRatesModel", "wantGood", "[I", true)
  | 67 => ("PennyRatesModel", "wantTons", "[I", true)
  | 68 => ("PennyRatesModel", "wantPence", "[I", true)
  | 69 => ("PennyRatesModel", "listed", "I", false)
  | 70 => ("PennyRatesModel", "list", "[I", true)
  | 71 => ("PennyRatesModel", "listMost", "[I", true)
  | 72 => ("PennyRatesModel", "listWas", "[I", true)
  | 73 => ("PennyRatesModel", "ran", "I", false)
  | 74 => ("PennyRatesModel", "bodies", "[I", true)
  | 75 => ("PennyRatesModel", "sort", "[I", true)
  | 76 => ("PennyRatesModel", "length", "[I", true)
  | 77 => ("PennyRatesModel", "item", "[J", true)
  | _ => ("PennyRatesModel", "aside", "[J", true)
def tyX12 : Nat → FieldType := fun k => match k with
  | 0 => .int
  | 1 => .int
  | 2 => .array .int
  | 3 => .array .int
  | 4 => .array .int
  | 5 => .array .int
  | 6 => .array .int
  | 7 => .array .int
  | 8 => .array .int
  | 9 => .int
  | 10 => .int
  | 11 => .int
  | 12 => .array .int
  | 13 => .array .int
  | 14 => .array .int
  | 15 => .array .int
  | 16 => .array .int
  | 17 => .array .int
  | 18 => .array .int
  | 19 => .boolean
  | 20 => .boolean
  | 21 => .boolean
  | 22 => .array .int
  | 23 => .int
  | 24 => .int
  | 25 => .int
  | 26 => .int
  | 27 => .array .int
  | 28 => .array .boolean
  | 29 => .int
  | 30 => .int
  | 31 => .int
  | 32 => .int
  | 33 => .array .int
  | 34 => .array .int
  | 35 => .array .int
  | 36 => .array .int
  | 37 => .array .int
  | 38 => .array .int
  | 39 => .array .int
  | 40 => .array .int
  | 41 => .array .int
  | 42 => .array .int
  | 43 => .array .int
  | 44 => .array .int
  | 45 => .array .int
  | 46 => .array .int
  | 47 => .array .int
  | 48 => .array .int
  | 49 => .array .int
  | 50 => .int
  | 51 => .int
  | 52 => .array .int
  | 53 => .array .int
  | 54 => .array .int
  | 55 => .array .int
  | 56 => .array .int
  | 57 => .array .int
  | 58 => .array .int
  | 59 => .int
  | 60 => .int
  | 61 => .int
  | 62 => .array .int
  | 63 => .int
  | 64 => .array .int
  | 65 => .array .int
  | 66 => .array .int
  | 67 => .array .int
  | 68 => .array .int
  | 69 => .int
  | 70 => .array .int
  | 71 => .array .int
  | 72 => .array .int
  | 73 => .int
  | 74 => .array .int
  | 75 => .array .int
  | 76 => .array .int
  | 77 => .array .long
  | _ => .array .long
abbrev wsX120 : List Cond := u_ws RX12 TX12 79
theorem nmX12 : ∀ a, a < 79 → ∀ b, b < 79 → a ≠ b → (TX12 a).2.1 ≠ (TX12 b).2.1 := by decide +kernel
theorem tyX12_ok : ∀ k, k < 79 → parseFieldDescriptor (TX12 k).2.2.1 = some (tyX12 k) := by decide +kernel
abbrev cX12_init : ByteArray := prog_14_method_1_code
def yX12_init : MethodName := ⟨RX12, "<init>", "()V"⟩
abbrev cX12_in : ByteArray := prog_14_method_2_code
def yX12_in : MethodName := ⟨RX12, "in", "(III)Z"⟩
abbrev cX12_isDay : ByteArray := prog_14_method_3_code
def yX12_isDay : MethodName := ⟨RX12, "isDay", "(I)Z"⟩
abbrev cX12_isStation : ByteArray := prog_14_method_4_code
def yX12_isStation : MethodName := ⟨RX12, "isStation", "(I)Z"⟩
abbrev cX12_isOwner : ByteArray := prog_14_method_5_code
def yX12_isOwner : MethodName := ⟨RX12, "isOwner", "(I)Z"⟩
abbrev cX12_isGood : ByteArray := prog_14_method_6_code
def yX12_isGood : MethodName := ⟨RX12, "isGood", "(I)Z"⟩
abbrev cX12_pass : ByteArray := prog_14_method_7_code
def yX12_pass : MethodName := ⟨RX12, "pass", "(I)I"⟩
abbrev cX12_line : ByteArray := prog_14_method_8_code
def yX12_line : MethodName := ⟨RX12, "line", "(IIII)I"⟩
abbrev cX12_findFar : ByteArray := prog_14_method_9_code
def yX12_findFar : MethodName := ⟨RX12, "findFar", "(I)V"⟩
abbrev cX12_milesBy : ByteArray := prog_14_method_10_code
def yX12_milesBy : MethodName := ⟨RX12, "milesBy", "(III)I"⟩
abbrev cX12_miles : ByteArray := prog_14_method_11_code
def yX12_miles : MethodName := ⟨RX12, "miles", "(III)I"⟩
abbrev cX12_lineFor : ByteArray := prog_14_method_12_code
def yX12_lineFor : MethodName := ⟨RX12, "lineFor", "(II)I"⟩
abbrev cX12_findWay : ByteArray := prog_14_method_13_code
def yX12_findWay : MethodName := ⟨RX12, "findWay", "(II)Z"⟩
abbrev cX12_way : ByteArray := prog_14_method_14_code
def yX12_way : MethodName := ⟨RX12, "way", "(III)I"⟩
abbrev cX12_feed : ByteArray := prog_14_method_15_code
def yX12_feed : MethodName := ⟨RX12, "feed", "(II)I"⟩
abbrev cX12_clean : ByteArray := prog_14_method_16_code
def yX12_clean : MethodName := ⟨RX12, "clean", "()V"⟩
abbrev cX12_next : ByteArray := prog_14_method_17_code
def yX12_next : MethodName := ⟨RX12, "next", "()I"⟩
abbrev cX12_isDigit : ByteArray := prog_14_method_18_code
def yX12_isDigit : MethodName := ⟨RX12, "isDigit", "()Z"⟩
abbrev cX12_takes : ByteArray := prog_14_method_19_code
def yX12_takes : MethodName := ⟨RX12, "takes", "(I)Z"⟩
abbrev cX12_takesWord : ByteArray := prog_14_method_20_code
def yX12_takesWord : MethodName := ⟨RX12, "takesWord", "(JI)Z"⟩
abbrev cX12_takesNumber : ByteArray := prog_14_method_21_code
def yX12_takesNumber : MethodName := ⟨RX12, "takesNumber", "()Z"⟩
abbrev cX12_push : ByteArray := prog_14_method_22_code
def yX12_push : MethodName := ⟨RX12, "push", "(Z)V"⟩
abbrev cX12_settle : ByteArray := prog_14_method_23_code
def yX12_settle : MethodName := ⟨RX12, "settle", "(I)V"⟩
abbrev cX12_takesTest : ByteArray := prog_14_method_24_code
def yX12_takesTest : MethodName := ⟨RX12, "takesTest", "()Z"⟩
abbrev cX12_takesE : ByteArray := prog_14_method_25_code
def yX12_takesE : MethodName := ⟨RX12, "takesE", "()Z"⟩
abbrev cX12_takesPlain : ByteArray := prog_14_method_26_code
def yX12_takesPlain : MethodName := ⟨RX12, "takesPlain", "(I)Z"⟩
abbrev cX12_takesGood : ByteArray := prog_14_method_27_code
def yX12_takesGood : MethodName := ⟨RX12, "takesGood", "()Z"⟩
abbrev cX12_takesMost : ByteArray := prog_14_method_28_code
def yX12_takesMost : MethodName := ⟨RX12, "takesMost", "()Z"⟩
abbrev cX12_takesClause : ByteArray := prog_14_method_29_code
def yX12_takesClause : MethodName := ⟨RX12, "takesClause", "()Z"⟩
abbrev cX12_goes : ByteArray := prog_14_method_30_code
def yX12_goes : MethodName := ⟨RX12, "goes", "(I)Z"⟩
abbrev cX12_law : ByteArray := prog_14_method_31_code
def yX12_law : MethodName := ⟨RX12, "law", "(II)I"⟩
abbrev cX12_lawOn : ByteArray := prog_14_method_32_code
def yX12_lawOn : MethodName := ⟨RX12, "lawOn", "(II)I"⟩
abbrev cX12_look : ByteArray := prog_14_method_33_code
def yX12_look : MethodName := ⟨RX12, "look", "(II)V"⟩
abbrev cX12_holds : ByteArray := prog_14_method_34_code
def yX12_holds : MethodName := ⟨RX12, "holds", "(III)I"⟩
abbrev cX12_isRate : ByteArray := prog_14_method_35_code
def yX12_isRate : MethodName := ⟨RX12, "isRate", "(I)Z"⟩
abbrev cX12_nowKind : ByteArray := prog_14_method_36_code
def yX12_nowKind : MethodName := ⟨RX12, "nowKind", "(I)I"⟩
abbrev cX12_add : ByteArray := prog_14_method_37_code
def yX12_add : MethodName := ⟨RX12, "add", "(IIIIIIIII)I"⟩
abbrev cX12_printed : ByteArray := prog_14_method_38_code
def yX12_printed : MethodName := ⟨RX12, "printed", "(II)I"⟩
abbrev cX12_rate : ByteArray := prog_14_method_39_code
def yX12_rate : MethodName := ⟨RX12, "rate", "(IIIIIII)I"⟩
abbrev cX12_special : ByteArray := prog_14_method_40_code
def yX12_special : MethodName := ⟨RX12, "special", "(IIIIII)I"⟩
abbrev cX12_withdraw : ByteArray := prog_14_method_41_code
def yX12_withdraw : MethodName := ⟨RX12, "withdraw", "(I)I"⟩
abbrev cX12_set : ByteArray := prog_14_method_42_code
def yX12_set : MethodName := ⟨RX12, "set", "(II)I"⟩
abbrev cX12_undo : ByteArray := prog_14_method_43_code
def yX12_undo : MethodName := ⟨RX12, "undo", "(I)I"⟩
abbrev cX12_of : ByteArray := prog_14_method_44_code
def yX12_of : MethodName := ⟨RX12, "of", "(II)I"⟩
abbrev cX12_prepare : ByteArray := prog_14_method_45_code
def yX12_prepare : MethodName := ⟨RX12, "prepare", "(I)V"⟩
abbrev cX12_chargeOf : ByteArray := prog_14_method_46_code
def yX12_chargeOf : MethodName := ⟨RX12, "chargeOf", "(IIII)I"⟩
abbrev cX12_isTons : ByteArray := prog_14_method_47_code
def yX12_isTons : MethodName := ⟨RX12, "isTons", "(I)Z"⟩
abbrev cX12_charge : ByteArray := prog_14_method_48_code
def yX12_charge : MethodName := ⟨RX12, "charge", "(IIII)I"⟩
abbrev cX12_mostOf : ByteArray := prog_14_method_49_code
def yX12_mostOf : MethodName := ⟨RX12, "mostOf", "(II)I"⟩
abbrev cX12_most : ByteArray := prog_14_method_50_code
def yX12_most : MethodName := ⟨RX12, "most", "(III)I"⟩
abbrev cX12_part : ByteArray := prog_14_method_51_code
def yX12_part : MethodName := ⟨RX12, "part", "(III)I"⟩
abbrev cX12_isTruck : ByteArray := prog_14_method_52_code
def yX12_isTruck : MethodName := ⟨RX12, "isTruck", "(I)Z"⟩
abbrev cX12_truck : ByteArray := prog_14_method_53_code
def yX12_truck : MethodName := ⟨RX12, "truck", "(IIIII)I"⟩
abbrev cX12_book : ByteArray := prog_14_method_54_code
def yX12_book : MethodName := ⟨RX12, "book", "(III)I"⟩
abbrev cX12_ended : ByteArray := prog_14_method_55_code
def yX12_ended : MethodName := ⟨RX12, "ended", "()I"⟩
abbrev cX12_dueOf : ByteArray := prog_14_method_56_code
def yX12_dueOf : MethodName := ⟨RX12, "dueOf", "(I)I"⟩
abbrev cX12_due : ByteArray := prog_14_method_57_code
def yX12_due : MethodName := ⟨RX12, "due", "(I)I"⟩
abbrev cX12_isBoat : ByteArray := prog_14_method_58_code
def yX12_isBoat : MethodName := ⟨RX12, "isBoat", "(I)Z"⟩
abbrev cX12_ask : ByteArray := prog_14_method_59_code
def yX12_ask : MethodName := ⟨RX12, "ask", "(II)V"⟩
abbrev cX12_areSame : ByteArray := prog_14_method_60_code
def yX12_areSame : MethodName := ⟨RX12, "areSame", "(II)Z"⟩
abbrev cX12_areUnlike : ByteArray := prog_14_method_61_code
def yX12_areUnlike : MethodName := ⟨RX12, "areUnlike", "(II)Z"⟩
abbrev cX12_unlike : ByteArray := prog_14_method_62_code
def yX12_unlike : MethodName := ⟨RX12, "unlike", "(III)I"⟩
abbrev cX12_unlikes : ByteArray := prog_14_method_63_code
def yX12_unlikes : MethodName := ⟨RX12, "unlikes", "(I)I"⟩
abbrev cX12_suit : ByteArray := prog_14_method_64_code
def yX12_suit : MethodName := ⟨RX12, "suit", "(I)J"⟩
abbrev cX12_findCheap : ByteArray := prog_14_method_65_code
def yX12_findCheap : MethodName := ⟨RX12, "findCheap", "(IIIII)Z"⟩
abbrev cX12_sumUp : ByteArray := prog_14_method_66_code
def yX12_sumUp : MethodName := ⟨RX12, "sumUp", "(II)Z"⟩
abbrev cX12_cheap : ByteArray := prog_14_method_67_code
def yX12_cheap : MethodName := ⟨RX12, "cheap", "(IIIIII)I"⟩
abbrev cX12_cry : ByteArray := prog_14_method_68_code
def yX12_cry : MethodName := ⟨RX12, "cry", "(IIIII)I"⟩
abbrev cX12_want : ByteArray := prog_14_method_69_code
def yX12_want : MethodName := ⟨RX12, "want", "(IIIII)I"⟩
abbrev cX12_doesShip : ByteArray := prog_14_method_70_code
def yX12_doesShip : MethodName := ⟨RX12, "doesShip", "(II)Z"⟩
abbrev cX12_ships : ByteArray := prog_14_method_71_code
def yX12_ships : MethodName := ⟨RX12, "ships", "(II)I"⟩
abbrev cX12_takingsOf : ByteArray := prog_14_method_72_code
def yX12_takingsOf : MethodName := ⟨RX12, "takingsOf", "(II)I"⟩
abbrev cX12_takings : ByteArray := prog_14_method_73_code
def yX12_takings : MethodName := ⟨RX12, "takings", "(II)I"⟩
abbrev cX12_tries : ByteArray := prog_14_method_74_code
def yX12_tries : MethodName := ⟨RX12, "tries", "(III)I"⟩
abbrev cX12_list : ByteArray := prog_14_method_75_code
def yX12_list : MethodName := ⟨RX12, "list", "(I)I"⟩
abbrev cX12_listless : ByteArray := prog_14_method_76_code
def yX12_listless : MethodName := ⟨RX12, "listless", "()I"⟩
abbrev cX12_ones : ByteArray := prog_14_method_77_code
def yX12_ones : MethodName := ⟨RX12, "ones", "(I)I"⟩
abbrev cX12_change : ByteArray := prog_14_method_78_code
def yX12_change : MethodName := ⟨RX12, "change", "(I)I"⟩
abbrev cX12_friends : ByteArray := prog_14_method_79_code
def yX12_friends : MethodName := ⟨RX12, "friends", "(IIIIIII)I"⟩
abbrev cX12_isFriend : ByteArray := prog_14_method_80_code
def yX12_isFriend : MethodName := ⟨RX12, "isFriend", "(IIIIIII)Z"⟩
abbrev cX12_body : ByteArray := prog_14_method_81_code
def yX12_body : MethodName := ⟨RX12, "body", "(I)V"⟩
abbrev cX12_plainCharges : ByteArray := prog_14_method_82_code
def yX12_plainCharges : MethodName := ⟨RX12, "plainCharges", "(II)I"⟩
abbrev cX12_chargesOf : ByteArray := prog_14_method_83_code
def yX12_chargesOf : MethodName := ⟨RX12, "chargesOf", "(III)I"⟩
abbrev cX12_plainSplits : ByteArray := prog_14_method_84_code
def yX12_plainSplits : MethodName := ⟨RX12, "plainSplits", "(III)I"⟩
abbrev cX12_throughSplits : ByteArray := prog_14_method_85_code
def yX12_throughSplits : MethodName := ⟨RX12, "throughSplits", "(III)I"⟩
abbrev cX12_splitsOf : ByteArray := prog_14_method_86_code
def yX12_splitsOf : MethodName := ⟨RX12, "splitsOf", "(III)I"⟩
abbrev cX12_plainEnds : ByteArray := prog_14_method_87_code
def yX12_plainEnds : MethodName := ⟨RX12, "plainEnds", "(III)I"⟩
abbrev cX12_endsOf : ByteArray := prog_14_method_88_code
def yX12_endsOf : MethodName := ⟨RX12, "endsOf", "(III)I"⟩
abbrev cX12_act : ByteArray := prog_14_method_89_code
def yX12_act : MethodName := ⟨RX12, "act", "(III)I"⟩
abbrev cX12_trace : ByteArray := prog_14_method_90_code
def yX12_trace : MethodName := ⟨RX12, "trace", "(I)I"⟩
abbrev cX12_taken : ByteArray := prog_14_method_91_code
def yX12_taken : MethodName := ⟨RX12, "taken", "(II)I"⟩
abbrev cX12_count : ByteArray := prog_14_method_92_code
def yX12_count : MethodName := ⟨RX12, "count", "(I)I"⟩
abbrev cX12_isTape : ByteArray := prog_14_method_93_code
def yX12_isTape : MethodName := ⟨RX12, "isTape", "(I)Z"⟩
abbrev cX12_tape : ByteArray := prog_14_method_94_code
def yX12_tape : MethodName := ⟨RX12, "tape", "(III)I"⟩
abbrev cX12_item : ByteArray := prog_14_method_95_code
def yX12_item : MethodName := ⟨RX12, "item", "(IIJ)I"⟩
abbrev cX12_read : ByteArray := prog_14_method_96_code
def yX12_read : MethodName := ⟨RX12, "read", "(II)J"⟩
abbrev cX12_shift : ByteArray := prog_14_method_97_code
def yX12_shift : MethodName := ⟨RX12, "shift", "(IIIII)I"⟩
def RJx8e188 : String := "java/lang/Cloneable"
def RJ6 : String := "java/lang/Integer"
abbrev cJ6_bitCount_0f7a4 : ByteArray := prog_16_method_49_code
def yJ6_bitCount_0f7a4 : MethodName := ⟨RJ6, "bitCount", "(I)I"⟩
def RJ9 : String := "java/lang/Math"
abbrev cJ9_abs_0f7a4 : ByteArray := prog_17_method_59_code
def yJ9_abs_0f7a4 : MethodName := ⟨RJ9, "abs", "(I)I"⟩
abbrev cJ9_max_7cf53 : ByteArray := prog_17_method_65_code
def yJ9_max_7cf53 : MethodName := ⟨RJ9, "max", "(II)I"⟩
abbrev cJ9_min_7cf53 : ByteArray := prog_17_method_69_code
def yJ9_min_7cf53 : MethodName := ⟨RJ9, "min", "(II)I"⟩
def RJ0 : String := "java/lang/String"
abbrev cJ0_length_8abf5 : ByteArray := prog_18_method_54_code
def yJ0_length_8abf5 : MethodName := ⟨RJ0, "length", "()I"⟩
abbrev cJ0_charAt_5068e : ByteArray := prog_18_method_56_code
def yJ0_charAt_5068e : MethodName := ⟨RJ0, "charAt", "(I)C"⟩
abbrev cJ0_coder_7d493 : ByteArray := prog_18_method_152_code
def yJ0_coder_7d493 : MethodName := ⟨RJ0, "coder", "()B"⟩
abbrev cJ0_isLatin1_aae02 : ByteArray := prog_18_method_154_code
def yJ0_isLatin1_aae02 : MethodName := ⟨RJ0, "isLatin1", "()Z"⟩
abbrev cJ0_checkIndex_df160 : ByteArray := prog_18_method_155_code
def yJ0_checkIndex_df160 : MethodName := ⟨RJ0, "checkIndex", "(II)V"⟩
def RJ1 : String := "java/lang/StringLatin1"
abbrev cJ1_charAt_3b067 : ByteArray := prog_19_method_2_code
def yJ1_charAt_3b067 : MethodName := ⟨RJ1, "charAt", "([BI)C"⟩
def RJ2 : String := "java/lang/StringUTF16"
abbrev cJ2_getChar_3b067 : ByteArray := prog_20_method_5_code
def yJ2_getChar_3b067 : MethodName := ⟨RJ2, "getChar", "([BI)C"⟩
abbrev cJ2_length_9d52b : ByteArray := prog_20_method_6_code
def yJ2_length_9d52b : MethodName := ⟨RJ2, "length", "([B)I"⟩
abbrev cJ2_charAt_3b067 : ByteArray := prog_20_method_83_code
def yJ2_charAt_3b067 : MethodName := ⟨RJ2, "charAt", "([BI)C"⟩
abbrev cJ2_checkIndex_2214a : ByteArray := prog_20_method_91_code
def yJ2_checkIndex_2214a : MethodName := ⟨RJ2, "checkIndex", "(I[B)V"⟩
def RJ10 : String := "java/lang/System"
def RJ7 : String := "java/util/Arrays"
abbrev cJ7_fill_d0a16 : ByteArray := prog_22_method_101_code
def yJ7_fill_d0a16 : MethodName := ⟨RJ7, "fill", "([JJ)V"⟩
abbrev cJ7_fill_53178 : ByteArray := prog_22_method_103_code
def yJ7_fill_53178 : MethodName := ⟨RJ7, "fill", "([II)V"⟩
abbrev cJ7_checkLength_df160 : ByteArray := prog_22_method_131_code
def yJ7_checkLength_df160 : MethodName := ⟨RJ7, "checkLength", "(II)V"⟩
abbrev cJ7_copyOfRange_feecc : ByteArray := prog_22_method_136_code
def yJ7_copyOfRange_feecc : MethodName := ⟨RJ7, "copyOfRange", "([III)[I"⟩
abbrev cJ7_copyOfRangeInt_feecc : ByteArray := prog_22_method_137_code
def yJ7_copyOfRangeInt_feecc : MethodName := ⟨RJ7, "copyOfRangeInt", "([III)[I"⟩
def RJ3 : String := "jdk/internal/util/Preconditions"
abbrev cJ3_checkIndex_8e157 : ByteArray := prog_23_method_11_code
def yJ3_checkIndex_8e157 : MethodName := ⟨RJ3, "checkIndex", "(IILjava/util/function/BiFunction;)I"⟩
def RL : String := "PennyRatesLaw"
abbrev cL_law : ByteArray := code
def yL_law : MethodName := ⟨RL, "law", "([I)Z"⟩
abbrev vwCl : List vw_C := [(RX0, TX0, 6), (RX1, TX1, 6), (RX2, TX2, 6), (RX3, TX3, 10), (RX4, TX4, 5), (RX5, TX5, 12), (RX6, TX6, 5), (RX7, TX7, 5), (RX8, TX8, 3), (RX9, TX9, 11), (RX10, TX10, 15), (RX11, TX11, 11), (RX12, TX12, 79)]
