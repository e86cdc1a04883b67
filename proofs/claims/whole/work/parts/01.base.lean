-- ===== PART A: goes FIRST, ahead of the names: the tables' words, and 'selects' of the private methods out of them =====
/-- a private method of a class that the tables say can be made, by its rows of tables_1 -/
def lw_okq (q : MethodName × Nat) : Prop := (q.1.cls ≠ "java/lang/invoke/MethodHandle" ∧ q.1.cls ≠ "java/lang/invoke/VarHandle") ∧ Cond.instantiable q.1.cls q.2 ∈ tables_1 ∧ Cond.privateMethod q.1 ∈ tables_1 ∧ Cond.instanceMethod q.1 ∈ tables_1
theorem lw_p0 : lw_okq (⟨"HeavierRow$Orders", "isOrder", "(Z)Z"⟩, 12) := ⟨⟨by decide +kernel, by decide +kernel⟩, List.mem_of_getElem? (i := 271) (by decide +kernel), List.mem_of_getElem? (i := 523) (by decide +kernel), List.mem_of_getElem? (i := 524) (by decide +kernel)⟩
theorem lw_p1 : lw_okq (⟨"HeavierRow$Orders", "keepOrder", "()V"⟩, 12) := ⟨⟨by decide +kernel, by decide +kernel⟩, List.mem_of_getElem? (i := 271) (by decide +kernel), List.mem_of_getElem? (i := 530) (by decide +kernel), List.mem_of_getElem? (i := 531) (by decide +kernel)⟩
theorem lw_p2 : lw_okq (⟨"HeavierRow$Orders", "markOfDigits", "()I"⟩, 12) := ⟨⟨by decide +kernel, by decide +kernel⟩, List.mem_of_getElem? (i := 271) (by decide +kernel), List.mem_of_getElem? (i := 534) (by decide +kernel), List.mem_of_getElem? (i := 535) (by decide +kernel)⟩
theorem lw_p3 : lw_okq (⟨"HeavierRow$Orders", "stepDigits", "()V"⟩, 12) := ⟨⟨by decide +kernel, by decide +kernel⟩, List.mem_of_getElem? (i := 271) (by decide +kernel), List.mem_of_getElem? (i := 550) (by decide +kernel), List.mem_of_getElem? (i := 551) (by decide +kernel)⟩
theorem lw_p4 : lw_okq (⟨"HeavierRow", "putBytes", "(I)V"⟩, 16) := ⟨⟨by decide +kernel, by decide +kernel⟩, List.mem_of_getElem? (i := 22) (by decide +kernel), List.mem_of_getElem? (i := 607) (by decide +kernel), List.mem_of_getElem? (i := 608) (by decide +kernel)⟩
theorem lw_p5 : lw_okq (⟨"HeavierRow$Reader", "advance", "()V"⟩, 12) := ⟨⟨by decide +kernel, by decide +kernel⟩, List.mem_of_getElem? (i := 108) (by decide +kernel), List.mem_of_getElem? (i := 627) (by decide +kernel), List.mem_of_getElem? (i := 628) (by decide +kernel)⟩
theorem lw_p6 : lw_okq (⟨"HeavierRow$Reader", "byteAt", "(I)I"⟩, 12) := ⟨⟨by decide +kernel, by decide +kernel⟩, List.mem_of_getElem? (i := 108) (by decide +kernel), List.mem_of_getElem? (i := 631) (by decide +kernel), List.mem_of_getElem? (i := 632) (by decide +kernel)⟩
theorem lw_p7 : lw_okq (⟨"HeavierRow$Reader", "readLine", "()V"⟩, 12) := ⟨⟨by decide +kernel, by decide +kernel⟩, List.mem_of_getElem? (i := 108) (by decide +kernel), List.mem_of_getElem? (i := 648) (by decide +kernel), List.mem_of_getElem? (i := 649) (by decide +kernel)⟩
theorem lw_p8 : lw_okq (⟨"HeavierRow$Reader", "isOwn", "(I)Z"⟩, 12) := ⟨⟨by decide +kernel, by decide +kernel⟩, List.mem_of_getElem? (i := 108) (by decide +kernel), List.mem_of_getElem? (i := 652) (by decide +kernel), List.mem_of_getElem? (i := 653) (by decide +kernel)⟩
theorem lw_p9 : lw_okq (⟨"HeavierRow$Reader", "readThing", "()V"⟩, 12) := ⟨⟨by decide +kernel, by decide +kernel⟩, List.mem_of_getElem? (i := 108) (by decide +kernel), List.mem_of_getElem? (i := 656) (by decide +kernel), List.mem_of_getElem? (i := 657) (by decide +kernel)⟩
theorem lw_p10 : lw_okq (⟨"HeavierRow$Reader", "fail", "(I)V"⟩, 12) := ⟨⟨by decide +kernel, by decide +kernel⟩, List.mem_of_getElem? (i := 108) (by decide +kernel), List.mem_of_getElem? (i := 660) (by decide +kernel), List.mem_of_getElem? (i := 661) (by decide +kernel)⟩
theorem lw_p11 : lw_okq (⟨"HeavierRow$Reader", "takeNewName", "(I)J"⟩, 12) := ⟨⟨by decide +kernel, by decide +kernel⟩, List.mem_of_getElem? (i := 108) (by decide +kernel), List.mem_of_getElem? (i := 669) (by decide +kernel), List.mem_of_getElem? (i := 670) (by decide +kernel)⟩
theorem lw_p12 : lw_okq (⟨"HeavierRow$Reader", "isName", "()Z"⟩, 12) := ⟨⟨by decide +kernel, by decide +kernel⟩, List.mem_of_getElem? (i := 108) (by decide +kernel), List.mem_of_getElem? (i := 673) (by decide +kernel), List.mem_of_getElem? (i := 674) (by decide +kernel)⟩
theorem lw_p13 : lw_okq (⟨"HeavierRow$Reader", "takeOwn", "(I)V"⟩, 12) := ⟨⟨by decide +kernel, by decide +kernel⟩, List.mem_of_getElem? (i := 108) (by decide +kernel), List.mem_of_getElem? (i := 677) (by decide +kernel), List.mem_of_getElem? (i := 678) (by decide +kernel)⟩
theorem lw_p14 : lw_okq (⟨"HeavierRow$Reader", "takeNumber", "(II)I"⟩, 12) := ⟨⟨by decide +kernel, by decide +kernel⟩, List.mem_of_getElem? (i := 108) (by decide +kernel), List.mem_of_getElem? (i := 681) (by decide +kernel), List.mem_of_getElem? (i := 682) (by decide +kernel)⟩
theorem lw_p15 : lw_okq (⟨"HeavierRow$Reader", "takeSign", "(I)V"⟩, 12) := ⟨⟨by decide +kernel, by decide +kernel⟩, List.mem_of_getElem? (i := 108) (by decide +kernel), List.mem_of_getElem? (i := 685) (by decide +kernel), List.mem_of_getElem? (i := 686) (by decide +kernel)⟩
def lw_privs_1 : List (MethodName × Nat) := [(⟨"HeavierRow$Orders", "isOrder", "(Z)Z"⟩, 12), (⟨"HeavierRow$Orders", "keepOrder", "()V"⟩, 12), (⟨"HeavierRow$Orders", "markOfDigits", "()I"⟩, 12), (⟨"HeavierRow$Orders", "stepDigits", "()V"⟩, 12), (⟨"HeavierRow", "putBytes", "(I)V"⟩, 16), (⟨"HeavierRow$Reader", "advance", "()V"⟩, 12), (⟨"HeavierRow$Reader", "byteAt", "(I)I"⟩, 12), (⟨"HeavierRow$Reader", "readLine", "()V"⟩, 12), (⟨"HeavierRow$Reader", "isOwn", "(I)Z"⟩, 12), (⟨"HeavierRow$Reader", "readThing", "()V"⟩, 12), (⟨"HeavierRow$Reader", "fail", "(I)V"⟩, 12), (⟨"HeavierRow$Reader", "takeNewName", "(I)J"⟩, 12), (⟨"HeavierRow$Reader", "isName", "()Z"⟩, 12), (⟨"HeavierRow$Reader", "takeOwn", "(I)V"⟩, 12), (⟨"HeavierRow$Reader", "takeNumber", "(II)I"⟩, 12), (⟨"HeavierRow$Reader", "takeSign", "(I)V"⟩, 12)]
theorem lw_r1 : ∀ q ∈ lw_privs_1, lw_okq q := List.forall_mem_cons.mpr ⟨lw_p0, List.forall_mem_cons.mpr ⟨lw_p1, List.forall_mem_cons.mpr ⟨lw_p2, List.forall_mem_cons.mpr ⟨lw_p3, List.forall_mem_cons.mpr ⟨lw_p4, List.forall_mem_cons.mpr ⟨lw_p5, List.forall_mem_cons.mpr ⟨lw_p6, List.forall_mem_cons.mpr ⟨lw_p7, List.forall_mem_cons.mpr ⟨lw_p8, List.forall_mem_cons.mpr ⟨lw_p9, List.forall_mem_cons.mpr ⟨lw_p10, List.forall_mem_cons.mpr ⟨lw_p11, List.forall_mem_cons.mpr ⟨lw_p12, List.forall_mem_cons.mpr ⟨lw_p13, List.forall_mem_cons.mpr ⟨lw_p14, List.forall_mem_cons.mpr ⟨lw_p15, fun _ h => absurd h List.not_mem_nil⟩⟩⟩⟩⟩⟩⟩⟩⟩⟩⟩⟩⟩⟩⟩⟩
theorem lw_p16 : lw_okq (⟨"HeavierRow$Reader", "readTwins", "()V"⟩, 12) := ⟨⟨by decide +kernel, by decide +kernel⟩, List.mem_of_getElem? (i := 108) (by decide +kernel), List.mem_of_getElem? (i := 697) (by decide +kernel), List.mem_of_getElem? (i := 698) (by decide +kernel)⟩
theorem lw_p17 : lw_okq (⟨"HeavierRow$Reader", "readSticks", "()V"⟩, 12) := ⟨⟨by decide +kernel, by decide +kernel⟩, List.mem_of_getElem? (i := 108) (by decide +kernel), List.mem_of_getElem? (i := 701) (by decide +kernel), List.mem_of_getElem? (i := 702) (by decide +kernel)⟩
theorem lw_p18 : lw_okq (⟨"HeavierRow$Reader", "readRow", "()V"⟩, 12) := ⟨⟨by decide +kernel, by decide +kernel⟩, List.mem_of_getElem? (i := 108) (by decide +kernel), List.mem_of_getElem? (i := 705) (by decide +kernel), List.mem_of_getElem? (i := 706) (by decide +kernel)⟩
theorem lw_p19 : lw_okq (⟨"HeavierRow$Reader", "takeRowName", "()V"⟩, 12) := ⟨⟨by decide +kernel, by decide +kernel⟩, List.mem_of_getElem? (i := 108) (by decide +kernel), List.mem_of_getElem? (i := 709) (by decide +kernel), List.mem_of_getElem? (i := 710) (by decide +kernel)⟩
theorem lw_p20 : lw_okq (⟨"HeavierRow$Reader", "takeThing", "(I)I"⟩, 12) := ⟨⟨by decide +kernel, by decide +kernel⟩, List.mem_of_getElem? (i := 108) (by decide +kernel), List.mem_of_getElem? (i := 718) (by decide +kernel), List.mem_of_getElem? (i := 719) (by decide +kernel)⟩
theorem lw_p21 : lw_okq (⟨"HeavierRow$Reader", "readPlan", "()V"⟩, 12) := ⟨⟨by decide +kernel, by decide +kernel⟩, List.mem_of_getElem? (i := 108) (by decide +kernel), List.mem_of_getElem? (i := 729) (by decide +kernel), List.mem_of_getElem? (i := 730) (by decide +kernel)⟩
theorem lw_p22 : lw_okq (⟨"HeavierRow$Street", "isHeap", "(I)Z"⟩, 15) := ⟨⟨by decide +kernel, by decide +kernel⟩, List.mem_of_getElem? (i := 30) (by decide +kernel), List.mem_of_getElem? (i := 783) (by decide +kernel), List.mem_of_getElem? (i := 784) (by decide +kernel)⟩
theorem lw_p23 : lw_okq (⟨"HeavierRow$Book", "heapOf", "(I)I"⟩, 13) := ⟨⟨by decide +kernel, by decide +kernel⟩, List.mem_of_getElem? (i := 213) (by decide +kernel), List.mem_of_getElem? (i := 795) (by decide +kernel), List.mem_of_getElem? (i := 796) (by decide +kernel)⟩
theorem lw_p24 : lw_okq (⟨"HeavierRow$Book", "has", "(I)Z"⟩, 13) := ⟨⟨by decide +kernel, by decide +kernel⟩, List.mem_of_getElem? (i := 213) (by decide +kernel), List.mem_of_getElem? (i := 818) (by decide +kernel), List.mem_of_getElem? (i := 819) (by decide +kernel)⟩
theorem lw_p25 : lw_okq (⟨"HeavierRow$Book", "isUntold", "(I)Z"⟩, 13) := ⟨⟨by decide +kernel, by decide +kernel⟩, List.mem_of_getElem? (i := 213) (by decide +kernel), List.mem_of_getElem? (i := 822) (by decide +kernel), List.mem_of_getElem? (i := 823) (by decide +kernel)⟩
theorem lw_p26 : lw_okq (⟨"HeavierRow$Book", "thingAtRank", "(II)I"⟩, 13) := ⟨⟨by decide +kernel, by decide +kernel⟩, List.mem_of_getElem? (i := 213) (by decide +kernel), List.mem_of_getElem? (i := 834) (by decide +kernel), List.mem_of_getElem? (i := 835) (by decide +kernel)⟩
theorem lw_p27 : lw_okq (⟨"HeavierRow", "shelvePlaces", "(I)V"⟩, 16) := ⟨⟨by decide +kernel, by decide +kernel⟩, List.mem_of_getElem? (i := 22) (by decide +kernel), List.mem_of_getElem? (i := 905) (by decide +kernel), List.mem_of_getElem? (i := 906) (by decide +kernel)⟩
theorem lw_p28 : lw_okq (⟨"HeavierRow", "prepare", "(III)I"⟩, 16) := ⟨⟨by decide +kernel, by decide +kernel⟩, List.mem_of_getElem? (i := 22) (by decide +kernel), List.mem_of_getElem? (i := 983) (by decide +kernel), List.mem_of_getElem? (i := 984) (by decide +kernel)⟩
theorem lw_p29 : lw_okq (⟨"HeavierRow$Search", "numberPairs", "(I)V"⟩, 20) := ⟨⟨by decide +kernel, by decide +kernel⟩, List.mem_of_getElem? (i := 315) (by decide +kernel), List.mem_of_getElem? (i := 995) (by decide +kernel), List.mem_of_getElem? (i := 996) (by decide +kernel)⟩
theorem lw_p30 : lw_okq (⟨"HeavierRow$Search", "sortIn", "(I)V"⟩, 20) := ⟨⟨by decide +kernel, by decide +kernel⟩, List.mem_of_getElem? (i := 315) (by decide +kernel), List.mem_of_getElem? (i := 1013) (by decide +kernel), List.mem_of_getElem? (i := 1014) (by decide +kernel)⟩
theorem lw_p31 : lw_okq (⟨"HeavierRow$Search", "kindLike", "(I)I"⟩, 20) := ⟨⟨by decide +kernel, by decide +kernel⟩, List.mem_of_getElem? (i := 315) (by decide +kernel), List.mem_of_getElem? (i := 1025) (by decide +kernel), List.mem_of_getElem? (i := 1026) (by decide +kernel)⟩
def lw_privs_2 : List (MethodName × Nat) := [(⟨"HeavierRow$Reader", "readTwins", "()V"⟩, 12), (⟨"HeavierRow$Reader", "readSticks", "()V"⟩, 12), (⟨"HeavierRow$Reader", "readRow", "()V"⟩, 12), (⟨"HeavierRow$Reader", "takeRowName", "()V"⟩, 12), (⟨"HeavierRow$Reader", "takeThing", "(I)I"⟩, 12), (⟨"HeavierRow$Reader", "readPlan", "()V"⟩, 12), (⟨"HeavierRow$Street", "isHeap", "(I)Z"⟩, 15), (⟨"HeavierRow$Book", "heapOf", "(I)I"⟩, 13), (⟨"HeavierRow$Book", "has", "(I)Z"⟩, 13), (⟨"HeavierRow$Book", "isUntold", "(I)Z"⟩, 13), (⟨"HeavierRow$Book", "thingAtRank", "(II)I"⟩, 13), (⟨"HeavierRow", "shelvePlaces", "(I)V"⟩, 16), (⟨"HeavierRow", "prepare", "(III)I"⟩, 16), (⟨"HeavierRow$Search", "numberPairs", "(I)V"⟩, 20), (⟨"HeavierRow$Search", "sortIn", "(I)V"⟩, 20), (⟨"HeavierRow$Search", "kindLike", "(I)I"⟩, 20)]
theorem lw_r2 : ∀ q ∈ lw_privs_2, lw_okq q := List.forall_mem_cons.mpr ⟨lw_p16, List.forall_mem_cons.mpr ⟨lw_p17, List.forall_mem_cons.mpr ⟨lw_p18, List.forall_mem_cons.mpr ⟨lw_p19, List.forall_mem_cons.mpr ⟨lw_p20, List.forall_mem_cons.mpr ⟨lw_p21, List.forall_mem_cons.mpr ⟨lw_p22, List.forall_mem_cons.mpr ⟨lw_p23, List.forall_mem_cons.mpr ⟨lw_p24, List.forall_mem_cons.mpr ⟨lw_p25, List.forall_mem_cons.mpr ⟨lw_p26, List.forall_mem_cons.mpr ⟨lw_p27, List.forall_mem_cons.mpr ⟨lw_p28, List.forall_mem_cons.mpr ⟨lw_p29, List.forall_mem_cons.mpr ⟨lw_p30, List.forall_mem_cons.mpr ⟨lw_p31, fun _ h => absurd h List.not_mem_nil⟩⟩⟩⟩⟩⟩⟩⟩⟩⟩⟩⟩⟩⟩⟩⟩
theorem lw_p32 : lw_okq (⟨"HeavierRow$Search", "allLow", "()J"⟩, 20) := ⟨⟨by decide +kernel, by decide +kernel⟩, List.mem_of_getElem? (i := 315) (by decide +kernel), List.mem_of_getElem? (i := 1033) (by decide +kernel), List.mem_of_getElem? (i := 1034) (by decide +kernel)⟩
theorem lw_p33 : lw_okq (⟨"HeavierRow$Search", "allHigh", "()J"⟩, 20) := ⟨⟨by decide +kernel, by decide +kernel⟩, List.mem_of_getElem? (i := 315) (by decide +kernel), List.mem_of_getElem? (i := 1038) (by decide +kernel), List.mem_of_getElem? (i := 1039) (by decide +kernel)⟩
theorem lw_p34 : lw_okq (⟨"HeavierRow$Search", "surePairs", "()I"⟩, 20) := ⟨⟨by decide +kernel, by decide +kernel⟩, List.mem_of_getElem? (i := 315) (by decide +kernel), List.mem_of_getElem? (i := 1043) (by decide +kernel), List.mem_of_getElem? (i := 1044) (by decide +kernel)⟩
theorem lw_p35 : lw_okq (⟨"HeavierRow$Search", "isAlike", "(JJ)Z"⟩, 20) := ⟨⟨by decide +kernel, by decide +kernel⟩, List.mem_of_getElem? (i := 315) (by decide +kernel), List.mem_of_getElem? (i := 1054) (by decide +kernel), List.mem_of_getElem? (i := 1055) (by decide +kernel)⟩
theorem lw_p36 : lw_okq (⟨"HeavierRow$Search", "slotOf", "(JJ)I"⟩, 20) := ⟨⟨by decide +kernel, by decide +kernel⟩, List.mem_of_getElem? (i := 315) (by decide +kernel), List.mem_of_getElem? (i := 1061) (by decide +kernel), List.mem_of_getElem? (i := 1062) (by decide +kernel)⟩
theorem lw_p37 : lw_okq (⟨"HeavierRow$Search", "joinsFor", "(I)I"⟩, 20) := ⟨⟨by decide +kernel, by decide +kernel⟩, List.mem_of_getElem? (i := 315) (by decide +kernel), List.mem_of_getElem? (i := 1067) (by decide +kernel), List.mem_of_getElem? (i := 1068) (by decide +kernel)⟩
theorem lw_p38 : lw_okq (⟨"HeavierRow$Search", "countGroups", "(I)I"⟩, 20) := ⟨⟨by decide +kernel, by decide +kernel⟩, List.mem_of_getElem? (i := 315) (by decide +kernel), List.mem_of_getElem? (i := 1071) (by decide +kernel), List.mem_of_getElem? (i := 1072) (by decide +kernel)⟩
theorem lw_p39 : lw_okq (⟨"HeavierRow$Search", "leastWorst", "(JJI)I"⟩, 20) := ⟨⟨by decide +kernel, by decide +kernel⟩, List.mem_of_getElem? (i := 315) (by decide +kernel), List.mem_of_getElem? (i := 1076) (by decide +kernel), List.mem_of_getElem? (i := 1077) (by decide +kernel)⟩
theorem lw_p40 : lw_okq (⟨"HeavierRow$Search", "kindsIn", "(JJ)I"⟩, 20) := ⟨⟨by decide +kernel, by decide +kernel⟩, List.mem_of_getElem? (i := 315) (by decide +kernel), List.mem_of_getElem? (i := 1080) (by decide +kernel), List.mem_of_getElem? (i := 1081) (by decide +kernel)⟩
theorem lw_p41 : lw_okq (⟨"HeavierRow$Search", "freeThings", "(I)I"⟩, 20) := ⟨⟨by decide +kernel, by decide +kernel⟩, List.mem_of_getElem? (i := 315) (by decide +kernel), List.mem_of_getElem? (i := 1088) (by decide +kernel), List.mem_of_getElem? (i := 1089) (by decide +kernel)⟩
theorem lw_p42 : lw_okq (⟨"HeavierRow$Search", "codeOf", "(I)I"⟩, 20) := ⟨⟨by decide +kernel, by decide +kernel⟩, List.mem_of_getElem? (i := 315) (by decide +kernel), List.mem_of_getElem? (i := 1092) (by decide +kernel), List.mem_of_getElem? (i := 1093) (by decide +kernel)⟩
theorem lw_p43 : lw_okq (⟨"HeavierRow$Search", "isFirstLike", "(II)Z"⟩, 20) := ⟨⟨by decide +kernel, by decide +kernel⟩, List.mem_of_getElem? (i := 315) (by decide +kernel), List.mem_of_getElem? (i := 1096) (by decide +kernel), List.mem_of_getElem? (i := 1097) (by decide +kernel)⟩
theorem lw_p44 : lw_okq (⟨"HeavierRow$Search", "leastSum", "(JJI)I"⟩, 20) := ⟨⟨by decide +kernel, by decide +kernel⟩, List.mem_of_getElem? (i := 315) (by decide +kernel), List.mem_of_getElem? (i := 1123) (by decide +kernel), List.mem_of_getElem? (i := 1124) (by decide +kernel)⟩
theorem lw_p45 : lw_okq (⟨"HeavierRow$Once", "leastSet", "(I)I"⟩, 1) := ⟨⟨by decide +kernel, by decide +kernel⟩, List.mem_of_getElem? (i := 389) (by decide +kernel), List.mem_of_getElem? (i := 1148) (by decide +kernel), List.mem_of_getElem? (i := 1149) (by decide +kernel)⟩
theorem lw_p46 : lw_okq (⟨"HeavierRow$Judge", "comeTo", "(II)V"⟩, 5) := ⟨⟨by decide +kernel, by decide +kernel⟩, List.mem_of_getElem? (i := 415) (by decide +kernel), List.mem_of_getElem? (i := 1180) (by decide +kernel), List.mem_of_getElem? (i := 1181) (by decide +kernel)⟩
theorem lw_p47 : lw_okq (⟨"HeavierRow$Liar", "loadTruths", "(LHeavierRow$Search;)V"⟩, 3) := ⟨⟨by decide +kernel, by decide +kernel⟩, List.mem_of_getElem? (i := 399) (by decide +kernel), List.mem_of_getElem? (i := 1199) (by decide +kernel), List.mem_of_getElem? (i := 1200) (by decide +kernel)⟩
def lw_privs_3 : List (MethodName × Nat) := [(⟨"HeavierRow$Search", "allLow", "()J"⟩, 20), (⟨"HeavierRow$Search", "allHigh", "()J"⟩, 20), (⟨"HeavierRow$Search", "surePairs", "()I"⟩, 20), (⟨"HeavierRow$Search", "isAlike", "(JJ)Z"⟩, 20), (⟨"HeavierRow$Search", "slotOf", "(JJ)I"⟩, 20), (⟨"HeavierRow$Search", "joinsFor", "(I)I"⟩, 20), (⟨"HeavierRow$Search", "countGroups", "(I)I"⟩, 20), (⟨"HeavierRow$Search", "leastWorst", "(JJI)I"⟩, 20), (⟨"HeavierRow$Search", "kindsIn", "(JJ)I"⟩, 20), (⟨"HeavierRow$Search", "freeThings", "(I)I"⟩, 20), (⟨"HeavierRow$Search", "codeOf", "(I)I"⟩, 20), (⟨"HeavierRow$Search", "isFirstLike", "(II)Z"⟩, 20), (⟨"HeavierRow$Search", "leastSum", "(JJI)I"⟩, 20), (⟨"HeavierRow$Once", "leastSet", "(I)I"⟩, 1), (⟨"HeavierRow$Judge", "comeTo", "(II)V"⟩, 5), (⟨"HeavierRow$Liar", "loadTruths", "(LHeavierRow$Search;)V"⟩, 3)]
theorem lw_r3 : ∀ q ∈ lw_privs_3, lw_okq q := List.forall_mem_cons.mpr ⟨lw_p32, List.forall_mem_cons.mpr ⟨lw_p33, List.forall_mem_cons.mpr ⟨lw_p34, List.forall_mem_cons.mpr ⟨lw_p35, List.forall_mem_cons.mpr ⟨lw_p36, List.forall_mem_cons.mpr ⟨lw_p37, List.forall_mem_cons.mpr ⟨lw_p38, List.forall_mem_cons.mpr ⟨lw_p39, List.forall_mem_cons.mpr ⟨lw_p40, List.forall_mem_cons.mpr ⟨lw_p41, List.forall_mem_cons.mpr ⟨lw_p42, List.forall_mem_cons.mpr ⟨lw_p43, List.forall_mem_cons.mpr ⟨lw_p44, List.forall_mem_cons.mpr ⟨lw_p45, List.forall_mem_cons.mpr ⟨lw_p46, List.forall_mem_cons.mpr ⟨lw_p47, fun _ h => absurd h List.not_mem_nil⟩⟩⟩⟩⟩⟩⟩⟩⟩⟩⟩⟩⟩⟩⟩⟩
theorem lw_p48 : lw_okq (⟨"HeavierRow$Liar", "needOf", "(III)I"⟩, 3) := ⟨⟨by decide +kernel, by decide +kernel⟩, List.mem_of_getElem? (i := 399) (by decide +kernel), List.mem_of_getElem? (i := 1212) (by decide +kernel), List.mem_of_getElem? (i := 1213) (by decide +kernel)⟩
theorem lw_p49 : lw_okq (⟨"HeavierRow$Liar", "worstBehind", "(III)I"⟩, 3) := ⟨⟨by decide +kernel, by decide +kernel⟩, List.mem_of_getElem? (i := 399) (by decide +kernel), List.mem_of_getElem? (i := 1216) (by decide +kernel), List.mem_of_getElem? (i := 1217) (by decide +kernel)⟩
theorem lw_p50 : lw_okq (⟨"HeavierRow$Orders", "isSet", "(IZ)Z"⟩, 12) := ⟨⟨by decide +kernel, by decide +kernel⟩, List.mem_of_getElem? (i := 271) (by decide +kernel), List.mem_of_getElem? (i := 1285) (by decide +kernel), List.mem_of_getElem? (i := 1286) (by decide +kernel)⟩
theorem lw_p51 : lw_okq (⟨"HeavierRow$Guesses", "isRule", "(IIII)Z"⟩, 18) := ⟨⟨by decide +kernel, by decide +kernel⟩, List.mem_of_getElem? (i := 439) (by decide +kernel), List.mem_of_getElem? (i := 1318) (by decide +kernel), List.mem_of_getElem? (i := 1319) (by decide +kernel)⟩
theorem lw_p52 : lw_okq (⟨"HeavierRow$Guesses", "isRuleAt", "(IIII)Z"⟩, 18) := ⟨⟨by decide +kernel, by decide +kernel⟩, List.mem_of_getElem? (i := 439) (by decide +kernel), List.mem_of_getElem? (i := 1322) (by decide +kernel), List.mem_of_getElem? (i := 1323) (by decide +kernel)⟩
theorem lw_p53 : lw_okq (⟨"HeavierRow$Guesses", "guess", "()V"⟩, 18) := ⟨⟨by decide +kernel, by decide +kernel⟩, List.mem_of_getElem? (i := 439) (by decide +kernel), List.mem_of_getElem? (i := 1331) (by decide +kernel), List.mem_of_getElem? (i := 1332) (by decide +kernel)⟩
theorem lw_p54 : lw_okq (⟨"HeavierRow$Guesses", "layLast", "(I)V"⟩, 18) := ⟨⟨by decide +kernel, by decide +kernel⟩, List.mem_of_getElem? (i := 439) (by decide +kernel), List.mem_of_getElem? (i := 1339) (by decide +kernel), List.mem_of_getElem? (i := 1340) (by decide +kernel)⟩
theorem lw_p55 : lw_okq (⟨"HeavierRow$Guesses", "fitting", "(IIII)I"⟩, 18) := ⟨⟨by decide +kernel, by decide +kernel⟩, List.mem_of_getElem? (i := 439) (by decide +kernel), List.mem_of_getElem? (i := 1343) (by decide +kernel), List.mem_of_getElem? (i := 1344) (by decide +kernel)⟩
theorem lw_p56 : lw_okq (⟨"HeavierRow$Guesses", "fitsOf", "(III)I"⟩, 18) := ⟨⟨by decide +kernel, by decide +kernel⟩, List.mem_of_getElem? (i := 439) (by decide +kernel), List.mem_of_getElem? (i := 1347) (by decide +kernel), List.mem_of_getElem? (i := 1348) (by decide +kernel)⟩
theorem lw_p57 : lw_okq (⟨"HeavierRow$Guesses", "note", "(II)V"⟩, 18) := ⟨⟨by decide +kernel, by decide +kernel⟩, List.mem_of_getElem? (i := 439) (by decide +kernel), List.mem_of_getElem? (i := 1354) (by decide +kernel), List.mem_of_getElem? (i := 1355) (by decide +kernel)⟩
theorem lw_p58 : lw_okq (⟨"HeavierRow$Guesses", "lay", "(II)V"⟩, 18) := ⟨⟨by decide +kernel, by decide +kernel⟩, List.mem_of_getElem? (i := 439) (by decide +kernel), List.mem_of_getElem? (i := 1364) (by decide +kernel), List.mem_of_getElem? (i := 1365) (by decide +kernel)⟩
theorem lw_p59 : lw_okq (⟨"HeavierRow$Guesses", "holds", "(I)Z"⟩, 18) := ⟨⟨by decide +kernel, by decide +kernel⟩, List.mem_of_getElem? (i := 439) (by decide +kernel), List.mem_of_getElem? (i := 1368) (by decide +kernel), List.mem_of_getElem? (i := 1369) (by decide +kernel)⟩
theorem lw_p60 : lw_okq (⟨"HeavierRow$Guesses", "ask", "(II)V"⟩, 18) := ⟨⟨by decide +kernel, by decide +kernel⟩, List.mem_of_getElem? (i := 439) (by decide +kernel), List.mem_of_getElem? (i := 1392) (by decide +kernel), List.mem_of_getElem? (i := 1393) (by decide +kernel)⟩
theorem lw_p61 : lw_okq (⟨"HeavierRow$Guesses", "askAll", "()V"⟩, 18) := ⟨⟨by decide +kernel, by decide +kernel⟩, List.mem_of_getElem? (i := 439) (by decide +kernel), List.mem_of_getElem? (i := 1417) (by decide +kernel), List.mem_of_getElem? (i := 1418) (by decide +kernel)⟩
theorem lw_p62 : lw_okq (⟨"HeavierRowModel", "clearBank", "()V"⟩, 90) := ⟨⟨by decide +kernel, by decide +kernel⟩, List.mem_of_getElem? (i := 1441) (by decide +kernel), List.mem_of_getElem? (i := 1447) (by decide +kernel), List.mem_of_getElem? (i := 1448) (by decide +kernel)⟩
theorem lw_p63 : lw_okq (⟨"HeavierRowModel", "layOrders", "()V"⟩, 90) := ⟨⟨by decide +kernel, by decide +kernel⟩, List.mem_of_getElem? (i := 1441) (by decide +kernel), List.mem_of_getElem? (i := 1451) (by decide +kernel), List.mem_of_getElem? (i := 1452) (by decide +kernel)⟩
def lw_privs_4 : List (MethodName × Nat) := [(⟨"HeavierRow$Liar", "needOf", "(III)I"⟩, 3), (⟨"HeavierRow$Liar", "worstBehind", "(III)I"⟩, 3), (⟨"HeavierRow$Orders", "isSet", "(IZ)Z"⟩, 12), (⟨"HeavierRow$Guesses", "isRule", "(IIII)Z"⟩, 18), (⟨"HeavierRow$Guesses", "isRuleAt", "(IIII)Z"⟩, 18), (⟨"HeavierRow$Guesses", "guess", "()V"⟩, 18), (⟨"HeavierRow$Guesses", "layLast", "(I)V"⟩, 18), (⟨"HeavierRow$Guesses", "fitting", "(IIII)I"⟩, 18), (⟨"HeavierRow$Guesses", "fitsOf", "(III)I"⟩, 18), (⟨"HeavierRow$Guesses", "note", "(II)V"⟩, 18), (⟨"HeavierRow$Guesses", "lay", "(II)V"⟩, 18), (⟨"HeavierRow$Guesses", "holds", "(I)Z"⟩, 18), (⟨"HeavierRow$Guesses", "ask", "(II)V"⟩, 18), (⟨"HeavierRow$Guesses", "askAll", "()V"⟩, 18), (⟨"HeavierRowModel", "clearBank", "()V"⟩, 90), (⟨"HeavierRowModel", "layOrders", "()V"⟩, 90)]
theorem lw_r4 : ∀ q ∈ lw_privs_4, lw_okq q := List.forall_mem_cons.mpr ⟨lw_p48, List.forall_mem_cons.mpr ⟨lw_p49, List.forall_mem_cons.mpr ⟨lw_p50, List.forall_mem_cons.mpr ⟨lw_p51, List.forall_mem_cons.mpr ⟨lw_p52, List.forall_mem_cons.mpr ⟨lw_p53, List.forall_mem_cons.mpr ⟨lw_p54, List.forall_mem_cons.mpr ⟨lw_p55, List.forall_mem_cons.mpr ⟨lw_p56, List.forall_mem_cons.mpr ⟨lw_p57, List.forall_mem_cons.mpr ⟨lw_p58, List.forall_mem_cons.mpr ⟨lw_p59, List.forall_mem_cons.mpr ⟨lw_p60, List.forall_mem_cons.mpr ⟨lw_p61, List.forall_mem_cons.mpr ⟨lw_p62, List.forall_mem_cons.mpr ⟨lw_p63, fun _ h => absurd h List.not_mem_nil⟩⟩⟩⟩⟩⟩⟩⟩⟩⟩⟩⟩⟩⟩⟩⟩
theorem lw_p64 : lw_okq (⟨"HeavierRowModel", "thingMany", "()I"⟩, 90) := ⟨⟨by decide +kernel, by decide +kernel⟩, List.mem_of_getElem? (i := 1441) (by decide +kernel), List.mem_of_getElem? (i := 1455) (by decide +kernel), List.mem_of_getElem? (i := 1456) (by decide +kernel)⟩
theorem lw_p65 : lw_okq (⟨"HeavierRowModel", "isOrder", "()Z"⟩, 90) := ⟨⟨by decide +kernel, by decide +kernel⟩, List.mem_of_getElem? (i := 1441) (by decide +kernel), List.mem_of_getElem? (i := 1459) (by decide +kernel), List.mem_of_getElem? (i := 1460) (by decide +kernel)⟩
theorem lw_p66 : lw_okq (⟨"HeavierRowModel", "goOn", "()V"⟩, 90) := ⟨⟨by decide +kernel, by decide +kernel⟩, List.mem_of_getElem? (i := 1441) (by decide +kernel), List.mem_of_getElem? (i := 1739) (by decide +kernel), List.mem_of_getElem? (i := 1740) (by decide +kernel)⟩
theorem lw_p67 : lw_okq (⟨"HeavierRowModel", "sign", "(I)I"⟩, 90) := ⟨⟨by decide +kernel, by decide +kernel⟩, List.mem_of_getElem? (i := 1441) (by decide +kernel), List.mem_of_getElem? (i := 1743) (by decide +kernel), List.mem_of_getElem? (i := 1744) (by decide +kernel)⟩
theorem lw_p68 : lw_okq (⟨"HeavierRowModel", "isGood", "()Z"⟩, 90) := ⟨⟨by decide +kernel, by decide +kernel⟩, List.mem_of_getElem? (i := 1441) (by decide +kernel), List.mem_of_getElem? (i := 1763) (by decide +kernel), List.mem_of_getElem? (i := 1764) (by decide +kernel)⟩
theorem lw_p69 : lw_okq (⟨"HeavierRowModel", "readLine", "()V"⟩, 90) := ⟨⟨by decide +kernel, by decide +kernel⟩, List.mem_of_getElem? (i := 1441) (by decide +kernel), List.mem_of_getElem? (i := 1767) (by decide +kernel), List.mem_of_getElem? (i := 1768) (by decide +kernel)⟩
theorem lw_p70 : lw_okq (⟨"HeavierRowModel", "isFull", "()Z"⟩, 90) := ⟨⟨by decide +kernel, by decide +kernel⟩, List.mem_of_getElem? (i := 1441) (by decide +kernel), List.mem_of_getElem? (i := 1771) (by decide +kernel), List.mem_of_getElem? (i := 1772) (by decide +kernel)⟩
theorem lw_p71 : lw_okq (⟨"HeavierRowModel", "isWord", "(J)Z"⟩, 90) := ⟨⟨by decide +kernel, by decide +kernel⟩, List.mem_of_getElem? (i := 1441) (by decide +kernel), List.mem_of_getElem? (i := 1775) (by decide +kernel), List.mem_of_getElem? (i := 1776) (by decide +kernel)⟩
theorem lw_p72 : lw_okq (⟨"HeavierRowModel", "misplaced", "()V"⟩, 90) := ⟨⟨by decide +kernel, by decide +kernel⟩, List.mem_of_getElem? (i := 1441) (by decide +kernel), List.mem_of_getElem? (i := 1779) (by decide +kernel), List.mem_of_getElem? (i := 1780) (by decide +kernel)⟩
theorem lw_p73 : lw_okq (⟨"HeavierRowModel", "fails", "(II)V"⟩, 90) := ⟨⟨by decide +kernel, by decide +kernel⟩, List.mem_of_getElem? (i := 1441) (by decide +kernel), List.mem_of_getElem? (i := 1783) (by decide +kernel), List.mem_of_getElem? (i := 1784) (by decide +kernel)⟩
theorem lw_p74 : lw_okq (⟨"HeavierRowModel", "numeral", "(II)I"⟩, 90) := ⟨⟨by decide +kernel, by decide +kernel⟩, List.mem_of_getElem? (i := 1441) (by decide +kernel), List.mem_of_getElem? (i := 1787) (by decide +kernel), List.mem_of_getElem? (i := 1788) (by decide +kernel)⟩
theorem lw_p75 : lw_okq (⟨"HeavierRowModel", "readThing", "()V"⟩, 90) := ⟨⟨by decide +kernel, by decide +kernel⟩, List.mem_of_getElem? (i := 1441) (by decide +kernel), List.mem_of_getElem? (i := 1791) (by decide +kernel), List.mem_of_getElem? (i := 1792) (by decide +kernel)⟩
theorem lw_p76 : lw_okq (⟨"HeavierRowModel", "thingHere", "()I"⟩, 90) := ⟨⟨by decide +kernel, by decide +kernel⟩, List.mem_of_getElem? (i := 1441) (by decide +kernel), List.mem_of_getElem? (i := 1795) (by decide +kernel), List.mem_of_getElem? (i := 1796) (by decide +kernel)⟩
theorem lw_p77 : lw_okq (⟨"HeavierRowModel", "must", "(Z)V"⟩, 90) := ⟨⟨by decide +kernel, by decide +kernel⟩, List.mem_of_getElem? (i := 1441) (by decide +kernel), List.mem_of_getElem? (i := 1799) (by decide +kernel), List.mem_of_getElem? (i := 1800) (by decide +kernel)⟩
theorem lw_p78 : lw_okq (⟨"HeavierRowModel", "readRow", "()V"⟩, 90) := ⟨⟨by decide +kernel, by decide +kernel⟩, List.mem_of_getElem? (i := 1441) (by decide +kernel), List.mem_of_getElem? (i := 1803) (by decide +kernel), List.mem_of_getElem? (i := 1804) (by decide +kernel)⟩
theorem lw_p79 : lw_okq (⟨"HeavierRowModel", "isInRow", "(I)Z"⟩, 90) := ⟨⟨by decide +kernel, by decide +kernel⟩, List.mem_of_getElem? (i := 1441) (by decide +kernel), List.mem_of_getElem? (i := 1807) (by decide +kernel), List.mem_of_getElem? (i := 1808) (by decide +kernel)⟩
def lw_privs_5 : List (MethodName × Nat) := [(⟨"HeavierRowModel", "thingMany", "()I"⟩, 90), (⟨"HeavierRowModel", "isOrder", "()Z"⟩, 90), (⟨"HeavierRowModel", "goOn", "()V"⟩, 90), (⟨"HeavierRowModel", "sign", "(I)I"⟩, 90), (⟨"HeavierRowModel", "isGood", "()Z"⟩, 90), (⟨"HeavierRowModel", "readLine", "()V"⟩, 90), (⟨"HeavierRowModel", "isFull", "()Z"⟩, 90), (⟨"HeavierRowModel", "isWord", "(J)Z"⟩, 90), (⟨"HeavierRowModel", "misplaced", "()V"⟩, 90), (⟨"HeavierRowModel", "fails", "(II)V"⟩, 90), (⟨"HeavierRowModel", "numeral", "(II)I"⟩, 90), (⟨"HeavierRowModel", "readThing", "()V"⟩, 90), (⟨"HeavierRowModel", "thingHere", "()I"⟩, 90), (⟨"HeavierRowModel", "must", "(Z)V"⟩, 90), (⟨"HeavierRowModel", "readRow", "()V"⟩, 90), (⟨"HeavierRowModel", "isInRow", "(I)Z"⟩, 90)]
theorem lw_r5 : ∀ q ∈ lw_privs_5, lw_okq q := List.forall_mem_cons.mpr ⟨lw_p64, List.forall_mem_cons.mpr ⟨lw_p65, List.forall_mem_cons.mpr ⟨lw_p66, List.forall_mem_cons.mpr ⟨lw_p67, List.forall_mem_cons.mpr ⟨lw_p68, List.forall_mem_cons.mpr ⟨lw_p69, List.forall_mem_cons.mpr ⟨lw_p70, List.forall_mem_cons.mpr ⟨lw_p71, List.forall_mem_cons.mpr ⟨lw_p72, List.forall_mem_cons.mpr ⟨lw_p73, List.forall_mem_cons.mpr ⟨lw_p74, List.forall_mem_cons.mpr ⟨lw_p75, List.forall_mem_cons.mpr ⟨lw_p76, List.forall_mem_cons.mpr ⟨lw_p77, List.forall_mem_cons.mpr ⟨lw_p78, List.forall_mem_cons.mpr ⟨lw_p79, fun _ h => absurd h List.not_mem_nil⟩⟩⟩⟩⟩⟩⟩⟩⟩⟩⟩⟩⟩⟩⟩⟩
theorem lw_p80 : lw_okq (⟨"HeavierRowModel", "readPlan", "()V"⟩, 90) := ⟨⟨by decide +kernel, by decide +kernel⟩, List.mem_of_getElem? (i := 1441) (by decide +kernel), List.mem_of_getElem? (i := 1811) (by decide +kernel), List.mem_of_getElem? (i := 1812) (by decide +kernel)⟩
theorem lw_p81 : lw_okq (⟨"HeavierRowModel", "planHere", "()I"⟩, 90) := ⟨⟨by decide +kernel, by decide +kernel⟩, List.mem_of_getElem? (i := 1441) (by decide +kernel), List.mem_of_getElem? (i := 1815) (by decide +kernel), List.mem_of_getElem? (i := 1816) (by decide +kernel)⟩
theorem lw_p82 : lw_okq (⟨"HeavierRowModel", "readP", "()I"⟩, 90) := ⟨⟨by decide +kernel, by decide +kernel⟩, List.mem_of_getElem? (i := 1441) (by decide +kernel), List.mem_of_getElem? (i := 1819) (by decide +kernel), List.mem_of_getElem? (i := 1820) (by decide +kernel)⟩
theorem lw_p83 : lw_okq (⟨"HeavierRowModel", "readTwo", "()V"⟩, 90) := ⟨⟨by decide +kernel, by decide +kernel⟩, List.mem_of_getElem? (i := 1441) (by decide +kernel), List.mem_of_getElem? (i := 1823) (by decide +kernel), List.mem_of_getElem? (i := 1824) (by decide +kernel)⟩
theorem lw_p84 : lw_okq (⟨"HeavierRowModel", "isSignHere", "(I)Z"⟩, 90) := ⟨⟨by decide +kernel, by decide +kernel⟩, List.mem_of_getElem? (i := 1441) (by decide +kernel), List.mem_of_getElem? (i := 1827) (by decide +kernel), List.mem_of_getElem? (i := 1828) (by decide +kernel)⟩
theorem lw_p85 : lw_okq (⟨"HeavierRowModel", "closes", "(I)I"⟩, 90) := ⟨⟨by decide +kernel, by decide +kernel⟩, List.mem_of_getElem? (i := 1441) (by decide +kernel), List.mem_of_getElem? (i := 1831) (by decide +kernel), List.mem_of_getElem? (i := 1832) (by decide +kernel)⟩
theorem lw_p86 : lw_okq (⟨"HeavierRowModel", "layClerk", "()V"⟩, 90) := ⟨⟨by decide +kernel, by decide +kernel⟩, List.mem_of_getElem? (i := 1441) (by decide +kernel), List.mem_of_getElem? (i := 1835) (by decide +kernel), List.mem_of_getElem? (i := 1836) (by decide +kernel)⟩
theorem lw_p87 : lw_okq (⟨"HeavierRowModel", "areHeaps", "(II)Z"⟩, 90) := ⟨⟨by decide +kernel, by decide +kernel⟩, List.mem_of_getElem? (i := 1441) (by decide +kernel), List.mem_of_getElem? (i := 1854) (by decide +kernel), List.mem_of_getElem? (i := 1855) (by decide +kernel)⟩
theorem lw_p88 : lw_okq (⟨"HeavierRowModel", "saysBy", "(I)I"⟩, 90) := ⟨⟨by decide +kernel, by decide +kernel⟩, List.mem_of_getElem? (i := 1441) (by decide +kernel), List.mem_of_getElem? (i := 1858) (by decide +kernel), List.mem_of_getElem? (i := 1859) (by decide +kernel)⟩
theorem lw_p89 : lw_okq (⟨"HeavierRowModel", "add", "(III)V"⟩, 90) := ⟨⟨by decide +kernel, by decide +kernel⟩, List.mem_of_getElem? (i := 1441) (by decide +kernel), List.mem_of_getElem? (i := 1862) (by decide +kernel), List.mem_of_getElem? (i := 1863) (by decide +kernel)⟩
theorem lw_p90 : lw_okq (⟨"HeavierRowModel", "layLeft", "(II)V"⟩, 90) := ⟨⟨by decide +kernel, by decide +kernel⟩, List.mem_of_getElem? (i := 1441) (by decide +kernel), List.mem_of_getElem? (i := 1895) (by decide +kernel), List.mem_of_getElem? (i := 1896) (by decide +kernel)⟩
theorem lw_p91 : lw_okq (⟨"HeavierRowModel", "wrongBy", "(II)I"⟩, 90) := ⟨⟨by decide +kernel, by decide +kernel⟩, List.mem_of_getElem? (i := 1441) (by decide +kernel), List.mem_of_getElem? (i := 1899) (by decide +kernel), List.mem_of_getElem? (i := 1900) (by decide +kernel)⟩
theorem lw_p92 : lw_okq (⟨"HeavierRowModel", "counts", "(II)Z"⟩, 90) := ⟨⟨by decide +kernel, by decide +kernel⟩, List.mem_of_getElem? (i := 1441) (by decide +kernel), List.mem_of_getElem? (i := 1903) (by decide +kernel), List.mem_of_getElem? (i := 1904) (by decide +kernel)⟩
theorem lw_p93 : lw_okq (⟨"HeavierRowModel", "isSingle", "(I)Z"⟩, 90) := ⟨⟨by decide +kernel, by decide +kernel⟩, List.mem_of_getElem? (i := 1441) (by decide +kernel), List.mem_of_getElem? (i := 1907) (by decide +kernel), List.mem_of_getElem? (i := 1908) (by decide +kernel)⟩
theorem lw_p94 : lw_okq (⟨"HeavierRowModel", "saidBy", "(III)I"⟩, 90) := ⟨⟨by decide +kernel, by decide +kernel⟩, List.mem_of_getElem? (i := 1441) (by decide +kernel), List.mem_of_getElem? (i := 1917) (by decide +kernel), List.mem_of_getElem? (i := 1918) (by decide +kernel)⟩
theorem lw_p95 : lw_okq (⟨"HeavierRowModel", "layPlaces", "(I)V"⟩, 90) := ⟨⟨by decide +kernel, by decide +kernel⟩, List.mem_of_getElem? (i := 1441) (by decide +kernel), List.mem_of_getElem? (i := 1921) (by decide +kernel), List.mem_of_getElem? (i := 1922) (by decide +kernel)⟩
def lw_privs_6 : List (MethodName × Nat) := [(⟨"HeavierRowModel", "readPlan", "()V"⟩, 90), (⟨"HeavierRowModel", "planHere", "()I"⟩, 90), (⟨"HeavierRowModel", "readP", "()I"⟩, 90), (⟨"HeavierRowModel", "readTwo", "()V"⟩, 90), (⟨"HeavierRowModel", "isSignHere", "(I)Z"⟩, 90), (⟨"HeavierRowModel", "closes", "(I)I"⟩, 90), (⟨"HeavierRowModel", "layClerk", "()V"⟩, 90), (⟨"HeavierRowModel", "areHeaps", "(II)Z"⟩, 90), (⟨"HeavierRowModel", "saysBy", "(I)I"⟩, 90), (⟨"HeavierRowModel", "add", "(III)V"⟩, 90), (⟨"HeavierRowModel", "layLeft", "(II)V"⟩, 90), (⟨"HeavierRowModel", "wrongBy", "(II)I"⟩, 90), (⟨"HeavierRowModel", "counts", "(II)Z"⟩, 90), (⟨"HeavierRowModel", "isSingle", "(I)Z"⟩, 90), (⟨"HeavierRowModel", "saidBy", "(III)I"⟩, 90), (⟨"HeavierRowModel", "layPlaces", "(I)V"⟩, 90)]
theorem lw_r6 : ∀ q ∈ lw_privs_6, lw_okq q := List.forall_mem_cons.mpr ⟨lw_p80, List.forall_mem_cons.mpr ⟨lw_p81, List.forall_mem_cons.mpr ⟨lw_p82, List.forall_mem_cons.mpr ⟨lw_p83, List.forall_mem_cons.mpr ⟨lw_p84, List.forall_mem_cons.mpr ⟨lw_p85, List.forall_mem_cons.mpr ⟨lw_p86, List.forall_mem_cons.mpr ⟨lw_p87, List.forall_mem_cons.mpr ⟨lw_p88, List.forall_mem_cons.mpr ⟨lw_p89, List.forall_mem_cons.mpr ⟨lw_p90, List.forall_mem_cons.mpr ⟨lw_p91, List.forall_mem_cons.mpr ⟨lw_p92, List.forall_mem_cons.mpr ⟨lw_p93, List.forall_mem_cons.mpr ⟨lw_p94, List.forall_mem_cons.mpr ⟨lw_p95, fun _ h => absurd h List.not_mem_nil⟩⟩⟩⟩⟩⟩⟩⟩⟩⟩⟩⟩⟩⟩⟩⟩
theorem lw_p96 : lw_okq (⟨"HeavierRowModel", "isThing", "(I)Z"⟩, 90) := ⟨⟨by decide +kernel, by decide +kernel⟩, List.mem_of_getElem? (i := 1441) (by decide +kernel), List.mem_of_getElem? (i := 1933) (by decide +kernel), List.mem_of_getElem? (i := 1934) (by decide +kernel)⟩
theorem lw_p97 : lw_okq (⟨"HeavierRowModel", "hasLeft", "(I)Z"⟩, 90) := ⟨⟨by decide +kernel, by decide +kernel⟩, List.mem_of_getElem? (i := 1441) (by decide +kernel), List.mem_of_getElem? (i := 1937) (by decide +kernel), List.mem_of_getElem? (i := 1938) (by decide +kernel)⟩
theorem lw_p98 : lw_okq (⟨"HeavierRowModel", "placeLeft", "(II)I"⟩, 90) := ⟨⟨by decide +kernel, by decide +kernel⟩, List.mem_of_getElem? (i := 1441) (by decide +kernel), List.mem_of_getElem? (i := 1941) (by decide +kernel), List.mem_of_getElem? (i := 1942) (by decide +kernel)⟩
theorem lw_p99 : lw_okq (⟨"HeavierRowModel", "areTwo", "(II)Z"⟩, 90) := ⟨⟨by decide +kernel, by decide +kernel⟩, List.mem_of_getElem? (i := 1441) (by decide +kernel), List.mem_of_getElem? (i := 1953) (by decide +kernel), List.mem_of_getElem? (i := 1954) (by decide +kernel)⟩
theorem lw_p100 : lw_okq (⟨"HeavierRowModel", "sureOf", "(II)I"⟩, 90) := ⟨⟨by decide +kernel, by decide +kernel⟩, List.mem_of_getElem? (i := 1441) (by decide +kernel), List.mem_of_getElem? (i := 1957) (by decide +kernel), List.mem_of_getElem? (i := 1958) (by decide +kernel)⟩
theorem lw_p101 : lw_okq (⟨"HeavierRowModel", "howMany", "(III)I"⟩, 90) := ⟨⟨by decide +kernel, by decide +kernel⟩, List.mem_of_getElem? (i := 1441) (by decide +kernel), List.mem_of_getElem? (i := 1961) (by decide +kernel), List.mem_of_getElem? (i := 1962) (by decide +kernel)⟩
theorem lw_p102 : lw_okq (⟨"HeavierRowModel", "isGoal", "(II)Z"⟩, 90) := ⟨⟨by decide +kernel, by decide +kernel⟩, List.mem_of_getElem? (i := 1441) (by decide +kernel), List.mem_of_getElem? (i := 1969) (by decide +kernel), List.mem_of_getElem? (i := 1970) (by decide +kernel)⟩
theorem lw_p103 : lw_okq (⟨"HeavierRowModel", "layGoal", "(III)Z"⟩, 90) := ⟨⟨by decide +kernel, by decide +kernel⟩, List.mem_of_getElem? (i := 1441) (by decide +kernel), List.mem_of_getElem? (i := 1973) (by decide +kernel), List.mem_of_getElem? (i := 1974) (by decide +kernel)⟩
theorem lw_p104 : lw_okq (⟨"HeavierRowModel", "layPairs", "()V"⟩, 90) := ⟨⟨by decide +kernel, by decide +kernel⟩, List.mem_of_getElem? (i := 1441) (by decide +kernel), List.mem_of_getElem? (i := 1977) (by decide +kernel), List.mem_of_getElem? (i := 1978) (by decide +kernel)⟩
theorem lw_p105 : lw_okq (⟨"HeavierRowModel", "layGoals", "(II)V"⟩, 90) := ⟨⟨by decide +kernel, by decide +kernel⟩, List.mem_of_getElem? (i := 1441) (by decide +kernel), List.mem_of_getElem? (i := 1981) (by decide +kernel), List.mem_of_getElem? (i := 1982) (by decide +kernel)⟩
theorem lw_p106 : lw_okq (⟨"HeavierRowModel", "solves", "(Z)I"⟩, 90) := ⟨⟨by decide +kernel, by decide +kernel⟩, List.mem_of_getElem? (i := 1441) (by decide +kernel), List.mem_of_getElem? (i := 1985) (by decide +kernel), List.mem_of_getElem? (i := 1986) (by decide +kernel)⟩
theorem lw_p107 : lw_okq (⟨"HeavierRowModel", "clearTable", "()V"⟩, 90) := ⟨⟨by decide +kernel, by decide +kernel⟩, List.mem_of_getElem? (i := 1441) (by decide +kernel), List.mem_of_getElem? (i := 1990) (by decide +kernel), List.mem_of_getElem? (i := 1991) (by decide +kernel)⟩
theorem lw_p108 : lw_okq (⟨"HeavierRowModel", "isCome", "(JJ)Z"⟩, 90) := ⟨⟨by decide +kernel, by decide +kernel⟩, List.mem_of_getElem? (i := 1441) (by decide +kernel), List.mem_of_getElem? (i := 1994) (by decide +kernel), List.mem_of_getElem? (i := 1995) (by decide +kernel)⟩
theorem lw_p109 : lw_okq (⟨"HeavierRowModel", "enter", "(JJ)V"⟩, 90) := ⟨⟨by decide +kernel, by decide +kernel⟩, List.mem_of_getElem? (i := 1441) (by decide +kernel), List.mem_of_getElem? (i := 2001) (by decide +kernel), List.mem_of_getElem? (i := 2002) (by decide +kernel)⟩
theorem lw_p110 : lw_okq (⟨"HeavierRowModel", "beginPair", "()V"⟩, 90) := ⟨⟨by decide +kernel, by decide +kernel⟩, List.mem_of_getElem? (i := 1441) (by decide +kernel), List.mem_of_getElem? (i := 2006) (by decide +kernel), List.mem_of_getElem? (i := 2007) (by decide +kernel)⟩
theorem lw_p111 : lw_okq (⟨"HeavierRowModel", "meets", "(JJI)V"⟩, 90) := ⟨⟨by decide +kernel, by decide +kernel⟩, List.mem_of_getElem? (i := 1441) (by decide +kernel), List.mem_of_getElem? (i := 2010) (by decide +kernel), List.mem_of_getElem? (i := 2011) (by decide +kernel)⟩
def lw_privs_7 : List (MethodName × Nat) := [(⟨"HeavierRowModel", "isThing", "(I)Z"⟩, 90), (⟨"HeavierRowModel", "hasLeft", "(I)Z"⟩, 90), (⟨"HeavierRowModel", "placeLeft", "(II)I"⟩, 90), (⟨"HeavierRowModel", "areTwo", "(II)Z"⟩, 90), (⟨"HeavierRowModel", "sureOf", "(II)I"⟩, 90), (⟨"HeavierRowModel", "howMany", "(III)I"⟩, 90), (⟨"HeavierRowModel", "isGoal", "(II)Z"⟩, 90), (⟨"HeavierRowModel", "layGoal", "(III)Z"⟩, 90), (⟨"HeavierRowModel", "layPairs", "()V"⟩, 90), (⟨"HeavierRowModel", "layGoals", "(II)V"⟩, 90), (⟨"HeavierRowModel", "solves", "(Z)I"⟩, 90), (⟨"HeavierRowModel", "clearTable", "()V"⟩, 90), (⟨"HeavierRowModel", "isCome", "(JJ)Z"⟩, 90), (⟨"HeavierRowModel", "enter", "(JJ)V"⟩, 90), (⟨"HeavierRowModel", "beginPair", "()V"⟩, 90), (⟨"HeavierRowModel", "meets", "(JJI)V"⟩, 90)]
theorem lw_r7 : ∀ q ∈ lw_privs_7, lw_okq q := List.forall_mem_cons.mpr ⟨lw_p96, List.forall_mem_cons.mpr ⟨lw_p97, List.forall_mem_cons.mpr ⟨lw_p98, List.forall_mem_cons.mpr ⟨lw_p99, List.forall_mem_cons.mpr ⟨lw_p100, List.forall_mem_cons.mpr ⟨lw_p101, List.forall_mem_cons.mpr ⟨lw_p102, List.forall_mem_cons.mpr ⟨lw_p103, List.forall_mem_cons.mpr ⟨lw_p104, List.forall_mem_cons.mpr ⟨lw_p105, List.forall_mem_cons.mpr ⟨lw_p106, List.forall_mem_cons.mpr ⟨lw_p107, List.forall_mem_cons.mpr ⟨lw_p108, List.forall_mem_cons.mpr ⟨lw_p109, List.forall_mem_cons.mpr ⟨lw_p110, List.forall_mem_cons.mpr ⟨lw_p111, fun _ h => absurd h List.not_mem_nil⟩⟩⟩⟩⟩⟩⟩⟩⟩⟩⟩⟩⟩⟩⟩⟩
theorem lw_p112 : lw_okq (⟨"HeavierRowModel", "slot", "(JJ)I"⟩, 90) := ⟨⟨by decide +kernel, by decide +kernel⟩, List.mem_of_getElem? (i := 1441) (by decide +kernel), List.mem_of_getElem? (i := 2014) (by decide +kernel), List.mem_of_getElem? (i := 2015) (by decide +kernel)⟩
theorem lw_p113 : lw_okq (⟨"HeavierRowModel", "takes", "(I)V"⟩, 90) := ⟨⟨by decide +kernel, by decide +kernel⟩, List.mem_of_getElem? (i := 1441) (by decide +kernel), List.mem_of_getElem? (i := 2021) (by decide +kernel), List.mem_of_getElem? (i := 2022) (by decide +kernel)⟩
theorem lw_p114 : lw_okq (⟨"HeavierRowModel", "endPair", "()V"⟩, 90) := ⟨⟨by decide +kernel, by decide +kernel⟩, List.mem_of_getElem? (i := 1441) (by decide +kernel), List.mem_of_getElem? (i := 2025) (by decide +kernel), List.mem_of_getElem? (i := 2026) (by decide +kernel)⟩
theorem lw_p115 : lw_okq (⟨"HeavierRowModel", "sizeOf", "(JJ)I"⟩, 90) := ⟨⟨by decide +kernel, by decide +kernel⟩, List.mem_of_getElem? (i := 1441) (by decide +kernel), List.mem_of_getElem? (i := 2029) (by decide +kernel), List.mem_of_getElem? (i := 2030) (by decide +kernel)⟩
theorem lw_p116 : lw_okq (⟨"HeavierRowModel", "goesOn", "()V"⟩, 90) := ⟨⟨by decide +kernel, by decide +kernel⟩, List.mem_of_getElem? (i := 1441) (by decide +kernel), List.mem_of_getElem? (i := 2033) (by decide +kernel), List.mem_of_getElem? (i := 2034) (by decide +kernel)⟩
theorem lw_p117 : lw_okq (⟨"HeavierRowModel", "known", "(JJ)I"⟩, 90) := ⟨⟨by decide +kernel, by decide +kernel⟩, List.mem_of_getElem? (i := 1441) (by decide +kernel), List.mem_of_getElem? (i := 2037) (by decide +kernel), List.mem_of_getElem? (i := 2038) (by decide +kernel)⟩
theorem lw_p118 : lw_okq (⟨"HeavierRowModel", "pairNumber", "()I"⟩, 90) := ⟨⟨by decide +kernel, by decide +kernel⟩, List.mem_of_getElem? (i := 1441) (by decide +kernel), List.mem_of_getElem? (i := 2045) (by decide +kernel), List.mem_of_getElem? (i := 2046) (by decide +kernel)⟩
theorem lw_p119 : lw_okq (⟨"HeavierRowModel", "answerOf", "(II)I"⟩, 90) := ⟨⟨by decide +kernel, by decide +kernel⟩, List.mem_of_getElem? (i := 1441) (by decide +kernel), List.mem_of_getElem? (i := 2057) (by decide +kernel), List.mem_of_getElem? (i := 2058) (by decide +kernel)⟩
theorem lw_p120 : lw_okq (⟨"HeavierRowModel", "goesThrough", "(II)V"⟩, 90) := ⟨⟨by decide +kernel, by decide +kernel⟩, List.mem_of_getElem? (i := 1441) (by decide +kernel), List.mem_of_getElem? (i := 2065) (by decide +kernel), List.mem_of_getElem? (i := 2066) (by decide +kernel)⟩
theorem lw_p121 : lw_okq (⟨"HeavierRowModel", "unlikeBy", "(II)I"⟩, 90) := ⟨⟨by decide +kernel, by decide +kernel⟩, List.mem_of_getElem? (i := 1441) (by decide +kernel), List.mem_of_getElem? (i := 2073) (by decide +kernel), List.mem_of_getElem? (i := 2074) (by decide +kernel)⟩
theorem lw_p122 : lw_okq (⟨"HeavierRowModel", "isComeBy", "(I)Z"⟩, 90) := ⟨⟨by decide +kernel, by decide +kernel⟩, List.mem_of_getElem? (i := 1441) (by decide +kernel), List.mem_of_getElem? (i := 2081) (by decide +kernel), List.mem_of_getElem? (i := 2082) (by decide +kernel)⟩
theorem lw_p123 : lw_okq (⟨"HeavierRowModel", "statusOf", "(II)I"⟩, 90) := ⟨⟨by decide +kernel, by decide +kernel⟩, List.mem_of_getElem? (i := 1441) (by decide +kernel), List.mem_of_getElem? (i := 2085) (by decide +kernel), List.mem_of_getElem? (i := 2086) (by decide +kernel)⟩
theorem lw_p124 : lw_okq (⟨"HeavierRowModel", "canBy", "(II)Z"⟩, 90) := ⟨⟨by decide +kernel, by decide +kernel⟩, List.mem_of_getElem? (i := 1441) (by decide +kernel), List.mem_of_getElem? (i := 2089) (by decide +kernel), List.mem_of_getElem? (i := 2090) (by decide +kernel)⟩
theorem lw_p125 : lw_okq (⟨"HeavierRowModel", "behind", "(III)I"⟩, 90) := ⟨⟨by decide +kernel, by decide +kernel⟩, List.mem_of_getElem? (i := 1441) (by decide +kernel), List.mem_of_getElem? (i := 2093) (by decide +kernel), List.mem_of_getElem? (i := 2094) (by decide +kernel)⟩
theorem lw_p126 : lw_okq (⟨"HeavierRowModel", "isDirect", "(II)Z"⟩, 90) := ⟨⟨by decide +kernel, by decide +kernel⟩, List.mem_of_getElem? (i := 1441) (by decide +kernel), List.mem_of_getElem? (i := 2109) (by decide +kernel), List.mem_of_getElem? (i := 2110) (by decide +kernel)⟩
theorem lw_p127 : lw_okq (⟨"HeavierRowModel", "isHeavier", "(II)Z"⟩, 90) := ⟨⟨by decide +kernel, by decide +kernel⟩, List.mem_of_getElem? (i := 1441) (by decide +kernel), List.mem_of_getElem? (i := 2113) (by decide +kernel), List.mem_of_getElem? (i := 2114) (by decide +kernel)⟩
def lw_privs_8 : List (MethodName × Nat) := [(⟨"HeavierRowModel", "slot", "(JJ)I"⟩, 90), (⟨"HeavierRowModel", "takes", "(I)V"⟩, 90), (⟨"HeavierRowModel", "endPair", "()V"⟩, 90), (⟨"HeavierRowModel", "sizeOf", "(JJ)I"⟩, 90), (⟨"HeavierRowModel", "goesOn", "()V"⟩, 90), (⟨"HeavierRowModel", "known", "(JJ)I"⟩, 90), (⟨"HeavierRowModel", "pairNumber", "()I"⟩, 90), (⟨"HeavierRowModel", "answerOf", "(II)I"⟩, 90), (⟨"HeavierRowModel", "goesThrough", "(II)V"⟩, 90), (⟨"HeavierRowModel", "unlikeBy", "(II)I"⟩, 90), (⟨"HeavierRowModel", "isComeBy", "(I)Z"⟩, 90), (⟨"HeavierRowModel", "statusOf", "(II)I"⟩, 90), (⟨"HeavierRowModel", "canBy", "(II)Z"⟩, 90), (⟨"HeavierRowModel", "behind", "(III)I"⟩, 90), (⟨"HeavierRowModel", "isDirect", "(II)Z"⟩, 90), (⟨"HeavierRowModel", "isHeavier", "(II)Z"⟩, 90)]
theorem lw_r8 : ∀ q ∈ lw_privs_8, lw_okq q := List.forall_mem_cons.mpr ⟨lw_p112, List.forall_mem_cons.mpr ⟨lw_p113, List.forall_mem_cons.mpr ⟨lw_p114, List.forall_mem_cons.mpr ⟨lw_p115, List.forall_mem_cons.mpr ⟨lw_p116, List.forall_mem_cons.mpr ⟨lw_p117, List.forall_mem_cons.mpr ⟨lw_p118, List.forall_mem_cons.mpr ⟨lw_p119, List.forall_mem_cons.mpr ⟨lw_p120, List.forall_mem_cons.mpr ⟨lw_p121, List.forall_mem_cons.mpr ⟨lw_p122, List.forall_mem_cons.mpr ⟨lw_p123, List.forall_mem_cons.mpr ⟨lw_p124, List.forall_mem_cons.mpr ⟨lw_p125, List.forall_mem_cons.mpr ⟨lw_p126, List.forall_mem_cons.mpr ⟨lw_p127, fun _ h => absurd h List.not_mem_nil⟩⟩⟩⟩⟩⟩⟩⟩⟩⟩⟩⟩⟩⟩⟩⟩
theorem lw_p128 : lw_okq (⟨"HeavierRowModel", "placeInRow", "(I)I"⟩, 90) := ⟨⟨by decide +kernel, by decide +kernel⟩, List.mem_of_getElem? (i := 1441) (by decide +kernel), List.mem_of_getElem? (i := 2133) (by decide +kernel), List.mem_of_getElem? (i := 2134) (by decide +kernel)⟩
theorem lw_p129 : lw_okq (⟨"HeavierRowModel", "isLadder", "(IZ)Z"⟩, 90) := ⟨⟨by decide +kernel, by decide +kernel⟩, List.mem_of_getElem? (i := 1441) (by decide +kernel), List.mem_of_getElem? (i := 2141) (by decide +kernel), List.mem_of_getElem? (i := 2142) (by decide +kernel)⟩
theorem lw_p130 : lw_okq (⟨"HeavierRowModel", "laySwapped", "(I)V"⟩, 90) := ⟨⟨by decide +kernel, by decide +kernel⟩, List.mem_of_getElem? (i := 1441) (by decide +kernel), List.mem_of_getElem? (i := 2153) (by decide +kernel), List.mem_of_getElem? (i := 2154) (by decide +kernel)⟩
theorem lw_p131 : lw_okq (⟨"HeavierRowModel", "orderOf", "()I"⟩, 90) := ⟨⟨by decide +kernel, by decide +kernel⟩, List.mem_of_getElem? (i := 1441) (by decide +kernel), List.mem_of_getElem? (i := 2157) (by decide +kernel), List.mem_of_getElem? (i := 2158) (by decide +kernel)⟩
theorem lw_p132 : lw_okq (⟨"HeavierRowModel", "countWeights", "(I)I"⟩, 90) := ⟨⟨by decide +kernel, by decide +kernel⟩, List.mem_of_getElem? (i := 1441) (by decide +kernel), List.mem_of_getElem? (i := 2165) (by decide +kernel), List.mem_of_getElem? (i := 2166) (by decide +kernel)⟩
theorem lw_p133 : lw_okq (⟨"HeavierRowModel", "weightRows", "()I"⟩, 90) := ⟨⟨by decide +kernel, by decide +kernel⟩, List.mem_of_getElem? (i := 1441) (by decide +kernel), List.mem_of_getElem? (i := 2169) (by decide +kernel), List.mem_of_getElem? (i := 2170) (by decide +kernel)⟩
theorem lw_p134 : lw_okq (⟨"HeavierRowModel", "layWeights", "(I)V"⟩, 90) := ⟨⟨by decide +kernel, by decide +kernel⟩, List.mem_of_getElem? (i := 1441) (by decide +kernel), List.mem_of_getElem? (i := 2173) (by decide +kernel), List.mem_of_getElem? (i := 2174) (by decide +kernel)⟩
theorem lw_p135 : lw_okq (⟨"HeavierRowModel", "doFit", "(I)Z"⟩, 90) := ⟨⟨by decide +kernel, by decide +kernel⟩, List.mem_of_getElem? (i := 1441) (by decide +kernel), List.mem_of_getElem? (i := 2177) (by decide +kernel), List.mem_of_getElem? (i := 2178) (by decide +kernel)⟩
theorem lw_p136 : lw_okq (⟨"HeavierRowModel", "saysOf", "(II)I"⟩, 90) := ⟨⟨by decide +kernel, by decide +kernel⟩, List.mem_of_getElem? (i := 1441) (by decide +kernel), List.mem_of_getElem? (i := 2181) (by decide +kernel), List.mem_of_getElem? (i := 2182) (by decide +kernel)⟩
theorem lw_p137 : lw_okq (⟨"HeavierRowModel", "findStones", "(IIZ)Z"⟩, 90) := ⟨⟨by decide +kernel, by decide +kernel⟩, List.mem_of_getElem? (i := 1441) (by decide +kernel), List.mem_of_getElem? (i := 2197) (by decide +kernel), List.mem_of_getElem? (i := 2198) (by decide +kernel)⟩
theorem lw_p138 : lw_okq (⟨"HeavierRowModel", "mostStone", "(IIZ)I"⟩, 90) := ⟨⟨by decide +kernel, by decide +kernel⟩, List.mem_of_getElem? (i := 1441) (by decide +kernel), List.mem_of_getElem? (i := 2201) (by decide +kernel), List.mem_of_getElem? (i := 2202) (by decide +kernel)⟩
theorem lw_p139 : lw_okq (⟨"HeavierRowModel", "doReach", "(IIZ)Z"⟩, 90) := ⟨⟨by decide +kernel, by decide +kernel⟩, List.mem_of_getElem? (i := 1441) (by decide +kernel), List.mem_of_getElem? (i := 2205) (by decide +kernel), List.mem_of_getElem? (i := 2206) (by decide +kernel)⟩
theorem lw_p140 : lw_okq (⟨"HeavierRowModel", "worstOf", "(III)I"⟩, 90) := ⟨⟨by decide +kernel, by decide +kernel⟩, List.mem_of_getElem? (i := 1441) (by decide +kernel), List.mem_of_getElem? (i := 2213) (by decide +kernel), List.mem_of_getElem? (i := 2214) (by decide +kernel)⟩
def lw_privs_9 : List (MethodName × Nat) := [(⟨"HeavierRowModel", "placeInRow", "(I)I"⟩, 90), (⟨"HeavierRowModel", "isLadder", "(IZ)Z"⟩, 90), (⟨"HeavierRowModel", "laySwapped", "(I)V"⟩, 90), (⟨"HeavierRowModel", "orderOf", "()I"⟩, 90), (⟨"HeavierRowModel", "countWeights", "(I)I"⟩, 90), (⟨"HeavierRowModel", "weightRows", "()I"⟩, 90), (⟨"HeavierRowModel", "layWeights", "(I)V"⟩, 90), (⟨"HeavierRowModel", "doFit", "(I)Z"⟩, 90), (⟨"HeavierRowModel", "saysOf", "(II)I"⟩, 90), (⟨"HeavierRowModel", "findStones", "(IIZ)Z"⟩, 90), (⟨"HeavierRowModel", "mostStone", "(IIZ)I"⟩, 90), (⟨"HeavierRowModel", "doReach", "(IIZ)Z"⟩, 90), (⟨"HeavierRowModel", "worstOf", "(III)I"⟩, 90)]
theorem lw_r9 : ∀ q ∈ lw_privs_9, lw_okq q := List.forall_mem_cons.mpr ⟨lw_p128, List.forall_mem_cons.mpr ⟨lw_p129, List.forall_mem_cons.mpr ⟨lw_p130, List.forall_mem_cons.mpr ⟨lw_p131, List.forall_mem_cons.mpr ⟨lw_p132, List.forall_mem_cons.mpr ⟨lw_p133, List.forall_mem_cons.mpr ⟨lw_p134, List.forall_mem_cons.mpr ⟨lw_p135, List.forall_mem_cons.mpr ⟨lw_p136, List.forall_mem_cons.mpr ⟨lw_p137, List.forall_mem_cons.mpr ⟨lw_p138, List.forall_mem_cons.mpr ⟨lw_p139, List.forall_mem_cons.mpr ⟨lw_p140, fun _ h => absurd h List.not_mem_nil⟩⟩⟩⟩⟩⟩⟩⟩⟩⟩⟩⟩⟩
def lw_privs : List (MethodName × Nat) := lw_privs_1 ++ (lw_privs_2 ++ (lw_privs_3 ++ (lw_privs_4 ++ (lw_privs_5 ++ (lw_privs_6 ++ (lw_privs_7 ++ (lw_privs_8 ++ (lw_privs_9))))))))
def lw_tbl : List Cond := k2_sels lw_privs ++ tables_1
theorem lw_privs_ok : ∀ q ∈ lw_privs, lw_okq q := by
  show ∀ q ∈ lw_privs_1 ++ (lw_privs_2 ++ (lw_privs_3 ++ (lw_privs_4 ++ (lw_privs_5 ++ (lw_privs_6 ++ (lw_privs_7 ++ (lw_privs_8 ++ (lw_privs_9)))))))), lw_okq q
  exact List.forall_mem_append.mpr ⟨lw_r1, List.forall_mem_append.mpr ⟨lw_r2, List.forall_mem_append.mpr ⟨lw_r3, List.forall_mem_append.mpr ⟨lw_r4, List.forall_mem_append.mpr ⟨lw_r5, List.forall_mem_append.mpr ⟨lw_r6, List.forall_mem_append.mpr ⟨lw_r7, List.forall_mem_append.mpr ⟨lw_r8, lw_r9⟩⟩⟩⟩⟩⟩⟩⟩
-- ===== end of PART A; then your names; then what follows =====
/-! ===== BEGIN words of one list among another's, by their places ===== -/
theorem goodIn_r {big : List Cond} (ws : List Cond) (ps : List Nat) (hp : ws = ps.filterMap (fun i => big[i]?)) (h : ws.all goodWord = true) : GoodIn big ws := by
  intro w hw
  have h1 := List.all_eq_true.mp h w hw
  rw [hp] at hw
  obtain ⟨i, -, hi⟩ := List.mem_filterMap.mp hw
  have hm : w ∈ big := by first | exact List.mem_of_getElem? hi | exact List.getElem?_mem hi
  exact ⟨hm, good_of_word h1⟩
theorem goodIn_app {big a b : List Cond} (ha : GoodIn big a) (hb : GoodIn big b) : GoodIn big (a ++ b) := fun w h => (List.mem_append.mp h).elim (ha w) (hb w)
theorem goodIn_ca {big a b : List Cond} {c : Cond} (ha : GoodIn big (c :: a)) (hb : GoodIn big b) : GoodIn big (c :: (a ++ b)) := fun w h => (List.mem_cons.mp h).elim (fun e => ha w (List.mem_cons.mpr (Or.inl e))) (fun h => (List.mem_append.mp h).elim (fun h => ha w (List.mem_cons.mpr (Or.inr h))) (hb w))
theorem goodIn_sub {big ws : List Cond} (hm : ∀ w ∈ ws, w ∈ big) (h : ws.all goodWord = true) : GoodIn big ws := fun w hw => ⟨hm w hw, good_of_word (List.all_eq_true.mp h w hw)⟩
/-! ===== END ===== -/

/-! ===== BEGIN printed: names, fields, word lists, decode rows ===== -/
def RX0 : String := "HeavierRow$Book"
def TX0 : u_T := fun k => match k with
  | 0 => ("HeavierRow$Book", "weighings", "I", false)
  | 1 => ("HeavierRow$Book", "days", "I", false)
  | 2 => ("HeavierRow$Book", "time", "I", false)
  | 3 => ("HeavierRow$Book", "seed", "I", false)
  | 4 => ("HeavierRow$Book", "kept", "Z", false)
  | 5 => ("HeavierRow$Book", "firsts", "[I", true)
  | 6 => ("HeavierRow$Book", "seconds", "[I", true)
  | 7 => ("HeavierRow$Book", "saids", "[I", true)
  | 8 => ("HeavierRow$Book", "toldAt", "[I", true)
  | 9 => ("HeavierRow$Book", "untoldAt", "[I", true)
  | 10 => ("HeavierRow$Book", "daysAhead", "[I", true)
  | 11 => ("HeavierRow$Book", "wetAt", "[I", true)
  | _ => ("HeavierRow$Book", "hidden", "[I", true)
def tyX0 : Nat → FieldType := fun k => match k with
  | 0 => .int
  | 1 => .int
  | 2 => .int
  | 3 => .int
  | 4 => .boolean
  | 5 => .array .int
  | 6 => .array .int
  | 7 => .array .int
  | 8 => .array .int
  | 9 => .array .int
  | 10 => .array .int
  | 11 => .array .int
  | _ => .array .int
abbrev wsX00 : List Cond := u_ws RX0 TX0 13
theorem nmX0 : ∀ a, a < 13 → ∀ b, b < 13 → a ≠ b → (TX0 a).2.1 ≠ (TX0 b).2.1 := by decide +kernel
theorem tyX0_ok : ∀ k, k < 13 → parseFieldDescriptor (TX0 k).2.2.1 = some (tyX0 k) := by decide +kernel
abbrev cX0_init : ByteArray := prog_2_method_1_code
def yX0_init : MethodName := ⟨RX0, "<init>", "()V"⟩
abbrev cX0_begin : ByteArray := prog_2_method_2_code
def yX0_begin : MethodName := ⟨RX0, "begin", "(LHeavierRow$Street;)V"⟩
abbrev cX0_copyFrom : ByteArray := prog_2_method_3_code
def yX0_copyFrom : MethodName := ⟨RX0, "copyFrom", "(LHeavierRow$Book;)V"⟩
abbrev cX0_isFull : ByteArray := prog_2_method_4_code
def yX0_isFull : MethodName := ⟨RX0, "isFull", "()Z"⟩
abbrev cX0_balance : ByteArray := prog_2_method_5_code
def yX0_balance : MethodName := ⟨RX0, "balance", "(IILHeavierRow$Street;)I"⟩
abbrev cX0_heapOf : ByteArray := prog_2_method_6_code
def yX0_heapOf : MethodName := ⟨RX0, "heapOf", "(I)I"⟩
abbrev cX0_write : ByteArray := prog_2_method_7_code
def yX0_write : MethodName := ⟨RX0, "write", "(III)I"⟩
abbrev cX0_has : ByteArray := prog_2_method_8_code
def yX0_has : MethodName := ⟨RX0, "has", "(I)Z"⟩
abbrev cX0_look : ByteArray := prog_2_method_9_code
def yX0_look : MethodName := ⟨RX0, "look", "(II)I"⟩
abbrev cX0_isUntold : ByteArray := prog_2_method_10_code
def yX0_isUntold : MethodName := ⟨RX0, "isUntold", "(I)Z"⟩
abbrev cX0_strike : ByteArray := prog_2_method_11_code
def yX0_strike : MethodName := ⟨RX0, "strike", "(I)Z"⟩
abbrev cX0_pass : ByteArray := prog_2_method_12_code
def yX0_pass : MethodName := ⟨RX0, "pass", "(I)I"⟩
abbrev cX0_rain : ByteArray := prog_2_method_13_code
def yX0_rain : MethodName := ⟨RX0, "rain", "(I)I"⟩
abbrev cX0_thingAtRank : ByteArray := prog_2_method_14_code
def yX0_thingAtRank : MethodName := ⟨RX0, "thingAtRank", "(II)I"⟩
abbrev cX0_counts : ByteArray := prog_2_method_15_code
def yX0_counts : MethodName := ⟨RX0, "counts", "(II)Z"⟩
abbrev cX0_isSingle : ByteArray := prog_2_method_16_code
def yX0_isSingle : MethodName := ⟨RX0, "isSingle", "(I)Z"⟩
def RX1 : String := "HeavierRow$Guesses"
def TX1 : u_T := fun k => match k with
  | 0 => ("HeavierRow$Guesses", "things", "I", false)
  | 1 => ("HeavierRow$Guesses", "sticks", "I", false)
  | 2 => ("HeavierRow$Guesses", "rules", "I", false)
  | 3 => ("HeavierRow$Guesses", "ruleFirst", "[I", true)
  | 4 => ("HeavierRow$Guesses", "ruleSecond", "[I", true)
  | 5 => ("HeavierRow$Guesses", "ruleSaid", "[I", true)
  | 6 => ("HeavierRow$Guesses", "sums", "[I", true)
  | 7 => ("HeavierRow$Guesses", "laid", "[I", true)
  | 8 => ("HeavierRow$Guesses", "firstRow", "[I", true)
  | 9 => ("HeavierRow$Guesses", "leastOf", "[I", true)
  | 10 => ("HeavierRow$Guesses", "mostOf", "[I", true)
  | 11 => ("HeavierRow$Guesses", "count", "I", false)
  | 12 => ("HeavierRow$Guesses", "known", "I", false)
  | 13 => ("HeavierRow$Guesses", "asked", "I", false)
  | 14 => ("HeavierRow$Guesses", "askFirst", "[I", true)
  | 15 => ("HeavierRow$Guesses", "askSecond", "[I", true)
  | 16 => ("HeavierRow$Guesses", "downs", "[I", true)
  | _ => ("HeavierRow$Guesses", "ups", "[I", true)
def tyX1 : Nat → FieldType := fun k => match k with
  | 0 => .int
  | 1 => .int
  | 2 => .int
  | 3 => .array .int
  | 4 => .array .int
  | 5 => .array .int
  | 6 => .array .int
  | 7 => .array .int
  | 8 => .array .int
  | 9 => .array .int
  | 10 => .array .int
  | 11 => .int
  | 12 => .int
  | 13 => .int
  | 14 => .array .int
  | 15 => .array .int
  | 16 => .array .int
  | _ => .array .int
abbrev wsX10 : List Cond := u_ws RX1 TX1 18
theorem nmX1 : ∀ a, a < 18 → ∀ b, b < 18 → a ≠ b → (TX1 a).2.1 ≠ (TX1 b).2.1 := by decide +kernel
theorem tyX1_ok : ∀ k, k < 18 → parseFieldDescriptor (TX1 k).2.2.1 = some (tyX1 k) := by decide +kernel
abbrev cX1_init : ByteArray := prog_3_method_1_code
def yX1_init : MethodName := ⟨RX1, "<init>", "()V"⟩
abbrev cX1_load : ByteArray := prog_3_method_2_code
def yX1_load : MethodName := ⟨RX1, "load", "(LHeavierRow$Street;LHeavierRow$Book;I)V"⟩
abbrev cX1_isRule : ByteArray := prog_3_method_3_code
def yX1_isRule : MethodName := ⟨RX1, "isRule", "(IIII)Z"⟩
abbrev cX1_isRuleAt : ByteArray := prog_3_method_4_code
def yX1_isRuleAt : MethodName := ⟨RX1, "isRuleAt", "(IIII)Z"⟩
abbrev cX1_guessAll : ByteArray := prog_3_method_5_code
def yX1_guessAll : MethodName := ⟨RX1, "guessAll", "()V"⟩
abbrev cX1_sayings : ByteArray := prog_3_method_6_code
def yX1_sayings : MethodName := ⟨RX1, "sayings", "(II)I"⟩
abbrev cX1_bestHeaps : ByteArray := prog_3_method_7_code
def yX1_bestHeaps : MethodName := ⟨RX1, "bestHeaps", "(I)I"⟩
abbrev cX1_askAll : ByteArray := prog_3_method_8_code
def yX1_askAll : MethodName := ⟨RX1, "askAll", "()V"⟩
abbrev cX1_ask : ByteArray := prog_3_method_9_code
def yX1_ask : MethodName := ⟨RX1, "ask", "(II)V"⟩
abbrev cX1_firstOf : ByteArray := prog_3_method_10_code
def yX1_firstOf : MethodName := ⟨RX1, "firstOf", "(I)I"⟩
abbrev cX1_extremeOf : ByteArray := prog_3_method_11_code
def yX1_extremeOf : MethodName := ⟨RX1, "extremeOf", "(IZ)I"⟩
abbrev cX1_guess : ByteArray := prog_3_method_12_code
def yX1_guess : MethodName := ⟨RX1, "guess", "()V"⟩
abbrev cX1_layFrom : ByteArray := prog_3_method_13_code
def yX1_layFrom : MethodName := ⟨RX1, "layFrom", "(LHeavierRow$Guesses;I)V"⟩
abbrev cX1_lay : ByteArray := prog_3_method_14_code
def yX1_lay : MethodName := ⟨RX1, "lay", "(II)V"⟩
abbrev cX1_holds : ByteArray := prog_3_method_15_code
def yX1_holds : MethodName := ⟨RX1, "holds", "(I)Z"⟩
abbrev cX1_layLast : ByteArray := prog_3_method_16_code
def yX1_layLast : MethodName := ⟨RX1, "layLast", "(I)V"⟩
abbrev cX1_note : ByteArray := prog_3_method_17_code
def yX1_note : MethodName := ⟨RX1, "note", "(II)V"⟩
abbrev cX1_fitting : ByteArray := prog_3_method_18_code
def yX1_fitting : MethodName := ⟨RX1, "fitting", "(IIII)I"⟩
abbrev cX1_fitsOf : ByteArray := prog_3_method_19_code
def yX1_fitsOf : MethodName := ⟨RX1, "fitsOf", "(III)I"⟩
abbrev cX1_upTo : ByteArray := prog_3_method_20_code
def yX1_upTo : MethodName := ⟨RX1, "upTo", "(I)I"⟩
def RX2 : String := "HeavierRow$Judge"
def TX2 : u_T := fun k => match k with
  | 0 => ("HeavierRow$Judge", "comers", "[I", true)
  | 1 => ("HeavierRow$Judge", "goals", "[I", true)
  | 2 => ("HeavierRow$Judge", "mixed", "[I", true)
  | 3 => ("HeavierRow$Judge", "most", "I", false)
  | _ => ("HeavierRow$Judge", "all", "I", false)
def tyX2 : Nat → FieldType := fun k => match k with
  | 0 => .array .int
  | 1 => .array .int
  | 2 => .array .int
  | 3 => .int
  | _ => .int
abbrev wsX20 : List Cond := u_ws RX2 TX2 5
theorem nmX2 : ∀ a, a < 5 → ∀ b, b < 5 → a ≠ b → (TX2 a).2.1 ≠ (TX2 b).2.1 := by decide +kernel
theorem tyX2_ok : ∀ k, k < 5 → parseFieldDescriptor (TX2 k).2.2.1 = some (tyX2 k) := by decide +kernel
abbrev cX2_init : ByteArray := prog_4_method_1_code
def yX2_init : MethodName := ⟨RX2, "<init>", "()V"⟩
abbrev cX2_begin : ByteArray := prog_4_method_2_code
def yX2_begin : MethodName := ⟨RX2, "begin", "()V"⟩
abbrev cX2_follow : ByteArray := prog_4_method_3_code
def yX2_follow : MethodName := ⟨RX2, "follow", "(LHeavierRow$Street;ILHeavierRow$Orders;II)V"⟩
abbrev cX2_comeTo : ByteArray := prog_4_method_4_code
def yX2_comeTo : MethodName := ⟨RX2, "comeTo", "(II)V"⟩
abbrev cX2_unknown : ByteArray := prog_4_method_5_code
def yX2_unknown : MethodName := ⟨RX2, "unknown", "()I"⟩
def RX3 : String := "HeavierRow$Liar"
def TX3 : u_T := fun k => match k with
  | 0 => ("HeavierRow$Liar", "needs", "[I", true)
  | 1 => ("HeavierRow$Liar", "alike", "[I", true)
  | _ => ("HeavierRow$Liar", "truths", "[I", true)
def tyX3 : Nat → FieldType := fun k => match k with
  | 0 => .array .int
  | 1 => .array .int
  | _ => .array .int
abbrev wsX30 : List Cond := u_ws RX3 TX3 3
theorem nmX3 : ∀ a, a < 3 → ∀ b, b < 3 → a ≠ b → (TX3 a).2.1 ≠ (TX3 b).2.1 := by decide +kernel
theorem tyX3_ok : ∀ k, k < 3 → parseFieldDescriptor (TX3 k).2.2.1 = some (tyX3 k) := by decide +kernel
abbrev cX3_init : ByteArray := prog_5_method_1_code
def yX3_init : MethodName := ⟨RX3, "<init>", "()V"⟩
abbrev cX3_fewestWithALie : ByteArray := prog_5_method_2_code
def yX3_fewestWithALie : MethodName := ⟨RX3, "fewestWithALie", "(LHeavierRow$Search;)I"⟩
abbrev cX3_loadTruths : ByteArray := prog_5_method_3_code
def yX3_loadTruths : MethodName := ⟨RX3, "loadTruths", "(LHeavierRow$Search;)V"⟩
abbrev cX3_isAlike : ByteArray := prog_5_method_4_code
def yX3_isAlike : MethodName := ⟨RX3, "isAlike", "(LHeavierRow$Search;I)Z"⟩
abbrev cX3_needOf : ByteArray := prog_5_method_5_code
def yX3_needOf : MethodName := ⟨RX3, "needOf", "(III)I"⟩
abbrev cX3_worstBehind : ByteArray := prog_5_method_6_code
def yX3_worstBehind : MethodName := ⟨RX3, "worstBehind", "(III)I"⟩
def RX4 : String := "HeavierRow$Once"
def TX4 : u_T := fun k => match k with
  | _ => ("HeavierRow$Once", "holds", "[I", true)
def tyX4 : Nat → FieldType := fun k => match k with
  | _ => .array .int
abbrev wsX40 : List Cond := u_ws RX4 TX4 1
theorem nmX4 : ∀ a, a < 1 → ∀ b, b < 1 → a ≠ b → (TX4 a).2.1 ≠ (TX4 b).2.1 := by decide +kernel
theorem tyX4_ok : ∀ k, k < 1 → parseFieldDescriptor (TX4 k).2.2.1 = some (tyX4 k) := by decide +kernel
abbrev cX4_init : ByteArray := prog_6_method_1_code
def yX4_init : MethodName := ⟨RX4, "<init>", "()V"⟩
abbrev cX4_fewestPairs : ByteArray := prog_6_method_2_code
def yX4_fewestPairs : MethodName := ⟨RX4, "fewestPairs", "(LHeavierRow$Search;)I"⟩
abbrev cX4_leastSet : ByteArray := prog_6_method_3_code
def yX4_leastSet : MethodName := ⟨RX4, "leastSet", "(I)I"⟩
def RX5 : String := "HeavierRow$Orders"
def TX5 : u_T := fun k => match k with
  | 0 => ("HeavierRow$Orders", "things", "I", false)
  | 1 => ("HeavierRow$Orders", "count", "I", false)
  | 2 => ("HeavierRow$Orders", "places", "[I", true)
  | 3 => ("HeavierRow$Orders", "marks", "[I", true)
  | 4 => ("HeavierRow$Orders", "left", "[I", true)
  | 5 => ("HeavierRow$Orders", "leftCount", "I", false)
  | 6 => ("HeavierRow$Orders", "sure", "I", false)
  | 7 => ("HeavierRow$Orders", "asked", "I", false)
  | 8 => ("HeavierRow$Orders", "singles", "I", false)
  | 9 => ("HeavierRow$Orders", "tallies", "[I", true)
  | 10 => ("HeavierRow$Orders", "polls", "[I", true)
  | _ => ("HeavierRow$Orders", "digits", "[I", true)
def tyX5 : Nat → FieldType := fun k => match k with
  | 0 => .int
  | 1 => .int
  | 2 => .array .int
  | 3 => .array .int
  | 4 => .array .int
  | 5 => .int
  | 6 => .int
  | 7 => .int
  | 8 => .int
  | 9 => .array .int
  | 10 => .array .int
  | _ => .array .int
abbrev wsX50 : List Cond := u_ws RX5 TX5 12
theorem nmX5 : ∀ a, a < 12 → ∀ b, b < 12 → a ≠ b → (TX5 a).2.1 ≠ (TX5 b).2.1 := by decide +kernel
theorem tyX5_ok : ∀ k, k < 12 → parseFieldDescriptor (TX5 k).2.2.1 = some (tyX5 k) := by decide +kernel
abbrev cX5_init : ByteArray := prog_7_method_1_code
def yX5_init : MethodName := ⟨RX5, "<init>", "()V"⟩
abbrev cX5_pairOf : ByteArray := prog_7_method_2_code
def yX5_pairOf : MethodName := ⟨RX5, "pairOf", "(III)I"⟩
abbrev cX5_bitOf : ByteArray := prog_7_method_3_code
def yX5_bitOf : MethodName := ⟨RX5, "bitOf", "(IIII)I"⟩
abbrev cX5_refill : ByteArray := prog_7_method_4_code
def yX5_refill : MethodName := ⟨RX5, "refill", "(LHeavierRow$Street;)V"⟩
abbrev cX5_isOrder : ByteArray := prog_7_method_5_code
def yX5_isOrder : MethodName := ⟨RX5, "isOrder", "(Z)Z"⟩
abbrev cX5_stepDigits : ByteArray := prog_7_method_6_code
def yX5_stepDigits : MethodName := ⟨RX5, "stepDigits", "()V"⟩
abbrev cX5_keepOrder : ByteArray := prog_7_method_7_code
def yX5_keepOrder : MethodName := ⟨RX5, "keepOrder", "()V"⟩
abbrev cX5_markOfDigits : ByteArray := prog_7_method_8_code
def yX5_markOfDigits : MethodName := ⟨RX5, "markOfDigits", "()I"⟩
abbrev cX5_markOfRow : ByteArray := prog_7_method_9_code
def yX5_markOfRow : MethodName := ⟨RX5, "markOfRow", "([I)I"⟩
abbrev cX5_heed : ByteArray := prog_7_method_10_code
def yX5_heed : MethodName := ⟨RX5, "heed", "(LHeavierRow$Book;I)V"⟩
abbrev cX5_sift : ByteArray := prog_7_method_11_code
def yX5_sift : MethodName := ⟨RX5, "sift", "(I)V"⟩
abbrev cX5_know : ByteArray := prog_7_method_12_code
def yX5_know : MethodName := ⟨RX5, "know", "(LHeavierRow$Book;I)I"⟩
abbrev cX5_missesBy : ByteArray := prog_7_method_13_code
def yX5_missesBy : MethodName := ⟨RX5, "missesBy", "(I)I"⟩
abbrev cX5_missesOf : ByteArray := prog_7_method_14_code
def yX5_missesOf : MethodName := ⟨RX5, "missesOf", "(I)I"⟩
abbrev cX5_firstOfFewestMisses : ByteArray := prog_7_method_15_code
def yX5_firstOfFewestMisses : MethodName := ⟨RX5, "firstOfFewestMisses", "()I"⟩
abbrev cX5_leftAt : ByteArray := prog_7_method_16_code
def yX5_leftAt : MethodName := ⟨RX5, "leftAt", "(I)I"⟩
abbrev cX5_markOf : ByteArray := prog_7_method_17_code
def yX5_markOf : MethodName := ⟨RX5, "markOf", "(I)I"⟩
abbrev cX5_placeOf : ByteArray := prog_7_method_18_code
def yX5_placeOf : MethodName := ⟨RX5, "placeOf", "(II)I"⟩
abbrev cX5_saidBy : ByteArray := prog_7_method_19_code
def yX5_saidBy : MethodName := ⟨RX5, "saidBy", "(III)I"⟩
abbrev cX5_goalOf : ByteArray := prog_7_method_20_code
def yX5_goalOf : MethodName := ⟨RX5, "goalOf", "(III)I"⟩
abbrev cX5_extremePlace : ByteArray := prog_7_method_21_code
def yX5_extremePlace : MethodName := ⟨RX5, "extremePlace", "(IZ)I"⟩
abbrev cX5_standing : ByteArray := prog_7_method_22_code
def yX5_standing : MethodName := ⟨RX5, "standing", "(IZ)I"⟩
abbrev cX5_isSure : ByteArray := prog_7_method_23_code
def yX5_isSure : MethodName := ⟨RX5, "isSure", "(III)Z"⟩
abbrev cX5_surelySaying : ByteArray := prog_7_method_24_code
def yX5_surelySaying : MethodName := ⟨RX5, "surelySaying", "(II)I"⟩
abbrev cX5_isCover : ByteArray := prog_7_method_25_code
def yX5_isCover : MethodName := ⟨RX5, "isCover", "(II)Z"⟩
abbrev cX5_heavierIn : ByteArray := prog_7_method_26_code
def yX5_heavierIn : MethodName := ⟨RX5, "heavierIn", "(II)I"⟩
abbrev cX5_evenestTwo : ByteArray := prog_7_method_27_code
def yX5_evenestTwo : MethodName := ⟨RX5, "evenestTwo", "()I"⟩
abbrev cX5_weighingsWith : ByteArray := prog_7_method_28_code
def yX5_weighingsWith : MethodName := ⟨RX5, "weighingsWith", "(II)I"⟩
abbrev cX5_largestSet : ByteArray := prog_7_method_29_code
def yX5_largestSet : MethodName := ⟨RX5, "largestSet", "(Z)I"⟩
abbrev cX5_isSet : ByteArray := prog_7_method_30_code
def yX5_isSet : MethodName := ⟨RX5, "isSet", "(IZ)Z"⟩
abbrev cX5_answer : ByteArray := prog_7_method_31_code
def yX5_answer : MethodName := ⟨RX5, "answer", "(III)I"⟩
abbrev cX5_addSwapped : ByteArray := prog_7_method_32_code
def yX5_addSwapped : MethodName := ⟨RX5, "addSwapped", "(LHeavierRow$Search;[II)V"⟩
def RX6 : String := "HeavierRow$Reader"
def TX6 : u_T := fun k => match k with
  | 0 => ("HeavierRow$Reader", "ownWords", "[J", true)
  | 1 => ("HeavierRow$Reader", "text", "[B", false)
  | 2 => ("HeavierRow$Reader", "length", "I", false)
  | 3 => ("HeavierRow$Reader", "into", "LHeavierRow$Street;", false)
  | 4 => ("HeavierRow$Reader", "start", "I", false)
  | 5 => ("HeavierRow$Reader", "stop", "I", false)
  | 6 => ("HeavierRow$Reader", "kind", "I", false)
  | 7 => ("HeavierRow$Reader", "number", "I", false)
  | 8 => ("HeavierRow$Reader", "word", "J", false)
  | 9 => ("HeavierRow$Reader", "ownWord", "I", false)
  | 10 => ("HeavierRow$Reader", "fault", "I", false)
  | _ => ("HeavierRow$Reader", "faultPlace", "I", false)
def tyX6 : Nat → FieldType := fun k => match k with
  | 0 => .array .long
  | 1 => .array .byte
  | 2 => .int
  | 3 => .object "HeavierRow$Street"
  | 4 => .int
  | 5 => .int
  | 6 => .int
  | 7 => .int
  | 8 => .long
  | 9 => .int
  | 10 => .int
  | _ => .int
abbrev wsX60 : List Cond := u_ws RX6 TX6 12
theorem nmX6 : ∀ a, a < 12 → ∀ b, b < 12 → a ≠ b → (TX6 a).2.1 ≠ (TX6 b).2.1 := by decide +kernel
theorem tyX6_ok : ∀ k, k < 12 → parseFieldDescriptor (TX6 k).2.2.1 = some (tyX6 k) := by decide +kernel
abbrev cX6_init : ByteArray := prog_8_method_1_code
def yX6_init : MethodName := ⟨RX6, "<init>", "()V"⟩
abbrev cX6_packed : ByteArray := prog_8_method_2_code
def yX6_packed : MethodName := ⟨RX6, "packed", "(Ljava/lang/String;)J"⟩
abbrev cX6_read : ByteArray := prog_8_method_3_code
def yX6_read : MethodName := ⟨RX6, "read", "([BILHeavierRow$Street;)V"⟩
abbrev cX6_fail : ByteArray := prog_8_method_4_code
def yX6_fail : MethodName := ⟨RX6, "fail", "(I)V"⟩
abbrev cX6_readLine : ByteArray := prog_8_method_5_code
def yX6_readLine : MethodName := ⟨RX6, "readLine", "()V"⟩
abbrev cX6_readThing : ByteArray := prog_8_method_6_code
def yX6_readThing : MethodName := ⟨RX6, "readThing", "()V"⟩
abbrev cX6_readTwins : ByteArray := prog_8_method_7_code
def yX6_readTwins : MethodName := ⟨RX6, "readTwins", "()V"⟩
abbrev cX6_readSticks : ByteArray := prog_8_method_8_code
def yX6_readSticks : MethodName := ⟨RX6, "readSticks", "()V"⟩
abbrev cX6_readRow : ByteArray := prog_8_method_9_code
def yX6_readRow : MethodName := ⟨RX6, "readRow", "()V"⟩
abbrev cX6_takeRowName : ByteArray := prog_8_method_10_code
def yX6_takeRowName : MethodName := ⟨RX6, "takeRowName", "()V"⟩
abbrev cX6_readPlan : ByteArray := prog_8_method_11_code
def yX6_readPlan : MethodName := ⟨RX6, "readPlan", "()V"⟩
abbrev cX6_readPart : ByteArray := prog_8_method_12_code
def yX6_readPart : MethodName := ⟨RX6, "readPart", "(LHeavierRow$Reader;I)I"⟩
abbrev cX6_takeNewName : ByteArray := prog_8_method_13_code
def yX6_takeNewName : MethodName := ⟨RX6, "takeNewName", "(I)J"⟩
abbrev cX6_takeThing : ByteArray := prog_8_method_14_code
def yX6_takeThing : MethodName := ⟨RX6, "takeThing", "(I)I"⟩
abbrev cX6_takeOwn : ByteArray := prog_8_method_15_code
def yX6_takeOwn : MethodName := ⟨RX6, "takeOwn", "(I)V"⟩
abbrev cX6_takeSign : ByteArray := prog_8_method_16_code
def yX6_takeSign : MethodName := ⟨RX6, "takeSign", "(I)V"⟩
abbrev cX6_takeNumber : ByteArray := prog_8_method_17_code
def yX6_takeNumber : MethodName := ⟨RX6, "takeNumber", "(II)I"⟩
abbrev cX6_isOwn : ByteArray := prog_8_method_18_code
def yX6_isOwn : MethodName := ⟨RX6, "isOwn", "(I)Z"⟩
abbrev cX6_isName : ByteArray := prog_8_method_19_code
def yX6_isName : MethodName := ⟨RX6, "isName", "()Z"⟩
abbrev cX6_byteAt : ByteArray := prog_8_method_20_code
def yX6_byteAt : MethodName := ⟨RX6, "byteAt", "(I)I"⟩
abbrev cX6_advance : ByteArray := prog_8_method_21_code
def yX6_advance : MethodName := ⟨RX6, "advance", "()V"⟩
abbrev cX6_isSign : ByteArray := prog_8_method_22_code
def yX6_isSign : MethodName := ⟨RX6, "isSign", "(I)Z"⟩
abbrev cX6_isLetter : ByteArray := prog_8_method_23_code
def yX6_isLetter : MethodName := ⟨RX6, "isLetter", "(I)Z"⟩
abbrev cX6_isDigit : ByteArray := prog_8_method_24_code
def yX6_isDigit : MethodName := ⟨RX6, "isDigit", "(I)Z"⟩
def RX7 : String := "HeavierRow$Rows"
def TX7 : u_T := fun k => match k with
  | _ => ("", "", "", false)
def tyX7 : Nat → FieldType := fun k => match k with
  | _ => .int
abbrev wsX70 : List Cond := u_ws RX7 TX7 0
theorem nmX7 : ∀ a, a < 0 → ∀ b, b < 0 → a ≠ b → (TX7 a).2.1 ≠ (TX7 b).2.1 := by decide +kernel
theorem tyX7_ok : ∀ k, k < 0 → parseFieldDescriptor (TX7 k).2.2.1 = some (tyX7 k) := by decide +kernel
abbrev cX7_at : ByteArray := prog_9_method_2_code
def yX7_at : MethodName := ⟨RX7, "at", "([II)I"⟩
abbrev cX7_at_ : ByteArray := prog_9_method_3_code
def yX7_at_ : MethodName := ⟨RX7, "at", "([JI)J"⟩
abbrev cX7_put : ByteArray := prog_9_method_4_code
def yX7_put : MethodName := ⟨RX7, "put", "([III)V"⟩
abbrev cX7_put_ : ByteArray := prog_9_method_5_code
def yX7_put_ : MethodName := ⟨RX7, "put", "([JIJ)V"⟩
abbrev cX7_add : ByteArray := prog_9_method_6_code
def yX7_add : MethodName := ⟨RX7, "add", "([III)V"⟩
abbrev cX7_fill : ByteArray := prog_9_method_7_code
def yX7_fill : MethodName := ⟨RX7, "fill", "([II)V"⟩
abbrev cX7_copy : ByteArray := prog_9_method_8_code
def yX7_copy : MethodName := ⟨RX7, "copy", "([I[I)V"⟩
abbrev cX7_find : ByteArray := prog_9_method_9_code
def yX7_find : MethodName := ⟨RX7, "find", "([JIJ)I"⟩
abbrev cX7_hasBit : ByteArray := prog_9_method_10_code
def yX7_hasBit : MethodName := ⟨RX7, "hasBit", "(II)Z"⟩
abbrev cX7_lowestBit : ByteArray := prog_9_method_11_code
def yX7_lowestBit : MethodName := ⟨RX7, "lowestBit", "(J)I"⟩
def RX8 : String := "HeavierRow$Search"
def TX8 : u_T := fun k => match k with
  | 0 => ("HeavierRow$Search", "marks", "[I", true)
  | 1 => ("HeavierRow$Search", "goals", "[I", true)
  | 2 => ("HeavierRow$Search", "count", "I", false)
  | 3 => ("HeavierRow$Search", "things", "I", false)
  | 4 => ("HeavierRow$Search", "joining", "Z", false)
  | 5 => ("HeavierRow$Search", "unlike", "I", false)
  | 6 => ("HeavierRow$Search", "filled", "I", false)
  | 7 => ("HeavierRow$Search", "changed", "Z", false)
  | 8 => ("HeavierRow$Search", "base", "I", false)
  | 9 => ("HeavierRow$Search", "kinds", "I", false)
  | 10 => ("HeavierRow$Search", "kindOf", "[I", true)
  | 11 => ("HeavierRow$Search", "kindSets", "[J", true)
  | 12 => ("HeavierRow$Search", "saidSets", "[J", true)
  | 13 => ("HeavierRow$Search", "codes", "[I", true)
  | 14 => ("HeavierRow$Search", "groupsOf", "[I", true)
  | 15 => ("HeavierRow$Search", "round", "I", false)
  | 16 => ("HeavierRow$Search", "rounds", "[I", true)
  | 17 => ("HeavierRow$Search", "keys", "[J", true)
  | 18 => ("HeavierRow$Search", "worstOf", "[I", true)
  | _ => ("HeavierRow$Search", "sumOf", "[I", true)
def tyX8 : Nat → FieldType := fun k => match k with
  | 0 => .array .int
  | 1 => .array .int
  | 2 => .int
  | 3 => .int
  | 4 => .boolean
  | 5 => .int
  | 6 => .int
  | 7 => .boolean
  | 8 => .int
  | 9 => .int
  | 10 => .array .int
  | 11 => .array .long
  | 12 => .array .long
  | 13 => .array .int
  | 14 => .array .int
  | 15 => .int
  | 16 => .array .int
  | 17 => .array .long
  | 18 => .array .int
  | _ => .array .int
abbrev wsX80 : List Cond := u_ws RX8 TX8 20
theorem nmX8 : ∀ a, a < 20 → ∀ b, b < 20 → a ≠ b → (TX8 a).2.1 ≠ (TX8 b).2.1 := by decide +kernel
theorem tyX8_ok : ∀ k, k < 20 → parseFieldDescriptor (TX8 k).2.2.1 = some (tyX8 k) := by decide +kernel
abbrev cX8_init : ByteArray := prog_10_method_1_code
def yX8_init : MethodName := ⟨RX8, "<init>", "()V"⟩
abbrev cX8_begin : ByteArray := prog_10_method_2_code
def yX8_begin : MethodName := ⟨RX8, "begin", "(IZI)V"⟩
abbrev cX8_numberPairs : ByteArray := prog_10_method_3_code
def yX8_numberPairs : MethodName := ⟨RX8, "numberPairs", "(I)V"⟩
abbrev cX8_pairs : ByteArray := prog_10_method_4_code
def yX8_pairs : MethodName := ⟨RX8, "pairs", "()I"⟩
abbrev cX8_add : ByteArray := prog_10_method_5_code
def yX8_add : MethodName := ⟨RX8, "add", "(II)V"⟩
abbrev cX8_finish : ByteArray := prog_10_method_6_code
def yX8_finish : MethodName := ⟨RX8, "finish", "()V"⟩
abbrev cX8_sortIn : ByteArray := prog_10_method_7_code
def yX8_sortIn : MethodName := ⟨RX8, "sortIn", "(I)V"⟩
abbrev cX8_putIn : ByteArray := prog_10_method_8_code
def yX8_putIn : MethodName := ⟨RX8, "putIn", "([JII)V"⟩
abbrev cX8_kindLike : ByteArray := prog_10_method_9_code
def yX8_kindLike : MethodName := ⟨RX8, "kindLike", "(I)I"⟩
abbrev cX8_allLow : ByteArray := prog_10_method_10_code
def yX8_allLow : MethodName := ⟨RX8, "allLow", "()J"⟩
abbrev cX8_allHigh : ByteArray := prog_10_method_11_code
def yX8_allHigh : MethodName := ⟨RX8, "allHigh", "()J"⟩
abbrev cX8_surePairs : ByteArray := prog_10_method_12_code
def yX8_surePairs : MethodName := ⟨RX8, "surePairs", "()I"⟩
abbrev cX8_fewestOfAll : ByteArray := prog_10_method_13_code
def yX8_fewestOfAll : MethodName := ⟨RX8, "fewestOfAll", "()I"⟩
abbrev cX8_sumOfAll : ByteArray := prog_10_method_14_code
def yX8_sumOfAll : MethodName := ⟨RX8, "sumOfAll", "()I"⟩
abbrev cX8_nextOfFewest : ByteArray := prog_10_method_15_code
def yX8_nextOfFewest : MethodName := ⟨RX8, "nextOfFewest", "()I"⟩
abbrev cX8_nextOfSum : ByteArray := prog_10_method_16_code
def yX8_nextOfSum : MethodName := ⟨RX8, "nextOfSum", "()I"⟩
abbrev cX8_codeOf : ByteArray := prog_10_method_17_code
def yX8_codeOf : MethodName := ⟨RX8, "codeOf", "(I)I"⟩
abbrev cX8_worstFrom : ByteArray := prog_10_method_18_code
def yX8_worstFrom : MethodName := ⟨RX8, "worstFrom", "(LHeavierRow$Search;JJIII)I"⟩
abbrev cX8_worstBehind : ByteArray := prog_10_method_19_code
def yX8_worstBehind : MethodName := ⟨RX8, "worstBehind", "(LHeavierRow$Search;IJJIII)I"⟩
abbrev cX8_sumFrom : ByteArray := prog_10_method_20_code
def yX8_sumFrom : MethodName := ⟨RX8, "sumFrom", "(LHeavierRow$Search;JJIII)I"⟩
abbrev cX8_sumBehind : ByteArray := prog_10_method_21_code
def yX8_sumBehind : MethodName := ⟨RX8, "sumBehind", "(LHeavierRow$Search;IJJIII)I"⟩
abbrev cX8_freeThings : ByteArray := prog_10_method_22_code
def yX8_freeThings : MethodName := ⟨RX8, "freeThings", "(I)I"⟩
abbrev cX8_isFirstLike : ByteArray := prog_10_method_23_code
def yX8_isFirstLike : MethodName := ⟨RX8, "isFirstLike", "(II)Z"⟩
abbrev cX8_isAlike : ByteArray := prog_10_method_24_code
def yX8_isAlike : MethodName := ⟨RX8, "isAlike", "(JJ)Z"⟩
abbrev cX8_kindsIn : ByteArray := prog_10_method_25_code
def yX8_kindsIn : MethodName := ⟨RX8, "kindsIn", "(JJ)I"⟩
abbrev cX8_leastWorst : ByteArray := prog_10_method_26_code
def yX8_leastWorst : MethodName := ⟨RX8, "leastWorst", "(JJI)I"⟩
abbrev cX8_depthOf : ByteArray := prog_10_method_27_code
def yX8_depthOf : MethodName := ⟨RX8, "depthOf", "(II)I"⟩
abbrev cX8_leastSum : ByteArray := prog_10_method_28_code
def yX8_leastSum : MethodName := ⟨RX8, "leastSum", "(JJI)I"⟩
abbrev cX8_joinsFor : ByteArray := prog_10_method_29_code
def yX8_joinsFor : MethodName := ⟨RX8, "joinsFor", "(I)I"⟩
abbrev cX8_countGroups : ByteArray := prog_10_method_30_code
def yX8_countGroups : MethodName := ⟨RX8, "countGroups", "(I)I"⟩
abbrev cX8_slotOf : ByteArray := prog_10_method_31_code
def yX8_slotOf : MethodName := ⟨RX8, "slotOf", "(JJ)I"⟩
def RX9 : String := "HeavierRow$Shelf"
def TX9 : u_T := fun k => match k with
  | 0 => ("HeavierRow$Shelf", "items", "[I", true)
  | _ => ("HeavierRow$Shelf", "count", "I", false)
def tyX9 : Nat → FieldType := fun k => match k with
  | 0 => .array .int
  | _ => .int
abbrev wsX90 : List Cond := u_ws RX9 TX9 2
theorem nmX9 : ∀ a, a < 2 → ∀ b, b < 2 → a ≠ b → (TX9 a).2.1 ≠ (TX9 b).2.1 := by decide +kernel
theorem tyX9_ok : ∀ k, k < 2 → parseFieldDescriptor (TX9 k).2.2.1 = some (tyX9 k) := by decide +kernel
abbrev cX9_init : ByteArray := prog_11_method_1_code
def yX9_init : MethodName := ⟨RX9, "<init>", "()V"⟩
abbrev cX9_empty : ByteArray := prog_11_method_2_code
def yX9_empty : MethodName := ⟨RX9, "empty", "()V"⟩
abbrev cX9_lay : ByteArray := prog_11_method_3_code
def yX9_lay : MethodName := ⟨RX9, "lay", "(I)V"⟩
abbrev cX9_layStones : ByteArray := prog_11_method_4_code
def yX9_layStones : MethodName := ⟨RX9, "layStones", "(IZ)V"⟩
abbrev cX9_powerOf : ByteArray := prog_11_method_5_code
def yX9_powerOf : MethodName := ⟨RX9, "powerOf", "(II)I"⟩
def RX10 : String := "HeavierRow$Street"
def TX10 : u_T := fun k => match k with
  | 0 => ("HeavierRow$Street", "things", "I", false)
  | 1 => ("HeavierRow$Street", "names", "[J", true)
  | 2 => ("HeavierRow$Street", "burdens", "[I", true)
  | 3 => ("HeavierRow$Street", "hasTwins", "Z", false)
  | 4 => ("HeavierRow$Street", "sticksTold", "Z", false)
  | 5 => ("HeavierRow$Street", "sticks", "I", false)
  | 6 => ("HeavierRow$Street", "inRow", "I", false)
  | 7 => ("HeavierRow$Street", "row", "[I", true)
  | 8 => ("HeavierRow$Street", "plans", "I", false)
  | 9 => ("HeavierRow$Street", "planNames", "[J", true)
  | 10 => ("HeavierRow$Street", "roots", "[I", true)
  | 11 => ("HeavierRow$Street", "twos", "I", false)
  | 12 => ("HeavierRow$Street", "firsts", "[I", true)
  | 13 => ("HeavierRow$Street", "seconds", "[I", true)
  | _ => ("HeavierRow$Street", "ways", "[I", true)
def tyX10 : Nat → FieldType := fun k => match k with
  | 0 => .int
  | 1 => .array .long
  | 2 => .array .int
  | 3 => .boolean
  | 4 => .boolean
  | 5 => .int
  | 6 => .int
  | 7 => .array .int
  | 8 => .int
  | 9 => .array .long
  | 10 => .array .int
  | 11 => .int
  | 12 => .array .int
  | 13 => .array .int
  | _ => .array .int
abbrev wsX100 : List Cond := u_ws RX10 TX10 15
theorem nmX10 : ∀ a, a < 15 → ∀ b, b < 15 → a ≠ b → (TX10 a).2.1 ≠ (TX10 b).2.1 := by decide +kernel
theorem tyX10_ok : ∀ k, k < 15 → parseFieldDescriptor (TX10 k).2.2.1 = some (tyX10 k) := by decide +kernel
abbrev cX10_init : ByteArray := prog_12_method_1_code
def yX10_init : MethodName := ⟨RX10, "<init>", "()V"⟩
abbrev cX10_empty : ByteArray := prog_12_method_2_code
def yX10_empty : MethodName := ⟨RX10, "empty", "()V"⟩
abbrev cX10_addThing : ByteArray := prog_12_method_3_code
def yX10_addThing : MethodName := ⟨RX10, "addThing", "(JI)V"⟩
abbrev cX10_addPlan : ByteArray := prog_12_method_4_code
def yX10_addPlan : MethodName := ⟨RX10, "addPlan", "(JI)V"⟩
abbrev cX10_addTwo : ByteArray := prog_12_method_5_code
def yX10_addTwo : MethodName := ⟨RX10, "addTwo", "(II)I"⟩
abbrev cX10_setWay : ByteArray := prog_12_method_6_code
def yX10_setWay : MethodName := ⟨RX10, "setWay", "(III)V"⟩
abbrev cX10_addToRow : ByteArray := prog_12_method_7_code
def yX10_addToRow : MethodName := ⟨RX10, "addToRow", "(I)V"⟩
abbrev cX10_rowBits : ByteArray := prog_12_method_8_code
def yX10_rowBits : MethodName := ⟨RX10, "rowBits", "()I"⟩
abbrev cX10_completeRow : ByteArray := prog_12_method_9_code
def yX10_completeRow : MethodName := ⟨RX10, "completeRow", "()V"⟩
abbrev cX10_thingOf : ByteArray := prog_12_method_10_code
def yX10_thingOf : MethodName := ⟨RX10, "thingOf", "(J)I"⟩
abbrev cX10_planOf : ByteArray := prog_12_method_11_code
def yX10_planOf : MethodName := ⟨RX10, "planOf", "(J)I"⟩
abbrev cX10_hasThing : ByteArray := prog_12_method_12_code
def yX10_hasThing : MethodName := ⟨RX10, "hasThing", "(I)Z"⟩
abbrev cX10_hasTwo : ByteArray := prog_12_method_13_code
def yX10_hasTwo : MethodName := ⟨RX10, "hasTwo", "(II)Z"⟩
abbrev cX10_hasHeaps : ByteArray := prog_12_method_14_code
def yX10_hasHeaps : MethodName := ⟨RX10, "hasHeaps", "(II)Z"⟩
abbrev cX10_isHeap : ByteArray := prog_12_method_15_code
def yX10_isHeap : MethodName := ⟨RX10, "isHeap", "(I)Z"⟩
abbrev cX10_hasGoal : ByteArray := prog_12_method_16_code
def yX10_hasGoal : MethodName := ⟨RX10, "hasGoal", "(II)Z"⟩
def RX11 : String := "HeavierRow"
def TX11 : u_T := fun k => match k with
  | 0 => ("HeavierRow", "tape", "[B", true)
  | 1 => ("HeavierRow", "bytes", "I", false)
  | 2 => ("HeavierRow", "faultKind", "I", false)
  | 3 => ("HeavierRow", "faultPlace", "I", false)
  | 4 => ("HeavierRow", "town", "LHeavierRow$Street;", false)
  | 5 => ("HeavierRow", "spare", "LHeavierRow$Street;", false)
  | 6 => ("HeavierRow", "reader", "LHeavierRow$Reader;", true)
  | 7 => ("HeavierRow", "book", "LHeavierRow$Book;", true)
  | 8 => ("HeavierRow", "boxes", "[LHeavierRow$Book;", true)
  | 9 => ("HeavierRow", "orders", "LHeavierRow$Orders;", true)
  | 10 => ("HeavierRow", "search", "LHeavierRow$Search;", true)
  | 11 => ("HeavierRow", "once", "LHeavierRow$Once;", true)
  | 12 => ("HeavierRow", "liar", "LHeavierRow$Liar;", true)
  | 13 => ("HeavierRow", "judge", "LHeavierRow$Judge;", true)
  | 14 => ("HeavierRow", "guesses", "LHeavierRow$Guesses;", true)
  | _ => ("HeavierRow", "shelf", "LHeavierRow$Shelf;", true)
def tyX11 : Nat → FieldType := fun k => match k with
  | 0 => .array .byte
  | 1 => .int
  | 2 => .int
  | 3 => .int
  | 4 => .object "HeavierRow$Street"
  | 5 => .object "HeavierRow$Street"
  | 6 => .object "HeavierRow$Reader"
  | 7 => .object "HeavierRow$Book"
  | 8 => .array (.object "HeavierRow$Book")
  | 9 => .object "HeavierRow$Orders"
  | 10 => .object "HeavierRow$Search"
  | 11 => .object "HeavierRow$Once"
  | 12 => .object "HeavierRow$Liar"
  | 13 => .object "HeavierRow$Judge"
  | 14 => .object "HeavierRow$Guesses"
  | _ => .object "HeavierRow$Shelf"
abbrev wsX110 : List Cond := u_ws RX11 TX11 16
theorem nmX11 : ∀ a, a < 16 → ∀ b, b < 16 → a ≠ b → (TX11 a).2.1 ≠ (TX11 b).2.1 := by decide +kernel
theorem tyX11_ok : ∀ k, k < 16 → parseFieldDescriptor (TX11 k).2.2.1 = some (tyX11 k) := by decide +kernel
abbrev cX11_init : ByteArray := prog_1_method_1_code
def yX11_init : MethodName := ⟨RX11, "<init>", "()V"⟩
abbrev cX11_feed : ByteArray := prog_1_method_2_code
def yX11_feed : MethodName := ⟨RX11, "feed", "(IIIII)I"⟩
abbrev cX11_putBytes : ByteArray := prog_1_method_3_code
def yX11_putBytes : MethodName := ⟨RX11, "putBytes", "(I)V"⟩
abbrev cX11_end : ByteArray := prog_1_method_4_code
def yX11_end : MethodName := ⟨RX11, "end", "(I)I"⟩
abbrev cX11_street : ByteArray := prog_1_method_5_code
def yX11_street : MethodName := ⟨RX11, "street", "()I"⟩
abbrev cX11_fault : ByteArray := prog_1_method_6_code
def yX11_fault : MethodName := ⟨RX11, "fault", "(I)I"⟩
abbrev cX11_weigh : ByteArray := prog_1_method_7_code
def yX11_weigh : MethodName := ⟨RX11, "weigh", "(II)I"⟩
abbrev cX11_told : ByteArray := prog_1_method_8_code
def yX11_told : MethodName := ⟨RX11, "told", "(III)I"⟩
abbrev cX11_weighing : ByteArray := prog_1_method_9_code
def yX11_weighing : MethodName := ⟨RX11, "weighing", "(II)I"⟩
abbrev cX11_wet : ByteArray := prog_1_method_10_code
def yX11_wet : MethodName := ⟨RX11, "wet", "()I"⟩
abbrev cX11_untell : ByteArray := prog_1_method_11_code
def yX11_untell : MethodName := ⟨RX11, "untell", "(I)Z"⟩
abbrev cX11_later : ByteArray := prog_1_method_12_code
def yX11_later : MethodName := ⟨RX11, "later", "(I)I"⟩
abbrev cX11_left : ByteArray := prog_1_method_13_code
def yX11_left : MethodName := ⟨RX11, "left", "(II)I"⟩
abbrev cX11_shelvePlaces : ByteArray := prog_1_method_14_code
def yX11_shelvePlaces : MethodName := ⟨RX11, "shelvePlaces", "(I)V"⟩
abbrev cX11_struck : ByteArray := prog_1_method_15_code
def yX11_struck : MethodName := ⟨RX11, "struck", "(I)I"⟩
abbrev cX11_place : ByteArray := prog_1_method_16_code
def yX11_place : MethodName := ⟨RX11, "place", "(IZI)I"⟩
abbrev cX11_stand : ByteArray := prog_1_method_17_code
def yX11_stand : MethodName := ⟨RX11, "stand", "(IZI)I"⟩
abbrev cX11_surely : ByteArray := prog_1_method_18_code
def yX11_surely : MethodName := ⟨RX11, "surely", "(III)I"⟩
abbrev cX11_prepare : ByteArray := prog_1_method_19_code
def yX11_prepare : MethodName := ⟨RX11, "prepare", "(III)I"⟩
abbrev cX11_fewest : ByteArray := prog_1_method_20_code
def yX11_fewest : MethodName := ⟨RX11, "fewest", "(III)I"⟩
abbrev cX11_next : ByteArray := prog_1_method_21_code
def yX11_next : MethodName := ⟨RX11, "next", "(III)I"⟩
abbrev cX11_total : ByteArray := prog_1_method_22_code
def yX11_total : MethodName := ⟨RX11, "total", "(IIII)I"⟩
abbrev cX11_atOnce : ByteArray := prog_1_method_23_code
def yX11_atOnce : MethodName := ⟨RX11, "atOnce", "(III)I"⟩
abbrev cX11_answers : ByteArray := prog_1_method_24_code
def yX11_answers : MethodName := ⟨RX11, "answers", "(IIII)I"⟩
abbrev cX11_judged : ByteArray := prog_1_method_25_code
def yX11_judged : MethodName := ⟨RX11, "judged", "(IIIII)I"⟩
abbrev cX11_trusty : ByteArray := prog_1_method_26_code
def yX11_trusty : MethodName := ⟨RX11, "trusty", "(III)I"⟩
abbrev cX11_odds : ByteArray := prog_1_method_27_code
def yX11_odds : MethodName := ⟨RX11, "odds", "(IIII)I"⟩
abbrev cX11_evenest : ByteArray := prog_1_method_28_code
def yX11_evenest : MethodName := ⟨RX11, "evenest", "(I)I"⟩
abbrev cX11_covers : ByteArray := prog_1_method_29_code
def yX11_covers : MethodName := ⟨RX11, "covers", "(I)I"⟩
abbrev cX11_sits : ByteArray := prog_1_method_30_code
def yX11_sits : MethodName := ⟨RX11, "sits", "(III)I"⟩
abbrev cX11_led : ByteArray := prog_1_method_31_code
def yX11_led : MethodName := ⟨RX11, "led", "(III)I"⟩
abbrev cX11_doubts : ByteArray := prog_1_method_32_code
def yX11_doubts : MethodName := ⟨RX11, "doubts", "(I)I"⟩
abbrev cX11_twins : ByteArray := prog_1_method_33_code
def yX11_twins : MethodName := ⟨RX11, "twins", "(II)I"⟩
abbrev cX11_ladder : ByteArray := prog_1_method_34_code
def yX11_ladder : MethodName := ⟨RX11, "ladder", "(ZI)I"⟩
abbrev cX11_bound : ByteArray := prog_1_method_35_code
def yX11_bound : MethodName := ⟨RX11, "bound", "(I)I"⟩
abbrev cX11_swapped : ByteArray := prog_1_method_36_code
def yX11_swapped : MethodName := ⟨RX11, "swapped", "(II)I"⟩
abbrev cX11_clerk : ByteArray := prog_1_method_37_code
def yX11_clerk : MethodName := ⟨RX11, "clerk", "(I)I"⟩
abbrev cX11_weights : ByteArray := prog_1_method_38_code
def yX11_weights : MethodName := ⟨RX11, "weights", "(I)I"⟩
abbrev cX11_weight : ByteArray := prog_1_method_39_code
def yX11_weight : MethodName := ⟨RX11, "weight", "(IZI)I"⟩
abbrev cX11_could : ByteArray := prog_1_method_40_code
def yX11_could : MethodName := ⟨RX11, "could", "(III)I"⟩
abbrev cX11_stones : ByteArray := prog_1_method_41_code
def yX11_stones : MethodName := ⟨RX11, "stones", "(IZ)I"⟩
abbrev cX11_heaps : ByteArray := prog_1_method_42_code
def yX11_heaps : MethodName := ⟨RX11, "heaps", "(II)I"⟩
abbrev cX11_lies : ByteArray := prog_1_method_43_code
def yX11_lies : MethodName := ⟨RX11, "lies", "(I)I"⟩
abbrev cX11_image : ByteArray := prog_1_method_44_code
def yX11_image : MethodName := ⟨RX11, "image", "(I)I"⟩
abbrev cX11_back : ByteArray := prog_1_method_45_code
def yX11_back : MethodName := ⟨RX11, "back", "(I)I"⟩
abbrev cX11_about : ByteArray := prog_1_method_46_code
def yX11_about : MethodName := ⟨RX11, "about", "(I)I"⟩
def RX12 : String := "HeavierRowModel"
def TX12 : u_T := fun k => match k with
  | 0 => ("HeavierRowModel", "tape", "[B", true)
  | 1 => ("HeavierRowModel", "text", "[B", true)
  | 2 => ("HeavierRowModel", "taped", "I", false)
  | 3 => ("HeavierRowModel", "size", "I", false)
  | 4 => ("HeavierRowModel", "faultKind", "I", false)
  | 5 => ("HeavierRowModel", "faultPlace", "I", false)
  | 6 => ("HeavierRowModel", "at", "I", false)
  | 7 => ("HeavierRowModel", "end", "I", false)
  | 8 => ("HeavierRowModel", "token", "I", false)
  | 9 => ("HeavierRowModel", "number", "I", false)
  | 10 => ("HeavierRowModel", "name", "J", false)
  | 11 => ("HeavierRowModel", "things", "[I", true)
  | 12 => ("HeavierRowModel", "sticks", "[I", true)
  | 13 => ("HeavierRowModel", "rowMany", "[I", true)
  | 14 => ("HeavierRowModel", "row", "[I", true)
  | 15 => ("HeavierRowModel", "heavy", "[I", true)
  | 16 => ("HeavierRowModel", "isTwins", "[Z", true)
  | 17 => ("HeavierRowModel", "isSticks", "[Z", true)
  | 18 => ("HeavierRowModel", "isRow", "[Z", true)
  | 19 => ("HeavierRowModel", "tName", "[J", true)
  | 20 => ("HeavierRowModel", "pName", "[J", true)
  | 21 => ("HeavierRowModel", "plans", "[I", true)
  | 22 => ("HeavierRowModel", "twos", "[I", true)
  | 23 => ("HeavierRowModel", "planFrom", "[I", true)
  | 24 => ("HeavierRowModel", "twoA", "[I", true)
  | 25 => ("HeavierRowModel", "twoB", "[I", true)
  | 26 => ("HeavierRowModel", "goesTo", "[I", true)
  | 27 => ("HeavierRowModel", "openTwo", "[I", true)
  | 28 => ("HeavierRowModel", "openWay", "[I", true)
  | 29 => ("HeavierRowModel", "opened", "I", false)
  | 30 => ("HeavierRowModel", "bank", "I", false)
  | 31 => ("HeavierRowModel", "rb", "I", false)
  | 32 => ("HeavierRowModel", "placeOf", "[I", true)
  | 33 => ("HeavierRowModel", "tried", "[I", true)
  | 34 => ("HeavierRowModel", "orders", "I", false)
  | 35 => ("HeavierRowModel", "wFirst", "[I", true)
  | 36 => ("HeavierRowModel", "wSecond", "[I", true)
  | 37 => ("HeavierRowModel", "wSaid", "[I", true)
  | 38 => ("HeavierRowModel", "wTold", "[I", true)
  | 39 => ("HeavierRowModel", "wUntold", "[I", true)
  | 40 => ("HeavierRowModel", "wetTime", "[I", true)
  | 41 => ("HeavierRowModel", "wetMany", "[I", true)
  | 42 => ("HeavierRowModel", "hidden", "[I", true)
  | 43 => ("HeavierRowModel", "ranked", "[I", true)
  | 44 => ("HeavierRowModel", "many", "I", false)
  | 45 => ("HeavierRowModel", "time", "I", false)
  | 46 => ("HeavierRowModel", "wets", "I", false)
  | 47 => ("HeavierRowModel", "seed", "I", false)
  | 48 => ("HeavierRowModel", "leftList", "[I", true)
  | 49 => ("HeavierRowModel", "goalOf", "[I", true)
  | 50 => ("HeavierRowModel", "endOf", "[I", true)
  | 51 => ("HeavierRowModel", "stepsOf", "[I", true)
  | 52 => ("HeavierRowModel", "laidRow", "[I", true)
  | 53 => ("HeavierRowModel", "leftMany", "I", false)
  | 54 => ("HeavierRowModel", "laid", "I", false)
  | 55 => ("HeavierRowModel", "pairA", "[I", true)
  | 56 => ("HeavierRowModel", "pairB", "[I", true)
  | 57 => ("HeavierRowModel", "saysLow", "[J", true)
  | 58 => ("HeavierRowModel", "saysHigh", "[J", true)
  | 59 => ("HeavierRowModel", "pairs", "I", false)
  | 60 => ("HeavierRowModel", "keyLow", "[J", true)
  | 61 => ("HeavierRowModel", "keyHigh", "[J", true)
  | 62 => ("HeavierRowModel", "needs", "[I", true)
  | 63 => ("HeavierRowModel", "levelLow", "[J", true)
  | 64 => ("HeavierRowModel", "levelHigh", "[J", true)
  | 65 => ("HeavierRowModel", "levelPair", "[I", true)
  | 66 => ("HeavierRowModel", "levelSaid", "[I", true)
  | 67 => ("HeavierRowModel", "levelSum", "[I", true)
  | 68 => ("HeavierRowModel", "levelParts", "[I", true)
  | 69 => ("HeavierRowModel", "levelBest", "[I", true)
  | 70 => ("HeavierRowModel", "level", "I", false)
  | 71 => ("HeavierRowModel", "firstPair", "I", false)
  | 72 => ("HeavierRowModel", "isWhole", "Z", false)
  | 73 => ("HeavierRowModel", "isShort", "[Z", true)
  | 74 => ("HeavierRowModel", "within", "[I", true)
  | 75 => ("HeavierRowModel", "weightOf", "[I", true)
  | 76 => ("HeavierRowModel", "leastOf", "[I", true)
  | 77 => ("HeavierRowModel", "mostOf", "[I", true)
  | 78 => ("HeavierRowModel", "firstOf", "[I", true)
  | 79 => ("HeavierRowModel", "saysMany", "[I", true)
  | 80 => ("HeavierRowModel", "stone", "[I", true)
  | 81 => ("HeavierRowModel", "isMade", "[Z", true)
  | 82 => ("HeavierRowModel", "fitRow", "[I", true)
  | 83 => ("HeavierRowModel", "boxMany", "[I", true)
  | 84 => ("HeavierRowModel", "boxTime", "[I", true)
  | 85 => ("HeavierRowModel", "boxRow", "[I", true)
  | 86 => ("HeavierRowModel", "boxWets", "[I", true)
  | 87 => ("HeavierRowModel", "boxSeed", "[I", true)
  | 88 => ("HeavierRowModel", "boxHidden", "[I", true)
  | _ => ("HeavierRowModel", "boxWetRow", "[I", true)
def tyX12 : Nat → FieldType := fun k => match k with
  | 0 => .array .byte
  | 1 => .array .byte
  | 2 => .int
  | 3 => .int
  | 4 => .int
  | 5 => .int
  | 6 => .int
  | 7 => .int
  | 8 => .int
  | 9 => .int
  | 10 => .long
  | 11 => .array .int
  | 12 => .array .int
  | 13 => .array .int
  | 14 => .array .int
  | 15 => .array .int
  | 16 => .array .boolean
  | 17 => .array .boolean
  | 18 => .array .boolean
  | 19 => .array .long
  | 20 => .array .long
  | 21 => .array .int
  | 22 => .array .int
  | 23 => .array .int
  | 24 => .array .int
  | 25 => .array .int
  | 26 => .array .int
  | 27 => .array .int
  | 28 => .array .int
  | 29 => .int
  | 30 => .int
  | 31 => .int
  | 32 => .array .int
  | 33 => .array .int
  | 34 => .int
  | 35 => .array .int
  | 36 => .array .int
  | 37 => .array .int
  | 38 => .array .int
  | 39 => .array .int
  | 40 => .array .int
  | 41 => .array .int
  | 42 => .array .int
  | 43 => .array .int
  | 44 => .int
  | 45 => .int
  | 46 => .int
  | 47 => .int
  | 48 => .array .int
  | 49 => .array .int
  | 50 => .array .int
  | 51 => .array .int
  | 52 => .array .int
  | 53 => .int
  | 54 => .int
  | 55 => .array .int
  | 56 => .array .int
  | 57 => .array .long
  | 58 => .array .long
  | 59 => .int
  | 60 => .array .long
  | 61 => .array .long
  | 62 => .array .int
  | 63 => .array .long
  | 64 => .array .long
  | 65 => .array .int
  | 66 => .array .int
  | 67 => .array .int
  | 68 => .array .int
  | 69 => .array .int
  | 70 => .int
  | 71 => .int
  | 72 => .boolean
  | 73 => .array .boolean
  | 74 => .array .int
  | 75 => .array .int
  | 76 => .array .int
  | 77 => .array .int
  | 78 => .array .int
  | 79 => .array .int
  | 80 => .array .int
  | 81 => .array .boolean
  | 82 => .array .int
  | 83 => .array .int
  | 84 => .array .int
  | 85 => .array .int
  | 86 => .array .int
  | 87 => .array .int
  | 88 => .array .int
  | _ => .array .int
abbrev wsX120 : List Cond := u_ws RX12 TX12 90
theorem nmX12 : ∀ a, a < 90 → ∀ b, b < 90 → a ≠ b → (TX12 a).2.1 ≠ (TX12 b).2.1 := by decide +kernel
theorem tyX12_ok : ∀ k, k < 90 → parseFieldDescriptor (TX12 k).2.2.1 = some (tyX12 k) := by decide +kernel
abbrev cX12_init : ByteArray := prog_14_method_1_code
def yX12_init : MethodName := ⟨RX12, "<init>", "()V"⟩
abbrev cX12_sign : ByteArray := prog_14_method_2_code
def yX12_sign : MethodName := ⟨RX12, "sign", "(I)I"⟩
abbrev cX12_isLetter : ByteArray := prog_14_method_3_code
def yX12_isLetter : MethodName := ⟨RX12, "isLetter", "(I)Z"⟩
abbrev cX12_isDigit : ByteArray := prog_14_method_4_code
def yX12_isDigit : MethodName := ⟨RX12, "isDigit", "(I)Z"⟩
abbrev cX12_fails : ByteArray := prog_14_method_5_code
def yX12_fails : MethodName := ⟨RX12, "fails", "(II)V"⟩
abbrev cX12_isGood : ByteArray := prog_14_method_6_code
def yX12_isGood : MethodName := ⟨RX12, "isGood", "()Z"⟩
abbrev cX12_isKept : ByteArray := prog_14_method_7_code
def yX12_isKept : MethodName := ⟨RX12, "isKept", "(J)Z"⟩
abbrev cX12_goOn : ByteArray := prog_14_method_8_code
def yX12_goOn : MethodName := ⟨RX12, "goOn", "()V"⟩
abbrev cX12_isSignHere : ByteArray := prog_14_method_9_code
def yX12_isSignHere : MethodName := ⟨RX12, "isSignHere", "(I)Z"⟩
abbrev cX12_isWord : ByteArray := prog_14_method_10_code
def yX12_isWord : MethodName := ⟨RX12, "isWord", "(J)Z"⟩
abbrev cX12_misplaced : ByteArray := prog_14_method_11_code
def yX12_misplaced : MethodName := ⟨RX12, "misplaced", "()V"⟩
abbrev cX12_must : ByteArray := prog_14_method_12_code
def yX12_must : MethodName := ⟨RX12, "must", "(Z)V"⟩
abbrev cX12_numeral : ByteArray := prog_14_method_13_code
def yX12_numeral : MethodName := ⟨RX12, "numeral", "(II)I"⟩
abbrev cX12_clearBank : ByteArray := prog_14_method_14_code
def yX12_clearBank : MethodName := ⟨RX12, "clearBank", "()V"⟩
abbrev cX12_street : ByteArray := prog_14_method_15_code
def yX12_street : MethodName := ⟨RX12, "street", "()I"⟩
abbrev cX12_isFull : ByteArray := prog_14_method_16_code
def yX12_isFull : MethodName := ⟨RX12, "isFull", "()Z"⟩
abbrev cX12_thingHere : ByteArray := prog_14_method_17_code
def yX12_thingHere : MethodName := ⟨RX12, "thingHere", "()I"⟩
abbrev cX12_readLine : ByteArray := prog_14_method_18_code
def yX12_readLine : MethodName := ⟨RX12, "readLine", "()V"⟩
abbrev cX12_readThing : ByteArray := prog_14_method_19_code
def yX12_readThing : MethodName := ⟨RX12, "readThing", "()V"⟩
abbrev cX12_isInRow : ByteArray := prog_14_method_20_code
def yX12_isInRow : MethodName := ⟨RX12, "isInRow", "(I)Z"⟩
abbrev cX12_readRow : ByteArray := prog_14_method_21_code
def yX12_readRow : MethodName := ⟨RX12, "readRow", "()V"⟩
abbrev cX12_planHere : ByteArray := prog_14_method_22_code
def yX12_planHere : MethodName := ⟨RX12, "planHere", "()I"⟩
abbrev cX12_readPlan : ByteArray := prog_14_method_23_code
def yX12_readPlan : MethodName := ⟨RX12, "readPlan", "()V"⟩
abbrev cX12_readP : ByteArray := prog_14_method_24_code
def yX12_readP : MethodName := ⟨RX12, "readP", "()I"⟩
abbrev cX12_readTwo : ByteArray := prog_14_method_25_code
def yX12_readTwo : MethodName := ⟨RX12, "readTwo", "()V"⟩
abbrev cX12_closes : ByteArray := prog_14_method_26_code
def yX12_closes : MethodName := ⟨RX12, "closes", "(I)I"⟩
abbrev cX12_layClerk : ByteArray := prog_14_method_27_code
def yX12_layClerk : MethodName := ⟨RX12, "layClerk", "()V"⟩
abbrev cX12_fault : ByteArray := prog_14_method_28_code
def yX12_fault : MethodName := ⟨RX12, "fault", "(I)I"⟩
abbrev cX12_isIn : ByteArray := prog_14_method_29_code
def yX12_isIn : MethodName := ⟨RX12, "isIn", "(III)Z"⟩
abbrev cX12_bitsOf : ByteArray := prog_14_method_30_code
def yX12_bitsOf : MethodName := ⟨RX12, "bitsOf", "(I)I"⟩
abbrev cX12_thingMany : ByteArray := prog_14_method_31_code
def yX12_thingMany : MethodName := ⟨RX12, "thingMany", "()I"⟩
abbrev cX12_isThing : ByteArray := prog_14_method_32_code
def yX12_isThing : MethodName := ⟨RX12, "isThing", "(I)Z"⟩
abbrev cX12_clerk : ByteArray := prog_14_method_33_code
def yX12_clerk : MethodName := ⟨RX12, "clerk", "(I)I"⟩
abbrev cX12_layOrders : ByteArray := prog_14_method_34_code
def yX12_layOrders : MethodName := ⟨RX12, "layOrders", "()V"⟩
abbrev cX12_isOrder : ByteArray := prog_14_method_35_code
def yX12_isOrder : MethodName := ⟨RX12, "isOrder", "()Z"⟩
abbrev cX12_saidBy : ByteArray := prog_14_method_36_code
def yX12_saidBy : MethodName := ⟨RX12, "saidBy", "(III)I"⟩
abbrev cX12_areHeaps : ByteArray := prog_14_method_37_code
def yX12_areHeaps : MethodName := ⟨RX12, "areHeaps", "(II)Z"⟩
abbrev cX12_add : ByteArray := prog_14_method_38_code
def yX12_add : MethodName := ⟨RX12, "add", "(III)V"⟩
abbrev cX12_weigh : ByteArray := prog_14_method_39_code
def yX12_weigh : MethodName := ⟨RX12, "weigh", "(II)I"⟩
abbrev cX12_saysBy : ByteArray := prog_14_method_40_code
def yX12_saysBy : MethodName := ⟨RX12, "saysBy", "(I)I"⟩
abbrev cX12_told : ByteArray := prog_14_method_41_code
def yX12_told : MethodName := ⟨RX12, "told", "(III)I"⟩
abbrev cX12_weighing : ByteArray := prog_14_method_42_code
def yX12_weighing : MethodName := ⟨RX12, "weighing", "(II)I"⟩
abbrev cX12_wet : ByteArray := prog_14_method_43_code
def yX12_wet : MethodName := ⟨RX12, "wet", "()I"⟩
abbrev cX12_untell : ByteArray := prog_14_method_44_code
def yX12_untell : MethodName := ⟨RX12, "untell", "(I)Z"⟩
abbrev cX12_later : ByteArray := prog_14_method_45_code
def yX12_later : MethodName := ⟨RX12, "later", "(I)I"⟩
abbrev cX12_counts : ByteArray := prog_14_method_46_code
def yX12_counts : MethodName := ⟨RX12, "counts", "(II)Z"⟩
abbrev cX12_isSingle : ByteArray := prog_14_method_47_code
def yX12_isSingle : MethodName := ⟨RX12, "isSingle", "(I)Z"⟩
abbrev cX12_lowest : ByteArray := prog_14_method_48_code
def yX12_lowest : MethodName := ⟨RX12, "lowest", "(I)I"⟩
abbrev cX12_wrongBy : ByteArray := prog_14_method_49_code
def yX12_wrongBy : MethodName := ⟨RX12, "wrongBy", "(II)I"⟩
abbrev cX12_lies : ByteArray := prog_14_method_50_code
def yX12_lies : MethodName := ⟨RX12, "lies", "(I)I"⟩
abbrev cX12_layLeft : ByteArray := prog_14_method_51_code
def yX12_layLeft : MethodName := ⟨RX12, "layLeft", "(II)V"⟩
abbrev cX12_layPlaces : ByteArray := prog_14_method_52_code
def yX12_layPlaces : MethodName := ⟨RX12, "layPlaces", "(I)V"⟩
abbrev cX12_left : ByteArray := prog_14_method_53_code
def yX12_left : MethodName := ⟨RX12, "left", "(II)I"⟩
abbrev cX12_struck : ByteArray := prog_14_method_54_code
def yX12_struck : MethodName := ⟨RX12, "struck", "(I)I"⟩
abbrev cX12_hasLeft : ByteArray := prog_14_method_55_code
def yX12_hasLeft : MethodName := ⟨RX12, "hasLeft", "(I)Z"⟩
abbrev cX12_placeLeft : ByteArray := prog_14_method_56_code
def yX12_placeLeft : MethodName := ⟨RX12, "placeLeft", "(II)I"⟩
abbrev cX12_place : ByteArray := prog_14_method_57_code
def yX12_place : MethodName := ⟨RX12, "place", "(IZI)I"⟩
abbrev cX12_stand : ByteArray := prog_14_method_58_code
def yX12_stand : MethodName := ⟨RX12, "stand", "(IZI)I"⟩
abbrev cX12_howMany : ByteArray := prog_14_method_59_code
def yX12_howMany : MethodName := ⟨RX12, "howMany", "(III)I"⟩
abbrev cX12_sureOf : ByteArray := prog_14_method_60_code
def yX12_sureOf : MethodName := ⟨RX12, "sureOf", "(II)I"⟩
abbrev cX12_areTwo : ByteArray := prog_14_method_61_code
def yX12_areTwo : MethodName := ⟨RX12, "areTwo", "(II)Z"⟩
abbrev cX12_surely : ByteArray := prog_14_method_62_code
def yX12_surely : MethodName := ⟨RX12, "surely", "(III)I"⟩
abbrev cX12_layPairs : ByteArray := prog_14_method_63_code
def yX12_layPairs : MethodName := ⟨RX12, "layPairs", "()V"⟩
abbrev cX12_isGoal : ByteArray := prog_14_method_64_code
def yX12_isGoal : MethodName := ⟨RX12, "isGoal", "(II)Z"⟩
abbrev cX12_layGoals : ByteArray := prog_14_method_65_code
def yX12_layGoals : MethodName := ⟨RX12, "layGoals", "(II)V"⟩
abbrev cX12_has : ByteArray := prog_14_method_66_code
def yX12_has : MethodName := ⟨RX12, "has", "(JJI)Z"⟩
abbrev cX12_sizeOf : ByteArray := prog_14_method_67_code
def yX12_sizeOf : MethodName := ⟨RX12, "sizeOf", "(JJ)I"⟩
abbrev cX12_isCome : ByteArray := prog_14_method_68_code
def yX12_isCome : MethodName := ⟨RX12, "isCome", "(JJ)Z"⟩
abbrev cX12_clearTable : ByteArray := prog_14_method_69_code
def yX12_clearTable : MethodName := ⟨RX12, "clearTable", "()V"⟩
abbrev cX12_slot : ByteArray := prog_14_method_70_code
def yX12_slot : MethodName := ⟨RX12, "slot", "(JJ)I"⟩
abbrev cX12_meets : ByteArray := prog_14_method_71_code
def yX12_meets : MethodName := ⟨RX12, "meets", "(JJI)V"⟩
abbrev cX12_known : ByteArray := prog_14_method_72_code
def yX12_known : MethodName := ⟨RX12, "known", "(JJ)I"⟩
abbrev cX12_enter : ByteArray := prog_14_method_73_code
def yX12_enter : MethodName := ⟨RX12, "enter", "(JJ)V"⟩
abbrev cX12_beginPair : ByteArray := prog_14_method_74_code
def yX12_beginPair : MethodName := ⟨RX12, "beginPair", "()V"⟩
abbrev cX12_takes : ByteArray := prog_14_method_75_code
def yX12_takes : MethodName := ⟨RX12, "takes", "(I)V"⟩
abbrev cX12_endPair : ByteArray := prog_14_method_76_code
def yX12_endPair : MethodName := ⟨RX12, "endPair", "()V"⟩
abbrev cX12_solves : ByteArray := prog_14_method_77_code
def yX12_solves : MethodName := ⟨RX12, "solves", "(Z)I"⟩
abbrev cX12_goesOn : ByteArray := prog_14_method_78_code
def yX12_goesOn : MethodName := ⟨RX12, "goesOn", "()V"⟩
abbrev cX12_layGoal : ByteArray := prog_14_method_79_code
def yX12_layGoal : MethodName := ⟨RX12, "layGoal", "(III)Z"⟩
abbrev cX12_pairNumber : ByteArray := prog_14_method_80_code
def yX12_pairNumber : MethodName := ⟨RX12, "pairNumber", "()I"⟩
abbrev cX12_fewest : ByteArray := prog_14_method_81_code
def yX12_fewest : MethodName := ⟨RX12, "fewest", "(III)I"⟩
abbrev cX12_next : ByteArray := prog_14_method_82_code
def yX12_next : MethodName := ⟨RX12, "next", "(III)I"⟩
abbrev cX12_total : ByteArray := prog_14_method_83_code
def yX12_total : MethodName := ⟨RX12, "total", "(IIII)I"⟩
abbrev cX12_answerOf : ByteArray := prog_14_method_84_code
def yX12_answerOf : MethodName := ⟨RX12, "answerOf", "(II)I"⟩
abbrev cX12_answers : ByteArray := prog_14_method_85_code
def yX12_answers : MethodName := ⟨RX12, "answers", "(IIII)I"⟩
abbrev cX12_goesThrough : ByteArray := prog_14_method_86_code
def yX12_goesThrough : MethodName := ⟨RX12, "goesThrough", "(II)V"⟩
abbrev cX12_judged : ByteArray := prog_14_method_87_code
def yX12_judged : MethodName := ⟨RX12, "judged", "(IIIII)I"⟩
abbrev cX12_unlikeBy : ByteArray := prog_14_method_88_code
def yX12_unlikeBy : MethodName := ⟨RX12, "unlikeBy", "(II)I"⟩
abbrev cX12_atOnce : ByteArray := prog_14_method_89_code
def yX12_atOnce : MethodName := ⟨RX12, "atOnce", "(III)I"⟩
abbrev cX12_statusOf : ByteArray := prog_14_method_90_code
def yX12_statusOf : MethodName := ⟨RX12, "statusOf", "(II)I"⟩
abbrev cX12_isComeBy : ByteArray := prog_14_method_91_code
def yX12_isComeBy : MethodName := ⟨RX12, "isComeBy", "(I)Z"⟩
abbrev cX12_behind : ByteArray := prog_14_method_92_code
def yX12_behind : MethodName := ⟨RX12, "behind", "(III)I"⟩
abbrev cX12_canBy : ByteArray := prog_14_method_93_code
def yX12_canBy : MethodName := ⟨RX12, "canBy", "(II)Z"⟩
abbrev cX12_trusty : ByteArray := prog_14_method_94_code
def yX12_trusty : MethodName := ⟨RX12, "trusty", "(III)I"⟩
abbrev cX12_odds : ByteArray := prog_14_method_95_code
def yX12_odds : MethodName := ⟨RX12, "odds", "(IIII)I"⟩
abbrev cX12_evenest : ByteArray := prog_14_method_96_code
def yX12_evenest : MethodName := ⟨RX12, "evenest", "(I)I"⟩
abbrev cX12_isHeavier : ByteArray := prog_14_method_97_code
def yX12_isHeavier : MethodName := ⟨RX12, "isHeavier", "(II)Z"⟩
abbrev cX12_isDirect : ByteArray := prog_14_method_98_code
def yX12_isDirect : MethodName := ⟨RX12, "isDirect", "(II)Z"⟩
abbrev cX12_covers : ByteArray := prog_14_method_99_code
def yX12_covers : MethodName := ⟨RX12, "covers", "(I)I"⟩
abbrev cX12_sits : ByteArray := prog_14_method_100_code
def yX12_sits : MethodName := ⟨RX12, "sits", "(III)I"⟩
abbrev cX12_twins : ByteArray := prog_14_method_101_code
def yX12_twins : MethodName := ⟨RX12, "twins", "(II)I"⟩
abbrev cX12_led : ByteArray := prog_14_method_102_code
def yX12_led : MethodName := ⟨RX12, "led", "(III)I"⟩
abbrev cX12_placeInRow : ByteArray := prog_14_method_103_code
def yX12_placeInRow : MethodName := ⟨RX12, "placeInRow", "(I)I"⟩
abbrev cX12_doubts : ByteArray := prog_14_method_104_code
def yX12_doubts : MethodName := ⟨RX12, "doubts", "(I)I"⟩
abbrev cX12_isLadder : ByteArray := prog_14_method_105_code
def yX12_isLadder : MethodName := ⟨RX12, "isLadder", "(IZ)Z"⟩
abbrev cX12_ladder : ByteArray := prog_14_method_106_code
def yX12_ladder : MethodName := ⟨RX12, "ladder", "(ZI)I"⟩
abbrev cX12_bound : ByteArray := prog_14_method_107_code
def yX12_bound : MethodName := ⟨RX12, "bound", "(I)I"⟩
abbrev cX12_orderOf : ByteArray := prog_14_method_108_code
def yX12_orderOf : MethodName := ⟨RX12, "orderOf", "()I"⟩
abbrev cX12_laySwapped : ByteArray := prog_14_method_109_code
def yX12_laySwapped : MethodName := ⟨RX12, "laySwapped", "(I)V"⟩
abbrev cX12_swapped : ByteArray := prog_14_method_110_code
def yX12_swapped : MethodName := ⟨RX12, "swapped", "(II)I"⟩
abbrev cX12_weightRows : ByteArray := prog_14_method_111_code
def yX12_weightRows : MethodName := ⟨RX12, "weightRows", "()I"⟩
abbrev cX12_layWeights : ByteArray := prog_14_method_112_code
def yX12_layWeights : MethodName := ⟨RX12, "layWeights", "(I)V"⟩
abbrev cX12_saysOf : ByteArray := prog_14_method_113_code
def yX12_saysOf : MethodName := ⟨RX12, "saysOf", "(II)I"⟩
abbrev cX12_doFit : ByteArray := prog_14_method_114_code
def yX12_doFit : MethodName := ⟨RX12, "doFit", "(I)Z"⟩
abbrev cX12_countWeights : ByteArray := prog_14_method_115_code
def yX12_countWeights : MethodName := ⟨RX12, "countWeights", "(I)I"⟩
abbrev cX12_weights : ByteArray := prog_14_method_116_code
def yX12_weights : MethodName := ⟨RX12, "weights", "(I)I"⟩
abbrev cX12_weight : ByteArray := prog_14_method_117_code
def yX12_weight : MethodName := ⟨RX12, "weight", "(IZI)I"⟩
abbrev cX12_could : ByteArray := prog_14_method_118_code
def yX12_could : MethodName := ⟨RX12, "could", "(III)I"⟩
abbrev cX12_doReach : ByteArray := prog_14_method_119_code
def yX12_doReach : MethodName := ⟨RX12, "doReach", "(IIZ)Z"⟩
abbrev cX12_findStones : ByteArray := prog_14_method_120_code
def yX12_findStones : MethodName := ⟨RX12, "findStones", "(IIZ)Z"⟩
abbrev cX12_mostStone : ByteArray := prog_14_method_121_code
def yX12_mostStone : MethodName := ⟨RX12, "mostStone", "(IIZ)I"⟩
abbrev cX12_stones : ByteArray := prog_14_method_122_code
def yX12_stones : MethodName := ⟨RX12, "stones", "(IZ)I"⟩
abbrev cX12_worstOf : ByteArray := prog_14_method_123_code
def yX12_worstOf : MethodName := ⟨RX12, "worstOf", "(III)I"⟩
abbrev cX12_heaps : ByteArray := prog_14_method_124_code
def yX12_heaps : MethodName := ⟨RX12, "heaps", "(II)I"⟩
abbrev cX12_image : ByteArray := prog_14_method_125_code
def yX12_image : MethodName := ⟨RX12, "image", "(I)I"⟩
abbrev cX12_back : ByteArray := prog_14_method_126_code
def yX12_back : MethodName := ⟨RX12, "back", "(I)I"⟩
abbrev cX12_about : ByteArray := prog_14_method_127_code
def yX12_about : MethodName := ⟨RX12, "about", "(I)I"⟩
abbrev cX12_feed : ByteArray := prog_14_method_128_code
def yX12_feed : MethodName := ⟨RX12, "feed", "(IIIII)I"⟩
abbrev cX12_end : ByteArray := prog_14_method_129_code
def yX12_end : MethodName := ⟨RX12, "end", "(I)I"⟩
def RJ6 : String := "java/lang/Integer"
def TJ6 : u_T := fun k => match k with
  | _ => ("", "", "", false)
def tyJ6 : Nat → FieldType := fun k => match k with
  | _ => .int
abbrev wsJ60 : List Cond := u_ws RJ6 TJ6 0
theorem nmJ6 : ∀ a, a < 0 → ∀ b, b < 0 → a ≠ b → (TJ6 a).2.1 ≠ (TJ6 b).2.1 := by decide +kernel
theorem tyJ6_ok : ∀ k, k < 0 → parseFieldDescriptor (TJ6 k).2.2.1 = some (tyJ6 k) := by decide +kernel
abbrev cJ6_bitCount_0f7a4 : ByteArray := prog_15_method_49_code
def yJ6_bitCount_0f7a4 : MethodName := ⟨RJ6, "bitCount", "(I)I"⟩
def RJ13 : String := "java/lang/Long"
def TJ13 : u_T := fun k => match k with
  | _ => ("", "", "", false)
def tyJ13 : Nat → FieldType := fun k => match k with
  | _ => .int
abbrev wsJ130 : List Cond := u_ws RJ13 TJ13 0
theorem nmJ13 : ∀ a, a < 0 → ∀ b, b < 0 → a ≠ b → (TJ13 a).2.1 ≠ (TJ13 b).2.1 := by decide +kernel
theorem tyJ13_ok : ∀ k, k < 0 → parseFieldDescriptor (TJ13 k).2.2.1 = some (tyJ13 k) := by decide +kernel
abbrev cJ13_bitCount_95d88 : ByteArray := prog_16_method_50_code
def yJ13_bitCount_95d88 : MethodName := ⟨RJ13, "bitCount", "(J)I"⟩
def RJ9 : String := "java/lang/Math"
def TJ9 : u_T := fun k => match k with
  | _ => ("", "", "", false)
def tyJ9 : Nat → FieldType := fun k => match k with
  | _ => .int
abbrev wsJ90 : List Cond := u_ws RJ9 TJ9 0
theorem nmJ9 : ∀ a, a < 0 → ∀ b, b < 0 → a ≠ b → (TJ9 a).2.1 ≠ (TJ9 b).2.1 := by decide +kernel
theorem tyJ9_ok : ∀ k, k < 0 → parseFieldDescriptor (TJ9 k).2.2.1 = some (tyJ9 k) := by decide +kernel
abbrev cJ9_max_7cf53 : ByteArray := prog_17_method_65_code
def yJ9_max_7cf53 : MethodName := ⟨RJ9, "max", "(II)I"⟩
abbrev cJ9_min_7cf53 : ByteArray := prog_17_method_69_code
def yJ9_min_7cf53 : MethodName := ⟨RJ9, "min", "(II)I"⟩
def RJ0 : String := "java/lang/String"
def TJ0 : u_T := fun k => match k with
  | _ => ("", "", "", false)
def tyJ0 : Nat → FieldType := fun k => match k with
  | _ => .int
abbrev wsJ00 : List Cond := u_ws RJ0 TJ0 0
theorem nmJ0 : ∀ a, a < 0 → ∀ b, b < 0 → a ≠ b → (TJ0 a).2.1 ≠ (TJ0 b).2.1 := by decide +kernel
theorem tyJ0_ok : ∀ k, k < 0 → parseFieldDescriptor (TJ0 k).2.2.1 = some (tyJ0 k) := by decide +kernel
abbrev cJ0_length_8abf5 : ByteArray := prog_18_method_54_code
def yJ0_length_8abf5 : MethodName := ⟨RJ0, "length", "()I"⟩
abbrev cJ0_charAt_5068e : ByteArray := prog_18_method_56_code
def yJ0_charAt_5068e : MethodName := ⟨RJ0, "charAt", "(I)C"⟩
abbrev cJ0_coder_7d493 : ByteArray := prog_18_method_152_code
def yJ0_coder_7d493 : MethodName := ⟨RJ0, "coder", "()B"⟩
abbrev cJ0_isLatin1_aae02 : ByteArray := prog_18_method_154_code
def yJ0_isLatin1_aae02 : MethodName := ⟨RJ0, "isLatin1", "()Z"⟩
abbrev cJ0_checkIndex_df160 : ByteArray := prog_18_method_155_code
def yJ0_checkIndex_df160 : MethodName := ⟨RJ0, "checkIndex", "(II)V"⟩
def RJ1 : String := "java/lang/StringLatin1"
def TJ1 : u_T := fun k => match k with
  | _ => ("", "", "", false)
def tyJ1 : Nat → FieldType := fun k => match k with
  | _ => .int
abbrev wsJ10 : List Cond := u_ws RJ1 TJ1 0
theorem nmJ1 : ∀ a, a < 0 → ∀ b, b < 0 → a ≠ b → (TJ1 a).2.1 ≠ (TJ1 b).2.1 := by decide +kernel
theorem tyJ1_ok : ∀ k, k < 0 → parseFieldDescriptor (TJ1 k).2.2.1 = some (tyJ1 k) := by decide +kernel
abbrev cJ1_charAt_3b067 : ByteArray := prog_19_method_2_code
def yJ1_charAt_3b067 : MethodName := ⟨RJ1, "charAt", "([BI)C"⟩
def RJ2 : String := "java/lang/StringUTF16"
def TJ2 : u_T := fun k => match k with
  | _ => ("", "", "", false)
def tyJ2 : Nat → FieldType := fun k => match k with
  | _ => .int
abbrev wsJ20 : List Cond := u_ws RJ2 TJ2 0
theorem nmJ2 : ∀ a, a < 0 → ∀ b, b < 0 → a ≠ b → (TJ2 a).2.1 ≠ (TJ2 b).2.1 := by decide +kernel
theorem tyJ2_ok : ∀ k, k < 0 → parseFieldDescriptor (TJ2 k).2.2.1 = some (tyJ2 k) := by decide +kernel
abbrev cJ2_getChar_3b067 : ByteArray := prog_20_method_5_code
def yJ2_getChar_3b067 : MethodName := ⟨RJ2, "getChar", "([BI)C"⟩
abbrev cJ2_length_9d52b : ByteArray := prog_20_method_6_code
def yJ2_length_9d52b : MethodName := ⟨RJ2, "length", "([B)I"⟩
abbrev cJ2_charAt_3b067 : ByteArray := prog_20_method_83_code
def yJ2_charAt_3b067 : MethodName := ⟨RJ2, "charAt", "([BI)C"⟩
abbrev cJ2_checkIndex_2214a : ByteArray := prog_20_method_91_code
def yJ2_checkIndex_2214a : MethodName := ⟨RJ2, "checkIndex", "(I[B)V"⟩
def RJ3 : String := "jdk/internal/util/Preconditions"
def TJ3 : u_T := fun k => match k with
  | _ => ("", "", "", false)
def tyJ3 : Nat → FieldType := fun k => match k with
  | _ => .int
abbrev wsJ30 : List Cond := u_ws RJ3 TJ3 0
theorem nmJ3 : ∀ a, a < 0 → ∀ b, b < 0 → a ≠ b → (TJ3 a).2.1 ≠ (TJ3 b).2.1 := by decide +kernel
theorem tyJ3_ok : ∀ k, k < 0 → parseFieldDescriptor (TJ3 k).2.2.1 = some (tyJ3 k) := by decide +kernel
abbrev cJ3_checkIndex_8e157 : ByteArray := prog_21_method_11_code
def yJ3_checkIndex_8e157 : MethodName := ⟨RJ3, "checkIndex", "(IILjava/util/function/BiFunction;)I"⟩
def RL : String := "HeavierRowLaw"
abbrev cL_law : ByteArray := code
def yL_law : MethodName := ⟨RL, "law", "([I)Z"⟩
