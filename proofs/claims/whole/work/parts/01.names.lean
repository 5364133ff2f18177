-- ===== PART A: goes FIRST, ahead of the names: the tables' words, and 'selects' of the private methods out of them =====
/-- a private method of a class that the tables say can be made, by its rows of tables_1 -/
def lw_okq (q : MethodName × Nat) : Prop := (q.1.cls ≠ "java/lang/invoke/MethodHandle" ∧ q.1.cls ≠ "java/lang/invoke/VarHandle") ∧ Cond.instantiable q.1.cls q.2 ∈ tables_1 ∧ Cond.privateMethod q.1 ∈ tables_1 ∧ Cond.instanceMethod q.1 ∈ tables_1
theorem lw_p0 : lw_okq (⟨"EchoValley", "finding", "(I)I"⟩, 8) := ⟨⟨by decide +kernel, by decide +kernel⟩, List.mem_of_getElem? (i := 21) (by decide +kernel), List.mem_of_getElem? (i := 243) (by decide +kernel), List.mem_of_getElem? (i := 244) (by decide +kernel)⟩
theorem lw_p1 : lw_okq (⟨"EchoValley$Ways", "putHalf", "(IIZ)V"⟩, 1) := ⟨⟨by decide +kernel, by decide +kernel⟩, List.mem_of_getElem? (i := 35) (by decide +kernel), List.mem_of_getElem? (i := 259) (by decide +kernel), List.mem_of_getElem? (i := 260) (by decide +kernel)⟩
theorem lw_p2 : lw_okq (⟨"EchoValley$Ways", "spread", "(I)I"⟩, 1) := ⟨⟨by decide +kernel, by decide +kernel⟩, List.mem_of_getElem? (i := 35) (by decide +kernel), List.mem_of_getElem? (i := 271) (by decide +kernel), List.mem_of_getElem? (i := 272) (by decide +kernel)⟩
theorem lw_p3 : lw_okq (⟨"EchoValley", "isSaying", "(I)Z"⟩, 8) := ⟨⟨by decide +kernel, by decide +kernel⟩, List.mem_of_getElem? (i := 21) (by decide +kernel), List.mem_of_getElem? (i := 336) (by decide +kernel), List.mem_of_getElem? (i := 337) (by decide +kernel)⟩
theorem lw_p4 : lw_okq (⟨"EchoValley$Sayings", "isOver", "(II)Z"⟩, 7) := ⟨⟨by decide +kernel, by decide +kernel⟩, List.mem_of_getElem? (i := 46) (by decide +kernel), List.mem_of_getElem? (i := 378) (by decide +kernel), List.mem_of_getElem? (i := 379) (by decide +kernel)⟩
theorem lw_p5 : lw_okq (⟨"EchoValley$Walk", "gather", "(LEchoValley$Valley;II)V"⟩, 4) := ⟨⟨by decide +kernel, by decide +kernel⟩, List.mem_of_getElem? (i := 171) (by decide +kernel), List.mem_of_getElem? (i := 552) (by decide +kernel), List.mem_of_getElem? (i := 553) (by decide +kernel)⟩
theorem lw_p6 : lw_okq (⟨"EchoValley$Walk", "addAround", "(II)V"⟩, 4) := ⟨⟨by decide +kernel, by decide +kernel⟩, List.mem_of_getElem? (i := 171) (by decide +kernel), List.mem_of_getElem? (i := 561) (by decide +kernel), List.mem_of_getElem? (i := 562) (by decide +kernel)⟩
theorem lw_p7 : lw_okq (⟨"EchoValley$Walk", "reckon", "(LEchoValley$Ways;II)V"⟩, 4) := ⟨⟨by decide +kernel, by decide +kernel⟩, List.mem_of_getElem? (i := 171) (by decide +kernel), List.mem_of_getElem? (i := 566) (by decide +kernel), List.mem_of_getElem? (i := 567) (by decide +kernel)⟩
theorem lw_p8 : lw_okq (⟨"EchoValley$Walk", "bestNext", "(LEchoValley$Ways;II)I"⟩, 4) := ⟨⟨by decide +kernel, by decide +kernel⟩, List.mem_of_getElem? (i := 171) (by decide +kernel), List.mem_of_getElem? (i := 570) (by decide +kernel), List.mem_of_getElem? (i := 571) (by decide +kernel)⟩
theorem lw_p9 : lw_okq (⟨"EchoValley$Reader", "next", "()V"⟩, 6) := ⟨⟨by decide +kernel, by decide +kernel⟩, List.mem_of_getElem? (i := 143) (by decide +kernel), List.mem_of_getElem? (i := 641) (by decide +kernel), List.mem_of_getElem? (i := 642) (by decide +kernel)⟩
theorem lw_p10 : lw_okq (⟨"EchoValley$Reader", "typeAt", "(I)I"⟩, 6) := ⟨⟨by decide +kernel, by decide +kernel⟩, List.mem_of_getElem? (i := 143) (by decide +kernel), List.mem_of_getElem? (i := 645) (by decide +kernel), List.mem_of_getElem? (i := 646) (by decide +kernel)⟩
theorem lw_p11 : lw_okq (⟨"EchoValley$Reader", "reckonValue", "()V"⟩, 6) := ⟨⟨by decide +kernel, by decide +kernel⟩, List.mem_of_getElem? (i := 143) (by decide +kernel), List.mem_of_getElem? (i := 649) (by decide +kernel), List.mem_of_getElem? (i := 650) (by decide +kernel)⟩
theorem lw_p12 : lw_okq (⟨"EchoValley$Reader", "readItem", "(LEchoValley$Valley;)Z"⟩, 6) := ⟨⟨by decide +kernel, by decide +kernel⟩, List.mem_of_getElem? (i := 143) (by decide +kernel), List.mem_of_getElem? (i := 653) (by decide +kernel), List.mem_of_getElem? (i := 654) (by decide +kernel)⟩
theorem lw_p13 : lw_okq (⟨"EchoValley$Reader", "take", "(Ljava/lang/String;)Z"⟩, 6) := ⟨⟨by decide +kernel, by decide +kernel⟩, List.mem_of_getElem? (i := 143) (by decide +kernel), List.mem_of_getElem? (i := 658) (by decide +kernel), List.mem_of_getElem? (i := 659) (by decide +kernel)⟩
theorem lw_p14 : lw_okq (⟨"EchoValley$Reader", "isAtHand", "(Ljava/lang/String;)Z"⟩, 6) := ⟨⟨by decide +kernel, by decide +kernel⟩, List.mem_of_getElem? (i := 143) (by decide +kernel), List.mem_of_getElem? (i := 662) (by decide +kernel), List.mem_of_getElem? (i := 663) (by decide +kernel)⟩
theorem lw_p15 : lw_okq (⟨"EchoValley$Reader", "readWay", "(LEchoValley$Valley;)Z"⟩, 6) := ⟨⟨by decide +kernel, by decide +kernel⟩, List.mem_of_getElem? (i := 143) (by decide +kernel), List.mem_of_getElem? (i := 714) (by decide +kernel), List.mem_of_getElem? (i := 715) (by decide +kernel)⟩
def lw_privs_1 : List (MethodName × Nat) := [(⟨"EchoValley", "finding", "(I)I"⟩, 8), (⟨"EchoValley$Ways", "putHalf", "(IIZ)V"⟩, 1), (⟨"EchoValley$Ways", "spread", "(I)I"⟩, 1), (⟨"EchoValley", "isSaying", "(I)Z"⟩, 8), (⟨"EchoValley$Sayings", "isOver", "(II)Z"⟩, 7), (⟨"EchoValley$Walk", "gather", "(LEchoValley$Valley;II)V"⟩, 4), (⟨"EchoValley$Walk", "addAround", "(II)V"⟩, 4), (⟨"EchoValley$Walk", "reckon", "(LEchoValley$Ways;II)V"⟩, 4), (⟨"EchoValley$Walk", "bestNext", "(LEchoValley$Ways;II)I"⟩, 4), (⟨"EchoValley$Reader", "next", "()V"⟩, 6), (⟨"EchoValley$Reader", "typeAt", "(I)I"⟩, 6), (⟨"EchoValley$Reader", "reckonValue", "()V"⟩, 6), (⟨"EchoValley$Reader", "readItem", "(LEchoValley$Valley;)Z"⟩, 6), (⟨"EchoValley$Reader", "take", "(Ljava/lang/String;)Z"⟩, 6), (⟨"EchoValley$Reader", "isAtHand", "(Ljava/lang/String;)Z"⟩, 6), (⟨"EchoValley$Reader", "readWay", "(LEchoValley$Valley;)Z"⟩, 6)]
theorem lw_r1 : ∀ q ∈ lw_privs_1, lw_okq q := List.forall_mem_cons.mpr ⟨lw_p0, List.forall_mem_cons.mpr ⟨lw_p1, List.forall_mem_cons.mpr ⟨lw_p2, List.forall_mem_cons.mpr ⟨lw_p3, List.forall_mem_cons.mpr ⟨lw_p4, List.forall_mem_cons.mpr ⟨lw_p5, List.forall_mem_cons.mpr ⟨lw_p6, List.forall_mem_cons.mpr ⟨lw_p7, List.forall_mem_cons.mpr ⟨lw_p8, List.forall_mem_cons.mpr ⟨lw_p9, List.forall_mem_cons.mpr ⟨lw_p10, List.forall_mem_cons.mpr ⟨lw_p11, List.forall_mem_cons.mpr ⟨lw_p12, List.forall_mem_cons.mpr ⟨lw_p13, List.forall_mem_cons.mpr ⟨lw_p14, List.forall_mem_cons.mpr ⟨lw_p15, fun _ h => absurd h List.not_mem_nil⟩⟩⟩⟩⟩⟩⟩⟩⟩⟩⟩⟩⟩⟩⟩⟩
theorem lw_p16 : lw_okq (⟨"EchoValley$Reader", "takeNumber", "(II)I"⟩, 6) := ⟨⟨by decide +kernel, by decide +kernel⟩, List.mem_of_getElem? (i := 143) (by decide +kernel), List.mem_of_getElem? (i := 718) (by decide +kernel), List.mem_of_getElem? (i := 719) (by decide +kernel)⟩
theorem lw_p17 : lw_okq (⟨"EchoValley$Reader", "readPerson", "(LEchoValley$Valley;)Z"⟩, 6) := ⟨⟨by decide +kernel, by decide +kernel⟩, List.mem_of_getElem? (i := 143) (by decide +kernel), List.mem_of_getElem? (i := 724) (by decide +kernel), List.mem_of_getElem? (i := 725) (by decide +kernel)⟩
theorem lw_p18 : lw_okq (⟨"EchoValley$Reader", "readKeep", "(LEchoValley$Valley;)Z"⟩, 6) := ⟨⟨by decide +kernel, by decide +kernel⟩, List.mem_of_getElem? (i := 143) (by decide +kernel), List.mem_of_getElem? (i := 732) (by decide +kernel), List.mem_of_getElem? (i := 733) (by decide +kernel)⟩
theorem lw_p19 : lw_okq (⟨"EchoValley$Reader", "readRain", "(LEchoValley$Valley;)Z"⟩, 6) := ⟨⟨by decide +kernel, by decide +kernel⟩, List.mem_of_getElem? (i := 143) (by decide +kernel), List.mem_of_getElem? (i := 737) (by decide +kernel), List.mem_of_getElem? (i := 738) (by decide +kernel)⟩
theorem lw_p20 : lw_okq (⟨"EchoValley$Reader", "kindAtHand", "()I"⟩, 6) := ⟨⟨by decide +kernel, by decide +kernel⟩, List.mem_of_getElem? (i := 143) (by decide +kernel), List.mem_of_getElem? (i := 741) (by decide +kernel), List.mem_of_getElem? (i := 742) (by decide +kernel)⟩
theorem lw_p21 : lw_okq (⟨"EchoValley$Reader", "readSaying", "(LEchoValley$Valley;I)Z"⟩, 6) := ⟨⟨by decide +kernel, by decide +kernel⟩, List.mem_of_getElem? (i := 143) (by decide +kernel), List.mem_of_getElem? (i := 753) (by decide +kernel), List.mem_of_getElem? (i := 754) (by decide +kernel)⟩
theorem lw_p22 : lw_okq (⟨"EchoValleyModel", "finding", "(I)I"⟩, 24) := ⟨⟨by decide +kernel, by decide +kernel⟩, List.mem_of_getElem? (i := 856) (by decide +kernel), List.mem_of_getElem? (i := 955) (by decide +kernel), List.mem_of_getElem? (i := 956) (by decide +kernel)⟩
theorem lw_p23 : lw_okq (⟨"EchoValleyModel", "isWay", "(II)Z"⟩, 24) := ⟨⟨by decide +kernel, by decide +kernel⟩, List.mem_of_getElem? (i := 856) (by decide +kernel), List.mem_of_getElem? (i := 959) (by decide +kernel), List.mem_of_getElem? (i := 960) (by decide +kernel)⟩
theorem lw_p24 : lw_okq (⟨"EchoValleyModel", "ways", "(III)V"⟩, 24) := ⟨⟨by decide +kernel, by decide +kernel⟩, List.mem_of_getElem? (i := 856) (by decide +kernel), List.mem_of_getElem? (i := 963) (by decide +kernel), List.mem_of_getElem? (i := 964) (by decide +kernel)⟩
theorem lw_p25 : lw_okq (⟨"EchoValleyModel", "farOf", "(II)I"⟩, 24) := ⟨⟨by decide +kernel, by decide +kernel⟩, List.mem_of_getElem? (i := 856) (by decide +kernel), List.mem_of_getElem? (i := 971) (by decide +kernel), List.mem_of_getElem? (i := 972) (by decide +kernel)⟩
theorem lw_p26 : lw_okq (⟨"EchoValleyModel", "measure", "()V"⟩, 24) := ⟨⟨by decide +kernel, by decide +kernel⟩, List.mem_of_getElem? (i := 856) (by decide +kernel), List.mem_of_getElem? (i := 975) (by decide +kernel), List.mem_of_getElem? (i := 976) (by decide +kernel)⟩
theorem lw_p27 : lw_okq (⟨"EchoValleyModel", "become", "(II)I"⟩, 24) := ⟨⟨by decide +kernel, by decide +kernel⟩, List.mem_of_getElem? (i := 856) (by decide +kernel), List.mem_of_getElem? (i := 993) (by decide +kernel), List.mem_of_getElem? (i := 994) (by decide +kernel)⟩
theorem lw_p28 : lw_okq (⟨"EchoValleyModel", "drawn", "(I)I"⟩, 24) := ⟨⟨by decide +kernel, by decide +kernel⟩, List.mem_of_getElem? (i := 856) (by decide +kernel), List.mem_of_getElem? (i := 1001) (by decide +kernel), List.mem_of_getElem? (i := 1002) (by decide +kernel)⟩
theorem lw_p29 : lw_okq (⟨"EchoValleyModel", "says", "(IIIII)I"⟩, 24) := ⟨⟨by decide +kernel, by decide +kernel⟩, List.mem_of_getElem? (i := 856) (by decide +kernel), List.mem_of_getElem? (i := 1018) (by decide +kernel), List.mem_of_getElem? (i := 1019) (by decide +kernel)⟩
theorem lw_p30 : lw_okq (⟨"EchoValleyModel", "isSaying", "(I)Z"⟩, 24) := ⟨⟨by decide +kernel, by decide +kernel⟩, List.mem_of_getElem? (i := 856) (by decide +kernel), List.mem_of_getElem? (i := 1026) (by decide +kernel), List.mem_of_getElem? (i := 1027) (by decide +kernel)⟩
theorem lw_p31 : lw_okq (⟨"EchoValleyModel", "of", "(II)I"⟩, 24) := ⟨⟨by decide +kernel, by decide +kernel⟩, List.mem_of_getElem? (i := 856) (by decide +kernel), List.mem_of_getElem? (i := 1030) (by decide +kernel), List.mem_of_getElem? (i := 1031) (by decide +kernel)⟩
def lw_privs_2 : List (MethodName × Nat) := [(⟨"EchoValley$Reader", "takeNumber", "(II)I"⟩, 6), (⟨"EchoValley$Reader", "readPerson", "(LEchoValley$Valley;)Z"⟩, 6), (⟨"EchoValley$Reader", "readKeep", "(LEchoValley$Valley;)Z"⟩, 6), (⟨"EchoValley$Reader", "readRain", "(LEchoValley$Valley;)Z"⟩, 6), (⟨"EchoValley$Reader", "kindAtHand", "()I"⟩, 6), (⟨"EchoValley$Reader", "readSaying", "(LEchoValley$Valley;I)Z"⟩, 6), (⟨"EchoValleyModel", "finding", "(I)I"⟩, 24), (⟨"EchoValleyModel", "isWay", "(II)Z"⟩, 24), (⟨"EchoValleyModel", "ways", "(III)V"⟩, 24), (⟨"EchoValleyModel", "farOf", "(II)I"⟩, 24), (⟨"EchoValleyModel", "measure", "()V"⟩, 24), (⟨"EchoValleyModel", "become", "(II)I"⟩, 24), (⟨"EchoValleyModel", "drawn", "(I)I"⟩, 24), (⟨"EchoValleyModel", "says", "(IIIII)I"⟩, 24), (⟨"EchoValleyModel", "isSaying", "(I)Z"⟩, 24), (⟨"EchoValleyModel", "of", "(II)I"⟩, 24)]
theorem lw_r2 : ∀ q ∈ lw_privs_2, lw_okq q := List.forall_mem_cons.mpr ⟨lw_p16, List.forall_mem_cons.mpr ⟨lw_p17, List.forall_mem_cons.mpr ⟨lw_p18, List.forall_mem_cons.mpr ⟨lw_p19, List.forall_mem_cons.mpr ⟨lw_p20, List.forall_mem_cons.mpr ⟨lw_p21, List.forall_mem_cons.mpr ⟨lw_p22, List.forall_mem_cons.mpr ⟨lw_p23, List.forall_mem_cons.mpr ⟨lw_p24, List.forall_mem_cons.mpr ⟨lw_p25, List.forall_mem_cons.mpr ⟨lw_p26, List.forall_mem_cons.mpr ⟨lw_p27, List.forall_mem_cons.mpr ⟨lw_p28, List.forall_mem_cons.mpr ⟨lw_p29, List.forall_mem_cons.mpr ⟨lw_p30, List.forall_mem_cons.mpr ⟨lw_p31, fun _ h => absurd h List.not_mem_nil⟩⟩⟩⟩⟩⟩⟩⟩⟩⟩⟩⟩⟩⟩⟩⟩
theorem lw_p32 : lw_okq (⟨"EchoValleyModel", "lasts", "(I)I"⟩, 24) := ⟨⟨by decide +kernel, by decide +kernel⟩, List.mem_of_getElem? (i := 856) (by decide +kernel), List.mem_of_getElem? (i := 1034) (by decide +kernel), List.mem_of_getElem? (i := 1035) (by decide +kernel)⟩
theorem lw_p33 : lw_okq (⟨"EchoValleyModel", "reach", "(I)I"⟩, 24) := ⟨⟨by decide +kernel, by decide +kernel⟩, List.mem_of_getElem? (i := 856) (by decide +kernel), List.mem_of_getElem? (i := 1039) (by decide +kernel), List.mem_of_getElem? (i := 1040) (by decide +kernel)⟩
theorem lw_p34 : lw_okq (⟨"EchoValleyModel", "ageOf", "(II)I"⟩, 24) := ⟨⟨by decide +kernel, by decide +kernel⟩, List.mem_of_getElem? (i := 856) (by decide +kernel), List.mem_of_getElem? (i := 1051) (by decide +kernel), List.mem_of_getElem? (i := 1052) (by decide +kernel)⟩
theorem lw_p35 : lw_okq (⟨"EchoValleyModel", "overOf", "(I)I"⟩, 24) := ⟨⟨by decide +kernel, by decide +kernel⟩, List.mem_of_getElem? (i := 856) (by decide +kernel), List.mem_of_getElem? (i := 1059) (by decide +kernel), List.mem_of_getElem? (i := 1060) (by decide +kernel)⟩
theorem lw_p36 : lw_okq (⟨"EchoValleyModel", "isOver", "(II)Z"⟩, 24) := ⟨⟨by decide +kernel, by decide +kernel⟩, List.mem_of_getElem? (i := 856) (by decide +kernel), List.mem_of_getElem? (i := 1063) (by decide +kernel), List.mem_of_getElem? (i := 1064) (by decide +kernel)⟩
theorem lw_p37 : lw_okq (⟨"EchoValleyModel", "isHeard", "(II)Z"⟩, 24) := ⟨⟨by decide +kernel, by decide +kernel⟩, List.mem_of_getElem? (i := 856) (by decide +kernel), List.mem_of_getElem? (i := 1071) (by decide +kernel), List.mem_of_getElem? (i := 1072) (by decide +kernel)⟩
theorem lw_p38 : lw_okq (⟨"EchoValleyModel", "reachesOf", "(I)I"⟩, 24) := ⟨⟨by decide +kernel, by decide +kernel⟩, List.mem_of_getElem? (i := 856) (by decide +kernel), List.mem_of_getElem? (i := 1079) (by decide +kernel), List.mem_of_getElem? (i := 1080) (by decide +kernel)⟩
theorem lw_p39 : lw_okq (⟨"EchoValleyModel", "near", "(II)I"⟩, 24) := ⟨⟨by decide +kernel, by decide +kernel⟩, List.mem_of_getElem? (i := 856) (by decide +kernel), List.mem_of_getElem? (i := 1083) (by decide +kernel), List.mem_of_getElem? (i := 1084) (by decide +kernel)⟩
theorem lw_p40 : lw_okq (⟨"EchoValleyModel", "heardAt", "(III)I"⟩, 24) := ⟨⟨by decide +kernel, by decide +kernel⟩, List.mem_of_getElem? (i := 856) (by decide +kernel), List.mem_of_getElem? (i := 1098) (by decide +kernel), List.mem_of_getElem? (i := 1099) (by decide +kernel)⟩
theorem lw_p41 : lw_okq (⟨"EchoValleyModel", "isHeardAt", "(IIII)Z"⟩, 24) := ⟨⟨by decide +kernel, by decide +kernel⟩, List.mem_of_getElem? (i := 856) (by decide +kernel), List.mem_of_getElem? (i := 1102) (by decide +kernel), List.mem_of_getElem? (i := 1103) (by decide +kernel)⟩
theorem lw_p42 : lw_okq (⟨"EchoValleyModel", "manyAt", "(II)I"⟩, 24) := ⟨⟨by decide +kernel, by decide +kernel⟩, List.mem_of_getElem? (i := 856) (by decide +kernel), List.mem_of_getElem? (i := 1125) (by decide +kernel), List.mem_of_getElem? (i := 1126) (by decide +kernel)⟩
theorem lw_p43 : lw_okq (⟨"EchoValleyModel", "whereIs", "(II)I"⟩, 24) := ⟨⟨by decide +kernel, by decide +kernel⟩, List.mem_of_getElem? (i := 856) (by decide +kernel), List.mem_of_getElem? (i := 1129) (by decide +kernel), List.mem_of_getElem? (i := 1130) (by decide +kernel)⟩
theorem lw_p44 : lw_okq (⟨"EchoValleyModel", "isAt", "(IIII)V"⟩, 24) := ⟨⟨by decide +kernel, by decide +kernel⟩, List.mem_of_getElem? (i := 856) (by decide +kernel), List.mem_of_getElem? (i := 1144) (by decide +kernel), List.mem_of_getElem? (i := 1145) (by decide +kernel)⟩
theorem lw_p45 : lw_okq (⟨"EchoValleyModel", "hearsIt", "(III)Z"⟩, 24) := ⟨⟨by decide +kernel, by decide +kernel⟩, List.mem_of_getElem? (i := 856) (by decide +kernel), List.mem_of_getElem? (i := 1156) (by decide +kernel), List.mem_of_getElem? (i := 1157) (by decide +kernel)⟩
theorem lw_p46 : lw_okq (⟨"EchoValleyModel", "isNear", "(IIII)Z"⟩, 24) := ⟨⟨by decide +kernel, by decide +kernel⟩, List.mem_of_getElem? (i := 856) (by decide +kernel), List.mem_of_getElem? (i := 1176) (by decide +kernel), List.mem_of_getElem? (i := 1177) (by decide +kernel)⟩
theorem lw_p47 : lw_okq (⟨"EchoValleyModel", "next", "()V"⟩, 24) := ⟨⟨by decide +kernel, by decide +kernel⟩, List.mem_of_getElem? (i := 856) (by decide +kernel), List.mem_of_getElem? (i := 1212) (by decide +kernel), List.mem_of_getElem? (i := 1213) (by decide +kernel)⟩
def lw_privs_3 : List (MethodName × Nat) := [(⟨"EchoValleyModel", "lasts", "(I)I"⟩, 24), (⟨"EchoValleyModel", "reach", "(I)I"⟩, 24), (⟨"EchoValleyModel", "ageOf", "(II)I"⟩, 24), (⟨"EchoValleyModel", "overOf", "(I)I"⟩, 24), (⟨"EchoValleyModel", "isOver", "(II)Z"⟩, 24), (⟨"EchoValleyModel", "isHeard", "(II)Z"⟩, 24), (⟨"EchoValleyModel", "reachesOf", "(I)I"⟩, 24), (⟨"EchoValleyModel", "near", "(II)I"⟩, 24), (⟨"EchoValleyModel", "heardAt", "(III)I"⟩, 24), (⟨"EchoValleyModel", "isHeardAt", "(IIII)Z"⟩, 24), (⟨"EchoValleyModel", "manyAt", "(II)I"⟩, 24), (⟨"EchoValleyModel", "whereIs", "(II)I"⟩, 24), (⟨"EchoValleyModel", "isAt", "(IIII)V"⟩, 24), (⟨"EchoValleyModel", "hearsIt", "(III)Z"⟩, 24), (⟨"EchoValleyModel", "isNear", "(IIII)Z"⟩, 24), (⟨"EchoValleyModel", "next", "()V"⟩, 24)]
theorem lw_r3 : ∀ q ∈ lw_privs_3, lw_okq q := List.forall_mem_cons.mpr ⟨lw_p32, List.forall_mem_cons.mpr ⟨lw_p33, List.forall_mem_cons.mpr ⟨lw_p34, List.forall_mem_cons.mpr ⟨lw_p35, List.forall_mem_cons.mpr ⟨lw_p36, List.forall_mem_cons.mpr ⟨lw_p37, List.forall_mem_cons.mpr ⟨lw_p38, List.forall_mem_cons.mpr ⟨lw_p39, List.forall_mem_cons.mpr ⟨lw_p40, List.forall_mem_cons.mpr ⟨lw_p41, List.forall_mem_cons.mpr ⟨lw_p42, List.forall_mem_cons.mpr ⟨lw_p43, List.forall_mem_cons.mpr ⟨lw_p44, List.forall_mem_cons.mpr ⟨lw_p45, List.forall_mem_cons.mpr ⟨lw_p46, List.forall_mem_cons.mpr ⟨lw_p47, fun _ h => absurd h List.not_mem_nil⟩⟩⟩⟩⟩⟩⟩⟩⟩⟩⟩⟩⟩⟩⟩⟩
theorem lw_p48 : lw_okq (⟨"EchoValleyModel", "byteAt", "(I)I"⟩, 24) := ⟨⟨by decide +kernel, by decide +kernel⟩, List.mem_of_getElem? (i := 856) (by decide +kernel), List.mem_of_getElem? (i := 1216) (by decide +kernel), List.mem_of_getElem? (i := 1217) (by decide +kernel)⟩
theorem lw_p49 : lw_okq (⟨"EchoValleyModel", "readItem", "()V"⟩, 24) := ⟨⟨by decide +kernel, by decide +kernel⟩, List.mem_of_getElem? (i := 856) (by decide +kernel), List.mem_of_getElem? (i := 1220) (by decide +kernel), List.mem_of_getElem? (i := 1221) (by decide +kernel)⟩
theorem lw_p50 : lw_okq (⟨"EchoValleyModel", "isWord", "(Ljava/lang/String;)Z"⟩, 24) := ⟨⟨by decide +kernel, by decide +kernel⟩, List.mem_of_getElem? (i := 856) (by decide +kernel), List.mem_of_getElem? (i := 1224) (by decide +kernel), List.mem_of_getElem? (i := 1225) (by decide +kernel)⟩
theorem lw_p51 : lw_okq (⟨"EchoValleyModel", "readSaying", "(I)V"⟩, 24) := ⟨⟨by decide +kernel, by decide +kernel⟩, List.mem_of_getElem? (i := 856) (by decide +kernel), List.mem_of_getElem? (i := 1230) (by decide +kernel), List.mem_of_getElem? (i := 1231) (by decide +kernel)⟩
theorem lw_p52 : lw_okq (⟨"EchoValleyModel", "must", "(Z)V"⟩, 24) := ⟨⟨by decide +kernel, by decide +kernel⟩, List.mem_of_getElem? (i := 856) (by decide +kernel), List.mem_of_getElem? (i := 1234) (by decide +kernel), List.mem_of_getElem? (i := 1235) (by decide +kernel)⟩
theorem lw_p53 : lw_okq (⟨"EchoValleyModel", "number", "(III)I"⟩, 24) := ⟨⟨by decide +kernel, by decide +kernel⟩, List.mem_of_getElem? (i := 856) (by decide +kernel), List.mem_of_getElem? (i := 1238) (by decide +kernel), List.mem_of_getElem? (i := 1239) (by decide +kernel)⟩
theorem lw_p54 : lw_okq (⟨"EchoValleyModel", "item", "(IIIII)V"⟩, 24) := ⟨⟨by decide +kernel, by decide +kernel⟩, List.mem_of_getElem? (i := 856) (by decide +kernel), List.mem_of_getElem? (i := 1245) (by decide +kernel), List.mem_of_getElem? (i := 1246) (by decide +kernel)⟩
theorem lw_p55 : lw_okq (⟨"EchoValleyModel", "readPerson", "()V"⟩, 24) := ⟨⟨by decide +kernel, by decide +kernel⟩, List.mem_of_getElem? (i := 856) (by decide +kernel), List.mem_of_getElem? (i := 1251) (by decide +kernel), List.mem_of_getElem? (i := 1252) (by decide +kernel)⟩
theorem lw_p56 : lw_okq (⟨"EchoValleyModel", "isSo", "(I)V"⟩, 24) := ⟨⟨by decide +kernel, by decide +kernel⟩, List.mem_of_getElem? (i := 856) (by decide +kernel), List.mem_of_getElem? (i := 1258) (by decide +kernel), List.mem_of_getElem? (i := 1259) (by decide +kernel)⟩
def lw_privs_4 : List (MethodName × Nat) := [(⟨"EchoValleyModel", "byteAt", "(I)I"⟩, 24), (⟨"EchoValleyModel", "readItem", "()V"⟩, 24), (⟨"EchoValleyModel", "isWord", "(Ljava/lang/String;)Z"⟩, 24), (⟨"EchoValleyModel", "readSaying", "(I)V"⟩, 24), (⟨"EchoValleyModel", "must", "(Z)V"⟩, 24), (⟨"EchoValleyModel", "number", "(III)I"⟩, 24), (⟨"EchoValleyModel", "item", "(IIIII)V"⟩, 24), (⟨"EchoValleyModel", "readPerson", "()V"⟩, 24), (⟨"EchoValleyModel", "isSo", "(I)V"⟩, 24)]
theorem lw_r4 : ∀ q ∈ lw_privs_4, lw_okq q := List.forall_mem_cons.mpr ⟨lw_p48, List.forall_mem_cons.mpr ⟨lw_p49, List.forall_mem_cons.mpr ⟨lw_p50, List.forall_mem_cons.mpr ⟨lw_p51, List.forall_mem_cons.mpr ⟨lw_p52, List.forall_mem_cons.mpr ⟨lw_p53, List.forall_mem_cons.mpr ⟨lw_p54, List.forall_mem_cons.mpr ⟨lw_p55, List.forall_mem_cons.mpr ⟨lw_p56, fun _ h => absurd h List.not_mem_nil⟩⟩⟩⟩⟩⟩⟩⟩⟩
def lw_privs : List (MethodName × Nat) := lw_privs_1 ++ (lw_privs_2 ++ (lw_privs_3 ++ (lw_privs_4)))
def lw_tbl : List Cond := k2_sels lw_privs ++ tables_1
theorem lw_privs_ok : ∀ q ∈ lw_privs, lw_okq q := by
  show ∀ q ∈ lw_privs_1 ++ (lw_privs_2 ++ (lw_privs_3 ++ (lw_privs_4))), lw_okq q
  exact List.forall_mem_append.mpr ⟨lw_r1, List.forall_mem_append.mpr ⟨lw_r2, List.forall_mem_append.mpr ⟨lw_r3, lw_r4⟩⟩⟩
/-! ===== BEGIN words of one list among another's, by their places ===== -/
theorem goodIn_r {big : List Cond} (ws : List Cond) (ps : List Nat) (hp : ws = ps.filterMap (fun i => big[i]?)) (h : ws.all goodWord = true) : GoodIn big ws := by
  intro w hw
  have h1 := List.all_eq_true.mp h w hw
  rw [hp] at hw
  obtain ⟨i, -, hi⟩ := List.mem_filterMap.mp hw
  have hm : w ∈ big := by first | exact List.mem_of_getElem? hi | exact List.getElem?_mem hi
  exact ⟨hm, good_of_word h1⟩
theorem goodIn_app {big a b : List Cond} (ha : GoodIn big a) (hb : GoodIn big b) : GoodIn big (a ++ b) := fun w h => (List.mem_append.mp h).elim (ha w) (hb w)
theorem goodIn_ca {big a b : List Cond} {c : Cond} (ha : GoodIn big (c :: a)) (hb : GoodIn big b) : GoodIn big (c :: (a ++ b)) := fun w h => (List.mem_cons.mp h).elim (fun e => ha w (List.mem_cons.mpr (Or.inl e))) (fun h => (List.mem_append.mp h).elim (fun h => ha w (List.mem_cons.mpr (Or.inr h))) (hb w))
theorem goodIn_sub {big ws : List Cond} (hm : ∀ w ∈ ws, w ∈ big) (h : ws.all goodWord = true) : GoodIn big ws := fun w hw => ⟨hm w hw, good_of_word (List.all_eq_true.mp h w hw)⟩
/-! ===== END ===== -/

/-! ===== BEGIN printed: names, fields, word lists, decode rows ===== -/
def RX0 : String := "EchoValley$Kinds"
def TX0 : u_T := fun k => match k with
  | _ => ("", "", "", false)
def tyX0 : Nat → FieldType := fun k => match k with
  | _ => .int
abbrev wsX00 : List Cond := u_ws RX0 TX0 0
theorem nmX0 : ∀ a, a < 0 → ∀ b, b < 0 → a ≠ b → (TX0 a).2.1 ≠ (TX0 b).2.1 := by decide +kernel
theorem tyX0_ok : ∀ k, k < 0 → parseFieldDescriptor (TX0 k).2.2.1 = some (tyX0 k) := by decide +kernel
abbrev cX0_isKind : ByteArray := prog_2_method_2_code
def yX0_isKind : MethodName := ⟨RX0, "isKind", "(I)Z"⟩
abbrev cX0_isUnder : ByteArray := prog_2_method_3_code
def yX0_isUnder : MethodName := ⟨RX0, "isUnder", "(II)Z"⟩
abbrev cX0_lasting : ByteArray := prog_2_method_4_code
def yX0_lasting : MethodName := ⟨RX0, "lasting", "(II)I"⟩
abbrev cX0_reachOf : ByteArray := prog_2_method_5_code
def yX0_reachOf : MethodName := ⟨RX0, "reachOf", "(II)I"⟩
abbrev cX0_canDrown : ByteArray := prog_2_method_6_code
def yX0_canDrown : MethodName := ⟨RX0, "canDrown", "(III)Z"⟩
abbrev cX0_canYield : ByteArray := prog_2_method_7_code
def yX0_canYield : MethodName := ⟨RX0, "canYield", "(II)Z"⟩
def RX1 : String := "EchoValley$People"
def TX1 : u_T := fun k => match k with
  | _ => ("EchoValley$People", "places", "[I", true)
def tyX1 : Nat → FieldType := fun k => match k with
  | _ => .array .int
abbrev wsX10 : List Cond := u_ws RX1 TX1 1
theorem nmX1 : ∀ a, a < 1 → ∀ b, b < 1 → a ≠ b → (TX1 a).2.1 ≠ (TX1 b).2.1 := by decide +kernel
theorem tyX1_ok : ∀ k, k < 1 → parseFieldDescriptor (TX1 k).2.2.1 = some (tyX1 k) := by decide +kernel
abbrev cX1_init : ByteArray := prog_3_method_1_code
def yX1_init : MethodName := ⟨RX1, "<init>", "()V"⟩
abbrev cX1_become : ByteArray := prog_3_method_2_code
def yX1_become : MethodName := ⟨RX1, "become", "(LEchoValley$People;)V"⟩
abbrev cX1_placeOf : ByteArray := prog_3_method_3_code
def yX1_placeOf : MethodName := ⟨RX1, "placeOf", "(II)I"⟩
abbrev cX1_put : ByteArray := prog_3_method_4_code
def yX1_put : MethodName := ⟨RX1, "put", "(IIII)V"⟩
abbrev cX1_placesTaken : ByteArray := prog_3_method_5_code
def yX1_placesTaken : MethodName := ⟨RX1, "placesTaken", "(I)I"⟩
abbrev cX1_numberAt : ByteArray := prog_3_method_6_code
def yX1_numberAt : MethodName := ⟨RX1, "numberAt", "(II)I"⟩
def RX2 : String := "EchoValley$Reader"
def TX2 : u_T := fun k => match k with
  | 0 => ("EchoValley$Reader", "number", "I", false)
  | 1 => ("EchoValley$Reader", "bytes", "[I", true)
  | 2 => ("EchoValley$Reader", "token", "I", false)
  | 3 => ("EchoValley$Reader", "start", "I", false)
  | 4 => ("EchoValley$Reader", "end", "I", false)
  | _ => ("EchoValley$Reader", "value", "I", false)
def tyX2 : Nat → FieldType := fun k => match k with
  | 0 => .int
  | 1 => .array .int
  | 2 => .int
  | 3 => .int
  | 4 => .int
  | _ => .int
abbrev wsX20 : List Cond := u_ws RX2 TX2 6
theorem nmX2 : ∀ a, a < 6 → ∀ b, b < 6 → a ≠ b → (TX2 a).2.1 ≠ (TX2 b).2.1 := by decide +kernel
theorem tyX2_ok : ∀ k, k < 6 → parseFieldDescriptor (TX2 k).2.2.1 = some (tyX2 k) := by decide +kernel
abbrev cX2_init : ByteArray := prog_4_method_1_code
def yX2_init : MethodName := ⟨RX2, "<init>", "()V"⟩
abbrev cX2_add : ByteArray := prog_4_method_2_code
def yX2_add : MethodName := ⟨RX2, "add", "(II)V"⟩
abbrev cX2_clear : ByteArray := prog_4_method_3_code
def yX2_clear : MethodName := ⟨RX2, "clear", "()I"⟩
abbrev cX2_readInto : ByteArray := prog_4_method_4_code
def yX2_readInto : MethodName := ⟨RX2, "readInto", "(LEchoValley$Valley;)I"⟩
abbrev cX2_readItem : ByteArray := prog_4_method_5_code
def yX2_readItem : MethodName := ⟨RX2, "readItem", "(LEchoValley$Valley;)Z"⟩
abbrev cX2_readWay : ByteArray := prog_4_method_6_code
def yX2_readWay : MethodName := ⟨RX2, "readWay", "(LEchoValley$Valley;)Z"⟩
abbrev cX2_readPerson : ByteArray := prog_4_method_7_code
def yX2_readPerson : MethodName := ⟨RX2, "readPerson", "(LEchoValley$Valley;)Z"⟩
abbrev cX2_readKeep : ByteArray := prog_4_method_8_code
def yX2_readKeep : MethodName := ⟨RX2, "readKeep", "(LEchoValley$Valley;)Z"⟩
abbrev cX2_readRain : ByteArray := prog_4_method_9_code
def yX2_readRain : MethodName := ⟨RX2, "readRain", "(LEchoValley$Valley;)Z"⟩
abbrev cX2_readSaying : ByteArray := prog_4_method_10_code
def yX2_readSaying : MethodName := ⟨RX2, "readSaying", "(LEchoValley$Valley;I)Z"⟩
abbrev cX2_kindAtHand : ByteArray := prog_4_method_11_code
def yX2_kindAtHand : MethodName := ⟨RX2, "kindAtHand", "()I"⟩
abbrev cX2_take : ByteArray := prog_4_method_12_code
def yX2_take : MethodName := ⟨RX2, "take", "(Ljava/lang/String;)Z"⟩
abbrev cX2_isAtHand : ByteArray := prog_4_method_13_code
def yX2_isAtHand : MethodName := ⟨RX2, "isAtHand", "(Ljava/lang/String;)Z"⟩
abbrev cX2_takeNumber : ByteArray := prog_4_method_14_code
def yX2_takeNumber : MethodName := ⟨RX2, "takeNumber", "(II)I"⟩
abbrev cX2_next : ByteArray := prog_4_method_15_code
def yX2_next : MethodName := ⟨RX2, "next", "()V"⟩
abbrev cX2_reckonValue : ByteArray := prog_4_method_16_code
def yX2_reckonValue : MethodName := ⟨RX2, "reckonValue", "()V"⟩
abbrev cX2_typeAt : ByteArray := prog_4_method_17_code
def yX2_typeAt : MethodName := ⟨RX2, "typeAt", "(I)I"⟩
def RX3 : String := "EchoValley$Sayings"
def TX3 : u_T := fun k => match k with
  | 0 => ("EchoValley$Sayings", "number", "I", false)
  | 1 => ("EchoValley$Sayings", "kind", "[I", true)
  | 2 => ("EchoValley$Sayings", "word", "[I", true)
  | 3 => ("EchoValley$Sayings", "loud", "[I", true)
  | 4 => ("EchoValley$Sayings", "place", "[I", true)
  | 5 => ("EchoValley$Sayings", "hour", "[I", true)
  | _ => ("EchoValley$Sayings", "day", "[I", true)
def tyX3 : Nat → FieldType := fun k => match k with
  | 0 => .int
  | 1 => .array .int
  | 2 => .array .int
  | 3 => .array .int
  | 4 => .array .int
  | 5 => .array .int
  | _ => .array .int
abbrev wsX30 : List Cond := u_ws RX3 TX3 7
theorem nmX3 : ∀ a, a < 7 → ∀ b, b < 7 → a ≠ b → (TX3 a).2.1 ≠ (TX3 b).2.1 := by decide +kernel
theorem tyX3_ok : ∀ k, k < 7 → parseFieldDescriptor (TX3 k).2.2.1 = some (tyX3 k) := by decide +kernel
abbrev cX3_init : ByteArray := prog_5_method_1_code
def yX3_init : MethodName := ⟨RX3, "<init>", "()V"⟩
abbrev cX3_become : ByteArray := prog_5_method_2_code
def yX3_become : MethodName := ⟨RX3, "become", "(LEchoValley$Sayings;)V"⟩
abbrev cX3_isFull : ByteArray := prog_5_method_3_code
def yX3_isFull : MethodName := ⟨RX3, "isFull", "()Z"⟩
abbrev cX3_add : ByteArray := prog_5_method_4_code
def yX3_add : MethodName := ⟨RX3, "add", "(IIIIII)I"⟩
abbrev cX3_reachOf : ByteArray := prog_5_method_5_code
def yX3_reachOf : MethodName := ⟨RX3, "reachOf", "(I)I"⟩
abbrev cX3_firstOver : ByteArray := prog_5_method_6_code
def yX3_firstOver : MethodName := ⟨RX3, "firstOver", "(I)I"⟩
abbrev cX3_isOver : ByteArray := prog_5_method_7_code
def yX3_isOver : MethodName := ⟨RX3, "isOver", "(II)Z"⟩
def RX4 : String := "EchoValley$Sheet"
def TX4 : u_T := fun k => match k with
  | 0 => ("EchoValley$Sheet", "bits", "I", false)
  | 1 => ("EchoValley$Sheet", "size", "I", false)
  | _ => ("EchoValley$Sheet", "numbers", "[I", true)
def tyX4 : Nat → FieldType := fun k => match k with
  | 0 => .int
  | 1 => .int
  | _ => .array .int
abbrev wsX40 : List Cond := u_ws RX4 TX4 3
theorem nmX4 : ∀ a, a < 3 → ∀ b, b < 3 → a ≠ b → (TX4 a).2.1 ≠ (TX4 b).2.1 := by decide +kernel
theorem tyX4_ok : ∀ k, k < 3 → parseFieldDescriptor (TX4 k).2.2.1 = some (tyX4 k) := by decide +kernel
abbrev cX4_init : ByteArray := prog_6_method_1_code
def yX4_init : MethodName := ⟨RX4, "<init>", "()V"⟩
abbrev cX4_areBits : ByteArray := prog_6_method_2_code
def yX4_areBits : MethodName := ⟨RX4, "areBits", "(I)Z"⟩
abbrev cX4_isMissing : ByteArray := prog_6_method_3_code
def yX4_isMissing : MethodName := ⟨RX4, "isMissing", "()Z"⟩
abbrev cX4_begin : ByteArray := prog_6_method_4_code
def yX4_begin : MethodName := ⟨RX4, "begin", "(II)V"⟩
abbrev cX4_hasRange : ByteArray := prog_6_method_5_code
def yX4_hasRange : MethodName := ⟨RX4, "hasRange", "(II)Z"⟩
abbrev cX4_put : ByteArray := prog_6_method_6_code
def yX4_put : MethodName := ⟨RX4, "put", "(II)V"⟩
def RX5 : String := "EchoValley$Valley"
def TX5 : u_T := fun k => match k with
  | 0 => ("EchoValley$Valley", "ways", "LEchoValley$Ways;", true)
  | 1 => ("EchoValley$Valley", "sayings", "LEchoValley$Sayings;", true)
  | 2 => ("EchoValley$Valley", "people", "LEchoValley$People;", true)
  | 3 => ("EchoValley$Valley", "rain", "[I", true)
  | 4 => ("EchoValley$Valley", "spots", "[I", true)
  | 5 => ("EchoValley$Valley", "today", "I", false)
  | 6 => ("EchoValley$Valley", "keeping", "I", false)
  | _ => ("EchoValley$Valley", "z", "I", false)
def tyX5 : Nat → FieldType := fun k => match k with
  | 0 => .object "EchoValley$Ways"
  | 1 => .object "EchoValley$Sayings"
  | 2 => .object "EchoValley$People"
  | 3 => .array .int
  | 4 => .array .int
  | 5 => .int
  | 6 => .int
  | _ => .int
abbrev wsX50 : List Cond := u_ws RX5 TX5 8
theorem nmX5 : ∀ a, a < 8 → ∀ b, b < 8 → a ≠ b → (TX5 a).2.1 ≠ (TX5 b).2.1 := by decide +kernel
theorem tyX5_ok : ∀ k, k < 8 → parseFieldDescriptor (TX5 k).2.2.1 = some (tyX5 k) := by decide +kernel
abbrev cX5_init : ByteArray := prog_7_method_1_code
def yX5_init : MethodName := ⟨RX5, "<init>", "()V"⟩
abbrev cX5_become : ByteArray := prog_7_method_2_code
def yX5_become : MethodName := ⟨RX5, "become", "(LEchoValley$Valley;)V"⟩
abbrev cX5_draw : ByteArray := prog_7_method_3_code
def yX5_draw : MethodName := ⟨RX5, "draw", "()I"⟩
abbrev cX5_rainyDays : ByteArray := prog_7_method_4_code
def yX5_rainyDays : MethodName := ⟨RX5, "rainyDays", "(II)I"⟩
abbrev cX5_ageOf : ByteArray := prog_7_method_5_code
def yX5_ageOf : MethodName := ⟨RX5, "ageOf", "(II)I"⟩
abbrev cX5_lastsOf : ByteArray := prog_7_method_6_code
def yX5_lastsOf : MethodName := ⟨RX5, "lastsOf", "(I)I"⟩
abbrev cX5_around : ByteArray := prog_7_method_7_code
def yX5_around : MethodName := ⟨RX5, "around", "(I)I"⟩
abbrev cX5_isHeard : ByteArray := prog_7_method_8_code
def yX5_isHeard : MethodName := ⟨RX5, "isHeard", "(II)Z"⟩
abbrev cX5_isHeardAt : ByteArray := prog_7_method_9_code
def yX5_isHeardAt : MethodName := ⟨RX5, "isHeardAt", "(III)Z"⟩
abbrev cX5_heardSet : ByteArray := prog_7_method_10_code
def yX5_heardSet : MethodName := ⟨RX5, "heardSet", "(II)J"⟩
abbrev cX5_loudPlaces : ByteArray := prog_7_method_11_code
def yX5_loudPlaces : MethodName := ⟨RX5, "loudPlaces", "(I)I"⟩
abbrev cX5_heardOn : ByteArray := prog_7_method_12_code
def yX5_heardOn : MethodName := ⟨RX5, "heardOn", "(I)I"⟩
abbrev cX5_lastDayOf : ByteArray := prog_7_method_13_code
def yX5_lastDayOf : MethodName := ⟨RX5, "lastDayOf", "(I)I"⟩
abbrev cX5_lastDayOfOnce : ByteArray := prog_7_method_14_code
def yX5_lastDayOfOnce : MethodName := ⟨RX5, "lastDayOfOnce", "(I)I"⟩
abbrev cX5_doesHear : ByteArray := prog_7_method_15_code
def yX5_doesHear : MethodName := ⟨RX5, "doesHear", "(III)Z"⟩
def RX6 : String := "EchoValley$Walk"
def TX6 : u_T := fun k => match k with
  | 0 => ("EchoValley$Walk", "length", "I", false)
  | 1 => ("EchoValley$Walk", "places", "[I", true)
  | 2 => ("EchoValley$Walk", "heardThere", "[I", true)
  | _ => ("EchoValley$Walk", "mostFromThere", "[I", true)
def tyX6 : Nat → FieldType := fun k => match k with
  | 0 => .int
  | 1 => .array .int
  | 2 => .array .int
  | _ => .array .int
abbrev wsX60 : List Cond := u_ws RX6 TX6 4
theorem nmX6 : ∀ a, a < 4 → ∀ b, b < 4 → a ≠ b → (TX6 a).2.1 ≠ (TX6 b).2.1 := by decide +kernel
theorem tyX6_ok : ∀ k, k < 4 → parseFieldDescriptor (TX6 k).2.2.1 = some (tyX6 k) := by decide +kernel
abbrev cX6_init : ByteArray := prog_8_method_1_code
def yX6_init : MethodName := ⟨RX6, "<init>", "()V"⟩
abbrev cX6_choose : ByteArray := prog_8_method_2_code
def yX6_choose : MethodName := ⟨RX6, "choose", "(LEchoValley$Valley;III)I"⟩
abbrev cX6_gather : ByteArray := prog_8_method_3_code
def yX6_gather : MethodName := ⟨RX6, "gather", "(LEchoValley$Valley;II)V"⟩
abbrev cX6_addAround : ByteArray := prog_8_method_4_code
def yX6_addAround : MethodName := ⟨RX6, "addAround", "(II)V"⟩
abbrev cX6_reckon : ByteArray := prog_8_method_5_code
def yX6_reckon : MethodName := ⟨RX6, "reckon", "(LEchoValley$Ways;II)V"⟩
abbrev cX6_bestNext : ByteArray := prog_8_method_6_code
def yX6_bestNext : MethodName := ⟨RX6, "bestNext", "(LEchoValley$Ways;II)I"⟩
def RX7 : String := "EchoValley$Ways"
def TX7 : u_T := fun k => match k with
  | _ => ("EchoValley$Ways", "near", "[I", true)
def tyX7 : Nat → FieldType := fun k => match k with
  | _ => .array .int
abbrev wsX70 : List Cond := u_ws RX7 TX7 1
theorem nmX7 : ∀ a, a < 1 → ∀ b, b < 1 → a ≠ b → (TX7 a).2.1 ≠ (TX7 b).2.1 := by decide +kernel
theorem tyX7_ok : ∀ k, k < 1 → parseFieldDescriptor (TX7 k).2.2.1 = some (tyX7 k) := by decide +kernel
abbrev cX7_init : ByteArray := prog_9_method_1_code
def yX7_init : MethodName := ⟨RX7, "<init>", "()V"⟩
abbrev cX7_become : ByteArray := prog_9_method_2_code
def yX7_become : MethodName := ⟨RX7, "become", "(LEchoValley$Ways;)V"⟩
abbrev cX7_has : ByteArray := prog_9_method_3_code
def yX7_has : MethodName := ⟨RX7, "has", "(II)Z"⟩
abbrev cX7_put : ByteArray := prog_9_method_4_code
def yX7_put : MethodName := ⟨RX7, "put", "(IIZ)V"⟩
abbrev cX7_putHalf : ByteArray := prog_9_method_5_code
def yX7_putHalf : MethodName := ⟨RX7, "putHalf", "(IIZ)V"⟩
abbrev cX7_isOpen : ByteArray := prog_9_method_6_code
def yX7_isOpen : MethodName := ⟨RX7, "isOpen", "(II)Z"⟩
abbrev cX7_total : ByteArray := prog_9_method_7_code
def yX7_total : MethodName := ⟨RX7, "total", "()I"⟩
abbrev cX7_fewestBetween : ByteArray := prog_9_method_8_code
def yX7_fewestBetween : MethodName := ⟨RX7, "fewestBetween", "(II)I"⟩
abbrev cX7_within : ByteArray := prog_9_method_9_code
def yX7_within : MethodName := ⟨RX7, "within", "(II)I"⟩
abbrev cX7_spread : ByteArray := prog_9_method_10_code
def yX7_spread : MethodName := ⟨RX7, "spread", "(I)I"⟩
def RX8 : String := "EchoValley"
def TX8 : u_T := fun k => match k with
  | 0 => ("EchoValley", "valley", "LEchoValley$Valley;", true)
  | 1 => ("EchoValley", "kept", "LEchoValley$Valley;", true)
  | 2 => ("EchoValley", "draft", "LEchoValley$Valley;", true)
  | 3 => ("EchoValley", "isKept", "Z", false)
  | 4 => ("EchoValley", "reader", "LEchoValley$Reader;", true)
  | 5 => ("EchoValley", "sheets", "[LEchoValley$Sheet;", true)
  | 6 => ("EchoValley", "latestWalk", "LEchoValley$Walk;", true)
  | _ => ("EchoValley", "findings", "[I", true)
def tyX8 : Nat → FieldType := fun k => match k with
  | 0 => .object "EchoValley$Valley"
  | 1 => .object "EchoValley$Valley"
  | 2 => .object "EchoValley$Valley"
  | 3 => .boolean
  | 4 => .object "EchoValley$Reader"
  | 5 => .array (.object "EchoValley$Sheet")
  | 6 => .object "EchoValley$Walk"
  | _ => .array .int
abbrev wsX80 : List Cond := u_ws RX8 TX8 8
theorem nmX8 : ∀ a, a < 8 → ∀ b, b < 8 → a ≠ b → (TX8 a).2.1 ≠ (TX8 b).2.1 := by decide +kernel
theorem tyX8_ok : ∀ k, k < 8 → parseFieldDescriptor (TX8 k).2.2.1 = some (tyX8 k) := by decide +kernel
abbrev cX8_init : ByteArray := prog_1_method_1_code
def yX8_init : MethodName := ⟨RX8, "<init>", "()V"⟩
abbrev cX8_way : ByteArray := prog_1_method_2_code
def yX8_way : MethodName := ⟨RX8, "way", "(IIZ)I"⟩
abbrev cX8_steps : ByteArray := prog_1_method_3_code
def yX8_steps : MethodName := ⟨RX8, "steps", "(II)I"⟩
abbrev cX8_days : ByteArray := prog_1_method_4_code
def yX8_days : MethodName := ⟨RX8, "days", "(I)I"⟩
abbrev cX8_rain : ByteArray := prog_1_method_5_code
def yX8_rain : MethodName := ⟨RX8, "rain", "(IZ)I"⟩
abbrev cX8_weather : ByteArray := prog_1_method_6_code
def yX8_weather : MethodName := ⟨RX8, "weather", "(III)I"⟩
abbrev cX8_keep : ByteArray := prog_1_method_7_code
def yX8_keep : MethodName := ⟨RX8, "keep", "(I)I"⟩
abbrev cX8_say : ByteArray := prog_1_method_8_code
def yX8_say : MethodName := ⟨RX8, "say", "(IIIII)I"⟩
abbrev cX8_sayingOf : ByteArray := prog_1_method_9_code
def yX8_sayingOf : MethodName := ⟨RX8, "sayingOf", "(II)I"⟩
abbrev cX8_turn : ByteArray := prog_1_method_10_code
def yX8_turn : MethodName := ⟨RX8, "turn", "(II)I"⟩
abbrev cX8_age : ByteArray := prog_1_method_11_code
def yX8_age : MethodName := ⟨RX8, "age", "(II)I"⟩
abbrev cX8_over : ByteArray := prog_1_method_12_code
def yX8_over : MethodName := ⟨RX8, "over", "(I)I"⟩
abbrev cX8_until : ByteArray := prog_1_method_13_code
def yX8_until : MethodName := ⟨RX8, "until", "(I)I"⟩
abbrev cX8_reaches : ByteArray := prog_1_method_14_code
def yX8_reaches : MethodName := ⟨RX8, "reaches", "(II)I"⟩
abbrev cX8_drowns : ByteArray := prog_1_method_15_code
def yX8_drowns : MethodName := ⟨RX8, "drowns", "(I)I"⟩
abbrev cX8_heard : ByteArray := prog_1_method_16_code
def yX8_heard : MethodName := ⟨RX8, "heard", "(II)I"⟩
abbrev cX8_which : ByteArray := prog_1_method_17_code
def yX8_which : MethodName := ⟨RX8, "which", "(III)I"⟩
abbrev cX8_words : ByteArray := prog_1_method_18_code
def yX8_words : MethodName := ⟨RX8, "words", "(II)I"⟩
abbrev cX8_plain : ByteArray := prog_1_method_19_code
def yX8_plain : MethodName := ⟨RX8, "plain", "(II)I"⟩
abbrev cX8_alone : ByteArray := prog_1_method_20_code
def yX8_alone : MethodName := ⟨RX8, "alone", "(I)I"⟩
abbrev cX8_full : ByteArray := prog_1_method_21_code
def yX8_full : MethodName := ⟨RX8, "full", "(II)I"⟩
abbrev cX8_person : ByteArray := prog_1_method_22_code
def yX8_person : MethodName := ⟨RX8, "person", "(IIII)I"⟩
abbrev cX8_where : ByteArray := prog_1_method_23_code
def yX8_where : MethodName := ⟨RX8, "where", "(II)I"⟩
abbrev cX8_hears : ByteArray := prog_1_method_24_code
def yX8_hears : MethodName := ⟨RX8, "hears", "(II)I"⟩
abbrev cX8_first : ByteArray := prog_1_method_25_code
def yX8_first : MethodName := ⟨RX8, "first", "(II)I"⟩
abbrev cX8_who : ByteArray := prog_1_method_26_code
def yX8_who : MethodName := ⟨RX8, "who", "(I)I"⟩
abbrev cX8_said : ByteArray := prog_1_method_27_code
def yX8_said : MethodName := ⟨RX8, "said", "(I)I"⟩
abbrev cX8_tell : ByteArray := prog_1_method_28_code
def yX8_tell : MethodName := ⟨RX8, "tell", "(II)I"⟩
abbrev cX8_needs : ByteArray := prog_1_method_29_code
def yX8_needs : MethodName := ⟨RX8, "needs", "(I)I"⟩
abbrev cX8_walk : ByteArray := prog_1_method_30_code
def yX8_walk : MethodName := ⟨RX8, "walk", "(III)I"⟩
abbrev cX8_step : ByteArray := prog_1_method_31_code
def yX8_step : MethodName := ⟨RX8, "step", "(I)I"⟩
abbrev cX8_crowd : ByteArray := prog_1_method_32_code
def yX8_crowd : MethodName := ⟨RX8, "crowd", "()I"⟩
abbrev cX8_seed : ByteArray := prog_1_method_33_code
def yX8_seed : MethodName := ⟨RX8, "seed", "(I)I"⟩
abbrev cX8_feed : ByteArray := prog_1_method_34_code
def yX8_feed : MethodName := ⟨RX8, "feed", "(II)I"⟩
abbrev cX8_wipe : ByteArray := prog_1_method_35_code
def yX8_wipe : MethodName := ⟨RX8, "wipe", "()I"⟩
abbrev cX8_text : ByteArray := prog_1_method_36_code
def yX8_text : MethodName := ⟨RX8, "text", "()I"⟩
abbrev cX8_hold : ByteArray := prog_1_method_37_code
def yX8_hold : MethodName := ⟨RX8, "hold", "(II)I"⟩
abbrev cX8_as : ByteArray := prog_1_method_38_code
def yX8_as : MethodName := ⟨RX8, "as", "(II)I"⟩
abbrev cX8_sheet : ByteArray := prog_1_method_39_code
def yX8_sheet : MethodName := ⟨RX8, "sheet", "(III)I"⟩
abbrev cX8_write : ByteArray := prog_1_method_40_code
def yX8_write : MethodName := ⟨RX8, "write", "(III)I"⟩
abbrev cX8_copy : ByteArray := prog_1_method_41_code
def yX8_copy : MethodName := ⟨RX8, "copy", "(IIIII)I"⟩
abbrev cX8_load : ByteArray := prog_1_method_42_code
def yX8_load : MethodName := ⟨RX8, "load", "(II)I"⟩
abbrev cX8_judge : ByteArray := prog_1_method_43_code
def yX8_judge : MethodName := ⟨RX8, "judge", "(II)I"⟩
abbrev cX8_image : ByteArray := prog_1_method_44_code
def yX8_image : MethodName := ⟨RX8, "image", "()I"⟩
abbrev cX8_undo : ByteArray := prog_1_method_45_code
def yX8_undo : MethodName := ⟨RX8, "undo", "()I"⟩
abbrev cX8_tear : ByteArray := prog_1_method_46_code
def yX8_tear : MethodName := ⟨RX8, "tear", "()I"⟩
abbrev cX8_count : ByteArray := prog_1_method_47_code
def yX8_count : MethodName := ⟨RX8, "count", "(I)I"⟩
abbrev cX8_status : ByteArray := prog_1_method_48_code
def yX8_status : MethodName := ⟨RX8, "status", "(I)I"⟩
abbrev cX8_finding : ByteArray := prog_1_method_49_code
def yX8_finding : MethodName := ⟨RX8, "finding", "(I)I"⟩
abbrev cX8_isSaying : ByteArray := prog_1_method_50_code
def yX8_isSaying : MethodName := ⟨RX8, "isSaying", "(I)Z"⟩
abbrev cX8_isPlace : ByteArray := prog_1_method_51_code
def yX8_isPlace : MethodName := ⟨RX8, "isPlace", "(I)Z"⟩
abbrev cX8_isDay : ByteArray := prog_1_method_52_code
def yX8_isDay : MethodName := ⟨RX8, "isDay", "(I)Z"⟩
abbrev cX8_isHour : ByteArray := prog_1_method_53_code
def yX8_isHour : MethodName := ⟨RX8, "isHour", "(I)Z"⟩
abbrev cX8_isWhen : ByteArray := prog_1_method_54_code
def yX8_isWhen : MethodName := ⟨RX8, "isWhen", "(I)Z"⟩
abbrev cX8_isWord : ByteArray := prog_1_method_55_code
def yX8_isWord : MethodName := ⟨RX8, "isWord", "(I)Z"⟩
abbrev cX8_isLoud : ByteArray := prog_1_method_56_code
def yX8_isLoud : MethodName := ⟨RX8, "isLoud", "(I)Z"⟩
abbrev cX8_isPerson : ByteArray := prog_1_method_57_code
def yX8_isPerson : MethodName := ⟨RX8, "isPerson", "(I)Z"⟩
abbrev cX8_isSpot : ByteArray := prog_1_method_58_code
def yX8_isSpot : MethodName := ⟨RX8, "isSpot", "(I)Z"⟩
abbrev cX8_isSheet : ByteArray := prog_1_method_59_code
def yX8_isSheet : MethodName := ⟨RX8, "isSheet", "(I)Z"⟩
abbrev cX8_dayOf : ByteArray := prog_1_method_60_code
def yX8_dayOf : MethodName := ⟨RX8, "dayOf", "(I)I"⟩
abbrev cX8_hourOf : ByteArray := prog_1_method_61_code
def yX8_hourOf : MethodName := ⟨RX8, "hourOf", "(I)I"⟩
abbrev cX8_isIn : ByteArray := prog_1_method_62_code
def yX8_isIn : MethodName := ⟨RX8, "isIn", "(JI)Z"⟩
def RX9 : String := "EchoValleyModel"
def TX9 : u_T := fun k => match k with
  | 0 => ("EchoValleyModel", "now", "[I", true)
  | 1 => ("EchoValleyModel", "kept", "[I", true)
  | 2 => ("EchoValleyModel", "isKept", "Z", false)
  | 3 => ("EchoValleyModel", "found", "[I", true)
  | 4 => ("EchoValleyModel", "far", "[I", true)
  | 5 => ("EchoValleyModel", "isMeasured", "Z", false)
  | 6 => ("EchoValleyModel", "most", "[I", true)
  | 7 => ("EchoValleyModel", "told", "[I", true)
  | 8 => ("EchoValleyModel", "toldMany", "I", false)
  | 9 => ("EchoValleyModel", "tape", "[I", true)
  | 10 => ("EchoValleyModel", "taped", "I", false)
  | 11 => ("EchoValleyModel", "begins", "I", false)
  | 12 => ("EchoValleyModel", "ends", "I", false)
  | 13 => ("EchoValleyModel", "sort", "I", false)
  | 14 => ("EchoValleyModel", "value", "I", false)
  | 15 => ("EchoValleyModel", "isWrong", "Z", false)
  | 16 => ("EchoValleyModel", "kinds", "[Ljava/lang/String;", true)
  | 17 => ("EchoValleyModel", "items", "[I", true)
  | 18 => ("EchoValleyModel", "itemMany", "I", false)
  | 19 => ("EchoValleyModel", "sayingMany", "I", false)
  | 20 => ("EchoValleyModel", "widths", "[I", true)
  | 21 => ("EchoValleyModel", "sizes", "[I", true)
  | 22 => ("EchoValleyModel", "numbers", "[I", true)
  | _ => ("EchoValleyModel", "moved", "[I", true)
def tyX9 : Nat → FieldType := fun k => match k with
  | 0 => .array .int
  | 1 => .array .int
  | 2 => .boolean
  | 3 => .array .int
  | 4 => .array .int
  | 5 => .boolean
  | 6 => .array .int
  | 7 => .array .int
  | 8 => .int
  | 9 => .array .int
  | 10 => .int
  | 11 => .int
  | 12 => .int
  | 13 => .int
  | 14 => .int
  | 15 => .boolean
  | 16 => .array (.object "java/lang/String")
  | 17 => .array .int
  | 18 => .int
  | 19 => .int
  | 20 => .array .int
  | 21 => .array .int
  | 22 => .array .int
  | _ => .array .int
abbrev wsX90 : List Cond := u_ws RX9 TX9 24
theorem nmX9 : ∀ a, a < 24 → ∀ b, b < 24 → a ≠ b → (TX9 a).2.1 ≠ (TX9 b).2.1 := by decide +kernel
theorem tyX9_ok : ∀ k, k < 24 → parseFieldDescriptor (TX9 k).2.2.1 = some (tyX9 k) := by decide +kernel
abbrev cX9_init : ByteArray := prog_11_method_1_code
def yX9_init : MethodName := ⟨RX9, "<init>", "()V"⟩
abbrev cX9_finding : ByteArray := prog_11_method_2_code
def yX9_finding : MethodName := ⟨RX9, "finding", "(I)I"⟩
abbrev cX9_within : ByteArray := prog_11_method_3_code
def yX9_within : MethodName := ⟨RX9, "within", "(III)Z"⟩
abbrev cX9_has : ByteArray := prog_11_method_4_code
def yX9_has : MethodName := ⟨RX9, "has", "(II)Z"⟩
abbrev cX9_become : ByteArray := prog_11_method_5_code
def yX9_become : MethodName := ⟨RX9, "become", "(II)I"⟩
abbrev cX9_isPlace : ByteArray := prog_11_method_6_code
def yX9_isPlace : MethodName := ⟨RX9, "isPlace", "(I)Z"⟩
abbrev cX9_isDay : ByteArray := prog_11_method_7_code
def yX9_isDay : MethodName := ⟨RX9, "isDay", "(I)Z"⟩
abbrev cX9_isHour : ByteArray := prog_11_method_8_code
def yX9_isHour : MethodName := ⟨RX9, "isHour", "(I)Z"⟩
abbrev cX9_isWhen : ByteArray := prog_11_method_9_code
def yX9_isWhen : MethodName := ⟨RX9, "isWhen", "(I)Z"⟩
abbrev cX9_isPerson : ByteArray := prog_11_method_10_code
def yX9_isPerson : MethodName := ⟨RX9, "isPerson", "(I)Z"⟩
abbrev cX9_isSaying : ByteArray := prog_11_method_11_code
def yX9_isSaying : MethodName := ⟨RX9, "isSaying", "(I)Z"⟩
abbrev cX9_isWay : ByteArray := prog_11_method_12_code
def yX9_isWay : MethodName := ⟨RX9, "isWay", "(II)Z"⟩
abbrev cX9_ways : ByteArray := prog_11_method_13_code
def yX9_ways : MethodName := ⟨RX9, "ways", "(III)V"⟩
abbrev cX9_way : ByteArray := prog_11_method_14_code
def yX9_way : MethodName := ⟨RX9, "way", "(IIZ)I"⟩
abbrev cX9_farOf : ByteArray := prog_11_method_15_code
def yX9_farOf : MethodName := ⟨RX9, "farOf", "(II)I"⟩
abbrev cX9_measure : ByteArray := prog_11_method_16_code
def yX9_measure : MethodName := ⟨RX9, "measure", "()V"⟩
abbrev cX9_steps : ByteArray := prog_11_method_17_code
def yX9_steps : MethodName := ⟨RX9, "steps", "(II)I"⟩
abbrev cX9_days : ByteArray := prog_11_method_18_code
def yX9_days : MethodName := ⟨RX9, "days", "(I)I"⟩
abbrev cX9_rain : ByteArray := prog_11_method_19_code
def yX9_rain : MethodName := ⟨RX9, "rain", "(IZ)I"⟩
abbrev cX9_drawn : ByteArray := prog_11_method_20_code
def yX9_drawn : MethodName := ⟨RX9, "drawn", "(I)I"⟩
abbrev cX9_weather : ByteArray := prog_11_method_21_code
def yX9_weather : MethodName := ⟨RX9, "weather", "(III)I"⟩
abbrev cX9_keep : ByteArray := prog_11_method_22_code
def yX9_keep : MethodName := ⟨RX9, "keep", "(I)I"⟩
abbrev cX9_of : ByteArray := prog_11_method_23_code
def yX9_of : MethodName := ⟨RX9, "of", "(II)I"⟩
abbrev cX9_says : ByteArray := prog_11_method_24_code
def yX9_says : MethodName := ⟨RX9, "says", "(IIIII)I"⟩
abbrev cX9_say : ByteArray := prog_11_method_25_code
def yX9_say : MethodName := ⟨RX9, "say", "(IIIII)I"⟩
abbrev cX9_lasts : ByteArray := prog_11_method_26_code
def yX9_lasts : MethodName := ⟨RX9, "lasts", "(I)I"⟩
abbrev cX9_reach : ByteArray := prog_11_method_27_code
def yX9_reach : MethodName := ⟨RX9, "reach", "(I)I"⟩
abbrev cX9_sayingOf : ByteArray := prog_11_method_28_code
def yX9_sayingOf : MethodName := ⟨RX9, "sayingOf", "(II)I"⟩
abbrev cX9_turn : ByteArray := prog_11_method_29_code
def yX9_turn : MethodName := ⟨RX9, "turn", "(II)I"⟩
abbrev cX9_ageOf : ByteArray := prog_11_method_30_code
def yX9_ageOf : MethodName := ⟨RX9, "ageOf", "(II)I"⟩
abbrev cX9_age : ByteArray := prog_11_method_31_code
def yX9_age : MethodName := ⟨RX9, "age", "(II)I"⟩
abbrev cX9_isOver : ByteArray := prog_11_method_32_code
def yX9_isOver : MethodName := ⟨RX9, "isOver", "(II)Z"⟩
abbrev cX9_overOf : ByteArray := prog_11_method_33_code
def yX9_overOf : MethodName := ⟨RX9, "overOf", "(I)I"⟩
abbrev cX9_over : ByteArray := prog_11_method_34_code
def yX9_over : MethodName := ⟨RX9, "over", "(I)I"⟩
abbrev cX9_isHeard : ByteArray := prog_11_method_35_code
def yX9_isHeard : MethodName := ⟨RX9, "isHeard", "(II)Z"⟩
abbrev cX9_until : ByteArray := prog_11_method_36_code
def yX9_until : MethodName := ⟨RX9, "until", "(I)I"⟩
abbrev cX9_near : ByteArray := prog_11_method_37_code
def yX9_near : MethodName := ⟨RX9, "near", "(II)I"⟩
abbrev cX9_reachesOf : ByteArray := prog_11_method_38_code
def yX9_reachesOf : MethodName := ⟨RX9, "reachesOf", "(I)I"⟩
abbrev cX9_reaches : ByteArray := prog_11_method_39_code
def yX9_reaches : MethodName := ⟨RX9, "reaches", "(II)I"⟩
abbrev cX9_drowns : ByteArray := prog_11_method_40_code
def yX9_drowns : MethodName := ⟨RX9, "drowns", "(I)I"⟩
abbrev cX9_isHeardAt : ByteArray := prog_11_method_41_code
def yX9_isHeardAt : MethodName := ⟨RX9, "isHeardAt", "(IIII)Z"⟩
abbrev cX9_heardAt : ByteArray := prog_11_method_42_code
def yX9_heardAt : MethodName := ⟨RX9, "heardAt", "(III)I"⟩
abbrev cX9_heard : ByteArray := prog_11_method_43_code
def yX9_heard : MethodName := ⟨RX9, "heard", "(II)I"⟩
abbrev cX9_which : ByteArray := prog_11_method_44_code
def yX9_which : MethodName := ⟨RX9, "which", "(III)I"⟩
abbrev cX9_words : ByteArray := prog_11_method_45_code
def yX9_words : MethodName := ⟨RX9, "words", "(II)I"⟩
abbrev cX9_plain : ByteArray := prog_11_method_46_code
def yX9_plain : MethodName := ⟨RX9, "plain", "(II)I"⟩
abbrev cX9_alone : ByteArray := prog_11_method_47_code
def yX9_alone : MethodName := ⟨RX9, "alone", "(I)I"⟩
abbrev cX9_full : ByteArray := prog_11_method_48_code
def yX9_full : MethodName := ⟨RX9, "full", "(II)I"⟩
abbrev cX9_whereIs : ByteArray := prog_11_method_49_code
def yX9_whereIs : MethodName := ⟨RX9, "whereIs", "(II)I"⟩
abbrev cX9_isAt : ByteArray := prog_11_method_50_code
def yX9_isAt : MethodName := ⟨RX9, "isAt", "(IIII)V"⟩
abbrev cX9_manyAt : ByteArray := prog_11_method_51_code
def yX9_manyAt : MethodName := ⟨RX9, "manyAt", "(II)I"⟩
abbrev cX9_person : ByteArray := prog_11_method_52_code
def yX9_person : MethodName := ⟨RX9, "person", "(IIII)I"⟩
abbrev cX9_where : ByteArray := prog_11_method_53_code
def yX9_where : MethodName := ⟨RX9, "where", "(II)I"⟩
abbrev cX9_hearsIt : ByteArray := prog_11_method_54_code
def yX9_hearsIt : MethodName := ⟨RX9, "hearsIt", "(III)Z"⟩
abbrev cX9_hears : ByteArray := prog_11_method_55_code
def yX9_hears : MethodName := ⟨RX9, "hears", "(II)I"⟩
abbrev cX9_first : ByteArray := prog_11_method_56_code
def yX9_first : MethodName := ⟨RX9, "first", "(II)I"⟩
abbrev cX9_who : ByteArray := prog_11_method_57_code
def yX9_who : MethodName := ⟨RX9, "who", "(I)I"⟩
abbrev cX9_said : ByteArray := prog_11_method_58_code
def yX9_said : MethodName := ⟨RX9, "said", "(I)I"⟩
abbrev cX9_tell : ByteArray := prog_11_method_59_code
def yX9_tell : MethodName := ⟨RX9, "tell", "(II)I"⟩
abbrev cX9_isNear : ByteArray := prog_11_method_60_code
def yX9_isNear : MethodName := ⟨RX9, "isNear", "(IIII)Z"⟩
abbrev cX9_needs : ByteArray := prog_11_method_61_code
def yX9_needs : MethodName := ⟨RX9, "needs", "(I)I"⟩
abbrev cX9_walk : ByteArray := prog_11_method_62_code
def yX9_walk : MethodName := ⟨RX9, "walk", "(III)I"⟩
abbrev cX9_step : ByteArray := prog_11_method_63_code
def yX9_step : MethodName := ⟨RX9, "step", "(I)I"⟩
abbrev cX9_crowd : ByteArray := prog_11_method_64_code
def yX9_crowd : MethodName := ⟨RX9, "crowd", "()I"⟩
abbrev cX9_seed : ByteArray := prog_11_method_65_code
def yX9_seed : MethodName := ⟨RX9, "seed", "(I)I"⟩
abbrev cX9_feed : ByteArray := prog_11_method_66_code
def yX9_feed : MethodName := ⟨RX9, "feed", "(II)I"⟩
abbrev cX9_wipe : ByteArray := prog_11_method_67_code
def yX9_wipe : MethodName := ⟨RX9, "wipe", "()I"⟩
abbrev cX9_byteAt : ByteArray := prog_11_method_68_code
def yX9_byteAt : MethodName := ⟨RX9, "byteAt", "(I)I"⟩
abbrev cX9_next : ByteArray := prog_11_method_69_code
def yX9_next : MethodName := ⟨RX9, "next", "()V"⟩
abbrev cX9_isWord : ByteArray := prog_11_method_70_code
def yX9_isWord : MethodName := ⟨RX9, "isWord", "(Ljava/lang/String;)Z"⟩
abbrev cX9_must : ByteArray := prog_11_method_71_code
def yX9_must : MethodName := ⟨RX9, "must", "(Z)V"⟩
abbrev cX9_number : ByteArray := prog_11_method_72_code
def yX9_number : MethodName := ⟨RX9, "number", "(III)I"⟩
abbrev cX9_item : ByteArray := prog_11_method_73_code
def yX9_item : MethodName := ⟨RX9, "item", "(IIIII)V"⟩
abbrev cX9_readItem : ByteArray := prog_11_method_74_code
def yX9_readItem : MethodName := ⟨RX9, "readItem", "()V"⟩
abbrev cX9_readSaying : ByteArray := prog_11_method_75_code
def yX9_readSaying : MethodName := ⟨RX9, "readSaying", "(I)V"⟩
abbrev cX9_readPerson : ByteArray := prog_11_method_76_code
def yX9_readPerson : MethodName := ⟨RX9, "readPerson", "()V"⟩
abbrev cX9_isSo : ByteArray := prog_11_method_77_code
def yX9_isSo : MethodName := ⟨RX9, "isSo", "(I)V"⟩
abbrev cX9_text : ByteArray := prog_11_method_78_code
def yX9_text : MethodName := ⟨RX9, "text", "()I"⟩
abbrev cX9_hold : ByteArray := prog_11_method_79_code
def yX9_hold : MethodName := ⟨RX9, "hold", "(II)I"⟩
abbrev cX9_above : ByteArray := prog_11_method_80_code
def yX9_above : MethodName := ⟨RX9, "above", "(I)I"⟩
abbrev cX9_as : ByteArray := prog_11_method_81_code
def yX9_as : MethodName := ⟨RX9, "as", "(II)I"⟩
abbrev cX9_isSheet : ByteArray := prog_11_method_82_code
def yX9_isSheet : MethodName := ⟨RX9, "isSheet", "(I)Z"⟩
abbrev cX9_cutTo : ByteArray := prog_11_method_83_code
def yX9_cutTo : MethodName := ⟨RX9, "cutTo", "(II)I"⟩
abbrev cX9_sheet : ByteArray := prog_11_method_84_code
def yX9_sheet : MethodName := ⟨RX9, "sheet", "(III)I"⟩
abbrev cX9_write : ByteArray := prog_11_method_85_code
def yX9_write : MethodName := ⟨RX9, "write", "(III)I"⟩
abbrev cX9_copy : ByteArray := prog_11_method_86_code
def yX9_copy : MethodName := ⟨RX9, "copy", "(IIIII)I"⟩
abbrev cX9_load : ByteArray := prog_11_method_87_code
def yX9_load : MethodName := ⟨RX9, "load", "(II)I"⟩
abbrev cX9_judge : ByteArray := prog_11_method_88_code
def yX9_judge : MethodName := ⟨RX9, "judge", "(II)I"⟩
abbrev cX9_copyRow : ByteArray := prog_11_method_89_code
def yX9_copyRow : MethodName := ⟨RX9, "copyRow", "([I[I)V"⟩
abbrev cX9_image : ByteArray := prog_11_method_90_code
def yX9_image : MethodName := ⟨RX9, "image", "()I"⟩
abbrev cX9_undo : ByteArray := prog_11_method_91_code
def yX9_undo : MethodName := ⟨RX9, "undo", "()I"⟩
abbrev cX9_tear : ByteArray := prog_11_method_92_code
def yX9_tear : MethodName := ⟨RX9, "tear", "()I"⟩
abbrev cX9_count : ByteArray := prog_11_method_93_code
def yX9_count : MethodName := ⟨RX9, "count", "(I)I"⟩
abbrev cX9_status : ByteArray := prog_11_method_94_code
def yX9_status : MethodName := ⟨RX9, "status", "(I)I"⟩
def RJx145de : String := "java/io/Serializable"
def TJx145de : u_T := fun k => match k with
  | _ => ("", "", "", false)
def tyJx145de : Nat → FieldType := fun k => match k with
  | _ => .int
abbrev wsJx145de0 : List Cond := u_ws RJx145de TJx145de 0
theorem nmJx145de : ∀ a, a < 0 → ∀ b, b < 0 → a ≠ b → (TJx145de a).2.1 ≠ (TJx145de b).2.1 := by decide +kernel
theorem tyJx145de_ok : ∀ k, k < 0 → parseFieldDescriptor (TJx145de k).2.2.1 = some (tyJx145de k) := by decide +kernel
def RJx9f9b0 : String := "java/lang/CharSequence"
def TJx9f9b0 : u_T := fun k => match k with
  | _ => ("", "", "", false)
def tyJx9f9b0 : Nat → FieldType := fun k => match k with
  | _ => .int
abbrev wsJx9f9b00 : List Cond := u_ws RJx9f9b0 TJx9f9b0 0
theorem nmJx9f9b0 : ∀ a, a < 0 → ∀ b, b < 0 → a ≠ b → (TJx9f9b0 a).2.1 ≠ (TJx9f9b0 b).2.1 := by decide +kernel
theorem tyJx9f9b0_ok : ∀ k, k < 0 → parseFieldDescriptor (TJx9f9b0 k).2.2.1 = some (tyJx9f9b0 k) := by decide +kernel
def RJxb160c : String := "java/lang/Comparable"
def TJxb160c : u_T := fun k => match k with
  | _ => ("", "", "", false)
def tyJxb160c : Nat → FieldType := fun k => match k with
  | _ => .int
abbrev wsJxb160c0 : List Cond := u_ws RJxb160c TJxb160c 0
theorem nmJxb160c : ∀ a, a < 0 → ∀ b, b < 0 → a ≠ b → (TJxb160c a).2.1 ≠ (TJxb160c b).2.1 := by decide +kernel
theorem tyJxb160c_ok : ∀ k, k < 0 → parseFieldDescriptor (TJxb160c k).2.2.1 = some (tyJxb160c k) := by decide +kernel
def RJ6 : String := "java/lang/Integer"
def TJ6 : u_T := fun k => match k with
  | _ => ("", "", "", false)
def tyJ6 : Nat → FieldType := fun k => match k with
  | _ => .int
abbrev wsJ60 : List Cond := u_ws RJ6 TJ6 0
theorem nmJ6 : ∀ a, a < 0 → ∀ b, b < 0 → a ≠ b → (TJ6 a).2.1 ≠ (TJ6 b).2.1 := by decide +kernel
theorem tyJ6_ok : ∀ k, k < 0 → parseFieldDescriptor (TJ6 k).2.2.1 = some (tyJ6 k) := by decide +kernel
abbrev cJ6_bitCount_0f7a4 : ByteArray := prog_12_method_49_code
def yJ6_bitCount_0f7a4 : MethodName := ⟨RJ6, "bitCount", "(I)I"⟩
def RJ13 : String := "java/lang/Long"
def TJ13 : u_T := fun k => match k with
  | _ => ("", "", "", false)
def tyJ13 : Nat → FieldType := fun k => match k with
  | _ => .int
abbrev wsJ130 : List Cond := u_ws RJ13 TJ13 0
theorem nmJ13 : ∀ a, a < 0 → ∀ b, b < 0 → a ≠ b → (TJ13 a).2.1 ≠ (TJ13 b).2.1 := by decide +kernel
theorem tyJ13_ok : ∀ k, k < 0 → parseFieldDescriptor (TJ13 k).2.2.1 = some (tyJ13 k) := by decide +kernel
abbrev cJ13_bitCount_95d88 : ByteArray := prog_13_method_50_code
def yJ13_bitCount_95d88 : MethodName := ⟨RJ13, "bitCount", "(J)I"⟩
def RJ9 : String := "java/lang/Math"
def TJ9 : u_T := fun k => match k with
  | _ => ("", "", "", false)
def tyJ9 : Nat → FieldType := fun k => match k with
  | _ => .int
abbrev wsJ90 : List Cond := u_ws RJ9 TJ9 0
theorem nmJ9 : ∀ a, a < 0 → ∀ b, b < 0 → a ≠ b → (TJ9 a).2.1 ≠ (TJ9 b).2.1 := by decide +kernel
theorem tyJ9_ok : ∀ k, k < 0 → parseFieldDescriptor (TJ9 k).2.2.1 = some (tyJ9 k) := by decide +kernel
abbrev cJ9_max_7cf53 : ByteArray := prog_14_method_65_code
def yJ9_max_7cf53 : MethodName := ⟨RJ9, "max", "(II)I"⟩
abbrev cJ9_min_7cf53 : ByteArray := prog_14_method_69_code
def yJ9_min_7cf53 : MethodName := ⟨RJ9, "min", "(II)I"⟩
def RJ0 : String := "java/lang/String"
def TJ0 : u_T := fun k => match k with
  | _ => ("", "", "", false)
def tyJ0 : Nat → FieldType := fun k => match k with
  | _ => .int
abbrev wsJ00 : List Cond := u_ws RJ0 TJ0 0
theorem nmJ0 : ∀ a, a < 0 → ∀ b, b < 0 → a ≠ b → (TJ0 a).2.1 ≠ (TJ0 b).2.1 := by decide +kernel
theorem tyJ0_ok : ∀ k, k < 0 → parseFieldDescriptor (TJ0 k).2.2.1 = some (tyJ0 k) := by decide +kernel
abbrev cJ0_length_8abf5 : ByteArray := prog_15_method_54_code
def yJ0_length_8abf5 : MethodName := ⟨RJ0, "length", "()I"⟩
abbrev cJ0_charAt_5068e : ByteArray := prog_15_method_56_code
def yJ0_charAt_5068e : MethodName := ⟨RJ0, "charAt", "(I)C"⟩
abbrev cJ0_coder_7d493 : ByteArray := prog_15_method_152_code
def yJ0_coder_7d493 : MethodName := ⟨RJ0, "coder", "()B"⟩
abbrev cJ0_isLatin1_aae02 : ByteArray := prog_15_method_154_code
def yJ0_isLatin1_aae02 : MethodName := ⟨RJ0, "isLatin1", "()Z"⟩
abbrev cJ0_checkIndex_df160 : ByteArray := prog_15_method_155_code
def yJ0_checkIndex_df160 : MethodName := ⟨RJ0, "checkIndex", "(II)V"⟩
def RJ1 : String := "java/lang/StringLatin1"
def TJ1 : u_T := fun k => match k with
  | _ => ("", "", "", false)
def tyJ1 : Nat → FieldType := fun k => match k with
  | _ => .int
abbrev wsJ10 : List Cond := u_ws RJ1 TJ1 0
theorem nmJ1 : ∀ a, a < 0 → ∀ b, b < 0 → a ≠ b → (TJ1 a).2.1 ≠ (TJ1 b).2.1 := by decide +kernel
theorem tyJ1_ok : ∀ k, k < 0 → parseFieldDescriptor (TJ1 k).2.2.1 = some (tyJ1 k) := by decide +kernel
abbrev cJ1_charAt_3b067 : ByteArray := prog_16_method_2_code
def yJ1_charAt_3b067 : MethodName := ⟨RJ1, "charAt", "([BI)C"⟩
def RJ2 : String := "java/lang/StringUTF16"
def TJ2 : u_T := fun k => match k with
  | _ => ("", "", "", false)
def tyJ2 : Nat → FieldType := fun k => match k with
  | _ => .int
abbrev wsJ20 : List Cond := u_ws RJ2 TJ2 0
theorem nmJ2 : ∀ a, a < 0 → ∀ b, b < 0 → a ≠ b → (TJ2 a).2.1 ≠ (TJ2 b).2.1 := by decide +kernel
theorem tyJ2_ok : ∀ k, k < 0 → parseFieldDescriptor (TJ2 k).2.2.1 = some (tyJ2 k) := by decide +kernel
abbrev cJ2_getChar_3b067 : ByteArray := prog_17_method_5_code
def yJ2_getChar_3b067 : MethodName := ⟨RJ2, "getChar", "([BI)C"⟩
abbrev cJ2_length_9d52b : ByteArray := prog_17_method_6_code
def yJ2_length_9d52b : MethodName := ⟨RJ2, "length", "([B)I"⟩
abbrev cJ2_charAt_3b067 : ByteArray := prog_17_method_83_code
def yJ2_charAt_3b067 : MethodName := ⟨RJ2, "charAt", "([BI)C"⟩
abbrev cJ2_checkIndex_2214a : ByteArray := prog_17_method_91_code
def yJ2_checkIndex_2214a : MethodName := ⟨RJ2, "checkIndex", "(I[B)V"⟩
def RJ10 : String := "java/lang/System"
def TJ10 : u_T := fun k => match k with
  | _ => ("", "", "", false)
def tyJ10 : Nat → FieldType := fun k => match k with
  | _ => .int
abbrev wsJ100 : List Cond := u_ws RJ10 TJ10 0
theorem nmJ10 : ∀ a, a < 0 → ∀ b, b < 0 → a ≠ b → (TJ10 a).2.1 ≠ (TJ10 b).2.1 := by decide +kernel
theorem tyJ10_ok : ∀ k, k < 0 → parseFieldDescriptor (TJ10 k).2.2.1 = some (tyJ10 k) := by decide +kernel
def RJxfd54e : String := "java/lang/constant/Constable"
def TJxfd54e : u_T := fun k => match k with
  | _ => ("", "", "", false)
def tyJxfd54e : Nat → FieldType := fun k => match k with
  | _ => .int
abbrev wsJxfd54e0 : List Cond := u_ws RJxfd54e TJxfd54e 0
theorem nmJxfd54e : ∀ a, a < 0 → ∀ b, b < 0 → a ≠ b → (TJxfd54e a).2.1 ≠ (TJxfd54e b).2.1 := by decide +kernel
theorem tyJxfd54e_ok : ∀ k, k < 0 → parseFieldDescriptor (TJxfd54e k).2.2.1 = some (tyJxfd54e k) := by decide +kernel
def RJx3cf43 : String := "java/lang/constant/ConstantDesc"
def TJx3cf43 : u_T := fun k => match k with
  | _ => ("", "", "", false)
def tyJx3cf43 : Nat → FieldType := fun k => match k with
  | _ => .int
abbrev wsJx3cf430 : List Cond := u_ws RJx3cf43 TJx3cf43 0
theorem nmJx3cf43 : ∀ a, a < 0 → ∀ b, b < 0 → a ≠ b → (TJx3cf43 a).2.1 ≠ (TJx3cf43 b).2.1 := by decide +kernel
theorem tyJx3cf43_ok : ∀ k, k < 0 → parseFieldDescriptor (TJx3cf43 k).2.2.1 = some (tyJx3cf43 k) := by decide +kernel
def RJ7 : String := "java/util/Arrays"
def TJ7 : u_T := fun k => match k with
  | _ => ("", "", "", false)
def tyJ7 : Nat → FieldType := fun k => match k with
  | _ => .int
abbrev wsJ70 : List Cond := u_ws RJ7 TJ7 0
theorem nmJ7 : ∀ a, a < 0 → ∀ b, b < 0 → a ≠ b → (TJ7 a).2.1 ≠ (TJ7 b).2.1 := by decide +kernel
theorem tyJ7_ok : ∀ k, k < 0 → parseFieldDescriptor (TJ7 k).2.2.1 = some (tyJ7 k) := by decide +kernel
abbrev cJ7_fill_53178 : ByteArray := prog_19_method_103_code
def yJ7_fill_53178 : MethodName := ⟨RJ7, "fill", "([II)V"⟩
def RJ3 : String := "jdk/internal/util/Preconditions"
def TJ3 : u_T := fun k => match k with
  | _ => ("", "", "", false)
def tyJ3 : Nat → FieldType := fun k => match k with
  | _ => .int
abbrev wsJ30 : List Cond := u_ws RJ3 TJ3 0
theorem nmJ3 : ∀ a, a < 0 → ∀ b, b < 0 → a ≠ b → (TJ3 a).2.1 ≠ (TJ3 b).2.1 := by decide +kernel
theorem tyJ3_ok : ∀ k, k < 0 → parseFieldDescriptor (TJ3 k).2.2.1 = some (tyJ3 k) := by decide +kernel
abbrev cJ3_checkIndex_8e157 : ByteArray := prog_20_method_11_code
def yJ3_checkIndex_8e157 : MethodName := ⟨RJ3, "checkIndex", "(IILjava/util/function/BiFunction;)I"⟩
def RL : String := "EchoValleyLaw"
abbrev cL_law : ByteArray := code
def yL_law : MethodName := ⟨RL, "law", "([I)Z"⟩
abbrev vwCl : List vw_C := [(RX1, TX1, 1), (RX2, TX2, 6), (RX3, TX3, 7), (RX4, TX4, 3), (RX5, TX5, 8), (RX6, TX6, 4), (RX7, TX7, 1), (RX8, TX8, 8), (RX9, TX9, 24)]
