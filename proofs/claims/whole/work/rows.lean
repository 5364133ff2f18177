section
-- ===== PART A: goes FIRST, ahead of the names: the tables' words, and 'selects' of the private methods out of them =====
/-- a private method of a class that the tables say can be made, by its rows of tables_1 -/
def lw_okq (q : MethodName × Nat) : Prop := (q.1.cls ≠ "java/lang/invoke/MethodHandle" ∧ q.1.cls ≠ "java/lang/invoke/VarHandle") ∧ Cond.instantiable q.1.cls q.2 ∈ tables_1 ∧ Cond.privateMethod q.1 ∈ tables_1 ∧ Cond.instanceMethod q.1 ∈ tables_1
theorem lw_p0 : lw_okq (⟨"EchoValley", "finding", "(I)I"⟩, 8) := ⟨⟨by decide +kernel, by decide +kernel⟩, List.mem_of_getElem? (i := 21) (by decide +kernel), List.mem_of_getElem? (i := 243) (by decide +kernel), List.mem_of_getElem? (i := 244) (by decide +kernel)⟩
theorem lw_p1 : lw_okq (⟨"EchoValley$Ways", "putHalf", "(IIZ)V"⟩, 1) := ⟨⟨by decide +kernel, by decide +kernel⟩, List.mem_of_getElem? (i := 35) (by decide +kernel), List.mem_of_getElem? (i := 259) (by decide +kernel), List.mem_of_getElem? (i := 260) (by decide +kernel)⟩
theorem lw_p2 : lw_okq (⟨"EchoValley$Ways", "spread", "(I)I"⟩, 1) := ⟨⟨by decide +kernel, by decide +kernel⟩, List.mem_of_getElem? (i := 35) (by decide +kernel), List.mem_of_getElem? (i := 271) (by decide +kernel), List.mem_of_getElem? (i := 272) (by decide +kernel)⟩
theorem lw_p3 : lw_okq (⟨"EchoValley", "isSaying", "(I)Z"⟩, 8) := ⟨⟨by decide +kernel, by decide +kernel⟩, List.mem_of_getElem? (i := 21) (by decide +kernel), List.mem_of_getElem? (i := 336) (by decide +kernel), List.mem_of_getElem? (i := 337) (by decide +kernel)⟩
theorem lw_p4 : lw_okq (⟨"EchoValley$Sayings", "isOver", "(II)Z"⟩, 7) := ⟨⟨by decide +kernel, by decide +kernel⟩, List.mem_of_getElem? (i := 46) (by decide +kernel), List.mem_of_getElem? (i := 378) (by decide +kernel), List.mem_of_getElem? (i := 379) (by decide +kernel)⟩
theorem lw_p5 : lw_okq (⟨"EchoValley$Walk", "gather", "(LEchoValley$Valley;II)V"⟩, 4) := ⟨⟨by decide +kernel, by decide +kernel⟩, List.mem_of_getElem? (i := 171) (by decide +kernel), List.mem_of_getElem? (i := 552) (by decide +kernel), List.mem_of_getElem? (i := 553) (by decide +kernel)⟩
theorem lw_p6 : lw_okq (⟨"EchoValley$Walk", "addAround", "(II)V"⟩, 4) := ⟨⟨by decide +kernel, by decide +kernel⟩, List.mem_of_getElem? (i := 171) (by decide +kernel), List.mem_of_getElem? (i := 561) (by decide +kernel), List.mem_of_getElem? (i := 562) (by decide +kernel)⟩
theorem lw_p7 : lw_okq (⟨"EchoValley$Walk", "reckon", "(LEchoValley$Ways;II)V"⟩, 4) := ⟨⟨by decide +kernel, by decide +kernel⟩, List.mem_of_getElem? (i := 171) (by decide +kernel), List.mem_of_getElem? (i := 566) (by decide +kernel), List.mem_of_getElem? (i := 567) (by decide +kernel)⟩
theorem lw_p8 : lw_okq (⟨"EchoValley$Walk", "bestNext", "(LEchoValley$Ways;II)I"⟩, 4) := ⟨⟨by decide +kernel, by decide +kernel⟩, List.mem_of_getElem? (i := 171) (by decide +kernel), List.mem_of_getElem? (i := 570) (by decide +kernel), List.mem_of_getElem? (i := 571) (by decide +kernel)⟩
theorem lw_p9 : lw_okq (⟨"EchoValley$Reader", "next", "()V"⟩, 6) := ⟨⟨by decide +kernel, by decide +kernel⟩, List.mem_of_getElem? (i := 143) (by decide +kernel), List.mem_of_getElem? (i := 641) (by decide +kernel), List.mem_of_getElem? (i := 642) (by decide +kernel)⟩
theorem lw_p10 : lw_okq (⟨"EchoValley$Reader", "typeAt", "(I)I"⟩, 6) := ⟨⟨by decide +kernel, by decide +kernel⟩, List.mem_of_getElem? (i := 143) (by decide +kernel), List.mem_of_getElem? (i := 645) (by decide +kernel), List.mem_of_getElem? (i := 646) (by decide +kernel)⟩
theorem lw_p11 : lw_okq (⟨"EchoValley$Reader", "reckonValue", "()V"⟩, 6) := ⟨⟨by decide +kernel, by decide +kernel⟩, List.mem_of_getElem? (i := 143) (by decide +kernel), List.mem_of_getElem? (i := 649) (by decide +kernel), List.mem_of_getElem? (i := 650) (by decide +kernel)⟩
theorem lw_p12 : lw_okq (⟨"EchoValley$Reader", "readItem", "(LEchoValley$Valley;)Z"⟩, 6) := ⟨⟨by decide +kernel, by decide +kernel⟩, List.mem_of_getElem? (i := 143) (by decide +kernel), List.mem_of_getElem? (i := 653) (by decide +kernel), List.mem_of_getElem? (i := 654) (by decide +kernel)⟩
theorem lw_p13 : lw_okq (⟨"EchoValley$Reader", "take", "(Ljava/lang/String;)Z"⟩, 6) := ⟨⟨by decide +kernel, by decide +kernel⟩, List.mem_of_getElem? (i := 143) (by decide +kernel), List.mem_of_getElem? (i := 658) (by decide +kernel), List.mem_of_getElem? (i := 659) (by decide +kernel)⟩
theorem lw_p14 : lw_okq (⟨"EchoValley$Reader", "isAtHand", "(Ljava/lang/String;)Z"⟩, 6) := ⟨⟨by decide +kernel, by decide +kernel⟩, List.mem_of_getElem? (i := 143) (by decide +kernel), List.mem_of_getElem? (i := 662) (by decide +kernel), List.mem_of_getElem? (i := 663) (by decide +kernel)⟩
theorem lw_p15 : lw_okq (⟨"EchoValley$Reader", "readWay", "(LEchoValley$Valley;)Z"⟩, 6) := ⟨⟨by decide +kernel, by decide +kernel⟩, List.mem_of_getElem? (i := 143) (by decide +kernel), List.mem_of_getElem? (i := 714) (by decide +kernel), List.mem_of_getElem? (i := 715) (by decide +kernel)⟩
def lw_privs_1 : List (MethodName × Nat) := [(⟨"EchoValley", "finding", "(I)I"⟩, 8), (⟨"EchoValley$Ways", "putHalf", "(IIZ)V"⟩, 1), (⟨"EchoValley$Ways", "spread", "(I)I"⟩, 1), (⟨"EchoValley", "isSaying", "(I)Z"⟩, 8), (⟨"EchoValley$Sayings", "isOver", "(II)Z"⟩, 7), (⟨"EchoValley$Walk", "gather", "(LEchoValley$Valley;II)V"⟩, 4), (⟨"EchoValley$Walk", "addAround", "(II)V"⟩, 4), (⟨"EchoValley$Walk", "reckon", "(LEchoValley$Ways;II)V"⟩, 4), (⟨"EchoValley$Walk", "bestNext", "(LEchoValley$Ways;II)I"⟩, 4), (⟨"EchoValley$Reader", "next", "()V"⟩, 6), (⟨"EchoValley$Reader", "typeAt", "(I)I"⟩, 6), (⟨"EchoValley$Reader", "reckonValue", "()V"⟩, 6), (⟨"EchoValley$Reader", "readItem", "(LEchoValley$Valley;)Z"⟩, 6), (⟨"EchoValley$Reader", "take", "(Ljava/lang/String;)Z"⟩, 6), (⟨"EchoValley$Reader", "isAtHand", "(Ljava/lang/String;)Z"⟩, 6), (⟨"EchoValley$Reader", "readWay", "(LEchoValley$Valley;)Z"⟩, 6)]
theorem lw_r1 : ∀ q ∈ lw_privs_1, lw_okq q := List.forall_mem_cons.mpr ⟨lw_p0, List.forall_mem_cons.mpr ⟨lw_p1, List.forall_mem_cons.mpr ⟨lw_p2, List.forall_mem_cons.mpr ⟨lw_p3, List.forall_mem_cons.mpr ⟨lw_p4, List.forall_mem_cons.mpr ⟨lw_p5, List.forall_mem_cons.mpr ⟨lw_p6, List.forall_mem_cons.mpr ⟨lw_p7, List.forall_mem_cons.mpr ⟨lw_p8, List.forall_mem_cons.mpr ⟨lw_p9, List.forall_mem_cons.mpr ⟨lw_p10, List.forall_mem_cons.mpr ⟨lw_p11, List.forall_mem_cons.mpr ⟨lw_p12, List.forall_mem_cons.mpr ⟨lw_p13, List.forall_mem_cons.mpr ⟨lw_p14, List.forall_mem_cons.mpr ⟨lw_p15, fun _ h => absurd h List.not_mem_nil⟩⟩⟩⟩⟩⟩⟩⟩⟩⟩⟩⟩⟩⟩⟩⟩
theorem lw_p16 : lw_okq (⟨"EchoValley$Reader", "takeNumber", "(II)I"⟩, 6) := ⟨⟨by decide +kernel, by decide +kernel⟩, List.mem_of_getElem? (i := 143) (by decide +kernel), List.mem_of_getElem? (i := 718) (by decide +kernel), List.mem_of_getElem? (i := 719) (by decide +kernel)⟩
theorem lw_p17 : lw_okq (⟨"EchoValley$Reader", "readPerson", "(LEchoValley$Valley;)Z"⟩, 6) := ⟨⟨by decide +kernel, by decide +kernel⟩, List.mem_of_getElem? (i := 143) (by decide +kernel), List.mem_of_getElem? (i := 724) (by decide +kernel), List.mem_of_getElem? (i := 725) (by decide +kernel)⟩
theorem lw_p18 : lw_okq (⟨"EchoValley$Reader", "readKeep", "(LEchoValley$Valley;)Z"⟩, 6) := ⟨⟨by decide +kernel, by decide +kernel⟩, List.mem_of_getElem? (i := 143) (by decide +kernel), List.mem_of_getElem? (i := 732) (by decide +kernel), List.mem_of_getElem? (i := 733) (by decide +kernel)⟩
theorem lw_p19 : lw_okq (⟨"EchoValley$Reader", "readRain", "(LEchoValley$Valley;)Z"⟩, 6) := ⟨⟨by decide +kernel, by decide +kernel⟩, List.mem_of_getElem? (i := 143) (by decide +kernel), List.mem_of_getElem? (i := 737) (by decide +kernel), List.mem_of_getElem? (i := 738) (by decide +kernel)⟩
theorem lw_p20 : lw_okq (⟨"EchoValley$Reader", "kindAtHand", "()I"⟩, 6) := ⟨⟨by decide +kernel, by decide +kernel⟩, List.mem_of_getElem? (i := 143) (by decide +kernel), List.mem_of_getElem? (i := 741) (by decide +kernel), List.mem_of_getElem? (i := 742) (by decide +kernel)⟩
theorem lw_p21 : lw_okq (⟨"EchoValley$Reader", "readSaying", "(LEchoValley$Valley;I)Z"⟩, 6) := ⟨⟨by decide +kernel, by decide +kernel⟩, List.mem_of_getElem? (i := 143) (by decide +kernel), List.mem_of_getElem? (i := 753) (by decide +kernel), List.mem_of_getElem? (i := 754) (by decide +kernel)⟩
theorem lw_p22 : lw_okq (⟨"EchoValleyModel", "finding", "(I)I"⟩, 24) := ⟨⟨by decide +kernel, by decide +kernel⟩, List.mem_of_getElem? (i := 856) (by decide +kernel), List.mem_of_getElem? (i := 955) (by decide +kernel), List.mem_of_getElem? (i := 956) (by decide +kernel)⟩
theorem lw_p23 : lw_okq (⟨"EchoValleyModel", "isWay", "(II)Z"⟩, 24) := ⟨⟨by decide +kernel, by decide +kernel⟩, List.mem_of_getElem? (i := 856) (by decide +kernel), List.mem_of_getElem? (i := 959) (by decide +kernel), List.mem_of_getElem? (i := 960) (by decide +kernel)⟩
theorem lw_p24 : lw_okq (⟨"EchoValleyModel", "ways", "(III)V"⟩, 24) := ⟨⟨by decide +kernel, by decide +kernel⟩, List.mem_of_getElem? (i := 856) (by decide +kernel), List.mem_of_getElem? (i := 963) (by decide +kernel), List.mem_of_getElem? (i := 964) (by decide +kernel)⟩
theorem lw_p25 : lw_okq (⟨"EchoValleyModel", "farOf", "(II)I"⟩, 24) := ⟨⟨by decide +kernel, by decide +kernel⟩, List.mem_of_getElem? (i := 856) (by decide +kernel), List.mem_of_getElem? (i := 971) (by decide +kernel), List.mem_of_getElem? (i := 972) (by decide +kernel)⟩
theorem lw_p26 : lw_okq (⟨"EchoValleyModel", "measure", "()V"⟩, 24) := ⟨⟨by decide +kernel, by decide +kernel⟩, List.mem_of_getElem? (i := 856) (by decide +kernel), List.mem_of_getElem? (i := 975) (by decide +kernel), List.mem_of_getElem? (i := 976) (by decide +kernel)⟩
theorem lw_p27 : lw_okq (⟨"EchoValleyModel", "become", "(II)I"⟩, 24) := ⟨⟨by decide +kernel, by decide +kernel⟩, List.mem_of_getElem? (i := 856) (by decide +kernel), List.mem_of_getElem? (i := 993) (by decide +kernel), List.mem_of_getElem? (i := 994) (by decide +kernel)⟩
theorem lw_p28 : lw_okq (⟨"EchoValleyModel", "drawn", "(I)I"⟩, 24) := ⟨⟨by decide +kernel, by decide +kernel⟩, List.mem_of_getElem? (i := 856) (by decide +kernel), List.mem_of_getElem? (i := 1001) (by decide +kernel), List.mem_of_getElem? (i := 1002) (by decide +kernel)⟩
theorem lw_p29 : lw_okq (⟨"EchoValleyModel", "says", "(IIIII)I"⟩, 24) := ⟨⟨by decide +kernel, by decide +kernel⟩, List.mem_of_getElem? (i := 856) (by decide +kernel), List.mem_of_getElem? (i := 1018) (by decide +kernel), List.mem_of_getElem? (i := 1019) (by decide +kernel)⟩
theorem lw_p30 : lw_okq (⟨"EchoValleyModel", "isSaying", "(I)Z"⟩, 24) := ⟨⟨by decide +kernel, by decide +kernel⟩, List.mem_of_getElem? (i := 856) (by decide +kernel), List.mem_of_getElem? (i := 1026) (by decide +kernel), List.mem_of_getElem? (i := 1027) (by decide +kernel)⟩
theorem lw_p31 : lw_okq (⟨"EchoValleyModel", "of", "(II)I"⟩, 24) := ⟨⟨by decide +kernel, by decide +kernel⟩, List.mem_of_getElem? (i := 856) (by decide +kernel), List.mem_of_getElem? (i := 1030) (by decide +kernel), List.mem_of_getElem? (i := 1031) (by decide +kernel)⟩
def lw_privs_2 : List (MethodName × Nat) := [(⟨"EchoValley$Reader", "takeNumber", "(II)I"⟩, 6), (⟨"EchoValley$Reader", "readPerson", "(LEchoValley$Valley;)Z"⟩, 6), (⟨"EchoValley$Reader", "readKeep", "(LEchoValley$Valley;)Z"⟩, 6), (⟨"EchoValley$Reader", "readRain", "(LEchoValley$Valley;)Z"⟩, 6), (⟨"EchoValley$Reader", "kindAtHand", "()I"⟩, 6), (⟨"EchoValley$Reader", "readSaying", "(LEchoValley$Valley;I)Z"⟩, 6), (⟨"EchoValleyModel", "finding", "(I)I"⟩, 24), (⟨"EchoValleyModel", "isWay", "(II)Z"⟩, 24), (⟨"EchoValleyModel", "ways", "(III)V"⟩, 24), (⟨"EchoValleyModel", "farOf", "(II)I"⟩, 24), (⟨"EchoValleyModel", "measure", "()V"⟩, 24), (⟨"EchoValleyModel", "become", "(II)I"⟩, 24), (⟨"EchoValleyModel", "drawn", "(I)I"⟩, 24), (⟨"EchoValleyModel", "says", "(IIIII)I"⟩, 24), (⟨"EchoValleyModel", "isSaying", "(I)Z"⟩, 24), (⟨"EchoValleyModel", "of", "(II)I"⟩, 24)]
theorem lw_r2 : ∀ q ∈ lw_privs_2, lw_okq q := List.forall_mem_cons.mpr ⟨lw_p16, List.forall_mem_cons.mpr ⟨lw_p17, List.forall_mem_cons.mpr ⟨lw_p18, List.forall_mem_cons.mpr ⟨lw_p19, List.forall_mem_cons.mpr ⟨lw_p20, List.forall_mem_cons.mpr ⟨lw_p21, List.forall_mem_cons.mpr ⟨lw_p22, List.forall_mem_cons.mpr ⟨lw_p23, List.forall_mem_cons.mpr ⟨lw_p24, List.forall_mem_cons.mpr ⟨lw_p25, List.forall_mem_cons.mpr ⟨lw_p26, List.forall_mem_cons.mpr ⟨lw_p27, List.forall_mem_cons.mpr ⟨lw_p28, List.forall_mem_cons.mpr ⟨lw_p29, List.forall_mem_cons.mpr ⟨lw_p30, List.forall_mem_cons.mpr ⟨lw_p31, fun _ h => absurd h List.not_mem_nil⟩⟩⟩⟩⟩⟩⟩⟩⟩⟩⟩⟩⟩⟩⟩⟩
theorem lw_p32 : lw_okq (⟨"EchoValleyModel", "lasts", "(I)I"⟩, 24) := ⟨⟨by decide +kernel, by decide +kernel⟩, List.mem_of_getElem? (i := 856) (by decide +kernel), List.mem_of_getElem? (i := 1034) (by decide +kernel), List.mem_of_getElem? (i := 1035) (by decide +kernel)⟩
theorem lw_p33 : lw_okq (⟨"EchoValleyModel", "reach", "(I)I"⟩, 24) := ⟨⟨by decide +kernel, by decide +kernel⟩, List.mem_of_getElem? (i := 856) (by decide +kernel), List.mem_of_getElem? (i := 1039) (by decide +kernel), List.mem_of_getElem? (i := 1040) (by decide +kernel)⟩
theorem lw_p34 : lw_okq (⟨"EchoValleyModel", "ageOf", "(II)I"⟩, 24) := ⟨⟨by decide +kernel, by decide +kernel⟩, List.mem_of_getElem? (i := 856) (by decide +kernel), List.mem_of_getElem? (i := 1051) (by decide +kernel), List.mem_of_getElem? (i := 1052) (by decide +kernel)⟩
theorem lw_p35 : lw_okq (⟨"EchoValleyModel", "overOf", "(I)I"⟩, 24) := ⟨⟨by decide +kernel, by decide +kernel⟩, List.mem_of_getElem? (i := 856) (by decide +kernel), List.mem_of_getElem? (i := 1059) (by decide +kernel), List.mem_of_getElem? (i := 1060) (by decide +kernel)⟩
theorem lw_p36 : lw_okq (⟨"EchoValleyModel", "isOver", "(II)Z"⟩, 24) := ⟨⟨by decide +kernel, by decide +kernel⟩, List.mem_of_getElem? (i := 856) (by decide +kernel), List.mem_of_getElem? (i := 1063) (by decide +kernel), List.mem_of_getElem? (i := 1064) (by decide +kernel)⟩
theorem lw_p37 : lw_okq (⟨"EchoValleyModel", "isHeard", "(II)Z"⟩, 24) := ⟨⟨by decide +kernel, by decide +kernel⟩, List.mem_of_getElem? (i := 856) (by decide +kernel), List.mem_of_getElem? (i := 1071) (by decide +kernel), List.mem_of_getElem? (i := 1072) (by decide +kernel)⟩
theorem lw_p38 : lw_okq (⟨"EchoValleyModel", "reachesOf", "(I)I"⟩, 24) := ⟨⟨by decide +kernel, by decide +kernel⟩, List.mem_of_getElem? (i := 856) (by decide +kernel), List.mem_of_getElem? (i := 1079) (by decide +kernel), List.mem_of_getElem? (i := 1080) (by decide +kernel)⟩
theorem lw_p39 : lw_okq (⟨"EchoValleyModel", "near", "(II)I"⟩, 24) := ⟨⟨by decide +kernel, by decide +kernel⟩, List.mem_of_getElem? (i := 856) (by decide +kernel), List.mem_of_getElem? (i := 1083) (by decide +kernel), List.mem_of_getElem? (i := 1084) (by decide +kernel)⟩
theorem lw_p40 : lw_okq (⟨"EchoValleyModel", "heardAt", "(III)I"⟩, 24) := ⟨⟨by decide +kernel, by decide +kernel⟩, List.mem_of_getElem? (i := 856) (by decide +kernel), List.mem_of_getElem? (i := 1098) (by decide +kernel), List.mem_of_getElem? (i := 1099) (by decide +kernel)⟩
theorem lw_p41 : lw_okq (⟨"EchoValleyModel", "isHeardAt", "(IIII)Z"⟩, 24) := ⟨⟨by decide +kernel, by decide +kernel⟩, List.mem_of_getElem? (i := 856) (by decide +kernel), List.mem_of_getElem? (i := 1102) (by decide +kernel), List.mem_of_getElem? (i := 1103) (by decide +kernel)⟩
theorem lw_p42 : lw_okq (⟨"EchoValleyModel", "manyAt", "(II)I"⟩, 24) := ⟨⟨by decide +kernel, by decide +kernel⟩, List.mem_of_getElem? (i := 856) (by decide +kernel), List.mem_of_getElem? (i := 1125) (by decide +kernel), List.mem_of_getElem? (i := 1126) (by decide +kernel)⟩
theorem lw_p43 : lw_okq (⟨"EchoValleyModel", "whereIs", "(II)I"⟩, 24) := ⟨⟨by decide +kernel, by decide +kernel⟩, List.mem_of_getElem? (i := 856) (by decide +kernel), List.mem_of_getElem? (i := 1129) (by decide +kernel), List.mem_of_getElem? (i := 1130) (by decide +kernel)⟩
theorem lw_p44 : lw_okq (⟨"EchoValleyModel", "isAt", "(IIII)V"⟩, 24) := ⟨⟨by decide +kernel, by decide +kernel⟩, List.mem_of_getElem? (i := 856) (by decide +kernel), List.mem_of_getElem? (i := 1144) (by decide +kernel), List.mem_of_getElem? (i := 1145) (by decide +kernel)⟩
theorem lw_p45 : lw_okq (⟨"EchoValleyModel", "hearsIt", "(III)Z"⟩, 24) := ⟨⟨by decide +kernel, by decide +kernel⟩, List.mem_of_getElem? (i := 856) (by decide +kernel), List.mem_of_getElem? (i := 1156) (by decide +kernel), List.mem_of_getElem? (i := 1157) (by decide +kernel)⟩
theorem lw_p46 : lw_okq (⟨"EchoValleyModel", "isNear", "(IIII)Z"⟩, 24) := ⟨⟨by decide +kernel, by decide +kernel⟩, List.mem_of_getElem? (i := 856) (by decide +kernel), List.mem_of_getElem? (i := 1176) (by decide +kernel), List.mem_of_getElem? (i := 1177) (by decide +kernel)⟩
theorem lw_p47 : lw_okq (⟨"EchoValleyModel", "next", "()V"⟩, 24) := ⟨⟨by decide +kernel, by decide +kernel⟩, List.mem_of_getElem? (i := 856) (by decide +kernel), List.mem_of_getElem? (i := 1212) (by decide +kernel), List.mem_of_getElem? (i := 1213) (by decide +kernel)⟩
def lw_privs_3 : List (MethodName × Nat) := [(⟨"EchoValleyModel", "lasts", "(I)I"⟩, 24), (⟨"EchoValleyModel", "reach", "(I)I"⟩, 24), (⟨"EchoValleyModel", "ageOf", "(II)I"⟩, 24), (⟨"EchoValleyModel", "overOf", "(I)I"⟩, 24), (⟨"EchoValleyModel", "isOver", "(II)Z"⟩, 24), (⟨"EchoValleyModel", "isHeard", "(II)Z"⟩, 24), (⟨"EchoValleyModel", "reachesOf", "(I)I"⟩, 24), (⟨"EchoValleyModel", "near", "(II)I"⟩, 24), (⟨"EchoValleyModel", "heardAt", "(III)I"⟩, 24), (⟨"EchoValleyModel", "isHeardAt", "(IIII)Z"⟩, 24), (⟨"EchoValleyModel", "manyAt", "(II)I"⟩, 24), (⟨"EchoValleyModel", "whereIs", "(II)I"⟩, 24), (⟨"EchoValleyModel", "isAt", "(IIII)V"⟩, 24), (⟨"EchoValleyModel", "hearsIt", "(III)Z"⟩, 24), (⟨"EchoValleyModel", "isNear", "(IIII)Z"⟩, 24), (⟨"EchoValleyModel", "next", "()V"⟩, 24)]
theorem lw_r3 : ∀ q ∈ lw_privs_3, lw_okq q := List.forall_mem_cons.mpr ⟨lw_p32, List.forall_mem_cons.mpr ⟨lw_p33, List.forall_mem_cons.mpr ⟨lw_p34, List.forall_mem_cons.mpr ⟨lw_p35, List.forall_mem_cons.mpr ⟨lw_p36, List.forall_mem_cons.mpr ⟨lw_p37, List.forall_mem_cons.mpr ⟨lw_p38, List.forall_mem_cons.mpr ⟨lw_p39, List.forall_mem_cons.mpr ⟨lw_p40, List.forall_mem_cons.mpr ⟨lw_p41, List.forall_mem_cons.mpr ⟨lw_p42, List.forall_mem_cons.mpr ⟨lw_p43, List.forall_mem_cons.mpr ⟨lw_p44, List.forall_mem_cons.mpr ⟨lw_p45, List.forall_mem_cons.mpr ⟨lw_p46, List.forall_mem_cons.mpr ⟨lw_p47, fun _ h => absurd h List.not_mem_nil⟩⟩⟩⟩⟩⟩⟩⟩⟩⟩⟩⟩⟩⟩⟩⟩
theorem lw_p48 : lw_okq (⟨"EchoValleyModel", "byteAt", "(I)I"⟩, 24) := ⟨⟨by decide +kernel, by decide +kernel⟩, List.mem_of_getElem? (i := 856) (by decide +kernel), List.mem_of_getElem? (i := 1216) (by decide +kernel), List.mem_of_getElem? (i := 1217) (by decide +kernel)⟩
theorem lw_p49 : lw_okq (⟨"EchoValleyModel", "readItem", "()V"⟩, 24) := ⟨⟨by decide +kernel, by decide +kernel⟩, List.mem_of_getElem? (i := 856) (by decide +kernel), List.mem_of_getElem? (i := 1220) (by decide +kernel), List.mem_of_getElem? (i := 1221) (by decide +kernel)⟩
theorem lw_p50 : lw_okq (⟨"EchoValleyModel", "isWord", "(Ljava/lang/String;)Z"⟩, 24) := ⟨⟨by decide +kernel, by decide +kernel⟩, List.mem_of_getElem? (i := 856) (by decide +kernel), List.mem_of_getElem? (i := 1224) (by decide +kernel), List.mem_of_getElem? (i := 1225) (by decide +kernel)⟩
theorem lw_p51 : lw_okq (⟨"EchoValleyModel", "readSaying", "(I)V"⟩, 24) := ⟨⟨by decide +kernel, by decide +kernel⟩, List.mem_of_getElem? (i := 856) (by decide +kernel), List.mem_of_getElem? (i := 1230) (by decide +kernel), List.mem_of_getElem? (i := 1231) (by decide +kernel)⟩
theorem lw_p52 : lw_okq (⟨"EchoValleyModel", "must", "(Z)V"⟩, 24) := ⟨⟨by decide +kernel, by decide +kernel⟩, List.mem_of_getElem? (i := 856) (by decide +kernel), List.mem_of_getElem? (i := 1234) (by decide +kernel), List.mem_of_getElem? (i := 1235) (by decide +kernel)⟩
theorem lw_p53 : lw_okq (⟨"EchoValleyModel", "number", "(III)I"⟩, 24) := ⟨⟨by decide +kernel, by decide +kernel⟩, List.mem_of_getElem? (i := 856) (by decide +kernel), List.mem_of_getElem? (i := 1238) (by decide +kernel), List.mem_of_getElem? (i := 1239) (by decide +kernel)⟩
theorem lw_p54 : lw_okq (⟨"EchoValleyModel", "item", "(IIIII)V"⟩, 24) := ⟨⟨by decide +kernel, by decide +kernel⟩, List.mem_of_getElem? (i := 856) (by decide +kernel), List.mem_of_getElem? (i := 1245) (by decide +kernel), List.mem_of_getElem? (i := 1246) (by decide +kernel)⟩
theorem lw_p55 : lw_okq (⟨"EchoValleyModel", "readPerson", "()V"⟩, 24) := ⟨⟨by decide +kernel, by decide +kernel⟩, List.mem_of_getElem? (i := 856) (by decide +kernel), List.mem_of_getElem? (i := 1251) (by decide +kernel), List.mem_of_getElem? (i := 1252) (by decide +kernel)⟩
theorem lw_p56 : lw_okq (⟨"EchoValleyModel", "isSo", "(I)V"⟩, 24) := ⟨⟨by decide +kernel, by decide +kernel⟩, List.mem_of_getElem? (i := 856) (by decide +kernel), List.mem_of_getElem? (i := 1258) (by decide +kernel), List.mem_of_getElem? (i := 1259) (by decide +kernel)⟩
def lw_privs_4 : List (MethodName × Nat) := [(⟨"EchoValleyModel", "byteAt", "(I)I"⟩, 24), (⟨"EchoValleyModel", "readItem", "()V"⟩, 24), (⟨"EchoValleyModel", "isWord", "(Ljava/lang/String;)Z"⟩, 24), (⟨"EchoValleyModel", "readSaying", "(I)V"⟩, 24), (⟨"EchoValleyModel", "must", "(Z)V"⟩, 24), (⟨"EchoValleyModel", "number", "(III)I"⟩, 24), (⟨"EchoValleyModel", "item", "(IIIII)V"⟩, 24), (⟨"EchoValleyModel", "readPerson", "()V"⟩, 24), (⟨"EchoValleyModel", "isSo", "(I)V"⟩, 24)]
theorem lw_r4 : ∀ q ∈ lw_privs_4, lw_okq q := List.forall_mem_cons.mpr ⟨lw_p48, List.forall_mem_cons.mpr ⟨lw_p49, List.forall_mem_cons.mpr ⟨lw_p50, List.forall_mem_cons.mpr ⟨lw_p51, List.forall_mem_cons.mpr ⟨lw_p52, List.forall_mem_cons.mpr ⟨lw_p53, List.forall_mem_cons.mpr ⟨lw_p54, List.forall_mem_cons.mpr ⟨lw_p55, List.forall_mem_cons.mpr ⟨lw_p56, fun _ h => absurd h List.not_mem_nil⟩⟩⟩⟩⟩⟩⟩⟩⟩
def lw_privs : List (MethodName × Nat) := lw_privs_1 ++ (lw_privs_2 ++ (lw_privs_3 ++ (lw_privs_4)))
def lw_tbl : List Cond := k2_sels lw_privs ++ tables_1
theorem lw_privs_ok : ∀ q ∈ lw_privs, lw_okq q := by
  show ∀ q ∈ lw_privs_1 ++ (lw_privs_2 ++ (lw_privs_3 ++ (lw_privs_4))), lw_okq q
  exact List.forall_mem_append.mpr ⟨lw_r1, List.forall_mem_append.mpr ⟨lw_r2, List.forall_mem_append.mpr ⟨lw_r3, lw_r4⟩⟩⟩
/-! ===== BEGIN words of one list among another's, by their places ===== -/
theorem goodIn_r {big : List Cond} (ws : List Cond) (ps : List Nat) (hp : ws = ps.filterMap (fun i => big[i]?)) (h : ws.all goodWord = true) : GoodIn big ws := by
  intro w hw
  have h1 := List.all_eq_true.mp h w hw
  rw [hp] at hw
  obtain ⟨i, -, hi⟩ := List.mem_filterMap.mp hw
  have hm : w ∈ big := by first | exact List.mem_of_getElem? hi | exact List.getElem?_mem hi
  exact ⟨hm, good_of_word h1⟩
theorem goodIn_app {big a b : List Cond} (ha : GoodIn big a) (hb : GoodIn big b) : GoodIn big (a ++ b) := fun w h => (List.mem_append.mp h).elim (ha w) (hb w)
theorem goodIn_ca {big a b : List Cond} {c : Cond} (ha : GoodIn big (c :: a)) (hb : GoodIn big b) : GoodIn big (c :: (a ++ b)) := fun w h => (List.mem_cons.mp h).elim (fun e => ha w (List.mem_cons.mpr (Or.inl e))) (fun h => (List.mem_append.mp h).elim (fun h => ha w (List.mem_cons.mpr (Or.inr h))) (hb w))
theorem goodIn_sub {big ws : List Cond} (hm : ∀ w ∈ ws, w ∈ big) (h : ws.all goodWord = true) : GoodIn big ws := fun w hw => ⟨hm w hw, good_of_word (List.all_eq_true.mp h w hw)⟩
/-! ===== END ===== -/

/-! ===== BEGIN printed: names, fields, word lists, decode rows ===== -/
def RX0 : String := "EchoValley$Kinds"
def TX0 : u_T := fun k => match k with
  | _ => ("", "", "", false)
def tyX0 : Nat → FieldType := fun k => match k with
  | _ => .int
abbrev wsX00 : List Cond := u_ws RX0 TX0 0
theorem nmX0 : ∀ a, a < 0 → ∀ b, b < 0 → a ≠ b → (TX0 a).2.1 ≠ (TX0 b).2.1 := by decide +kernel
theorem tyX0_ok : ∀ k, k < 0 → parseFieldDescriptor (TX0 k).2.2.1 = some (tyX0 k) := by decide +kernel
abbrev cX0_isKind : ByteArray := prog_2_method_2_code
def yX0_isKind : MethodName := ⟨RX0, "isKind", "(I)Z"⟩
abbrev cX0_isUnder : ByteArray := prog_2_method_3_code
def yX0_isUnder : MethodName := ⟨RX0, "isUnder", "(II)Z"⟩
abbrev cX0_lasting : ByteArray := prog_2_method_4_code
def yX0_lasting : MethodName := ⟨RX0, "lasting", "(II)I"⟩
abbrev cX0_reachOf : ByteArray := prog_2_method_5_code
def yX0_reachOf : MethodName := ⟨RX0, "reachOf", "(II)I"⟩
abbrev cX0_canDrown : ByteArray := prog_2_method_6_code
def yX0_canDrown : MethodName := ⟨RX0, "canDrown", "(III)Z"⟩
abbrev cX0_canYield : ByteArray := prog_2_method_7_code
def yX0_canYield : MethodName := ⟨RX0, "canYield", "(II)Z"⟩
def RX1 : String := "EchoValley$People"
def TX1 : u_T := fun k => match k with
  | _ => ("EchoValley$People", "places", "[I", true)
def tyX1 : Nat → FieldType := fun k => match k with
  | _ => .array .int
abbrev wsX10 : List Cond := u_ws RX1 TX1 1
theorem nmX1 : ∀ a, a < 1 → ∀ b, b < 1 → a ≠ b → (TX1 a).2.1 ≠ (TX1 b).2.1 := by decide +kernel
theorem tyX1_ok : ∀ k, k < 1 → parseFieldDescriptor (TX1 k).2.2.1 = some (tyX1 k) := by decide +kernel
abbrev cX1_init : ByteArray := prog_3_method_1_code
def yX1_init : MethodName := ⟨RX1, "<init>", "()V"⟩
abbrev cX1_become : ByteArray := prog_3_method_2_code
def yX1_become : MethodName := ⟨RX1, "become", "(LEchoValley$People;)V"⟩
abbrev cX1_placeOf : ByteArray := prog_3_method_3_code
def yX1_placeOf : MethodName := ⟨RX1, "placeOf", "(II)I"⟩
abbrev cX1_put : ByteArray := prog_3_method_4_code
def yX1_put : MethodName := ⟨RX1, "put", "(IIII)V"⟩
abbrev cX1_placesTaken : ByteArray := prog_3_method_5_code
def yX1_placesTaken : MethodName := ⟨RX1, "placesTaken", "(I)I"⟩
abbrev cX1_numberAt : ByteArray := prog_3_method_6_code
def yX1_numberAt : MethodName := ⟨RX1, "numberAt", "(II)I"⟩
def RX2 : String := "EchoValley$Reader"
def TX2 : u_T := fun k => match k with
  | 0 => ("EchoValley$Reader", "number", "I", false)
  | 1 => ("EchoValley$Reader", "bytes", "[I", true)
  | 2 => ("EchoValley$Reader", "token", "I", false)
  | 3 => ("EchoValley$Reader", "start", "I", false)
  | 4 => ("EchoValley$Reader", "end", "I", false)
  | _ => ("EchoValley$Reader", "value", "I", false)
def tyX2 : Nat → FieldType := fun k => match k with
  | 0 => .int
  | 1 => .array .int
  | 2 => .int
  | 3 => .int
  | 4 => .int
  | _ => .int
abbrev wsX20 : List Cond := u_ws RX2 TX2 6
theorem nmX2 : ∀ a, a < 6 → ∀ b, b < 6 → a ≠ b → (TX2 a).2.1 ≠ (TX2 b).2.1 := by decide +kernel
theorem tyX2_ok : ∀ k, k < 6 → parseFieldDescriptor (TX2 k).2.2.1 = some (tyX2 k) := by decide +kernel
abbrev cX2_init : ByteArray := prog_4_method_1_code
def yX2_init : MethodName := ⟨RX2, "<init>", "()V"⟩
abbrev cX2_add : ByteArray := prog_4_method_2_code
def yX2_add : MethodName := ⟨RX2, "add", "(II)V"⟩
abbrev cX2_clear : ByteArray := prog_4_method_3_code
def yX2_clear : MethodName := ⟨RX2, "clear", "()I"⟩
abbrev cX2_readInto : ByteArray := prog_4_method_4_code
def yX2_readInto : MethodName := ⟨RX2, "readInto", "(LEchoValley$Valley;)I"⟩
abbrev cX2_readItem : ByteArray := prog_4_method_5_code
def yX2_readItem : MethodName := ⟨RX2, "readItem", "(LEchoValley$Valley;)Z"⟩
abbrev cX2_readWay : ByteArray := prog_4_method_6_code
def yX2_readWay : MethodName := ⟨RX2, "readWay", "(LEchoValley$Valley;)Z"⟩
abbrev cX2_readPerson : ByteArray := prog_4_method_7_code
def yX2_readPerson : MethodName := ⟨RX2, "readPerson", "(LEchoValley$Valley;)Z"⟩
abbrev cX2_readKeep : ByteArray := prog_4_method_8_code
def yX2_readKeep : MethodName := ⟨RX2, "readKeep", "(LEchoValley$Valley;)Z"⟩
abbrev cX2_readRain : ByteArray := prog_4_method_9_code
def yX2_readRain : MethodName := ⟨RX2, "readRain", "(LEchoValley$Valley;)Z"⟩
abbrev cX2_readSaying : ByteArray := prog_4_method_10_code
def yX2_readSaying : MethodName := ⟨RX2, "readSaying", "(LEchoValley$Valley;I)Z"⟩
abbrev cX2_kindAtHand : ByteArray := prog_4_method_11_code
def yX2_kindAtHand : MethodName := ⟨RX2, "kindAtHand", "()I"⟩
abbrev cX2_take : ByteArray := prog_4_method_12_code
def yX2_take : MethodName := ⟨RX2, "take", "(Ljava/lang/String;)Z"⟩
abbrev cX2_isAtHand : ByteArray := prog_4_method_13_code
def yX2_isAtHand : MethodName := ⟨RX2, "isAtHand", "(Ljava/lang/String;)Z"⟩
abbrev cX2_takeNumber : ByteArray := prog_4_method_14_code
def yX2_takeNumber : MethodName := ⟨RX2, "takeNumber", "(II)I"⟩
abbrev cX2_next : ByteArray := prog_4_method_15_code
def yX2_next : MethodName := ⟨RX2, "next", "()V"⟩
abbrev cX2_reckonValue : ByteArray := prog_4_method_16_code
def yX2_reckonValue : MethodName := ⟨RX2, "reckonValue", "()V"⟩
abbrev cX2_typeAt : ByteArray := prog_4_method_17_code
def yX2_typeAt : MethodName := ⟨RX2, "typeAt", "(I)I"⟩
def RX3 : String := "EchoValley$Sayings"
def TX3 : u_T := fun k => match k with
  | 0 => ("EchoValley$Sayings", "number", "I", false)
  | 1 => ("EchoValley$Sayings", "kind", "[I", true)
  | 2 => ("EchoValley$Sayings", "word", "[I", true)
  | 3 => ("EchoValley$Sayings", "loud", "[I", true)
  | 4 => ("EchoValley$Sayings", "place", "[I", true)
  | 5 => ("EchoValley$Sayings", "hour", "[I", true)
  | _ => ("EchoValley$Sayings", "day", "[I", true)
def tyX3 : Nat → FieldType := fun k => match k with
  | 0 => .int
  | 1 => .array .int
  | 2 => .array .int
  | 3 => .array .int
  | 4 => .array .int
  | 5 => .array .int
  | _ => .array .int
abbrev wsX30 : List Cond := u_ws RX3 TX3 7
theorem nmX3 : ∀ a, a < 7 → ∀ b, b < 7 → a ≠ b → (TX3 a).2.1 ≠ (TX3 b).2.1 := by decide +kernel
theorem tyX3_ok : ∀ k, k < 7 → parseFieldDescriptor (TX3 k).2.2.1 = some (tyX3 k) := by decide +kernel
abbrev cX3_init : ByteArray := prog_5_method_1_code
def yX3_init : MethodName := ⟨RX3, "<init>", "()V"⟩
abbrev cX3_become : ByteArray := prog_5_method_2_code
def yX3_become : MethodName := ⟨RX3, "become", "(LEchoValley$Sayings;)V"⟩
abbrev cX3_isFull : ByteArray := prog_5_method_3_code
def yX3_isFull : MethodName := ⟨RX3, "isFull", "()Z"⟩
abbrev cX3_add : ByteArray := prog_5_method_4_code
def yX3_add : MethodName := ⟨RX3, "add", "(IIIIII)I"⟩
abbrev cX3_reachOf : ByteArray := prog_5_method_5_code
def yX3_reachOf : MethodName := ⟨RX3, "reachOf", "(I)I"⟩
abbrev cX3_firstOver : ByteArray := prog_5_method_6_code
def yX3_firstOver : MethodName := ⟨RX3, "firstOver", "(I)I"⟩
abbrev cX3_isOver : ByteArray := prog_5_method_7_code
def yX3_isOver : MethodName := ⟨RX3, "isOver", "(II)Z"⟩
def RX4 : String := "EchoValley$Sheet"
def TX4 : u_T := fun k => match k with
  | 0 => ("EchoValley$Sheet", "bits", "I", false)
  | 1 => ("EchoValley$Sheet", "size", "I", false)
  | _ => ("EchoValley$Sheet", "numbers", "[I", true)
def tyX4 : Nat → FieldType := fun k => match k with
  | 0 => .int
  | 1 => .int
  | _ => .array .int
abbrev wsX40 : List Cond := u_ws RX4 TX4 3
theorem nmX4 : ∀ a, a < 3 → ∀ b, b < 3 → a ≠ b → (TX4 a).2.1 ≠ (TX4 b).2.1 := by decide +kernel
theorem tyX4_ok : ∀ k, k < 3 → parseFieldDescriptor (TX4 k).2.2.1 = some (tyX4 k) := by decide +kernel
abbrev cX4_init : ByteArray := prog_6_method_1_code
def yX4_init : MethodName := ⟨RX4, "<init>", "()V"⟩
abbrev cX4_areBits : ByteArray := prog_6_method_2_code
def yX4_areBits : MethodName := ⟨RX4, "areBits", "(I)Z"⟩
abbrev cX4_isMissing : ByteArray := prog_6_method_3_code
def yX4_isMissing : MethodName := ⟨RX4, "isMissing", "()Z"⟩
abbrev cX4_begin : ByteArray := prog_6_method_4_code
def yX4_begin : MethodName := ⟨RX4, "begin", "(II)V"⟩
abbrev cX4_hasRange : ByteArray := prog_6_method_5_code
def yX4_hasRange : MethodName := ⟨RX4, "hasRange", "(II)Z"⟩
abbrev cX4_put : ByteArray := prog_6_method_6_code
def yX4_put : MethodName := ⟨RX4, "put", "(II)V"⟩
def RX5 : String := "EchoValley$Valley"
def TX5 : u_T := fun k => match k with
  | 0 => ("EchoValley$Valley", "ways", "LEchoValley$Ways;", true)
  | 1 => ("EchoValley$Valley", "sayings", "LEchoValley$Sayings;", true)
  | 2 => ("EchoValley$Valley", "people", "LEchoValley$People;", true)
  | 3 => ("EchoValley$Valley", "rain", "[I", true)
  | 4 => ("EchoValley$Valley", "spots", "[I", true)
  | 5 => ("EchoValley$Valley", "today", "I", false)
  | 6 => ("EchoValley$Valley", "keeping", "I", false)
  | _ => ("EchoValley$Valley", "z", "I", false)
def tyX5 : Nat → FieldType := fun k => match k with
  | 0 => .object "EchoValley$Ways"
  | 1 => .object "EchoValley$Sayings"
  | 2 => .object "EchoValley$People"
  | 3 => .array .int
  | 4 => .array .int
  | 5 => .int
  | 6 => .int
  | _ => .int
abbrev wsX50 : List Cond := u_ws RX5 TX5 8
theorem nmX5 : ∀ a, a < 8 → ∀ b, b < 8 → a ≠ b → (TX5 a).2.1 ≠ (TX5 b).2.1 := by decide +kernel
theorem tyX5_ok : ∀ k, k < 8 → parseFieldDescriptor (TX5 k).2.2.1 = some (tyX5 k) := by decide +kernel
abbrev cX5_init : ByteArray := prog_7_method_1_code
def yX5_init : MethodName := ⟨RX5, "<init>", "()V"⟩
abbrev cX5_become : ByteArray := prog_7_method_2_code
def yX5_become : MethodName := ⟨RX5, "become", "(LEchoValley$Valley;)V"⟩
abbrev cX5_draw : ByteArray := prog_7_method_3_code
def yX5_draw : MethodName := ⟨RX5, "draw", "()I"⟩
abbrev cX5_rainyDays : ByteArray := prog_7_method_4_code
def yX5_rainyDays : MethodName := ⟨RX5, "rainyDays", "(II)I"⟩
abbrev cX5_ageOf : ByteArray := prog_7_method_5_code
def yX5_ageOf : MethodName := ⟨RX5, "ageOf", "(II)I"⟩
abbrev cX5_lastsOf : ByteArray := prog_7_method_6_code
def yX5_lastsOf : MethodName := ⟨RX5, "lastsOf", "(I)I"⟩
abbrev cX5_around : ByteArray := prog_7_method_7_code
def yX5_around : MethodName := ⟨RX5, "around", "(I)I"⟩
abbrev cX5_isHeard : ByteArray := prog_7_method_8_code
def yX5_isHeard : MethodName := ⟨RX5, "isHeard", "(II)Z"⟩
abbrev cX5_isHeardAt : ByteArray := prog_7_method_9_code
def yX5_isHeardAt : MethodName := ⟨RX5, "isHeardAt", "(III)Z"⟩
abbrev cX5_heardSet : ByteArray := prog_7_method_10_code
def yX5_heardSet : MethodName := ⟨RX5, "heardSet", "(II)J"⟩
abbrev cX5_loudPlaces : ByteArray := prog_7_method_11_code
def yX5_loudPlaces : MethodName := ⟨RX5, "loudPlaces", "(I)I"⟩
abbrev cX5_heardOn : ByteArray := prog_7_method_12_code
def yX5_heardOn : MethodName := ⟨RX5, "heardOn", "(I)I"⟩
abbrev cX5_lastDayOf : ByteArray := prog_7_method_13_code
def yX5_lastDayOf : MethodName := ⟨RX5, "lastDayOf", "(I)I"⟩
abbrev cX5_lastDayOfOnce : ByteArray := prog_7_method_14_code
def yX5_lastDayOfOnce : MethodName := ⟨RX5, "lastDayOfOnce", "(I)I"⟩
abbrev cX5_doesHear : ByteArray := prog_7_method_15_code
def yX5_doesHear : MethodName := ⟨RX5, "doesHear", "(III)Z"⟩
def RX6 : String := "EchoValley$Walk"
def TX6 : u_T := fun k => match k with
  | 0 => ("EchoValley$Walk", "length", "I", false)
  | 1 => ("EchoValley$Walk", "places", "[I", true)
  | 2 => ("EchoValley$Walk", "heardThere", "[I", true)
  | _ => ("EchoValley$Walk", "mostFromThere", "[I", true)
def tyX6 : Nat → FieldType := fun k => match k with
  | 0 => .int
  | 1 => .array .int
  | 2 => .array .int
  | _ => .array .int
abbrev wsX60 : List Cond := u_ws RX6 TX6 4
theorem nmX6 : ∀ a, a < 4 → ∀ b, b < 4 → a ≠ b → (TX6 a).2.1 ≠ (TX6 b).2.1 := by decide +kernel
theorem tyX6_ok : ∀ k, k < 4 → parseFieldDescriptor (TX6 k).2.2.1 = some (tyX6 k) := by decide +kernel
abbrev cX6_init : ByteArray := prog_8_method_1_code
def yX6_init : MethodName := ⟨RX6, "<init>", "()V"⟩
abbrev cX6_choose : ByteArray := prog_8_method_2_code
def yX6_choose : MethodName := ⟨RX6, "choose", "(LEchoValley$Valley;III)I"⟩
abbrev cX6_gather : ByteArray := prog_8_method_3_code
def yX6_gather : MethodName := ⟨RX6, "gather", "(LEchoValley$Valley;II)V"⟩
abbrev cX6_addAround : ByteArray := prog_8_method_4_code
def yX6_addAround : MethodName := ⟨RX6, "addAround", "(II)V"⟩
abbrev cX6_reckon : ByteArray := prog_8_method_5_code
def yX6_reckon : MethodName := ⟨RX6, "reckon", "(LEchoValley$Ways;II)V"⟩
abbrev cX6_bestNext : ByteArray := prog_8_method_6_code
def yX6_bestNext : MethodName := ⟨RX6, "bestNext", "(LEchoValley$Ways;II)I"⟩
def RX7 : String := "EchoValley$Ways"
def TX7 : u_T := fun k => match k with
  | _ => ("EchoValley$Ways", "near", "[I", true)
def tyX7 : Nat → FieldType := fun k => match k with
  | _ => .array .int
abbrev wsX70 : List Cond := u_ws RX7 TX7 1
theorem nmX7 : ∀ a, a < 1 → ∀ b, b < 1 → a ≠ b → (TX7 a).2.1 ≠ (TX7 b).2.1 := by decide +kernel
theorem tyX7_ok : ∀ k, k < 1 → parseFieldDescriptor (TX7 k).2.2.1 = some (tyX7 k) := by decide +kernel
abbrev cX7_init : ByteArray := prog_9_method_1_code
def yX7_init : MethodName := ⟨RX7, "<init>", "()V"⟩
abbrev cX7_become : ByteArray := prog_9_method_2_code
def yX7_become : MethodName := ⟨RX7, "become", "(LEchoValley$Ways;)V"⟩
abbrev cX7_has : ByteArray := prog_9_method_3_code
def yX7_has : MethodName := ⟨RX7, "has", "(II)Z"⟩
abbrev cX7_put : ByteArray := prog_9_method_4_code
def yX7_put : MethodName := ⟨RX7, "put", "(IIZ)V"⟩
abbrev cX7_putHalf : ByteArray := prog_9_method_5_code
def yX7_putHalf : MethodName := ⟨RX7, "putHalf", "(IIZ)V"⟩
abbrev cX7_isOpen : ByteArray := prog_9_method_6_code
def yX7_isOpen : MethodName := ⟨RX7, "isOpen", "(II)Z"⟩
abbrev cX7_total : ByteArray := prog_9_method_7_code
def yX7_total : MethodName := ⟨RX7, "total", "()I"⟩
abbrev cX7_fewestBetween : ByteArray := prog_9_method_8_code
def yX7_fewestBetween : MethodName := ⟨RX7, "fewestBetween", "(II)I"⟩
abbrev cX7_within : ByteArray := prog_9_method_9_code
def yX7_within : MethodName := ⟨RX7, "within", "(II)I"⟩
abbrev cX7_spread : ByteArray := prog_9_method_10_code
def yX7_spread : MethodName := ⟨RX7, "spread", "(I)I"⟩
def RX8 : String := "EchoValley"
def TX8 : u_T := fun k => match k with
  | 0 => ("EchoValley", "valley", "LEchoValley$Valley;", true)
  | 1 => ("EchoValley", "kept", "LEchoValley$Valley;", true)
  | 2 => ("EchoValley", "draft", "LEchoValley$Valley;", true)
  | 3 => ("EchoValley", "isKept", "Z", false)
  | 4 => ("EchoValley", "reader", "LEchoValley$Reader;", true)
  | 5 => ("EchoValley", "sheets", "[LEchoValley$Sheet;", true)
  | 6 => ("EchoValley", "latestWalk", "LEchoValley$Walk;", true)
  | _ => ("EchoValley", "findings", "[I", true)
def tyX8 : Nat → FieldType := fun k => match k with
  | 0 => .object "EchoValley$Valley"
  | 1 => .object "EchoValley$Valley"
  | 2 => .object "EchoValley$Valley"
  | 3 => .boolean
  | 4 => .object "EchoValley$Reader"
  | 5 => .array (.object "EchoValley$Sheet")
  | 6 => .object "EchoValley$Walk"
  | _ => .array .int
abbrev wsX80 : List Cond := u_ws RX8 TX8 8
theorem nmX8 : ∀ a, a < 8 → ∀ b, b < 8 → a ≠ b → (TX8 a).2.1 ≠ (TX8 b).2.1 := by decide +kernel
theorem tyX8_ok : ∀ k, k < 8 → parseFieldDescriptor (TX8 k).2.2.1 = some (tyX8 k) := by decide +kernel
abbrev cX8_init : ByteArray := prog_1_method_1_code
def yX8_init : MethodName := ⟨RX8, "<init>", "()V"⟩
abbrev cX8_way : ByteArray := prog_1_method_2_code
def yX8_way : MethodName := ⟨RX8, "way", "(IIZ)I"⟩
abbrev cX8_steps : ByteArray := prog_1_method_3_code
def yX8_steps : MethodName := ⟨RX8, "steps", "(II)I"⟩
abbrev cX8_days : ByteArray := prog_1_method_4_code
def yX8_days : MethodName := ⟨RX8, "days", "(I)I"⟩
abbrev cX8_rain : ByteArray := prog_1_method_5_code
def yX8_rain : MethodName := ⟨RX8, "rain", "(IZ)I"⟩
abbrev cX8_weather : ByteArray := prog_1_method_6_code
def yX8_weather : MethodName := ⟨RX8, "weather", "(III)I"⟩
abbrev cX8_keep : ByteArray := prog_1_method_7_code
def yX8_keep : MethodName := ⟨RX8, "keep", "(I)I"⟩
abbrev cX8_say : ByteArray := prog_1_method_8_code
def yX8_say : MethodName := ⟨RX8, "say", "(IIIII)I"⟩
abbrev cX8_sayingOf : ByteArray := prog_1_method_9_code
def yX8_sayingOf : MethodName := ⟨RX8, "sayingOf", "(II)I"⟩
abbrev cX8_turn : ByteArray := prog_1_method_10_code
def yX8_turn : MethodName := ⟨RX8, "turn", "(II)I"⟩
abbrev cX8_age : ByteArray := prog_1_method_11_code
def yX8_age : MethodName := ⟨RX8, "age", "(II)I"⟩
abbrev cX8_over : ByteArray := prog_1_method_12_code
def yX8_over : MethodName := ⟨RX8, "over", "(I)I"⟩
abbrev cX8_until : ByteArray := prog_1_method_13_code
def yX8_until : MethodName := ⟨RX8, "until", "(I)I"⟩
abbrev cX8_reaches : ByteArray := prog_1_method_14_code
def yX8_reaches : MethodName := ⟨RX8, "reaches", "(II)I"⟩
abbrev cX8_drowns : ByteArray := prog_1_method_15_code
def yX8_drowns : MethodName := ⟨RX8, "drowns", "(I)I"⟩
abbrev cX8_heard : ByteArray := prog_1_method_16_code
def yX8_heard : MethodName := ⟨RX8, "heard", "(II)I"⟩
abbrev cX8_which : ByteArray := prog_1_method_17_code
def yX8_which : MethodName := ⟨RX8, "which", "(III)I"⟩
abbrev cX8_words : ByteArray := prog_1_method_18_code
def yX8_words : MethodName := ⟨RX8, "words", "(II)I"⟩
abbrev cX8_plain : ByteArray := prog_1_method_19_code
def yX8_plain : MethodName := ⟨RX8, "plain", "(II)I"⟩
abbrev cX8_alone : ByteArray := prog_1_method_20_code
def yX8_alone : MethodName := ⟨RX8, "alone", "(I)I"⟩
abbrev cX8_full : ByteArray := prog_1_method_21_code
def yX8_full : MethodName := ⟨RX8, "full", "(II)I"⟩
abbrev cX8_person : ByteArray := prog_1_method_22_code
def yX8_person : MethodName := ⟨RX8, "person", "(IIII)I"⟩
abbrev cX8_where : ByteArray := prog_1_method_23_code
def yX8_where : MethodName := ⟨RX8, "where", "(II)I"⟩
abbrev cX8_hears : ByteArray := prog_1_method_24_code
def yX8_hears : MethodName := ⟨RX8, "hears", "(II)I"⟩
abbrev cX8_first : ByteArray := prog_1_method_25_code
def yX8_first : MethodName := ⟨RX8, "first", "(II)I"⟩
abbrev cX8_who : ByteArray := prog_1_method_26_code
def yX8_who : MethodName := ⟨RX8, "who", "(I)I"⟩
abbrev cX8_said : ByteArray := prog_1_method_27_code
def yX8_said : MethodName := ⟨RX8, "said", "(I)I"⟩
abbrev cX8_tell : ByteArray := prog_1_method_28_code
def yX8_tell : MethodName := ⟨RX8, "tell", "(II)I"⟩
abbrev cX8_needs : ByteArray := prog_1_method_29_code
def yX8_needs : MethodName := ⟨RX8, "needs", "(I)I"⟩
abbrev cX8_walk : ByteArray := prog_1_method_30_code
def yX8_walk : MethodName := ⟨RX8, "walk", "(III)I"⟩
abbrev cX8_step : ByteArray := prog_1_method_31_code
def yX8_step : MethodName := ⟨RX8, "step", "(I)I"⟩
abbrev cX8_crowd : ByteArray := prog_1_method_32_code
def yX8_crowd : MethodName := ⟨RX8, "crowd", "()I"⟩
abbrev cX8_seed : ByteArray := prog_1_method_33_code
def yX8_seed : MethodName := ⟨RX8, "seed", "(I)I"⟩
abbrev cX8_feed : ByteArray := prog_1_method_34_code
def yX8_feed : MethodName := ⟨RX8, "feed", "(II)I"⟩
abbrev cX8_wipe : ByteArray := prog_1_method_35_code
def yX8_wipe : MethodName := ⟨RX8, "wipe", "()I"⟩
abbrev cX8_text : ByteArray := prog_1_method_36_code
def yX8_text : MethodName := ⟨RX8, "text", "()I"⟩
abbrev cX8_hold : ByteArray := prog_1_method_37_code
def yX8_hold : MethodName := ⟨RX8, "hold", "(II)I"⟩
abbrev cX8_as : ByteArray := prog_1_method_38_code
def yX8_as : MethodName := ⟨RX8, "as", "(II)I"⟩
abbrev cX8_sheet : ByteArray := prog_1_method_39_code
def yX8_sheet : MethodName := ⟨RX8, "sheet", "(III)I"⟩
abbrev cX8_write : ByteArray := prog_1_method_40_code
def yX8_write : MethodName := ⟨RX8, "write", "(III)I"⟩
abbrev cX8_copy : ByteArray := prog_1_method_41_code
def yX8_copy : MethodName := ⟨RX8, "copy", "(IIIII)I"⟩
abbrev cX8_load : ByteArray := prog_1_method_42_code
def yX8_load : MethodName := ⟨RX8, "load", "(II)I"⟩
abbrev cX8_judge : ByteArray := prog_1_method_43_code
def yX8_judge : MethodName := ⟨RX8, "judge", "(II)I"⟩
abbrev cX8_image : ByteArray := prog_1_method_44_code
def yX8_image : MethodName := ⟨RX8, "image", "()I"⟩
abbrev cX8_undo : ByteArray := prog_1_method_45_code
def yX8_undo : MethodName := ⟨RX8, "undo", "()I"⟩
abbrev cX8_tear : ByteArray := prog_1_method_46_code
def yX8_tear : MethodName := ⟨RX8, "tear", "()I"⟩
abbrev cX8_count : ByteArray := prog_1_method_47_code
def yX8_count : MethodName := ⟨RX8, "count", "(I)I"⟩
abbrev cX8_status : ByteArray := prog_1_method_48_code
def yX8_status : MethodName := ⟨RX8, "status", "(I)I"⟩
abbrev cX8_finding : ByteArray := prog_1_method_49_code
def yX8_finding : MethodName := ⟨RX8, "finding", "(I)I"⟩
abbrev cX8_isSaying : ByteArray := prog_1_method_50_code
def yX8_isSaying : MethodName := ⟨RX8, "isSaying", "(I)Z"⟩
abbrev cX8_isPlace : ByteArray := prog_1_method_51_code
def yX8_isPlace : MethodName := ⟨RX8, "isPlace", "(I)Z"⟩
abbrev cX8_isDay : ByteArray := prog_1_method_52_code
def yX8_isDay : MethodName := ⟨RX8, "isDay", "(I)Z"⟩
abbrev cX8_isHour : ByteArray := prog_1_method_53_code
def yX8_isHour : MethodName := ⟨RX8, "isHour", "(I)Z"⟩
abbrev cX8_isWhen : ByteArray := prog_1_method_54_code
def yX8_isWhen : MethodName := ⟨RX8, "isWhen", "(I)Z"⟩
abbrev cX8_isWord : ByteArray := prog_1_method_55_code
def yX8_isWord : MethodName := ⟨RX8, "isWord", "(I)Z"⟩
abbrev cX8_isLoud : ByteArray := prog_1_method_56_code
def yX8_isLoud : MethodName := ⟨RX8, "isLoud", "(I)Z"⟩
abbrev cX8_isPerson : ByteArray := prog_1_method_57_code
def yX8_isPerson : MethodName := ⟨RX8, "isPerson", "(I)Z"⟩
abbrev cX8_isSpot : ByteArray := prog_1_method_58_code
def yX8_isSpot : MethodName := ⟨RX8, "isSpot", "(I)Z"⟩
abbrev cX8_isSheet : ByteArray := prog_1_method_59_code
def yX8_isSheet : MethodName := ⟨RX8, "isSheet", "(I)Z"⟩
abbrev cX8_dayOf : ByteArray := prog_1_method_60_code
def yX8_dayOf : MethodName := ⟨RX8, "dayOf", "(I)I"⟩
abbrev cX8_hourOf : ByteArray := prog_1_method_61_code
def yX8_hourOf : MethodName := ⟨RX8, "hourOf", "(I)I"⟩
abbrev cX8_isIn : ByteArray := prog_1_method_62_code
def yX8_isIn : MethodName := ⟨RX8, "isIn", "(JI)Z"⟩
def RX9 : String := "EchoValleyModel"
def TX9 : u_T := fun k => match k with
  | 0 => ("EchoValleyModel", "now", "[I", true)
  | 1 => ("EchoValleyModel", "kept", "[I", true)
  | 2 => ("EchoValleyModel", "isKept", "Z", false)
  | 3 => ("EchoValleyModel", "found", "[I", true)
  | 4 => ("EchoValleyModel", "far", "[I", true)
  | 5 => ("EchoValleyModel", "isMeasured", "Z", false)
  | 6 => ("EchoValleyModel", "most", "[I", true)
  | 7 => ("EchoValleyModel", "told", "[I", true)
  | 8 => ("EchoValleyModel", "toldMany", "I", false)
  | 9 => ("EchoValleyModel", "tape", "[I", true)
  | 10 => ("EchoValleyModel", "taped", "I", false)
  | 11 => ("EchoValleyModel", "begins", "I", false)
  | 12 => ("EchoValleyModel", "ends", "I", false)
  | 13 => ("EchoValleyModel", "sort", "I", false)
  | 14 => ("EchoValleyModel", "value", "I", false)
  | 15 => ("EchoValleyModel", "isWrong", "Z", false)
  | 16 => ("EchoValleyModel", "kinds", "[Ljava/lang/String;", true)
  | 17 => ("EchoValleyModel", "items", "[I", true)
  | 18 => ("EchoValleyModel", "itemMany", "I", false)
  | 19 => ("EchoValleyModel", "sayingMany", "I", false)
  | 20 => ("EchoValleyModel", "widths", "[I", true)
  | 21 => ("EchoValleyModel", "sizes", "[I", true)
  | 22 => ("EchoValleyModel", "numbers", "[I", true)
  | _ => ("EchoValleyModel", "moved", "[I", true)
def tyX9 : Nat → FieldType := fun k => match k with
  | 0 => .array .int
  | 1 => .array .int
  | 2 => .boolean
  | 3 => .array .int
  | 4 => .array .int
  | 5 => .boolean
  | 6 => .array .int
  | 7 => .array .int
  | 8 => .int
  | 9 => .array .int
  | 10 => .int
  | 11 => .int
  | 12 => .int
  | 13 => .int
  | 14 => .int
  | 15 => .boolean
  | 16 => .array (.object "java/lang/String")
  | 17 => .array .int
  | 18 => .int
  | 19 => .int
  | 20 => .array .int
  | 21 => .array .int
  | 22 => .array .int
  | _ => .array .int
abbrev wsX90 : List Cond := u_ws RX9 TX9 24
theorem nmX9 : ∀ a, a < 24 → ∀ b, b < 24 → a ≠ b → (TX9 a).2.1 ≠ (TX9 b).2.1 := by decide +kernel
theorem tyX9_ok : ∀ k, k < 24 → parseFieldDescriptor (TX9 k).2.2.1 = some (tyX9 k) := by decide +kernel
abbrev cX9_init : ByteArray := prog_11_method_1_code
def yX9_init : MethodName := ⟨RX9, "<init>", "()V"⟩
abbrev cX9_finding : ByteArray := prog_11_method_2_code
def yX9_finding : MethodName := ⟨RX9, "finding", "(I)I"⟩
abbrev cX9_within : ByteArray := prog_11_method_3_code
def yX9_within : MethodName := ⟨RX9, "within", "(III)Z"⟩
abbrev cX9_has : ByteArray := prog_11_method_4_code
def yX9_has : MethodName := ⟨RX9, "has", "(II)Z"⟩
abbrev cX9_become : ByteArray := prog_11_method_5_code
def yX9_become : MethodName := ⟨RX9, "become", "(II)I"⟩
abbrev cX9_isPlace : ByteArray := prog_11_method_6_code
def yX9_isPlace : MethodName := ⟨RX9, "isPlace", "(I)Z"⟩
abbrev cX9_isDay : ByteArray := prog_11_method_7_code
def yX9_isDay : MethodName := ⟨RX9, "isDay", "(I)Z"⟩
abbrev cX9_isHour : ByteArray := prog_11_method_8_code
def yX9_isHour : MethodName := ⟨RX9, "isHour", "(I)Z"⟩
abbrev cX9_isWhen : ByteArray := prog_11_method_9_code
def yX9_isWhen : MethodName := ⟨RX9, "isWhen", "(I)Z"⟩
abbrev cX9_isPerson : ByteArray := prog_11_method_10_code
def yX9_isPerson : MethodName := ⟨RX9, "isPerson", "(I)Z"⟩
abbrev cX9_isSaying : ByteArray := prog_11_method_11_code
def yX9_isSaying : MethodName := ⟨RX9, "isSaying", "(I)Z"⟩
abbrev cX9_isWay : ByteArray := prog_11_method_12_code
def yX9_isWay : MethodName := ⟨RX9, "isWay", "(II)Z"⟩
abbrev cX9_ways : ByteArray := prog_11_method_13_code
def yX9_ways : MethodName := ⟨RX9, "ways", "(III)V"⟩
abbrev cX9_way : ByteArray := prog_11_method_14_code
def yX9_way : MethodName := ⟨RX9, "way", "(IIZ)I"⟩
abbrev cX9_farOf : ByteArray := prog_11_method_15_code
def yX9_farOf : MethodName := ⟨RX9, "farOf", "(II)I"⟩
abbrev cX9_measure : ByteArray := prog_11_method_16_code
def yX9_measure : MethodName := ⟨RX9, "measure", "()V"⟩
abbrev cX9_steps : ByteArray := prog_11_method_17_code
def yX9_steps : MethodName := ⟨RX9, "steps", "(II)I"⟩
abbrev cX9_days : ByteArray := prog_11_method_18_code
def yX9_days : MethodName := ⟨RX9, "days", "(I)I"⟩
abbrev cX9_rain : ByteArray := prog_11_method_19_code
def yX9_rain : MethodName := ⟨RX9, "rain", "(IZ)I"⟩
abbrev cX9_drawn : ByteArray := prog_11_method_20_code
def yX9_drawn : MethodName := ⟨RX9, "drawn", "(I)I"⟩
abbrev cX9_weather : ByteArray := prog_11_method_21_code
def yX9_weather : MethodName := ⟨RX9, "weather", "(III)I"⟩
abbrev cX9_keep : ByteArray := prog_11_method_22_code
def yX9_keep : MethodName := ⟨RX9, "keep", "(I)I"⟩
abbrev cX9_of : ByteArray := prog_11_method_23_code
def yX9_of : MethodName := ⟨RX9, "of", "(II)I"⟩
abbrev cX9_says : ByteArray := prog_11_method_24_code
def yX9_says : MethodName := ⟨RX9, "says", "(IIIII)I"⟩
abbrev cX9_say : ByteArray := prog_11_method_25_code
def yX9_say : MethodName := ⟨RX9, "say", "(IIIII)I"⟩
abbrev cX9_lasts : ByteArray := prog_11_method_26_code
def yX9_lasts : MethodName := ⟨RX9, "lasts", "(I)I"⟩
abbrev cX9_reach : ByteArray := prog_11_method_27_code
def yX9_reach : MethodName := ⟨RX9, "reach", "(I)I"⟩
abbrev cX9_sayingOf : ByteArray := prog_11_method_28_code
def yX9_sayingOf : MethodName := ⟨RX9, "sayingOf", "(II)I"⟩
abbrev cX9_turn : ByteArray := prog_11_method_29_code
def yX9_turn : MethodName := ⟨RX9, "turn", "(II)I"⟩
abbrev cX9_ageOf : ByteArray := prog_11_method_30_code
def yX9_ageOf : MethodName := ⟨RX9, "ageOf", "(II)I"⟩
abbrev cX9_age : ByteArray := prog_11_method_31_code
def yX9_age : MethodName := ⟨RX9, "age", "(II)I"⟩
abbrev cX9_isOver : ByteArray := prog_11_method_32_code
def yX9_isOver : MethodName := ⟨RX9, "isOver", "(II)Z"⟩
abbrev cX9_overOf : ByteArray := prog_11_method_33_code
def yX9_overOf : MethodName := ⟨RX9, "overOf", "(I)I"⟩
abbrev cX9_over : ByteArray := prog_11_method_34_code
def yX9_over : MethodName := ⟨RX9, "over", "(I)I"⟩
abbrev cX9_isHeard : ByteArray := prog_11_method_35_code
def yX9_isHeard : MethodName := ⟨RX9, "isHeard", "(II)Z"⟩
abbrev cX9_until : ByteArray := prog_11_method_36_code
def yX9_until : MethodName := ⟨RX9, "until", "(I)I"⟩
abbrev cX9_near : ByteArray := prog_11_method_37_code
def yX9_near : MethodName := ⟨RX9, "near", "(II)I"⟩
abbrev cX9_reachesOf : ByteArray := prog_11_method_38_code
def yX9_reachesOf : MethodName := ⟨RX9, "reachesOf", "(I)I"⟩
abbrev cX9_reaches : ByteArray := prog_11_method_39_code
def yX9_reaches : MethodName := ⟨RX9, "reaches", "(II)I"⟩
abbrev cX9_drowns : ByteArray := prog_11_method_40_code
def yX9_drowns : MethodName := ⟨RX9, "drowns", "(I)I"⟩
abbrev cX9_isHeardAt : ByteArray := prog_11_method_41_code
def yX9_isHeardAt : MethodName := ⟨RX9, "isHeardAt", "(IIII)Z"⟩
abbrev cX9_heardAt : ByteArray := prog_11_method_42_code
def yX9_heardAt : MethodName := ⟨RX9, "heardAt", "(III)I"⟩
abbrev cX9_heard : ByteArray := prog_11_method_43_code
def yX9_heard : MethodName := ⟨RX9, "heard", "(II)I"⟩
abbrev cX9_which : ByteArray := prog_11_method_44_code
def yX9_which : MethodName := ⟨RX9, "which", "(III)I"⟩
abbrev cX9_words : ByteArray := prog_11_method_45_code
def yX9_words : MethodName := ⟨RX9, "words", "(II)I"⟩
abbrev cX9_plain : ByteArray := prog_11_method_46_code
def yX9_plain : MethodName := ⟨RX9, "plain", "(II)I"⟩
abbrev cX9_alone : ByteArray := prog_11_method_47_code
def yX9_alone : MethodName := ⟨RX9, "alone", "(I)I"⟩
abbrev cX9_full : ByteArray := prog_11_method_48_code
def yX9_full : MethodName := ⟨RX9, "full", "(II)I"⟩
abbrev cX9_whereIs : ByteArray := prog_11_method_49_code
def yX9_whereIs : MethodName := ⟨RX9, "whereIs", "(II)I"⟩
abbrev cX9_isAt : ByteArray := prog_11_method_50_code
def yX9_isAt : MethodName := ⟨RX9, "isAt", "(IIII)V"⟩
abbrev cX9_manyAt : ByteArray := prog_11_method_51_code
def yX9_manyAt : MethodName := ⟨RX9, "manyAt", "(II)I"⟩
abbrev cX9_person : ByteArray := prog_11_method_52_code
def yX9_person : MethodName := ⟨RX9, "person", "(IIII)I"⟩
abbrev cX9_where : ByteArray := prog_11_method_53_code
def yX9_where : MethodName := ⟨RX9, "where", "(II)I"⟩
abbrev cX9_hearsIt : ByteArray := prog_11_method_54_code
def yX9_hearsIt : MethodName := ⟨RX9, "hearsIt", "(III)Z"⟩
abbrev cX9_hears : ByteArray := prog_11_method_55_code
def yX9_hears : MethodName := ⟨RX9, "hears", "(II)I"⟩
abbrev cX9_first : ByteArray := prog_11_method_56_code
def yX9_first : MethodName := ⟨RX9, "first", "(II)I"⟩
abbrev cX9_who : ByteArray := prog_11_method_57_code
def yX9_who : MethodName := ⟨RX9, "who", "(I)I"⟩
abbrev cX9_said : ByteArray := prog_11_method_58_code
def yX9_said : MethodName := ⟨RX9, "said", "(I)I"⟩
abbrev cX9_tell : ByteArray := prog_11_method_59_code
def yX9_tell : MethodName := ⟨RX9, "tell", "(II)I"⟩
abbrev cX9_isNear : ByteArray := prog_11_method_60_code
def yX9_isNear : MethodName := ⟨RX9, "isNear", "(IIII)Z"⟩
abbrev cX9_needs : ByteArray := prog_11_method_61_code
def yX9_needs : MethodName := ⟨RX9, "needs", "(I)I"⟩
abbrev cX9_walk : ByteArray := prog_11_method_62_code
def yX9_walk : MethodName := ⟨RX9, "walk", "(III)I"⟩
abbrev cX9_step : ByteArray := prog_11_method_63_code
def yX9_step : MethodName := ⟨RX9, "step", "(I)I"⟩
abbrev cX9_crowd : ByteArray := prog_11_method_64_code
def yX9_crowd : MethodName := ⟨RX9, "crowd", "()I"⟩
abbrev cX9_seed : ByteArray := prog_11_method_65_code
def yX9_seed : MethodName := ⟨RX9, "seed", "(I)I"⟩
abbrev cX9_feed : ByteArray := prog_11_method_66_code
def yX9_feed : MethodName := ⟨RX9, "feed", "(II)I"⟩
abbrev cX9_wipe : ByteArray := prog_11_method_67_code
def yX9_wipe : MethodName := ⟨RX9, "wipe", "()I"⟩
abbrev cX9_byteAt : ByteArray := prog_11_method_68_code
def yX9_byteAt : MethodName := ⟨RX9, "byteAt", "(I)I"⟩
abbrev cX9_next : ByteArray := prog_11_method_69_code
def yX9_next : MethodName := ⟨RX9, "next", "()V"⟩
abbrev cX9_isWord : ByteArray := prog_11_method_70_code
def yX9_isWord : MethodName := ⟨RX9, "isWord", "(Ljava/lang/String;)Z"⟩
abbrev cX9_must : ByteArray := prog_11_method_71_code
def yX9_must : MethodName := ⟨RX9, "must", "(Z)V"⟩
abbrev cX9_number : ByteArray := prog_11_method_72_code
def yX9_number : MethodName := ⟨RX9, "number", "(III)I"⟩
abbrev cX9_item : ByteArray := prog_11_method_73_code
def yX9_item : MethodName := ⟨RX9, "item", "(IIIII)V"⟩
abbrev cX9_readItem : ByteArray := prog_11_method_74_code
def yX9_readItem : MethodName := ⟨RX9, "readItem", "()V"⟩
abbrev cX9_readSaying : ByteArray := prog_11_method_75_code
def yX9_readSaying : MethodName := ⟨RX9, "readSaying", "(I)V"⟩
abbrev cX9_readPerson : ByteArray := prog_11_method_76_code
def yX9_readPerson : MethodName := ⟨RX9, "readPerson", "()V"⟩
abbrev cX9_isSo : ByteArray := prog_11_method_77_code
def yX9_isSo : MethodName := ⟨RX9, "isSo", "(I)V"⟩
abbrev cX9_text : ByteArray := prog_11_method_78_code
def yX9_text : MethodName := ⟨RX9, "text", "()I"⟩
abbrev cX9_hold : ByteArray := prog_11_method_79_code
def yX9_hold : MethodName := ⟨RX9, "hold", "(II)I"⟩
abbrev cX9_above : ByteArray := prog_11_method_80_code
def yX9_above : MethodName := ⟨RX9, "above", "(I)I"⟩
abbrev cX9_as : ByteArray := prog_11_method_81_code
def yX9_as : MethodName := ⟨RX9, "as", "(II)I"⟩
abbrev cX9_isSheet : ByteArray := prog_11_method_82_code
def yX9_isSheet : MethodName := ⟨RX9, "isSheet", "(I)Z"⟩
abbrev cX9_cutTo : ByteArray := prog_11_method_83_code
def yX9_cutTo : MethodName := ⟨RX9, "cutTo", "(II)I"⟩
abbrev cX9_sheet : ByteArray := prog_11_method_84_code
def yX9_sheet : MethodName := ⟨RX9, "sheet", "(III)I"⟩
abbrev cX9_write : ByteArray := prog_11_method_85_code
def yX9_write : MethodName := ⟨RX9, "write", "(III)I"⟩
abbrev cX9_copy : ByteArray := prog_11_method_86_code
def yX9_copy : MethodName := ⟨RX9, "copy", "(IIIII)I"⟩
abbrev cX9_load : ByteArray := prog_11_method_87_code
def yX9_load : MethodName := ⟨RX9, "load", "(II)I"⟩
abbrev cX9_judge : ByteArray := prog_11_method_88_code
def yX9_judge : MethodName := ⟨RX9, "judge", "(II)I"⟩
abbrev cX9_copyRow : ByteArray := prog_11_method_89_code
def yX9_copyRow : MethodName := ⟨RX9, "copyRow", "([I[I)V"⟩
abbrev cX9_image : ByteArray := prog_11_method_90_code
def yX9_image : MethodName := ⟨RX9, "image", "()I"⟩
abbrev cX9_undo : ByteArray := prog_11_method_91_code
def yX9_undo : MethodName := ⟨RX9, "undo", "()I"⟩
abbrev cX9_tear : ByteArray := prog_11_method_92_code
def yX9_tear : MethodName := ⟨RX9, "tear", "()I"⟩
abbrev cX9_count : ByteArray := prog_11_method_93_code
def yX9_count : MethodName := ⟨RX9, "count", "(I)I"⟩
abbrev cX9_status : ByteArray := prog_11_method_94_code
def yX9_status : MethodName := ⟨RX9, "status", "(I)I"⟩
def RJx145de : String := "java/io/Serializable"
def TJx145de : u_T := fun k => match k with
  | _ => ("", "", "", false)
def tyJx145de : Nat → FieldType := fun k => match k with
  | _ => .int
abbrev wsJx145de0 : List Cond := u_ws RJx145de TJx145de 0
theorem nmJx145de : ∀ a, a < 0 → ∀ b, b < 0 → a ≠ b → (TJx145de a).2.1 ≠ (TJx145de b).2.1 := by decide +kernel
theorem tyJx145de_ok : ∀ k, k < 0 → parseFieldDescriptor (TJx145de k).2.2.1 = some (tyJx145de k) := by decide +kernel
def RJx9f9b0 : String := "java/lang/CharSequence"
def TJx9f9b0 : u_T := fun k => match k with
  | _ => ("", "", "", false)
def tyJx9f9b0 : Nat → FieldType := fun k => match k with
  | _ => .int
abbrev wsJx9f9b00 : List Cond := u_ws RJx9f9b0 TJx9f9b0 0
theorem nmJx9f9b0 : ∀ a, a < 0 → ∀ b, b < 0 → a ≠ b → (TJx9f9b0 a).2.1 ≠ (TJx9f9b0 b).2.1 := by decide +kernel
theorem tyJx9f9b0_ok : ∀ k, k < 0 → parseFieldDescriptor (TJx9f9b0 k).2.2.1 = some (tyJx9f9b0 k) := by decide +kernel
def RJxb160c : String := "java/lang/Comparable"
def TJxb160c : u_T := fun k => match k with
  | _ => ("", "", "", false)
def tyJxb160c : Nat → FieldType := fun k => match k with
  | _ => .int
abbrev wsJxb160c0 : List Cond := u_ws RJxb160c TJxb160c 0
theorem nmJxb160c : ∀ a, a < 0 → ∀ b, b < 0 → a ≠ b → (TJxb160c a).2.1 ≠ (TJxb160c b).2.1 := by decide +kernel
theorem tyJxb160c_ok : ∀ k, k < 0 → parseFieldDescriptor (TJxb160c k).2.2.1 = some (tyJxb160c k) := by decide +kernel
def RJ6 : String := "java/lang/Integer"
def TJ6 : u_T := fun k => match k with
  | _ => ("", "", "", false)
def tyJ6 : Nat → FieldType := fun k => match k with
  | _ => .int
abbrev wsJ60 : List Cond := u_ws RJ6 TJ6 0
theorem nmJ6 : ∀ a, a < 0 → ∀ b, b < 0 → a ≠ b → (TJ6 a).2.1 ≠ (TJ6 b).2.1 := by decide +kernel
theorem tyJ6_ok : ∀ k, k < 0 → parseFieldDescriptor (TJ6 k).2.2.1 = some (tyJ6 k) := by decide +kernel
abbrev cJ6_bitCount_0f7a4 : ByteArray := prog_12_method_49_code
def yJ6_bitCount_0f7a4 : MethodName := ⟨RJ6, "bitCount", "(I)I"⟩
def RJ13 : String := "java/lang/Long"
def TJ13 : u_T := fun k => match k with
  | _ => ("", "", "", false)
def tyJ13 : Nat → FieldType := fun k => match k with
  | _ => .int
abbrev wsJ130 : List Cond := u_ws RJ13 TJ13 0
theorem nmJ13 : ∀ a, a < 0 → ∀ b, b < 0 → a ≠ b → (TJ13 a).2.1 ≠ (TJ13 b).2.1 := by decide +kernel
theorem tyJ13_ok : ∀ k, k < 0 → parseFieldDescriptor (TJ13 k).2.2.1 = some (tyJ13 k) := by decide +kernel
abbrev cJ13_bitCount_95d88 : ByteArray := prog_13_method_50_code
def yJ13_bitCount_95d88 : MethodName := ⟨RJ13, "bitCount", "(J)I"⟩
def RJ9 : String := "java/lang/Math"
def TJ9 : u_T := fun k => match k with
  | _ => ("", "", "", false)
def tyJ9 : Nat → FieldType := fun k => match k with
  | _ => .int
abbrev wsJ90 : List Cond := u_ws RJ9 TJ9 0
theorem nmJ9 : ∀ a, a < 0 → ∀ b, b < 0 → a ≠ b → (TJ9 a).2.1 ≠ (TJ9 b).2.1 := by decide +kernel
theorem tyJ9_ok : ∀ k, k < 0 → parseFieldDescriptor (TJ9 k).2.2.1 = some (tyJ9 k) := by decide +kernel
abbrev cJ9_max_7cf53 : ByteArray := prog_14_method_65_code
def yJ9_max_7cf53 : MethodName := ⟨RJ9, "max", "(II)I"⟩
abbrev cJ9_min_7cf53 : ByteArray := prog_14_method_69_code
def yJ9_min_7cf53 : MethodName := ⟨RJ9, "min", "(II)I"⟩
def RJ0 : String := "java/lang/String"
def TJ0 : u_T := fun k => match k with
  | _ => ("", "", "", false)
def tyJ0 : Nat → FieldType := fun k => match k with
  | _ => .int
abbrev wsJ00 : List Cond := u_ws RJ0 TJ0 0
theorem nmJ0 : ∀ a, a < 0 → ∀ b, b < 0 → a ≠ b → (TJ0 a).2.1 ≠ (TJ0 b).2.1 := by decide +kernel
theorem tyJ0_ok : ∀ k, k < 0 → parseFieldDescriptor (TJ0 k).2.2.1 = some (tyJ0 k) := by decide +kernel
abbrev cJ0_length_8abf5 : ByteArray := prog_15_method_54_code
def yJ0_length_8abf5 : MethodName := ⟨RJ0, "length", "()I"⟩
abbrev cJ0_charAt_5068e : ByteArray := prog_15_method_56_code
def yJ0_charAt_5068e : MethodName := ⟨RJ0, "charAt", "(I)C"⟩
abbrev cJ0_coder_7d493 : ByteArray := prog_15_method_152_code
def yJ0_coder_7d493 : MethodName := ⟨RJ0, "coder", "()B"⟩
abbrev cJ0_isLatin1_aae02 : ByteArray := prog_15_method_154_code
def yJ0_isLatin1_aae02 : MethodName := ⟨RJ0, "isLatin1", "()Z"⟩
abbrev cJ0_checkIndex_df160 : ByteArray := prog_15_method_155_code
def yJ0_checkIndex_df160 : MethodName := ⟨RJ0, "checkIndex", "(II)V"⟩
def RJ1 : String := "java/lang/StringLatin1"
def TJ1 : u_T := fun k => match k with
  | _ => ("", "", "", false)
def tyJ1 : Nat → FieldType := fun k => match k with
  | _ => .int
abbrev wsJ10 : List Cond := u_ws RJ1 TJ1 0
theorem nmJ1 : ∀ a, a < 0 → ∀ b, b < 0 → a ≠ b → (TJ1 a).2.1 ≠ (TJ1 b).2.1 := by decide +kernel
theorem tyJ1_ok : ∀ k, k < 0 → parseFieldDescriptor (TJ1 k).2.2.1 = some (tyJ1 k) := by decide +kernel
abbrev cJ1_charAt_3b067 : ByteArray := prog_16_method_2_code
def yJ1_charAt_3b067 : MethodName := ⟨RJ1, "charAt", "([BI)C"⟩
def RJ2 : String := "java/lang/StringUTF16"
def TJ2 : u_T := fun k => match k with
  | _ => ("", "", "", false)
def tyJ2 : Nat → FieldType := fun k => match k with
  | _ => .int
abbrev wsJ20 : List Cond := u_ws RJ2 TJ2 0
theorem nmJ2 : ∀ a, a < 0 → ∀ b, b < 0 → a ≠ b → (TJ2 a).2.1 ≠ (TJ2 b).2.1 := by decide +kernel
theorem tyJ2_ok : ∀ k, k < 0 → parseFieldDescriptor (TJ2 k).2.2.1 = some (tyJ2 k) := by decide +kernel
abbrev cJ2_getChar_3b067 : ByteArray := prog_17_method_5_code
def yJ2_getChar_3b067 : MethodName := ⟨RJ2, "getChar", "([BI)C"⟩
abbrev cJ2_length_9d52b : ByteArray := prog_17_method_6_code
def yJ2_length_9d52b : MethodName := ⟨RJ2, "length", "([B)I"⟩
abbrev cJ2_charAt_3b067 : ByteArray := prog_17_method_83_code
def yJ2_charAt_3b067 : MethodName := ⟨RJ2, "charAt", "([BI)C"⟩
abbrev cJ2_checkIndex_2214a : ByteArray := prog_17_method_91_code
def yJ2_checkIndex_2214a : MethodName := ⟨RJ2, "checkIndex", "(I[B)V"⟩
def RJ10 : String := "java/lang/System"
def TJ10 : u_T := fun k => match k with
  | _ => ("", "", "", false)
def tyJ10 : Nat → FieldType := fun k => match k with
  | _ => .int
abbrev wsJ100 : List Cond := u_ws RJ10 TJ10 0
theorem nmJ10 : ∀ a, a < 0 → ∀ b, b < 0 → a ≠ b → (TJ10 a).2.1 ≠ (TJ10 b).2.1 := by decide +kernel
theorem tyJ10_ok : ∀ k, k < 0 → parseFieldDescriptor (TJ10 k).2.2.1 = some (tyJ10 k) := by decide +kernel
def RJxfd54e : String := "java/lang/constant/Constable"
def TJxfd54e : u_T := fun k => match k with
  | _ => ("", "", "", false)
def tyJxfd54e : Nat → FieldType := fun k => match k with
  | _ => .int
abbrev wsJxfd54e0 : List Cond := u_ws RJxfd54e TJxfd54e 0
theorem nmJxfd54e : ∀ a, a < 0 → ∀ b, b < 0 → a ≠ b → (TJxfd54e a).2.1 ≠ (TJxfd54e b).2.1 := by decide +kernel
theorem tyJxfd54e_ok : ∀ k, k < 0 → parseFieldDescriptor (TJxfd54e k).2.2.1 = some (tyJxfd54e k) := by decide +kernel
def RJx3cf43 : String := "java/lang/constant/ConstantDesc"
def TJx3cf43 : u_T := fun k => match k with
  | _ => ("", "", "", false)
def tyJx3cf43 : Nat → FieldType := fun k => match k with
  | _ => .int
abbrev wsJx3cf430 : List Cond := u_ws RJx3cf43 TJx3cf43 0
theorem nmJx3cf43 : ∀ a, a < 0 → ∀ b, b < 0 → a ≠ b → (TJx3cf43 a).2.1 ≠ (TJx3cf43 b).2.1 := by decide +kernel
theorem tyJx3cf43_ok : ∀ k, k < 0 → parseFieldDescriptor (TJx3cf43 k).2.2.1 = some (tyJx3cf43 k) := by decide +kernel
def RJ7 : String := "java/util/Arrays"
def TJ7 : u_T := fun k => match k with
  | _ => ("", "", "", false)
def tyJ7 : Nat → FieldType := fun k => match k with
  | _ => .int
abbrev wsJ70 : List Cond := u_ws RJ7 TJ7 0
theorem nmJ7 : ∀ a, a < 0 → ∀ b, b < 0 → a ≠ b → (TJ7 a).2.1 ≠ (TJ7 b).2.1 := by decide +kernel
theorem tyJ7_ok : ∀ k, k < 0 → parseFieldDescriptor (TJ7 k).2.2.1 = some (tyJ7 k) := by decide +kernel
abbrev cJ7_fill_53178 : ByteArray := prog_19_method_103_code
def yJ7_fill_53178 : MethodName := ⟨RJ7, "fill", "([II)V"⟩
def RJ3 : String := "jdk/internal/util/Preconditions"
def TJ3 : u_T := fun k => match k with
  | _ => ("", "", "", false)
def tyJ3 : Nat → FieldType := fun k => match k with
  | _ => .int
abbrev wsJ30 : List Cond := u_ws RJ3 TJ3 0
theorem nmJ3 : ∀ a, a < 0 → ∀ b, b < 0 → a ≠ b → (TJ3 a).2.1 ≠ (TJ3 b).2.1 := by decide +kernel
theorem tyJ3_ok : ∀ k, k < 0 → parseFieldDescriptor (TJ3 k).2.2.1 = some (tyJ3 k) := by decide +kernel
abbrev cJ3_checkIndex_8e157 : ByteArray := prog_20_method_11_code
def yJ3_checkIndex_8e157 : MethodName := ⟨RJ3, "checkIndex", "(IILjava/util/function/BiFunction;)I"⟩
def RL : String := "EchoValleyLaw"
abbrev cL_law : ByteArray := code
def yL_law : MethodName := ⟨RL, "law", "([I)Z"⟩
abbrev vwCl : List vw_C := [(RX1, TX1, 1), (RX2, TX2, 6), (RX3, TX3, 7), (RX4, TX4, 3), (RX5, TX5, 8), (RX6, TX6, 4), (RX7, TX7, 1), (RX8, TX8, 8), (RX9, TX9, 24)]
end
section
/-! The small machine: its types. -/
abbrev xE : Type := Nat × List Bool × Instr × Nat × Nat × Value
abbrev xL : Type := List (Option Value)
abbrev xM : Type := Nat → Nat → Int32
abbrev xH : Type := List (Nat × Nat) × (Nat → Nat → Option Nat) × xM
def xnth {α : Type} (d : α) : List α → Nat → α
  | [], _ => d
  | a :: _, 0 => a
  | _ :: l, n + 1 => xnth d l n
def xisI (ci j : Nat) : Bool := match vwCl[ci]? with
  | some (_, T, _) => (T j).2.2.1 == "I" || (T j).2.2.1 == "Z"
  | none => false
end
section
abbrev jX0_isKind : Nat := 0
def kX0_isKind : List xE := [(0, [], .iload_n 0, 0, 0, .null), (1, [], .ifCond .lt 15, 0, 16, .null), (4, [], .iload_n 0, 0, 0, .null), (5, [], .getstatic 7, 0, 0, .ref 1001), (8, [], .arraylength, 0, 0, .null), (9, [], .if_icmp .ge 7, 0, 16, .null), (12, [], .iconst 1, 0, 0, .int 1), (13, [], .goto 4, 0, 17, .null), (16, [], .iconst 0, 0, 0, .int 0), (17, [], .ireturn, 0, 0, .null)]
abbrev jX0_isUnder : Nat := 1
def kX0_isUnder : List xE := [(0, [], .iload_n 0, 0, 0, .null), (1, [], .istore_n 2, 2, 0, .null), (2, [], .iconst 0, 0, 0, .int 0), (3, [], .istore_n 3, 3, 0, .null), (4, [false, true, true, true], .iload_n 3, 3, 0, .null), (5, [], .getstatic 7, 0, 0, .ref 1001), (8, [], .arraylength, 0, 0, .null), (9, [], .if_icmp .ge 29, 0, 38, .null), (12, [], .iload_n 2, 2, 0, .null), (13, [], .invokestatic 13, 0, 1, .null), (16, [], .ifCond .eq 22, 0, 38, .null), (19, [], .iload_n 2, 2, 0, .null), (20, [], .iload_n 1, 1, 0, .null), (21, [], .if_icmp .ne 5, 0, 26, .null), (24, [], .iconst 1, 0, 0, .int 1), (25, [], .ireturn, 0, 0, .null), (26, [], .getstatic 7, 0, 0, .ref 1001), (29, [], .iload_n 2, 2, 0, .null), (30, [], .iaload, 0, 0, .null), (31, [], .istore_n 2, 2, 0, .null), (32, [], .iinc 3 1, 3, 0, .int 1), (35, [], .goto (-31), 0, 4, .null), (38, [], .iconst 0, 0, 0, .int 0), (39, [], .ireturn, 0, 0, .null)]
abbrev jX0_lasting : Nat := 2
def kX0_lasting : List xE := [(0, [], .iload_n 0, 0, 0, .null), (1, [], .tableswitch 55 1 6 #[39, 55, 55, 39, 43, 47], 0, 0, .null), (40, [], .iconst 2, 0, 0, .int 2), (41, [], .iload_n 1, 1, 0, .null), (42, [], .imul, 0, 0, .null), (43, [], .ireturn, 0, 0, .null), (44, [], .iload_n 1, 1, 0, .null), (45, [], .iconst 5, 0, 0, .int 5), (46, [], .iadd, 0, 0, .null), (47, [], .ireturn, 0, 0, .null), (48, [], .iconst 1, 0, 0, .int 1), (49, [], .iload_n 1, 1, 0, .null), (50, [], .iconst 3, 0, 0, .int 3), (51, [], .isub, 0, 0, .null), (52, [], .invokestatic 17, 996, 2, .null), (55, [], .ireturn, 0, 0, .null), (56, [], .iload_n 1, 1, 0, .null), (57, [], .ireturn, 0, 0, .null)]
abbrev jX0_reachOf : Nat := 3
def kX0_reachOf : List xE := [(0, [], .iload_n 0, 0, 0, .null), (1, [], .tableswitch 43 2 6 #[35, 43, 37, 43, 35], 0, 0, .null), (36, [], .iconst 0, 0, 0, .int 0), (37, [], .ireturn, 0, 0, .null), (38, [], .iload_n 1, 1, 0, .null), (39, [], .iconst 3, 0, 0, .int 3), (40, [], .idiv, 0, 0, .null), (41, [], .iconst 2, 0, 0, .int 2), (42, [], .iadd, 0, 0, .null), (43, [], .ireturn, 0, 0, .null), (44, [], .iload_n 1, 1, 0, .null), (45, [], .iconst 3, 0, 0, .int 3), (46, [], .idiv, 0, 0, .null), (47, [], .ireturn, 0, 0, .null)]
abbrev jX0_canDrown : Nat := 4
def kX0_canDrown : List xE := [(0, [], .iload_n 0, 0, 0, .null), (1, [], .tableswitch 39 2 6 #[35, 37, 39, 37, 35], 0, 0, .null), (36, [], .iconst 0, 0, 0, .int 0), (37, [], .ireturn, 0, 0, .null), (38, [], .iconst 1, 0, 0, .int 1), (39, [], .ireturn, 0, 0, .null), (40, [], .iload_n 1, 1, 0, .null), (41, [], .iload_n 2, 2, 0, .null), (42, [], .if_icmp .lt 7, 0, 49, .null), (45, [], .iconst 1, 0, 0, .int 1), (46, [], .goto 4, 0, 50, .null), (49, [], .iconst 0, 0, 0, .int 0), (50, [], .ireturn, 0, 0, .null)]
abbrev jX0_canYield : Nat := 5
def kX0_canYield : List xE := [(0, [], .iload_n 0, 0, 0, .null), (1, [], .iconst 5, 0, 0, .int 5), (2, [], .if_icmp .ne 8, 0, 10, .null), (5, [], .iload_n 1, 1, 0, .null), (6, [], .iconst 5, 0, 0, .int 5), (7, [], .if_icmp .ne 7, 0, 14, .null), (10, [], .iconst 1, 0, 0, .int 1), (11, [], .goto 4, 0, 15, .null), (14, [], .iconst 0, 0, 0, .int 0), (15, [], .ireturn, 0, 0, .null)]
abbrev jX1_init : Nat := 6
def kX1_init : List xE := [(0, [], .aload_n 0, 0, 0, .null), (1, [], .invokespecial 3, 999, 1, .null), (4, [], .aload_n 0, 0, 0, .null), (5, [], .sipush 144, 0, 0, .int 144), (8, [], .newarray .int, 0, 0, .null), (10, [], .putfield 9, 0, 0, .null), (13, [], .aload_n 0, 0, 0, .null), (14, [], .getfield 9, 0, 0, .null), (17, [], .iconst (-1), 0, 0, .int (-1)), (18, [], .invokestatic 15, 237, 2, .null), (21, [], .return_, 0, 0, .null)]
abbrev jX1_become : Nat := 7
def kX1_become : List xE := [(0, [], .aload_n 1, 1, 0, .null), (1, [], .getfield 9, 0, 0, .null), (4, [], .iconst 0, 0, 0, .int 0), (5, [], .aload_n 0, 0, 0, .null), (6, [], .getfield 9, 0, 0, .null), (9, [], .iconst 0, 0, 0, .int 0), (10, [], .sipush 144, 0, 0, .int 144), (13, [], .invokestatic 21, 998, 5, .null), (16, [], .return_, 0, 0, .null)]
abbrev jX1_placeOf : Nat := 8
def kX1_placeOf : List xE := [(0, [], .aload_n 0, 0, 0, .null), (1, [], .getfield 9, 0, 0, .null), (4, [], .iload_n 1, 1, 0, .null), (5, [], .bipush 24, 0, 0, .int 24), (7, [], .imul, 0, 0, .null), (8, [], .iload_n 2, 2, 0, .null), (9, [], .iadd, 0, 0, .null), (10, [], .iaload, 0, 0, .null), (11, [], .ireturn, 0, 0, .null)]
abbrev jX1_put : Nat := 9
def kX1_put : List xE := [(0, [], .iload_n 3, 3, 0, .null), (1, [], .istore 5, 5, 0, .null), (3, [true, true, true, false, true, true], .iload 5, 5, 0, .null), (5, [], .iload 4, 4, 0, .null), (7, [], .if_icmp .gt 22, 0, 29, .null), (10, [], .aload_n 0, 0, 0, .null), (11, [], .getfield 9, 0, 0, .null), (14, [], .iload_n 1, 1, 0, .null), (15, [], .bipush 24, 0, 0, .int 24), (17, [], .imul, 0, 0, .null), (18, [], .iload 5, 5, 0, .null), (20, [], .iadd, 0, 0, .null), (21, [], .iload_n 2, 2, 0, .null), (22, [], .iastore, 0, 0, .null), (23, [], .iinc 5 1, 5, 0, .int 1), (26, [], .goto (-23), 0, 3, .null), (29, [], .return_, 0, 0, .null)]
abbrev jX1_placesTaken : Nat := 10
def kX1_placesTaken : List xE := [(0, [], .iconst 0, 0, 0, .int 0), (1, [], .istore_n 2, 2, 0, .null), (2, [], .iconst 0, 0, 0, .int 0), (3, [], .istore_n 3, 3, 0, .null), (4, [true, true, true, true, false], .iload_n 3, 3, 0, .null), (5, [], .bipush 6, 0, 0, .int 6), (7, [], .if_icmp .ge 30, 0, 37, .null), (10, [], .aload_n 0, 0, 0, .null), (11, [], .iload_n 3, 3, 0, .null), (12, [], .iload_n 1, 1, 0, .null), (13, [], .invokevirtual 27, 8, 3, .ref 0), (16, [], .istore 4, 4, 0, .null), (18, [], .iload 4, 4, 0, .null), (20, [], .iconst (-1), 0, 0, .int (-1)), (21, [], .if_icmp .eq 10, 0, 31, .null), (24, [], .iload_n 2, 2, 0, .null), (25, [], .iconst 1, 0, 0, .int 1), (26, [], .iload 4, 4, 0, .null), (28, [], .ishl, 0, 0, .null), (29, [], .ior, 0, 0, .null), (30, [], .istore_n 2, 2, 0, .null), (31, [], .iinc 3 1, 3, 0, .int 1), (34, [], .goto (-30), 0, 4, .null), (37, [], .iload_n 2, 2, 0, .null), (38, [], .ireturn, 0, 0, .null)]
abbrev jX1_numberAt : Nat := 11
def kX1_numberAt : List xE := [(0, [], .iconst 0, 0, 0, .int 0), (1, [], .istore_n 3, 3, 0, .null), (2, [], .iconst 0, 0, 0, .int 0), (3, [], .istore 4, 4, 0, .null), (5, [true, true, true, true, true], .iload 4, 4, 0, .null), (7, [], .bipush 6, 0, 0, .int 6), (9, [], .if_icmp .ge 23, 0, 32, .null), (12, [], .aload_n 0, 0, 0, .null), (13, [], .iload 4, 4, 0, .null), (15, [], .iload_n 2, 2, 0, .null), (16, [], .invokevirtual 27, 8, 3, .ref 0), (19, [], .iload_n 1, 1, 0, .null), (20, [], .if_icmp .ne 6, 0, 26, .null), (23, [], .iinc 3 1, 3, 0, .int 1), (26, [], .iinc 4 1, 4, 0, .int 1), (29, [], .goto (-24), 0, 5, .null), (32, [], .iload_n 3, 3, 0, .null), (33, [], .ireturn, 0, 0, .null)]
abbrev jX2_init : Nat := 12
def kX2_init : List xE := [(0, [], .aload_n 0, 0, 0, .null), (1, [], .invokespecial 3, 999, 1, .null), (4, [], .aload_n 0, 0, 0, .null), (5, [], .bipush 120, 0, 0, .int 120), (7, [], .newarray .int, 0, 0, .null), (9, [], .putfield 9, 1, 1, .null), (12, [], .return_, 0, 0, .null)]
abbrev jX2_add : Nat := 13
def kX2_add : List xE := [(0, [], .iload_n 2, 2, 0, .null), (1, [], .iconst 1, 0, 0, .int 1), (2, [], .isub, 0, 0, .null), (3, [], .istore_n 3, 3, 0, .null), (4, [true, true, false, true], .iload_n 3, 3, 0, .null), (5, [], .ifCond .lt 38, 0, 43, .null), (8, [], .aload_n 0, 0, 0, .null), (9, [], .getfield 9, 1, 1, .null), (12, [], .aload_n 0, 0, 0, .null), (13, [], .getfield 15, 1, 0, .int 0), (16, [], .iload_n 1, 1, 0, .null), (17, [], .bipush 8, 0, 0, .int 8), (19, [], .iload_n 3, 3, 0, .null), (20, [], .imul, 0, 0, .null), (21, [], .iushr, 0, 0, .null), (22, [], .sipush 255, 0, 0, .int 255), (25, [], .iand, 0, 0, .null), (26, [], .iastore, 0, 0, .null), (27, [], .aload_n 0, 0, 0, .null), (28, [], .dup, 0, 0, .null), (29, [], .getfield 15, 1, 0, .int 0), (32, [], .iconst 1, 0, 0, .int 1), (33, [], .iadd, 0, 0, .null), (34, [], .putfield 15, 1, 0, .int 0), (37, [], .iinc 3 (-1), 3, 0, .int (-1)), (40, [], .goto (-36), 0, 4, .null), (43, [], .return_, 0, 0, .null)]
abbrev jX2_clear : Nat := 14
def kX2_clear : List xE := [(0, [], .aload_n 0, 0, 0, .null), (1, [], .getfield 15, 1, 0, .int 0), (4, [], .istore_n 1, 1, 0, .null), (5, [], .aload_n 0, 0, 0, .null), (6, [], .iconst 0, 0, 0, .int 0), (7, [], .putfield 15, 1, 0, .int 0), (10, [], .iload_n 1, 1, 0, .null), (11, [], .ireturn, 0, 0, .null)]
abbrev jX2_readInto : Nat := 15
def kX2_readInto : List xE := [(0, [], .aload_n 0, 0, 0, .null), (1, [], .iconst 0, 0, 0, .int 0), (2, [], .putfield 19, 1, 4, .int 0), (5, [], .aload_n 0, 0, 0, .null), (6, [], .invokevirtual 22, 26, 1, .ref 1), (9, [], .iconst 1, 0, 0, .int 1), (10, [], .istore_n 2, 2, 0, .null), (11, [true, true, true], .iload_n 2, 2, 0, .null), (12, [], .bipush 120, 0, 0, .int 120), (14, [], .if_icmp .gt 52, 0, 66, .null), (17, [], .aload_n 0, 0, 0, .null), (18, [], .aload_n 1, 1, 0, .null), (19, [], .invokevirtual 25, 16, 2, .ref 1), (22, [], .ifCond .ne 10, 0, 32, .null), (25, [], .iconst (-1), 0, 0, .int (-1)), (26, [], .aload_n 0, 0, 0, .null), (27, [], .getfield 29, 1, 3, .int 0), (30, [], .isub, 0, 0, .null), (31, [], .ireturn, 0, 0, .null), (32, [], .aload_n 0, 0, 0, .null), (33, [], .getfield 32, 1, 2, .int 0), (36, [], .ifCond .ne 5, 0, 41, .null), (39, [], .iload_n 2, 2, 0, .null), (40, [], .ireturn, 0, 0, .null), (41, [], .aload_n 0, 0, 0, .null), (42, [], .getfield 32, 1, 2, .int 0), (45, [], .iconst 3, 0, 0, .int 3), (46, [], .if_icmp .eq 10, 0, 56, .null), (49, [], .iconst (-1), 0, 0, .int (-1)), (50, [], .aload_n 0, 0, 0, .null), (51, [], .getfield 29, 1, 3, .int 0), (54, [], .isub, 0, 0, .null), (55, [], .ireturn, 0, 0, .null), (56, [], .aload_n 0, 0, 0, .null), (57, [], .invokevirtual 22, 26, 1, .ref 1), (60, [], .iinc 2 1, 2, 0, .int 1), (63, [], .goto (-52), 0, 11, .null), (66, [], .iconst (-1), 0, 0, .int (-1)), (67, [], .aload_n 0, 0, 0, .null), (68, [], .getfield 29, 1, 3, .int 0), (71, [], .isub, 0, 0, .null), (72, [], .ireturn, 0, 0, .null)]
abbrev jX2_readItem : Nat := 16
def kX2_readItem : List xE := [(0, [], .aload_n 0, 0, 0, .null), (1, [], .ldc 35, 0, 0, .ref 1100), (3, [], .invokevirtual 37, 23, 2, .ref 1), (6, [], .ifCond .eq 9, 0, 15, .null), (9, [], .aload_n 0, 0, 0, .null), (10, [], .aload_n 1, 1, 0, .null), (11, [], .invokevirtual 41, 17, 2, .ref 1), (14, [], .ireturn, 0, 0, .null), (15, [], .aload_n 0, 0, 0, .null), (16, [], .ldc 44, 0, 1, .ref 1101), (18, [], .invokevirtual 37, 23, 2, .ref 1), (21, [], .ifCond .eq 9, 0, 30, .null), (24, [], .aload_n 0, 0, 0, .null), (25, [], .aload_n 1, 1, 0, .null), (26, [], .invokevirtual 46, 18, 2, .ref 1), (29, [], .ireturn, 0, 0, .null), (30, [], .aload_n 0, 0, 0, .null), (31, [], .ldc 49, 0, 4, .ref 1104), (33, [], .invokevirtual 37, 23, 2, .ref 1), (36, [], .ifCond .eq 9, 0, 45, .null), (39, [], .aload_n 0, 0, 0, .null), (40, [], .aload_n 1, 1, 0, .null), (41, [], .invokevirtual 51, 19, 2, .ref 1), (44, [], .ireturn, 0, 0, .null), (45, [], .aload_n 0, 0, 0, .null), (46, [], .ldc 54, 0, 5, .ref 1105), (48, [], .invokevirtual 37, 23, 2, .ref 1), (51, [], .ifCond .eq 9, 0, 60, .null), (54, [], .aload_n 0, 0, 0, .null), (55, [], .aload_n 1, 1, 0, .null), (56, [], .invokevirtual 56, 20, 2, .ref 1), (59, [], .ireturn, 0, 0, .null), (60, [], .aload_n 0, 0, 0, .null), (61, [], .invokevirtual 59, 22, 1, .ref 1), (64, [], .istore_n 2, 2, 0, .null), (65, [], .iload_n 2, 2, 0, .null), (66, [], .ifCond .lt 13, 0, 79, .null), (69, [], .aload_n 1, 1, 0, .null), (70, [], .getfield 63, 4, 1, .null), (73, [], .invokevirtual 69, 31, 1, .ref 2), (76, [], .ifCond .eq 5, 0, 81, .null), (79, [], .iconst 0, 0, 0, .int 0), (80, [], .ireturn, 0, 0, .null), (81, [], .aload_n 0, 0, 0, .null), (82, [], .invokevirtual 22, 26, 1, .ref 1), (85, [], .aload_n 0, 0, 0, .null), (86, [], .aload_n 1, 1, 0, .null), (87, [], .iload_n 2, 2, 0, .null), (88, [], .invokevirtual 75, 21, 3, .ref 1), (91, [], .ireturn, 0, 0, .null)]
abbrev jX2_readWay : Nat := 17
def kX2_readWay : List xE := [(0, [], .aload_n 0, 0, 0, .null), (1, [], .iconst 0, 0, 0, .int 0), (2, [], .bipush 9, 0, 0, .int 9), (4, [], .invokevirtual 79, 25, 3, .ref 1), (7, [], .istore_n 2, 2, 0, .null), (8, [], .iload_n 2, 2, 0, .null), (9, [], .ifCond .lt 19, 0, 28, .null), (12, [], .aload_n 0, 0, 0, .null), (13, [], .getfield 32, 1, 2, .int 0), (16, [], .iconst 2, 0, 0, .int 2), (17, [], .if_icmp .ne 13, 0, 30, .null), (20, [], .aload_n 0, 0, 0, .null), (21, [], .getfield 83, 1, 5, .int 0), (24, [], .iload_n 2, 2, 0, .null), (25, [], .if_icmp .ne 5, 0, 30, .null), (28, [], .iconst 0, 0, 0, .int 0), (29, [], .ireturn, 0, 0, .null), (30, [], .aload_n 0, 0, 0, .null), (31, [], .iconst 0, 0, 0, .int 0), (32, [], .bipush 9, 0, 0, .int 9), (34, [], .invokevirtual 79, 25, 3, .ref 1), (37, [], .istore_n 3, 3, 0, .null), (38, [], .iload_n 3, 3, 0, .null), (39, [], .ifCond .ge 5, 0, 44, .null), (42, [], .iconst 0, 0, 0, .int 0), (43, [], .ireturn, 0, 0, .null), (44, [], .aload_n 1, 1, 0, .null), (45, [], .getfield 86, 4, 0, .null), (48, [], .iload_n 2, 2, 0, .null), (49, [], .iload_n 3, 3, 0, .null), (50, [], .iconst 1, 0, 0, .int 1), (51, [], .invokevirtual 90, 66, 4, .ref 6), (54, [], .iconst 1, 0, 0, .int 1), (55, [], .ireturn, 0, 0, .null)]
abbrev jX2_readPerson : Nat := 18
def kX2_readPerson : List xE := [(0, [], .aload_n 0, 0, 0, .null), (1, [], .iconst 0, 0, 0, .int 0), (2, [], .iconst 5, 0, 0, .int 5), (3, [], .invokevirtual 79, 25, 3, .ref 1), (6, [], .istore_n 2, 2, 0, .null), (7, [], .iload_n 2, 2, 0, .null), (8, [], .ifCond .lt 12, 0, 20, .null), (11, [], .aload_n 0, 0, 0, .null), (12, [], .ldc 96, 0, 2, .ref 1102), (14, [], .invokevirtual 37, 23, 2, .ref 1), (17, [], .ifCond .ne 5, 0, 22, .null), (20, [], .iconst 0, 0, 0, .int 0), (21, [], .ireturn, 0, 0, .null), (22, [], .aload_n 0, 0, 0, .null), (23, [], .iconst 0, 0, 0, .int 0), (24, [], .bipush 9, 0, 0, .int 9), (26, [], .invokevirtual 79, 25, 3, .ref 1), (29, [], .istore_n 3, 3, 0, .null), (30, [], .iload_n 3, 3, 0, .null), (31, [], .ifCond .ge 5, 0, 36, .null), (34, [], .iconst 0, 0, 0, .int 0), (35, [], .ireturn, 0, 0, .null), (36, [], .iconst 0, 0, 0, .int 0), (37, [], .istore 4, 4, 0, .null), (39, [], .bipush 23, 0, 0, .int 23), (41, [], .istore 5, 5, 0, .null), (43, [], .aload_n 0, 0, 0, .null), (44, [], .ldc 98, 0, 3, .ref 1103), (46, [], .invokevirtual 37, 23, 2, .ref 1), (49, [], .ifCond .eq 36, 0, 85, .null), (52, [], .aload_n 0, 0, 0, .null), (53, [], .iconst 0, 0, 0, .int 0), (54, [], .bipush 23, 0, 0, .int 23), (56, [], .invokevirtual 79, 25, 3, .ref 1), (59, [], .istore 4, 4, 0, .null), (61, [], .iload 4, 4, 0, .null), (63, [], .ifCond .ge 5, 0, 68, .null), (66, [], .iconst 0, 0, 0, .int 0), (67, [], .ireturn, 0, 0, .null), (68, [], .aload_n 0, 0, 0, .null), (69, [], .iload 4, 4, 0, .null), (71, [], .bipush 23, 0, 0, .int 23), (73, [], .invokevirtual 79, 25, 3, .ref 1), (76, [], .istore 5, 5, 0, .null), (78, [], .iload 5, 5, 0, .null), (80, [], .ifCond .ge 5, 0, 85, .null), (83, [], .iconst 0, 0, 0, .int 0), (84, [], .ireturn, 0, 0, .null), (85, [], .aload_n 1, 1, 0, .null), (86, [], .getfield 100, 4, 2, .null), (89, [], .iload_n 2, 2, 0, .null), (90, [], .iload_n 3, 3, 0, .null), (91, [], .iload 4, 4, 0, .null), (93, [], .iload 5, 5, 0, .null), (95, [], .invokevirtual 104, 9, 5, .ref 0), (98, [], .iconst 1, 0, 0, .int 1), (99, [], .ireturn, 0, 0, .null)]
abbrev jX2_readKeep : Nat := 19
def kX2_readKeep : List xE := [(0, [], .aload_n 0, 0, 0, .null), (1, [], .iconst 1, 0, 0, .int 1), (2, [], .bipush 20, 0, 0, .int 20), (4, [], .invokevirtual 79, 25, 3, .ref 1), (7, [], .istore_n 2, 2, 0, .null), (8, [], .iload_n 2, 2, 0, .null), (9, [], .ifCond .ge 5, 0, 14, .null), (12, [], .iconst 0, 0, 0, .int 0), (13, [], .ireturn, 0, 0, .null), (14, [], .aload_n 1, 1, 0, .null), (15, [], .iload_n 2, 2, 0, .null), (16, [], .putfield 109, 4, 6, .int 0), (19, [], .iconst 1, 0, 0, .int 1), (20, [], .ireturn, 0, 0, .null)]
abbrev jX2_readRain : Nat := 20
def kX2_readRain : List xE := [(0, [], .aload_n 0, 0, 0, .null), (1, [], .iconst 0, 0, 0, .int 0), (2, [], .bipush 99, 0, 0, .int 99), (4, [], .invokevirtual 79, 25, 3, .ref 1), (7, [], .istore_n 2, 2, 0, .null), (8, [], .iload_n 2, 2, 0, .null), (9, [], .ifCond .ge 5, 0, 14, .null), (12, [], .iconst 0, 0, 0, .int 0), (13, [], .ireturn, 0, 0, .null), (14, [], .aload_n 1, 1, 0, .null), (15, [], .getfield 112, 4, 3, .null), (18, [], .iload_n 2, 2, 0, .null), (19, [], .iconst 1, 0, 0, .int 1), (20, [], .iastore, 0, 0, .null), (21, [], .iconst 1, 0, 0, .int 1), (22, [], .ireturn, 0, 0, .null)]
abbrev jX2_readSaying : Nat := 21
def kX2_readSaying : List xE := [(0, [], .aload_n 0, 0, 0, .null), (1, [], .iconst 0, 0, 0, .int 0), (2, [], .bipush 15, 0, 0, .int 15), (4, [], .invokevirtual 79, 25, 3, .ref 1), (7, [], .istore_n 3, 3, 0, .null), (8, [], .iload_n 3, 3, 0, .null), (9, [], .ifCond .lt 12, 0, 21, .null), (12, [], .aload_n 0, 0, 0, .null), (13, [], .ldc 96, 0, 2, .ref 1102), (15, [], .invokevirtual 37, 23, 2, .ref 1), (18, [], .ifCond .ne 5, 0, 23, .null), (21, [], .iconst 0, 0, 0, .int 0), (22, [], .ireturn, 0, 0, .null), (23, [], .aload_n 0, 0, 0, .null), (24, [], .iconst 0, 0, 0, .int 0), (25, [], .bipush 9, 0, 0, .int 9), (27, [], .invokevirtual 79, 25, 3, .ref 1), (30, [], .istore 4, 4, 0, .null), (32, [], .iload 4, 4, 0, .null), (34, [], .ifCond .lt 12, 0, 46, .null), (37, [], .aload_n 0, 0, 0, .null), (38, [], .ldc 114, 0, 13, .ref 1113), (40, [], .invokevirtual 37, 23, 2, .ref 1), (43, [], .ifCond .ne 5, 0, 48, .null), (46, [], .iconst 0, 0, 0, .int 0), (47, [], .ireturn, 0, 0, .null), (48, [], .aload_n 0, 0, 0, .null), (49, [], .iconst 0, 0, 0, .int 0), (50, [], .bipush 23, 0, 0, .int 23), (52, [], .invokevirtual 79, 25, 3, .ref 1), (55, [], .istore 5, 5, 0, .null), (57, [], .iload 5, 5, 0, .null), (59, [], .ifCond .ge 5, 0, 64, .null), (62, [], .iconst 0, 0, 0, .int 0), (63, [], .ireturn, 0, 0, .null), (64, [], .iconst 1, 0, 0, .int 1), (65, [], .istore 6, 6, 0, .null), (67, [], .aload_n 0, 0, 0, .null), (68, [], .ldc 116, 0, 14, .ref 1114), (70, [], .invokevirtual 37, 23, 2, .ref 1), (73, [], .ifCond .eq 19, 0, 92, .null), (76, [], .aload_n 0, 0, 0, .null), (77, [], .iconst 1, 0, 0, .int 1), (78, [], .bipush 9, 0, 0, .int 9), (80, [], .invokevirtual 79, 25, 3, .ref 1), (83, [], .istore 6, 6, 0, .null), (85, [], .iload 6, 6, 0, .null), (87, [], .ifCond .ge 5, 0, 92, .null), (90, [], .iconst 0, 0, 0, .int 0), (91, [], .ireturn, 0, 0, .null), (92, [], .aload_n 1, 1, 0, .null), (93, [], .getfield 63, 4, 1, .null), (96, [], .iload_n 2, 2, 0, .null), (97, [], .iload_n 3, 3, 0, .null), (98, [], .iload 6, 6, 0, .null), (100, [], .iload 4, 4, 0, .null), (102, [], .iload 5, 5, 0, .null), (104, [], .aload_n 1, 1, 0, .null), (105, [], .getfield 118, 4, 5, .int 0), (108, [], .invokevirtual 121, 32, 7, .ref 2), (111, [], .pop, 0, 0, .null), (112, [], .iconst 1, 0, 0, .int 1), (113, [], .ireturn, 0, 0, .null)]
abbrev jX2_kindAtHand : Nat := 22
def kX2_kindAtHand : List xE := [(0, [], .aload_n 0, 0, 0, .null), (1, [], .ldc 125, 0, 6, .ref 1106), (3, [], .invokevirtual 127, 24, 2, .ref 1), (6, [], .ifCond .eq 5, 0, 11, .null), (9, [], .iconst 0, 0, 0, .int 0), (10, [], .ireturn, 0, 0, .null), (11, [], .aload_n 0, 0, 0, .null), (12, [], .ldc 132, 0, 7, .ref 1107), (14, [], .invokevirtual 127, 24, 2, .ref 1), (17, [], .ifCond .eq 5, 0, 22, .null), (20, [], .iconst 1, 0, 0, .int 1), (21, [], .ireturn, 0, 0, .null), (22, [], .aload_n 0, 0, 0, .null), (23, [], .ldc 134, 0, 8, .ref 1108), (25, [], .invokevirtual 127, 24, 2, .ref 1), (28, [], .ifCond .eq 5, 0, 33, .null), (31, [], .iconst 2, 0, 0, .int 2), (32, [], .ireturn, 0, 0, .null), (33, [], .aload_n 0, 0, 0, .null), (34, [], .ldc 136, 0, 9, .ref 1109), (36, [], .invokevirtual 127, 24, 2, .ref 1), (39, [], .ifCond .eq 5, 0, 44, .null), (42, [], .iconst 3, 0, 0, .int 3), (43, [], .ireturn, 0, 0, .null), (44, [], .aload_n 0, 0, 0, .null), (45, [], .ldc 138, 0, 10, .ref 1110), (47, [], .invokevirtual 127, 24, 2, .ref 1), (50, [], .ifCond .eq 5, 0, 55, .null), (53, [], .iconst 4, 0, 0, .int 4), (54, [], .ireturn, 0, 0, .null), (55, [], .aload_n 0, 0, 0, .null), (56, [], .ldc 140, 0, 11, .ref 1111), (58, [], .invokevirtual 127, 24, 2, .ref 1), (61, [], .ifCond .eq 5, 0, 66, .null), (64, [], .iconst 5, 0, 0, .int 5), (65, [], .ireturn, 0, 0, .null), (66, [], .aload_n 0, 0, 0, .null), (67, [], .ldc 142, 0, 12, .ref 1112), (69, [], .invokevirtual 127, 24, 2, .ref 1), (72, [], .ifCond .eq 8, 0, 80, .null), (75, [], .bipush 6, 0, 0, .int 6), (77, [], .goto 4, 0, 81, .null), (80, [], .iconst (-1), 0, 0, .int (-1)), (81, [], .ireturn, 0, 0, .null)]
abbrev jX2_take : Nat := 23
def kX2_take : List xE := [(0, [], .aload_n 0, 0, 0, .null), (1, [], .aload_n 1, 1, 0, .null), (2, [], .invokevirtual 127, 24, 2, .ref 1), (5, [], .ifCond .ne 5, 0, 10, .null), (8, [], .iconst 0, 0, 0, .int 0), (9, [], .ireturn, 0, 0, .null), (10, [], .aload_n 0, 0, 0, .null), (11, [], .invokevirtual 22, 26, 1, .ref 1), (14, [], .iconst 1, 0, 0, .int 1), (15, [], .ireturn, 0, 0, .null)]
abbrev jX2_isAtHand : Nat := 24
def kX2_isAtHand : List xE := [(0, [], .aload_n 0, 0, 0, .null), (1, [], .getfield 32, 1, 2, .int 0), (4, [], .iconst 1, 0, 0, .int 1), (5, [], .if_icmp .ne 19, 0, 24, .null), (8, [], .aload_n 0, 0, 0, .null), (9, [], .getfield 19, 1, 4, .int 0), (12, [], .aload_n 0, 0, 0, .null), (13, [], .getfield 29, 1, 3, .int 0), (16, [], .isub, 0, 0, .null), (17, [], .aload_n 1, 1, 0, .null), (18, [], .invokevirtual 144, 231, 1, .ref 99), (21, [], .if_icmp .eq 5, 0, 26, .null), (24, [], .iconst 0, 0, 0, .int 0), (25, [], .ireturn, 0, 0, .null), (26, [], .iconst 0, 0, 0, .int 0), (27, [], .istore_n 2, 2, 0, .null), (28, [true, true, true], .iload_n 2, 2, 0, .null), (29, [], .aload_n 1, 1, 0, .null), (30, [], .invokevirtual 144, 231, 1, .ref 99), (33, [], .if_icmp .ge 30, 0, 63, .null), (36, [], .aload_n 0, 0, 0, .null), (37, [], .getfield 9, 1, 1, .null), (40, [], .aload_n 0, 0, 0, .null), (41, [], .getfield 29, 1, 3, .int 0), (44, [], .iload_n 2, 2, 0, .null), (45, [], .iadd, 0, 0, .null), (46, [], .iaload, 0, 0, .null), (47, [], .aload_n 1, 1, 0, .null), (48, [], .iload_n 2, 2, 0, .null), (49, [], .invokevirtual 149, 232, 2, .ref 99), (52, [], .if_icmp .eq 5, 0, 57, .null), (55, [], .iconst 0, 0, 0, .int 0), (56, [], .ireturn, 0, 0, .null), (57, [], .iinc 2 1, 2, 0, .int 1), (60, [], .goto (-32), 0, 28, .null), (63, [], .iconst 1, 0, 0, .int 1), (64, [], .ireturn, 0, 0, .null)]
abbrev jX2_takeNumber : Nat := 25
def kX2_takeNumber : List xE := [(0, [], .aload_n 0, 0, 0, .null), (1, [], .getfield 32, 1, 2, .int 0), (4, [], .iconst 2, 0, 0, .int 2), (5, [], .if_icmp .ne 19, 0, 24, .null), (8, [], .aload_n 0, 0, 0, .null), (9, [], .getfield 83, 1, 5, .int 0), (12, [], .iload_n 1, 1, 0, .null), (13, [], .if_icmp .lt 11, 0, 24, .null), (16, [], .aload_n 0, 0, 0, .null), (17, [], .getfield 83, 1, 5, .int 0), (20, [], .iload_n 2, 2, 0, .null), (21, [], .if_icmp .le 5, 0, 26, .null), (24, [], .iconst (-1), 0, 0, .int (-1)), (25, [], .ireturn, 0, 0, .null), (26, [], .aload_n 0, 0, 0, .null), (27, [], .getfield 83, 1, 5, .int 0), (30, [], .istore_n 3, 3, 0, .null), (31, [], .aload_n 0, 0, 0, .null), (32, [], .invokevirtual 22, 26, 1, .ref 1), (35, [], .iload_n 3, 3, 0, .null), (36, [], .ireturn, 0, 0, .null)]
abbrev jX2_next : Nat := 26
def kX2_next : List xE := [(0, [true], .aload_n 0, 0, 0, .null), (1, [], .getfield 19, 1, 4, .int 0), (4, [], .aload_n 0, 0, 0, .null), (5, [], .getfield 15, 1, 0, .int 0), (8, [], .if_icmp .ge 28, 0, 36, .null), (11, [], .aload_n 0, 0, 0, .null), (12, [], .aload_n 0, 0, 0, .null), (13, [], .getfield 19, 1, 4, .int 0), (16, [], .invokevirtual 153, 28, 2, .ref 1), (19, [], .iconst 4, 0, 0, .int 4), (20, [], .if_icmp .ne 16, 0, 36, .null), (23, [], .aload_n 0, 0, 0, .null), (24, [], .dup, 0, 0, .null), (25, [], .getfield 19, 1, 4, .int 0), (28, [], .iconst 1, 0, 0, .int 1), (29, [], .iadd, 0, 0, .null), (30, [], .putfield 19, 1, 4, .int 0), (33, [], .goto (-33), 0, 0, .null), (36, [], .aload_n 0, 0, 0, .null), (37, [], .aload_n 0, 0, 0, .null), (38, [], .getfield 19, 1, 4, .int 0), (41, [], .putfield 29, 1, 3, .int 0), (44, [], .aload_n 0, 0, 0, .null), (45, [], .aload_n 0, 0, 0, .null), (46, [], .aload_n 0, 0, 0, .null), (47, [], .getfield 29, 1, 3, .int 0), (50, [], .invokevirtual 153, 28, 2, .ref 1), (53, [], .putfield 32, 1, 2, .int 0), (56, [], .aload_n 0, 0, 0, .null), (57, [], .iconst 0, 0, 0, .int 0), (58, [], .putfield 83, 1, 5, .int 0), (61, [], .aload_n 0, 0, 0, .null), (62, [], .getfield 32, 1, 2, .int 0), (65, [], .ifCond .eq 13, 0, 78, .null), (68, [], .aload_n 0, 0, 0, .null), (69, [], .dup, 0, 0, .null), (70, [], .getfield 19, 1, 4, .int 0), (73, [], .iconst 1, 0, 0, .int 1), (74, [], .iadd, 0, 0, .null), (75, [], .putfield 19, 1, 4, .int 0), (78, [], .aload_n 0, 0, 0, .null), (79, [], .getfield 32, 1, 2, .int 0), (82, [], .iconst 1, 0, 0, .int 1), (83, [], .if_icmp .eq 11, 0, 94, .null), (86, [], .aload_n 0, 0, 0, .null), (87, [], .getfield 32, 1, 2, .int 0), (90, [], .iconst 2, 0, 0, .int 2), (91, [], .if_icmp .ne 42, 0, 133, .null), (94, [true], .aload_n 0, 0, 0, .null), (95, [], .getfield 19, 1, 4, .int 0), (98, [], .aload_n 0, 0, 0, .null), (99, [], .getfield 15, 1, 0, .int 0), (102, [], .if_icmp .ge 31, 0, 133, .null), (105, [], .aload_n 0, 0, 0, .null), (106, [], .aload_n 0, 0, 0, .null), (107, [], .getfield 19, 1, 4, .int 0), (110, [], .invokevirtual 153, 28, 2, .ref 1), (113, [], .aload_n 0, 0, 0, .null), (114, [], .getfield 32, 1, 2, .int 0), (117, [], .if_icmp .ne 16, 0, 133, .null), (120, [], .aload_n 0, 0, 0, .null), (121, [], .dup, 0, 0, .null), (122, [], .getfield 19, 1, 4, .int 0), (125, [], .iconst 1, 0, 0, .int 1), (126, [], .iadd, 0, 0, .null), (127, [], .putfield 19, 1, 4, .int 0), (130, [], .goto (-36), 0, 94, .null), (133, [], .aload_n 0, 0, 0, .null), (134, [], .getfield 32, 1, 2, .int 0), (137, [], .iconst 2, 0, 0, .int 2), (138, [], .if_icmp .ne 7, 0, 145, .null), (141, [], .aload_n 0, 0, 0, .null), (142, [], .invokevirtual 157, 27, 1, .ref 1), (145, [], .return_, 0, 0, .null)]
abbrev jX2_reckonValue : Nat := 27
def kX2_reckonValue : List xE := [(0, [], .aload_n 0, 0, 0, .null), (1, [], .getfield 29, 1, 3, .int 0), (4, [], .istore_n 1, 1, 0, .null), (5, [true, true], .iload_n 1, 1, 0, .null), (6, [], .aload_n 0, 0, 0, .null), (7, [], .getfield 19, 1, 4, .int 0), (10, [], .if_icmp .ge 46, 0, 56, .null), (13, [], .aload_n 0, 0, 0, .null), (14, [], .aload_n 0, 0, 0, .null), (15, [], .getfield 83, 1, 5, .int 0), (18, [], .sipush 1000, 0, 0, .int 1000), (21, [], .if_icmp .lt 9, 0, 30, .null), (24, [], .sipush 1000, 0, 0, .int 1000), (27, [], .goto 20, 0, 47, .null), (30, [], .bipush 10, 0, 0, .int 10), (32, [], .aload_n 0, 0, 0, .null), (33, [], .getfield 83, 1, 5, .int 0), (36, [], .imul, 0, 0, .null), (37, [], .aload_n 0, 0, 0, .null), (38, [], .getfield 9, 1, 1, .null), (41, [], .iload_n 1, 1, 0, .null), (42, [], .iaload, 0, 0, .null), (43, [], .iadd, 0, 0, .null), (44, [], .bipush 48, 0, 0, .int 48), (46, [], .isub, 0, 0, .null), (47, [], .putfield 83, 1, 5, .int 0), (50, [], .iinc 1 1, 1, 0, .int 1), (53, [], .goto (-48), 0, 5, .null), (56, [], .return_, 0, 0, .null)]
abbrev jX2_typeAt : Nat := 28
def kX2_typeAt : List xE := [(0, [], .iload_n 1, 1, 0, .null), (1, [], .aload_n 0, 0, 0, .null), (2, [], .getfield 15, 1, 0, .int 0), (5, [], .if_icmp .lt 5, 0, 10, .null), (8, [], .iconst 0, 0, 0, .int 0), (9, [], .ireturn, 0, 0, .null), (10, [], .aload_n 0, 0, 0, .null), (11, [], .getfield 9, 1, 1, .null), (14, [], .iload_n 1, 1, 0, .null), (15, [], .iaload, 0, 0, .null), (16, [], .istore_n 2, 2, 0, .null), (17, [], .iload_n 2, 2, 0, .null), (18, [], .bipush 97, 0, 0, .int 97), (20, [], .if_icmp .lt 11, 0, 31, .null), (23, [], .iload_n 2, 2, 0, .null), (24, [], .bipush 122, 0, 0, .int 122), (26, [], .if_icmp .gt 5, 0, 31, .null), (29, [], .iconst 1, 0, 0, .int 1), (30, [], .ireturn, 0, 0, .null), (31, [], .iload_n 2, 2, 0, .null), (32, [], .bipush 48, 0, 0, .int 48), (34, [], .if_icmp .lt 11, 0, 45, .null), (37, [], .iload_n 2, 2, 0, .null), (38, [], .bipush 57, 0, 0, .int 57), (40, [], .if_icmp .gt 5, 0, 45, .null), (43, [], .iconst 2, 0, 0, .int 2), (44, [], .ireturn, 0, 0, .null), (45, [], .iload_n 2, 2, 0, .null), (46, [], .bipush 32, 0, 0, .int 32), (48, [], .if_icmp .ne 5, 0, 53, .null), (51, [], .iconst 4, 0, 0, .int 4), (52, [], .ireturn, 0, 0, .null), (53, [], .iload_n 2, 2, 0, .null), (54, [], .bipush 59, 0, 0, .int 59), (56, [], .if_icmp .ne 7, 0, 63, .null), (59, [], .iconst 3, 0, 0, .int 3), (60, [], .goto 4, 0, 64, .null), (63, [], .iconst 5, 0, 0, .int 5), (64, [], .ireturn, 0, 0, .null)]
abbrev jX3_init : Nat := 29
def kX3_init : List xE := [(0, [], .aload_n 0, 0, 0, .null), (1, [], .invokespecial 3, 999, 1, .null), (4, [], .aload_n 0, 0, 0, .null), (5, [], .bipush 40, 0, 0, .int 40), (7, [], .newarray .int, 0, 0, .null), (9, [], .putfield 9, 2, 1, .null), (12, [], .aload_n 0, 0, 0, .null), (13, [], .bipush 40, 0, 0, .int 40), (15, [], .newarray .int, 0, 0, .null), (17, [], .putfield 15, 2, 2, .null), (20, [], .aload_n 0, 0, 0, .null), (21, [], .bipush 40, 0, 0, .int 40), (23, [], .newarray .int, 0, 0, .null), (25, [], .putfield 18, 2, 3, .null), (28, [], .aload_n 0, 0, 0, .null), (29, [], .bipush 40, 0, 0, .int 40), (31, [], .newarray .int, 0, 0, .null), (33, [], .putfield 21, 2, 4, .null), (36, [], .aload_n 0, 0, 0, .null), (37, [], .bipush 40, 0, 0, .int 40), (39, [], .newarray .int, 0, 0, .null), (41, [], .putfield 24, 2, 5, .null), (44, [], .aload_n 0, 0, 0, .null), (45, [], .bipush 40, 0, 0, .int 40), (47, [], .newarray .int, 0, 0, .null), (49, [], .putfield 27, 2, 6, .null), (52, [], .return_, 0, 0, .null)]
abbrev jX3_become : Nat := 30
def kX3_become : List xE := [(0, [], .aload_n 0, 0, 0, .null), (1, [], .aload_n 1, 1, 0, .null), (2, [], .getfield 30, 2, 0, .int 0), (5, [], .putfield 30, 2, 0, .int 0), (8, [], .aload_n 1, 1, 0, .null), (9, [], .getfield 9, 2, 1, .null), (12, [], .iconst 0, 0, 0, .int 0), (13, [], .aload_n 0, 0, 0, .null), (14, [], .getfield 9, 2, 1, .null), (17, [], .iconst 0, 0, 0, .int 0), (18, [], .aload_n 0, 0, 0, .null), (19, [], .getfield 30, 2, 0, .int 0), (22, [], .invokestatic 34, 998, 5, .null), (25, [], .aload_n 1, 1, 0, .null), (26, [], .getfield 15, 2, 2, .null), (29, [], .iconst 0, 0, 0, .int 0), (30, [], .aload_n 0, 0, 0, .null), (31, [], .getfield 15, 2, 2, .null), (34, [], .iconst 0, 0, 0, .int 0), (35, [], .aload_n 0, 0, 0, .null), (36, [], .getfield 30, 2, 0, .int 0), (39, [], .invokestatic 34, 998, 5, .null), (42, [], .aload_n 1, 1, 0, .null), (43, [], .getfield 18, 2, 3, .null), (46, [], .iconst 0, 0, 0, .int 0), (47, [], .aload_n 0, 0, 0, .null), (48, [], .getfield 18, 2, 3, .null), (51, [], .iconst 0, 0, 0, .int 0), (52, [], .aload_n 0, 0, 0, .null), (53, [], .getfield 30, 2, 0, .int 0), (56, [], .invokestatic 34, 998, 5, .null), (59, [], .aload_n 1, 1, 0, .null), (60, [], .getfield 21, 2, 4, .null), (63, [], .iconst 0, 0, 0, .int 0), (64, [], .aload_n 0, 0, 0, .null), (65, [], .getfield 21, 2, 4, .null), (68, [], .iconst 0, 0, 0, .int 0), (69, [], .aload_n 0, 0, 0, .null), (70, [], .getfield 30, 2, 0, .int 0), (73, [], .invokestatic 34, 998, 5, .null), (76, [], .aload_n 1, 1, 0, .null), (77, [], .getfield 24, 2, 5, .null), (80, [], .iconst 0, 0, 0, .int 0), (81, [], .aload_n 0, 0, 0, .null), (82, [], .getfield 24, 2, 5, .null), (85, [], .iconst 0, 0, 0, .int 0), (86, [], .aload_n 0, 0, 0, .null), (87, [], .getfield 30, 2, 0, .int 0), (90, [], .invokestatic 34, 998, 5, .null), (93, [], .aload_n 1, 1, 0, .null), (94, [], .getfield 27, 2, 6, .null), (97, [], .iconst 0, 0, 0, .int 0), (98, [], .aload_n 0, 0, 0, .null), (99, [], .getfield 27, 2, 6, .null), (102, [], .iconst 0, 0, 0, .int 0), (103, [], .aload_n 0, 0, 0, .null), (104, [], .getfield 30, 2, 0, .int 0), (107, [], .invokestatic 34, 998, 5, .null), (110, [], .return_, 0, 0, .null)]
abbrev jX3_isFull : Nat := 31
def kX3_isFull : List xE := [(0, [], .aload_n 0, 0, 0, .null), (1, [], .getfield 30, 2, 0, .int 0), (4, [], .bipush 40, 0, 0, .int 40), (6, [], .if_icmp .lt 7, 0, 13, .null), (9, [], .iconst 1, 0, 0, .int 1), (10, [], .goto 4, 0, 14, .null), (13, [], .iconst 0, 0, 0, .int 0), (14, [], .ireturn, 0, 0, .null)]
abbrev jX3_add : Nat := 32
def kX3_add : List xE := [(0, [], .aload_n 0, 0, 0, .null), (1, [], .getfield 30, 2, 0, .int 0), (4, [], .istore 7, 7, 0, .null), (6, [], .aload_n 0, 0, 0, .null), (7, [], .getfield 9, 2, 1, .null), (10, [], .iload 7, 7, 0, .null), (12, [], .iload_n 1, 1, 0, .null), (13, [], .iastore, 0, 0, .null), (14, [], .aload_n 0, 0, 0, .null), (15, [], .getfield 15, 2, 2, .null), (18, [], .iload 7, 7, 0, .null), (20, [], .iload_n 2, 2, 0, .null), (21, [], .iastore, 0, 0, .null), (22, [], .aload_n 0, 0, 0, .null), (23, [], .getfield 18, 2, 3, .null), (26, [], .iload 7, 7, 0, .null), (28, [], .iload_n 3, 3, 0, .null), (29, [], .iastore, 0, 0, .null), (30, [], .aload_n 0, 0, 0, .null), (31, [], .getfield 21, 2, 4, .null), (34, [], .iload 7, 7, 0, .null), (36, [], .iload 4, 4, 0, .null), (38, [], .iastore, 0, 0, .null), (39, [], .aload_n 0, 0, 0, .null), (40, [], .getfield 24, 2, 5, .null), (43, [], .iload 7, 7, 0, .null), (45, [], .iload 5, 5, 0, .null), (47, [], .iastore, 0, 0, .null), (48, [], .aload_n 0, 0, 0, .null), (49, [], .getfield 27, 2, 6, .null), (52, [], .iload 7, 7, 0, .null), (54, [], .iload 6, 6, 0, .null), (56, [], .iastore, 0, 0, .null), (57, [], .aload_n 0, 0, 0, .null), (58, [], .dup, 0, 0, .null), (59, [], .getfield 30, 2, 0, .int 0), (62, [], .iconst 1, 0, 0, .int 1), (63, [], .iadd, 0, 0, .null), (64, [], .putfield 30, 2, 0, .int 0), (67, [], .iload 7, 7, 0, .null), (69, [], .ireturn, 0, 0, .null)]
abbrev jX3_reachOf : Nat := 33
def kX3_reachOf : List xE := [(0, [], .aload_n 0, 0, 0, .null), (1, [], .getfield 9, 2, 1, .null), (4, [], .iload_n 1, 1, 0, .null), (5, [], .iaload, 0, 0, .null), (6, [], .aload_n 0, 0, 0, .null), (7, [], .getfield 18, 2, 3, .null), (10, [], .iload_n 1, 1, 0, .null), (11, [], .iaload, 0, 0, .null), (12, [], .invokestatic 40, 3, 2, .null), (15, [], .ireturn, 0, 0, .null)]
abbrev jX3_firstOver : Nat := 34
def kX3_firstOver : List xE := [(0, [], .iload_n 1, 1, 0, .null), (1, [], .iconst 1, 0, 0, .int 1), (2, [], .iadd, 0, 0, .null), (3, [], .istore_n 2, 2, 0, .null), (4, [true, true, true], .iload_n 2, 2, 0, .null), (5, [], .aload_n 0, 0, 0, .null), (6, [], .getfield 30, 2, 0, .int 0), (9, [], .if_icmp .ge 20, 0, 29, .null), (12, [], .aload_n 0, 0, 0, .null), (13, [], .iload_n 2, 2, 0, .null), (14, [], .iload_n 1, 1, 0, .null), (15, [], .invokevirtual 46, 35, 3, .ref 2), (18, [], .ifCond .eq 5, 0, 23, .null), (21, [], .iload_n 2, 2, 0, .null), (22, [], .ireturn, 0, 0, .null), (23, [], .iinc 2 1, 2, 0, .int 1), (26, [], .goto (-22), 0, 4, .null), (29, [], .iconst (-1), 0, 0, .int (-1)), (30, [], .ireturn, 0, 0, .null)]
abbrev jX3_isOver : Nat := 35
def kX3_isOver : List xE := [(0, [], .aload_n 0, 0, 0, .null), (1, [], .getfield 21, 2, 4, .null), (4, [], .iload_n 1, 1, 0, .null), (5, [], .iaload, 0, 0, .null), (6, [], .aload_n 0, 0, 0, .null), (7, [], .getfield 21, 2, 4, .null), (10, [], .iload_n 2, 2, 0, .null), (11, [], .iaload, 0, 0, .null), (12, [], .if_icmp .ne 64, 0, 76, .null), (15, [], .aload_n 0, 0, 0, .null), (16, [], .getfield 24, 2, 5, .null), (19, [], .iload_n 1, 1, 0, .null), (20, [], .iaload, 0, 0, .null), (21, [], .aload_n 0, 0, 0, .null), (22, [], .getfield 24, 2, 5, .null), (25, [], .iload_n 2, 2, 0, .null), (26, [], .iaload, 0, 0, .null), (27, [], .if_icmp .ne 49, 0, 76, .null), (30, [], .aload_n 0, 0, 0, .null), (31, [], .getfield 9, 2, 1, .null), (34, [], .iload_n 1, 1, 0, .null), (35, [], .iaload, 0, 0, .null), (36, [], .aload_n 0, 0, 0, .null), (37, [], .getfield 18, 2, 3, .null), (40, [], .iload_n 1, 1, 0, .null), (41, [], .iaload, 0, 0, .null), (42, [], .aload_n 0, 0, 0, .null), (43, [], .getfield 18, 2, 3, .null), (46, [], .iload_n 2, 2, 0, .null), (47, [], .iaload, 0, 0, .null), (48, [], .invokestatic 50, 4, 3, .null), (51, [], .ifCond .eq 25, 0, 76, .null), (54, [], .aload_n 0, 0, 0, .null), (55, [], .getfield 9, 2, 1, .null), (58, [], .iload_n 2, 2, 0, .null), (59, [], .iaload, 0, 0, .null), (60, [], .aload_n 0, 0, 0, .null), (61, [], .getfield 9, 2, 1, .null), (64, [], .iload_n 1, 1, 0, .null), (65, [], .iaload, 0, 0, .null), (66, [], .invokestatic 54, 5, 2, .null), (69, [], .ifCond .eq 7, 0, 76, .null), (72, [], .iconst 1, 0, 0, .int 1), (73, [], .goto 4, 0, 77, .null), (76, [], .iconst 0, 0, 0, .int 0), (77, [], .ireturn, 0, 0, .null)]
abbrev jX4_init : Nat := 36
def kX4_init : List xE := [(0, [], .aload_n 0, 0, 0, .null), (1, [], .invokespecial 3, 999, 1, .null), (4, [], .aload_n 0, 0, 0, .null), (5, [], .bipush 40, 0, 0, .int 40), (7, [], .newarray .int, 0, 0, .null), (9, [], .putfield 9, 3, 2, .null), (12, [], .return_, 0, 0, .null)]
abbrev jX4_areBits : Nat := 37
def kX4_areBits : List xE := [(0, [], .iload_n 0, 0, 0, .null), (1, [], .ifCond .eq 21, 0, 22, .null), (4, [], .iload_n 0, 0, 0, .null), (5, [], .bipush 8, 0, 0, .int 8), (7, [], .if_icmp .eq 15, 0, 22, .null), (10, [], .iload_n 0, 0, 0, .null), (11, [], .bipush 16, 0, 0, .int 16), (13, [], .if_icmp .eq 9, 0, 22, .null), (16, [], .iload_n 0, 0, 0, .null), (17, [], .bipush 32, 0, 0, .int 32), (19, [], .if_icmp .ne 7, 0, 26, .null), (22, [], .iconst 1, 0, 0, .int 1), (23, [], .goto 4, 0, 27, .null), (26, [], .iconst 0, 0, 0, .int 0), (27, [], .ireturn, 0, 0, .null)]
abbrev jX4_isMissing : Nat := 38
def kX4_isMissing : List xE := [(0, [], .aload_n 0, 0, 0, .null), (1, [], .getfield 15, 3, 0, .int 0), (4, [], .ifCond .ne 7, 0, 11, .null), (7, [], .iconst 1, 0, 0, .int 1), (8, [], .goto 4, 0, 12, .null), (11, [], .iconst 0, 0, 0, .int 0), (12, [], .ireturn, 0, 0, .null)]
abbrev jX4_begin : Nat := 39
def kX4_begin : List xE := [(0, [], .aload_n 0, 0, 0, .null), (1, [], .iload_n 1, 1, 0, .null), (2, [], .putfield 15, 3, 0, .int 0), (5, [], .aload_n 0, 0, 0, .null), (6, [], .aload_n 0, 0, 0, .null), (7, [], .getfield 15, 3, 0, .int 0), (10, [], .ifCond .ne 7, 0, 17, .null), (13, [], .iconst 0, 0, 0, .int 0), (14, [], .goto 4, 0, 18, .null), (17, [], .iload_n 2, 2, 0, .null), (18, [], .putfield 19, 3, 1, .int 0), (21, [], .aload_n 0, 0, 0, .null), (22, [], .getfield 9, 3, 2, .null), (25, [], .iconst 0, 0, 0, .int 0), (26, [], .invokestatic 22, 237, 2, .null), (29, [], .return_, 0, 0, .null)]
abbrev jX4_hasRange : Nat := 40
def kX4_hasRange : List xE := [(0, [], .iload_n 1, 1, 0, .null), (1, [], .ifCond .lt 29, 0, 30, .null), (4, [], .iload_n 2, 2, 0, .null), (5, [], .ifCond .lt 25, 0, 30, .null), (8, [], .iload_n 2, 2, 0, .null), (9, [], .aload_n 0, 0, 0, .null), (10, [], .getfield 19, 3, 1, .int 0), (13, [], .if_icmp .gt 17, 0, 30, .null), (16, [], .iload_n 1, 1, 0, .null), (17, [], .aload_n 0, 0, 0, .null), (18, [], .getfield 19, 3, 1, .int 0), (21, [], .iload_n 2, 2, 0, .null), (22, [], .isub, 0, 0, .null), (23, [], .if_icmp .gt 7, 0, 30, .null), (26, [], .iconst 1, 0, 0, .int 1), (27, [], .goto 4, 0, 31, .null), (30, [], .iconst 0, 0, 0, .int 0), (31, [], .ireturn, 0, 0, .null)]
abbrev jX4_put : Nat := 41
def kX4_put : List xE := [(0, [], .aload_n 0, 0, 0, .null), (1, [], .getfield 15, 3, 0, .int 0), (4, [], .bipush 8, 0, 0, .int 8), (6, [], .if_icmp .ne 14, 0, 20, .null), (9, [], .aload_n 0, 0, 0, .null), (10, [], .getfield 9, 3, 2, .null), (13, [], .iload_n 1, 1, 0, .null), (14, [], .iload_n 2, 2, 0, .null), (15, [], .i2b, 0, 0, .null), (16, [], .iastore, 0, 0, .null), (17, [], .goto 30, 0, 47, .null), (20, [], .aload_n 0, 0, 0, .null), (21, [], .getfield 15, 3, 0, .int 0), (24, [], .bipush 16, 0, 0, .int 16), (26, [], .if_icmp .ne 14, 0, 40, .null), (29, [], .aload_n 0, 0, 0, .null), (30, [], .getfield 9, 3, 2, .null), (33, [], .iload_n 1, 1, 0, .null), (34, [], .iload_n 2, 2, 0, .null), (35, [], .i2s, 0, 0, .null), (36, [], .iastore, 0, 0, .null), (37, [], .goto 10, 0, 47, .null), (40, [], .aload_n 0, 0, 0, .null), (41, [], .getfield 9, 3, 2, .null), (44, [], .iload_n 1, 1, 0, .null), (45, [], .iload_n 2, 2, 0, .null), (46, [], .iastore, 0, 0, .null), (47, [], .return_, 0, 0, .null)]
abbrev jX5_init : Nat := 42
def kX5_init : List xE := [(0, [], .aload_n 0, 0, 0, .null), (1, [], .invokespecial 3, 999, 1, .null), (4, [], .aload_n 0, 0, 0, .null), (5, [], .new 9, 6, 1, .null), (8, [], .dup, 0, 0, .null), (9, [], .invokespecial 11, 63, 1, .null), (12, [], .putfield 12, 4, 0, .null), (15, [], .aload_n 0, 0, 0, .null), (16, [], .new 18, 2, 7, .null), (19, [], .dup, 0, 0, .null), (20, [], .invokespecial 20, 29, 1, .null), (23, [], .putfield 21, 4, 1, .null), (26, [], .aload_n 0, 0, 0, .null), (27, [], .new 25, 0, 1, .null), (30, [], .dup, 0, 0, .null), (31, [], .invokespecial 27, 6, 1, .null), (34, [], .putfield 28, 4, 2, .null), (37, [], .aload_n 0, 0, 0, .null), (38, [], .bipush 100, 0, 0, .int 100), (40, [], .newarray .int, 0, 0, .null), (42, [], .putfield 32, 4, 3, .null), (45, [], .aload_n 0, 0, 0, .null), (46, [], .bipush 10, 0, 0, .int 10), (48, [], .newarray .int, 0, 0, .null), (50, [], .putfield 36, 4, 4, .null), (53, [], .aload_n 0, 0, 0, .null), (54, [], .bipush 9, 0, 0, .int 9), (56, [], .putfield 39, 4, 6, .int 0), (59, [], .aload_n 0, 0, 0, .null), (60, [], .iconst 1, 0, 0, .int 1), (61, [], .putfield 43, 4, 7, .int 0), (64, [], .aload_n 0, 0, 0, .null), (65, [], .getfield 36, 4, 4, .null), (68, [], .iconst (-1), 0, 0, .int (-1)), (69, [], .invokestatic 46, 237, 2, .null), (72, [], .return_, 0, 0, .null)]
abbrev jX5_become : Nat := 43
def kX5_become : List xE := [(0, [], .aload_n 0, 0, 0, .null), (1, [], .getfield 12, 4, 0, .null), (4, [], .aload_n 1, 1, 0, .null), (5, [], .getfield 12, 4, 0, .null), (8, [], .invokevirtual 52, 64, 2, .ref 6), (11, [], .aload_n 0, 0, 0, .null), (12, [], .getfield 21, 4, 1, .null), (15, [], .aload_n 1, 1, 0, .null), (16, [], .getfield 21, 4, 1, .null), (19, [], .invokevirtual 56, 30, 2, .ref 2), (22, [], .aload_n 0, 0, 0, .null), (23, [], .getfield 28, 4, 2, .null), (26, [], .aload_n 1, 1, 0, .null), (27, [], .getfield 28, 4, 2, .null), (30, [], .invokevirtual 59, 7, 2, .ref 0), (33, [], .aload_n 1, 1, 0, .null), (34, [], .getfield 32, 4, 3, .null), (37, [], .iconst 0, 0, 0, .int 0), (38, [], .aload_n 0, 0, 0, .null), (39, [], .getfield 32, 4, 3, .null), (42, [], .iconst 0, 0, 0, .int 0), (43, [], .bipush 100, 0, 0, .int 100), (45, [], .invokestatic 62, 998, 5, .null), (48, [], .aload_n 1, 1, 0, .null), (49, [], .getfield 36, 4, 4, .null), (52, [], .iconst 0, 0, 0, .int 0), (53, [], .aload_n 0, 0, 0, .null), (54, [], .getfield 36, 4, 4, .null), (57, [], .iconst 0, 0, 0, .int 0), (58, [], .bipush 10, 0, 0, .int 10), (60, [], .invokestatic 62, 998, 5, .null), (63, [], .aload_n 0, 0, 0, .null), (64, [], .aload_n 1, 1, 0, .null), (65, [], .getfield 68, 4, 5, .int 0), (68, [], .putfield 68, 4, 5, .int 0), (71, [], .aload_n 0, 0, 0, .null), (72, [], .aload_n 1, 1, 0, .null), (73, [], .getfield 39, 4, 6, .int 0), (76, [], .putfield 39, 4, 6, .int 0), (79, [], .aload_n 0, 0, 0, .null), (80, [], .aload_n 1, 1, 0, .null), (81, [], .getfield 43, 4, 7, .int 0), (84, [], .putfield 43, 4, 7, .int 0), (87, [], .return_, 0, 0, .null)]
abbrev jX5_draw : Nat := 44
def kX5_draw : List xE := [(0, [], .aload_n 0, 0, 0, .null), (1, [], .aload_n 0, 0, 0, .null), (2, [], .getfield 43, 4, 7, .int 0), (5, [], .ldc 71, 0, 0, .int 1103515245), (7, [], .imul, 0, 0, .null), (8, [], .sipush 12345, 0, 0, .int 12345), (11, [], .iadd, 0, 0, .null), (12, [], .putfield 43, 4, 7, .int 0), (15, [], .aload_n 0, 0, 0, .null), (16, [], .getfield 43, 4, 7, .int 0), (19, [], .bipush 8, 0, 0, .int 8), (21, [], .iushr, 0, 0, .null), (22, [], .ireturn, 0, 0, .null)]
abbrev jX5_rainyDays : Nat := 45
def kX5_rainyDays : List xE := [(0, [], .iconst 0, 0, 0, .int 0), (1, [], .istore_n 3, 3, 0, .null), (2, [], .iload_n 1, 1, 0, .null), (3, [], .istore 4, 4, 0, .null), (5, [true, false, true, true, true], .iload 4, 4, 0, .null), (7, [], .iload_n 2, 2, 0, .null), (8, [], .if_icmp .gt 19, 0, 27, .null), (11, [], .iload_n 3, 3, 0, .null), (12, [], .aload_n 0, 0, 0, .null), (13, [], .getfield 32, 4, 3, .null), (16, [], .iload 4, 4, 0, .null), (18, [], .iaload, 0, 0, .null), (19, [], .iadd, 0, 0, .null), (20, [], .istore_n 3, 3, 0, .null), (21, [], .iinc 4 1, 4, 0, .int 1), (24, [], .goto (-19), 0, 5, .null), (27, [], .iload_n 3, 3, 0, .null), (28, [], .ireturn, 0, 0, .null)]
abbrev jX5_ageOf : Nat := 46
def kX5_ageOf : List xE := [(0, [], .iload_n 2, 2, 0, .null), (1, [], .iload_n 1, 1, 0, .null), (2, [], .isub, 0, 0, .null), (3, [], .aload_n 0, 0, 0, .null), (4, [], .iload_n 1, 1, 0, .null), (5, [], .iconst 1, 0, 0, .int 1), (6, [], .iadd, 0, 0, .null), (7, [], .iload_n 2, 2, 0, .null), (8, [], .invokevirtual 72, 45, 3, .ref 4), (11, [], .iadd, 0, 0, .null), (12, [], .ireturn, 0, 0, .null)]
abbrev jX5_lastsOf : Nat := 47
def kX5_lastsOf : List xE := [(0, [], .aload_n 0, 0, 0, .null), (1, [], .getfield 21, 4, 1, .null), (4, [], .getfield 76, 2, 1, .null), (7, [], .iload_n 1, 1, 0, .null), (8, [], .iaload, 0, 0, .null), (9, [], .aload_n 0, 0, 0, .null), (10, [], .getfield 39, 4, 6, .int 0), (13, [], .invokestatic 79, 2, 2, .null), (16, [], .ireturn, 0, 0, .null)]
abbrev jX5_around : Nat := 48
def kX5_around : List xE := [(0, [], .aload_n 0, 0, 0, .null), (1, [], .getfield 12, 4, 0, .null), (4, [], .aload_n 0, 0, 0, .null), (5, [], .getfield 21, 4, 1, .null), (8, [], .getfield 84, 2, 4, .null), (11, [], .iload_n 1, 1, 0, .null), (12, [], .iaload, 0, 0, .null), (13, [], .aload_n 0, 0, 0, .null), (14, [], .getfield 21, 4, 1, .null), (17, [], .iload_n 1, 1, 0, .null), (18, [], .invokevirtual 87, 33, 2, .ref 2), (21, [], .invokevirtual 91, 71, 3, .ref 6), (24, [], .ireturn, 0, 0, .null)]
abbrev jX5_isHeard : Nat := 49
def kX5_isHeard : List xE := [(0, [], .aload_n 0, 0, 0, .null), (1, [], .getfield 21, 4, 1, .null), (4, [], .getfield 94, 2, 6, .null), (7, [], .iload_n 1, 1, 0, .null), (8, [], .iaload, 0, 0, .null), (9, [], .istore_n 3, 3, 0, .null), (10, [], .iload_n 2, 2, 0, .null), (11, [], .iload_n 3, 3, 0, .null), (12, [], .if_icmp .le 24, 0, 36, .null), (15, [], .iload_n 2, 2, 0, .null), (16, [], .invokestatic 97, 124, 1, .null), (19, [], .ifCond .eq 17, 0, 36, .null), (22, [], .aload_n 0, 0, 0, .null), (23, [], .iload_n 3, 3, 0, .null), (24, [], .iload_n 2, 2, 0, .null), (25, [], .invokevirtual 101, 46, 3, .ref 4), (28, [], .aload_n 0, 0, 0, .null), (29, [], .iload_n 1, 1, 0, .null), (30, [], .invokevirtual 104, 47, 2, .ref 4), (33, [], .if_icmp .le 5, 0, 38, .null), (36, [], .iconst 0, 0, 0, .int 0), (37, [], .ireturn, 0, 0, .null), (38, [], .aload_n 0, 0, 0, .null), (39, [], .getfield 21, 4, 1, .null), (42, [], .iload_n 1, 1, 0, .null), (43, [], .invokevirtual 107, 34, 2, .ref 2), (46, [], .istore 4, 4, 0, .null), (48, [], .iload 4, 4, 0, .null), (50, [], .ifCond .lt 17, 0, 67, .null), (53, [], .aload_n 0, 0, 0, .null), (54, [], .getfield 21, 4, 1, .null), (57, [], .getfield 94, 2, 6, .null), (60, [], .iload 4, 4, 0, .null), (62, [], .iaload, 0, 0, .null), (63, [], .iload_n 2, 2, 0, .null), (64, [], .if_icmp .le 7, 0, 71, .null), (67, [], .iconst 1, 0, 0, .int 1), (68, [], .goto 4, 0, 72, .null), (71, [], .iconst 0, 0, 0, .int 0), (72, [], .ireturn, 0, 0, .null)]
abbrev jX5_isHeardAt : Nat := 50
def kX5_isHeardAt : List xE := [(0, [], .aload_n 0, 0, 0, .null), (1, [], .iload_n 1, 1, 0, .null), (2, [], .iload_n 3, 3, 0, .null), (3, [], .invokevirtual 110, 49, 3, .ref 4), (6, [], .ifCond .eq 20, 0, 26, .null), (9, [], .aload_n 0, 0, 0, .null), (10, [], .iload_n 1, 1, 0, .null), (11, [], .invokevirtual 114, 48, 2, .ref 4), (14, [], .i2l, 0, 0, .null), (15, [], .iload_n 2, 2, 0, .null), (16, [], .invokestatic 117, 134, 2, .null), (19, [], .ifCond .eq 7, 0, 26, .null), (22, [], .iconst 1, 0, 0, .int 1), (23, [], .goto 4, 0, 27, .null), (26, [], .iconst 0, 0, 0, .int 0), (27, [], .ireturn, 0, 0, .null)]
abbrev jX5_heardSet : Nat := 51
def kX5_heardSet : List xE := [(0, [], .lconst 0, 0, 0, .long 0), (1, [], .lstore_n 3, 3, 0, .null), (2, [], .iconst 0, 0, 0, .int 0), (3, [], .istore 5, 5, 0, .null), (5, [true, true, true, true, false, true], .iload 5, 5, 0, .null), (7, [], .aload_n 0, 0, 0, .null), (8, [], .getfield 21, 4, 1, .null), (11, [], .getfield 121, 2, 0, .int 0), (14, [], .if_icmp .ge 47, 0, 61, .null), (17, [], .aload_n 0, 0, 0, .null), (18, [], .getfield 21, 4, 1, .null), (21, [], .getfield 124, 2, 5, .null), (24, [], .iload 5, 5, 0, .null), (26, [], .iaload, 0, 0, .null), (27, [], .iload_n 2, 2, 0, .null), (28, [], .invokestatic 127, 133, 1, .null), (31, [], .if_icmp .ne 24, 0, 55, .null), (34, [], .aload_n 0, 0, 0, .null), (35, [], .iload 5, 5, 0, .null), (37, [], .iload_n 1, 1, 0, .null), (38, [], .iload_n 2, 2, 0, .null), (39, [], .invokestatic 130, 132, 1, .null), (42, [], .invokevirtual 133, 50, 4, .ref 4), (45, [], .ifCond .eq 10, 0, 55, .null), (48, [], .lload_n 3, 3, 0, .null), (49, [], .lconst 1, 0, 0, .long 1), (50, [], .iload 5, 5, 0, .null), (52, [], .lshl, 0, 0, .null), (53, [], .lor, 0, 0, .null), (54, [], .lstore_n 3, 3, 0, .null), (55, [], .iinc 5 1, 5, 0, .int 1), (58, [], .goto (-53), 0, 5, .null), (61, [], .lload_n 3, 3, 0, .null), (62, [], .lreturn, 0, 0, .null)]
abbrev jX5_loudPlaces : Nat := 52
def kX5_loudPlaces : List xE := [(0, [], .iconst 0, 0, 0, .int 0), (1, [], .istore_n 2, 2, 0, .null), (2, [], .iconst 0, 0, 0, .int 0), (3, [], .istore_n 3, 3, 0, .null), (4, [true, true, true, true], .iload_n 3, 3, 0, .null), (5, [], .aload_n 0, 0, 0, .null), (6, [], .getfield 21, 4, 1, .null), (9, [], .getfield 121, 2, 0, .int 0), (12, [], .if_icmp .ge 45, 0, 57, .null), (15, [], .aload_n 0, 0, 0, .null), (16, [], .getfield 21, 4, 1, .null), (19, [], .getfield 124, 2, 5, .null), (22, [], .iload_n 3, 3, 0, .null), (23, [], .iaload, 0, 0, .null), (24, [], .iload_n 1, 1, 0, .null), (25, [], .invokestatic 127, 133, 1, .null), (28, [], .if_icmp .ne 23, 0, 51, .null), (31, [], .aload_n 0, 0, 0, .null), (32, [], .iload_n 3, 3, 0, .null), (33, [], .iload_n 1, 1, 0, .null), (34, [], .invokestatic 130, 132, 1, .null), (37, [], .invokevirtual 110, 49, 3, .ref 4), (40, [], .ifCond .eq 11, 0, 51, .null), (43, [], .iload_n 2, 2, 0, .null), (44, [], .aload_n 0, 0, 0, .null), (45, [], .iload_n 3, 3, 0, .null), (46, [], .invokevirtual 114, 48, 2, .ref 4), (49, [], .ior, 0, 0, .null), (50, [], .istore_n 2, 2, 0, .null), (51, [], .iinc 3 1, 3, 0, .int 1), (54, [], .goto (-50), 0, 4, .null), (57, [], .iload_n 2, 2, 0, .null), (58, [], .ireturn, 0, 0, .null)]
abbrev jX5_heardOn : Nat := 53
def kX5_heardOn : List xE := [(0, [], .iconst 0, 0, 0, .int 0), (1, [], .istore_n 2, 2, 0, .null), (2, [], .iconst 0, 0, 0, .int 0), (3, [], .istore_n 3, 3, 0, .null), (4, [true, true, true, true], .iload_n 3, 3, 0, .null), (5, [], .aload_n 0, 0, 0, .null), (6, [], .getfield 21, 4, 1, .null), (9, [], .getfield 121, 2, 0, .int 0), (12, [], .if_icmp .ge 21, 0, 33, .null), (15, [], .aload_n 0, 0, 0, .null), (16, [], .iload_n 3, 3, 0, .null), (17, [], .iload_n 1, 1, 0, .null), (18, [], .invokevirtual 110, 49, 3, .ref 4), (21, [], .ifCond .eq 6, 0, 27, .null), (24, [], .iinc 2 1, 2, 0, .int 1), (27, [], .iinc 3 1, 3, 0, .int 1), (30, [], .goto (-26), 0, 4, .null), (33, [], .iload_n 2, 2, 0, .null), (34, [], .ireturn, 0, 0, .null)]
abbrev jX5_lastDayOf : Nat := 54
def kX5_lastDayOf : List xE := [(0, [], .iconst (-1), 0, 0, .int (-1)), (1, [], .istore_n 2, 2, 0, .null), (2, [], .aload_n 0, 0, 0, .null), (3, [], .getfield 21, 4, 1, .null), (6, [], .getfield 94, 2, 6, .null), (9, [], .iload_n 1, 1, 0, .null), (10, [], .iaload, 0, 0, .null), (11, [], .iconst 1, 0, 0, .int 1), (12, [], .iadd, 0, 0, .null), (13, [], .istore_n 3, 3, 0, .null), (14, [true, true, true, true], .iload_n 3, 3, 0, .null), (15, [], .bipush 100, 0, 0, .int 100), (17, [], .if_icmp .ge 20, 0, 37, .null), (20, [], .aload_n 0, 0, 0, .null), (21, [], .iload_n 1, 1, 0, .null), (22, [], .iload_n 3, 3, 0, .null), (23, [], .invokevirtual 110, 49, 3, .ref 4), (26, [], .ifCond .eq 11, 0, 37, .null), (29, [], .iload_n 3, 3, 0, .null), (30, [], .istore_n 2, 2, 0, .null), (31, [], .iinc 3 1, 3, 0, .int 1), (34, [], .goto (-20), 0, 14, .null), (37, [], .iload_n 2, 2, 0, .null), (38, [], .ireturn, 0, 0, .null)]
abbrev jX5_lastDayOfOnce : Nat := 55
def kX5_lastDayOfOnce : List xE := [(0, [], .iconst 0, 0, 0, .int 0), (1, [], .aload_n 0, 0, 0, .null), (2, [], .getfield 39, 4, 6, .int 0), (5, [], .invokestatic 79, 2, 2, .null), (8, [], .istore_n 2, 2, 0, .null), (9, [], .iload_n 1, 1, 0, .null), (10, [], .istore_n 3, 3, 0, .null), (11, [], .iload_n 1, 1, 0, .null), (12, [], .iconst 1, 0, 0, .int 1), (13, [], .iadd, 0, 0, .null), (14, [], .istore 4, 4, 0, .null), (16, [true, true, true, true, true], .iload 4, 4, 0, .null), (18, [], .bipush 100, 0, 0, .int 100), (20, [], .if_icmp .ge 23, 0, 43, .null), (23, [], .aload_n 0, 0, 0, .null), (24, [], .iload_n 1, 1, 0, .null), (25, [], .iload 4, 4, 0, .null), (27, [], .invokevirtual 101, 46, 3, .ref 4), (30, [], .iload_n 2, 2, 0, .null), (31, [], .if_icmp .gt 12, 0, 43, .null), (34, [], .iload 4, 4, 0, .null), (36, [], .istore_n 3, 3, 0, .null), (37, [], .iinc 4 1, 4, 0, .int 1), (40, [], .goto (-24), 0, 16, .null), (43, [], .iload_n 3, 3, 0, .null), (44, [], .ireturn, 0, 0, .null)]
abbrev jX5_doesHear : Nat := 56
def kX5_doesHear : List xE := [(0, [], .aload_n 0, 0, 0, .null), (1, [], .getfield 28, 4, 2, .null), (4, [], .iload_n 1, 1, 0, .null), (5, [], .aload_n 0, 0, 0, .null), (6, [], .getfield 21, 4, 1, .null), (9, [], .getfield 124, 2, 5, .null), (12, [], .iload_n 2, 2, 0, .null), (13, [], .iaload, 0, 0, .null), (14, [], .invokevirtual 137, 8, 3, .ref 0), (17, [], .istore 4, 4, 0, .null), (19, [], .iload 4, 4, 0, .null), (21, [], .iconst (-1), 0, 0, .int (-1)), (22, [], .if_icmp .eq 18, 0, 40, .null), (25, [], .aload_n 0, 0, 0, .null), (26, [], .iload_n 2, 2, 0, .null), (27, [], .iload 4, 4, 0, .null), (29, [], .iload_n 3, 3, 0, .null), (30, [], .invokevirtual 133, 50, 4, .ref 4), (33, [], .ifCond .eq 7, 0, 40, .null), (36, [], .iconst 1, 0, 0, .int 1), (37, [], .goto 4, 0, 41, .null), (40, [], .iconst 0, 0, 0, .int 0), (41, [], .ireturn, 0, 0, .null)]
abbrev jX6_init : Nat := 57
def kX6_init : List xE := [(0, [], .aload_n 0, 0, 0, .null), (1, [], .invokespecial 3, 999, 1, .null), (4, [], .aload_n 0, 0, 0, .null), (5, [], .bipush 24, 0, 0, .int 24), (7, [], .newarray .int, 0, 0, .null), (9, [], .putfield 9, 5, 1, .null), (12, [], .aload_n 0, 0, 0, .null), (13, [], .sipush 240, 0, 0, .int 240), (16, [], .newarray .int, 0, 0, .null), (18, [], .putfield 15, 5, 2, .null), (21, [], .aload_n 0, 0, 0, .null), (22, [], .sipush 240, 0, 0, .int 240), (25, [], .newarray .int, 0, 0, .null), (27, [], .putfield 18, 5, 3, .null), (30, [], .return_, 0, 0, .null)]
abbrev jX6_choose : Nat := 58
def kX6_choose : List xE := [(0, [], .aload_n 0, 0, 0, .null), (1, [], .aload_n 1, 1, 0, .null), (2, [], .iload_n 3, 3, 0, .null), (3, [], .iload 4, 4, 0, .null), (5, [], .invokevirtual 21, 59, 4, .ref 5), (8, [], .iload 4, 4, 0, .null), (10, [], .iconst 1, 0, 0, .int 1), (11, [], .isub, 0, 0, .null), (12, [], .istore 5, 5, 0, .null), (14, [true, true, true, false, true, true], .iload 5, 5, 0, .null), (16, [], .ifCond .lt 21, 0, 37, .null), (19, [], .aload_n 0, 0, 0, .null), (20, [], .aload_n 1, 1, 0, .null), (21, [], .getfield 25, 4, 0, .null), (24, [], .iload 5, 5, 0, .null), (26, [], .iload 4, 4, 0, .null), (28, [], .invokevirtual 31, 61, 4, .ref 5), (31, [], .iinc 5 (-1), 5, 0, .int (-1)), (34, [], .goto (-20), 0, 14, .null), (37, [], .aload_n 0, 0, 0, .null), (38, [], .getfield 9, 5, 1, .null), (41, [], .iconst 0, 0, 0, .int 0), (42, [], .iload_n 2, 2, 0, .null), (43, [], .iastore, 0, 0, .null), (44, [], .iconst 1, 0, 0, .int 1), (45, [], .istore 5, 5, 0, .null), (47, [true, true, true, false, true, true], .iload 5, 5, 0, .null), (49, [], .iload 4, 4, 0, .null), (51, [], .if_icmp .ge 35, 0, 86, .null), (54, [], .aload_n 0, 0, 0, .null), (55, [], .getfield 9, 5, 1, .null), (58, [], .iload 5, 5, 0, .null), (60, [], .aload_n 0, 0, 0, .null), (61, [], .aload_n 1, 1, 0, .null), (62, [], .getfield 25, 4, 0, .null), (65, [], .aload_n 0, 0, 0, .null), (66, [], .getfield 9, 5, 1, .null), (69, [], .iload 5, 5, 0, .null), (71, [], .iconst 1, 0, 0, .int 1), (72, [], .isub, 0, 0, .null), (73, [], .iaload, 0, 0, .null), (74, [], .iload 5, 5, 0, .null), (76, [], .invokevirtual 35, 62, 4, .ref 5), (79, [], .iastore, 0, 0, .null), (80, [], .iinc 5 1, 5, 0, .int 1), (83, [], .goto (-36), 0, 47, .null), (86, [], .aload_n 0, 0, 0, .null), (87, [], .iload 4, 4, 0, .null), (89, [], .putfield 39, 5, 0, .int 0), (92, [], .aload_n 0, 0, 0, .null), (93, [], .getfield 18, 5, 3, .null), (96, [], .iload_n 2, 2, 0, .null), (97, [], .iaload, 0, 0, .null), (98, [], .ireturn, 0, 0, .null)]
abbrev jX6_gather : Nat := 59
def kX6_gather : List xE := [(0, [], .aload_n 0, 0, 0, .null), (1, [], .getfield 15, 5, 2, .null), (4, [], .iconst 0, 0, 0, .int 0), (5, [], .invokestatic 43, 237, 2, .null), (8, [], .iconst 0, 0, 0, .int 0), (9, [], .istore 4, 4, 0, .null), (11, [true, true, true, true, true, false], .iload 4, 4, 0, .null), (13, [], .aload_n 1, 1, 0, .null), (14, [], .getfield 49, 4, 1, .null), (17, [], .getfield 53, 2, 0, .int 0), (20, [], .if_icmp .ge 62, 0, 82, .null), (23, [], .aload_n 1, 1, 0, .null), (24, [], .getfield 49, 4, 1, .null), (27, [], .getfield 58, 2, 5, .null), (30, [], .iload 4, 4, 0, .null), (32, [], .iaload, 0, 0, .null), (33, [], .iload_n 2, 2, 0, .null), (34, [], .invokestatic 61, 133, 1, .null), (37, [], .isub, 0, 0, .null), (38, [], .istore 5, 5, 0, .null), (40, [], .iload 5, 5, 0, .null), (42, [], .ifCond .lt 34, 0, 76, .null), (45, [], .iload 5, 5, 0, .null), (47, [], .iload_n 3, 3, 0, .null), (48, [], .if_icmp .ge 28, 0, 76, .null), (51, [], .aload_n 1, 1, 0, .null), (52, [], .iload 4, 4, 0, .null), (54, [], .iload_n 2, 2, 0, .null), (55, [], .invokestatic 65, 132, 1, .null), (58, [], .invokevirtual 68, 49, 3, .ref 4), (61, [], .ifCond .eq 15, 0, 76, .null), (64, [], .aload_n 0, 0, 0, .null), (65, [], .aload_n 1, 1, 0, .null), (66, [], .iload 4, 4, 0, .null), (68, [], .invokevirtual 72, 48, 2, .ref 4), (71, [], .iload 5, 5, 0, .null), (73, [], .invokevirtual 75, 60, 3, .ref 5), (76, [], .iinc 4 1, 4, 0, .int 1), (79, [], .goto (-68), 0, 11, .null), (82, [], .return_, 0, 0, .null)]
abbrev jX6_addAround : Nat := 60
def kX6_addAround : List xE := [(0, [], .iconst 0, 0, 0, .int 0), (1, [], .istore_n 3, 3, 0, .null), (2, [true, true, true, true], .iload_n 3, 3, 0, .null), (3, [], .bipush 10, 0, 0, .int 10), (5, [], .if_icmp .ge 33, 0, 38, .null), (8, [], .iload_n 1, 1, 0, .null), (9, [], .i2l, 0, 0, .null), (10, [], .iload_n 3, 3, 0, .null), (11, [], .invokestatic 79, 134, 2, .null), (14, [], .ifCond .eq 18, 0, 32, .null), (17, [], .aload_n 0, 0, 0, .null), (18, [], .getfield 15, 5, 2, .null), (21, [], .iload_n 2, 2, 0, .null), (22, [], .bipush 10, 0, 0, .int 10), (24, [], .imul, 0, 0, .null), (25, [], .iload_n 3, 3, 0, .null), (26, [], .iadd, 0, 0, .null), (27, [], .dup2, 0, 0, .null), (28, [], .iaload, 0, 0, .null), (29, [], .iconst 1, 0, 0, .int 1), (30, [], .iadd, 0, 0, .null), (31, [], .iastore, 0, 0, .null), (32, [], .iinc 3 1, 3, 0, .int 1), (35, [], .goto (-33), 0, 2, .null), (38, [], .return_, 0, 0, .null)]
abbrev jX6_reckon : Nat := 61
def kX6_reckon : List xE := [(0, [], .iconst 0, 0, 0, .int 0), (1, [], .istore 4, 4, 0, .null), (3, [true, true, true, true, true, false], .iload 4, 4, 0, .null), (5, [], .bipush 10, 0, 0, .int 10), (7, [], .if_icmp .ge 71, 0, 78, .null), (10, [], .aload_n 0, 0, 0, .null), (11, [], .getfield 15, 5, 2, .null), (14, [], .iload_n 2, 2, 0, .null), (15, [], .bipush 10, 0, 0, .int 10), (17, [], .imul, 0, 0, .null), (18, [], .iload 4, 4, 0, .null), (20, [], .iadd, 0, 0, .null), (21, [], .iaload, 0, 0, .null), (22, [], .istore 5, 5, 0, .null), (24, [], .iload_n 2, 2, 0, .null), (25, [], .iconst 1, 0, 0, .int 1), (26, [], .iadd, 0, 0, .null), (27, [], .iload_n 3, 3, 0, .null), (28, [], .if_icmp .ge 30, 0, 58, .null), (31, [], .iload 5, 5, 0, .null), (33, [], .aload_n 0, 0, 0, .null), (34, [], .getfield 18, 5, 3, .null), (37, [], .iload_n 2, 2, 0, .null), (38, [], .iconst 1, 0, 0, .int 1), (39, [], .iadd, 0, 0, .null), (40, [], .bipush 10, 0, 0, .int 10), (42, [], .imul, 0, 0, .null), (43, [], .aload_n 0, 0, 0, .null), (44, [], .aload_n 1, 1, 0, .null), (45, [], .iload 4, 4, 0, .null), (47, [], .iload_n 2, 2, 0, .null), (48, [], .iconst 1, 0, 0, .int 1), (49, [], .iadd, 0, 0, .null), (50, [], .invokevirtual 35, 62, 4, .ref 5), (53, [], .iadd, 0, 0, .null), (54, [], .iaload, 0, 0, .null), (55, [], .iadd, 0, 0, .null), (56, [], .istore 5, 5, 0, .null), (58, [], .aload_n 0, 0, 0, .null), (59, [], .getfield 18, 5, 3, .null), (62, [], .iload_n 2, 2, 0, .null), (63, [], .bipush 10, 0, 0, .int 10), (65, [], .imul, 0, 0, .null), (66, [], .iload 4, 4, 0, .null), (68, [], .iadd, 0, 0, .null), (69, [], .iload 5, 5, 0, .null), (71, [], .iastore, 0, 0, .null), (72, [], .iinc 4 1, 4, 0, .int 1), (75, [], .goto (-72), 0, 3, .null), (78, [], .return_, 0, 0, .null)]
abbrev jX6_bestNext : Nat := 62
def kX6_bestNext : List xE := [(0, [], .iload_n 2, 2, 0, .null), (1, [], .istore 4, 4, 0, .null), (3, [], .iconst (-1), 0, 0, .int (-1)), (4, [], .istore 5, 5, 0, .null), (6, [], .iconst 0, 0, 0, .int 0), (7, [], .istore 6, 6, 0, .null), (9, [true, true, true, true, true, true, true], .iload 6, 6, 0, .null), (11, [], .bipush 10, 0, 0, .int 10), (13, [], .if_icmp .ge 54, 0, 67, .null), (16, [], .aload_n 1, 1, 0, .null), (17, [], .iload_n 2, 2, 0, .null), (18, [], .iload 6, 6, 0, .null), (20, [], .invokevirtual 83, 68, 3, .ref 6), (23, [], .ifCond .eq 38, 0, 61, .null), (26, [], .aload_n 0, 0, 0, .null), (27, [], .getfield 18, 5, 3, .null), (30, [], .iload_n 3, 3, 0, .null), (31, [], .bipush 10, 0, 0, .int 10), (33, [], .imul, 0, 0, .null), (34, [], .iload 6, 6, 0, .null), (36, [], .iadd, 0, 0, .null), (37, [], .iaload, 0, 0, .null), (38, [], .iload 5, 5, 0, .null), (40, [], .if_icmp .le 21, 0, 61, .null), (43, [], .iload 6, 6, 0, .null), (45, [], .istore 4, 4, 0, .null), (47, [], .aload_n 0, 0, 0, .null), (48, [], .getfield 18, 5, 3, .null), (51, [], .iload_n 3, 3, 0, .null), (52, [], .bipush 10, 0, 0, .int 10), (54, [], .imul, 0, 0, .null), (55, [], .iload 6, 6, 0, .null), (57, [], .iadd, 0, 0, .null), (58, [], .iaload, 0, 0, .null), (59, [], .istore 5, 5, 0, .null), (61, [], .iinc 6 1, 6, 0, .int 1), (64, [], .goto (-55), 0, 9, .null), (67, [], .iload 4, 4, 0, .null), (69, [], .ireturn, 0, 0, .null)]
abbrev jX7_init : Nat := 63
def kX7_init : List xE := [(0, [], .aload_n 0, 0, 0, .null), (1, [], .invokespecial 3, 999, 1, .null), (4, [], .aload_n 0, 0, 0, .null), (5, [], .bipush 10, 0, 0, .int 10), (7, [], .newarray .int, 0, 0, .null), (9, [], .putfield 9, 6, 0, .null), (12, [], .return_, 0, 0, .null)]
abbrev jX7_become : Nat := 64
def kX7_become : List xE := [(0, [], .aload_n 1, 1, 0, .null), (1, [], .getfield 9, 6, 0, .null), (4, [], .iconst 0, 0, 0, .int 0), (5, [], .aload_n 0, 0, 0, .null), (6, [], .getfield 9, 6, 0, .null), (9, [], .iconst 0, 0, 0, .int 0), (10, [], .bipush 10, 0, 0, .int 10), (12, [], .invokestatic 15, 998, 5, .null), (15, [], .return_, 0, 0, .null)]
abbrev jX7_has : Nat := 65
def kX7_has : List xE := [(0, [], .iload_n 1, 1, 0, .null), (1, [], .invokestatic 21, 123, 1, .null), (4, [], .ifCond .eq 21, 0, 25, .null), (7, [], .aload_n 0, 0, 0, .null), (8, [], .getfield 9, 6, 0, .null), (11, [], .iload_n 1, 1, 0, .null), (12, [], .iaload, 0, 0, .null), (13, [], .i2l, 0, 0, .null), (14, [], .iload_n 2, 2, 0, .null), (15, [], .invokestatic 25, 134, 2, .null), (18, [], .ifCond .eq 7, 0, 25, .null), (21, [], .iconst 1, 0, 0, .int 1), (22, [], .goto 4, 0, 26, .null), (25, [], .iconst 0, 0, 0, .int 0), (26, [], .ireturn, 0, 0, .null)]
abbrev jX7_put : Nat := 66
def kX7_put : List xE := [(0, [], .aload_n 0, 0, 0, .null), (1, [], .iload_n 1, 1, 0, .null), (2, [], .iload_n 2, 2, 0, .null), (3, [], .iload_n 3, 3, 0, .null), (4, [], .invokevirtual 29, 67, 4, .ref 6), (7, [], .aload_n 0, 0, 0, .null), (8, [], .iload_n 2, 2, 0, .null), (9, [], .iload_n 1, 1, 0, .null), (10, [], .iload_n 3, 3, 0, .null), (11, [], .invokevirtual 29, 67, 4, .ref 6), (14, [], .return_, 0, 0, .null)]
abbrev jX7_putHalf : Nat := 67
def kX7_putHalf : List xE := [(0, [], .iload_n 3, 3, 0, .null), (1, [], .ifCond .eq 18, 0, 19, .null), (4, [], .aload_n 0, 0, 0, .null), (5, [], .getfield 9, 6, 0, .null), (8, [], .iload_n 1, 1, 0, .null), (9, [], .dup2, 0, 0, .null), (10, [], .iaload, 0, 0, .null), (11, [], .iconst 1, 0, 0, .int 1), (12, [], .iload_n 2, 2, 0, .null), (13, [], .ishl, 0, 0, .null), (14, [], .ior, 0, 0, .null), (15, [], .iastore, 0, 0, .null), (16, [], .goto 17, 0, 33, .null), (19, [], .aload_n 0, 0, 0, .null), (20, [], .getfield 9, 6, 0, .null), (23, [], .iload_n 1, 1, 0, .null), (24, [], .dup2, 0, 0, .null), (25, [], .iaload, 0, 0, .null), (26, [], .iconst 1, 0, 0, .int 1), (27, [], .iload_n 2, 2, 0, .null), (28, [], .ishl, 0, 0, .null), (29, [], .iconst (-1), 0, 0, .int (-1)), (30, [], .ixor, 0, 0, .null), (31, [], .iand, 0, 0, .null), (32, [], .iastore, 0, 0, .null), (33, [], .return_, 0, 0, .null)]
abbrev jX7_isOpen : Nat := 68
def kX7_isOpen : List xE := [(0, [], .iload_n 1, 1, 0, .null), (1, [], .iload_n 2, 2, 0, .null), (2, [], .if_icmp .eq 12, 0, 14, .null), (5, [], .aload_n 0, 0, 0, .null), (6, [], .iload_n 1, 1, 0, .null), (7, [], .iload_n 2, 2, 0, .null), (8, [], .invokevirtual 33, 65, 3, .ref 6), (11, [], .ifCond .eq 7, 0, 18, .null), (14, [], .iconst 1, 0, 0, .int 1), (15, [], .goto 4, 0, 19, .null), (18, [], .iconst 0, 0, 0, .int 0), (19, [], .ireturn, 0, 0, .null)]
abbrev jX7_total : Nat := 69
def kX7_total : List xE := [(0, [], .iconst 0, 0, 0, .int 0), (1, [], .istore_n 1, 1, 0, .null), (2, [], .iconst 0, 0, 0, .int 0), (3, [], .istore_n 2, 2, 0, .null), (4, [true, true, true], .iload_n 2, 2, 0, .null), (5, [], .bipush 10, 0, 0, .int 10), (7, [], .if_icmp .ge 21, 0, 28, .null), (10, [], .iload_n 1, 1, 0, .null), (11, [], .aload_n 0, 0, 0, .null), (12, [], .getfield 9, 6, 0, .null), (15, [], .iload_n 2, 2, 0, .null), (16, [], .iaload, 0, 0, .null), (17, [], .invokestatic 37, 229, 1, .null), (20, [], .iadd, 0, 0, .null), (21, [], .istore_n 1, 1, 0, .null), (22, [], .iinc 2 1, 2, 0, .int 1), (25, [], .goto (-21), 0, 4, .null), (28, [], .iload_n 1, 1, 0, .null), (29, [], .iconst 2, 0, 0, .int 2), (30, [], .idiv, 0, 0, .null), (31, [], .ireturn, 0, 0, .null)]
abbrev jX7_fewestBetween : Nat := 70
def kX7_fewestBetween : List xE := [(0, [], .iconst 1, 0, 0, .int 1), (1, [], .iload_n 1, 1, 0, .null), (2, [], .ishl, 0, 0, .null), (3, [], .istore_n 3, 3, 0, .null), (4, [], .iconst 0, 0, 0, .int 0), (5, [], .istore 4, 4, 0, .null), (7, [true, false, true, true, true], .iload 4, 4, 0, .null), (9, [], .bipush 10, 0, 0, .int 10), (11, [], .if_icmp .ge 27, 0, 38, .null), (14, [], .iload_n 3, 3, 0, .null), (15, [], .i2l, 0, 0, .null), (16, [], .iload_n 2, 2, 0, .null), (17, [], .invokestatic 25, 134, 2, .null), (20, [], .ifCond .eq 6, 0, 26, .null), (23, [], .iload 4, 4, 0, .null), (25, [], .ireturn, 0, 0, .null), (26, [], .aload_n 0, 0, 0, .null), (27, [], .iload_n 3, 3, 0, .null), (28, [], .invokevirtual 43, 72, 2, .ref 6), (31, [], .istore_n 3, 3, 0, .null), (32, [], .iinc 4 1, 4, 0, .int 1), (35, [], .goto (-28), 0, 7, .null), (38, [], .iconst (-1), 0, 0, .int (-1)), (39, [], .ireturn, 0, 0, .null)]
abbrev jX7_within : Nat := 71
def kX7_within : List xE := [(0, [], .iconst 1, 0, 0, .int 1), (1, [], .iload_n 1, 1, 0, .null), (2, [], .ishl, 0, 0, .null), (3, [], .istore_n 3, 3, 0, .null), (4, [], .iconst 0, 0, 0, .int 0), (5, [], .istore 4, 4, 0, .null), (7, [true, false, true, true, true], .iload 4, 4, 0, .null), (9, [], .iload_n 2, 2, 0, .null), (10, [], .if_icmp .ge 15, 0, 25, .null), (13, [], .aload_n 0, 0, 0, .null), (14, [], .iload_n 3, 3, 0, .null), (15, [], .invokevirtual 43, 72, 2, .ref 6), (18, [], .istore_n 3, 3, 0, .null), (19, [], .iinc 4 1, 4, 0, .int 1), (22, [], .goto (-15), 0, 7, .null), (25, [], .iload_n 3, 3, 0, .null), (26, [], .ireturn, 0, 0, .null)]
abbrev jX7_spread : Nat := 72
def kX7_spread : List xE := [(0, [], .iload_n 1, 1, 0, .null), (1, [], .istore_n 2, 2, 0, .null), (2, [], .iconst 0, 0, 0, .int 0), (3, [], .istore_n 3, 3, 0, .null), (4, [true, true, true, true], .iload_n 3, 3, 0, .null), (5, [], .bipush 10, 0, 0, .int 10), (7, [], .if_icmp .ge 27, 0, 34, .null), (10, [], .iload_n 1, 1, 0, .null), (11, [], .i2l, 0, 0, .null), (12, [], .iload_n 3, 3, 0, .null), (13, [], .invokestatic 25, 134, 2, .null), (16, [], .ifCond .eq 12, 0, 28, .null), (19, [], .iload_n 2, 2, 0, .null), (20, [], .aload_n 0, 0, 0, .null), (21, [], .getfield 9, 6, 0, .null), (24, [], .iload_n 3, 3, 0, .null), (25, [], .iaload, 0, 0, .null), (26, [], .ior, 0, 0, .null), (27, [], .istore_n 2, 2, 0, .null), (28, [], .iinc 3 1, 3, 0, .int 1), (31, [], .goto (-27), 0, 4, .null), (34, [], .iload_n 2, 2, 0, .null), (35, [], .ireturn, 0, 0, .null)]
abbrev jX8_init : Nat := 73
def kX8_init : List xE := [(0, [], .aload_n 0, 0, 0, .null), (1, [], .invokespecial 3, 999, 1, .null), (4, [], .aload_n 0, 0, 0, .null), (5, [], .new 9, 4, 8, .null), (8, [], .dup, 0, 0, .null), (9, [], .invokespecial 11, 42, 1, .null), (12, [], .putfield 12, 7, 0, .null), (15, [], .aload_n 0, 0, 0, .null), (16, [], .new 9, 4, 8, .null), (19, [], .dup, 0, 0, .null), (20, [], .invokespecial 11, 42, 1, .null), (23, [], .putfield 16, 7, 1, .null), (26, [], .aload_n 0, 0, 0, .null), (27, [], .new 9, 4, 8, .null), (30, [], .dup, 0, 0, .null), (31, [], .invokespecial 11, 42, 1, .null), (34, [], .putfield 19, 7, 2, .null), (37, [], .aload_n 0, 0, 0, .null), (38, [], .new 22, 1, 6, .null), (41, [], .dup, 0, 0, .null), (42, [], .invokespecial 24, 12, 1, .null), (45, [], .putfield 25, 7, 4, .null), (48, [], .aload_n 0, 0, 0, .null), (49, [], .iconst 4, 0, 0, .int 4), (50, [], .anewarray 29, 1, 0, .null), (53, [], .putfield 31, 7, 5, .null), (56, [], .aload_n 0, 0, 0, .null), (57, [], .new 35, 5, 4, .null), (60, [], .dup, 0, 0, .null), (61, [], .invokespecial 37, 57, 1, .null), (64, [], .putfield 38, 7, 6, .null), (67, [], .aload_n 0, 0, 0, .null), (68, [], .bipush 7, 0, 0, .int 7), (70, [], .newarray .int, 0, 0, .null), (72, [], .putfield 42, 7, 7, .null), (75, [], .iconst 0, 0, 0, .int 0), (76, [], .istore_n 1, 1, 0, .null), (77, [true, true], .iload_n 1, 1, 0, .null), (78, [], .iconst 4, 0, 0, .int 4), (79, [], .if_icmp .ge 22, 0, 101, .null), (82, [], .aload_n 0, 0, 0, .null), (83, [], .getfield 31, 7, 5, .null), (86, [], .iload_n 1, 1, 0, .null), (87, [], .new 29, 3, 3, .null), (90, [], .dup, 0, 0, .null), (91, [], .invokespecial 46, 36, 1, .null), (94, [], .aastore, 0, 0, .null), (95, [], .iinc 1 1, 1, 0, .int 1), (98, [], .goto (-21), 0, 77, .null), (101, [], .return_, 0, 0, .null)]
abbrev jX8_way : Nat := 74
def kX8_way : List xE := [(0, [], .iload_n 1, 1, 0, .null), (1, [], .invokestatic 47, 123, 1, .null), (4, [], .ifCond .eq 15, 0, 19, .null), (7, [], .iload_n 2, 2, 0, .null), (8, [], .invokestatic 47, 123, 1, .null), (11, [], .ifCond .eq 8, 0, 19, .null), (14, [], .iload_n 1, 1, 0, .null), (15, [], .iload_n 2, 2, 0, .null), (16, [], .if_icmp .ne 10, 0, 26, .null), (19, [], .aload_n 0, 0, 0, .null), (20, [], .ldc 51, 0, 0, .int (-1000001)), (22, [], .invokevirtual 52, 121, 2, .ref 7), (25, [], .ireturn, 0, 0, .null), (26, [], .aload_n 0, 0, 0, .null), (27, [], .getfield 12, 7, 0, .null), (30, [], .getfield 56, 4, 0, .null), (33, [], .iload_n 1, 1, 0, .null), (34, [], .iload_n 2, 2, 0, .null), (35, [], .invokevirtual 60, 65, 3, .ref 6), (38, [], .ifCond .eq 7, 0, 45, .null), (41, [], .iconst 1, 0, 0, .int 1), (42, [], .goto 4, 0, 46, .null), (45, [], .iconst 0, 0, 0, .int 0), (46, [], .istore 4, 4, 0, .null), (48, [], .aload_n 0, 0, 0, .null), (49, [], .getfield 12, 7, 0, .null), (52, [], .getfield 56, 4, 0, .null), (55, [], .iload_n 1, 1, 0, .null), (56, [], .iload_n 2, 2, 0, .null), (57, [], .iload_n 3, 3, 0, .null), (58, [], .invokevirtual 66, 66, 4, .ref 6), (61, [], .iload 4, 4, 0, .null), (63, [], .ireturn, 0, 0, .null)]
abbrev jX8_steps : Nat := 75
def kX8_steps : List xE := [(0, [], .iload_n 1, 1, 0, .null), (1, [], .invokestatic 47, 123, 1, .null), (4, [], .ifCond .eq 10, 0, 14, .null), (7, [], .iload_n 2, 2, 0, .null), (8, [], .invokestatic 47, 123, 1, .null), (11, [], .ifCond .ne 10, 0, 21, .null), (14, [], .aload_n 0, 0, 0, .null), (15, [], .ldc 51, 0, 0, .int (-1000001)), (17, [], .invokevirtual 52, 121, 2, .ref 7), (20, [], .ireturn, 0, 0, .null), (21, [], .aload_n 0, 0, 0, .null), (22, [], .getfield 12, 7, 0, .null), (25, [], .getfield 56, 4, 0, .null), (28, [], .iload_n 1, 1, 0, .null), (29, [], .iload_n 2, 2, 0, .null), (30, [], .invokevirtual 70, 70, 3, .ref 6), (33, [], .istore_n 3, 3, 0, .null), (34, [], .iload_n 3, 3, 0, .null), (35, [], .ifCond .ge 12, 0, 47, .null), (38, [], .aload_n 0, 0, 0, .null), (39, [], .ldc 74, 0, 0, .int (-1000004)), (41, [], .invokevirtual 52, 121, 2, .ref 7), (44, [], .goto 4, 0, 48, .null), (47, [], .iload_n 3, 3, 0, .null), (48, [], .ireturn, 0, 0, .null)]
abbrev jX8_days : Nat := 76
def kX8_days : List xE := [(0, [], .iload_n 1, 1, 0, .null), (1, [], .iconst 1, 0, 0, .int 1), (2, [], .if_icmp .lt 9, 0, 11, .null), (5, [], .iload_n 1, 1, 0, .null), (6, [], .bipush 20, 0, 0, .int 20), (8, [], .if_icmp .le 10, 0, 18, .null), (11, [], .aload_n 0, 0, 0, .null), (12, [], .ldc 51, 0, 0, .int (-1000001)), (14, [], .invokevirtual 52, 121, 2, .ref 7), (17, [], .ireturn, 0, 0, .null), (18, [], .aload_n 0, 0, 0, .null), (19, [], .getfield 12, 7, 0, .null), (22, [], .getfield 75, 4, 5, .int 0), (25, [], .iload_n 1, 1, 0, .null), (26, [], .iadd, 0, 0, .null), (27, [], .bipush 100, 0, 0, .int 100), (29, [], .if_icmp .lt 10, 0, 39, .null), (32, [], .aload_n 0, 0, 0, .null), (33, [], .ldc 79, 0, 0, .int (-1000005)), (35, [], .invokevirtual 52, 121, 2, .ref 7), (38, [], .ireturn, 0, 0, .null), (39, [], .aload_n 0, 0, 0, .null), (40, [], .getfield 12, 7, 0, .null), (43, [], .dup, 0, 0, .null), (44, [], .getfield 75, 4, 5, .int 0), (47, [], .iload_n 1, 1, 0, .null), (48, [], .iadd, 0, 0, .null), (49, [], .putfield 75, 4, 5, .int 0), (52, [], .aload_n 0, 0, 0, .null), (53, [], .getfield 12, 7, 0, .null), (56, [], .getfield 75, 4, 5, .int 0), (59, [], .ireturn, 0, 0, .null)]
abbrev jX8_rain : Nat := 77
def kX8_rain : List xE := [(0, [], .iload_n 1, 1, 0, .null), (1, [], .invokestatic 80, 124, 1, .null), (4, [], .ifCond .ne 10, 0, 14, .null), (7, [], .aload_n 0, 0, 0, .null), (8, [], .ldc 51, 0, 0, .int (-1000001)), (10, [], .invokevirtual 52, 121, 2, .ref 7), (13, [], .ireturn, 0, 0, .null), (14, [], .aload_n 0, 0, 0, .null), (15, [], .getfield 12, 7, 0, .null), (18, [], .getfield 83, 4, 3, .null), (21, [], .iload_n 1, 1, 0, .null), (22, [], .iaload, 0, 0, .null), (23, [], .istore_n 3, 3, 0, .null), (24, [], .aload_n 0, 0, 0, .null), (25, [], .getfield 12, 7, 0, .null), (28, [], .getfield 83, 4, 3, .null), (31, [], .iload_n 1, 1, 0, .null), (32, [], .iload_n 2, 2, 0, .null), (33, [], .ifCond .eq 7, 0, 40, .null), (36, [], .iconst 1, 0, 0, .int 1), (37, [], .goto 4, 0, 41, .null), (40, [], .iconst 0, 0, 0, .int 0), (41, [], .iastore, 0, 0, .null), (42, [], .iload_n 3, 3, 0, .null), (43, [], .ireturn, 0, 0, .null)]
abbrev jX8_weather : Nat := 78
def kX8_weather : List xE := [(0, [], .iload_n 1, 1, 0, .null), (1, [], .invokestatic 80, 124, 1, .null), (4, [], .ifCond .eq 25, 0, 29, .null), (7, [], .iload_n 2, 2, 0, .null), (8, [], .invokestatic 80, 124, 1, .null), (11, [], .ifCond .eq 18, 0, 29, .null), (14, [], .iload_n 2, 2, 0, .null), (15, [], .iload_n 1, 1, 0, .null), (16, [], .if_icmp .lt 13, 0, 29, .null), (19, [], .iload_n 3, 3, 0, .null), (20, [], .ifCond .lt 9, 0, 29, .null), (23, [], .iload_n 3, 3, 0, .null), (24, [], .bipush 100, 0, 0, .int 100), (26, [], .if_icmp .le 10, 0, 36, .null), (29, [], .aload_n 0, 0, 0, .null), (30, [], .ldc 51, 0, 0, .int (-1000001)), (32, [], .invokevirtual 52, 121, 2, .ref 7), (35, [], .ireturn, 0, 0, .null), (36, [], .iload_n 1, 1, 0, .null), (37, [], .istore 4, 4, 0, .null), (39, [true, true, true, true, true], .iload 4, 4, 0, .null), (41, [], .iload_n 2, 2, 0, .null), (42, [], .if_icmp .gt 38, 0, 80, .null), (45, [], .aload_n 0, 0, 0, .null), (46, [], .getfield 12, 7, 0, .null), (49, [], .getfield 83, 4, 3, .null), (52, [], .iload 4, 4, 0, .null), (54, [], .aload_n 0, 0, 0, .null), (55, [], .getfield 12, 7, 0, .null), (58, [], .invokevirtual 86, 44, 1, .ref 4), (61, [], .bipush 100, 0, 0, .int 100), (63, [], .irem, 0, 0, .null), (64, [], .iload_n 3, 3, 0, .null), (65, [], .if_icmp .ge 7, 0, 72, .null), (68, [], .iconst 1, 0, 0, .int 1), (69, [], .goto 4, 0, 73, .null), (72, [], .iconst 0, 0, 0, .int 0), (73, [], .iastore, 0, 0, .null), (74, [], .iinc 4 1, 4, 0, .int 1), (77, [], .goto (-38), 0, 39, .null), (80, [], .aload_n 0, 0, 0, .null), (81, [], .getfield 12, 7, 0, .null), (84, [], .iload_n 1, 1, 0, .null), (85, [], .iload_n 2, 2, 0, .null), (86, [], .invokevirtual 90, 45, 3, .ref 4), (89, [], .ireturn, 0, 0, .null)]
abbrev jX8_keep : Nat := 79
def kX8_keep : List xE := [(0, [], .iload_n 1, 1, 0, .null), (1, [], .iconst 1, 0, 0, .int 1), (2, [], .if_icmp .lt 9, 0, 11, .null), (5, [], .iload_n 1, 1, 0, .null), (6, [], .bipush 20, 0, 0, .int 20), (8, [], .if_icmp .le 10, 0, 18, .null), (11, [], .aload_n 0, 0, 0, .null), (12, [], .ldc 51, 0, 0, .int (-1000001)), (14, [], .invokevirtual 52, 121, 2, .ref 7), (17, [], .ireturn, 0, 0, .null), (18, [], .aload_n 0, 0, 0, .null), (19, [], .getfield 12, 7, 0, .null), (22, [], .getfield 93, 4, 6, .int 0), (25, [], .istore_n 2, 2, 0, .null), (26, [], .aload_n 0, 0, 0, .null), (27, [], .getfield 12, 7, 0, .null), (30, [], .iload_n 1, 1, 0, .null), (31, [], .putfield 93, 4, 6, .int 0), (34, [], .iload_n 2, 2, 0, .null), (35, [], .ireturn, 0, 0, .null)]
abbrev jX8_say : Nat := 80
def kX8_say : List xE := [(0, [], .iload_n 1, 1, 0, .null), (1, [], .invokestatic 96, 0, 1, .null), (4, [], .ifCond .eq 33, 0, 37, .null), (7, [], .iload_n 2, 2, 0, .null), (8, [], .invokestatic 101, 127, 1, .null), (11, [], .ifCond .eq 26, 0, 37, .null), (14, [], .iload_n 3, 3, 0, .null), (15, [], .invokestatic 104, 128, 1, .null), (18, [], .ifCond .eq 19, 0, 37, .null), (21, [], .iload 4, 4, 0, .null), (23, [], .invokestatic 47, 123, 1, .null), (26, [], .ifCond .eq 11, 0, 37, .null), (29, [], .iload 5, 5, 0, .null), (31, [], .invokestatic 107, 125, 1, .null), (34, [], .ifCond .ne 10, 0, 44, .null), (37, [], .aload_n 0, 0, 0, .null), (38, [], .ldc 51, 0, 0, .int (-1000001)), (40, [], .invokevirtual 52, 121, 2, .ref 7), (43, [], .ireturn, 0, 0, .null), (44, [], .aload_n 0, 0, 0, .null), (45, [], .getfield 12, 7, 0, .null), (48, [], .getfield 110, 4, 1, .null), (51, [], .invokevirtual 114, 31, 1, .ref 2), (54, [], .ifCond .eq 10, 0, 64, .null), (57, [], .aload_n 0, 0, 0, .null), (58, [], .ldc 120, 0, 0, .int (-1000002)), (60, [], .invokevirtual 52, 121, 2, .ref 7), (63, [], .ireturn, 0, 0, .null), (64, [], .aload_n 0, 0, 0, .null), (65, [], .getfield 12, 7, 0, .null), (68, [], .getfield 110, 4, 1, .null), (71, [], .iload_n 1, 1, 0, .null), (72, [], .iload_n 2, 2, 0, .null), (73, [], .iload_n 3, 3, 0, .null), (74, [], .iload 4, 4, 0, .null), (76, [], .iload 5, 5, 0, .null), (78, [], .aload_n 0, 0, 0, .null), (79, [], .getfield 12, 7, 0, .null), (82, [], .getfield 75, 4, 5, .int 0), (85, [], .invokevirtual 121, 32, 7, .ref 2), (88, [], .ireturn, 0, 0, .null)]
abbrev jX8_sayingOf : Nat := 81
def kX8_sayingOf : List xE := [(0, [], .aload_n 0, 0, 0, .null), (1, [], .iload_n 1, 1, 0, .null), (2, [], .invokevirtual 125, 122, 2, .ref 7), (5, [], .ifCond .ne 10, 0, 15, .null), (8, [], .aload_n 0, 0, 0, .null), (9, [], .ldc 51, 0, 0, .int (-1000001)), (11, [], .invokevirtual 52, 121, 2, .ref 7), (14, [], .ireturn, 0, 0, .null), (15, [], .iload_n 2, 2, 0, .null), (16, [], .tableswitch 147 0 7 #[48, 61, 74, 87, 100, 113, 126, 135], 0, 0, .null), (64, [], .aload_n 0, 0, 0, .null), (65, [], .getfield 12, 7, 0, .null), (68, [], .getfield 110, 4, 1, .null), (71, [], .getfield 128, 2, 1, .null), (74, [], .iload_n 1, 1, 0, .null), (75, [], .iaload, 0, 0, .null), (76, [], .ireturn, 0, 0, .null), (77, [], .aload_n 0, 0, 0, .null), (78, [], .getfield 12, 7, 0, .null), (81, [], .getfield 110, 4, 1, .null), (84, [], .getfield 131, 2, 2, .null), (87, [], .iload_n 1, 1, 0, .null), (88, [], .iaload, 0, 0, .null), (89, [], .ireturn, 0, 0, .null), (90, [], .aload_n 0, 0, 0, .null), (91, [], .getfield 12, 7, 0, .null), (94, [], .getfield 110, 4, 1, .null), (97, [], .getfield 134, 2, 3, .null), (100, [], .iload_n 1, 1, 0, .null), (101, [], .iaload, 0, 0, .null), (102, [], .ireturn, 0, 0, .null), (103, [], .aload_n 0, 0, 0, .null), (104, [], .getfield 12, 7, 0, .null), (107, [], .getfield 110, 4, 1, .null), (110, [], .getfield 137, 2, 4, .null), (113, [], .iload_n 1, 1, 0, .null), (114, [], .iaload, 0, 0, .null), (115, [], .ireturn, 0, 0, .null), (116, [], .aload_n 0, 0, 0, .null), (117, [], .getfield 12, 7, 0, .null), (120, [], .getfield 110, 4, 1, .null), (123, [], .getfield 140, 2, 5, .null), (126, [], .iload_n 1, 1, 0, .null), (127, [], .iaload, 0, 0, .null), (128, [], .ireturn, 0, 0, .null), (129, [], .aload_n 0, 0, 0, .null), (130, [], .getfield 12, 7, 0, .null), (133, [], .getfield 110, 4, 1, .null), (136, [], .getfield 143, 2, 6, .null), (139, [], .iload_n 1, 1, 0, .null), (140, [], .iaload, 0, 0, .null), (141, [], .ireturn, 0, 0, .null), (142, [], .aload_n 0, 0, 0, .null), (143, [], .getfield 12, 7, 0, .null), (146, [], .iload_n 1, 1, 0, .null), (147, [], .invokevirtual 146, 47, 2, .ref 4), (150, [], .ireturn, 0, 0, .null), (151, [], .aload_n 0, 0, 0, .null), (152, [], .getfield 12, 7, 0, .null), (155, [], .getfield 110, 4, 1, .null), (158, [], .iload_n 1, 1, 0, .null), (159, [], .invokevirtual 149, 33, 2, .ref 2), (162, [], .ireturn, 0, 0, .null), (163, [], .aload_n 0, 0, 0, .null), (164, [], .ldc 51, 0, 0, .int (-1000001)), (166, [], .invokevirtual 52, 121, 2, .ref 7), (169, [], .ireturn, 0, 0, .null)]
abbrev jX8_turn : Nat := 82
def kX8_turn : List xE := [(0, [], .aload_n 0, 0, 0, .null), (1, [], .iload_n 1, 1, 0, .null), (2, [], .invokevirtual 125, 122, 2, .ref 7), (5, [], .ifCond .eq 10, 0, 15, .null), (8, [], .iload_n 2, 2, 0, .null), (9, [], .invokestatic 96, 0, 1, .null), (12, [], .ifCond .ne 10, 0, 22, .null), (15, [], .aload_n 0, 0, 0, .null), (16, [], .ldc 51, 0, 0, .int (-1000001)), (18, [], .invokevirtual 52, 121, 2, .ref 7), (21, [], .ireturn, 0, 0, .null), (22, [], .aload_n 0, 0, 0, .null), (23, [], .getfield 12, 7, 0, .null), (26, [], .getfield 110, 4, 1, .null), (29, [], .getfield 128, 2, 1, .null), (32, [], .iload_n 1, 1, 0, .null), (33, [], .iaload, 0, 0, .null), (34, [], .istore_n 3, 3, 0, .null), (35, [], .aload_n 0, 0, 0, .null), (36, [], .getfield 12, 7, 0, .null), (39, [], .getfield 110, 4, 1, .null), (42, [], .getfield 128, 2, 1, .null), (45, [], .iload_n 1, 1, 0, .null), (46, [], .iload_n 2, 2, 0, .null), (47, [], .iastore, 0, 0, .null), (48, [], .iload_n 3, 3, 0, .null), (49, [], .ireturn, 0, 0, .null)]
abbrev jX8_age : Nat := 83
def kX8_age : List xE := [(0, [], .aload_n 0, 0, 0, .null), (1, [], .iload_n 1, 1, 0, .null), (2, [], .invokevirtual 125, 122, 2, .ref 7), (5, [], .ifCond .eq 10, 0, 15, .null), (8, [], .iload_n 2, 2, 0, .null), (9, [], .invokestatic 80, 124, 1, .null), (12, [], .ifCond .ne 10, 0, 22, .null), (15, [], .aload_n 0, 0, 0, .null), (16, [], .ldc 51, 0, 0, .int (-1000001)), (18, [], .invokevirtual 52, 121, 2, .ref 7), (21, [], .ireturn, 0, 0, .null), (22, [], .iload_n 2, 2, 0, .null), (23, [], .aload_n 0, 0, 0, .null), (24, [], .getfield 12, 7, 0, .null), (27, [], .getfield 110, 4, 1, .null), (30, [], .getfield 143, 2, 6, .null), (33, [], .iload_n 1, 1, 0, .null), (34, [], .iaload, 0, 0, .null), (35, [], .if_icmp .gt 10, 0, 45, .null), (38, [], .aload_n 0, 0, 0, .null), (39, [], .ldc 79, 0, 0, .int (-1000005)), (41, [], .invokevirtual 52, 121, 2, .ref 7), (44, [], .ireturn, 0, 0, .null), (45, [], .aload_n 0, 0, 0, .null), (46, [], .getfield 12, 7, 0, .null), (49, [], .aload_n 0, 0, 0, .null), (50, [], .getfield 12, 7, 0, .null), (53, [], .getfield 110, 4, 1, .null), (56, [], .getfield 143, 2, 6, .null), (59, [], .iload_n 1, 1, 0, .null), (60, [], .iaload, 0, 0, .null), (61, [], .iload_n 2, 2, 0, .null), (62, [], .invokevirtual 152, 46, 3, .ref 4), (65, [], .ireturn, 0, 0, .null)]
abbrev jX8_over : Nat := 84
def kX8_over : List xE := [(0, [], .aload_n 0, 0, 0, .null), (1, [], .iload_n 1, 1, 0, .null), (2, [], .invokevirtual 125, 122, 2, .ref 7), (5, [], .ifCond .ne 10, 0, 15, .null), (8, [], .aload_n 0, 0, 0, .null), (9, [], .ldc 51, 0, 0, .int (-1000001)), (11, [], .invokevirtual 52, 121, 2, .ref 7), (14, [], .ireturn, 0, 0, .null), (15, [], .aload_n 0, 0, 0, .null), (16, [], .getfield 12, 7, 0, .null), (19, [], .getfield 110, 4, 1, .null), (22, [], .iload_n 1, 1, 0, .null), (23, [], .invokevirtual 155, 34, 2, .ref 2), (26, [], .istore_n 2, 2, 0, .null), (27, [], .iload_n 2, 2, 0, .null), (28, [], .ifCond .ge 12, 0, 40, .null), (31, [], .aload_n 0, 0, 0, .null), (32, [], .ldc 74, 0, 0, .int (-1000004)), (34, [], .invokevirtual 52, 121, 2, .ref 7), (37, [], .goto 4, 0, 41, .null), (40, [], .iload_n 2, 2, 0, .null), (41, [], .ireturn, 0, 0, .null)]
abbrev jX8_until : Nat := 85
def kX8_until : List xE := [(0, [], .aload_n 0, 0, 0, .null), (1, [], .iload_n 1, 1, 0, .null), (2, [], .invokevirtual 125, 122, 2, .ref 7), (5, [], .ifCond .ne 10, 0, 15, .null), (8, [], .aload_n 0, 0, 0, .null), (9, [], .ldc 51, 0, 0, .int (-1000001)), (11, [], .invokevirtual 52, 121, 2, .ref 7), (14, [], .ireturn, 0, 0, .null), (15, [], .aload_n 0, 0, 0, .null), (16, [], .getfield 12, 7, 0, .null), (19, [], .iload_n 1, 1, 0, .null), (20, [], .invokevirtual 158, 54, 2, .ref 4), (23, [], .istore_n 2, 2, 0, .null), (24, [], .iload_n 2, 2, 0, .null), (25, [], .ifCond .ge 12, 0, 37, .null), (28, [], .aload_n 0, 0, 0, .null), (29, [], .ldc 74, 0, 0, .int (-1000004)), (31, [], .invokevirtual 52, 121, 2, .ref 7), (34, [], .goto 4, 0, 38, .null), (37, [], .iload_n 2, 2, 0, .null), (38, [], .ireturn, 0, 0, .null)]
abbrev jX8_reaches : Nat := 86
def kX8_reaches : List xE := [(0, [], .aload_n 0, 0, 0, .null), (1, [], .iload_n 1, 1, 0, .null), (2, [], .invokevirtual 125, 122, 2, .ref 7), (5, [], .ifCond .eq 10, 0, 15, .null), (8, [], .iload_n 2, 2, 0, .null), (9, [], .invokestatic 80, 124, 1, .null), (12, [], .ifCond .ne 10, 0, 22, .null), (15, [], .aload_n 0, 0, 0, .null), (16, [], .ldc 51, 0, 0, .int (-1000001)), (18, [], .invokevirtual 52, 121, 2, .ref 7), (21, [], .ireturn, 0, 0, .null), (22, [], .aload_n 0, 0, 0, .null), (23, [], .getfield 12, 7, 0, .null), (26, [], .iload_n 1, 1, 0, .null), (27, [], .iload_n 2, 2, 0, .null), (28, [], .invokevirtual 161, 49, 3, .ref 4), (31, [], .ifCond .eq 14, 0, 45, .null), (34, [], .aload_n 0, 0, 0, .null), (35, [], .getfield 12, 7, 0, .null), (38, [], .iload_n 1, 1, 0, .null), (39, [], .invokevirtual 164, 48, 2, .ref 4), (42, [], .goto 4, 0, 46, .null), (45, [], .iconst 0, 0, 0, .int 0), (46, [], .ireturn, 0, 0, .null)]
abbrev jX8_drowns : Nat := 87
def kX8_drowns : List xE := [(0, [], .aload_n 0, 0, 0, .null), (1, [], .iload_n 1, 1, 0, .null), (2, [], .invokevirtual 125, 122, 2, .ref 7), (5, [], .ifCond .ne 10, 0, 15, .null), (8, [], .aload_n 0, 0, 0, .null), (9, [], .ldc 51, 0, 0, .int (-1000001)), (11, [], .invokevirtual 52, 121, 2, .ref 7), (14, [], .ireturn, 0, 0, .null), (15, [], .aload_n 0, 0, 0, .null), (16, [], .getfield 12, 7, 0, .null), (19, [], .getfield 110, 4, 1, .null), (22, [], .getfield 128, 2, 1, .null), (25, [], .iload_n 1, 1, 0, .null), (26, [], .iaload, 0, 0, .null), (27, [], .iconst 0, 0, 0, .int 0), (28, [], .invokestatic 167, 5, 2, .null), (31, [], .ifCond .ne 10, 0, 41, .null), (34, [], .aload_n 0, 0, 0, .null), (35, [], .ldc 74, 0, 0, .int (-1000004)), (37, [], .invokevirtual 52, 121, 2, .ref 7), (40, [], .ireturn, 0, 0, .null), (41, [], .aload_n 0, 0, 0, .null), (42, [], .getfield 12, 7, 0, .null), (45, [], .getfield 110, 4, 1, .null), (48, [], .getfield 134, 2, 3, .null), (51, [], .iload_n 1, 1, 0, .null), (52, [], .iaload, 0, 0, .null), (53, [], .ireturn, 0, 0, .null)]
abbrev jX8_heard : Nat := 88
def kX8_heard : List xE := [(0, [], .iload_n 1, 1, 0, .null), (1, [], .invokestatic 47, 123, 1, .null), (4, [], .ifCond .eq 10, 0, 14, .null), (7, [], .iload_n 2, 2, 0, .null), (8, [], .invokestatic 170, 126, 1, .null), (11, [], .ifCond .ne 10, 0, 21, .null), (14, [], .aload_n 0, 0, 0, .null), (15, [], .ldc 51, 0, 0, .int (-1000001)), (17, [], .invokevirtual 52, 121, 2, .ref 7), (20, [], .ireturn, 0, 0, .null), (21, [], .aload_n 0, 0, 0, .null), (22, [], .getfield 12, 7, 0, .null), (25, [], .iload_n 1, 1, 0, .null), (26, [], .iload_n 2, 2, 0, .null), (27, [], .invokevirtual 173, 51, 3, .ref 4), (30, [], .invokestatic 177, 230, 1, .null), (33, [], .ireturn, 0, 0, .null)]
abbrev jX8_which : Nat := 89
def kX8_which : List xE := [(0, [], .iload_n 1, 1, 0, .null), (1, [], .invokestatic 47, 123, 1, .null), (4, [], .ifCond .eq 20, 0, 24, .null), (7, [], .iload_n 2, 2, 0, .null), (8, [], .invokestatic 170, 126, 1, .null), (11, [], .ifCond .eq 13, 0, 24, .null), (14, [], .iload_n 3, 3, 0, .null), (15, [], .ifCond .lt 9, 0, 24, .null), (18, [], .iload_n 3, 3, 0, .null), (19, [], .bipush 40, 0, 0, .int 40), (21, [], .if_icmp .lt 10, 0, 31, .null), (24, [], .aload_n 0, 0, 0, .null), (25, [], .ldc 51, 0, 0, .int (-1000001)), (27, [], .invokevirtual 52, 121, 2, .ref 7), (30, [], .ireturn, 0, 0, .null), (31, [], .aload_n 0, 0, 0, .null), (32, [], .getfield 12, 7, 0, .null), (35, [], .iload_n 1, 1, 0, .null), (36, [], .iload_n 2, 2, 0, .null), (37, [], .invokevirtual 173, 51, 3, .ref 4), (40, [], .lstore 4, 4, 0, .null), (42, [], .iload_n 3, 3, 0, .null), (43, [], .istore 6, 6, 0, .null), (45, [], .iconst 0, 0, 0, .int 0), (46, [], .istore 7, 7, 0, .null), (48, [true, false, false, false, true, false, true, true], .iload 7, 7, 0, .null), (50, [], .bipush 40, 0, 0, .int 40), (52, [], .if_icmp .ge 30, 0, 82, .null), (55, [], .lload 4, 4, 0, .null), (57, [], .iload 7, 7, 0, .null), (59, [], .invokestatic 183, 134, 2, .null), (62, [], .ifCond .eq 14, 0, 76, .null), (65, [], .iload 6, 6, 0, .null), (67, [], .ifCond .ne 6, 0, 73, .null), (70, [], .iload 7, 7, 0, .null), (72, [], .ireturn, 0, 0, .null), (73, [], .iinc 6 (-1), 6, 0, .int (-1)), (76, [], .iinc 7 1, 7, 0, .int 1), (79, [], .goto (-31), 0, 48, .null), (82, [], .aload_n 0, 0, 0, .null), (83, [], .ldc 74, 0, 0, .int (-1000004)), (85, [], .invokevirtual 52, 121, 2, .ref 7), (88, [], .ireturn, 0, 0, .null)]
abbrev jX8_words : Nat := 90
def kX8_words : List xE := [(0, [], .iload_n 1, 1, 0, .null), (1, [], .invokestatic 47, 123, 1, .null), (4, [], .ifCond .eq 10, 0, 14, .null), (7, [], .iload_n 2, 2, 0, .null), (8, [], .invokestatic 170, 126, 1, .null), (11, [], .ifCond .ne 10, 0, 21, .null), (14, [], .aload_n 0, 0, 0, .null), (15, [], .ldc 51, 0, 0, .int (-1000001)), (17, [], .invokevirtual 52, 121, 2, .ref 7), (20, [], .ireturn, 0, 0, .null), (21, [], .aload_n 0, 0, 0, .null), (22, [], .getfield 12, 7, 0, .null), (25, [], .iload_n 1, 1, 0, .null), (26, [], .iload_n 2, 2, 0, .null), (27, [], .invokevirtual 173, 51, 3, .ref 4), (30, [], .lstore_n 3, 3, 0, .null), (31, [], .iconst 0, 0, 0, .int 0), (32, [], .istore 5, 5, 0, .null), (34, [], .iconst 0, 0, 0, .int 0), (35, [], .istore 6, 6, 0, .null), (37, [true, false, false, true, false, true, true], .iload 6, 6, 0, .null), (39, [], .bipush 40, 0, 0, .int 40), (41, [], .if_icmp .ge 38, 0, 79, .null), (44, [], .lload_n 3, 3, 0, .null), (45, [], .iload 6, 6, 0, .null), (47, [], .invokestatic 183, 134, 2, .null), (50, [], .ifCond .eq 23, 0, 73, .null), (53, [], .iload 5, 5, 0, .null), (55, [], .iconst 1, 0, 0, .int 1), (56, [], .aload_n 0, 0, 0, .null), (57, [], .getfield 12, 7, 0, .null), (60, [], .getfield 110, 4, 1, .null), (63, [], .getfield 131, 2, 2, .null), (66, [], .iload 6, 6, 0, .null), (68, [], .iaload, 0, 0, .null), (69, [], .ishl, 0, 0, .null), (70, [], .ior, 0, 0, .null), (71, [], .istore 5, 5, 0, .null), (73, [], .iinc 6 1, 6, 0, .int 1), (76, [], .goto (-39), 0, 37, .null), (79, [], .iload 5, 5, 0, .null), (81, [], .ireturn, 0, 0, .null)]
abbrev jX8_plain : Nat := 91
def kX8_plain : List xE := [(0, [], .iload_n 1, 1, 0, .null), (1, [], .invokestatic 47, 123, 1, .null), (4, [], .ifCond .eq 10, 0, 14, .null), (7, [], .iload_n 2, 2, 0, .null), (8, [], .invokestatic 170, 126, 1, .null), (11, [], .ifCond .ne 10, 0, 21, .null), (14, [], .aload_n 0, 0, 0, .null), (15, [], .ldc 51, 0, 0, .int (-1000001)), (17, [], .invokevirtual 52, 121, 2, .ref 7), (20, [], .ireturn, 0, 0, .null), (21, [], .aload_n 0, 0, 0, .null), (22, [], .getfield 12, 7, 0, .null), (25, [], .iload_n 1, 1, 0, .null), (26, [], .iload_n 2, 2, 0, .null), (27, [], .invokevirtual 173, 51, 3, .ref 4), (30, [], .lstore_n 3, 3, 0, .null), (31, [], .iconst 0, 0, 0, .int 0), (32, [], .istore 5, 5, 0, .null), (34, [], .iconst 0, 0, 0, .int 0), (35, [], .istore 6, 6, 0, .null), (37, [true, false, false, true, false, true, true], .iload 6, 6, 0, .null), (39, [], .bipush 40, 0, 0, .int 40), (41, [], .if_icmp .ge 38, 0, 79, .null), (44, [], .lload_n 3, 3, 0, .null), (45, [], .iload 6, 6, 0, .null), (47, [], .invokestatic 183, 134, 2, .null), (50, [], .ifCond .eq 23, 0, 73, .null), (53, [], .iload 5, 5, 0, .null), (55, [], .aload_n 0, 0, 0, .null), (56, [], .getfield 12, 7, 0, .null), (59, [], .getfield 110, 4, 1, .null), (62, [], .getfield 134, 2, 3, .null), (65, [], .iload 6, 6, 0, .null), (67, [], .iaload, 0, 0, .null), (68, [], .invokestatic 187, 996, 2, .null), (71, [], .istore 5, 5, 0, .null), (73, [], .iinc 6 1, 6, 0, .int 1), (76, [], .goto (-39), 0, 37, .null), (79, [], .iload 5, 5, 0, .null), (81, [], .ifCond .ne 12, 0, 93, .null), (84, [], .aload_n 0, 0, 0, .null), (85, [], .ldc 74, 0, 0, .int (-1000004)), (87, [], .invokevirtual 52, 121, 2, .ref 7), (90, [], .goto 5, 0, 95, .null), (93, [], .iload 5, 5, 0, .null), (95, [], .ireturn, 0, 0, .null)]
abbrev jX8_alone : Nat := 92
def kX8_alone : List xE := [(0, [], .iload_n 1, 1, 0, .null), (1, [], .invokestatic 170, 126, 1, .null), (4, [], .ifCond .ne 10, 0, 14, .null), (7, [], .aload_n 0, 0, 0, .null), (8, [], .ldc 51, 0, 0, .int (-1000001)), (10, [], .invokevirtual 52, 121, 2, .ref 7), (13, [], .ireturn, 0, 0, .null), (14, [], .aload_n 0, 0, 0, .null), (15, [], .getfield 12, 7, 0, .null), (18, [], .iload_n 1, 1, 0, .null), (19, [], .invokevirtual 192, 52, 2, .ref 4), (22, [], .aload_n 0, 0, 0, .null), (23, [], .getfield 12, 7, 0, .null), (26, [], .getfield 195, 4, 2, .null), (29, [], .iload_n 1, 1, 0, .null), (30, [], .invokestatic 199, 133, 1, .null), (33, [], .invokevirtual 202, 10, 2, .ref 0), (36, [], .ior, 0, 0, .null), (37, [], .istore_n 2, 2, 0, .null), (38, [], .sipush 1023, 0, 0, .int 1023), (41, [], .iload_n 2, 2, 0, .null), (42, [], .iconst (-1), 0, 0, .int (-1)), (43, [], .ixor, 0, 0, .null), (44, [], .iand, 0, 0, .null), (45, [], .ireturn, 0, 0, .null)]
abbrev jX8_full : Nat := 93
def kX8_full : List xE := [(0, [], .iload_n 1, 1, 0, .null), (1, [], .invokestatic 47, 123, 1, .null), (4, [], .ifCond .eq 10, 0, 14, .null), (7, [], .iload_n 2, 2, 0, .null), (8, [], .invokestatic 80, 124, 1, .null), (11, [], .ifCond .ne 10, 0, 21, .null), (14, [], .aload_n 0, 0, 0, .null), (15, [], .ldc 51, 0, 0, .int (-1000001)), (17, [], .invokevirtual 52, 121, 2, .ref 7), (20, [], .ireturn, 0, 0, .null), (21, [], .iconst 0, 0, 0, .int 0), (22, [], .istore_n 3, 3, 0, .null), (23, [], .iconst 0, 0, 0, .int 0), (24, [], .istore 4, 4, 0, .null), (26, [true, true, true, true, true], .iload 4, 4, 0, .null), (28, [], .aload_n 0, 0, 0, .null), (29, [], .getfield 12, 7, 0, .null), (32, [], .getfield 110, 4, 1, .null), (35, [], .getfield 207, 2, 0, .int 0), (38, [], .if_icmp .ge 41, 0, 79, .null), (41, [], .aload_n 0, 0, 0, .null), (42, [], .getfield 12, 7, 0, .null), (45, [], .iload 4, 4, 0, .null), (47, [], .iload_n 1, 1, 0, .null), (48, [], .iload_n 2, 2, 0, .null), (49, [], .invokevirtual 210, 50, 4, .ref 4), (52, [], .ifCond .eq 21, 0, 73, .null), (55, [], .iload_n 3, 3, 0, .null), (56, [], .iconst 1, 0, 0, .int 1), (57, [], .aload_n 0, 0, 0, .null), (58, [], .getfield 12, 7, 0, .null), (61, [], .getfield 110, 4, 1, .null), (64, [], .getfield 140, 2, 5, .null), (67, [], .iload 4, 4, 0, .null), (69, [], .iaload, 0, 0, .null), (70, [], .ishl, 0, 0, .null), (71, [], .ior, 0, 0, .null), (72, [], .istore_n 3, 3, 0, .null), (73, [], .iinc 4 1, 4, 0, .int 1), (76, [], .goto (-50), 0, 26, .null), (79, [], .iload_n 3, 3, 0, .null), (80, [], .invokestatic 214, 229, 1, .null), (83, [], .ireturn, 0, 0, .null)]
abbrev jX8_person : Nat := 94
def kX8_person : List xE := [(0, [], .iload_n 2, 2, 0, .null), (1, [], .invokestatic 47, 123, 1, .null), (4, [], .ifCond .ne 8, 0, 12, .null), (7, [], .iload_n 2, 2, 0, .null), (8, [], .iconst (-1), 0, 0, .int (-1)), (9, [], .if_icmp .ne 7, 0, 16, .null), (12, [], .iconst 1, 0, 0, .int 1), (13, [], .goto 4, 0, 17, .null), (16, [], .iconst 0, 0, 0, .int 0), (17, [], .istore 5, 5, 0, .null), (19, [], .iload_n 1, 1, 0, .null), (20, [], .invokestatic 218, 129, 1, .null), (23, [], .ifCond .eq 29, 0, 52, .null), (26, [], .iload 5, 5, 0, .null), (28, [], .ifCond .eq 24, 0, 52, .null), (31, [], .iload_n 3, 3, 0, .null), (32, [], .invokestatic 107, 125, 1, .null), (35, [], .ifCond .eq 17, 0, 52, .null), (38, [], .iload 4, 4, 0, .null), (40, [], .invokestatic 107, 125, 1, .null), (43, [], .ifCond .eq 9, 0, 52, .null), (46, [], .iload 4, 4, 0, .null), (48, [], .iload_n 3, 3, 0, .null), (49, [], .if_icmp .ge 10, 0, 59, .null), (52, [], .aload_n 0, 0, 0, .null), (53, [], .ldc 51, 0, 0, .int (-1000001)), (55, [], .invokevirtual 52, 121, 2, .ref 7), (58, [], .ireturn, 0, 0, .null), (59, [], .aload_n 0, 0, 0, .null), (60, [], .getfield 12, 7, 0, .null), (63, [], .getfield 195, 4, 2, .null), (66, [], .iload_n 1, 1, 0, .null), (67, [], .iload_n 2, 2, 0, .null), (68, [], .iload_n 3, 3, 0, .null), (69, [], .iload 4, 4, 0, .null), (71, [], .invokevirtual 221, 9, 5, .ref 0), (74, [], .iconst 1, 0, 0, .int 1), (75, [], .ireturn, 0, 0, .null)]
abbrev jX8_where : Nat := 95
def kX8_where : List xE := [(0, [], .iload_n 1, 1, 0, .null), (1, [], .invokestatic 218, 129, 1, .null), (4, [], .ifCond .eq 10, 0, 14, .null), (7, [], .iload_n 2, 2, 0, .null), (8, [], .invokestatic 107, 125, 1, .null), (11, [], .ifCond .ne 10, 0, 21, .null), (14, [], .aload_n 0, 0, 0, .null), (15, [], .ldc 51, 0, 0, .int (-1000001)), (17, [], .invokevirtual 52, 121, 2, .ref 7), (20, [], .ireturn, 0, 0, .null), (21, [], .aload_n 0, 0, 0, .null), (22, [], .getfield 12, 7, 0, .null), (25, [], .getfield 195, 4, 2, .null), (28, [], .iload_n 1, 1, 0, .null), (29, [], .iload_n 2, 2, 0, .null), (30, [], .invokevirtual 224, 8, 3, .ref 0), (33, [], .ireturn, 0, 0, .null)]
abbrev jX8_hears : Nat := 96
def kX8_hears : List xE := [(0, [], .iload_n 1, 1, 0, .null), (1, [], .invokestatic 218, 129, 1, .null), (4, [], .ifCond .eq 10, 0, 14, .null), (7, [], .iload_n 2, 2, 0, .null), (8, [], .invokestatic 80, 124, 1, .null), (11, [], .ifCond .ne 10, 0, 21, .null), (14, [], .aload_n 0, 0, 0, .null), (15, [], .ldc 51, 0, 0, .int (-1000001)), (17, [], .invokevirtual 52, 121, 2, .ref 7), (20, [], .ireturn, 0, 0, .null), (21, [], .iconst 0, 0, 0, .int 0), (22, [], .istore_n 3, 3, 0, .null), (23, [], .iconst 0, 0, 0, .int 0), (24, [], .istore 4, 4, 0, .null), (26, [true, true, true, true, true], .iload 4, 4, 0, .null), (28, [], .aload_n 0, 0, 0, .null), (29, [], .getfield 12, 7, 0, .null), (32, [], .getfield 110, 4, 1, .null), (35, [], .getfield 207, 2, 0, .int 0), (38, [], .if_icmp .ge 26, 0, 64, .null), (41, [], .aload_n 0, 0, 0, .null), (42, [], .getfield 12, 7, 0, .null), (45, [], .iload_n 1, 1, 0, .null), (46, [], .iload 4, 4, 0, .null), (48, [], .iload_n 2, 2, 0, .null), (49, [], .invokevirtual 227, 56, 4, .ref 4), (52, [], .ifCond .eq 6, 0, 58, .null), (55, [], .iinc 3 1, 3, 0, .int 1), (58, [], .iinc 4 1, 4, 0, .int 1), (61, [], .goto (-35), 0, 26, .null), (64, [], .iload_n 3, 3, 0, .null), (65, [], .ireturn, 0, 0, .null)]
abbrev jX8_first : Nat := 97
def kX8_first : List xE := [(0, [], .iload_n 1, 1, 0, .null), (1, [], .invokestatic 218, 129, 1, .null), (4, [], .ifCond .eq 10, 0, 14, .null), (7, [], .iload_n 2, 2, 0, .null), (8, [], .invokestatic 101, 127, 1, .null), (11, [], .ifCond .ne 10, 0, 21, .null), (14, [], .aload_n 0, 0, 0, .null), (15, [], .ldc 51, 0, 0, .int (-1000001)), (17, [], .invokevirtual 52, 121, 2, .ref 7), (20, [], .ireturn, 0, 0, .null), (21, [], .aload_n 0, 0, 0, .null), (22, [], .getfield 12, 7, 0, .null), (25, [], .getfield 75, 4, 5, .int 0), (28, [], .iconst 1, 0, 0, .int 1), (29, [], .iadd, 0, 0, .null), (30, [], .istore_n 3, 3, 0, .null), (31, [], .iconst 0, 0, 0, .int 0), (32, [], .istore 4, 4, 0, .null), (34, [true, true, true, true, true], .iload 4, 4, 0, .null), (36, [], .aload_n 0, 0, 0, .null), (37, [], .getfield 12, 7, 0, .null), (40, [], .getfield 110, 4, 1, .null), (43, [], .getfield 207, 2, 0, .int 0), (46, [], .if_icmp .ge 42, 0, 88, .null), (49, [], .aload_n 0, 0, 0, .null), (50, [], .getfield 12, 7, 0, .null), (53, [], .getfield 110, 4, 1, .null), (56, [], .getfield 131, 2, 2, .null), (59, [], .iload 4, 4, 0, .null), (61, [], .iaload, 0, 0, .null), (62, [], .iload_n 2, 2, 0, .null), (63, [], .if_icmp .ne 19, 0, 82, .null), (66, [], .aload_n 0, 0, 0, .null), (67, [], .getfield 12, 7, 0, .null), (70, [], .iload_n 1, 1, 0, .null), (71, [], .iload 4, 4, 0, .null), (73, [], .iload_n 3, 3, 0, .null), (74, [], .invokevirtual 227, 56, 4, .ref 4), (77, [], .ifCond .eq 5, 0, 82, .null), (80, [], .iload_n 3, 3, 0, .null), (81, [], .ireturn, 0, 0, .null), (82, [], .iinc 4 1, 4, 0, .int 1), (85, [], .goto (-51), 0, 34, .null), (88, [], .aload_n 0, 0, 0, .null), (89, [], .ldc 74, 0, 0, .int (-1000004)), (91, [], .invokevirtual 52, 121, 2, .ref 7), (94, [], .ireturn, 0, 0, .null)]
abbrev jX8_who : Nat := 98
def kX8_who : List xE := [(0, [], .aload_n 0, 0, 0, .null), (1, [], .iload_n 1, 1, 0, .null), (2, [], .invokevirtual 125, 122, 2, .ref 7), (5, [], .ifCond .ne 10, 0, 15, .null), (8, [], .aload_n 0, 0, 0, .null), (9, [], .ldc 51, 0, 0, .int (-1000001)), (11, [], .invokevirtual 52, 121, 2, .ref 7), (14, [], .ireturn, 0, 0, .null), (15, [], .aload_n 0, 0, 0, .null), (16, [], .getfield 12, 7, 0, .null), (19, [], .getfield 110, 4, 1, .null), (22, [], .getfield 143, 2, 6, .null), (25, [], .iload_n 1, 1, 0, .null), (26, [], .iaload, 0, 0, .null), (27, [], .iconst 1, 0, 0, .int 1), (28, [], .iadd, 0, 0, .null), (29, [], .istore_n 2, 2, 0, .null), (30, [], .iconst 0, 0, 0, .int 0), (31, [], .istore_n 3, 3, 0, .null), (32, [], .iconst 0, 0, 0, .int 0), (33, [], .istore 4, 4, 0, .null), (35, [true, true, true, true, true], .iload 4, 4, 0, .null), (37, [], .bipush 6, 0, 0, .int 6), (39, [], .if_icmp .ge 30, 0, 69, .null), (42, [], .aload_n 0, 0, 0, .null), (43, [], .getfield 12, 7, 0, .null), (46, [], .iload 4, 4, 0, .null), (48, [], .iload_n 1, 1, 0, .null), (49, [], .iload_n 2, 2, 0, .null), (50, [], .invokevirtual 227, 56, 4, .ref 4), (53, [], .ifCond .eq 10, 0, 63, .null), (56, [], .iload_n 3, 3, 0, .null), (57, [], .iconst 1, 0, 0, .int 1), (58, [], .iload 4, 4, 0, .null), (60, [], .ishl, 0, 0, .null), (61, [], .ior, 0, 0, .null), (62, [], .istore_n 3, 3, 0, .null), (63, [], .iinc 4 1, 4, 0, .int 1), (66, [], .goto (-31), 0, 35, .null), (69, [], .iload_n 3, 3, 0, .null), (70, [], .ireturn, 0, 0, .null)]
abbrev jX8_said : Nat := 99
def kX8_said : List xE := [(0, [], .aload_n 0, 0, 0, .null), (1, [], .iload_n 1, 1, 0, .null), (2, [], .invokevirtual 125, 122, 2, .ref 7), (5, [], .ifCond .ne 10, 0, 15, .null), (8, [], .aload_n 0, 0, 0, .null), (9, [], .ldc 51, 0, 0, .int (-1000001)), (11, [], .invokevirtual 52, 121, 2, .ref 7), (14, [], .ireturn, 0, 0, .null), (15, [], .aload_n 0, 0, 0, .null), (16, [], .getfield 12, 7, 0, .null), (19, [], .getfield 110, 4, 1, .null), (22, [], .getfield 140, 2, 5, .null), (25, [], .iload_n 1, 1, 0, .null), (26, [], .iaload, 0, 0, .null), (27, [], .istore_n 2, 2, 0, .null), (28, [], .iconst 0, 0, 0, .int 0), (29, [], .istore_n 3, 3, 0, .null), (30, [], .iconst 0, 0, 0, .int 0), (31, [], .istore 4, 4, 0, .null), (33, [true, true, true, true, true], .iload 4, 4, 0, .null), (35, [], .bipush 6, 0, 0, .int 6), (37, [], .if_icmp .ge 44, 0, 81, .null), (40, [], .aload_n 0, 0, 0, .null), (41, [], .getfield 12, 7, 0, .null), (44, [], .getfield 195, 4, 2, .null), (47, [], .iload 4, 4, 0, .null), (49, [], .iload_n 2, 2, 0, .null), (50, [], .invokevirtual 224, 8, 3, .ref 0), (53, [], .aload_n 0, 0, 0, .null), (54, [], .getfield 12, 7, 0, .null), (57, [], .getfield 110, 4, 1, .null), (60, [], .getfield 137, 2, 4, .null), (63, [], .iload_n 1, 1, 0, .null), (64, [], .iaload, 0, 0, .null), (65, [], .if_icmp .ne 10, 0, 75, .null), (68, [], .iload_n 3, 3, 0, .null), (69, [], .iconst 1, 0, 0, .int 1), (70, [], .iload 4, 4, 0, .null), (72, [], .ishl, 0, 0, .null), (73, [], .ior, 0, 0, .null), (74, [], .istore_n 3, 3, 0, .null), (75, [], .iinc 4 1, 4, 0, .int 1), (78, [], .goto (-45), 0, 33, .null), (81, [], .iload_n 3, 3, 0, .null), (82, [], .ireturn, 0, 0, .null)]
abbrev jX8_tell : Nat := 100
def kX8_tell : List xE := [(0, [], .iload_n 1, 1, 0, .null), (1, [], .invokestatic 218, 129, 1, .null), (4, [], .ifCond .eq 15, 0, 19, .null), (7, [], .iload_n 2, 2, 0, .null), (8, [], .invokestatic 218, 129, 1, .null), (11, [], .ifCond .eq 8, 0, 19, .null), (14, [], .iload_n 1, 1, 0, .null), (15, [], .iload_n 2, 2, 0, .null), (16, [], .if_icmp .ne 10, 0, 26, .null), (19, [], .aload_n 0, 0, 0, .null), (20, [], .ldc 51, 0, 0, .int (-1000001)), (22, [], .invokevirtual 52, 121, 2, .ref 7), (25, [], .ireturn, 0, 0, .null), (26, [], .iconst 0, 0, 0, .int 0), (27, [], .istore_n 3, 3, 0, .null), (28, [true, true, true, true, false], .iload_n 3, 3, 0, .null), (29, [], .bipush 24, 0, 0, .int 24), (31, [], .if_icmp .ge 58, 0, 89, .null), (34, [], .aload_n 0, 0, 0, .null), (35, [], .getfield 12, 7, 0, .null), (38, [], .getfield 195, 4, 2, .null), (41, [], .iload_n 1, 1, 0, .null), (42, [], .iload_n 3, 3, 0, .null), (43, [], .invokevirtual 224, 8, 3, .ref 0), (46, [], .istore 4, 4, 0, .null), (48, [], .iload 4, 4, 0, .null), (50, [], .iconst (-1), 0, 0, .int (-1)), (51, [], .if_icmp .eq 32, 0, 83, .null), (54, [], .iload 4, 4, 0, .null), (56, [], .aload_n 0, 0, 0, .null), (57, [], .getfield 12, 7, 0, .null), (60, [], .getfield 195, 4, 2, .null), (63, [], .iload_n 2, 2, 0, .null), (64, [], .iload_n 3, 3, 0, .null), (65, [], .invokevirtual 224, 8, 3, .ref 0), (68, [], .if_icmp .eq 15, 0, 83, .null), (71, [], .sipush 10000, 0, 0, .int 10000), (74, [], .bipush 100, 0, 0, .int 100), (76, [], .iload_n 3, 3, 0, .null), (77, [], .imul, 0, 0, .null), (78, [], .iadd, 0, 0, .null), (79, [], .iload 4, 4, 0, .null), (81, [], .iadd, 0, 0, .null), (82, [], .ireturn, 0, 0, .null), (83, [], .iinc 3 1, 3, 0, .int 1), (86, [], .goto (-58), 0, 28, .null), (89, [], .aload_n 0, 0, 0, .null), (90, [], .ldc 74, 0, 0, .int (-1000004)), (92, [], .invokevirtual 52, 121, 2, .ref 7), (95, [], .ireturn, 0, 0, .null)]
abbrev jX8_needs : Nat := 101
def kX8_needs : List xE := [(0, [], .iload_n 1, 1, 0, .null), (1, [], .invokestatic 80, 124, 1, .null), (4, [], .ifCond .ne 10, 0, 14, .null), (7, [], .aload_n 0, 0, 0, .null), (8, [], .ldc 51, 0, 0, .int (-1000001)), (10, [], .invokevirtual 52, 121, 2, .ref 7), (13, [], .ireturn, 0, 0, .null), (14, [], .iload_n 1, 1, 0, .null), (15, [], .aload_n 0, 0, 0, .null), (16, [], .getfield 12, 7, 0, .null), (19, [], .getfield 75, 4, 5, .int 0), (22, [], .if_icmp .gt 10, 0, 32, .null), (25, [], .aload_n 0, 0, 0, .null), (26, [], .ldc 79, 0, 0, .int (-1000005)), (28, [], .invokevirtual 52, 121, 2, .ref 7), (31, [], .ireturn, 0, 0, .null), (32, [], .aload_n 0, 0, 0, .null), (33, [], .getfield 12, 7, 0, .null), (36, [], .getfield 75, 4, 5, .int 0), (39, [], .istore_n 2, 2, 0, .null), (40, [], .iconst 0, 0, 0, .int 0), (41, [], .istore_n 3, 3, 0, .null), (42, [true, true, true, true, false], .iload_n 2, 2, 0, .null), (43, [], .iload_n 1, 1, 0, .null), (44, [], .if_icmp .ge 41, 0, 85, .null), (47, [], .iload_n 3, 3, 0, .null), (48, [], .bipush 100, 0, 0, .int 100), (50, [], .if_icmp .ge 35, 0, 85, .null), (53, [], .aload_n 0, 0, 0, .null), (54, [], .getfield 12, 7, 0, .null), (57, [], .iload_n 2, 2, 0, .null), (58, [], .invokevirtual 230, 55, 2, .ref 4), (61, [], .istore 4, 4, 0, .null), (63, [], .iload 4, 4, 0, .null), (65, [], .iload_n 2, 2, 0, .null), (66, [], .if_icmp .gt 10, 0, 76, .null), (69, [], .aload_n 0, 0, 0, .null), (70, [], .ldc 74, 0, 0, .int (-1000004)), (72, [], .invokevirtual 52, 121, 2, .ref 7), (75, [], .ireturn, 0, 0, .null), (76, [], .iload 4, 4, 0, .null), (78, [], .istore_n 2, 2, 0, .null), (79, [], .iinc 3 1, 3, 0, .int 1), (82, [], .goto (-40), 0, 42, .null), (85, [], .iload_n 3, 3, 0, .null), (86, [], .ireturn, 0, 0, .null)]
abbrev jX8_walk : Nat := 102
def kX8_walk : List xE := [(0, [], .iload_n 1, 1, 0, .null), (1, [], .invokestatic 47, 123, 1, .null), (4, [], .ifCond .eq 32, 0, 36, .null), (7, [], .iload_n 2, 2, 0, .null), (8, [], .invokestatic 170, 126, 1, .null), (11, [], .ifCond .eq 25, 0, 36, .null), (14, [], .iload_n 3, 3, 0, .null), (15, [], .iconst 1, 0, 0, .int 1), (16, [], .if_icmp .lt 20, 0, 36, .null), (19, [], .iload_n 3, 3, 0, .null), (20, [], .bipush 24, 0, 0, .int 24), (22, [], .if_icmp .gt 14, 0, 36, .null), (25, [], .iload_n 2, 2, 0, .null), (26, [], .invokestatic 199, 133, 1, .null), (29, [], .iload_n 3, 3, 0, .null), (30, [], .iadd, 0, 0, .null), (31, [], .bipush 24, 0, 0, .int 24), (33, [], .if_icmp .le 10, 0, 43, .null), (36, [], .aload_n 0, 0, 0, .null), (37, [], .ldc 51, 0, 0, .int (-1000001)), (39, [], .invokevirtual 52, 121, 2, .ref 7), (42, [], .ireturn, 0, 0, .null), (43, [], .aload_n 0, 0, 0, .null), (44, [], .getfield 38, 7, 6, .null), (47, [], .aload_n 0, 0, 0, .null), (48, [], .getfield 12, 7, 0, .null), (51, [], .iload_n 1, 1, 0, .null), (52, [], .iload_n 2, 2, 0, .null), (53, [], .iload_n 3, 3, 0, .null), (54, [], .invokevirtual 233, 58, 5, .ref 5), (57, [], .ireturn, 0, 0, .null)]
abbrev jX8_step : Nat := 103
def kX8_step : List xE := [(0, [], .iload_n 1, 1, 0, .null), (1, [], .ifCond .lt 9, 0, 10, .null), (4, [], .iload_n 1, 1, 0, .null), (5, [], .bipush 24, 0, 0, .int 24), (7, [], .if_icmp .lt 10, 0, 17, .null), (10, [], .aload_n 0, 0, 0, .null), (11, [], .ldc 51, 0, 0, .int (-1000001)), (13, [], .invokevirtual 52, 121, 2, .ref 7), (16, [], .ireturn, 0, 0, .null), (17, [], .iload_n 1, 1, 0, .null), (18, [], .aload_n 0, 0, 0, .null), (19, [], .getfield 38, 7, 6, .null), (22, [], .getfield 237, 5, 0, .int 0), (25, [], .if_icmp .ge 15, 0, 40, .null), (28, [], .aload_n 0, 0, 0, .null), (29, [], .getfield 38, 7, 6, .null), (32, [], .getfield 240, 5, 1, .null), (35, [], .iload_n 1, 1, 0, .null), (36, [], .iaload, 0, 0, .null), (37, [], .goto 9, 0, 46, .null), (40, [], .aload_n 0, 0, 0, .null), (41, [], .ldc 74, 0, 0, .int (-1000004)), (43, [], .invokevirtual 52, 121, 2, .ref 7), (46, [], .ireturn, 0, 0, .null)]
abbrev jX8_crowd : Nat := 104
def kX8_crowd : List xE := [(0, [], .iconst 0, 0, 0, .int 0), (1, [], .istore_n 1, 1, 0, .null), (2, [], .iconst 0, 0, 0, .int 0), (3, [], .istore_n 2, 2, 0, .null), (4, [], .iconst 0, 0, 0, .int 0), (5, [], .istore_n 3, 3, 0, .null), (6, [true, true, true, true, false, false], .iload_n 3, 3, 0, .null), (7, [], .bipush 24, 0, 0, .int 24), (9, [], .if_icmp .ge 57, 0, 66, .null), (12, [], .iconst 0, 0, 0, .int 0), (13, [], .istore 4, 4, 0, .null), (15, [true, true, true, true, true, false], .iload 4, 4, 0, .null), (17, [], .bipush 10, 0, 0, .int 10), (19, [], .if_icmp .ge 41, 0, 60, .null), (22, [], .aload_n 0, 0, 0, .null), (23, [], .getfield 12, 7, 0, .null), (26, [], .getfield 195, 4, 2, .null), (29, [], .iload 4, 4, 0, .null), (31, [], .iload_n 3, 3, 0, .null), (32, [], .invokevirtual 243, 11, 3, .ref 0), (35, [], .istore 5, 5, 0, .null), (37, [], .iload 5, 5, 0, .null), (39, [], .iload_n 1, 1, 0, .null), (40, [], .if_icmp .le 14, 0, 54, .null), (43, [], .iload 5, 5, 0, .null), (45, [], .istore_n 1, 1, 0, .null), (46, [], .bipush 100, 0, 0, .int 100), (48, [], .iload_n 3, 3, 0, .null), (49, [], .imul, 0, 0, .null), (50, [], .iload 4, 4, 0, .null), (52, [], .iadd, 0, 0, .null), (53, [], .istore_n 2, 2, 0, .null), (54, [], .iinc 4 1, 4, 0, .int 1), (57, [], .goto (-42), 0, 15, .null), (60, [], .iinc 3 1, 3, 0, .int 1), (63, [], .goto (-57), 0, 6, .null), (66, [], .iload_n 1, 1, 0, .null), (67, [], .ifCond .ne 12, 0, 79, .null), (70, [], .aload_n 0, 0, 0, .null), (71, [], .ldc 74, 0, 0, .int (-1000004)), (73, [], .invokevirtual 52, 121, 2, .ref 7), (76, [], .goto 4, 0, 80, .null), (79, [], .iload_n 2, 2, 0, .null), (80, [], .ireturn, 0, 0, .null)]
abbrev jX8_seed : Nat := 105
def kX8_seed : List xE := [(0, [], .aload_n 0, 0, 0, .null), (1, [], .getfield 12, 7, 0, .null), (4, [], .getfield 246, 4, 7, .int 0), (7, [], .istore_n 2, 2, 0, .null), (8, [], .aload_n 0, 0, 0, .null), (9, [], .getfield 12, 7, 0, .null), (12, [], .iload_n 1, 1, 0, .null), (13, [], .putfield 246, 4, 7, .int 0), (16, [], .iload_n 2, 2, 0, .null), (17, [], .ireturn, 0, 0, .null)]
abbrev jX8_feed : Nat := 106
def kX8_feed : List xE := [(0, [], .iload_n 2, 2, 0, .null), (1, [], .iconst 1, 0, 0, .int 1), (2, [], .if_icmp .lt 8, 0, 10, .null), (5, [], .iload_n 2, 2, 0, .null), (6, [], .iconst 4, 0, 0, .int 4), (7, [], .if_icmp .le 10, 0, 17, .null), (10, [], .aload_n 0, 0, 0, .null), (11, [], .ldc 51, 0, 0, .int (-1000001)), (13, [], .invokevirtual 52, 121, 2, .ref 7), (16, [], .ireturn, 0, 0, .null), (17, [], .aload_n 0, 0, 0, .null), (18, [], .getfield 25, 7, 4, .null), (21, [], .getfield 249, 1, 0, .int 0), (24, [], .iload_n 2, 2, 0, .null), (25, [], .iadd, 0, 0, .null), (26, [], .bipush 120, 0, 0, .int 120), (28, [], .if_icmp .le 10, 0, 38, .null), (31, [], .aload_n 0, 0, 0, .null), (32, [], .ldc 120, 0, 0, .int (-1000002)), (34, [], .invokevirtual 52, 121, 2, .ref 7), (37, [], .ireturn, 0, 0, .null), (38, [], .aload_n 0, 0, 0, .null), (39, [], .getfield 25, 7, 4, .null), (42, [], .iload_n 1, 1, 0, .null), (43, [], .iload_n 2, 2, 0, .null), (44, [], .invokevirtual 250, 13, 3, .ref 1), (47, [], .aload_n 0, 0, 0, .null), (48, [], .getfield 25, 7, 4, .null), (51, [], .getfield 249, 1, 0, .int 0), (54, [], .ireturn, 0, 0, .null)]
abbrev jX8_wipe : Nat := 107
def kX8_wipe : List xE := [(0, [], .aload_n 0, 0, 0, .null), (1, [], .getfield 25, 7, 4, .null), (4, [], .invokevirtual 253, 14, 1, .ref 1), (7, [], .ireturn, 0, 0, .null)]
abbrev jX8_text : Nat := 108
def kX8_text : List xE := [(0, [], .aload_n 0, 0, 0, .null), (1, [], .getfield 19, 7, 2, .null), (4, [], .aload_n 0, 0, 0, .null), (5, [], .getfield 12, 7, 0, .null), (8, [], .invokevirtual 256, 43, 2, .ref 4), (11, [], .aload_n 0, 0, 0, .null), (12, [], .getfield 25, 7, 4, .null), (15, [], .aload_n 0, 0, 0, .null), (16, [], .getfield 19, 7, 2, .null), (19, [], .invokevirtual 260, 15, 2, .ref 1), (22, [], .istore_n 1, 1, 0, .null), (23, [], .iload_n 1, 1, 0, .null), (24, [], .ifCond .lt 14, 0, 38, .null), (27, [], .aload_n 0, 0, 0, .null), (28, [], .getfield 12, 7, 0, .null), (31, [], .aload_n 0, 0, 0, .null), (32, [], .getfield 19, 7, 2, .null), (35, [], .invokevirtual 256, 43, 2, .ref 4), (38, [], .aload_n 0, 0, 0, .null), (39, [], .getfield 25, 7, 4, .null), (42, [], .invokevirtual 253, 14, 1, .ref 1), (45, [], .pop, 0, 0, .null), (46, [], .iload_n 1, 1, 0, .null), (47, [], .ireturn, 0, 0, .null)]
abbrev jX8_hold : Nat := 109
def kX8_hold : List xE := [(0, [], .iload_n 1, 1, 0, .null), (1, [], .invokestatic 264, 130, 1, .null), (4, [], .ifCond .eq 16, 0, 20, .null), (7, [], .aload_n 0, 0, 0, .null), (8, [], .iload_n 2, 2, 0, .null), (9, [], .invokevirtual 125, 122, 2, .ref 7), (12, [], .ifCond .ne 15, 0, 27, .null), (15, [], .iload_n 2, 2, 0, .null), (16, [], .iconst (-1), 0, 0, .int (-1)), (17, [], .if_icmp .eq 10, 0, 27, .null), (20, [], .aload_n 0, 0, 0, .null), (21, [], .ldc 51, 0, 0, .int (-1000001)), (23, [], .invokevirtual 52, 121, 2, .ref 7), (26, [], .ireturn, 0, 0, .null), (27, [], .aload_n 0, 0, 0, .null), (28, [], .getfield 12, 7, 0, .null), (31, [], .getfield 267, 4, 4, .null), (34, [], .iload_n 1, 1, 0, .null), (35, [], .iload_n 2, 2, 0, .null), (36, [], .iastore, 0, 0, .null), (37, [], .iconst 1, 0, 0, .int 1), (38, [], .ireturn, 0, 0, .null)]
abbrev jX8_as : Nat := 110
def kX8_as : List xE := [(0, [], .iload_n 1, 1, 0, .null), (1, [], .invokestatic 264, 130, 1, .null), (4, [], .ifCond .eq 10, 0, 14, .null), (7, [], .iload_n 2, 2, 0, .null), (8, [], .invokestatic 96, 0, 1, .null), (11, [], .ifCond .ne 10, 0, 21, .null), (14, [], .aload_n 0, 0, 0, .null), (15, [], .ldc 51, 0, 0, .int (-1000001)), (17, [], .invokevirtual 52, 121, 2, .ref 7), (20, [], .ireturn, 0, 0, .null), (21, [], .aload_n 0, 0, 0, .null), (22, [], .getfield 12, 7, 0, .null), (25, [], .getfield 267, 4, 4, .null), (28, [], .iload_n 1, 1, 0, .null), (29, [], .iaload, 0, 0, .null), (30, [], .istore_n 3, 3, 0, .null), (31, [], .aload_n 0, 0, 0, .null), (32, [], .iload_n 3, 3, 0, .null), (33, [], .invokevirtual 125, 122, 2, .ref 7), (36, [], .ifCond .ne 11, 0, 47, .null), (39, [], .aload_n 0, 0, 0, .null), (40, [], .ldc_w 270, 0, 0, .int (-1000006)), (43, [], .invokevirtual 52, 121, 2, .ref 7), (46, [], .ireturn, 0, 0, .null), (47, [], .aload_n 0, 0, 0, .null), (48, [], .getfield 12, 7, 0, .null), (51, [], .getfield 110, 4, 1, .null), (54, [], .getfield 128, 2, 1, .null), (57, [], .iload_n 3, 3, 0, .null), (58, [], .iaload, 0, 0, .null), (59, [], .iload_n 2, 2, 0, .null), (60, [], .invokestatic 271, 1, 2, .null), (63, [], .ifCond .eq 7, 0, 70, .null), (66, [], .iload_n 3, 3, 0, .null), (67, [], .goto 10, 0, 77, .null), (70, [], .aload_n 0, 0, 0, .null), (71, [], .ldc_w 274, 0, 0, .int (-1000003)), (74, [], .invokevirtual 52, 121, 2, .ref 7), (77, [], .ireturn, 0, 0, .null)]
abbrev jX8_sheet : Nat := 111
def kX8_sheet : List xE := [(0, [], .iload_n 1, 1, 0, .null), (1, [], .invokestatic 275, 131, 1, .null), (4, [], .ifCond .eq 10, 0, 14, .null), (7, [], .iload_n 2, 2, 0, .null), (8, [], .invokestatic 278, 37, 1, .null), (11, [], .ifCond .ne 10, 0, 21, .null), (14, [], .aload_n 0, 0, 0, .null), (15, [], .ldc 51, 0, 0, .int (-1000001)), (17, [], .invokevirtual 52, 121, 2, .ref 7), (20, [], .ireturn, 0, 0, .null), (21, [], .iload_n 3, 3, 0, .null), (22, [], .ifCond .ge 11, 0, 33, .null), (25, [], .aload_n 0, 0, 0, .null), (26, [], .ldc_w 281, 0, 0, .int (-1000007)), (29, [], .invokevirtual 52, 121, 2, .ref 7), (32, [], .ireturn, 0, 0, .null), (33, [], .iload_n 3, 3, 0, .null), (34, [], .bipush 40, 0, 0, .int 40), (36, [], .if_icmp .le 10, 0, 46, .null), (39, [], .aload_n 0, 0, 0, .null), (40, [], .ldc 51, 0, 0, .int (-1000001)), (42, [], .invokevirtual 52, 121, 2, .ref 7), (45, [], .ireturn, 0, 0, .null), (46, [], .aload_n 0, 0, 0, .null), (47, [], .getfield 31, 7, 5, .null), (50, [], .iload_n 1, 1, 0, .null), (51, [], .aaload, 0, 0, .null), (52, [], .iload_n 2, 2, 0, .null), (53, [], .iload_n 3, 3, 0, .null), (54, [], .invokevirtual 282, 39, 3, .ref 3), (57, [], .aload_n 0, 0, 0, .null), (58, [], .getfield 31, 7, 5, .null), (61, [], .iload_n 1, 1, 0, .null), (62, [], .aaload, 0, 0, .null), (63, [], .getfield 285, 3, 1, .int 0), (66, [], .ireturn, 0, 0, .null)]
abbrev jX8_write : Nat := 112
def kX8_write : List xE := [(0, [], .iload_n 1, 1, 0, .null), (1, [], .invokestatic 275, 131, 1, .null), (4, [], .ifCond .ne 10, 0, 14, .null), (7, [], .aload_n 0, 0, 0, .null), (8, [], .ldc 51, 0, 0, .int (-1000001)), (10, [], .invokevirtual 52, 121, 2, .ref 7), (13, [], .ireturn, 0, 0, .null), (14, [], .aload_n 0, 0, 0, .null), (15, [], .getfield 31, 7, 5, .null), (18, [], .iload_n 1, 1, 0, .null), (19, [], .aaload, 0, 0, .null), (20, [], .invokevirtual 288, 38, 1, .ref 3), (23, [], .ifCond .eq 11, 0, 34, .null), (26, [], .aload_n 0, 0, 0, .null), (27, [], .ldc_w 270, 0, 0, .int (-1000006)), (30, [], .invokevirtual 52, 121, 2, .ref 7), (33, [], .ireturn, 0, 0, .null), (34, [], .iload_n 2, 2, 0, .null), (35, [], .ifCond .lt 16, 0, 51, .null), (38, [], .iload_n 2, 2, 0, .null), (39, [], .aload_n 0, 0, 0, .null), (40, [], .getfield 31, 7, 5, .null), (43, [], .iload_n 1, 1, 0, .null), (44, [], .aaload, 0, 0, .null), (45, [], .getfield 285, 3, 1, .int 0), (48, [], .if_icmp .lt 10, 0, 58, .null), (51, [], .aload_n 0, 0, 0, .null), (52, [], .ldc 51, 0, 0, .int (-1000001)), (54, [], .invokevirtual 52, 121, 2, .ref 7), (57, [], .ireturn, 0, 0, .null), (58, [], .aload_n 0, 0, 0, .null), (59, [], .getfield 31, 7, 5, .null), (62, [], .iload_n 1, 1, 0, .null), (63, [], .aaload, 0, 0, .null), (64, [], .iload_n 2, 2, 0, .null), (65, [], .iload_n 3, 3, 0, .null), (66, [], .invokevirtual 291, 41, 3, .ref 3), (69, [], .iconst 1, 0, 0, .int 1), (70, [], .ireturn, 0, 0, .null)]
abbrev jX8_copy : Nat := 113
def kX8_copy : List xE := [(0, [], .iload_n 1, 1, 0, .null), (1, [], .invokestatic 275, 131, 1, .null), (4, [], .ifCond .eq 10, 0, 14, .null), (7, [], .iload_n 3, 3, 0, .null), (8, [], .invokestatic 275, 131, 1, .null), (11, [], .ifCond .ne 10, 0, 21, .null), (14, [], .aload_n 0, 0, 0, .null), (15, [], .ldc 51, 0, 0, .int (-1000001)), (17, [], .invokevirtual 52, 121, 2, .ref 7), (20, [], .ireturn, 0, 0, .null), (21, [], .aload_n 0, 0, 0, .null), (22, [], .getfield 31, 7, 5, .null), (25, [], .iload_n 1, 1, 0, .null), (26, [], .aaload, 0, 0, .null), (27, [], .astore 6, 6, 0, .null), (29, [], .aload_n 0, 0, 0, .null), (30, [], .getfield 31, 7, 5, .null), (33, [], .iload_n 3, 3, 0, .null), (34, [], .aaload, 0, 0, .null), (35, [], .astore 7, 7, 0, .null), (37, [], .aload 6, 6, 0, .null), (39, [], .invokevirtual 288, 38, 1, .ref 3), (42, [], .ifCond .ne 11, 0, 53, .null), (45, [], .aload 7, 7, 0, .null), (47, [], .invokevirtual 288, 38, 1, .ref 3), (50, [], .ifCond .eq 11, 0, 61, .null), (53, [], .aload_n 0, 0, 0, .null), (54, [], .ldc_w 270, 0, 0, .int (-1000006)), (57, [], .invokevirtual 52, 121, 2, .ref 7), (60, [], .ireturn, 0, 0, .null), (61, [], .aload 6, 6, 0, .null), (63, [], .getfield 293, 3, 0, .int 0), (66, [], .aload 7, 7, 0, .null), (68, [], .getfield 293, 3, 0, .int 0), (71, [], .if_icmp .eq 11, 0, 82, .null), (74, [], .aload_n 0, 0, 0, .null), (75, [], .ldc_w 274, 0, 0, .int (-1000003)), (78, [], .invokevirtual 52, 121, 2, .ref 7), (81, [], .ireturn, 0, 0, .null), (82, [], .aload 6, 6, 0, .null), (84, [], .iload_n 2, 2, 0, .null), (85, [], .iload 5, 5, 0, .null), (87, [], .invokevirtual 296, 40, 3, .ref 3), (90, [], .ifCond .eq 15, 0, 105, .null), (93, [], .aload 7, 7, 0, .null), (95, [], .iload 4, 4, 0, .null), (97, [], .iload 5, 5, 0, .null), (99, [], .invokevirtual 296, 40, 3, .ref 3), (102, [], .ifCond .ne 10, 0, 112, .null), (105, [], .aload_n 0, 0, 0, .null), (106, [], .ldc 51, 0, 0, .int (-1000001)), (108, [], .invokevirtual 52, 121, 2, .ref 7), (111, [], .ireturn, 0, 0, .null), (112, [], .aload 6, 6, 0, .null), (114, [], .getfield 299, 3, 2, .null), (117, [], .iload_n 2, 2, 0, .null), (118, [], .aload 7, 7, 0, .null), (120, [], .getfield 299, 3, 2, .null), (123, [], .iload 4, 4, 0, .null), (125, [], .iload 5, 5, 0, .null), (127, [], .invokestatic 302, 998, 5, .null), (130, [], .iload 5, 5, 0, .null), (132, [], .ireturn, 0, 0, .null)]
abbrev jX8_load : Nat := 114
def kX8_load : List xE := [(0, [], .iload_n 1, 1, 0, .null), (1, [], .invokestatic 275, 131, 1, .null), (4, [], .ifCond .ne 10, 0, 14, .null), (7, [], .aload_n 0, 0, 0, .null), (8, [], .ldc 51, 0, 0, .int (-1000001)), (10, [], .invokevirtual 52, 121, 2, .ref 7), (13, [], .ireturn, 0, 0, .null), (14, [], .aload_n 0, 0, 0, .null), (15, [], .getfield 31, 7, 5, .null), (18, [], .iload_n 1, 1, 0, .null), (19, [], .aaload, 0, 0, .null), (20, [], .astore_n 3, 3, 0, .null), (21, [], .aload_n 3, 3, 0, .null), (22, [], .invokevirtual 288, 38, 1, .ref 3), (25, [], .ifCond .eq 11, 0, 36, .null), (28, [], .aload_n 0, 0, 0, .null), (29, [], .ldc_w 270, 0, 0, .int (-1000006)), (32, [], .invokevirtual 52, 121, 2, .ref 7), (35, [], .ireturn, 0, 0, .null), (36, [], .iload_n 2, 2, 0, .null), (37, [], .invokestatic 218, 129, 1, .null), (40, [], .ifCond .ne 10, 0, 50, .null), (43, [], .aload_n 0, 0, 0, .null), (44, [], .ldc 51, 0, 0, .int (-1000001)), (46, [], .invokevirtual 52, 121, 2, .ref 7), (49, [], .ireturn, 0, 0, .null), (50, [], .aload_n 3, 3, 0, .null), (51, [], .getfield 285, 3, 1, .int 0), (54, [], .bipush 24, 0, 0, .int 24), (56, [], .invokestatic 308, 995, 2, .null), (59, [], .istore 4, 4, 0, .null), (61, [], .iconst 0, 0, 0, .int 0), (62, [], .istore 5, 5, 0, .null), (64, [true, false, true, true, true, true, false], .iload 5, 5, 0, .null), (66, [], .iload 4, 4, 0, .null), (68, [], .if_icmp .ge 52, 0, 120, .null), (71, [], .aload_n 3, 3, 0, .null), (72, [], .getfield 299, 3, 2, .null), (75, [], .iload 5, 5, 0, .null), (77, [], .iaload, 0, 0, .null), (78, [], .istore 6, 6, 0, .null), (80, [], .iload 6, 6, 0, .null), (82, [], .invokestatic 47, 123, 1, .null), (85, [], .ifCond .ne 12, 0, 97, .null), (88, [], .iload 6, 6, 0, .null), (90, [], .iconst (-1), 0, 0, .int (-1)), (91, [], .if_icmp .eq 6, 0, 97, .null), (94, [], .iload 5, 5, 0, .null), (96, [], .ireturn, 0, 0, .null), (97, [], .aload_n 0, 0, 0, .null), (98, [], .getfield 12, 7, 0, .null), (101, [], .getfield 195, 4, 2, .null), (104, [], .iload_n 2, 2, 0, .null), (105, [], .iload 6, 6, 0, .null), (107, [], .iload 5, 5, 0, .null), (109, [], .iload 5, 5, 0, .null), (111, [], .invokevirtual 221, 9, 5, .ref 0), (114, [], .iinc 5 1, 5, 0, .int 1), (117, [], .goto (-53), 0, 64, .null), (120, [], .iload 4, 4, 0, .null), (122, [], .ireturn, 0, 0, .null)]
abbrev jX8_judge : Nat := 115
def kX8_judge : List xE := [(0, [], .iload_n 1, 1, 0, .null), (1, [], .invokestatic 275, 131, 1, .null), (4, [], .ifCond .ne 10, 0, 14, .null), (7, [], .aload_n 0, 0, 0, .null), (8, [], .ldc 51, 0, 0, .int (-1000001)), (10, [], .invokevirtual 52, 121, 2, .ref 7), (13, [], .ireturn, 0, 0, .null), (14, [], .aload_n 0, 0, 0, .null), (15, [], .getfield 31, 7, 5, .null), (18, [], .iload_n 1, 1, 0, .null), (19, [], .aaload, 0, 0, .null), (20, [], .astore_n 3, 3, 0, .null), (21, [], .aload_n 3, 3, 0, .null), (22, [], .invokevirtual 288, 38, 1, .ref 3), (25, [], .ifCond .eq 11, 0, 36, .null), (28, [], .aload_n 0, 0, 0, .null), (29, [], .ldc_w 270, 0, 0, .int (-1000006)), (32, [], .invokevirtual 52, 121, 2, .ref 7), (35, [], .ireturn, 0, 0, .null), (36, [], .iload_n 2, 2, 0, .null), (37, [], .invokestatic 170, 126, 1, .null), (40, [], .ifCond .ne 10, 0, 50, .null), (43, [], .aload_n 0, 0, 0, .null), (44, [], .ldc 51, 0, 0, .int (-1000001)), (46, [], .invokevirtual 52, 121, 2, .ref 7), (49, [], .ireturn, 0, 0, .null), (50, [], .iconst 0, 0, 0, .int 0), (51, [], .istore 4, 4, 0, .null), (53, [true, false, true, true, true, false, false], .iload 4, 4, 0, .null), (55, [], .aload_n 3, 3, 0, .null), (56, [], .getfield 285, 3, 1, .int 0), (59, [], .if_icmp .ge 99, 0, 158, .null), (62, [], .aload_n 3, 3, 0, .null), (63, [], .getfield 299, 3, 2, .null), (66, [], .iload 4, 4, 0, .null), (68, [], .iaload, 0, 0, .null), (69, [], .istore 5, 5, 0, .null), (71, [], .iload 4, 4, 0, .null), (73, [], .ifCond .ne 8, 0, 81, .null), (76, [], .iload 5, 5, 0, .null), (78, [], .goto 12, 0, 90, .null), (81, [], .aload_n 3, 3, 0, .null), (82, [], .getfield 299, 3, 2, .null), (85, [], .iload 4, 4, 0, .null), (87, [], .iconst 1, 0, 0, .int 1), (88, [], .isub, 0, 0, .null), (89, [], .iaload, 0, 0, .null), (90, [], .istore 6, 6, 0, .null), (92, [], .iload 5, 5, 0, .null), (94, [], .invokestatic 47, 123, 1, .null), (97, [], .ifCond .eq 50, 0, 147, .null), (100, [], .aload_n 0, 0, 0, .null), (101, [], .getfield 12, 7, 0, .null), (104, [], .getfield 56, 4, 0, .null), (107, [], .iload 6, 6, 0, .null), (109, [], .iload 5, 5, 0, .null), (111, [], .invokevirtual 311, 68, 3, .ref 6), (114, [], .ifCond .eq 33, 0, 147, .null), (117, [], .iload_n 2, 2, 0, .null), (118, [], .invokestatic 199, 133, 1, .null), (121, [], .iload 4, 4, 0, .null), (123, [], .iadd, 0, 0, .null), (124, [], .bipush 24, 0, 0, .int 24), (126, [], .if_icmp .ge 21, 0, 147, .null), (129, [], .aload_n 0, 0, 0, .null), (130, [], .getfield 12, 7, 0, .null), (133, [], .iload 5, 5, 0, .null), (135, [], .iload_n 2, 2, 0, .null), (136, [], .iload 4, 4, 0, .null), (138, [], .iadd, 0, 0, .null), (139, [], .invokevirtual 173, 51, 3, .ref 4), (142, [], .lconst 0, 0, 0, .long 0), (143, [], .lcmp, 0, 0, .null), (144, [], .ifCond .ne 8, 0, 152, .null), (147, [], .iconst 1, 0, 0, .int 1), (148, [], .iload 4, 4, 0, .null), (150, [], .iadd, 0, 0, .null), (151, [], .ireturn, 0, 0, .null), (152, [], .iinc 4 1, 4, 0, .int 1), (155, [], .goto (-102), 0, 53, .null), (158, [], .iconst 0, 0, 0, .int 0), (159, [], .ireturn, 0, 0, .null)]
abbrev jX8_image : Nat := 116
def kX8_image : List xE := [(0, [], .aload_n 0, 0, 0, .null), (1, [], .getfield 16, 7, 1, .null), (4, [], .aload_n 0, 0, 0, .null), (5, [], .getfield 12, 7, 0, .null), (8, [], .invokevirtual 256, 43, 2, .ref 4), (11, [], .aload_n 0, 0, 0, .null), (12, [], .iconst 1, 0, 0, .int 1), (13, [], .putfield 314, 7, 3, .long 0), (16, [], .iconst 1, 0, 0, .int 1), (17, [], .ireturn, 0, 0, .null)]
abbrev jX8_undo : Nat := 117
def kX8_undo : List xE := [(0, [], .aload_n 0, 0, 0, .null), (1, [], .getfield 314, 7, 3, .long 0), (4, [], .ifCond .ne 10, 0, 14, .null), (7, [], .aload_n 0, 0, 0, .null), (8, [], .ldc 74, 0, 0, .int (-1000004)), (10, [], .invokevirtual 52, 121, 2, .ref 7), (13, [], .ireturn, 0, 0, .null), (14, [], .aload_n 0, 0, 0, .null), (15, [], .getfield 12, 7, 0, .null), (18, [], .aload_n 0, 0, 0, .null), (19, [], .getfield 16, 7, 1, .null), (22, [], .invokevirtual 256, 43, 2, .ref 4), (25, [], .aload_n 0, 0, 0, .null), (26, [], .getfield 12, 7, 0, .null), (29, [], .getfield 110, 4, 1, .null), (32, [], .getfield 207, 2, 0, .int 0), (35, [], .ireturn, 0, 0, .null)]
abbrev jX8_tear : Nat := 118
def kX8_tear : List xE := [(0, [], .aload_n 0, 0, 0, .null), (1, [], .getfield 314, 7, 3, .long 0), (4, [], .ifCond .eq 7, 0, 11, .null), (7, [], .iconst 1, 0, 0, .int 1), (8, [], .goto 4, 0, 12, .null), (11, [], .iconst 0, 0, 0, .int 0), (12, [], .istore_n 1, 1, 0, .null), (13, [], .aload_n 0, 0, 0, .null), (14, [], .iconst 0, 0, 0, .int 0), (15, [], .putfield 314, 7, 3, .long 0), (18, [], .iload_n 1, 1, 0, .null), (19, [], .ireturn, 0, 0, .null)]
abbrev jX8_count : Nat := 119
def kX8_count : List xE := [(0, [], .iload_n 1, 1, 0, .null), (1, [], .tableswitch 127 0 7 #[47, 55, 66, 77, 88, 96, 104, 112], 0, 0, .null), (48, [], .aload_n 0, 0, 0, .null), (49, [], .getfield 12, 7, 0, .null), (52, [], .getfield 75, 4, 5, .int 0), (55, [], .ireturn, 0, 0, .null), (56, [], .aload_n 0, 0, 0, .null), (57, [], .getfield 12, 7, 0, .null), (60, [], .getfield 110, 4, 1, .null), (63, [], .getfield 207, 2, 0, .int 0), (66, [], .ireturn, 0, 0, .null), (67, [], .aload_n 0, 0, 0, .null), (68, [], .getfield 12, 7, 0, .null), (71, [], .getfield 56, 4, 0, .null), (74, [], .invokevirtual 318, 69, 1, .ref 6), (77, [], .ireturn, 0, 0, .null), (78, [], .aload_n 0, 0, 0, .null), (79, [], .getfield 12, 7, 0, .null), (82, [], .iconst 0, 0, 0, .int 0), (83, [], .bipush 99, 0, 0, .int 99), (85, [], .invokevirtual 90, 45, 3, .ref 4), (88, [], .ireturn, 0, 0, .null), (89, [], .aload_n 0, 0, 0, .null), (90, [], .getfield 12, 7, 0, .null), (93, [], .getfield 93, 4, 6, .int 0), (96, [], .ireturn, 0, 0, .null), (97, [], .aload_n 0, 0, 0, .null), (98, [], .getfield 25, 7, 4, .null), (101, [], .getfield 249, 1, 0, .int 0), (104, [], .ireturn, 0, 0, .null), (105, [], .aload_n 0, 0, 0, .null), (106, [], .getfield 12, 7, 0, .null), (109, [], .getfield 246, 4, 7, .int 0), (112, [], .ireturn, 0, 0, .null), (113, [], .aload_n 0, 0, 0, .null), (114, [], .getfield 12, 7, 0, .null), (117, [], .aload_n 0, 0, 0, .null), (118, [], .getfield 12, 7, 0, .null), (121, [], .getfield 75, 4, 5, .int 0), (124, [], .invokevirtual 321, 53, 2, .ref 4), (127, [], .ireturn, 0, 0, .null), (128, [], .aload_n 0, 0, 0, .null), (129, [], .ldc 51, 0, 0, .int (-1000001)), (131, [], .invokevirtual 52, 121, 2, .ref 7), (134, [], .ireturn, 0, 0, .null)]
abbrev jX8_status : Nat := 120
def kX8_status : List xE := [(0, [], .iload_n 1, 1, 0, .null), (1, [], .iconst (-1), 0, 0, .int (-1)), (2, [], .if_icmp .lt 9, 0, 11, .null), (5, [], .iload_n 1, 1, 0, .null), (6, [], .bipush 7, 0, 0, .int 7), (8, [], .if_icmp .lt 10, 0, 18, .null), (11, [], .aload_n 0, 0, 0, .null), (12, [], .ldc 51, 0, 0, .int (-1000001)), (14, [], .invokevirtual 52, 121, 2, .ref 7), (17, [], .ireturn, 0, 0, .null), (18, [], .iload_n 1, 1, 0, .null), (19, [], .ifCond .lt 10, 0, 29, .null), (22, [], .aload_n 0, 0, 0, .null), (23, [], .getfield 42, 7, 7, .null), (26, [], .iload_n 1, 1, 0, .null), (27, [], .iaload, 0, 0, .null), (28, [], .ireturn, 0, 0, .null), (29, [], .iconst 0, 0, 0, .int 0), (30, [], .istore_n 2, 2, 0, .null), (31, [], .iconst 0, 0, 0, .int 0), (32, [], .istore_n 3, 3, 0, .null), (33, [true, false, true, true], .iload_n 3, 3, 0, .null), (34, [], .bipush 7, 0, 0, .int 7), (36, [], .if_icmp .ge 18, 0, 54, .null), (39, [], .iload_n 2, 2, 0, .null), (40, [], .aload_n 0, 0, 0, .null), (41, [], .getfield 42, 7, 7, .null), (44, [], .iload_n 3, 3, 0, .null), (45, [], .iaload, 0, 0, .null), (46, [], .iadd, 0, 0, .null), (47, [], .istore_n 2, 2, 0, .null), (48, [], .iinc 3 1, 3, 0, .int 1), (51, [], .goto (-18), 0, 33, .null), (54, [], .iload_n 2, 2, 0, .null), (55, [], .ireturn, 0, 0, .null)]
abbrev jX8_finding : Nat := 121
def kX8_finding : List xE := [(0, [], .ldc 51, 0, 0, .int (-1000001)), (2, [], .iload_n 1, 1, 0, .null), (3, [], .isub, 0, 0, .null), (4, [], .istore_n 2, 2, 0, .null), (5, [], .iload_n 2, 2, 0, .null), (6, [], .ifCond .lt 19, 0, 25, .null), (9, [], .iload_n 2, 2, 0, .null), (10, [], .bipush 7, 0, 0, .int 7), (12, [], .if_icmp .ge 13, 0, 25, .null), (15, [], .aload_n 0, 0, 0, .null), (16, [], .getfield 42, 7, 7, .null), (19, [], .iload_n 2, 2, 0, .null), (20, [], .dup2, 0, 0, .null), (21, [], .iaload, 0, 0, .null), (22, [], .iconst 1, 0, 0, .int 1), (23, [], .iadd, 0, 0, .null), (24, [], .iastore, 0, 0, .null), (25, [], .iload_n 1, 1, 0, .null), (26, [], .ireturn, 0, 0, .null)]
abbrev jX8_isSaying : Nat := 122
def kX8_isSaying : List xE := [(0, [], .iload_n 1, 1, 0, .null), (1, [], .ifCond .lt 21, 0, 22, .null), (4, [], .iload_n 1, 1, 0, .null), (5, [], .aload_n 0, 0, 0, .null), (6, [], .getfield 12, 7, 0, .null), (9, [], .getfield 110, 4, 1, .null), (12, [], .getfield 207, 2, 0, .int 0), (15, [], .if_icmp .ge 7, 0, 22, .null), (18, [], .iconst 1, 0, 0, .int 1), (19, [], .goto 4, 0, 23, .null), (22, [], .iconst 0, 0, 0, .int 0), (23, [], .ireturn, 0, 0, .null)]
abbrev jX8_isPlace : Nat := 123
def kX8_isPlace : List xE := [(0, [], .iload_n 0, 0, 0, .null), (1, [], .ifCond .lt 13, 0, 14, .null), (4, [], .iload_n 0, 0, 0, .null), (5, [], .bipush 10, 0, 0, .int 10), (7, [], .if_icmp .ge 7, 0, 14, .null), (10, [], .iconst 1, 0, 0, .int 1), (11, [], .goto 4, 0, 15, .null), (14, [], .iconst 0, 0, 0, .int 0), (15, [], .ireturn, 0, 0, .null)]
abbrev jX8_isDay : Nat := 124
def kX8_isDay : List xE := [(0, [], .iload_n 0, 0, 0, .null), (1, [], .ifCond .lt 13, 0, 14, .null), (4, [], .iload_n 0, 0, 0, .null), (5, [], .bipush 100, 0, 0, .int 100), (7, [], .if_icmp .ge 7, 0, 14, .null), (10, [], .iconst 1, 0, 0, .int 1), (11, [], .goto 4, 0, 15, .null), (14, [], .iconst 0, 0, 0, .int 0), (15, [], .ireturn, 0, 0, .null)]
abbrev jX8_isHour : Nat := 125
def kX8_isHour : List xE := [(0, [], .iload_n 0, 0, 0, .null), (1, [], .ifCond .lt 13, 0, 14, .null), (4, [], .iload_n 0, 0, 0, .null), (5, [], .bipush 24, 0, 0, .int 24), (7, [], .if_icmp .ge 7, 0, 14, .null), (10, [], .iconst 1, 0, 0, .int 1), (11, [], .goto 4, 0, 15, .null), (14, [], .iconst 0, 0, 0, .int 0), (15, [], .ireturn, 0, 0, .null)]
abbrev jX8_isWhen : Nat := 126
def kX8_isWhen : List xE := [(0, [], .iload_n 0, 0, 0, .null), (1, [], .ifCond .lt 27, 0, 28, .null), (4, [], .iload_n 0, 0, 0, .null), (5, [], .invokestatic 324, 132, 1, .null), (8, [], .invokestatic 80, 124, 1, .null), (11, [], .ifCond .eq 17, 0, 28, .null), (14, [], .iload_n 0, 0, 0, .null), (15, [], .invokestatic 199, 133, 1, .null), (18, [], .invokestatic 107, 125, 1, .null), (21, [], .ifCond .eq 7, 0, 28, .null), (24, [], .iconst 1, 0, 0, .int 1), (25, [], .goto 4, 0, 29, .null), (28, [], .iconst 0, 0, 0, .int 0), (29, [], .ireturn, 0, 0, .null)]
abbrev jX8_isWord : Nat := 127
def kX8_isWord : List xE := [(0, [], .iload_n 0, 0, 0, .null), (1, [], .ifCond .lt 13, 0, 14, .null), (4, [], .iload_n 0, 0, 0, .null), (5, [], .bipush 16, 0, 0, .int 16), (7, [], .if_icmp .ge 7, 0, 14, .null), (10, [], .iconst 1, 0, 0, .int 1), (11, [], .goto 4, 0, 15, .null), (14, [], .iconst 0, 0, 0, .int 0), (15, [], .ireturn, 0, 0, .null)]
abbrev jX8_isLoud : Nat := 128
def kX8_isLoud : List xE := [(0, [], .iload_n 0, 0, 0, .null), (1, [], .iconst 1, 0, 0, .int 1), (2, [], .if_icmp .lt 13, 0, 15, .null), (5, [], .iload_n 0, 0, 0, .null), (6, [], .bipush 9, 0, 0, .int 9), (8, [], .if_icmp .gt 7, 0, 15, .null), (11, [], .iconst 1, 0, 0, .int 1), (12, [], .goto 4, 0, 16, .null), (15, [], .iconst 0, 0, 0, .int 0), (16, [], .ireturn, 0, 0, .null)]
abbrev jX8_isPerson : Nat := 129
def kX8_isPerson : List xE := [(0, [], .iload_n 0, 0, 0, .null), (1, [], .ifCond .lt 13, 0, 14, .null), (4, [], .iload_n 0, 0, 0, .null), (5, [], .bipush 6, 0, 0, .int 6), (7, [], .if_icmp .ge 7, 0, 14, .null), (10, [], .iconst 1, 0, 0, .int 1), (11, [], .goto 4, 0, 15, .null), (14, [], .iconst 0, 0, 0, .int 0), (15, [], .ireturn, 0, 0, .null)]
abbrev jX8_isSpot : Nat := 130
def kX8_isSpot : List xE := [(0, [], .iload_n 0, 0, 0, .null), (1, [], .ifCond .lt 13, 0, 14, .null), (4, [], .iload_n 0, 0, 0, .null), (5, [], .bipush 10, 0, 0, .int 10), (7, [], .if_icmp .ge 7, 0, 14, .null), (10, [], .iconst 1, 0, 0, .int 1), (11, [], .goto 4, 0, 15, .null), (14, [], .iconst 0, 0, 0, .int 0), (15, [], .ireturn, 0, 0, .null)]
abbrev jX8_isSheet : Nat := 131
def kX8_isSheet : List xE := [(0, [], .iload_n 0, 0, 0, .null), (1, [], .ifCond .lt 12, 0, 13, .null), (4, [], .iload_n 0, 0, 0, .null), (5, [], .iconst 4, 0, 0, .int 4), (6, [], .if_icmp .ge 7, 0, 13, .null), (9, [], .iconst 1, 0, 0, .int 1), (10, [], .goto 4, 0, 14, .null), (13, [], .iconst 0, 0, 0, .int 0), (14, [], .ireturn, 0, 0, .null)]
abbrev jX8_dayOf : Nat := 132
def kX8_dayOf : List xE := [(0, [], .iload_n 0, 0, 0, .null), (1, [], .bipush 100, 0, 0, .int 100), (3, [], .idiv, 0, 0, .null), (4, [], .ireturn, 0, 0, .null)]
abbrev jX8_hourOf : Nat := 133
def kX8_hourOf : List xE := [(0, [], .iload_n 0, 0, 0, .null), (1, [], .bipush 100, 0, 0, .int 100), (3, [], .irem, 0, 0, .null), (4, [], .ireturn, 0, 0, .null)]
abbrev jX8_isIn : Nat := 134
def kX8_isIn : List xE := [(0, [], .lload_n 0, 0, 0, .null), (1, [], .iload_n 2, 2, 0, .null), (2, [], .lshr, 0, 0, .null), (3, [], .lconst 1, 0, 0, .long 1), (4, [], .land, 0, 0, .null), (5, [], .lconst 1, 0, 0, .long 1), (6, [], .lcmp, 0, 0, .null), (7, [], .ifCond .ne 7, 0, 14, .null), (10, [], .iconst 1, 0, 0, .int 1), (11, [], .goto 4, 0, 15, .null), (14, [], .iconst 0, 0, 0, .int 0), (15, [], .ireturn, 0, 0, .null)]
abbrev jX9_init : Nat := 135
def kX9_init_0 : List xE := [(0, [], .aload_n 0, 0, 0, .null), (1, [], .invokespecial 1, 999, 1, .null), (4, [], .aload_n 0, 0, 0, .null), (5, [], .sipush 598, 0, 0, .int 598), (8, [], .newarray .int, 0, 0, .null), (10, [], .putfield 9, 8, 0, .null), (13, [], .aload_n 0, 0, 0, .null), (14, [], .sipush 598, 0, 0, .int 598), (17, [], .newarray .int, 0, 0, .null), (19, [], .putfield 13, 8, 1, .null), (22, [], .aload_n 0, 0, 0, .null), (23, [], .bipush 8, 0, 0, .int 8), (25, [], .newarray .int, 0, 0, .null), (27, [], .putfield 16, 8, 3, .null), (30, [], .aload_n 0, 0, 0, .null), (31, [], .bipush 100, 0, 0, .int 100), (33, [], .newarray .int, 0, 0, .null), (35, [], .putfield 19, 8, 4, .null), (38, [], .aload_n 0, 0, 0, .null), (39, [], .sipush 240, 0, 0, .int 240), (42, [], .newarray .int, 0, 0, .null), (44, [], .putfield 22, 8, 6, .null), (47, [], .aload_n 0, 0, 0, .null), (48, [], .bipush 24, 0, 0, .int 24), (50, [], .newarray .int, 0, 0, .null), (52, [], .putfield 25, 8, 7, .null), (55, [], .aload_n 0, 0, 0, .null), (56, [], .bipush 120, 0, 0, .int 120), (58, [], .newarray .int, 0, 0, .null), (60, [], .putfield 28, 8, 9, .null), (63, [], .aload_n 0, 0, 0, .null), (64, [], .bipush 7, 0, 0, .int 7), (66, [], .anewarray 31, 2, 0, .null), (69, [], .dup, 0, 0, .null), (70, [], .iconst 0, 0, 0, .int 0), (71, [], .ldc 33, 0, 6, .ref 1106), (73, [], .aastore, 0, 0, .null), (74, [], .dup, 0, 0, .null), (75, [], .iconst 1, 0, 0, .int 1), (76, [], .ldc 35, 0, 7, .ref 1107), (78, [], .aastore, 0, 0, .null), (79, [], .dup, 0, 0, .null), (80, [], .iconst 2, 0, 0, .int 2), (81, [], .ldc 36, 0, 8, .ref 1108), (83, [], .aastore, 0, 0, .null), (84, [], .dup, 0, 0, .null), (85, [], .iconst 3, 0, 0, .int 3), (86, [], .ldc 38, 0, 9, .ref 1109), (88, [], .aastore, 0, 0, .null), (89, [], .dup, 0, 0, .null), (90, [], .iconst 4, 0, 0, .int 4), (91, [], .ldc 40, 0, 10, .ref 1110), (93, [], .aastore, 0, 0, .null), (94, [], .dup, 0, 0, .null), (95, [], .iconst 5, 0, 0, .int 5), (96, [], .ldc 42, 0, 11, .ref 1111), (98, [], .aastore, 0, 0, .null), (99, [], .dup, 0, 0, .null), (100, [], .bipush 6, 0, 0, .int 6), (102, [], .ldc 44, 0, 12, .ref 1112), (104, [], .aastore, 0, 0, .null), (105, [], .putfield 46, 8, 16, .null), (108, [], .aload_n 0, 0, 0, .null), (109, [], .sipush 720, 0, 0, .int 720), (112, [], .newarray .int, 0, 0, .null), (114, [], .putfield 50, 8, 17, .null), (117, [], .aload_n 0, 0, 0, .null), (118, [], .iconst 4, 0, 0, .int 4), (119, [], .newarray .int, 0, 0, .null), (121, [], .putfield 53, 8, 20, .null), (124, [], .aload_n 0, 0, 0, .null), (125, [], .iconst 4, 0, 0, .int 4), (126, [], .newarray .int, 0, 0, .null), (128, [], .putfield 56, 8, 21, .null), (131, [], .aload_n 0, 0, 0, .null), (132, [], .sipush 160, 0, 0, .int 160), (135, [], .newarray .int, 0, 0, .null), (137, [], .putfield 59, 8, 22, .null), (140, [], .aload_n 0, 0, 0, .null), (141, [], .bipush 40, 0, 0, .int 40), (143, [], .newarray .int, 0, 0, .null), (145, [], .putfield 62, 8, 23, .null), (148, [], .aload_n 0, 0, 0, .null), (149, [], .getfield 9, 8, 0, .null), (152, [], .iconst 2, 0, 0, .int 2), (153, [], .bipush 9, 0, 0, .int 9), (155, [], .iastore, 0, 0, .null), (156, [], .aload_n 0, 0, 0, .null), (157, [], .getfield 9, 8, 0, .null), (160, [], .iconst 3, 0, 0, .int 3), (161, [], .iconst 1, 0, 0, .int 1), (162, [], .iastore, 0, 0, .null), (163, [], .iconst 0, 0, 0, .int 0), (164, [], .istore_n 1, 1, 0, .null), (165, [true, true], .iload_n 1, 1, 0, .null), (166, [], .sipush 144, 0, 0, .int 144), (169, [], .if_icmp .ge 20, 0, 189, .null), (172, [], .aload_n 0, 0, 0, .null), (173, [], .getfield 9, 8, 0, .null), (176, [], .sipush 444, 0, 0, .int 444)]
def kX9_init_1 : List xE := [(179, [], .iload_n 1, 1, 0, .null), (180, [], .iadd, 0, 0, .null), (181, [], .iconst (-1), 0, 0, .int (-1)), (182, [], .iastore, 0, 0, .null), (183, [], .iinc 1 1, 1, 0, .int 1), (186, [], .goto (-21), 0, 165, .null), (189, [], .iconst 0, 0, 0, .int 0), (190, [], .istore_n 1, 1, 0, .null), (191, [true, true], .iload_n 1, 1, 0, .null), (192, [], .bipush 10, 0, 0, .int 10), (194, [], .if_icmp .ge 20, 0, 214, .null), (197, [], .aload_n 0, 0, 0, .null), (198, [], .getfield 9, 8, 0, .null), (201, [], .sipush 588, 0, 0, .int 588), (204, [], .iload_n 1, 1, 0, .null), (205, [], .iadd, 0, 0, .null), (206, [], .iconst (-1), 0, 0, .int (-1)), (207, [], .iastore, 0, 0, .null), (208, [], .iinc 1 1, 1, 0, .int 1), (211, [], .goto (-20), 0, 191, .null), (214, [], .return_, 0, 0, .null)]
def kX9_init : List xE := kX9_init_0 ++ (kX9_init_1)
abbrev jX9_finding : Nat := 136
def kX9_finding : List xE := [(0, [], .aload_n 0, 0, 0, .null), (1, [], .getfield 16, 8, 3, .null), (4, [], .ldc 65, 0, 0, .int (-1000001)), (6, [], .iload_n 1, 1, 0, .null), (7, [], .isub, 0, 0, .null), (8, [], .iconst 1, 0, 0, .int 1), (9, [], .iadd, 0, 0, .null), (10, [], .dup2, 0, 0, .null), (11, [], .iaload, 0, 0, .null), (12, [], .iconst 1, 0, 0, .int 1), (13, [], .iadd, 0, 0, .null), (14, [], .iastore, 0, 0, .null), (15, [], .aload_n 0, 0, 0, .null), (16, [], .getfield 16, 8, 3, .null), (19, [], .iconst 0, 0, 0, .int 0), (20, [], .dup2, 0, 0, .null), (21, [], .iaload, 0, 0, .null), (22, [], .iconst 1, 0, 0, .int 1), (23, [], .iadd, 0, 0, .null), (24, [], .iastore, 0, 0, .null), (25, [], .iload_n 1, 1, 0, .null), (26, [], .ireturn, 0, 0, .null)]
abbrev jX9_within : Nat := 137
def kX9_within : List xE := [(0, [], .iload_n 0, 0, 0, .null), (1, [], .iload_n 1, 1, 0, .null), (2, [], .if_icmp .lt 12, 0, 14, .null), (5, [], .iload_n 0, 0, 0, .null), (6, [], .iload_n 2, 2, 0, .null), (7, [], .if_icmp .gt 7, 0, 14, .null), (10, [], .iconst 1, 0, 0, .int 1), (11, [], .goto 4, 0, 15, .null), (14, [], .iconst 0, 0, 0, .int 0), (15, [], .ireturn, 0, 0, .null)]
abbrev jX9_has : Nat := 138
def kX9_has : List xE := [(0, [], .iload_n 0, 0, 0, .null), (1, [], .iload_n 1, 1, 0, .null), (2, [], .ishr, 0, 0, .null), (3, [], .iconst 1, 0, 0, .int 1), (4, [], .iand, 0, 0, .null), (5, [], .iconst 1, 0, 0, .int 1), (6, [], .if_icmp .ne 7, 0, 13, .null), (9, [], .iconst 1, 0, 0, .int 1), (10, [], .goto 4, 0, 14, .null), (13, [], .iconst 0, 0, 0, .int 0), (14, [], .ireturn, 0, 0, .null)]
abbrev jX9_become : Nat := 139
def kX9_become : List xE := [(0, [], .aload_n 0, 0, 0, .null), (1, [], .getfield 9, 8, 0, .null), (4, [], .iload_n 1, 1, 0, .null), (5, [], .iaload, 0, 0, .null), (6, [], .istore_n 3, 3, 0, .null), (7, [], .aload_n 0, 0, 0, .null), (8, [], .getfield 9, 8, 0, .null), (11, [], .iload_n 1, 1, 0, .null), (12, [], .iload_n 2, 2, 0, .null), (13, [], .iastore, 0, 0, .null), (14, [], .iload_n 3, 3, 0, .null), (15, [], .ireturn, 0, 0, .null)]
abbrev jX9_isPlace : Nat := 140
def kX9_isPlace : List xE := [(0, [], .iload_n 0, 0, 0, .null), (1, [], .iconst 0, 0, 0, .int 0), (2, [], .bipush 9, 0, 0, .int 9), (4, [], .invokestatic 66, 137, 3, .null), (7, [], .ireturn, 0, 0, .null)]
abbrev jX9_isDay : Nat := 141
def kX9_isDay : List xE := [(0, [], .iload_n 0, 0, 0, .null), (1, [], .iconst 0, 0, 0, .int 0), (2, [], .bipush 99, 0, 0, .int 99), (4, [], .invokestatic 66, 137, 3, .null), (7, [], .ireturn, 0, 0, .null)]
abbrev jX9_isHour : Nat := 142
def kX9_isHour : List xE := [(0, [], .iload_n 0, 0, 0, .null), (1, [], .iconst 0, 0, 0, .int 0), (2, [], .bipush 23, 0, 0, .int 23), (4, [], .invokestatic 66, 137, 3, .null), (7, [], .ireturn, 0, 0, .null)]
abbrev jX9_isWhen : Nat := 143
def kX9_isWhen : List xE := [(0, [], .iload_n 0, 0, 0, .null), (1, [], .ifCond .lt 27, 0, 28, .null), (4, [], .iload_n 0, 0, 0, .null), (5, [], .bipush 100, 0, 0, .int 100), (7, [], .idiv, 0, 0, .null), (8, [], .invokestatic 70, 141, 1, .null), (11, [], .ifCond .eq 17, 0, 28, .null), (14, [], .iload_n 0, 0, 0, .null), (15, [], .bipush 100, 0, 0, .int 100), (17, [], .irem, 0, 0, .null), (18, [], .invokestatic 74, 142, 1, .null), (21, [], .ifCond .eq 7, 0, 28, .null), (24, [], .iconst 1, 0, 0, .int 1), (25, [], .goto 4, 0, 29, .null), (28, [], .iconst 0, 0, 0, .int 0), (29, [], .ireturn, 0, 0, .null)]
abbrev jX9_isPerson : Nat := 144
def kX9_isPerson : List xE := [(0, [], .iload_n 0, 0, 0, .null), (1, [], .iconst 0, 0, 0, .int 0), (2, [], .iconst 5, 0, 0, .int 5), (3, [], .invokestatic 66, 137, 3, .null), (6, [], .ireturn, 0, 0, .null)]
abbrev jX9_isSaying : Nat := 145
def kX9_isSaying : List xE := [(0, [], .iload_n 1, 1, 0, .null), (1, [], .iconst 0, 0, 0, .int 0), (2, [], .aload_n 0, 0, 0, .null), (3, [], .getfield 9, 8, 0, .null), (6, [], .iconst 1, 0, 0, .int 1), (7, [], .iaload, 0, 0, .null), (8, [], .iconst 1, 0, 0, .int 1), (9, [], .isub, 0, 0, .null), (10, [], .invokestatic 66, 137, 3, .null), (13, [], .ireturn, 0, 0, .null)]
abbrev jX9_isWay : Nat := 146
def kX9_isWay : List xE := [(0, [], .aload_n 0, 0, 0, .null), (1, [], .getfield 9, 8, 0, .null), (4, [], .bipush 104, 0, 0, .int 104), (6, [], .bipush 10, 0, 0, .int 10), (8, [], .iload_n 1, 1, 0, .null), (9, [], .imul, 0, 0, .null), (10, [], .iadd, 0, 0, .null), (11, [], .iload_n 2, 2, 0, .null), (12, [], .iadd, 0, 0, .null), (13, [], .iaload, 0, 0, .null), (14, [], .iconst 1, 0, 0, .int 1), (15, [], .if_icmp .ne 7, 0, 22, .null), (18, [], .iconst 1, 0, 0, .int 1), (19, [], .goto 4, 0, 23, .null), (22, [], .iconst 0, 0, 0, .int 0), (23, [], .ireturn, 0, 0, .null)]
abbrev jX9_ways : Nat := 147
def kX9_ways : List xE := [(0, [], .aload_n 0, 0, 0, .null), (1, [], .getfield 9, 8, 0, .null), (4, [], .bipush 104, 0, 0, .int 104), (6, [], .bipush 10, 0, 0, .int 10), (8, [], .iload_n 1, 1, 0, .null), (9, [], .imul, 0, 0, .null), (10, [], .iadd, 0, 0, .null), (11, [], .iload_n 2, 2, 0, .null), (12, [], .iadd, 0, 0, .null), (13, [], .iload_n 3, 3, 0, .null), (14, [], .iastore, 0, 0, .null), (15, [], .aload_n 0, 0, 0, .null), (16, [], .getfield 9, 8, 0, .null), (19, [], .bipush 104, 0, 0, .int 104), (21, [], .bipush 10, 0, 0, .int 10), (23, [], .iload_n 2, 2, 0, .null), (24, [], .imul, 0, 0, .null), (25, [], .iadd, 0, 0, .null), (26, [], .iload_n 1, 1, 0, .null), (27, [], .iadd, 0, 0, .null), (28, [], .iload_n 3, 3, 0, .null), (29, [], .iastore, 0, 0, .null), (30, [], .aload_n 0, 0, 0, .null), (31, [], .iconst 0, 0, 0, .int 0), (32, [], .putfield 77, 8, 5, .long 0), (35, [], .return_, 0, 0, .null)]
abbrev jX9_way : Nat := 148
def kX9_way : List xE := [(0, [], .iload_n 1, 1, 0, .null), (1, [], .invokestatic 81, 140, 1, .null), (4, [], .ifCond .eq 15, 0, 19, .null), (7, [], .iload_n 2, 2, 0, .null), (8, [], .invokestatic 81, 140, 1, .null), (11, [], .ifCond .eq 8, 0, 19, .null), (14, [], .iload_n 1, 1, 0, .null), (15, [], .iload_n 2, 2, 0, .null), (16, [], .if_icmp .ne 10, 0, 26, .null), (19, [], .aload_n 0, 0, 0, .null), (20, [], .ldc 65, 0, 0, .int (-1000001)), (22, [], .invokevirtual 84, 136, 2, .ref 8), (25, [], .ireturn, 0, 0, .null), (26, [], .aload_n 0, 0, 0, .null), (27, [], .iload_n 1, 1, 0, .null), (28, [], .iload_n 2, 2, 0, .null), (29, [], .invokevirtual 88, 146, 3, .ref 8), (32, [], .ifCond .eq 7, 0, 39, .null), (35, [], .iconst 1, 0, 0, .int 1), (36, [], .goto 4, 0, 40, .null), (39, [], .iconst 0, 0, 0, .int 0), (40, [], .istore 4, 4, 0, .null), (42, [], .aload_n 0, 0, 0, .null), (43, [], .iload_n 1, 1, 0, .null), (44, [], .iload_n 2, 2, 0, .null), (45, [], .iload_n 3, 3, 0, .null), (46, [], .ifCond .eq 7, 0, 53, .null), (49, [], .iconst 1, 0, 0, .int 1), (50, [], .goto 4, 0, 54, .null), (53, [], .iconst 0, 0, 0, .int 0), (54, [], .invokevirtual 92, 147, 4, .ref 8), (57, [], .iload 4, 4, 0, .null), (59, [], .ireturn, 0, 0, .null)]
abbrev jX9_farOf : Nat := 149
def kX9_farOf : List xE := [(0, [], .aload_n 0, 0, 0, .null), (1, [], .getfield 77, 8, 5, .long 0), (4, [], .ifCond .ne 7, 0, 11, .null), (7, [], .aload_n 0, 0, 0, .null), (8, [], .invokevirtual 96, 150, 1, .ref 8), (11, [], .aload_n 0, 0, 0, .null), (12, [], .getfield 19, 8, 4, .null), (15, [], .bipush 10, 0, 0, .int 10), (17, [], .iload_n 1, 1, 0, .null), (18, [], .imul, 0, 0, .null), (19, [], .iload_n 2, 2, 0, .null), (20, [], .iadd, 0, 0, .null), (21, [], .iaload, 0, 0, .null), (22, [], .ireturn, 0, 0, .null)]
abbrev jX9_measure : Nat := 150
def kX9_measure : List xE := [(0, [], .iconst 0, 0, 0, .int 0), (1, [], .istore_n 1, 1, 0, .null), (2, [true, true, false, false], .iload_n 1, 1, 0, .null), (3, [], .bipush 100, 0, 0, .int 100), (5, [], .if_icmp .ge 49, 0, 54, .null), (8, [], .aload_n 0, 0, 0, .null), (9, [], .getfield 19, 8, 4, .null), (12, [], .iload_n 1, 1, 0, .null), (13, [], .iload_n 1, 1, 0, .null), (14, [], .bipush 10, 0, 0, .int 10), (16, [], .idiv, 0, 0, .null), (17, [], .iload_n 1, 1, 0, .null), (18, [], .bipush 10, 0, 0, .int 10), (20, [], .irem, 0, 0, .null), (21, [], .if_icmp .ne 7, 0, 28, .null), (24, [], .iconst 0, 0, 0, .int 0), (25, [], .goto 22, 0, 47, .null), (28, [], .aload_n 0, 0, 0, .null), (29, [], .getfield 9, 8, 0, .null), (32, [], .bipush 104, 0, 0, .int 104), (34, [], .iload_n 1, 1, 0, .null), (35, [], .iadd, 0, 0, .null), (36, [], .iaload, 0, 0, .null), (37, [], .iconst 1, 0, 0, .int 1), (38, [], .if_icmp .ne 7, 0, 45, .null), (41, [], .iconst 1, 0, 0, .int 1), (42, [], .goto 5, 0, 47, .null), (45, [], .bipush 99, 0, 0, .int 99), (47, [], .iastore, 0, 0, .null), (48, [], .iinc 1 1, 1, 0, .int 1), (51, [], .goto (-49), 0, 2, .null), (54, [], .iconst 0, 0, 0, .int 0), (55, [], .istore_n 1, 1, 0, .null), (56, [true, true, false, false], .iload_n 1, 1, 0, .null), (57, [], .bipush 10, 0, 0, .int 10), (59, [], .if_icmp .ge 69, 0, 128, .null), (62, [], .iconst 0, 0, 0, .int 0), (63, [], .istore_n 2, 2, 0, .null), (64, [true, true, true, false], .iload_n 2, 2, 0, .null), (65, [], .bipush 100, 0, 0, .int 100), (67, [], .if_icmp .ge 55, 0, 122, .null), (70, [], .aload_n 0, 0, 0, .null), (71, [], .getfield 19, 8, 4, .null), (74, [], .iload_n 2, 2, 0, .null), (75, [], .bipush 10, 0, 0, .int 10), (77, [], .idiv, 0, 0, .null), (78, [], .bipush 10, 0, 0, .int 10), (80, [], .imul, 0, 0, .null), (81, [], .iload_n 1, 1, 0, .null), (82, [], .iadd, 0, 0, .null), (83, [], .iaload, 0, 0, .null), (84, [], .aload_n 0, 0, 0, .null), (85, [], .getfield 19, 8, 4, .null), (88, [], .bipush 10, 0, 0, .int 10), (90, [], .iload_n 1, 1, 0, .null), (91, [], .imul, 0, 0, .null), (92, [], .iload_n 2, 2, 0, .null), (93, [], .bipush 10, 0, 0, .int 10), (95, [], .irem, 0, 0, .null), (96, [], .iadd, 0, 0, .null), (97, [], .iaload, 0, 0, .null), (98, [], .iadd, 0, 0, .null), (99, [], .istore_n 3, 3, 0, .null), (100, [], .aload_n 0, 0, 0, .null), (101, [], .getfield 19, 8, 4, .null), (104, [], .iload_n 2, 2, 0, .null), (105, [], .aload_n 0, 0, 0, .null), (106, [], .getfield 19, 8, 4, .null), (109, [], .iload_n 2, 2, 0, .null), (110, [], .iaload, 0, 0, .null), (111, [], .iload_n 3, 3, 0, .null), (112, [], .invokestatic 99, 995, 2, .null), (115, [], .iastore, 0, 0, .null), (116, [], .iinc 2 1, 2, 0, .int 1), (119, [], .goto (-55), 0, 64, .null), (122, [], .iinc 1 1, 1, 0, .int 1), (125, [], .goto (-69), 0, 56, .null), (128, [], .aload_n 0, 0, 0, .null), (129, [], .iconst 1, 0, 0, .int 1), (130, [], .putfield 77, 8, 5, .long 0), (133, [], .return_, 0, 0, .null)]
abbrev jX9_steps : Nat := 151
def kX9_steps : List xE := [(0, [], .iload_n 1, 1, 0, .null), (1, [], .invokestatic 81, 140, 1, .null), (4, [], .ifCond .eq 10, 0, 14, .null), (7, [], .iload_n 2, 2, 0, .null), (8, [], .invokestatic 81, 140, 1, .null), (11, [], .ifCond .ne 10, 0, 21, .null), (14, [], .aload_n 0, 0, 0, .null), (15, [], .ldc 65, 0, 0, .int (-1000001)), (17, [], .invokevirtual 84, 136, 2, .ref 8), (20, [], .ireturn, 0, 0, .null), (21, [], .aload_n 0, 0, 0, .null), (22, [], .iload_n 1, 1, 0, .null), (23, [], .iload_n 2, 2, 0, .null), (24, [], .invokevirtual 105, 149, 3, .ref 8), (27, [], .bipush 99, 0, 0, .int 99), (29, [], .if_icmp .lt 12, 0, 41, .null), (32, [], .aload_n 0, 0, 0, .null), (33, [], .ldc 108, 0, 0, .int (-1000004)), (35, [], .invokevirtual 84, 136, 2, .ref 8), (38, [], .goto 9, 0, 47, .null), (41, [], .aload_n 0, 0, 0, .null), (42, [], .iload_n 1, 1, 0, .null), (43, [], .iload_n 2, 2, 0, .null), (44, [], .invokevirtual 105, 149, 3, .ref 8), (47, [], .ireturn, 0, 0, .null)]
abbrev jX9_days : Nat := 152
def kX9_days : List xE := [(0, [], .iload_n 1, 1, 0, .null), (1, [], .iconst 1, 0, 0, .int 1), (2, [], .bipush 20, 0, 0, .int 20), (4, [], .invokestatic 66, 137, 3, .null), (7, [], .ifCond .ne 10, 0, 17, .null), (10, [], .aload_n 0, 0, 0, .null), (11, [], .ldc 65, 0, 0, .int (-1000001)), (13, [], .invokevirtual 84, 136, 2, .ref 8), (16, [], .ireturn, 0, 0, .null), (17, [], .aload_n 0, 0, 0, .null), (18, [], .getfield 9, 8, 0, .null), (21, [], .iconst 0, 0, 0, .int 0), (22, [], .iaload, 0, 0, .null), (23, [], .iload_n 1, 1, 0, .null), (24, [], .iadd, 0, 0, .null), (25, [], .bipush 100, 0, 0, .int 100), (27, [], .if_icmp .lt 10, 0, 37, .null), (30, [], .aload_n 0, 0, 0, .null), (31, [], .ldc 109, 0, 0, .int (-1000005)), (33, [], .invokevirtual 84, 136, 2, .ref 8), (36, [], .ireturn, 0, 0, .null), (37, [], .aload_n 0, 0, 0, .null), (38, [], .getfield 9, 8, 0, .null), (41, [], .iconst 0, 0, 0, .int 0), (42, [], .dup2, 0, 0, .null), (43, [], .iaload, 0, 0, .null), (44, [], .iload_n 1, 1, 0, .null), (45, [], .iadd, 0, 0, .null), (46, [], .iastore, 0, 0, .null), (47, [], .aload_n 0, 0, 0, .null), (48, [], .getfield 9, 8, 0, .null), (51, [], .iconst 0, 0, 0, .int 0), (52, [], .iaload, 0, 0, .null), (53, [], .ireturn, 0, 0, .null)]
abbrev jX9_rain : Nat := 153
def kX9_rain : List xE := [(0, [], .iload_n 1, 1, 0, .null), (1, [], .invokestatic 70, 141, 1, .null), (4, [], .ifCond .eq 22, 0, 26, .null), (7, [], .aload_n 0, 0, 0, .null), (8, [], .iconst 4, 0, 0, .int 4), (9, [], .iload_n 1, 1, 0, .null), (10, [], .iadd, 0, 0, .null), (11, [], .iload_n 2, 2, 0, .null), (12, [], .ifCond .eq 7, 0, 19, .null), (15, [], .iconst 1, 0, 0, .int 1), (16, [], .goto 4, 0, 20, .null), (19, [], .iconst 0, 0, 0, .int 0), (20, [], .invokevirtual 110, 139, 3, .ref 8), (23, [], .goto 9, 0, 32, .null), (26, [], .aload_n 0, 0, 0, .null), (27, [], .ldc 65, 0, 0, .int (-1000001)), (29, [], .invokevirtual 84, 136, 2, .ref 8), (32, [], .ireturn, 0, 0, .null)]
abbrev jX9_drawn : Nat := 154
def kX9_drawn : List xE := [(0, [], .aload_n 0, 0, 0, .null), (1, [], .getfield 9, 8, 0, .null), (4, [], .iconst 3, 0, 0, .int 3), (5, [], .aload_n 0, 0, 0, .null), (6, [], .getfield 9, 8, 0, .null), (9, [], .iconst 3, 0, 0, .int 3), (10, [], .iaload, 0, 0, .null), (11, [], .ldc 113, 0, 0, .int 1103515245), (13, [], .imul, 0, 0, .null), (14, [], .sipush 12345, 0, 0, .int 12345), (17, [], .iadd, 0, 0, .null), (18, [], .iastore, 0, 0, .null), (19, [], .aload_n 0, 0, 0, .null), (20, [], .getfield 9, 8, 0, .null), (23, [], .iconst 3, 0, 0, .int 3), (24, [], .iaload, 0, 0, .null), (25, [], .bipush 8, 0, 0, .int 8), (27, [], .iushr, 0, 0, .null), (28, [], .iload_n 1, 1, 0, .null), (29, [], .irem, 0, 0, .null), (30, [], .ireturn, 0, 0, .null)]
abbrev jX9_weather : Nat := 155
def kX9_weather : List xE := [(0, [], .iload_n 1, 1, 0, .null), (1, [], .invokestatic 70, 141, 1, .null), (4, [], .ifCond .eq 25, 0, 29, .null), (7, [], .iload_n 2, 2, 0, .null), (8, [], .invokestatic 70, 141, 1, .null), (11, [], .ifCond .eq 18, 0, 29, .null), (14, [], .iload_n 2, 2, 0, .null), (15, [], .iload_n 1, 1, 0, .null), (16, [], .if_icmp .lt 13, 0, 29, .null), (19, [], .iload_n 3, 3, 0, .null), (20, [], .iconst 0, 0, 0, .int 0), (21, [], .bipush 100, 0, 0, .int 100), (23, [], .invokestatic 66, 137, 3, .null), (26, [], .ifCond .ne 10, 0, 36, .null), (29, [], .aload_n 0, 0, 0, .null), (30, [], .ldc 65, 0, 0, .int (-1000001)), (32, [], .invokevirtual 84, 136, 2, .ref 8), (35, [], .ireturn, 0, 0, .null), (36, [], .iconst 0, 0, 0, .int 0), (37, [], .istore 4, 4, 0, .null), (39, [], .iload_n 1, 1, 0, .null), (40, [], .istore 5, 5, 0, .null), (42, [true, false, true, true, true, true], .iload 5, 5, 0, .null), (44, [], .iload_n 2, 2, 0, .null), (45, [], .if_icmp .gt 47, 0, 92, .null), (48, [], .aload_n 0, 0, 0, .null), (49, [], .getfield 9, 8, 0, .null), (52, [], .iconst 4, 0, 0, .int 4), (53, [], .iload 5, 5, 0, .null), (55, [], .iadd, 0, 0, .null), (56, [], .aload_n 0, 0, 0, .null), (57, [], .bipush 100, 0, 0, .int 100), (59, [], .invokevirtual 114, 154, 2, .ref 8), (62, [], .iload_n 3, 3, 0, .null), (63, [], .if_icmp .ge 7, 0, 70, .null), (66, [], .iconst 1, 0, 0, .int 1), (67, [], .goto 4, 0, 71, .null), (70, [], .iconst 0, 0, 0, .int 0), (71, [], .iastore, 0, 0, .null), (72, [], .iload 4, 4, 0, .null), (74, [], .aload_n 0, 0, 0, .null), (75, [], .getfield 9, 8, 0, .null), (78, [], .iconst 4, 0, 0, .int 4), (79, [], .iload 5, 5, 0, .null), (81, [], .iadd, 0, 0, .null), (82, [], .iaload, 0, 0, .null), (83, [], .iadd, 0, 0, .null), (84, [], .istore 4, 4, 0, .null), (86, [], .iinc 5 1, 5, 0, .int 1), (89, [], .goto (-47), 0, 42, .null), (92, [], .iload 4, 4, 0, .null), (94, [], .ireturn, 0, 0, .null)]
abbrev jX9_keep : Nat := 156
def kX9_keep : List xE := [(0, [], .iload_n 1, 1, 0, .null), (1, [], .iconst 1, 0, 0, .int 1), (2, [], .bipush 20, 0, 0, .int 20), (4, [], .invokestatic 66, 137, 3, .null), (7, [], .ifCond .eq 12, 0, 19, .null), (10, [], .aload_n 0, 0, 0, .null), (11, [], .iconst 2, 0, 0, .int 2), (12, [], .iload_n 1, 1, 0, .null), (13, [], .invokevirtual 110, 139, 3, .ref 8), (16, [], .goto 9, 0, 25, .null), (19, [], .aload_n 0, 0, 0, .null), (20, [], .ldc 65, 0, 0, .int (-1000001)), (22, [], .invokevirtual 84, 136, 2, .ref 8), (25, [], .ireturn, 0, 0, .null)]
abbrev jX9_of : Nat := 157
def kX9_of : List xE := [(0, [], .aload_n 0, 0, 0, .null), (1, [], .getfield 9, 8, 0, .null), (4, [], .sipush 204, 0, 0, .int 204), (7, [], .bipush 6, 0, 0, .int 6), (9, [], .iload_n 1, 1, 0, .null), (10, [], .imul, 0, 0, .null), (11, [], .iadd, 0, 0, .null), (12, [], .iload_n 2, 2, 0, .null), (13, [], .iadd, 0, 0, .null), (14, [], .iaload, 0, 0, .null), (15, [], .ireturn, 0, 0, .null)]
abbrev jX9_says : Nat := 158
def kX9_says : List xE := [(0, [], .aload_n 0, 0, 0, .null), (1, [], .getfield 9, 8, 0, .null), (4, [], .iconst 1, 0, 0, .int 1), (5, [], .iaload, 0, 0, .null), (6, [], .istore 6, 6, 0, .null), (8, [], .sipush 204, 0, 0, .int 204), (11, [], .bipush 6, 0, 0, .int 6), (13, [], .iload 6, 6, 0, .null), (15, [], .imul, 0, 0, .null), (16, [], .iadd, 0, 0, .null), (17, [], .istore 7, 7, 0, .null), (19, [], .aload_n 0, 0, 0, .null), (20, [], .getfield 9, 8, 0, .null), (23, [], .iload 7, 7, 0, .null), (25, [], .iconst 0, 0, 0, .int 0), (26, [], .iadd, 0, 0, .null), (27, [], .iload_n 1, 1, 0, .null), (28, [], .iastore, 0, 0, .null), (29, [], .aload_n 0, 0, 0, .null), (30, [], .getfield 9, 8, 0, .null), (33, [], .iload 7, 7, 0, .null), (35, [], .iconst 1, 0, 0, .int 1), (36, [], .iadd, 0, 0, .null), (37, [], .iload_n 2, 2, 0, .null), (38, [], .iastore, 0, 0, .null), (39, [], .aload_n 0, 0, 0, .null), (40, [], .getfield 9, 8, 0, .null), (43, [], .iload 7, 7, 0, .null), (45, [], .iconst 2, 0, 0, .int 2), (46, [], .iadd, 0, 0, .null), (47, [], .iload_n 3, 3, 0, .null), (48, [], .iastore, 0, 0, .null), (49, [], .aload_n 0, 0, 0, .null), (50, [], .getfield 9, 8, 0, .null), (53, [], .iload 7, 7, 0, .null), (55, [], .iconst 3, 0, 0, .int 3), (56, [], .iadd, 0, 0, .null), (57, [], .iload 4, 4, 0, .null), (59, [], .iastore, 0, 0, .null), (60, [], .aload_n 0, 0, 0, .null), (61, [], .getfield 9, 8, 0, .null), (64, [], .iload 7, 7, 0, .null), (66, [], .iconst 4, 0, 0, .int 4), (67, [], .iadd, 0, 0, .null), (68, [], .iload 5, 5, 0, .null), (70, [], .iastore, 0, 0, .null), (71, [], .aload_n 0, 0, 0, .null), (72, [], .getfield 9, 8, 0, .null), (75, [], .iload 7, 7, 0, .null), (77, [], .iconst 5, 0, 0, .int 5), (78, [], .iadd, 0, 0, .null), (79, [], .aload_n 0, 0, 0, .null), (80, [], .getfield 9, 8, 0, .null), (83, [], .iconst 0, 0, 0, .int 0), (84, [], .iaload, 0, 0, .null), (85, [], .iastore, 0, 0, .null), (86, [], .aload_n 0, 0, 0, .null), (87, [], .getfield 9, 8, 0, .null), (90, [], .iconst 1, 0, 0, .int 1), (91, [], .dup2, 0, 0, .null), (92, [], .iaload, 0, 0, .null), (93, [], .iconst 1, 0, 0, .int 1), (94, [], .iadd, 0, 0, .null), (95, [], .iastore, 0, 0, .null), (96, [], .iload 6, 6, 0, .null), (98, [], .ireturn, 0, 0, .null)]
abbrev jX9_say : Nat := 159
def kX9_say : List xE := [(0, [], .iload_n 1, 1, 0, .null), (1, [], .iconst 0, 0, 0, .int 0), (2, [], .bipush 6, 0, 0, .int 6), (4, [], .invokestatic 66, 137, 3, .null), (7, [], .ifCond .eq 39, 0, 46, .null), (10, [], .iload_n 2, 2, 0, .null), (11, [], .iconst 0, 0, 0, .int 0), (12, [], .bipush 15, 0, 0, .int 15), (14, [], .invokestatic 66, 137, 3, .null), (17, [], .ifCond .eq 29, 0, 46, .null), (20, [], .iload_n 3, 3, 0, .null), (21, [], .iconst 1, 0, 0, .int 1), (22, [], .bipush 9, 0, 0, .int 9), (24, [], .invokestatic 66, 137, 3, .null), (27, [], .ifCond .eq 19, 0, 46, .null), (30, [], .iload 4, 4, 0, .null), (32, [], .invokestatic 81, 140, 1, .null), (35, [], .ifCond .eq 11, 0, 46, .null), (38, [], .iload 5, 5, 0, .null), (40, [], .invokestatic 74, 142, 1, .null), (43, [], .ifCond .ne 10, 0, 53, .null), (46, [], .aload_n 0, 0, 0, .null), (47, [], .ldc 65, 0, 0, .int (-1000001)), (49, [], .invokevirtual 84, 136, 2, .ref 8), (52, [], .ireturn, 0, 0, .null), (53, [], .aload_n 0, 0, 0, .null), (54, [], .getfield 9, 8, 0, .null), (57, [], .iconst 1, 0, 0, .int 1), (58, [], .iaload, 0, 0, .null), (59, [], .bipush 40, 0, 0, .int 40), (61, [], .if_icmp .ne 12, 0, 73, .null), (64, [], .aload_n 0, 0, 0, .null), (65, [], .ldc 117, 0, 0, .int (-1000002)), (67, [], .invokevirtual 84, 136, 2, .ref 8), (70, [], .goto 14, 0, 84, .null), (73, [], .aload_n 0, 0, 0, .null), (74, [], .iload_n 1, 1, 0, .null), (75, [], .iload_n 2, 2, 0, .null), (76, [], .iload_n 3, 3, 0, .null), (77, [], .iload 4, 4, 0, .null), (79, [], .iload 5, 5, 0, .null), (81, [], .invokevirtual 118, 158, 6, .ref 8), (84, [], .ireturn, 0, 0, .null)]
abbrev jX9_lasts : Nat := 160
def kX9_lasts : List xE := [(0, [], .aload_n 0, 0, 0, .null), (1, [], .getfield 9, 8, 0, .null), (4, [], .iconst 2, 0, 0, .int 2), (5, [], .iaload, 0, 0, .null), (6, [], .istore_n 2, 2, 0, .null), (7, [], .aload_n 0, 0, 0, .null), (8, [], .iload_n 1, 1, 0, .null), (9, [], .iconst 0, 0, 0, .int 0), (10, [], .invokevirtual 122, 157, 3, .ref 8), (13, [], .tableswitch 55 1 6 #[39, 55, 55, 39, 43, 47], 0, 0, .null), (52, [], .iconst 2, 0, 0, .int 2), (53, [], .iload_n 2, 2, 0, .null), (54, [], .imul, 0, 0, .null), (55, [], .ireturn, 0, 0, .null), (56, [], .iload_n 2, 2, 0, .null), (57, [], .iconst 5, 0, 0, .int 5), (58, [], .iadd, 0, 0, .null), (59, [], .ireturn, 0, 0, .null), (60, [], .iconst 1, 0, 0, .int 1), (61, [], .iload_n 2, 2, 0, .null), (62, [], .iconst 3, 0, 0, .int 3), (63, [], .isub, 0, 0, .null), (64, [], .invokestatic 125, 996, 2, .null), (67, [], .ireturn, 0, 0, .null), (68, [], .iload_n 2, 2, 0, .null), (69, [], .ireturn, 0, 0, .null)]
abbrev jX9_reach : Nat := 161
def kX9_reach : List xE := [(0, [], .aload_n 0, 0, 0, .null), (1, [], .iload_n 1, 1, 0, .null), (2, [], .iconst 0, 0, 0, .int 0), (3, [], .invokevirtual 122, 157, 3, .ref 8), (6, [], .istore_n 2, 2, 0, .null), (7, [], .aload_n 0, 0, 0, .null), (8, [], .iload_n 1, 1, 0, .null), (9, [], .iconst 2, 0, 0, .int 2), (10, [], .invokevirtual 122, 157, 3, .ref 8), (13, [], .iconst 3, 0, 0, .int 3), (14, [], .idiv, 0, 0, .null), (15, [], .istore_n 3, 3, 0, .null), (16, [], .iload_n 2, 2, 0, .null), (17, [], .iconst 2, 0, 0, .int 2), (18, [], .if_icmp .eq 9, 0, 27, .null), (21, [], .iload_n 2, 2, 0, .null), (22, [], .bipush 6, 0, 0, .int 6), (24, [], .if_icmp .ne 7, 0, 31, .null), (27, [], .iconst 0, 0, 0, .int 0), (28, [], .goto 15, 0, 43, .null), (31, [], .iload_n 2, 2, 0, .null), (32, [], .iconst 4, 0, 0, .int 4), (33, [], .if_icmp .ne 9, 0, 42, .null), (36, [], .iload_n 3, 3, 0, .null), (37, [], .iconst 2, 0, 0, .int 2), (38, [], .iadd, 0, 0, .null), (39, [], .goto 4, 0, 43, .null), (42, [], .iload_n 3, 3, 0, .null), (43, [], .ireturn, 0, 0, .null)]
abbrev jX9_sayingOf : Nat := 162
def kX9_sayingOf : List xE := [(0, [], .aload_n 0, 0, 0, .null), (1, [], .iload_n 1, 1, 0, .null), (2, [], .invokevirtual 128, 145, 2, .ref 8), (5, [], .ifCond .eq 13, 0, 18, .null), (8, [], .iload_n 2, 2, 0, .null), (9, [], .iconst 0, 0, 0, .int 0), (10, [], .bipush 7, 0, 0, .int 7), (12, [], .invokestatic 66, 137, 3, .null), (15, [], .ifCond .ne 10, 0, 25, .null), (18, [], .aload_n 0, 0, 0, .null), (19, [], .ldc 65, 0, 0, .int (-1000001)), (21, [], .invokevirtual 84, 136, 2, .ref 8), (24, [], .ireturn, 0, 0, .null), (25, [], .iload_n 2, 2, 0, .null), (26, [], .bipush 6, 0, 0, .int 6), (28, [], .if_icmp .ge 12, 0, 40, .null), (31, [], .aload_n 0, 0, 0, .null), (32, [], .iload_n 1, 1, 0, .null), (33, [], .iload_n 2, 2, 0, .null), (34, [], .invokevirtual 122, 157, 3, .ref 8), (37, [], .goto 22, 0, 59, .null), (40, [], .iload_n 2, 2, 0, .null), (41, [], .bipush 6, 0, 0, .int 6), (43, [], .if_icmp .ne 11, 0, 54, .null), (46, [], .aload_n 0, 0, 0, .null), (47, [], .iload_n 1, 1, 0, .null), (48, [], .invokevirtual 131, 160, 2, .ref 8), (51, [], .goto 8, 0, 59, .null), (54, [], .aload_n 0, 0, 0, .null), (55, [], .iload_n 1, 1, 0, .null), (56, [], .invokevirtual 134, 161, 2, .ref 8), (59, [], .ireturn, 0, 0, .null)]
abbrev jX9_turn : Nat := 163
def kX9_turn : List xE := [(0, [], .aload_n 0, 0, 0, .null), (1, [], .iload_n 1, 1, 0, .null), (2, [], .invokevirtual 128, 145, 2, .ref 8), (5, [], .ifCond .eq 31, 0, 36, .null), (8, [], .iload_n 2, 2, 0, .null), (9, [], .iconst 0, 0, 0, .int 0), (10, [], .bipush 6, 0, 0, .int 6), (12, [], .invokestatic 66, 137, 3, .null), (15, [], .ifCond .eq 21, 0, 36, .null), (18, [], .aload_n 0, 0, 0, .null), (19, [], .sipush 204, 0, 0, .int 204), (22, [], .bipush 6, 0, 0, .int 6), (24, [], .iload_n 1, 1, 0, .null), (25, [], .imul, 0, 0, .null), (26, [], .iadd, 0, 0, .null), (27, [], .iconst 0, 0, 0, .int 0), (28, [], .iadd, 0, 0, .null), (29, [], .iload_n 2, 2, 0, .null), (30, [], .invokevirtual 110, 139, 3, .ref 8), (33, [], .goto 9, 0, 42, .null), (36, [], .aload_n 0, 0, 0, .null), (37, [], .ldc 65, 0, 0, .int (-1000001)), (39, [], .invokevirtual 84, 136, 2, .ref 8), (42, [], .ireturn, 0, 0, .null)]
abbrev jX9_ageOf : Nat := 164
def kX9_ageOf : List xE := [(0, [], .iload_n 2, 2, 0, .null), (1, [], .aload_n 0, 0, 0, .null), (2, [], .iload_n 1, 1, 0, .null), (3, [], .iconst 5, 0, 0, .int 5), (4, [], .invokevirtual 122, 157, 3, .ref 8), (7, [], .isub, 0, 0, .null), (8, [], .istore_n 3, 3, 0, .null), (9, [], .aload_n 0, 0, 0, .null), (10, [], .iload_n 1, 1, 0, .null), (11, [], .iconst 5, 0, 0, .int 5), (12, [], .invokevirtual 122, 157, 3, .ref 8), (15, [], .iconst 1, 0, 0, .int 1), (16, [], .iadd, 0, 0, .null), (17, [], .istore 4, 4, 0, .null), (19, [true, false, true, true, true], .iload 4, 4, 0, .null), (21, [], .iload_n 2, 2, 0, .null), (22, [], .if_icmp .gt 21, 0, 43, .null), (25, [], .iload_n 3, 3, 0, .null), (26, [], .aload_n 0, 0, 0, .null), (27, [], .getfield 9, 8, 0, .null), (30, [], .iconst 4, 0, 0, .int 4), (31, [], .iload 4, 4, 0, .null), (33, [], .iadd, 0, 0, .null), (34, [], .iaload, 0, 0, .null), (35, [], .iadd, 0, 0, .null), (36, [], .istore_n 3, 3, 0, .null), (37, [], .iinc 4 1, 4, 0, .int 1), (40, [], .goto (-21), 0, 19, .null), (43, [], .iload_n 3, 3, 0, .null), (44, [], .ireturn, 0, 0, .null)]
abbrev jX9_age : Nat := 165
def kX9_age : List xE := [(0, [], .aload_n 0, 0, 0, .null), (1, [], .iload_n 1, 1, 0, .null), (2, [], .invokevirtual 128, 145, 2, .ref 8), (5, [], .ifCond .eq 10, 0, 15, .null), (8, [], .iload_n 2, 2, 0, .null), (9, [], .invokestatic 70, 141, 1, .null), (12, [], .ifCond .ne 10, 0, 22, .null), (15, [], .aload_n 0, 0, 0, .null), (16, [], .ldc 65, 0, 0, .int (-1000001)), (18, [], .invokevirtual 84, 136, 2, .ref 8), (21, [], .ireturn, 0, 0, .null), (22, [], .iload_n 2, 2, 0, .null), (23, [], .aload_n 0, 0, 0, .null), (24, [], .iload_n 1, 1, 0, .null), (25, [], .iconst 5, 0, 0, .int 5), (26, [], .invokevirtual 122, 157, 3, .ref 8), (29, [], .if_icmp .le 12, 0, 41, .null), (32, [], .aload_n 0, 0, 0, .null), (33, [], .iload_n 1, 1, 0, .null), (34, [], .iload_n 2, 2, 0, .null), (35, [], .invokevirtual 137, 164, 3, .ref 8), (38, [], .goto 9, 0, 47, .null), (41, [], .aload_n 0, 0, 0, .null), (42, [], .ldc 109, 0, 0, .int (-1000005)), (44, [], .invokevirtual 84, 136, 2, .ref 8), (47, [], .ireturn, 0, 0, .null)]
abbrev jX9_isOver : Nat := 166
def kX9_isOver : List xE := [(0, [], .aload_n 0, 0, 0, .null), (1, [], .iload_n 1, 1, 0, .null), (2, [], .iconst 3, 0, 0, .int 3), (3, [], .invokevirtual 122, 157, 3, .ref 8), (6, [], .aload_n 0, 0, 0, .null), (7, [], .iload_n 2, 2, 0, .null), (8, [], .iconst 3, 0, 0, .int 3), (9, [], .invokevirtual 122, 157, 3, .ref 8), (12, [], .if_icmp .ne 18, 0, 30, .null), (15, [], .aload_n 0, 0, 0, .null), (16, [], .iload_n 1, 1, 0, .null), (17, [], .iconst 4, 0, 0, .int 4), (18, [], .invokevirtual 122, 157, 3, .ref 8), (21, [], .aload_n 0, 0, 0, .null), (22, [], .iload_n 2, 2, 0, .null), (23, [], .iconst 4, 0, 0, .int 4), (24, [], .invokevirtual 122, 157, 3, .ref 8), (27, [], .if_icmp .eq 5, 0, 32, .null), (30, [], .iconst 0, 0, 0, .int 0), (31, [], .ireturn, 0, 0, .null), (32, [], .aload_n 0, 0, 0, .null), (33, [], .iload_n 2, 2, 0, .null), (34, [], .iconst 0, 0, 0, .int 0), (35, [], .invokevirtual 122, 157, 3, .ref 8), (38, [], .istore_n 3, 3, 0, .null), (39, [], .iload_n 3, 3, 0, .null), (40, [], .iconst 3, 0, 0, .int 3), (41, [], .if_icmp .eq 34, 0, 75, .null), (44, [], .iload_n 3, 3, 0, .null), (45, [], .iconst 5, 0, 0, .int 5), (46, [], .if_icmp .eq 29, 0, 75, .null), (49, [], .iload_n 3, 3, 0, .null), (50, [], .iconst 2, 0, 0, .int 2), (51, [], .if_icmp .eq 28, 0, 79, .null), (54, [], .iload_n 3, 3, 0, .null), (55, [], .bipush 6, 0, 0, .int 6), (57, [], .if_icmp .eq 22, 0, 79, .null), (60, [], .aload_n 0, 0, 0, .null), (61, [], .iload_n 2, 2, 0, .null), (62, [], .iconst 2, 0, 0, .int 2), (63, [], .invokevirtual 122, 157, 3, .ref 8), (66, [], .aload_n 0, 0, 0, .null), (67, [], .iload_n 1, 1, 0, .null), (68, [], .iconst 2, 0, 0, .int 2), (69, [], .invokevirtual 122, 157, 3, .ref 8), (72, [], .if_icmp .lt 7, 0, 79, .null), (75, [], .iconst 1, 0, 0, .int 1), (76, [], .goto 4, 0, 80, .null), (79, [], .iconst 0, 0, 0, .int 0), (80, [], .istore 4, 4, 0, .null), (82, [], .iload 4, 4, 0, .null), (84, [], .ifCond .eq 22, 0, 106, .null), (87, [], .aload_n 0, 0, 0, .null), (88, [], .iload_n 1, 1, 0, .null), (89, [], .iconst 0, 0, 0, .int 0), (90, [], .invokevirtual 122, 157, 3, .ref 8), (93, [], .iconst 5, 0, 0, .int 5), (94, [], .if_icmp .ne 8, 0, 102, .null), (97, [], .iload_n 3, 3, 0, .null), (98, [], .iconst 5, 0, 0, .int 5), (99, [], .if_icmp .ne 7, 0, 106, .null), (102, [], .iconst 1, 0, 0, .int 1), (103, [], .goto 4, 0, 107, .null), (106, [], .iconst 0, 0, 0, .int 0), (107, [], .ireturn, 0, 0, .null)]
abbrev jX9_overOf : Nat := 167
def kX9_overOf : List xE := [(0, [], .iload_n 1, 1, 0, .null), (1, [], .iconst 1, 0, 0, .int 1), (2, [], .iadd, 0, 0, .null), (3, [], .istore_n 2, 2, 0, .null), (4, [true, true, true], .iload_n 2, 2, 0, .null), (5, [], .aload_n 0, 0, 0, .null), (6, [], .getfield 9, 8, 0, .null), (9, [], .iconst 1, 0, 0, .int 1), (10, [], .iaload, 0, 0, .null), (11, [], .if_icmp .ge 20, 0, 31, .null), (14, [], .aload_n 0, 0, 0, .null), (15, [], .iload_n 1, 1, 0, .null), (16, [], .iload_n 2, 2, 0, .null), (17, [], .invokevirtual 140, 166, 3, .ref 8), (20, [], .ifCond .eq 5, 0, 25, .null), (23, [], .iload_n 2, 2, 0, .null), (24, [], .ireturn, 0, 0, .null), (25, [], .iinc 2 1, 2, 0, .int 1), (28, [], .goto (-24), 0, 4, .null), (31, [], .iconst (-1), 0, 0, .int (-1)), (32, [], .ireturn, 0, 0, .null)]
abbrev jX9_over : Nat := 168
def kX9_over : List xE := [(0, [], .aload_n 0, 0, 0, .null), (1, [], .iload_n 1, 1, 0, .null), (2, [], .invokevirtual 128, 145, 2, .ref 8), (5, [], .ifCond .ne 10, 0, 15, .null), (8, [], .aload_n 0, 0, 0, .null), (9, [], .ldc 65, 0, 0, .int (-1000001)), (11, [], .invokevirtual 84, 136, 2, .ref 8), (14, [], .ireturn, 0, 0, .null), (15, [], .aload_n 0, 0, 0, .null), (16, [], .iload_n 1, 1, 0, .null), (17, [], .invokevirtual 143, 167, 2, .ref 8), (20, [], .istore_n 2, 2, 0, .null), (21, [], .iload_n 2, 2, 0, .null), (22, [], .ifCond .ge 12, 0, 34, .null), (25, [], .aload_n 0, 0, 0, .null), (26, [], .ldc 108, 0, 0, .int (-1000004)), (28, [], .invokevirtual 84, 136, 2, .ref 8), (31, [], .goto 4, 0, 35, .null), (34, [], .iload_n 2, 2, 0, .null), (35, [], .ireturn, 0, 0, .null)]
abbrev jX9_isHeard : Nat := 169
def kX9_isHeard : List xE := [(0, [], .iload_n 2, 2, 0, .null), (1, [], .aload_n 0, 0, 0, .null), (2, [], .iload_n 1, 1, 0, .null), (3, [], .iconst 5, 0, 0, .int 5), (4, [], .invokevirtual 122, 157, 3, .ref 8), (7, [], .if_icmp .le 17, 0, 24, .null), (10, [], .aload_n 0, 0, 0, .null), (11, [], .iload_n 1, 1, 0, .null), (12, [], .iload_n 2, 2, 0, .null), (13, [], .invokevirtual 137, 164, 3, .ref 8), (16, [], .aload_n 0, 0, 0, .null), (17, [], .iload_n 1, 1, 0, .null), (18, [], .invokevirtual 131, 160, 2, .ref 8), (21, [], .if_icmp .le 5, 0, 26, .null), (24, [], .iconst 0, 0, 0, .int 0), (25, [], .ireturn, 0, 0, .null), (26, [], .aload_n 0, 0, 0, .null), (27, [], .iload_n 1, 1, 0, .null), (28, [], .invokevirtual 143, 167, 2, .ref 8), (31, [], .istore_n 3, 3, 0, .null), (32, [], .iload_n 3, 3, 0, .null), (33, [], .ifCond .lt 13, 0, 46, .null), (36, [], .aload_n 0, 0, 0, .null), (37, [], .iload_n 3, 3, 0, .null), (38, [], .iconst 5, 0, 0, .int 5), (39, [], .invokevirtual 122, 157, 3, .ref 8), (42, [], .iload_n 2, 2, 0, .null), (43, [], .if_icmp .le 7, 0, 50, .null), (46, [], .iconst 1, 0, 0, .int 1), (47, [], .goto 4, 0, 51, .null), (50, [], .iconst 0, 0, 0, .int 0), (51, [], .ireturn, 0, 0, .null)]
abbrev jX9_until : Nat := 170
def kX9_until : List xE := [(0, [], .aload_n 0, 0, 0, .null), (1, [], .iload_n 1, 1, 0, .null), (2, [], .invokevirtual 128, 145, 2, .ref 8), (5, [], .ifCond .ne 10, 0, 15, .null), (8, [], .aload_n 0, 0, 0, .null), (9, [], .ldc 65, 0, 0, .int (-1000001)), (11, [], .invokevirtual 84, 136, 2, .ref 8), (14, [], .ireturn, 0, 0, .null), (15, [], .bipush 99, 0, 0, .int 99), (17, [], .istore_n 2, 2, 0, .null), (18, [true, true, true], .iload_n 2, 2, 0, .null), (19, [], .ifCond .lt 20, 0, 39, .null), (22, [], .aload_n 0, 0, 0, .null), (23, [], .iload_n 1, 1, 0, .null), (24, [], .iload_n 2, 2, 0, .null), (25, [], .invokevirtual 146, 169, 3, .ref 8), (28, [], .ifCond .eq 5, 0, 33, .null), (31, [], .iload_n 2, 2, 0, .null), (32, [], .ireturn, 0, 0, .null), (33, [], .iinc 2 (-1), 2, 0, .int (-1)), (36, [], .goto (-18), 0, 18, .null), (39, [], .aload_n 0, 0, 0, .null), (40, [], .ldc 108, 0, 0, .int (-1000004)), (42, [], .invokevirtual 84, 136, 2, .ref 8), (45, [], .ireturn, 0, 0, .null)]
abbrev jX9_near : Nat := 171
def kX9_near : List xE := [(0, [], .iconst 0, 0, 0, .int 0), (1, [], .istore_n 3, 3, 0, .null), (2, [], .iconst 0, 0, 0, .int 0), (3, [], .istore 4, 4, 0, .null), (5, [true, true, true, true, true], .iload 4, 4, 0, .null), (7, [], .bipush 10, 0, 0, .int 10), (9, [], .if_icmp .ge 31, 0, 40, .null), (12, [], .iload_n 3, 3, 0, .null), (13, [], .aload_n 0, 0, 0, .null), (14, [], .iload_n 1, 1, 0, .null), (15, [], .iload 4, 4, 0, .null), (17, [], .invokevirtual 105, 149, 3, .ref 8), (20, [], .iload_n 2, 2, 0, .null), (21, [], .if_icmp .gt 10, 0, 31, .null), (24, [], .iconst 1, 0, 0, .int 1), (25, [], .iload 4, 4, 0, .null), (27, [], .ishl, 0, 0, .null), (28, [], .goto 4, 0, 32, .null), (31, [], .iconst 0, 0, 0, .int 0), (32, [], .ior, 0, 0, .null), (33, [], .istore_n 3, 3, 0, .null), (34, [], .iinc 4 1, 4, 0, .int 1), (37, [], .goto (-32), 0, 5, .null), (40, [], .iload_n 3, 3, 0, .null), (41, [], .ireturn, 0, 0, .null)]
abbrev jX9_reachesOf : Nat := 172
def kX9_reachesOf : List xE := [(0, [], .aload_n 0, 0, 0, .null), (1, [], .aload_n 0, 0, 0, .null), (2, [], .iload_n 1, 1, 0, .null), (3, [], .iconst 3, 0, 0, .int 3), (4, [], .invokevirtual 122, 157, 3, .ref 8), (7, [], .aload_n 0, 0, 0, .null), (8, [], .iload_n 1, 1, 0, .null), (9, [], .invokevirtual 134, 161, 2, .ref 8), (12, [], .invokevirtual 149, 171, 3, .ref 8), (15, [], .ireturn, 0, 0, .null)]
abbrev jX9_reaches : Nat := 173
def kX9_reaches : List xE := [(0, [], .aload_n 0, 0, 0, .null), (1, [], .iload_n 1, 1, 0, .null), (2, [], .invokevirtual 128, 145, 2, .ref 8), (5, [], .ifCond .eq 10, 0, 15, .null), (8, [], .iload_n 2, 2, 0, .null), (9, [], .invokestatic 70, 141, 1, .null), (12, [], .ifCond .ne 10, 0, 22, .null), (15, [], .aload_n 0, 0, 0, .null), (16, [], .ldc 65, 0, 0, .int (-1000001)), (18, [], .invokevirtual 84, 136, 2, .ref 8), (21, [], .ireturn, 0, 0, .null), (22, [], .aload_n 0, 0, 0, .null), (23, [], .iload_n 1, 1, 0, .null), (24, [], .iload_n 2, 2, 0, .null), (25, [], .invokevirtual 146, 169, 3, .ref 8), (28, [], .ifCond .eq 11, 0, 39, .null), (31, [], .aload_n 0, 0, 0, .null), (32, [], .iload_n 1, 1, 0, .null), (33, [], .invokevirtual 152, 172, 2, .ref 8), (36, [], .goto 4, 0, 40, .null), (39, [], .iconst 0, 0, 0, .int 0), (40, [], .ireturn, 0, 0, .null)]
abbrev jX9_drowns : Nat := 174
def kX9_drowns : List xE := [(0, [], .aload_n 0, 0, 0, .null), (1, [], .iload_n 1, 1, 0, .null), (2, [], .invokevirtual 128, 145, 2, .ref 8), (5, [], .ifCond .ne 10, 0, 15, .null), (8, [], .aload_n 0, 0, 0, .null), (9, [], .ldc 65, 0, 0, .int (-1000001)), (11, [], .invokevirtual 84, 136, 2, .ref 8), (14, [], .ireturn, 0, 0, .null), (15, [], .aload_n 0, 0, 0, .null), (16, [], .iload_n 1, 1, 0, .null), (17, [], .iconst 0, 0, 0, .int 0), (18, [], .invokevirtual 122, 157, 3, .ref 8), (21, [], .iconst 5, 0, 0, .int 5), (22, [], .if_icmp .ne 12, 0, 34, .null), (25, [], .aload_n 0, 0, 0, .null), (26, [], .ldc 108, 0, 0, .int (-1000004)), (28, [], .invokevirtual 84, 136, 2, .ref 8), (31, [], .goto 9, 0, 40, .null), (34, [], .aload_n 0, 0, 0, .null), (35, [], .iload_n 1, 1, 0, .null), (36, [], .iconst 2, 0, 0, .int 2), (37, [], .invokevirtual 122, 157, 3, .ref 8), (40, [], .ireturn, 0, 0, .null)]
abbrev jX9_isHeardAt : Nat := 175
def kX9_isHeardAt : List xE := [(0, [], .aload_n 0, 0, 0, .null), (1, [], .iload_n 1, 1, 0, .null), (2, [], .iconst 4, 0, 0, .int 4), (3, [], .invokevirtual 122, 157, 3, .ref 8), (6, [], .iload 4, 4, 0, .null), (8, [], .if_icmp .ne 28, 0, 36, .null), (11, [], .aload_n 0, 0, 0, .null), (12, [], .iload_n 1, 1, 0, .null), (13, [], .iload_n 3, 3, 0, .null), (14, [], .invokevirtual 146, 169, 3, .ref 8), (17, [], .ifCond .eq 19, 0, 36, .null), (20, [], .aload_n 0, 0, 0, .null), (21, [], .iload_n 1, 1, 0, .null), (22, [], .invokevirtual 152, 172, 2, .ref 8), (25, [], .iload_n 2, 2, 0, .null), (26, [], .invokestatic 155, 138, 2, .null), (29, [], .ifCond .eq 7, 0, 36, .null), (32, [], .iconst 1, 0, 0, .int 1), (33, [], .goto 4, 0, 37, .null), (36, [], .iconst 0, 0, 0, .int 0), (37, [], .ireturn, 0, 0, .null)]
abbrev jX9_heardAt : Nat := 176
def kX9_heardAt : List xE := [(0, [], .iconst 0, 0, 0, .int 0), (1, [], .istore 4, 4, 0, .null), (3, [], .iconst 0, 0, 0, .int 0), (4, [], .istore 5, 5, 0, .null), (6, [true, true, true, true, true, true], .iload 5, 5, 0, .null), (8, [], .aload_n 0, 0, 0, .null), (9, [], .getfield 9, 8, 0, .null), (12, [], .iconst 1, 0, 0, .int 1), (13, [], .iaload, 0, 0, .null), (14, [], .if_icmp .ge 31, 0, 45, .null), (17, [], .iload 4, 4, 0, .null), (19, [], .aload_n 0, 0, 0, .null), (20, [], .iload 5, 5, 0, .null), (22, [], .iload_n 1, 1, 0, .null), (23, [], .iload_n 2, 2, 0, .null), (24, [], .iload_n 3, 3, 0, .null), (25, [], .invokevirtual 158, 175, 5, .ref 8), (28, [], .ifCond .eq 7, 0, 35, .null), (31, [], .iconst 1, 0, 0, .int 1), (32, [], .goto 4, 0, 36, .null), (35, [], .iconst 0, 0, 0, .int 0), (36, [], .iadd, 0, 0, .null), (37, [], .istore 4, 4, 0, .null), (39, [], .iinc 5 1, 5, 0, .int 1), (42, [], .goto (-36), 0, 6, .null), (45, [], .iload 4, 4, 0, .null), (47, [], .ireturn, 0, 0, .null)]
abbrev jX9_heard : Nat := 177
def kX9_heard : List xE := [(0, [], .iload_n 1, 1, 0, .null), (1, [], .invokestatic 81, 140, 1, .null), (4, [], .ifCond .eq 26, 0, 30, .null), (7, [], .iload_n 2, 2, 0, .null), (8, [], .invokestatic 162, 143, 1, .null), (11, [], .ifCond .eq 19, 0, 30, .null), (14, [], .aload_n 0, 0, 0, .null), (15, [], .iload_n 1, 1, 0, .null), (16, [], .iload_n 2, 2, 0, .null), (17, [], .bipush 100, 0, 0, .int 100), (19, [], .idiv, 0, 0, .null), (20, [], .iload_n 2, 2, 0, .null), (21, [], .bipush 100, 0, 0, .int 100), (23, [], .irem, 0, 0, .null), (24, [], .invokevirtual 165, 176, 4, .ref 8), (27, [], .goto 9, 0, 36, .null), (30, [], .aload_n 0, 0, 0, .null), (31, [], .ldc 65, 0, 0, .int (-1000001)), (33, [], .invokevirtual 84, 136, 2, .ref 8), (36, [], .ireturn, 0, 0, .null)]
abbrev jX9_which : Nat := 178
def kX9_which : List xE := [(0, [], .iload_n 1, 1, 0, .null), (1, [], .invokestatic 81, 140, 1, .null), (4, [], .ifCond .eq 20, 0, 24, .null), (7, [], .iload_n 2, 2, 0, .null), (8, [], .invokestatic 162, 143, 1, .null), (11, [], .ifCond .eq 13, 0, 24, .null), (14, [], .iload_n 3, 3, 0, .null), (15, [], .iconst 0, 0, 0, .int 0), (16, [], .bipush 39, 0, 0, .int 39), (18, [], .invokestatic 66, 137, 3, .null), (21, [], .ifCond .ne 10, 0, 31, .null), (24, [], .aload_n 0, 0, 0, .null), (25, [], .ldc 65, 0, 0, .int (-1000001)), (27, [], .invokevirtual 84, 136, 2, .ref 8), (30, [], .ireturn, 0, 0, .null), (31, [], .iconst (-1), 0, 0, .int (-1)), (32, [], .istore 4, 4, 0, .null), (34, [], .iconst 0, 0, 0, .int 0), (35, [], .istore 5, 5, 0, .null), (37, [true, true, true, true, true, true], .iload 5, 5, 0, .null), (39, [], .aload_n 0, 0, 0, .null), (40, [], .getfield 9, 8, 0, .null), (43, [], .iconst 1, 0, 0, .int 1), (44, [], .iaload, 0, 0, .null), (45, [], .if_icmp .ge 46, 0, 91, .null), (48, [], .iload 4, 4, 0, .null), (50, [], .aload_n 0, 0, 0, .null), (51, [], .iload 5, 5, 0, .null), (53, [], .iload_n 1, 1, 0, .null), (54, [], .iload_n 2, 2, 0, .null), (55, [], .bipush 100, 0, 0, .int 100), (57, [], .idiv, 0, 0, .null), (58, [], .iload_n 2, 2, 0, .null), (59, [], .bipush 100, 0, 0, .int 100), (61, [], .irem, 0, 0, .null), (62, [], .invokevirtual 158, 175, 5, .ref 8), (65, [], .ifCond .eq 7, 0, 72, .null), (68, [], .iconst 1, 0, 0, .int 1), (69, [], .goto 4, 0, 73, .null), (72, [], .iconst 0, 0, 0, .int 0), (73, [], .iadd, 0, 0, .null), (74, [], .istore 4, 4, 0, .null), (76, [], .iload 4, 4, 0, .null), (78, [], .iload_n 3, 3, 0, .null), (79, [], .if_icmp .ne 6, 0, 85, .null), (82, [], .iload 5, 5, 0, .null), (84, [], .ireturn, 0, 0, .null), (85, [], .iinc 5 1, 5, 0, .int 1), (88, [], .goto (-51), 0, 37, .null), (91, [], .aload_n 0, 0, 0, .null), (92, [], .ldc 108, 0, 0, .int (-1000004)), (94, [], .invokevirtual 84, 136, 2, .ref 8), (97, [], .ireturn, 0, 0, .null)]
abbrev jX9_words : Nat := 179
def kX9_words : List xE := [(0, [], .iload_n 1, 1, 0, .null), (1, [], .invokestatic 81, 140, 1, .null), (4, [], .ifCond .eq 10, 0, 14, .null), (7, [], .iload_n 2, 2, 0, .null), (8, [], .invokestatic 162, 143, 1, .null), (11, [], .ifCond .ne 10, 0, 21, .null), (14, [], .aload_n 0, 0, 0, .null), (15, [], .ldc 65, 0, 0, .int (-1000001)), (17, [], .invokevirtual 84, 136, 2, .ref 8), (20, [], .ireturn, 0, 0, .null), (21, [], .iconst 0, 0, 0, .int 0), (22, [], .istore_n 3, 3, 0, .null), (23, [], .iconst 0, 0, 0, .int 0), (24, [], .istore 4, 4, 0, .null), (26, [true, true, true, true, true], .iload 4, 4, 0, .null), (28, [], .aload_n 0, 0, 0, .null), (29, [], .getfield 9, 8, 0, .null), (32, [], .iconst 1, 0, 0, .int 1), (33, [], .iaload, 0, 0, .null), (34, [], .if_icmp .ge 43, 0, 77, .null), (37, [], .iload_n 3, 3, 0, .null), (38, [], .aload_n 0, 0, 0, .null), (39, [], .iload 4, 4, 0, .null), (41, [], .iload_n 1, 1, 0, .null), (42, [], .iload_n 2, 2, 0, .null), (43, [], .bipush 100, 0, 0, .int 100), (45, [], .idiv, 0, 0, .null), (46, [], .iload_n 2, 2, 0, .null), (47, [], .bipush 100, 0, 0, .int 100), (49, [], .irem, 0, 0, .null), (50, [], .invokevirtual 158, 175, 5, .ref 8), (53, [], .ifCond .eq 15, 0, 68, .null), (56, [], .iconst 1, 0, 0, .int 1), (57, [], .aload_n 0, 0, 0, .null), (58, [], .iload 4, 4, 0, .null), (60, [], .iconst 1, 0, 0, .int 1), (61, [], .invokevirtual 122, 157, 3, .ref 8), (64, [], .ishl, 0, 0, .null), (65, [], .goto 4, 0, 69, .null), (68, [], .iconst 0, 0, 0, .int 0), (69, [], .ior, 0, 0, .null), (70, [], .istore_n 3, 3, 0, .null), (71, [], .iinc 4 1, 4, 0, .int 1), (74, [], .goto (-48), 0, 26, .null), (77, [], .iload_n 3, 3, 0, .null), (78, [], .ireturn, 0, 0, .null)]
abbrev jX9_plain : Nat := 180
def kX9_plain : List xE := [(0, [], .iload_n 1, 1, 0, .null), (1, [], .invokestatic 81, 140, 1, .null), (4, [], .ifCond .eq 10, 0, 14, .null), (7, [], .iload_n 2, 2, 0, .null), (8, [], .invokestatic 162, 143, 1, .null), (11, [], .ifCond .ne 10, 0, 21, .null), (14, [], .aload_n 0, 0, 0, .null), (15, [], .ldc 65, 0, 0, .int (-1000001)), (17, [], .invokevirtual 84, 136, 2, .ref 8), (20, [], .ireturn, 0, 0, .null), (21, [], .iconst 0, 0, 0, .int 0), (22, [], .istore_n 3, 3, 0, .null), (23, [], .iconst 0, 0, 0, .int 0), (24, [], .istore 4, 4, 0, .null), (26, [true, true, true, true, true], .iload 4, 4, 0, .null), (28, [], .aload_n 0, 0, 0, .null), (29, [], .getfield 9, 8, 0, .null), (32, [], .iconst 1, 0, 0, .int 1), (33, [], .iaload, 0, 0, .null), (34, [], .if_icmp .ge 43, 0, 77, .null), (37, [], .aload_n 0, 0, 0, .null), (38, [], .iload 4, 4, 0, .null), (40, [], .iload_n 1, 1, 0, .null), (41, [], .iload_n 2, 2, 0, .null), (42, [], .bipush 100, 0, 0, .int 100), (44, [], .idiv, 0, 0, .null), (45, [], .iload_n 2, 2, 0, .null), (46, [], .bipush 100, 0, 0, .int 100), (48, [], .irem, 0, 0, .null), (49, [], .invokevirtual 158, 175, 5, .ref 8), (52, [], .ifCond .eq 17, 0, 69, .null), (55, [], .iload_n 3, 3, 0, .null), (56, [], .aload_n 0, 0, 0, .null), (57, [], .iload 4, 4, 0, .null), (59, [], .iconst 2, 0, 0, .int 2), (60, [], .invokevirtual 122, 157, 3, .ref 8), (63, [], .invokestatic 125, 996, 2, .null), (66, [], .goto 4, 0, 70, .null), (69, [], .iload_n 3, 3, 0, .null), (70, [], .istore_n 3, 3, 0, .null), (71, [], .iinc 4 1, 4, 0, .int 1), (74, [], .goto (-48), 0, 26, .null), (77, [], .iload_n 3, 3, 0, .null), (78, [], .ifCond .ne 12, 0, 90, .null), (81, [], .aload_n 0, 0, 0, .null), (82, [], .ldc 108, 0, 0, .int (-1000004)), (84, [], .invokevirtual 84, 136, 2, .ref 8), (87, [], .goto 4, 0, 91, .null), (90, [], .iload_n 3, 3, 0, .null), (91, [], .ireturn, 0, 0, .null)]
abbrev jX9_alone : Nat := 181
def kX9_alone : List xE := [(0, [], .iload_n 1, 1, 0, .null), (1, [], .invokestatic 162, 143, 1, .null), (4, [], .ifCond .ne 10, 0, 14, .null), (7, [], .aload_n 0, 0, 0, .null), (8, [], .ldc 65, 0, 0, .int (-1000001)), (10, [], .invokevirtual 84, 136, 2, .ref 8), (13, [], .ireturn, 0, 0, .null), (14, [], .iconst 0, 0, 0, .int 0), (15, [], .istore_n 2, 2, 0, .null), (16, [], .iconst 0, 0, 0, .int 0), (17, [], .istore_n 3, 3, 0, .null), (18, [true, true, true, true], .iload_n 3, 3, 0, .null), (19, [], .bipush 10, 0, 0, .int 10), (21, [], .if_icmp .ge 47, 0, 68, .null), (24, [], .iload_n 2, 2, 0, .null), (25, [], .aload_n 0, 0, 0, .null), (26, [], .iload_n 3, 3, 0, .null), (27, [], .iload_n 1, 1, 0, .null), (28, [], .bipush 100, 0, 0, .int 100), (30, [], .idiv, 0, 0, .null), (31, [], .iload_n 1, 1, 0, .null), (32, [], .bipush 100, 0, 0, .int 100), (34, [], .irem, 0, 0, .null), (35, [], .invokevirtual 165, 176, 4, .ref 8), (38, [], .ifCond .ne 21, 0, 59, .null), (41, [], .aload_n 0, 0, 0, .null), (42, [], .iload_n 3, 3, 0, .null), (43, [], .iload_n 1, 1, 0, .null), (44, [], .bipush 100, 0, 0, .int 100), (46, [], .irem, 0, 0, .null), (47, [], .invokevirtual 169, 185, 3, .ref 8), (50, [], .ifCond .ne 9, 0, 59, .null), (53, [], .iconst 1, 0, 0, .int 1), (54, [], .iload_n 3, 3, 0, .null), (55, [], .ishl, 0, 0, .null), (56, [], .goto 4, 0, 60, .null), (59, [], .iconst 0, 0, 0, .int 0), (60, [], .ior, 0, 0, .null), (61, [], .istore_n 2, 2, 0, .null), (62, [], .iinc 3 1, 3, 0, .int 1), (65, [], .goto (-47), 0, 18, .null), (68, [], .iload_n 2, 2, 0, .null), (69, [], .ireturn, 0, 0, .null)]
abbrev jX9_full : Nat := 182
def kX9_full : List xE := [(0, [], .iload_n 1, 1, 0, .null), (1, [], .invokestatic 81, 140, 1, .null), (4, [], .ifCond .eq 10, 0, 14, .null), (7, [], .iload_n 2, 2, 0, .null), (8, [], .invokestatic 70, 141, 1, .null), (11, [], .ifCond .ne 10, 0, 21, .null), (14, [], .aload_n 0, 0, 0, .null), (15, [], .ldc 65, 0, 0, .int (-1000001)), (17, [], .invokevirtual 84, 136, 2, .ref 8), (20, [], .ireturn, 0, 0, .null), (21, [], .iconst 0, 0, 0, .int 0), (22, [], .istore_n 3, 3, 0, .null), (23, [], .iconst 0, 0, 0, .int 0), (24, [], .istore 4, 4, 0, .null), (26, [true, true, true, true, true], .iload 4, 4, 0, .null), (28, [], .bipush 24, 0, 0, .int 24), (30, [], .if_icmp .ge 28, 0, 58, .null), (33, [], .iload_n 3, 3, 0, .null), (34, [], .aload_n 0, 0, 0, .null), (35, [], .iload_n 1, 1, 0, .null), (36, [], .iload_n 2, 2, 0, .null), (37, [], .iload 4, 4, 0, .null), (39, [], .invokevirtual 165, 176, 4, .ref 8), (42, [], .ifCond .le 7, 0, 49, .null), (45, [], .iconst 1, 0, 0, .int 1), (46, [], .goto 4, 0, 50, .null), (49, [], .iconst 0, 0, 0, .int 0), (50, [], .iadd, 0, 0, .null), (51, [], .istore_n 3, 3, 0, .null), (52, [], .iinc 4 1, 4, 0, .int 1), (55, [], .goto (-29), 0, 26, .null), (58, [], .iload_n 3, 3, 0, .null), (59, [], .ireturn, 0, 0, .null)]
abbrev jX9_whereIs : Nat := 183
def kX9_whereIs : List xE := [(0, [], .aload_n 0, 0, 0, .null), (1, [], .getfield 9, 8, 0, .null), (4, [], .sipush 444, 0, 0, .int 444), (7, [], .bipush 24, 0, 0, .int 24), (9, [], .iload_n 1, 1, 0, .null), (10, [], .imul, 0, 0, .null), (11, [], .iadd, 0, 0, .null), (12, [], .iload_n 2, 2, 0, .null), (13, [], .iadd, 0, 0, .null), (14, [], .iaload, 0, 0, .null), (15, [], .ireturn, 0, 0, .null)]
abbrev jX9_isAt : Nat := 184
def kX9_isAt : List xE := [(0, [], .iload_n 3, 3, 0, .null), (1, [], .istore 5, 5, 0, .null), (3, [true, true, true, false, true, true], .iload 5, 5, 0, .null), (5, [], .iload 4, 4, 0, .null), (7, [], .if_icmp .gt 26, 0, 33, .null), (10, [], .aload_n 0, 0, 0, .null), (11, [], .getfield 9, 8, 0, .null), (14, [], .sipush 444, 0, 0, .int 444), (17, [], .bipush 24, 0, 0, .int 24), (19, [], .iload_n 1, 1, 0, .null), (20, [], .imul, 0, 0, .null), (21, [], .iadd, 0, 0, .null), (22, [], .iload 5, 5, 0, .null), (24, [], .iadd, 0, 0, .null), (25, [], .iload_n 2, 2, 0, .null), (26, [], .iastore, 0, 0, .null), (27, [], .iinc 5 1, 5, 0, .int 1), (30, [], .goto (-27), 0, 3, .null), (33, [], .return_, 0, 0, .null)]
abbrev jX9_manyAt : Nat := 185
def kX9_manyAt : List xE := [(0, [], .iconst 0, 0, 0, .int 0), (1, [], .istore_n 3, 3, 0, .null), (2, [], .iconst 0, 0, 0, .int 0), (3, [], .istore 4, 4, 0, .null), (5, [true, true, true, true, true], .iload 4, 4, 0, .null), (7, [], .bipush 6, 0, 0, .int 6), (9, [], .if_icmp .ge 28, 0, 37, .null), (12, [], .iload_n 3, 3, 0, .null), (13, [], .aload_n 0, 0, 0, .null), (14, [], .iload 4, 4, 0, .null), (16, [], .iload_n 2, 2, 0, .null), (17, [], .invokevirtual 172, 183, 3, .ref 8), (20, [], .iload_n 1, 1, 0, .null), (21, [], .if_icmp .ne 7, 0, 28, .null), (24, [], .iconst 1, 0, 0, .int 1), (25, [], .goto 4, 0, 29, .null), (28, [], .iconst 0, 0, 0, .int 0), (29, [], .iadd, 0, 0, .null), (30, [], .istore_n 3, 3, 0, .null), (31, [], .iinc 4 1, 4, 0, .int 1), (34, [], .goto (-29), 0, 5, .null), (37, [], .iload_n 3, 3, 0, .null), (38, [], .ireturn, 0, 0, .null)]
abbrev jX9_person : Nat := 186
def kX9_person : List xE := [(0, [], .iload_n 1, 1, 0, .null), (1, [], .invokestatic 175, 144, 1, .null), (4, [], .ifCond .eq 34, 0, 38, .null), (7, [], .iload_n 2, 2, 0, .null), (8, [], .iconst (-1), 0, 0, .int (-1)), (9, [], .bipush 9, 0, 0, .int 9), (11, [], .invokestatic 66, 137, 3, .null), (14, [], .ifCond .eq 24, 0, 38, .null), (17, [], .iload_n 3, 3, 0, .null), (18, [], .invokestatic 74, 142, 1, .null), (21, [], .ifCond .eq 17, 0, 38, .null), (24, [], .iload 4, 4, 0, .null), (26, [], .invokestatic 74, 142, 1, .null), (29, [], .ifCond .eq 9, 0, 38, .null), (32, [], .iload 4, 4, 0, .null), (34, [], .iload_n 3, 3, 0, .null), (35, [], .if_icmp .ge 10, 0, 45, .null), (38, [], .aload_n 0, 0, 0, .null), (39, [], .ldc 65, 0, 0, .int (-1000001)), (41, [], .invokevirtual 84, 136, 2, .ref 8), (44, [], .ireturn, 0, 0, .null), (45, [], .aload_n 0, 0, 0, .null), (46, [], .iload_n 1, 1, 0, .null), (47, [], .iload_n 2, 2, 0, .null), (48, [], .iload_n 3, 3, 0, .null), (49, [], .iload 4, 4, 0, .null), (51, [], .invokevirtual 178, 184, 5, .ref 8), (54, [], .iconst 1, 0, 0, .int 1), (55, [], .ireturn, 0, 0, .null)]
abbrev jX9_where : Nat := 187
def kX9_where : List xE := [(0, [], .iload_n 1, 1, 0, .null), (1, [], .invokestatic 175, 144, 1, .null), (4, [], .ifCond .eq 19, 0, 23, .null), (7, [], .iload_n 2, 2, 0, .null), (8, [], .invokestatic 74, 142, 1, .null), (11, [], .ifCond .eq 12, 0, 23, .null), (14, [], .aload_n 0, 0, 0, .null), (15, [], .iload_n 1, 1, 0, .null), (16, [], .iload_n 2, 2, 0, .null), (17, [], .invokevirtual 172, 183, 3, .ref 8), (20, [], .goto 9, 0, 29, .null), (23, [], .aload_n 0, 0, 0, .null), (24, [], .ldc 65, 0, 0, .int (-1000001)), (26, [], .invokevirtual 84, 136, 2, .ref 8), (29, [], .ireturn, 0, 0, .null)]
abbrev jX9_hearsIt : Nat := 188
def kX9_hearsIt : List xE := [(0, [], .aload_n 0, 0, 0, .null), (1, [], .iload_n 1, 1, 0, .null), (2, [], .aload_n 0, 0, 0, .null), (3, [], .iload_n 2, 2, 0, .null), (4, [], .iconst 4, 0, 0, .int 4), (5, [], .invokevirtual 122, 157, 3, .ref 8), (8, [], .invokevirtual 172, 183, 3, .ref 8), (11, [], .istore 4, 4, 0, .null), (13, [], .iload 4, 4, 0, .null), (15, [], .ifCond .lt 29, 0, 44, .null), (18, [], .aload_n 0, 0, 0, .null), (19, [], .iload_n 2, 2, 0, .null), (20, [], .iload_n 3, 3, 0, .null), (21, [], .invokevirtual 146, 169, 3, .ref 8), (24, [], .ifCond .eq 20, 0, 44, .null), (27, [], .aload_n 0, 0, 0, .null), (28, [], .iload_n 2, 2, 0, .null), (29, [], .invokevirtual 152, 172, 2, .ref 8), (32, [], .iload 4, 4, 0, .null), (34, [], .invokestatic 155, 138, 2, .null), (37, [], .ifCond .eq 7, 0, 44, .null), (40, [], .iconst 1, 0, 0, .int 1), (41, [], .goto 4, 0, 45, .null), (44, [], .iconst 0, 0, 0, .int 0), (45, [], .ireturn, 0, 0, .null)]
abbrev jX9_hears : Nat := 189
def kX9_hears : List xE := [(0, [], .iload_n 1, 1, 0, .null), (1, [], .invokestatic 175, 144, 1, .null), (4, [], .ifCond .eq 10, 0, 14, .null), (7, [], .iload_n 2, 2, 0, .null), (8, [], .invokestatic 70, 141, 1, .null), (11, [], .ifCond .ne 10, 0, 21, .null), (14, [], .aload_n 0, 0, 0, .null), (15, [], .ldc 65, 0, 0, .int (-1000001)), (17, [], .invokevirtual 84, 136, 2, .ref 8), (20, [], .ireturn, 0, 0, .null), (21, [], .iconst 0, 0, 0, .int 0), (22, [], .istore_n 3, 3, 0, .null), (23, [], .iconst 0, 0, 0, .int 0), (24, [], .istore 4, 4, 0, .null), (26, [true, true, true, true, true], .iload 4, 4, 0, .null), (28, [], .aload_n 0, 0, 0, .null), (29, [], .getfield 9, 8, 0, .null), (32, [], .iconst 1, 0, 0, .int 1), (33, [], .iaload, 0, 0, .null), (34, [], .if_icmp .ge 28, 0, 62, .null), (37, [], .iload_n 3, 3, 0, .null), (38, [], .aload_n 0, 0, 0, .null), (39, [], .iload_n 1, 1, 0, .null), (40, [], .iload 4, 4, 0, .null), (42, [], .iload_n 2, 2, 0, .null), (43, [], .invokevirtual 182, 188, 4, .ref 8), (46, [], .ifCond .eq 7, 0, 53, .null), (49, [], .iconst 1, 0, 0, .int 1), (50, [], .goto 4, 0, 54, .null), (53, [], .iconst 0, 0, 0, .int 0), (54, [], .iadd, 0, 0, .null), (55, [], .istore_n 3, 3, 0, .null), (56, [], .iinc 4 1, 4, 0, .int 1), (59, [], .goto (-33), 0, 26, .null), (62, [], .iload_n 3, 3, 0, .null), (63, [], .ireturn, 0, 0, .null)]
abbrev jX9_first : Nat := 190
def kX9_first : List xE := [(0, [], .iload_n 1, 1, 0, .null), (1, [], .invokestatic 175, 144, 1, .null), (4, [], .ifCond .eq 13, 0, 17, .null), (7, [], .iload_n 2, 2, 0, .null), (8, [], .iconst 0, 0, 0, .int 0), (9, [], .bipush 15, 0, 0, .int 15), (11, [], .invokestatic 66, 137, 3, .null), (14, [], .ifCond .ne 10, 0, 24, .null), (17, [], .aload_n 0, 0, 0, .null), (18, [], .ldc 65, 0, 0, .int (-1000001)), (20, [], .invokevirtual 84, 136, 2, .ref 8), (23, [], .ireturn, 0, 0, .null), (24, [], .aload_n 0, 0, 0, .null), (25, [], .getfield 9, 8, 0, .null), (28, [], .iconst 0, 0, 0, .int 0), (29, [], .iaload, 0, 0, .null), (30, [], .iconst 1, 0, 0, .int 1), (31, [], .iadd, 0, 0, .null), (32, [], .istore_n 3, 3, 0, .null), (33, [true, true, true, true, false], .iload_n 3, 3, 0, .null), (34, [], .bipush 100, 0, 0, .int 100), (36, [], .if_icmp .ge 53, 0, 89, .null), (39, [], .iconst 0, 0, 0, .int 0), (40, [], .istore 4, 4, 0, .null), (42, [true, true, true, true, true], .iload 4, 4, 0, .null), (44, [], .aload_n 0, 0, 0, .null), (45, [], .getfield 9, 8, 0, .null), (48, [], .iconst 1, 0, 0, .int 1), (49, [], .iaload, 0, 0, .null), (50, [], .if_icmp .ge 33, 0, 83, .null), (53, [], .aload_n 0, 0, 0, .null), (54, [], .iload 4, 4, 0, .null), (56, [], .iconst 1, 0, 0, .int 1), (57, [], .invokevirtual 122, 157, 3, .ref 8), (60, [], .iload_n 2, 2, 0, .null), (61, [], .if_icmp .ne 16, 0, 77, .null), (64, [], .aload_n 0, 0, 0, .null), (65, [], .iload_n 1, 1, 0, .null), (66, [], .iload 4, 4, 0, .null), (68, [], .iload_n 3, 3, 0, .null), (69, [], .invokevirtual 182, 188, 4, .ref 8), (72, [], .ifCond .eq 5, 0, 77, .null), (75, [], .iload_n 3, 3, 0, .null), (76, [], .ireturn, 0, 0, .null), (77, [], .iinc 4 1, 4, 0, .int 1), (80, [], .goto (-38), 0, 42, .null), (83, [], .iinc 3 1, 3, 0, .int 1), (86, [], .goto (-53), 0, 33, .null), (89, [], .aload_n 0, 0, 0, .null), (90, [], .ldc 108, 0, 0, .int (-1000004)), (92, [], .invokevirtual 84, 136, 2, .ref 8), (95, [], .ireturn, 0, 0, .null)]
abbrev jX9_who : Nat := 191
def kX9_who : List xE := [(0, [], .aload_n 0, 0, 0, .null), (1, [], .iload_n 1, 1, 0, .null), (2, [], .invokevirtual 128, 145, 2, .ref 8), (5, [], .ifCond .ne 10, 0, 15, .null), (8, [], .aload_n 0, 0, 0, .null), (9, [], .ldc 65, 0, 0, .int (-1000001)), (11, [], .invokevirtual 84, 136, 2, .ref 8), (14, [], .ireturn, 0, 0, .null), (15, [], .iconst 0, 0, 0, .int 0), (16, [], .istore_n 2, 2, 0, .null), (17, [], .iconst 0, 0, 0, .int 0), (18, [], .istore_n 3, 3, 0, .null), (19, [true, true, true, true, false, false], .iload_n 3, 3, 0, .null), (20, [], .bipush 6, 0, 0, .int 6), (22, [], .if_icmp .ge 65, 0, 87, .null), (25, [], .iconst 0, 0, 0, .int 0), (26, [], .istore 4, 4, 0, .null), (28, [], .aload_n 0, 0, 0, .null), (29, [], .iload_n 1, 1, 0, .null), (30, [], .iconst 5, 0, 0, .int 5), (31, [], .invokevirtual 122, 157, 3, .ref 8), (34, [], .iconst 1, 0, 0, .int 1), (35, [], .iadd, 0, 0, .null), (36, [], .istore 5, 5, 0, .null), (38, [true, true, true, true, true, true], .iload 5, 5, 0, .null), (40, [], .bipush 100, 0, 0, .int 100), (42, [], .if_icmp .ge 24, 0, 66, .null), (45, [], .iload 4, 4, 0, .null), (47, [], .ifCond .ne 19, 0, 66, .null), (50, [], .aload_n 0, 0, 0, .null), (51, [], .iload_n 3, 3, 0, .null), (52, [], .iload_n 1, 1, 0, .null), (53, [], .iload 5, 5, 0, .null), (55, [], .invokevirtual 182, 188, 4, .ref 8), (58, [], .istore 4, 4, 0, .null), (60, [], .iinc 5 1, 5, 0, .int 1), (63, [], .goto (-25), 0, 38, .null), (66, [], .iload_n 2, 2, 0, .null), (67, [], .iload 4, 4, 0, .null), (69, [], .ifCond .eq 9, 0, 78, .null), (72, [], .iconst 1, 0, 0, .int 1), (73, [], .iload_n 3, 3, 0, .null), (74, [], .ishl, 0, 0, .null), (75, [], .goto 4, 0, 79, .null), (78, [], .iconst 0, 0, 0, .int 0), (79, [], .ior, 0, 0, .null), (80, [], .istore_n 2, 2, 0, .null), (81, [], .iinc 3 1, 3, 0, .int 1), (84, [], .goto (-65), 0, 19, .null), (87, [], .iload_n 2, 2, 0, .null), (88, [], .ireturn, 0, 0, .null)]
abbrev jX9_said : Nat := 192
def kX9_said : List xE := [(0, [], .aload_n 0, 0, 0, .null), (1, [], .iload_n 1, 1, 0, .null), (2, [], .invokevirtual 128, 145, 2, .ref 8), (5, [], .ifCond .ne 10, 0, 15, .null), (8, [], .aload_n 0, 0, 0, .null), (9, [], .ldc 65, 0, 0, .int (-1000001)), (11, [], .invokevirtual 84, 136, 2, .ref 8), (14, [], .ireturn, 0, 0, .null), (15, [], .iconst 0, 0, 0, .int 0), (16, [], .istore_n 2, 2, 0, .null), (17, [], .iconst 0, 0, 0, .int 0), (18, [], .istore_n 3, 3, 0, .null), (19, [true, true, true, true], .iload_n 3, 3, 0, .null), (20, [], .bipush 6, 0, 0, .int 6), (22, [], .if_icmp .ge 39, 0, 61, .null), (25, [], .iload_n 2, 2, 0, .null), (26, [], .aload_n 0, 0, 0, .null), (27, [], .iload_n 3, 3, 0, .null), (28, [], .aload_n 0, 0, 0, .null), (29, [], .iload_n 1, 1, 0, .null), (30, [], .iconst 4, 0, 0, .int 4), (31, [], .invokevirtual 122, 157, 3, .ref 8), (34, [], .invokevirtual 172, 183, 3, .ref 8), (37, [], .aload_n 0, 0, 0, .null), (38, [], .iload_n 1, 1, 0, .null), (39, [], .iconst 3, 0, 0, .int 3), (40, [], .invokevirtual 122, 157, 3, .ref 8), (43, [], .if_icmp .ne 9, 0, 52, .null), (46, [], .iconst 1, 0, 0, .int 1), (47, [], .iload_n 3, 3, 0, .null), (48, [], .ishl, 0, 0, .null), (49, [], .goto 4, 0, 53, .null), (52, [], .iconst 0, 0, 0, .int 0), (53, [], .ior, 0, 0, .null), (54, [], .istore_n 2, 2, 0, .null), (55, [], .iinc 3 1, 3, 0, .int 1), (58, [], .goto (-39), 0, 19, .null), (61, [], .iload_n 2, 2, 0, .null), (62, [], .ireturn, 0, 0, .null)]
abbrev jX9_tell : Nat := 193
def kX9_tell : List xE := [(0, [], .iload_n 1, 1, 0, .null), (1, [], .invokestatic 175, 144, 1, .null), (4, [], .ifCond .eq 15, 0, 19, .null), (7, [], .iload_n 2, 2, 0, .null), (8, [], .invokestatic 175, 144, 1, .null), (11, [], .ifCond .eq 8, 0, 19, .null), (14, [], .iload_n 1, 1, 0, .null), (15, [], .iload_n 2, 2, 0, .null), (16, [], .if_icmp .ne 10, 0, 26, .null), (19, [], .aload_n 0, 0, 0, .null), (20, [], .ldc 65, 0, 0, .int (-1000001)), (22, [], .invokevirtual 84, 136, 2, .ref 8), (25, [], .ireturn, 0, 0, .null), (26, [], .iconst 1, 0, 0, .int 1), (27, [], .istore_n 3, 3, 0, .null), (28, [true, true, true, true, false, false], .iload_n 3, 3, 0, .null), (29, [], .bipush 9, 0, 0, .int 9), (31, [], .if_icmp .gt 82, 0, 113, .null), (34, [], .iconst 0, 0, 0, .int 0), (35, [], .istore 4, 4, 0, .null), (37, [true, true, true, true, true, false], .iload 4, 4, 0, .null), (39, [], .bipush 24, 0, 0, .int 24), (41, [], .if_icmp .ge 66, 0, 107, .null), (44, [], .iconst 0, 0, 0, .int 0), (45, [], .istore 5, 5, 0, .null), (47, [true, true, true, true, true, true], .iload 5, 5, 0, .null), (49, [], .bipush 10, 0, 0, .int 10), (51, [], .if_icmp .ge 50, 0, 101, .null), (54, [], .aload_n 0, 0, 0, .null), (55, [], .iload_n 1, 1, 0, .null), (56, [], .iload 5, 5, 0, .null), (58, [], .iload_n 3, 3, 0, .null), (59, [], .iload 4, 4, 0, .null), (61, [], .invokevirtual 185, 194, 5, .ref 8), (64, [], .ifCond .eq 31, 0, 95, .null), (67, [], .aload_n 0, 0, 0, .null), (68, [], .iload_n 2, 2, 0, .null), (69, [], .iload 5, 5, 0, .null), (71, [], .iload_n 3, 3, 0, .null), (72, [], .iload 4, 4, 0, .null), (74, [], .invokevirtual 185, 194, 5, .ref 8), (77, [], .ifCond .ne 18, 0, 95, .null), (80, [], .sipush 10000, 0, 0, .int 10000), (83, [], .iload_n 3, 3, 0, .null), (84, [], .imul, 0, 0, .null), (85, [], .bipush 100, 0, 0, .int 100), (87, [], .iload 4, 4, 0, .null), (89, [], .imul, 0, 0, .null), (90, [], .iadd, 0, 0, .null), (91, [], .iload 5, 5, 0, .null), (93, [], .iadd, 0, 0, .null), (94, [], .ireturn, 0, 0, .null), (95, [], .iinc 5 1, 5, 0, .int 1), (98, [], .goto (-51), 0, 47, .null), (101, [], .iinc 4 1, 4, 0, .int 1), (104, [], .goto (-67), 0, 37, .null), (107, [], .iinc 3 1, 3, 0, .int 1), (110, [], .goto (-82), 0, 28, .null), (113, [], .aload_n 0, 0, 0, .null), (114, [], .ldc 108, 0, 0, .int (-1000004)), (116, [], .invokevirtual 84, 136, 2, .ref 8), (119, [], .ireturn, 0, 0, .null)]
abbrev jX9_isNear : Nat := 194
def kX9_isNear : List xE := [(0, [], .aload_n 0, 0, 0, .null), (1, [], .iload_n 1, 1, 0, .null), (2, [], .iload 4, 4, 0, .null), (4, [], .invokevirtual 172, 183, 3, .ref 8), (7, [], .istore 5, 5, 0, .null), (9, [], .iload 5, 5, 0, .null), (11, [], .ifCond .lt 23, 0, 34, .null), (14, [], .aload_n 0, 0, 0, .null), (15, [], .iload_n 2, 2, 0, .null), (16, [], .iload_n 3, 3, 0, .null), (17, [], .iconst 3, 0, 0, .int 3), (18, [], .idiv, 0, 0, .null), (19, [], .invokevirtual 149, 171, 3, .ref 8), (22, [], .iload 5, 5, 0, .null), (24, [], .invokestatic 155, 138, 2, .null), (27, [], .ifCond .eq 7, 0, 34, .null), (30, [], .iconst 1, 0, 0, .int 1), (31, [], .goto 4, 0, 35, .null), (34, [], .iconst 0, 0, 0, .int 0), (35, [], .ireturn, 0, 0, .null)]
abbrev jX9_needs : Nat := 195
def kX9_needs : List xE := [(0, [], .iload_n 1, 1, 0, .null), (1, [], .invokestatic 70, 141, 1, .null), (4, [], .ifCond .ne 10, 0, 14, .null), (7, [], .aload_n 0, 0, 0, .null), (8, [], .ldc 65, 0, 0, .int (-1000001)), (10, [], .invokevirtual 84, 136, 2, .ref 8), (13, [], .ireturn, 0, 0, .null), (14, [], .iload_n 1, 1, 0, .null), (15, [], .aload_n 0, 0, 0, .null), (16, [], .getfield 9, 8, 0, .null), (19, [], .iconst 0, 0, 0, .int 0), (20, [], .iaload, 0, 0, .null), (21, [], .if_icmp .gt 10, 0, 31, .null), (24, [], .aload_n 0, 0, 0, .null), (25, [], .ldc 109, 0, 0, .int (-1000005)), (27, [], .invokevirtual 84, 136, 2, .ref 8), (30, [], .ireturn, 0, 0, .null), (31, [], .iconst 0, 0, 0, .int 0), (32, [], .istore_n 2, 2, 0, .null), (33, [], .aload_n 0, 0, 0, .null), (34, [], .getfield 9, 8, 0, .null), (37, [], .iconst 0, 0, 0, .int 0), (38, [], .iaload, 0, 0, .null), (39, [], .istore_n 3, 3, 0, .null), (40, [true, true, true, true, false, false], .iload_n 3, 3, 0, .null), (41, [], .iload_n 1, 1, 0, .null), (42, [], .if_icmp .ge 84, 0, 126, .null), (45, [], .iconst 0, 0, 0, .int 0), (46, [], .istore 4, 4, 0, .null), (48, [], .iload_n 3, 3, 0, .null), (49, [], .istore 5, 5, 0, .null), (51, [true, true, true, true, true, true], .iload 5, 5, 0, .null), (53, [], .iload_n 1, 1, 0, .null), (54, [], .if_icmp .ge 50, 0, 104, .null), (57, [], .iload 4, 4, 0, .null), (59, [], .iconst 1, 0, 0, .int 1), (60, [], .iadd, 0, 0, .null), (61, [], .aload_n 0, 0, 0, .null), (62, [], .getfield 9, 8, 0, .null), (65, [], .iconst 4, 0, 0, .int 4), (66, [], .iload 5, 5, 0, .null), (68, [], .iadd, 0, 0, .null), (69, [], .iconst 1, 0, 0, .int 1), (70, [], .iadd, 0, 0, .null), (71, [], .iaload, 0, 0, .null), (72, [], .iadd, 0, 0, .null), (73, [], .aload_n 0, 0, 0, .null), (74, [], .getfield 9, 8, 0, .null), (77, [], .iconst 2, 0, 0, .int 2), (78, [], .iaload, 0, 0, .null), (79, [], .if_icmp .gt 25, 0, 104, .null), (82, [], .iinc 5 1, 5, 0, .int 1), (85, [], .iload 4, 4, 0, .null), (87, [], .iconst 1, 0, 0, .int 1), (88, [], .aload_n 0, 0, 0, .null), (89, [], .getfield 9, 8, 0, .null), (92, [], .iconst 4, 0, 0, .int 4), (93, [], .iload 5, 5, 0, .null), (95, [], .iadd, 0, 0, .null), (96, [], .iaload, 0, 0, .null), (97, [], .iadd, 0, 0, .null), (98, [], .iadd, 0, 0, .null), (99, [], .istore 4, 4, 0, .null), (101, [], .goto (-50), 0, 51, .null), (104, [], .iload 5, 5, 0, .null), (106, [], .iload_n 3, 3, 0, .null), (107, [], .if_icmp .ne 10, 0, 117, .null), (110, [], .aload_n 0, 0, 0, .null), (111, [], .ldc 108, 0, 0, .int (-1000004)), (113, [], .invokevirtual 84, 136, 2, .ref 8), (116, [], .ireturn, 0, 0, .null), (117, [], .iload 5, 5, 0, .null), (119, [], .istore_n 3, 3, 0, .null), (120, [], .iinc 2 1, 2, 0, .int 1), (123, [], .goto (-83), 0, 40, .null), (126, [], .iload_n 2, 2, 0, .null), (127, [], .ireturn, 0, 0, .null)]
abbrev jX9_walk : Nat := 196
def kX9_walk_0 : List xE := [(0, [], .iload_n 1, 1, 0, .null), (1, [], .invokestatic 81, 140, 1, .null), (4, [], .ifCond .eq 31, 0, 35, .null), (7, [], .iload_n 2, 2, 0, .null), (8, [], .invokestatic 162, 143, 1, .null), (11, [], .ifCond .eq 24, 0, 35, .null), (14, [], .iload_n 3, 3, 0, .null), (15, [], .iconst 1, 0, 0, .int 1), (16, [], .bipush 24, 0, 0, .int 24), (18, [], .invokestatic 66, 137, 3, .null), (21, [], .ifCond .eq 14, 0, 35, .null), (24, [], .iload_n 2, 2, 0, .null), (25, [], .bipush 100, 0, 0, .int 100), (27, [], .irem, 0, 0, .null), (28, [], .iload_n 3, 3, 0, .null), (29, [], .iadd, 0, 0, .null), (30, [], .bipush 24, 0, 0, .int 24), (32, [], .if_icmp .le 10, 0, 42, .null), (35, [], .aload_n 0, 0, 0, .null), (36, [], .ldc 65, 0, 0, .int (-1000001)), (38, [], .invokevirtual 84, 136, 2, .ref 8), (41, [], .ireturn, 0, 0, .null), (42, [], .iload_n 3, 3, 0, .null), (43, [], .iconst 1, 0, 0, .int 1), (44, [], .isub, 0, 0, .null), (45, [], .istore 4, 4, 0, .null), (47, [true, true, true, true, true, false, false, false, false], .iload 4, 4, 0, .null), (49, [], .ifCond .lt 130, 0, 179, .null), (52, [], .iconst 0, 0, 0, .int 0), (53, [], .istore 5, 5, 0, .null), (55, [true, true, true, true, true, true, false, false, false], .iload 5, 5, 0, .null), (57, [], .bipush 10, 0, 0, .int 10), (59, [], .if_icmp .ge 114, 0, 173, .null), (62, [], .iconst 0, 0, 0, .int 0), (63, [], .istore 6, 6, 0, .null), (65, [], .iconst 0, 0, 0, .int 0), (66, [], .istore 7, 7, 0, .null), (68, [true, true, true, true, true, true, true, true, false], .iload 7, 7, 0, .null), (70, [], .bipush 10, 0, 0, .int 10), (72, [], .if_icmp .ge 62, 0, 134, .null), (75, [], .iload 4, 4, 0, .null), (77, [], .iload_n 3, 3, 0, .null), (78, [], .iconst 1, 0, 0, .int 1), (79, [], .isub, 0, 0, .null), (80, [], .if_icmp .ge 54, 0, 134, .null), (83, [], .iload 5, 5, 0, .null), (85, [], .iload 7, 7, 0, .null), (87, [], .if_icmp .eq 14, 0, 101, .null), (90, [], .aload_n 0, 0, 0, .null), (91, [], .iload 5, 5, 0, .null), (93, [], .iload 7, 7, 0, .null), (95, [], .invokevirtual 88, 146, 3, .ref 8), (98, [], .ifCond .eq 26, 0, 124, .null), (101, [], .iload 6, 6, 0, .null), (103, [], .aload_n 0, 0, 0, .null), (104, [], .getfield 22, 8, 6, .null), (107, [], .bipush 10, 0, 0, .int 10), (109, [], .iload 4, 4, 0, .null), (111, [], .iconst 1, 0, 0, .int 1), (112, [], .iadd, 0, 0, .null), (113, [], .imul, 0, 0, .null), (114, [], .iload 7, 7, 0, .null), (116, [], .iadd, 0, 0, .null), (117, [], .iaload, 0, 0, .null), (118, [], .invokestatic 125, 996, 2, .null), (121, [], .goto 5, 0, 126, .null), (124, [], .iload 6, 6, 0, .null), (126, [], .istore 6, 6, 0, .null), (128, [], .iinc 7 1, 7, 0, .int 1), (131, [], .goto (-63), 0, 68, .null), (134, [], .aload_n 0, 0, 0, .null), (135, [], .getfield 22, 8, 6, .null), (138, [], .bipush 10, 0, 0, .int 10), (140, [], .iload 4, 4, 0, .null), (142, [], .imul, 0, 0, .null), (143, [], .iload 5, 5, 0, .null), (145, [], .iadd, 0, 0, .null), (146, [], .iload 6, 6, 0, .null), (148, [], .aload_n 0, 0, 0, .null), (149, [], .iload 5, 5, 0, .null), (151, [], .iload_n 2, 2, 0, .null), (152, [], .bipush 100, 0, 0, .int 100), (154, [], .idiv, 0, 0, .null), (155, [], .iload_n 2, 2, 0, .null), (156, [], .bipush 100, 0, 0, .int 100), (158, [], .irem, 0, 0, .null), (159, [], .iload 4, 4, 0, .null), (161, [], .iadd, 0, 0, .null), (162, [], .invokevirtual 165, 176, 4, .ref 8), (165, [], .iadd, 0, 0, .null), (166, [], .iastore, 0, 0, .null), (167, [], .iinc 5 1, 5, 0, .int 1), (170, [], .goto (-115), 0, 55, .null), (173, [], .iinc 4 (-1), 4, 0, .int (-1)), (176, [], .goto (-129), 0, 47, .null), (179, [], .aload_n 0, 0, 0, .null), (180, [], .iload_n 3, 3, 0, .null), (181, [], .putfield 188, 8, 8, .int 0), (184, [], .aload_n 0, 0, 0, .null), (185, [], .getfield 25, 8, 7, .null)]
def kX9_walk_1 : List xE := [(188, [], .iconst 0, 0, 0, .int 0), (189, [], .iload_n 1, 1, 0, .null), (190, [], .iastore, 0, 0, .null), (191, [], .iconst 1, 0, 0, .int 1), (192, [], .istore 4, 4, 0, .null), (194, [true, true, false, true, true, false, false, false, false], .iload 4, 4, 0, .null), (196, [], .iload_n 3, 3, 0, .null), (197, [], .if_icmp .ge 121, 0, 318, .null), (200, [], .aload_n 0, 0, 0, .null), (201, [], .getfield 25, 8, 7, .null), (204, [], .iload 4, 4, 0, .null), (206, [], .iconst 1, 0, 0, .int 1), (207, [], .isub, 0, 0, .null), (208, [], .iaload, 0, 0, .null), (209, [], .istore 5, 5, 0, .null), (211, [], .iconst (-1), 0, 0, .int (-1)), (212, [], .istore 6, 6, 0, .null), (214, [], .iconst 0, 0, 0, .int 0), (215, [], .istore 7, 7, 0, .null), (217, [true, true, false, true, true, true, true, true, false], .iload 7, 7, 0, .null), (219, [], .bipush 10, 0, 0, .int 10), (221, [], .if_icmp .ge 82, 0, 303, .null), (224, [], .iload 5, 5, 0, .null), (226, [], .iload 7, 7, 0, .null), (228, [], .if_icmp .eq 14, 0, 242, .null), (231, [], .aload_n 0, 0, 0, .null), (232, [], .iload 5, 5, 0, .null), (234, [], .iload 7, 7, 0, .null), (236, [], .invokevirtual 88, 146, 3, .ref 8), (239, [], .ifCond .eq 7, 0, 246, .null), (242, [], .iconst 1, 0, 0, .int 1), (243, [], .goto 4, 0, 247, .null), (246, [], .iconst 0, 0, 0, .int 0), (247, [], .istore 8, 8, 0, .null), (249, [], .iload 8, 8, 0, .null), (251, [], .ifCond .eq 42, 0, 293, .null), (254, [], .iload 6, 6, 0, .null), (256, [], .ifCond .lt 32, 0, 288, .null), (259, [], .aload_n 0, 0, 0, .null), (260, [], .getfield 22, 8, 6, .null), (263, [], .bipush 10, 0, 0, .int 10), (265, [], .iload 4, 4, 0, .null), (267, [], .imul, 0, 0, .null), (268, [], .iload 7, 7, 0, .null), (270, [], .iadd, 0, 0, .null), (271, [], .iaload, 0, 0, .null), (272, [], .aload_n 0, 0, 0, .null), (273, [], .getfield 22, 8, 6, .null), (276, [], .bipush 10, 0, 0, .int 10), (278, [], .iload 4, 4, 0, .null), (280, [], .imul, 0, 0, .null), (281, [], .iload 6, 6, 0, .null), (283, [], .iadd, 0, 0, .null), (284, [], .iaload, 0, 0, .null), (285, [], .if_icmp .le 8, 0, 293, .null), (288, [], .iload 7, 7, 0, .null), (290, [], .goto 5, 0, 295, .null), (293, [], .iload 6, 6, 0, .null), (295, [], .istore 6, 6, 0, .null), (297, [], .iinc 7 1, 7, 0, .int 1), (300, [], .goto (-83), 0, 217, .null), (303, [], .aload_n 0, 0, 0, .null), (304, [], .getfield 25, 8, 7, .null), (307, [], .iload 4, 4, 0, .null), (309, [], .iload 6, 6, 0, .null), (311, [], .iastore, 0, 0, .null), (312, [], .iinc 4 1, 4, 0, .int 1), (315, [], .goto (-121), 0, 194, .null), (318, [], .aload_n 0, 0, 0, .null), (319, [], .getfield 22, 8, 6, .null), (322, [], .iload_n 1, 1, 0, .null), (323, [], .iaload, 0, 0, .null), (324, [], .ireturn, 0, 0, .null)]
def kX9_walk : List xE := kX9_walk_0 ++ (kX9_walk_1)
abbrev jX9_step : Nat := 197
def kX9_step : List xE := [(0, [], .iload_n 1, 1, 0, .null), (1, [], .invokestatic 74, 142, 1, .null), (4, [], .ifCond .ne 10, 0, 14, .null), (7, [], .aload_n 0, 0, 0, .null), (8, [], .ldc 65, 0, 0, .int (-1000001)), (10, [], .invokevirtual 84, 136, 2, .ref 8), (13, [], .ireturn, 0, 0, .null), (14, [], .iload_n 1, 1, 0, .null), (15, [], .aload_n 0, 0, 0, .null), (16, [], .getfield 188, 8, 8, .int 0), (19, [], .if_icmp .ge 12, 0, 31, .null), (22, [], .aload_n 0, 0, 0, .null), (23, [], .getfield 25, 8, 7, .null), (26, [], .iload_n 1, 1, 0, .null), (27, [], .iaload, 0, 0, .null), (28, [], .goto 9, 0, 37, .null), (31, [], .aload_n 0, 0, 0, .null), (32, [], .ldc 108, 0, 0, .int (-1000004)), (34, [], .invokevirtual 84, 136, 2, .ref 8), (37, [], .ireturn, 0, 0, .null)]
abbrev jX9_crowd : Nat := 198
def kX9_crowd : List xE := [(0, [], .iconst (-1), 0, 0, .int (-1)), (1, [], .istore_n 1, 1, 0, .null), (2, [], .iconst 0, 0, 0, .int 0), (3, [], .istore_n 2, 2, 0, .null), (4, [], .iconst 0, 0, 0, .int 0), (5, [], .istore_n 3, 3, 0, .null), (6, [true, true, true, true, false], .iload_n 3, 3, 0, .null), (7, [], .bipush 24, 0, 0, .int 24), (9, [], .if_icmp .ge 52, 0, 61, .null), (12, [], .iconst 0, 0, 0, .int 0), (13, [], .istore 4, 4, 0, .null), (15, [true, true, true, true, true], .iload 4, 4, 0, .null), (17, [], .bipush 10, 0, 0, .int 10), (19, [], .if_icmp .ge 36, 0, 55, .null), (22, [], .aload_n 0, 0, 0, .null), (23, [], .iload 4, 4, 0, .null), (25, [], .iload_n 3, 3, 0, .null), (26, [], .invokevirtual 169, 185, 3, .ref 8), (29, [], .iload_n 2, 2, 0, .null), (30, [], .if_icmp .le 19, 0, 49, .null), (33, [], .aload_n 0, 0, 0, .null), (34, [], .iload 4, 4, 0, .null), (36, [], .iload_n 3, 3, 0, .null), (37, [], .invokevirtual 169, 185, 3, .ref 8), (40, [], .istore_n 2, 2, 0, .null), (41, [], .bipush 100, 0, 0, .int 100), (43, [], .iload_n 3, 3, 0, .null), (44, [], .imul, 0, 0, .null), (45, [], .iload 4, 4, 0, .null), (47, [], .iadd, 0, 0, .null), (48, [], .istore_n 1, 1, 0, .null), (49, [], .iinc 4 1, 4, 0, .int 1), (52, [], .goto (-37), 0, 15, .null), (55, [], .iinc 3 1, 3, 0, .int 1), (58, [], .goto (-52), 0, 6, .null), (61, [], .iload_n 1, 1, 0, .null), (62, [], .ifCond .ge 12, 0, 74, .null), (65, [], .aload_n 0, 0, 0, .null), (66, [], .ldc 108, 0, 0, .int (-1000004)), (68, [], .invokevirtual 84, 136, 2, .ref 8), (71, [], .goto 4, 0, 75, .null), (74, [], .iload_n 1, 1, 0, .null), (75, [], .ireturn, 0, 0, .null)]
abbrev jX9_seed : Nat := 199
def kX9_seed : List xE := [(0, [], .aload_n 0, 0, 0, .null), (1, [], .iconst 3, 0, 0, .int 3), (2, [], .iload_n 1, 1, 0, .null), (3, [], .invokevirtual 110, 139, 3, .ref 8), (6, [], .ireturn, 0, 0, .null)]
abbrev jX9_feed : Nat := 200
def kX9_feed : List xE := [(0, [], .iload_n 2, 2, 0, .null), (1, [], .iconst 1, 0, 0, .int 1), (2, [], .iconst 4, 0, 0, .int 4), (3, [], .invokestatic 66, 137, 3, .null), (6, [], .ifCond .ne 10, 0, 16, .null), (9, [], .aload_n 0, 0, 0, .null), (10, [], .ldc 65, 0, 0, .int (-1000001)), (12, [], .invokevirtual 84, 136, 2, .ref 8), (15, [], .ireturn, 0, 0, .null), (16, [], .aload_n 0, 0, 0, .null), (17, [], .getfield 192, 8, 10, .int 0), (20, [], .iload_n 2, 2, 0, .null), (21, [], .iadd, 0, 0, .null), (22, [], .bipush 120, 0, 0, .int 120), (24, [], .if_icmp .le 10, 0, 34, .null), (27, [], .aload_n 0, 0, 0, .null), (28, [], .ldc 117, 0, 0, .int (-1000002)), (30, [], .invokevirtual 84, 136, 2, .ref 8), (33, [], .ireturn, 0, 0, .null), (34, [], .iload_n 2, 2, 0, .null), (35, [], .iconst 1, 0, 0, .int 1), (36, [], .isub, 0, 0, .null), (37, [], .istore_n 3, 3, 0, .null), (38, [true, true, false, true], .iload_n 3, 3, 0, .null), (39, [], .ifCond .lt 38, 0, 77, .null), (42, [], .aload_n 0, 0, 0, .null), (43, [], .getfield 28, 8, 9, .null), (46, [], .aload_n 0, 0, 0, .null), (47, [], .getfield 192, 8, 10, .int 0), (50, [], .iload_n 1, 1, 0, .null), (51, [], .bipush 8, 0, 0, .int 8), (53, [], .iload_n 3, 3, 0, .null), (54, [], .imul, 0, 0, .null), (55, [], .ishr, 0, 0, .null), (56, [], .sipush 255, 0, 0, .int 255), (59, [], .iand, 0, 0, .null), (60, [], .iastore, 0, 0, .null), (61, [], .aload_n 0, 0, 0, .null), (62, [], .dup, 0, 0, .null), (63, [], .getfield 192, 8, 10, .int 0), (66, [], .iconst 1, 0, 0, .int 1), (67, [], .iadd, 0, 0, .null), (68, [], .putfield 192, 8, 10, .int 0), (71, [], .iinc 3 (-1), 3, 0, .int (-1)), (74, [], .goto (-36), 0, 38, .null), (77, [], .aload_n 0, 0, 0, .null), (78, [], .getfield 192, 8, 10, .int 0), (81, [], .ireturn, 0, 0, .null)]
abbrev jX9_wipe : Nat := 201
def kX9_wipe : List xE := [(0, [], .aload_n 0, 0, 0, .null), (1, [], .getfield 192, 8, 10, .int 0), (4, [], .istore_n 1, 1, 0, .null), (5, [], .aload_n 0, 0, 0, .null), (6, [], .iconst 0, 0, 0, .int 0), (7, [], .putfield 192, 8, 10, .int 0), (10, [], .iload_n 1, 1, 0, .null), (11, [], .ireturn, 0, 0, .null)]
abbrev jX9_byteAt : Nat := 202
def kX9_byteAt : List xE := [(0, [], .iload_n 1, 1, 0, .null), (1, [], .aload_n 0, 0, 0, .null), (2, [], .getfield 192, 8, 10, .int 0), (5, [], .if_icmp .ge 12, 0, 17, .null), (8, [], .aload_n 0, 0, 0, .null), (9, [], .getfield 28, 8, 9, .null), (12, [], .iload_n 1, 1, 0, .null), (13, [], .iaload, 0, 0, .null), (14, [], .goto 4, 0, 18, .null), (17, [], .iconst (-1), 0, 0, .int (-1)), (18, [], .ireturn, 0, 0, .null)]
abbrev jX9_next : Nat := 203
def kX9_next : List xE := [(0, [], .aload_n 0, 0, 0, .null), (1, [], .aload_n 0, 0, 0, .null), (2, [], .getfield 195, 8, 12, .int 0), (5, [], .putfield 198, 8, 11, .int 0), (8, [true, false], .aload_n 0, 0, 0, .null), (9, [], .aload_n 0, 0, 0, .null), (10, [], .getfield 198, 8, 11, .int 0), (13, [], .invokevirtual 201, 202, 2, .ref 8), (16, [], .bipush 32, 0, 0, .int 32), (18, [], .if_icmp .ne 16, 0, 34, .null), (21, [], .aload_n 0, 0, 0, .null), (22, [], .dup, 0, 0, .null), (23, [], .getfield 198, 8, 11, .int 0), (26, [], .iconst 1, 0, 0, .int 1), (27, [], .iadd, 0, 0, .null), (28, [], .putfield 198, 8, 11, .int 0), (31, [], .goto (-23), 0, 8, .null), (34, [], .aload_n 0, 0, 0, .null), (35, [], .aload_n 0, 0, 0, .null), (36, [], .getfield 198, 8, 11, .int 0), (39, [], .invokevirtual 201, 202, 2, .ref 8), (42, [], .istore_n 1, 1, 0, .null), (43, [], .aload_n 0, 0, 0, .null), (44, [], .aload_n 0, 0, 0, .null), (45, [], .getfield 198, 8, 11, .int 0), (48, [], .putfield 195, 8, 12, .int 0), (51, [], .aload_n 0, 0, 0, .null), (52, [], .iconst 0, 0, 0, .int 0), (53, [], .putfield 204, 8, 14, .int 0), (56, [], .iload_n 1, 1, 0, .null), (57, [], .ifCond .ge 11, 0, 68, .null), (60, [], .aload_n 0, 0, 0, .null), (61, [], .iconst 0, 0, 0, .int 0), (62, [], .putfield 207, 8, 13, .int 0), (65, [], .goto 141, 0, 206, .null), (68, [], .iload_n 1, 1, 0, .null), (69, [], .bipush 97, 0, 0, .int 97), (71, [], .bipush 122, 0, 0, .int 122), (73, [], .invokestatic 66, 137, 3, .null), (76, [], .ifCond .eq 39, 0, 115, .null), (79, [], .aload_n 0, 0, 0, .null), (80, [], .iconst 1, 0, 0, .int 1), (81, [], .putfield 207, 8, 13, .int 0), (84, [true, false], .aload_n 0, 0, 0, .null), (85, [], .aload_n 0, 0, 0, .null), (86, [], .getfield 195, 8, 12, .int 0), (89, [], .invokevirtual 201, 202, 2, .ref 8), (92, [], .bipush 97, 0, 0, .int 97), (94, [], .bipush 122, 0, 0, .int 122), (96, [], .invokestatic 66, 137, 3, .null), (99, [], .ifCond .eq 107, 0, 206, .null), (102, [], .aload_n 0, 0, 0, .null), (103, [], .dup, 0, 0, .null), (104, [], .getfield 195, 8, 12, .int 0), (107, [], .iconst 1, 0, 0, .int 1), (108, [], .iadd, 0, 0, .null), (109, [], .putfield 195, 8, 12, .int 0), (112, [], .goto (-28), 0, 84, .null), (115, [], .iload_n 1, 1, 0, .null), (116, [], .bipush 48, 0, 0, .int 48), (118, [], .bipush 57, 0, 0, .int 57), (120, [], .invokestatic 66, 137, 3, .null), (123, [], .ifCond .eq 68, 0, 191, .null), (126, [], .aload_n 0, 0, 0, .null), (127, [], .iconst 2, 0, 0, .int 2), (128, [], .putfield 207, 8, 13, .int 0), (131, [true, false], .aload_n 0, 0, 0, .null), (132, [], .aload_n 0, 0, 0, .null), (133, [], .getfield 195, 8, 12, .int 0), (136, [], .invokevirtual 201, 202, 2, .ref 8), (139, [], .bipush 48, 0, 0, .int 48), (141, [], .bipush 57, 0, 0, .int 57), (143, [], .invokestatic 66, 137, 3, .null), (146, [], .ifCond .eq 60, 0, 206, .null), (149, [], .aload_n 0, 0, 0, .null), (150, [], .sipush 1000, 0, 0, .int 1000), (153, [], .bipush 10, 0, 0, .int 10), (155, [], .aload_n 0, 0, 0, .null), (156, [], .getfield 204, 8, 14, .int 0), (159, [], .imul, 0, 0, .null), (160, [], .aload_n 0, 0, 0, .null), (161, [], .aload_n 0, 0, 0, .null), (162, [], .getfield 195, 8, 12, .int 0), (165, [], .invokevirtual 201, 202, 2, .ref 8), (168, [], .iadd, 0, 0, .null), (169, [], .bipush 48, 0, 0, .int 48), (171, [], .isub, 0, 0, .null), (172, [], .invokestatic 99, 995, 2, .null), (175, [], .putfield 204, 8, 14, .int 0), (178, [], .aload_n 0, 0, 0, .null), (179, [], .dup, 0, 0, .null), (180, [], .getfield 195, 8, 12, .int 0), (183, [], .iconst 1, 0, 0, .int 1), (184, [], .iadd, 0, 0, .null), (185, [], .putfield 195, 8, 12, .int 0), (188, [], .goto (-57), 0, 131, .null), (191, [], .aload_n 0, 0, 0, .null), (192, [], .iconst 3, 0, 0, .int 3), (193, [], .putfield 207, 8, 13, .int 0), (196, [], .aload_n 0, 0, 0, .null), (197, [], .dup, 0, 0, .null), (198, [], .getfield 195, 8, 12, .int 0), (201, [], .iconst 1, 0, 0, .int 1), (202, [], .iadd, 0, 0, .null), (203, [], .putfield 195, 8, 12, .int 0), (206, [], .return_, 0, 0, .null)]
abbrev jX9_isWord : Nat := 204
def kX9_isWord : List xE := [(0, [], .aload_n 0, 0, 0, .null), (1, [], .getfield 207, 8, 13, .int 0), (4, [], .iconst 1, 0, 0, .int 1), (5, [], .if_icmp .ne 23, 0, 28, .null), (8, [], .aload_n 0, 0, 0, .null), (9, [], .getfield 195, 8, 12, .int 0), (12, [], .aload_n 0, 0, 0, .null), (13, [], .getfield 198, 8, 11, .int 0), (16, [], .isub, 0, 0, .null), (17, [], .aload_n 1, 1, 0, .null), (18, [], .invokevirtual 210, 231, 1, .ref 99), (21, [], .if_icmp .ne 7, 0, 28, .null), (24, [], .iconst 1, 0, 0, .int 1), (25, [], .goto 4, 0, 29, .null), (28, [], .iconst 0, 0, 0, .int 0), (29, [], .istore_n 2, 2, 0, .null), (30, [], .iconst 0, 0, 0, .int 0), (31, [], .istore_n 3, 3, 0, .null), (32, [true, true, true, true], .iload_n 3, 3, 0, .null), (33, [], .aload_n 1, 1, 0, .null), (34, [], .invokevirtual 210, 231, 1, .ref 99), (37, [], .if_icmp .ge 38, 0, 75, .null), (40, [], .iload_n 2, 2, 0, .null), (41, [], .ifCond .eq 34, 0, 75, .null), (44, [], .aload_n 0, 0, 0, .null), (45, [], .getfield 28, 8, 9, .null), (48, [], .aload_n 0, 0, 0, .null), (49, [], .getfield 198, 8, 11, .int 0), (52, [], .iload_n 3, 3, 0, .null), (53, [], .iadd, 0, 0, .null), (54, [], .iaload, 0, 0, .null), (55, [], .aload_n 1, 1, 0, .null), (56, [], .iload_n 3, 3, 0, .null), (57, [], .invokevirtual 214, 232, 2, .ref 99), (60, [], .if_icmp .ne 7, 0, 67, .null), (63, [], .iconst 1, 0, 0, .int 1), (64, [], .goto 4, 0, 68, .null), (67, [], .iconst 0, 0, 0, .int 0), (68, [], .istore_n 2, 2, 0, .null), (69, [], .iinc 3 1, 3, 0, .int 1), (72, [], .goto (-40), 0, 32, .null), (75, [], .iload_n 2, 2, 0, .null), (76, [], .ireturn, 0, 0, .null)]
abbrev jX9_must : Nat := 205
def kX9_must : List xE := [(0, [], .aload_n 0, 0, 0, .null), (1, [], .aload_n 0, 0, 0, .null), (2, [], .getfield 218, 8, 15, .long 0), (5, [], .ifCond .ne 7, 0, 12, .null), (8, [], .iload_n 1, 1, 0, .null), (9, [], .ifCond .ne 7, 0, 16, .null), (12, [], .iconst 1, 0, 0, .int 1), (13, [], .goto 4, 0, 17, .null), (16, [], .iconst 0, 0, 0, .int 0), (17, [], .putfield 218, 8, 15, .long 0), (20, [], .aload_n 0, 0, 0, .null), (21, [], .getfield 218, 8, 15, .long 0), (24, [], .ifCond .ne 7, 0, 31, .null), (27, [], .aload_n 0, 0, 0, .null), (28, [], .invokevirtual 221, 203, 1, .ref 8), (31, [], .return_, 0, 0, .null)]
abbrev jX9_number : Nat := 206
def kX9_number : List xE := [(0, [], .aload_n 0, 0, 0, .null), (1, [], .getfield 204, 8, 14, .int 0), (4, [], .istore 4, 4, 0, .null), (6, [], .aload_n 0, 0, 0, .null), (7, [], .aload_n 0, 0, 0, .null), (8, [], .getfield 207, 8, 13, .int 0), (11, [], .iconst 2, 0, 0, .int 2), (12, [], .if_icmp .ne 23, 0, 35, .null), (15, [], .iload 4, 4, 0, .null), (17, [], .iload_n 1, 1, 0, .null), (18, [], .iload_n 2, 2, 0, .null), (19, [], .invokestatic 66, 137, 3, .null), (22, [], .ifCond .eq 13, 0, 35, .null), (25, [], .iload 4, 4, 0, .null), (27, [], .iload_n 3, 3, 0, .null), (28, [], .if_icmp .eq 7, 0, 35, .null), (31, [], .iconst 1, 0, 0, .int 1), (32, [], .goto 4, 0, 36, .null), (35, [], .iconst 0, 0, 0, .int 0), (36, [], .invokevirtual 224, 205, 2, .ref 8), (39, [], .iload 4, 4, 0, .null), (41, [], .ireturn, 0, 0, .null)]
abbrev jX9_item : Nat := 207
def kX9_item : List xE := [(0, [], .bipush 6, 0, 0, .int 6), (2, [], .aload_n 0, 0, 0, .null), (3, [], .getfield 228, 8, 18, .int 0), (6, [], .imul, 0, 0, .null), (7, [], .istore 6, 6, 0, .null), (9, [], .aload_n 0, 0, 0, .null), (10, [], .getfield 50, 8, 17, .null), (13, [], .iload 6, 6, 0, .null), (15, [], .iload_n 1, 1, 0, .null), (16, [], .iastore, 0, 0, .null), (17, [], .aload_n 0, 0, 0, .null), (18, [], .getfield 50, 8, 17, .null), (21, [], .iload 6, 6, 0, .null), (23, [], .iconst 1, 0, 0, .int 1), (24, [], .iadd, 0, 0, .null), (25, [], .iload_n 2, 2, 0, .null), (26, [], .iastore, 0, 0, .null), (27, [], .aload_n 0, 0, 0, .null), (28, [], .getfield 50, 8, 17, .null), (31, [], .iload 6, 6, 0, .null), (33, [], .iconst 2, 0, 0, .int 2), (34, [], .iadd, 0, 0, .null), (35, [], .iload_n 3, 3, 0, .null), (36, [], .iastore, 0, 0, .null), (37, [], .aload_n 0, 0, 0, .null), (38, [], .getfield 50, 8, 17, .null), (41, [], .iload 6, 6, 0, .null), (43, [], .iconst 3, 0, 0, .int 3), (44, [], .iadd, 0, 0, .null), (45, [], .iload 4, 4, 0, .null), (47, [], .iastore, 0, 0, .null), (48, [], .aload_n 0, 0, 0, .null), (49, [], .getfield 50, 8, 17, .null), (52, [], .iload 6, 6, 0, .null), (54, [], .iconst 4, 0, 0, .int 4), (55, [], .iadd, 0, 0, .null), (56, [], .iload 5, 5, 0, .null), (58, [], .iastore, 0, 0, .null), (59, [], .aload_n 0, 0, 0, .null), (60, [], .dup, 0, 0, .null), (61, [], .getfield 228, 8, 18, .int 0), (64, [], .iconst 1, 0, 0, .int 1), (65, [], .iadd, 0, 0, .null), (66, [], .putfield 228, 8, 18, .int 0), (69, [], .return_, 0, 0, .null)]
abbrev jX9_readItem : Nat := 208
def kX9_readItem : List xE := [(0, [], .iconst (-1), 0, 0, .int (-1)), (1, [], .istore_n 1, 1, 0, .null), (2, [], .iconst 0, 0, 0, .int 0), (3, [], .istore_n 2, 2, 0, .null), (4, [true, true, true, false], .iload_n 2, 2, 0, .null), (5, [], .aload_n 0, 0, 0, .null), (6, [], .getfield 46, 8, 16, .null), (9, [], .arraylength, 0, 0, .null), (10, [], .if_icmp .ge 28, 0, 38, .null), (13, [], .aload_n 0, 0, 0, .null), (14, [], .aload_n 0, 0, 0, .null), (15, [], .getfield 46, 8, 16, .null), (18, [], .iload_n 2, 2, 0, .null), (19, [], .aaload, 0, 0, .null), (20, [], .invokevirtual 231, 204, 2, .ref 8), (23, [], .ifCond .eq 7, 0, 30, .null), (26, [], .iload_n 2, 2, 0, .null), (27, [], .goto 4, 0, 31, .null), (30, [], .iload_n 1, 1, 0, .null), (31, [], .istore_n 1, 1, 0, .null), (32, [], .iinc 2 1, 2, 0, .int 1), (35, [], .goto (-31), 0, 4, .null), (38, [], .iload_n 1, 1, 0, .null), (39, [], .ifCond .lt 11, 0, 50, .null), (42, [], .aload_n 0, 0, 0, .null), (43, [], .iload_n 1, 1, 0, .null), (44, [], .invokevirtual 235, 209, 2, .ref 8), (47, [], .goto 125, 0, 172, .null), (50, [], .aload_n 0, 0, 0, .null), (51, [], .ldc 239, 0, 0, .ref 1100), (53, [], .invokevirtual 231, 204, 2, .ref 8), (56, [], .ifCond .eq 39, 0, 95, .null), (59, [], .aload_n 0, 0, 0, .null), (60, [], .iconst 1, 0, 0, .int 1), (61, [], .invokevirtual 224, 205, 2, .ref 8), (64, [], .aload_n 0, 0, 0, .null), (65, [], .iconst 0, 0, 0, .int 0), (66, [], .bipush 9, 0, 0, .int 9), (68, [], .iconst (-1), 0, 0, .int (-1)), (69, [], .invokevirtual 241, 206, 4, .ref 8), (72, [], .istore_n 2, 2, 0, .null), (73, [], .aload_n 0, 0, 0, .null), (74, [], .iconst 0, 0, 0, .int 0), (75, [], .bipush 9, 0, 0, .int 9), (77, [], .iload_n 2, 2, 0, .null), (78, [], .invokevirtual 241, 206, 4, .ref 8), (81, [], .istore_n 3, 3, 0, .null), (82, [], .aload_n 0, 0, 0, .null), (83, [], .bipush 10, 0, 0, .int 10), (85, [], .iload_n 2, 2, 0, .null), (86, [], .iload_n 3, 3, 0, .null), (87, [], .iconst 0, 0, 0, .int 0), (88, [], .iconst 0, 0, 0, .int 0), (89, [], .invokevirtual 244, 207, 6, .ref 8), (92, [], .goto 80, 0, 172, .null), (95, [], .aload_n 0, 0, 0, .null), (96, [], .ldc 248, 0, 1, .ref 1101), (98, [], .invokevirtual 231, 204, 2, .ref 8), (101, [], .ifCond .eq 10, 0, 111, .null), (104, [], .aload_n 0, 0, 0, .null), (105, [], .invokevirtual 250, 210, 1, .ref 8), (108, [], .goto 64, 0, 172, .null), (111, [], .aload_n 0, 0, 0, .null), (112, [], .ldc 253, 0, 4, .ref 1104), (114, [], .invokevirtual 231, 204, 2, .ref 8), (117, [], .ifCond .eq 28, 0, 145, .null), (120, [], .aload_n 0, 0, 0, .null), (121, [], .iconst 1, 0, 0, .int 1), (122, [], .invokevirtual 224, 205, 2, .ref 8), (125, [], .aload_n 0, 0, 0, .null), (126, [], .bipush 12, 0, 0, .int 12), (128, [], .aload_n 0, 0, 0, .null), (129, [], .iconst 1, 0, 0, .int 1), (130, [], .bipush 20, 0, 0, .int 20), (132, [], .iconst (-1), 0, 0, .int (-1)), (133, [], .invokevirtual 241, 206, 4, .ref 8), (136, [], .iconst 0, 0, 0, .int 0), (137, [], .iconst 0, 0, 0, .int 0), (138, [], .iconst 0, 0, 0, .int 0), (139, [], .invokevirtual 244, 207, 6, .ref 8), (142, [], .goto 30, 0, 172, .null), (145, [], .aload_n 0, 0, 0, .null), (146, [], .aload_n 0, 0, 0, .null), (147, [], .ldc 255, 0, 5, .ref 1105), (149, [], .invokevirtual 231, 204, 2, .ref 8), (152, [], .invokevirtual 224, 205, 2, .ref 8), (155, [], .aload_n 0, 0, 0, .null), (156, [], .bipush 13, 0, 0, .int 13), (158, [], .aload_n 0, 0, 0, .null), (159, [], .iconst 0, 0, 0, .int 0), (160, [], .bipush 99, 0, 0, .int 99), (162, [], .iconst (-1), 0, 0, .int (-1)), (163, [], .invokevirtual 241, 206, 4, .ref 8), (166, [], .iconst 0, 0, 0, .int 0), (167, [], .iconst 0, 0, 0, .int 0), (168, [], .iconst 0, 0, 0, .int 0), (169, [], .invokevirtual 244, 207, 6, .ref 8), (172, [], .return_, 0, 0, .null)]
abbrev jX9_readSaying : Nat := 209
def kX9_readSaying : List xE := [(0, [], .aload_n 0, 0, 0, .null), (1, [], .aload_n 0, 0, 0, .null), (2, [], .getfield 9, 8, 0, .null), (5, [], .iconst 1, 0, 0, .int 1), (6, [], .iaload, 0, 0, .null), (7, [], .aload_n 0, 0, 0, .null), (8, [], .getfield 257, 8, 19, .int 0), (11, [], .iadd, 0, 0, .null), (12, [], .bipush 40, 0, 0, .int 40), (14, [], .if_icmp .ge 7, 0, 21, .null), (17, [], .iconst 1, 0, 0, .int 1), (18, [], .goto 4, 0, 22, .null), (21, [], .iconst 0, 0, 0, .int 0), (22, [], .invokevirtual 224, 205, 2, .ref 8), (25, [], .aload_n 0, 0, 0, .null), (26, [], .dup, 0, 0, .null), (27, [], .getfield 257, 8, 19, .int 0), (30, [], .iconst 1, 0, 0, .int 1), (31, [], .iadd, 0, 0, .null), (32, [], .putfield 257, 8, 19, .int 0), (35, [], .aload_n 0, 0, 0, .null), (36, [], .iconst 0, 0, 0, .int 0), (37, [], .bipush 15, 0, 0, .int 15), (39, [], .iconst (-1), 0, 0, .int (-1)), (40, [], .invokevirtual 241, 206, 4, .ref 8), (43, [], .istore_n 2, 2, 0, .null), (44, [], .aload_n 0, 0, 0, .null), (45, [], .aload_n 0, 0, 0, .null), (46, [], .ldc_w 260, 0, 2, .ref 1102), (49, [], .invokevirtual 231, 204, 2, .ref 8), (52, [], .invokevirtual 224, 205, 2, .ref 8), (55, [], .aload_n 0, 0, 0, .null), (56, [], .iconst 0, 0, 0, .int 0), (57, [], .bipush 9, 0, 0, .int 9), (59, [], .iconst (-1), 0, 0, .int (-1)), (60, [], .invokevirtual 241, 206, 4, .ref 8), (63, [], .istore_n 3, 3, 0, .null), (64, [], .aload_n 0, 0, 0, .null), (65, [], .aload_n 0, 0, 0, .null), (66, [], .ldc_w 262, 0, 13, .ref 1113), (69, [], .invokevirtual 231, 204, 2, .ref 8), (72, [], .invokevirtual 224, 205, 2, .ref 8), (75, [], .aload_n 0, 0, 0, .null), (76, [], .iconst 0, 0, 0, .int 0), (77, [], .bipush 23, 0, 0, .int 23), (79, [], .iconst (-1), 0, 0, .int (-1)), (80, [], .invokevirtual 241, 206, 4, .ref 8), (83, [], .istore 4, 4, 0, .null), (85, [], .iconst 1, 0, 0, .int 1), (86, [], .istore 5, 5, 0, .null), (88, [], .aload_n 0, 0, 0, .null), (89, [], .getfield 218, 8, 15, .long 0), (92, [], .ifCond .ne 28, 0, 120, .null), (95, [], .aload_n 0, 0, 0, .null), (96, [], .ldc_w 264, 0, 14, .ref 1114), (99, [], .invokevirtual 231, 204, 2, .ref 8), (102, [], .ifCond .eq 18, 0, 120, .null), (105, [], .aload_n 0, 0, 0, .null), (106, [], .iconst 1, 0, 0, .int 1), (107, [], .invokevirtual 224, 205, 2, .ref 8), (110, [], .aload_n 0, 0, 0, .null), (111, [], .iconst 1, 0, 0, .int 1), (112, [], .bipush 9, 0, 0, .int 9), (114, [], .iconst (-1), 0, 0, .int (-1)), (115, [], .invokevirtual 241, 206, 4, .ref 8), (118, [], .istore 5, 5, 0, .null), (120, [], .aload_n 0, 0, 0, .null), (121, [], .iload_n 1, 1, 0, .null), (122, [], .iload_n 2, 2, 0, .null), (123, [], .iload 5, 5, 0, .null), (125, [], .iload_n 3, 3, 0, .null), (126, [], .iload 4, 4, 0, .null), (128, [], .invokevirtual 244, 207, 6, .ref 8), (131, [], .return_, 0, 0, .null)]
abbrev jX9_readPerson : Nat := 210
def kX9_readPerson : List xE := [(0, [], .aload_n 0, 0, 0, .null), (1, [], .iconst 1, 0, 0, .int 1), (2, [], .invokevirtual 224, 205, 2, .ref 8), (5, [], .aload_n 0, 0, 0, .null), (6, [], .iconst 0, 0, 0, .int 0), (7, [], .iconst 5, 0, 0, .int 5), (8, [], .iconst (-1), 0, 0, .int (-1)), (9, [], .invokevirtual 241, 206, 4, .ref 8), (12, [], .istore_n 1, 1, 0, .null), (13, [], .aload_n 0, 0, 0, .null), (14, [], .aload_n 0, 0, 0, .null), (15, [], .ldc_w 260, 0, 2, .ref 1102), (18, [], .invokevirtual 231, 204, 2, .ref 8), (21, [], .invokevirtual 224, 205, 2, .ref 8), (24, [], .aload_n 0, 0, 0, .null), (25, [], .iconst 0, 0, 0, .int 0), (26, [], .bipush 9, 0, 0, .int 9), (28, [], .iconst (-1), 0, 0, .int (-1)), (29, [], .invokevirtual 241, 206, 4, .ref 8), (32, [], .istore_n 2, 2, 0, .null), (33, [], .iconst 0, 0, 0, .int 0), (34, [], .istore_n 3, 3, 0, .null), (35, [], .bipush 23, 0, 0, .int 23), (37, [], .istore 4, 4, 0, .null), (39, [], .aload_n 0, 0, 0, .null), (40, [], .getfield 218, 8, 15, .long 0), (43, [], .ifCond .ne 37, 0, 80, .null), (46, [], .aload_n 0, 0, 0, .null), (47, [], .ldc_w 266, 0, 3, .ref 1103), (50, [], .invokevirtual 231, 204, 2, .ref 8), (53, [], .ifCond .eq 27, 0, 80, .null), (56, [], .aload_n 0, 0, 0, .null), (57, [], .iconst 1, 0, 0, .int 1), (58, [], .invokevirtual 224, 205, 2, .ref 8), (61, [], .aload_n 0, 0, 0, .null), (62, [], .iconst 0, 0, 0, .int 0), (63, [], .bipush 23, 0, 0, .int 23), (65, [], .iconst (-1), 0, 0, .int (-1)), (66, [], .invokevirtual 241, 206, 4, .ref 8), (69, [], .istore_n 3, 3, 0, .null), (70, [], .aload_n 0, 0, 0, .null), (71, [], .iload_n 3, 3, 0, .null), (72, [], .bipush 23, 0, 0, .int 23), (74, [], .iconst (-1), 0, 0, .int (-1)), (75, [], .invokevirtual 241, 206, 4, .ref 8), (78, [], .istore 4, 4, 0, .null), (80, [], .aload_n 0, 0, 0, .null), (81, [], .bipush 11, 0, 0, .int 11), (83, [], .iload_n 1, 1, 0, .null), (84, [], .iload_n 2, 2, 0, .null), (85, [], .iload_n 3, 3, 0, .null), (86, [], .iload 4, 4, 0, .null), (88, [], .invokevirtual 244, 207, 6, .ref 8), (91, [], .return_, 0, 0, .null)]
abbrev jX9_isSo : Nat := 211
def kX9_isSo : List xE := [(0, [], .aload_n 0, 0, 0, .null), (1, [], .getfield 50, 8, 17, .null), (4, [], .iload_n 1, 1, 0, .null), (5, [], .iconst 1, 0, 0, .int 1), (6, [], .iadd, 0, 0, .null), (7, [], .iaload, 0, 0, .null), (8, [], .istore_n 2, 2, 0, .null), (9, [], .aload_n 0, 0, 0, .null), (10, [], .getfield 50, 8, 17, .null), (13, [], .iload_n 1, 1, 0, .null), (14, [], .iconst 2, 0, 0, .int 2), (15, [], .iadd, 0, 0, .null), (16, [], .iaload, 0, 0, .null), (17, [], .istore_n 3, 3, 0, .null), (18, [], .aload_n 0, 0, 0, .null), (19, [], .getfield 50, 8, 17, .null), (22, [], .iload_n 1, 1, 0, .null), (23, [], .iconst 3, 0, 0, .int 3), (24, [], .iadd, 0, 0, .null), (25, [], .iaload, 0, 0, .null), (26, [], .istore 4, 4, 0, .null), (28, [], .aload_n 0, 0, 0, .null), (29, [], .getfield 50, 8, 17, .null), (32, [], .iload_n 1, 1, 0, .null), (33, [], .iconst 4, 0, 0, .int 4), (34, [], .iadd, 0, 0, .null), (35, [], .iaload, 0, 0, .null), (36, [], .istore 5, 5, 0, .null), (38, [], .aload_n 0, 0, 0, .null), (39, [], .getfield 50, 8, 17, .null), (42, [], .iload_n 1, 1, 0, .null), (43, [], .iaload, 0, 0, .null), (44, [], .tableswitch 77 10 13 #[32, 42, 55, 65], 0, 0, .null), (76, [], .aload_n 0, 0, 0, .null), (77, [], .iload_n 2, 2, 0, .null), (78, [], .iload_n 3, 3, 0, .null), (79, [], .iconst 1, 0, 0, .int 1), (80, [], .invokevirtual 92, 147, 4, .ref 8), (83, [], .goto 56, 0, 139, .null), (86, [], .aload_n 0, 0, 0, .null), (87, [], .iload_n 2, 2, 0, .null), (88, [], .iload_n 3, 3, 0, .null), (89, [], .iload 4, 4, 0, .null), (91, [], .iload 5, 5, 0, .null), (93, [], .invokevirtual 178, 184, 5, .ref 8), (96, [], .goto 43, 0, 139, .null), (99, [], .aload_n 0, 0, 0, .null), (100, [], .getfield 9, 8, 0, .null), (103, [], .iconst 2, 0, 0, .int 2), (104, [], .iload_n 2, 2, 0, .null), (105, [], .iastore, 0, 0, .null), (106, [], .goto 33, 0, 139, .null), (109, [], .aload_n 0, 0, 0, .null), (110, [], .getfield 9, 8, 0, .null), (113, [], .iconst 4, 0, 0, .int 4), (114, [], .iload_n 2, 2, 0, .null), (115, [], .iadd, 0, 0, .null), (116, [], .iconst 1, 0, 0, .int 1), (117, [], .iastore, 0, 0, .null), (118, [], .goto 21, 0, 139, .null), (121, [], .aload_n 0, 0, 0, .null), (122, [], .aload_n 0, 0, 0, .null), (123, [], .getfield 50, 8, 17, .null), (126, [], .iload_n 1, 1, 0, .null), (127, [], .iaload, 0, 0, .null), (128, [], .iload_n 2, 2, 0, .null), (129, [], .iload_n 3, 3, 0, .null), (130, [], .iload 4, 4, 0, .null), (132, [], .iload 5, 5, 0, .null), (134, [], .invokevirtual 118, 158, 6, .ref 8), (137, [], .istore 6, 6, 0, .null), (139, [], .return_, 0, 0, .null)]
abbrev jX9_text : Nat := 212
def kX9_text : List xE := [(0, [], .aload_n 0, 0, 0, .null), (1, [], .iconst 0, 0, 0, .int 0), (2, [], .putfield 195, 8, 12, .int 0), (5, [], .aload_n 0, 0, 0, .null), (6, [], .iconst 0, 0, 0, .int 0), (7, [], .putfield 218, 8, 15, .long 0), (10, [], .aload_n 0, 0, 0, .null), (11, [], .iconst 0, 0, 0, .int 0), (12, [], .putfield 228, 8, 18, .int 0), (15, [], .aload_n 0, 0, 0, .null), (16, [], .iconst 0, 0, 0, .int 0), (17, [], .putfield 257, 8, 19, .int 0), (20, [], .aload_n 0, 0, 0, .null), (21, [], .invokevirtual 221, 203, 1, .ref 8), (24, [], .aload_n 0, 0, 0, .null), (25, [], .invokevirtual 268, 208, 1, .ref 8), (28, [true, false], .aload_n 0, 0, 0, .null), (29, [], .getfield 218, 8, 15, .long 0), (32, [], .ifCond .ne 37, 0, 69, .null), (35, [], .aload_n 0, 0, 0, .null), (36, [], .getfield 207, 8, 13, .int 0), (39, [], .iconst 3, 0, 0, .int 3), (40, [], .if_icmp .ne 29, 0, 69, .null), (43, [], .aload_n 0, 0, 0, .null), (44, [], .getfield 28, 8, 9, .null), (47, [], .aload_n 0, 0, 0, .null), (48, [], .getfield 198, 8, 11, .int 0), (51, [], .iaload, 0, 0, .null), (52, [], .bipush 59, 0, 0, .int 59), (54, [], .if_icmp .ne 15, 0, 69, .null), (57, [], .aload_n 0, 0, 0, .null), (58, [], .iconst 1, 0, 0, .int 1), (59, [], .invokevirtual 224, 205, 2, .ref 8), (62, [], .aload_n 0, 0, 0, .null), (63, [], .invokevirtual 268, 208, 1, .ref 8), (66, [], .goto (-38), 0, 28, .null), (69, [], .aload_n 0, 0, 0, .null), (70, [], .aload_n 0, 0, 0, .null), (71, [], .getfield 207, 8, 13, .int 0), (74, [], .ifCond .ne 7, 0, 81, .null), (77, [], .iconst 1, 0, 0, .int 1), (78, [], .goto 4, 0, 82, .null), (81, [], .iconst 0, 0, 0, .int 0), (82, [], .invokevirtual 224, 205, 2, .ref 8), (85, [], .aload_n 0, 0, 0, .null), (86, [], .iconst 0, 0, 0, .int 0), (87, [], .putfield 192, 8, 10, .int 0), (90, [], .aload_n 0, 0, 0, .null), (91, [], .getfield 218, 8, 15, .long 0), (94, [], .ifCond .eq 10, 0, 104, .null), (97, [], .iconst (-1), 0, 0, .int (-1)), (98, [], .aload_n 0, 0, 0, .null), (99, [], .getfield 198, 8, 11, .int 0), (102, [], .isub, 0, 0, .null), (103, [], .ireturn, 0, 0, .null), (104, [], .iconst 0, 0, 0, .int 0), (105, [], .istore_n 1, 1, 0, .null), (106, [true, true], .iload_n 1, 1, 0, .null), (107, [], .aload_n 0, 0, 0, .null), (108, [], .getfield 228, 8, 18, .int 0), (111, [], .if_icmp .ge 17, 0, 128, .null), (114, [], .aload_n 0, 0, 0, .null), (115, [], .bipush 6, 0, 0, .int 6), (117, [], .iload_n 1, 1, 0, .null), (118, [], .imul, 0, 0, .null), (119, [], .invokevirtual 271, 211, 2, .ref 8), (122, [], .iinc 1 1, 1, 0, .int 1), (125, [], .goto (-19), 0, 106, .null), (128, [], .aload_n 0, 0, 0, .null), (129, [], .getfield 228, 8, 18, .int 0), (132, [], .ireturn, 0, 0, .null)]
abbrev jX9_hold : Nat := 213
def kX9_hold : List xE := [(0, [], .iload_n 1, 1, 0, .null), (1, [], .iconst 0, 0, 0, .int 0), (2, [], .bipush 9, 0, 0, .int 9), (4, [], .invokestatic 66, 137, 3, .null), (7, [], .ifCond .eq 16, 0, 23, .null), (10, [], .iload_n 2, 2, 0, .null), (11, [], .iconst (-1), 0, 0, .int (-1)), (12, [], .if_icmp .eq 18, 0, 30, .null), (15, [], .aload_n 0, 0, 0, .null), (16, [], .iload_n 2, 2, 0, .null), (17, [], .invokevirtual 128, 145, 2, .ref 8), (20, [], .ifCond .ne 10, 0, 30, .null), (23, [], .aload_n 0, 0, 0, .null), (24, [], .ldc 65, 0, 0, .int (-1000001)), (26, [], .invokevirtual 84, 136, 2, .ref 8), (29, [], .ireturn, 0, 0, .null), (30, [], .aload_n 0, 0, 0, .null), (31, [], .getfield 9, 8, 0, .null), (34, [], .sipush 588, 0, 0, .int 588), (37, [], .iload_n 1, 1, 0, .null), (38, [], .iadd, 0, 0, .null), (39, [], .iload_n 2, 2, 0, .null), (40, [], .iastore, 0, 0, .null), (41, [], .iconst 1, 0, 0, .int 1), (42, [], .ireturn, 0, 0, .null)]
abbrev jX9_above : Nat := 214
def kX9_above : List xE := [(0, [], .iload_n 0, 0, 0, .null), (1, [], .ifCond .ne 7, 0, 8, .null), (4, [], .iconst (-1), 0, 0, .int (-1)), (5, [], .goto 32, 0, 37, .null), (8, [], .iload_n 0, 0, 0, .null), (9, [], .iconst 4, 0, 0, .int 4), (10, [], .if_icmp .ne 7, 0, 17, .null), (13, [], .iconst 1, 0, 0, .int 1), (14, [], .goto 23, 0, 37, .null), (17, [], .iload_n 0, 0, 0, .null), (18, [], .iconst 5, 0, 0, .int 5), (19, [], .if_icmp .ne 7, 0, 26, .null), (22, [], .iconst 3, 0, 0, .int 3), (23, [], .goto 14, 0, 37, .null), (26, [], .iload_n 0, 0, 0, .null), (27, [], .bipush 6, 0, 0, .int 6), (29, [], .if_icmp .ne 7, 0, 36, .null), (32, [], .iconst 2, 0, 0, .int 2), (33, [], .goto 4, 0, 37, .null), (36, [], .iconst 0, 0, 0, .int 0), (37, [], .ireturn, 0, 0, .null)]
abbrev jX9_as : Nat := 215
def kX9_as : List xE := [(0, [], .iload_n 1, 1, 0, .null), (1, [], .iconst 0, 0, 0, .int 0), (2, [], .bipush 9, 0, 0, .int 9), (4, [], .invokestatic 66, 137, 3, .null), (7, [], .ifCond .eq 13, 0, 20, .null), (10, [], .iload_n 2, 2, 0, .null), (11, [], .iconst 0, 0, 0, .int 0), (12, [], .bipush 6, 0, 0, .int 6), (14, [], .invokestatic 66, 137, 3, .null), (17, [], .ifCond .ne 10, 0, 27, .null), (20, [], .aload_n 0, 0, 0, .null), (21, [], .ldc 65, 0, 0, .int (-1000001)), (23, [], .invokevirtual 84, 136, 2, .ref 8), (26, [], .ireturn, 0, 0, .null), (27, [], .aload_n 0, 0, 0, .null), (28, [], .getfield 9, 8, 0, .null), (31, [], .sipush 588, 0, 0, .int 588), (34, [], .iload_n 1, 1, 0, .null), (35, [], .iadd, 0, 0, .null), (36, [], .iaload, 0, 0, .null), (37, [], .istore_n 3, 3, 0, .null), (38, [], .iload_n 3, 3, 0, .null), (39, [], .ifCond .ge 11, 0, 50, .null), (42, [], .aload_n 0, 0, 0, .null), (43, [], .ldc_w 274, 0, 0, .int (-1000006)), (46, [], .invokevirtual 84, 136, 2, .ref 8), (49, [], .ireturn, 0, 0, .null), (50, [], .aload_n 0, 0, 0, .null), (51, [], .iload_n 3, 3, 0, .null), (52, [], .iconst 0, 0, 0, .int 0), (53, [], .invokevirtual 122, 157, 3, .ref 8), (56, [], .istore 4, 4, 0, .null), (58, [true, false, true, true, true], .iload 4, 4, 0, .null), (60, [], .ifCond .lt 19, 0, 79, .null), (63, [], .iload 4, 4, 0, .null), (65, [], .iload_n 2, 2, 0, .null), (66, [], .if_icmp .eq 13, 0, 79, .null), (69, [], .iload 4, 4, 0, .null), (71, [], .invokestatic 275, 214, 1, .null), (74, [], .istore 4, 4, 0, .null), (76, [], .goto (-18), 0, 58, .null), (79, [], .iload 4, 4, 0, .null), (81, [], .ifCond .ge 13, 0, 94, .null), (84, [], .aload_n 0, 0, 0, .null), (85, [], .ldc_w 278, 0, 0, .int (-1000003)), (88, [], .invokevirtual 84, 136, 2, .ref 8), (91, [], .goto 4, 0, 95, .null), (94, [], .iload_n 3, 3, 0, .null), (95, [], .ireturn, 0, 0, .null)]
abbrev jX9_isSheet : Nat := 216
def kX9_isSheet : List xE := [(0, [], .iload_n 0, 0, 0, .null), (1, [], .iconst 0, 0, 0, .int 0), (2, [], .iconst 3, 0, 0, .int 3), (3, [], .invokestatic 66, 137, 3, .null), (6, [], .ireturn, 0, 0, .null)]
abbrev jX9_cutTo : Nat := 217
def kX9_cutTo : List xE := [(0, [], .iload_n 1, 1, 0, .null), (1, [], .bipush 8, 0, 0, .int 8), (3, [], .if_icmp .ne 8, 0, 11, .null), (6, [], .iload_n 0, 0, 0, .null), (7, [], .i2b, 0, 0, .null), (8, [], .goto 15, 0, 23, .null), (11, [], .iload_n 1, 1, 0, .null), (12, [], .bipush 16, 0, 0, .int 16), (14, [], .if_icmp .ne 8, 0, 22, .null), (17, [], .iload_n 0, 0, 0, .null), (18, [], .i2s, 0, 0, .null), (19, [], .goto 4, 0, 23, .null), (22, [], .iload_n 0, 0, 0, .null), (23, [], .ireturn, 0, 0, .null)]
abbrev jX9_sheet : Nat := 218
def kX9_sheet : List xE := [(0, [], .iload_n 1, 1, 0, .null), (1, [], .invokestatic 279, 216, 1, .null), (4, [], .ifCond .eq 25, 0, 29, .null), (7, [], .iload_n 2, 2, 0, .null), (8, [], .ifCond .eq 28, 0, 36, .null), (11, [], .iload_n 2, 2, 0, .null), (12, [], .bipush 8, 0, 0, .int 8), (14, [], .if_icmp .eq 22, 0, 36, .null), (17, [], .iload_n 2, 2, 0, .null), (18, [], .bipush 16, 0, 0, .int 16), (20, [], .if_icmp .eq 16, 0, 36, .null), (23, [], .iload_n 2, 2, 0, .null), (24, [], .bipush 32, 0, 0, .int 32), (26, [], .if_icmp .eq 10, 0, 36, .null), (29, [], .aload_n 0, 0, 0, .null), (30, [], .ldc 65, 0, 0, .int (-1000001)), (32, [], .invokevirtual 84, 136, 2, .ref 8), (35, [], .ireturn, 0, 0, .null), (36, [], .iload_n 3, 3, 0, .null), (37, [], .ifCond .ge 11, 0, 48, .null), (40, [], .aload_n 0, 0, 0, .null), (41, [], .ldc_w 282, 0, 0, .int (-1000007)), (44, [], .invokevirtual 84, 136, 2, .ref 8), (47, [], .ireturn, 0, 0, .null), (48, [], .iload_n 3, 3, 0, .null), (49, [], .bipush 40, 0, 0, .int 40), (51, [], .if_icmp .le 10, 0, 61, .null), (54, [], .aload_n 0, 0, 0, .null), (55, [], .ldc 65, 0, 0, .int (-1000001)), (57, [], .invokevirtual 84, 136, 2, .ref 8), (60, [], .ireturn, 0, 0, .null), (61, [], .aload_n 0, 0, 0, .null), (62, [], .getfield 53, 8, 20, .null), (65, [], .iload_n 1, 1, 0, .null), (66, [], .iload_n 2, 2, 0, .null), (67, [], .iastore, 0, 0, .null), (68, [], .aload_n 0, 0, 0, .null), (69, [], .getfield 56, 8, 21, .null), (72, [], .iload_n 1, 1, 0, .null), (73, [], .iload_n 2, 2, 0, .null), (74, [], .ifCond .ne 7, 0, 81, .null), (77, [], .iconst 0, 0, 0, .int 0), (78, [], .goto 4, 0, 82, .null), (81, [], .iload_n 3, 3, 0, .null), (82, [], .iastore, 0, 0, .null), (83, [], .iconst 0, 0, 0, .int 0), (84, [], .istore 4, 4, 0, .null), (86, [true, true, false, false, true], .iload 4, 4, 0, .null), (88, [], .bipush 40, 0, 0, .int 40), (90, [], .if_icmp .ge 22, 0, 112, .null), (93, [], .aload_n 0, 0, 0, .null), (94, [], .getfield 59, 8, 22, .null), (97, [], .bipush 40, 0, 0, .int 40), (99, [], .iload_n 1, 1, 0, .null), (100, [], .imul, 0, 0, .null), (101, [], .iload 4, 4, 0, .null), (103, [], .iadd, 0, 0, .null), (104, [], .iconst 0, 0, 0, .int 0), (105, [], .iastore, 0, 0, .null), (106, [], .iinc 4 1, 4, 0, .int 1), (109, [], .goto (-23), 0, 86, .null), (112, [], .aload_n 0, 0, 0, .null), (113, [], .getfield 56, 8, 21, .null), (116, [], .iload_n 1, 1, 0, .null), (117, [], .iaload, 0, 0, .null), (118, [], .ireturn, 0, 0, .null)]
abbrev jX9_write : Nat := 219
def kX9_write : List xE := [(0, [], .iload_n 1, 1, 0, .null), (1, [], .invokestatic 279, 216, 1, .null), (4, [], .ifCond .ne 10, 0, 14, .null), (7, [], .aload_n 0, 0, 0, .null), (8, [], .ldc 65, 0, 0, .int (-1000001)), (10, [], .invokevirtual 84, 136, 2, .ref 8), (13, [], .ireturn, 0, 0, .null), (14, [], .aload_n 0, 0, 0, .null), (15, [], .getfield 53, 8, 20, .null), (18, [], .iload_n 1, 1, 0, .null), (19, [], .iaload, 0, 0, .null), (20, [], .ifCond .ne 11, 0, 31, .null), (23, [], .aload_n 0, 0, 0, .null), (24, [], .ldc_w 274, 0, 0, .int (-1000006)), (27, [], .invokevirtual 84, 136, 2, .ref 8), (30, [], .ireturn, 0, 0, .null), (31, [], .iload_n 2, 2, 0, .null), (32, [], .iconst 0, 0, 0, .int 0), (33, [], .aload_n 0, 0, 0, .null), (34, [], .getfield 56, 8, 21, .null), (37, [], .iload_n 1, 1, 0, .null), (38, [], .iaload, 0, 0, .null), (39, [], .iconst 1, 0, 0, .int 1), (40, [], .isub, 0, 0, .null), (41, [], .invokestatic 66, 137, 3, .null), (44, [], .ifCond .ne 10, 0, 54, .null), (47, [], .aload_n 0, 0, 0, .null), (48, [], .ldc 65, 0, 0, .int (-1000001)), (50, [], .invokevirtual 84, 136, 2, .ref 8), (53, [], .ireturn, 0, 0, .null), (54, [], .aload_n 0, 0, 0, .null), (55, [], .getfield 59, 8, 22, .null), (58, [], .bipush 40, 0, 0, .int 40), (60, [], .iload_n 1, 1, 0, .null), (61, [], .imul, 0, 0, .null), (62, [], .iload_n 2, 2, 0, .null), (63, [], .iadd, 0, 0, .null), (64, [], .iload_n 3, 3, 0, .null), (65, [], .aload_n 0, 0, 0, .null), (66, [], .getfield 53, 8, 20, .null), (69, [], .iload_n 1, 1, 0, .null), (70, [], .iaload, 0, 0, .null), (71, [], .invokestatic 283, 217, 2, .null), (74, [], .iastore, 0, 0, .null), (75, [], .iconst 1, 0, 0, .int 1), (76, [], .ireturn, 0, 0, .null)]
abbrev jX9_copy : Nat := 220
def kX9_copy : List xE := [(0, [], .iload_n 1, 1, 0, .null), (1, [], .invokestatic 279, 216, 1, .null), (4, [], .ifCond .eq 10, 0, 14, .null), (7, [], .iload_n 3, 3, 0, .null), (8, [], .invokestatic 279, 216, 1, .null), (11, [], .ifCond .ne 10, 0, 21, .null), (14, [], .aload_n 0, 0, 0, .null), (15, [], .ldc 65, 0, 0, .int (-1000001)), (17, [], .invokevirtual 84, 136, 2, .ref 8), (20, [], .ireturn, 0, 0, .null), (21, [], .aload_n 0, 0, 0, .null), (22, [], .getfield 53, 8, 20, .null), (25, [], .iload_n 1, 1, 0, .null), (26, [], .iaload, 0, 0, .null), (27, [], .ifCond .eq 12, 0, 39, .null), (30, [], .aload_n 0, 0, 0, .null), (31, [], .getfield 53, 8, 20, .null), (34, [], .iload_n 3, 3, 0, .null), (35, [], .iaload, 0, 0, .null), (36, [], .ifCond .ne 11, 0, 47, .null), (39, [], .aload_n 0, 0, 0, .null), (40, [], .ldc_w 274, 0, 0, .int (-1000006)), (43, [], .invokevirtual 84, 136, 2, .ref 8), (46, [], .ireturn, 0, 0, .null), (47, [], .aload_n 0, 0, 0, .null), (48, [], .getfield 53, 8, 20, .null), (51, [], .iload_n 1, 1, 0, .null), (52, [], .iaload, 0, 0, .null), (53, [], .aload_n 0, 0, 0, .null), (54, [], .getfield 53, 8, 20, .null), (57, [], .iload_n 3, 3, 0, .null), (58, [], .iaload, 0, 0, .null), (59, [], .if_icmp .eq 11, 0, 70, .null), (62, [], .aload_n 0, 0, 0, .null), (63, [], .ldc_w 278, 0, 0, .int (-1000003)), (66, [], .invokevirtual 84, 136, 2, .ref 8), (69, [], .ireturn, 0, 0, .null), (70, [], .iload_n 2, 2, 0, .null), (71, [], .ifCond .lt 48, 0, 119, .null), (74, [], .iload 4, 4, 0, .null), (76, [], .ifCond .lt 43, 0, 119, .null), (79, [], .iload 5, 5, 0, .null), (81, [], .ifCond .lt 38, 0, 119, .null), (84, [], .iload_n 2, 2, 0, .null), (85, [], .i2l, 0, 0, .null), (86, [], .iload 5, 5, 0, .null), (88, [], .i2l, 0, 0, .null), (89, [], .ladd, 0, 0, .null), (90, [], .aload_n 0, 0, 0, .null), (91, [], .getfield 56, 8, 21, .null), (94, [], .iload_n 1, 1, 0, .null), (95, [], .iaload, 0, 0, .null), (96, [], .i2l, 0, 0, .null), (97, [], .lcmp, 0, 0, .null), (98, [], .ifCond .gt 21, 0, 119, .null), (101, [], .iload 4, 4, 0, .null), (103, [], .i2l, 0, 0, .null), (104, [], .iload 5, 5, 0, .null), (106, [], .i2l, 0, 0, .null), (107, [], .ladd, 0, 0, .null), (108, [], .aload_n 0, 0, 0, .null), (109, [], .getfield 56, 8, 21, .null), (112, [], .iload_n 3, 3, 0, .null), (113, [], .iaload, 0, 0, .null), (114, [], .i2l, 0, 0, .null), (115, [], .lcmp, 0, 0, .null), (116, [], .ifCond .le 10, 0, 126, .null), (119, [], .aload_n 0, 0, 0, .null), (120, [], .ldc 65, 0, 0, .int (-1000001)), (122, [], .invokevirtual 84, 136, 2, .ref 8), (125, [], .ireturn, 0, 0, .null), (126, [], .iconst 0, 0, 0, .int 0), (127, [], .istore 6, 6, 0, .null), (129, [true, true, true, true, true, true, true], .iload 6, 6, 0, .null), (131, [], .iload 5, 5, 0, .null), (133, [], .if_icmp .ge 30, 0, 163, .null), (136, [], .aload_n 0, 0, 0, .null), (137, [], .getfield 62, 8, 23, .null), (140, [], .iload 6, 6, 0, .null), (142, [], .aload_n 0, 0, 0, .null), (143, [], .getfield 59, 8, 22, .null), (146, [], .bipush 40, 0, 0, .int 40), (148, [], .iload_n 1, 1, 0, .null), (149, [], .imul, 0, 0, .null), (150, [], .iload_n 2, 2, 0, .null), (151, [], .iadd, 0, 0, .null), (152, [], .iload 6, 6, 0, .null), (154, [], .iadd, 0, 0, .null), (155, [], .iaload, 0, 0, .null), (156, [], .iastore, 0, 0, .null), (157, [], .iinc 6 1, 6, 0, .int 1), (160, [], .goto (-31), 0, 129, .null), (163, [], .iconst 0, 0, 0, .int 0), (164, [], .istore 6, 6, 0, .null), (166, [true, false, false, true, true, true, true], .iload 6, 6, 0, .null), (168, [], .iload 5, 5, 0, .null), (170, [], .if_icmp .ge 31, 0, 201, .null), (173, [], .aload_n 0, 0, 0, .null), (174, [], .getfield 59, 8, 22, .null), (177, [], .bipush 40, 0, 0, .int 40), (179, [], .iload_n 3, 3, 0, .null), (180, [], .imul, 0, 0, .null), (181, [], .iload 4, 4, 0, .null), (183, [], .iadd, 0, 0, .null), (184, [], .iload 6, 6, 0, .null), (186, [], .iadd, 0, 0, .null), (187, [], .aload_n 0, 0, 0, .null), (188, [], .getfield 62, 8, 23, .null), (191, [], .iload 6, 6, 0, .null), (193, [], .iaload, 0, 0, .null), (194, [], .iastore, 0, 0, .null), (195, [], .iinc 6 1, 6, 0, .int 1), (198, [], .goto (-32), 0, 166, .null), (201, [], .iload 5, 5, 0, .null), (203, [], .ireturn, 0, 0, .null)]
abbrev jX9_load : Nat := 221
def kX9_load : List xE := [(0, [], .iload_n 1, 1, 0, .null), (1, [], .invokestatic 279, 216, 1, .null), (4, [], .ifCond .ne 10, 0, 14, .null), (7, [], .aload_n 0, 0, 0, .null), (8, [], .ldc 65, 0, 0, .int (-1000001)), (10, [], .invokevirtual 84, 136, 2, .ref 8), (13, [], .ireturn, 0, 0, .null), (14, [], .aload_n 0, 0, 0, .null), (15, [], .getfield 53, 8, 20, .null), (18, [], .iload_n 1, 1, 0, .null), (19, [], .iaload, 0, 0, .null), (20, [], .ifCond .ne 11, 0, 31, .null), (23, [], .aload_n 0, 0, 0, .null), (24, [], .ldc_w 274, 0, 0, .int (-1000006)), (27, [], .invokevirtual 84, 136, 2, .ref 8), (30, [], .ireturn, 0, 0, .null), (31, [], .iload_n 2, 2, 0, .null), (32, [], .invokestatic 175, 144, 1, .null), (35, [], .ifCond .ne 10, 0, 45, .null), (38, [], .aload_n 0, 0, 0, .null), (39, [], .ldc 65, 0, 0, .int (-1000001)), (41, [], .invokevirtual 84, 136, 2, .ref 8), (44, [], .ireturn, 0, 0, .null), (45, [], .iconst 0, 0, 0, .int 0), (46, [], .istore_n 3, 3, 0, .null), (47, [true, true, true, true], .iload_n 3, 3, 0, .null), (48, [], .aload_n 0, 0, 0, .null), (49, [], .getfield 56, 8, 21, .null), (52, [], .iload_n 1, 1, 0, .null), (53, [], .iaload, 0, 0, .null), (54, [], .if_icmp .ge 61, 0, 115, .null), (57, [], .iload_n 3, 3, 0, .null), (58, [], .bipush 24, 0, 0, .int 24), (60, [], .if_icmp .ge 55, 0, 115, .null), (63, [], .aload_n 0, 0, 0, .null), (64, [], .getfield 59, 8, 22, .null), (67, [], .bipush 40, 0, 0, .int 40), (69, [], .iload_n 1, 1, 0, .null), (70, [], .imul, 0, 0, .null), (71, [], .iload_n 3, 3, 0, .null), (72, [], .iadd, 0, 0, .null), (73, [], .iaload, 0, 0, .null), (74, [], .iconst (-1), 0, 0, .int (-1)), (75, [], .bipush 9, 0, 0, .int 9), (77, [], .invokestatic 66, 137, 3, .null), (80, [], .ifCond .eq 35, 0, 115, .null), (83, [], .aload_n 0, 0, 0, .null), (84, [], .getfield 9, 8, 0, .null), (87, [], .sipush 444, 0, 0, .int 444), (90, [], .bipush 24, 0, 0, .int 24), (92, [], .iload_n 2, 2, 0, .null), (93, [], .imul, 0, 0, .null), (94, [], .iadd, 0, 0, .null), (95, [], .iload_n 3, 3, 0, .null), (96, [], .iadd, 0, 0, .null), (97, [], .aload_n 0, 0, 0, .null), (98, [], .getfield 59, 8, 22, .null), (101, [], .bipush 40, 0, 0, .int 40), (103, [], .iload_n 1, 1, 0, .null), (104, [], .imul, 0, 0, .null), (105, [], .iload_n 3, 3, 0, .null), (106, [], .iadd, 0, 0, .null), (107, [], .iaload, 0, 0, .null), (108, [], .iastore, 0, 0, .null), (109, [], .iinc 3 1, 3, 0, .int 1), (112, [], .goto (-65), 0, 47, .null), (115, [], .iload_n 3, 3, 0, .null), (116, [], .ireturn, 0, 0, .null)]
abbrev jX9_judge : Nat := 222
def kX9_judge : List xE := [(0, [], .iload_n 1, 1, 0, .null), (1, [], .invokestatic 279, 216, 1, .null), (4, [], .ifCond .ne 10, 0, 14, .null), (7, [], .aload_n 0, 0, 0, .null), (8, [], .ldc 65, 0, 0, .int (-1000001)), (10, [], .invokevirtual 84, 136, 2, .ref 8), (13, [], .ireturn, 0, 0, .null), (14, [], .aload_n 0, 0, 0, .null), (15, [], .getfield 53, 8, 20, .null), (18, [], .iload_n 1, 1, 0, .null), (19, [], .iaload, 0, 0, .null), (20, [], .ifCond .ne 11, 0, 31, .null), (23, [], .aload_n 0, 0, 0, .null), (24, [], .ldc_w 274, 0, 0, .int (-1000006)), (27, [], .invokevirtual 84, 136, 2, .ref 8), (30, [], .ireturn, 0, 0, .null), (31, [], .iload_n 2, 2, 0, .null), (32, [], .invokestatic 162, 143, 1, .null), (35, [], .ifCond .ne 10, 0, 45, .null), (38, [], .aload_n 0, 0, 0, .null), (39, [], .ldc 65, 0, 0, .int (-1000001)), (41, [], .invokevirtual 84, 136, 2, .ref 8), (44, [], .ireturn, 0, 0, .null), (45, [], .iconst 0, 0, 0, .int 0), (46, [], .istore_n 3, 3, 0, .null), (47, [true, true, true, true, false, false, false], .iload_n 3, 3, 0, .null), (48, [], .aload_n 0, 0, 0, .null), (49, [], .getfield 56, 8, 21, .null), (52, [], .iload_n 1, 1, 0, .null), (53, [], .iaload, 0, 0, .null), (54, [], .if_icmp .ge 111, 0, 165, .null), (57, [], .aload_n 0, 0, 0, .null), (58, [], .getfield 59, 8, 22, .null), (61, [], .bipush 40, 0, 0, .int 40), (63, [], .iload_n 1, 1, 0, .null), (64, [], .imul, 0, 0, .null), (65, [], .iload_n 3, 3, 0, .null), (66, [], .iadd, 0, 0, .null), (67, [], .iaload, 0, 0, .null), (68, [], .istore 4, 4, 0, .null), (70, [], .iload_n 2, 2, 0, .null), (71, [], .bipush 100, 0, 0, .int 100), (73, [], .irem, 0, 0, .null), (74, [], .iload_n 3, 3, 0, .null), (75, [], .iadd, 0, 0, .null), (76, [], .istore 5, 5, 0, .null), (78, [], .iload 4, 4, 0, .null), (80, [], .invokestatic 81, 140, 1, .null), (83, [], .ifCond .eq 11, 0, 94, .null), (86, [], .iload 5, 5, 0, .null), (88, [], .invokestatic 74, 142, 1, .null), (91, [], .ifCond .ne 7, 0, 98, .null), (94, [], .iconst 1, 0, 0, .int 1), (95, [], .iload_n 3, 3, 0, .null), (96, [], .iadd, 0, 0, .null), (97, [], .ireturn, 0, 0, .null), (98, [], .iload_n 3, 3, 0, .null), (99, [], .ifCond .ne 8, 0, 107, .null), (102, [], .iload 4, 4, 0, .null), (104, [], .goto 16, 0, 120, .null), (107, [], .aload_n 0, 0, 0, .null), (108, [], .getfield 59, 8, 22, .null), (111, [], .bipush 40, 0, 0, .int 40), (113, [], .iload_n 1, 1, 0, .null), (114, [], .imul, 0, 0, .null), (115, [], .iload_n 3, 3, 0, .null), (116, [], .iadd, 0, 0, .null), (117, [], .iconst 1, 0, 0, .int 1), (118, [], .isub, 0, 0, .null), (119, [], .iaload, 0, 0, .null), (120, [], .istore 6, 6, 0, .null), (122, [], .iload 6, 6, 0, .null), (124, [], .iload 4, 4, 0, .null), (126, [], .if_icmp .eq 14, 0, 140, .null), (129, [], .aload_n 0, 0, 0, .null), (130, [], .iload 6, 6, 0, .null), (132, [], .iload 4, 4, 0, .null), (134, [], .invokevirtual 88, 146, 3, .ref 8), (137, [], .ifCond .eq 18, 0, 155, .null), (140, [], .aload_n 0, 0, 0, .null), (141, [], .iload 4, 4, 0, .null), (143, [], .iload_n 2, 2, 0, .null), (144, [], .bipush 100, 0, 0, .int 100), (146, [], .idiv, 0, 0, .null), (147, [], .iload 5, 5, 0, .null), (149, [], .invokevirtual 165, 176, 4, .ref 8), (152, [], .ifCond .ne 7, 0, 159, .null), (155, [], .iconst 1, 0, 0, .int 1), (156, [], .iload_n 3, 3, 0, .null), (157, [], .iadd, 0, 0, .null), (158, [], .ireturn, 0, 0, .null), (159, [], .iinc 3 1, 3, 0, .int 1), (162, [], .goto (-115), 0, 47, .null), (165, [], .iconst 0, 0, 0, .int 0), (166, [], .ireturn, 0, 0, .null)]
abbrev jX9_copyRow : Nat := 223
def kX9_copyRow : List xE := [(0, [], .iconst 0, 0, 0, .int 0), (1, [], .istore_n 2, 2, 0, .null), (2, [true, true, true], .iload_n 2, 2, 0, .null), (3, [], .sipush 598, 0, 0, .int 598), (6, [], .if_icmp .ge 15, 0, 21, .null), (9, [], .aload_n 1, 1, 0, .null), (10, [], .iload_n 2, 2, 0, .null), (11, [], .aload_n 0, 0, 0, .null), (12, [], .iload_n 2, 2, 0, .null), (13, [], .iaload, 0, 0, .null), (14, [], .iastore, 0, 0, .null), (15, [], .iinc 2 1, 2, 0, .int 1), (18, [], .goto (-16), 0, 2, .null), (21, [], .return_, 0, 0, .null)]
abbrev jX9_image : Nat := 224
def kX9_image : List xE := [(0, [], .aload_n 0, 0, 0, .null), (1, [], .getfield 9, 8, 0, .null), (4, [], .aload_n 0, 0, 0, .null), (5, [], .getfield 13, 8, 1, .null), (8, [], .invokestatic 286, 223, 2, .null), (11, [], .aload_n 0, 0, 0, .null), (12, [], .iconst 1, 0, 0, .int 1), (13, [], .putfield 290, 8, 2, .long 0), (16, [], .iconst 1, 0, 0, .int 1), (17, [], .ireturn, 0, 0, .null)]
abbrev jX9_undo : Nat := 225
def kX9_undo : List xE := [(0, [], .aload_n 0, 0, 0, .null), (1, [], .getfield 290, 8, 2, .long 0), (4, [], .ifCond .ne 10, 0, 14, .null), (7, [], .aload_n 0, 0, 0, .null), (8, [], .ldc 108, 0, 0, .int (-1000004)), (10, [], .invokevirtual 84, 136, 2, .ref 8), (13, [], .ireturn, 0, 0, .null), (14, [], .aload_n 0, 0, 0, .null), (15, [], .getfield 13, 8, 1, .null), (18, [], .aload_n 0, 0, 0, .null), (19, [], .getfield 9, 8, 0, .null), (22, [], .invokestatic 286, 223, 2, .null), (25, [], .aload_n 0, 0, 0, .null), (26, [], .iconst 0, 0, 0, .int 0), (27, [], .putfield 77, 8, 5, .long 0), (30, [], .aload_n 0, 0, 0, .null), (31, [], .getfield 9, 8, 0, .null), (34, [], .iconst 1, 0, 0, .int 1), (35, [], .iaload, 0, 0, .null), (36, [], .ireturn, 0, 0, .null)]
abbrev jX9_tear : Nat := 226
def kX9_tear : List xE := [(0, [], .aload_n 0, 0, 0, .null), (1, [], .getfield 290, 8, 2, .long 0), (4, [], .ifCond .eq 7, 0, 11, .null), (7, [], .iconst 1, 0, 0, .int 1), (8, [], .goto 4, 0, 12, .null), (11, [], .iconst 0, 0, 0, .int 0), (12, [], .istore_n 1, 1, 0, .null), (13, [], .aload_n 0, 0, 0, .null), (14, [], .iconst 0, 0, 0, .int 0), (15, [], .putfield 290, 8, 2, .long 0), (18, [], .iload_n 1, 1, 0, .null), (19, [], .ireturn, 0, 0, .null)]
abbrev jX9_count : Nat := 227
def kX9_count : List xE := [(0, [], .iconst 0, 0, 0, .int 0), (1, [], .istore_n 2, 2, 0, .null), (2, [], .iload_n 1, 1, 0, .null), (3, [], .tableswitch 170 0 7 #[45, 45, 52, 82, 109, 116, 121, 128], 0, 0, .null), (48, [], .aload_n 0, 0, 0, .null), (49, [], .getfield 9, 8, 0, .null), (52, [], .iload_n 1, 1, 0, .null), (53, [], .iaload, 0, 0, .null), (54, [], .ireturn, 0, 0, .null), (55, [], .iconst 0, 0, 0, .int 0), (56, [], .istore_n 3, 3, 0, .null), (57, [true, false, true, true], .iload_n 3, 3, 0, .null), (58, [], .bipush 100, 0, 0, .int 100), (60, [], .if_icmp .ge 21, 0, 81, .null), (63, [], .iload_n 2, 2, 0, .null), (64, [], .aload_n 0, 0, 0, .null), (65, [], .getfield 9, 8, 0, .null), (68, [], .bipush 104, 0, 0, .int 104), (70, [], .iload_n 3, 3, 0, .null), (71, [], .iadd, 0, 0, .null), (72, [], .iaload, 0, 0, .null), (73, [], .iadd, 0, 0, .null), (74, [], .istore_n 2, 2, 0, .null), (75, [], .iinc 3 1, 3, 0, .int 1), (78, [], .goto (-21), 0, 57, .null), (81, [], .iload_n 2, 2, 0, .null), (82, [], .iconst 2, 0, 0, .int 2), (83, [], .idiv, 0, 0, .null), (84, [], .ireturn, 0, 0, .null), (85, [], .iconst 0, 0, 0, .int 0), (86, [], .istore_n 3, 3, 0, .null), (87, [true, false, true, true], .iload_n 3, 3, 0, .null), (88, [], .bipush 100, 0, 0, .int 100), (90, [], .if_icmp .ge 20, 0, 110, .null), (93, [], .iload_n 2, 2, 0, .null), (94, [], .aload_n 0, 0, 0, .null), (95, [], .getfield 9, 8, 0, .null), (98, [], .iconst 4, 0, 0, .int 4), (99, [], .iload_n 3, 3, 0, .null), (100, [], .iadd, 0, 0, .null), (101, [], .iaload, 0, 0, .null), (102, [], .iadd, 0, 0, .null), (103, [], .istore_n 2, 2, 0, .null), (104, [], .iinc 3 1, 3, 0, .int 1), (107, [], .goto (-20), 0, 87, .null), (110, [], .iload_n 2, 2, 0, .null), (111, [], .ireturn, 0, 0, .null), (112, [], .aload_n 0, 0, 0, .null), (113, [], .getfield 9, 8, 0, .null), (116, [], .iconst 2, 0, 0, .int 2), (117, [], .iaload, 0, 0, .null), (118, [], .ireturn, 0, 0, .null), (119, [], .aload_n 0, 0, 0, .null), (120, [], .getfield 192, 8, 10, .int 0), (123, [], .ireturn, 0, 0, .null), (124, [], .aload_n 0, 0, 0, .null), (125, [], .getfield 9, 8, 0, .null), (128, [], .iconst 3, 0, 0, .int 3), (129, [], .iaload, 0, 0, .null), (130, [], .ireturn, 0, 0, .null), (131, [], .iconst 0, 0, 0, .int 0), (132, [], .istore_n 3, 3, 0, .null), (133, [true, false, true, true], .iload_n 3, 3, 0, .null), (134, [], .aload_n 0, 0, 0, .null), (135, [], .getfield 9, 8, 0, .null), (138, [], .iconst 1, 0, 0, .int 1), (139, [], .iaload, 0, 0, .null), (140, [], .if_icmp .ge 31, 0, 171, .null), (143, [], .iload_n 2, 2, 0, .null), (144, [], .aload_n 0, 0, 0, .null), (145, [], .iload_n 3, 3, 0, .null), (146, [], .aload_n 0, 0, 0, .null), (147, [], .getfield 9, 8, 0, .null), (150, [], .iconst 0, 0, 0, .int 0), (151, [], .iaload, 0, 0, .null), (152, [], .invokevirtual 146, 169, 3, .ref 8), (155, [], .ifCond .eq 7, 0, 162, .null), (158, [], .iconst 1, 0, 0, .int 1), (159, [], .goto 4, 0, 163, .null), (162, [], .iconst 0, 0, 0, .int 0), (163, [], .iadd, 0, 0, .null), (164, [], .istore_n 2, 2, 0, .null), (165, [], .iinc 3 1, 3, 0, .int 1), (168, [], .goto (-35), 0, 133, .null), (171, [], .iload_n 2, 2, 0, .null), (172, [], .ireturn, 0, 0, .null), (173, [], .aload_n 0, 0, 0, .null), (174, [], .ldc 65, 0, 0, .int (-1000001)), (176, [], .invokevirtual 84, 136, 2, .ref 8), (179, [], .ireturn, 0, 0, .null)]
abbrev jX9_status : Nat := 228
def kX9_status : List xE := [(0, [], .iload_n 1, 1, 0, .null), (1, [], .iconst (-1), 0, 0, .int (-1)), (2, [], .bipush 6, 0, 0, .int 6), (4, [], .invokestatic 66, 137, 3, .null), (7, [], .ifCond .eq 14, 0, 21, .null), (10, [], .aload_n 0, 0, 0, .null), (11, [], .getfield 16, 8, 3, .null), (14, [], .iload_n 1, 1, 0, .null), (15, [], .iconst 1, 0, 0, .int 1), (16, [], .iadd, 0, 0, .null), (17, [], .iaload, 0, 0, .null), (18, [], .goto 9, 0, 27, .null), (21, [], .aload_n 0, 0, 0, .null), (22, [], .ldc 65, 0, 0, .int (-1000001)), (24, [], .invokevirtual 84, 136, 2, .ref 8), (27, [], .ireturn, 0, 0, .null)]
abbrev jJ6_bitCount_0f7a4 : Nat := 229
def kJ6_bitCount_0f7a4 : List xE := [(0, [], .iload_n 0, 0, 0, .null), (1, [], .iload_n 0, 0, 0, .null), (2, [], .iconst 1, 0, 0, .int 1), (3, [], .iushr, 0, 0, .null), (4, [], .ldc_w 265, 0, 0, .int 1431655765), (7, [], .iand, 0, 0, .null), (8, [], .isub, 0, 0, .null), (9, [], .istore_n 0, 0, 0, .null), (10, [], .iload_n 0, 0, 0, .null), (11, [], .ldc_w 266, 0, 0, .int 858993459), (14, [], .iand, 0, 0, .null), (15, [], .iload_n 0, 0, 0, .null), (16, [], .iconst 2, 0, 0, .int 2), (17, [], .iushr, 0, 0, .null), (18, [], .ldc_w 266, 0, 0, .int 858993459), (21, [], .iand, 0, 0, .null), (22, [], .iadd, 0, 0, .null), (23, [], .istore_n 0, 0, 0, .null), (24, [], .iload_n 0, 0, 0, .null), (25, [], .iload_n 0, 0, 0, .null), (26, [], .iconst 4, 0, 0, .int 4), (27, [], .iushr, 0, 0, .null), (28, [], .iadd, 0, 0, .null), (29, [], .ldc_w 267, 0, 0, .int 252645135), (32, [], .iand, 0, 0, .null), (33, [], .istore_n 0, 0, 0, .null), (34, [], .iload_n 0, 0, 0, .null), (35, [], .iload_n 0, 0, 0, .null), (36, [], .bipush 8, 0, 0, .int 8), (38, [], .iushr, 0, 0, .null), (39, [], .iadd, 0, 0, .null), (40, [], .istore_n 0, 0, 0, .null), (41, [], .iload_n 0, 0, 0, .null), (42, [], .iload_n 0, 0, 0, .null), (43, [], .bipush 16, 0, 0, .int 16), (45, [], .iushr, 0, 0, .null), (46, [], .iadd, 0, 0, .null), (47, [], .istore_n 0, 0, 0, .null), (48, [], .iload_n 0, 0, 0, .null), (49, [], .bipush 63, 0, 0, .int 63), (51, [], .iand, 0, 0, .null), (52, [], .ireturn, 0, 0, .null)]
abbrev jJ13_bitCount_95d88 : Nat := 230
def kJ13_bitCount_95d88 : List xE := [(0, [], .lload_n 0, 0, 0, .null), (1, [], .lload_n 0, 0, 0, .null), (2, [], .iconst 1, 0, 0, .int 1), (3, [], .lushr, 0, 0, .null), (4, [], .ldc2_w 314, 0, 0, .long 6148914691236517205), (7, [], .land, 0, 0, .null), (8, [], .lsub, 0, 0, .null), (9, [], .lstore_n 0, 0, 0, .null), (10, [], .lload_n 0, 0, 0, .null), (11, [], .ldc2_w 316, 0, 0, .long 3689348814741910323), (14, [], .land, 0, 0, .null), (15, [], .lload_n 0, 0, 0, .null), (16, [], .iconst 2, 0, 0, .int 2), (17, [], .lushr, 0, 0, .null), (18, [], .ldc2_w 316, 0, 0, .long 3689348814741910323), (21, [], .land, 0, 0, .null), (22, [], .ladd, 0, 0, .null), (23, [], .lstore_n 0, 0, 0, .null), (24, [], .lload_n 0, 0, 0, .null), (25, [], .lload_n 0, 0, 0, .null), (26, [], .iconst 4, 0, 0, .int 4), (27, [], .lushr, 0, 0, .null), (28, [], .ladd, 0, 0, .null), (29, [], .ldc2_w 318, 0, 0, .long 1085102592571150095), (32, [], .land, 0, 0, .null), (33, [], .lstore_n 0, 0, 0, .null), (34, [], .lload_n 0, 0, 0, .null), (35, [], .lload_n 0, 0, 0, .null), (36, [], .bipush 8, 0, 0, .int 8), (38, [], .lushr, 0, 0, .null), (39, [], .ladd, 0, 0, .null), (40, [], .lstore_n 0, 0, 0, .null), (41, [], .lload_n 0, 0, 0, .null), (42, [], .lload_n 0, 0, 0, .null), (43, [], .bipush 16, 0, 0, .int 16), (45, [], .lushr, 0, 0, .null), (46, [], .ladd, 0, 0, .null), (47, [], .lstore_n 0, 0, 0, .null), (48, [], .lload_n 0, 0, 0, .null), (49, [], .lload_n 0, 0, 0, .null), (50, [], .bipush 32, 0, 0, .int 32), (52, [], .lushr, 0, 0, .null), (53, [], .ladd, 0, 0, .null), (54, [], .lstore_n 0, 0, 0, .null), (55, [], .lload_n 0, 0, 0, .null), (56, [], .l2i, 0, 0, .null), (57, [], .bipush 127, 0, 0, .int 127), (59, [], .iand, 0, 0, .null), (60, [], .ireturn, 0, 0, .null)]
abbrev jJ0_length_8abf5 : Nat := 231
def kJ0_length_8abf5 : List xE := [(0, [], .aload_n 0, 0, 0, .null), (1, [], .getfield 9, 99, 0, .null), (4, [], .arraylength, 0, 0, .null), (5, [], .aload_n 0, 0, 0, .null), (6, [], .invokevirtual 335, 233, 1, .ref 99), (9, [], .ishr, 0, 0, .null), (10, [], .ireturn, 0, 0, .null)]
abbrev jJ0_charAt_5068e : Nat := 232
def kJ0_charAt_5068e : List xE := [(0, [], .aload_n 0, 0, 0, .null), (1, [], .invokevirtual 492, 234, 1, .ref 99), (4, [], .ifCond .eq 12, 0, 16, .null), (7, [], .aload_n 0, 0, 0, .null), (8, [], .getfield 9, 99, 0, .null), (11, [], .iload_n 1, 1, 0, .null), (12, [], .invokestatic 495, 236, 2, .null), (15, [], .ireturn, 0, 0, .null), (16, [], .aload_n 0, 0, 0, .null), (17, [], .getfield 9, 99, 0, .null), (20, [], .iload_n 1, 1, 0, .null), (21, [], .invokestatic 498, 997, 0, .null), (24, [], .ireturn, 0, 0, .null)]
abbrev jJ0_coder_7d493 : Nat := 233
def kJ0_coder_7d493 : List xE := [(0, [], .getstatic 38, 1, 0, .int 1), (3, [], .ifCond .eq 10, 0, 13, .null), (6, [], .aload_n 0, 0, 0, .null), (7, [], .getfield 15, 99, 1, .int 0), (10, [], .goto 4, 0, 14, .null), (13, [], .iconst 1, 0, 0, .int 1), (14, [], .ireturn, 0, 0, .null)]
abbrev jJ0_isLatin1_aae02 : Nat := 234
def kJ0_isLatin1_aae02 : List xE := [(0, [], .getstatic 38, 1, 0, .int 1), (3, [], .ifCond .eq 14, 0, 17, .null), (6, [], .aload_n 0, 0, 0, .null), (7, [], .getfield 15, 99, 1, .int 0), (10, [], .ifCond .ne 7, 0, 17, .null), (13, [], .iconst 1, 0, 0, .int 1), (14, [], .goto 4, 0, 18, .null), (17, [], .iconst 0, 0, 0, .int 0), (18, [], .ireturn, 0, 0, .null)]
abbrev jJ0_checkIndex_df160 : Nat := 235
def kJ0_checkIndex_df160 : List xE := [(0, [], .iload_n 0, 0, 0, .null), (1, [], .iload_n 1, 1, 0, .null), (2, [], .getstatic 1053, 2, 0, .ref 1300), (5, [], .invokestatic 1059, 238, 3, .null), (8, [], .pop, 0, 0, .null), (9, [], .return_, 0, 0, .null)]
abbrev jJ1_charAt_3b067 : Nat := 236
def kJ1_charAt_3b067 : List xE := [(0, [], .iload_n 1, 1, 0, .null), (1, [], .aload_n 0, 0, 0, .null), (2, [], .arraylength, 0, 0, .null), (3, [], .invokestatic 9, 235, 2, .null), (6, [], .aload_n 0, 0, 0, .null), (7, [], .iload_n 1, 1, 0, .null), (8, [], .baload, 0, 0, .null), (9, [], .sipush 255, 0, 0, .int 255), (12, [], .iand, 0, 0, .null), (13, [], .i2c, 0, 0, .null), (14, [], .ireturn, 0, 0, .null)]
abbrev jJ7_fill_53178 : Nat := 237
def kJ7_fill_53178 : List xE := [(0, [], .iconst 0, 0, 0, .int 0), (1, [], .istore_n 2, 2, 0, .null), (2, [], .aload_n 0, 0, 0, .null), (3, [], .arraylength, 0, 0, .null), (4, [], .istore_n 3, 3, 0, .null), (5, [true, true, true, true], .iload_n 2, 2, 0, .null), (6, [], .iload_n 3, 3, 0, .null), (7, [], .if_icmp .ge 13, 0, 20, .null), (10, [], .aload_n 0, 0, 0, .null), (11, [], .iload_n 2, 2, 0, .null), (12, [], .iload_n 1, 1, 0, .null), (13, [], .iastore, 0, 0, .null), (14, [], .iinc 2 1, 2, 0, .int 1), (17, [], .goto (-12), 0, 5, .null), (20, [], .return_, 0, 0, .null)]
abbrev jJ3_checkIndex_8e157 : Nat := 238
def kJ3_checkIndex_8e157 : List xE := [(0, [], .iload_n 0, 0, 0, .null), (1, [], .ifCond .lt 8, 0, 9, .null), (4, [], .iload_n 0, 0, 0, .null), (5, [], .iload_n 1, 1, 0, .null), (6, [], .if_icmp .lt 10, 0, 16, .null), (9, [], .aload_n 2, 2, 0, .null), (10, [], .iload_n 0, 0, 0, .null), (11, [], .iload_n 1, 1, 0, .null), (12, [], .invokestatic 95, 997, 0, .null), (15, [], .athrow, 0, 0, .null), (16, [], .iload_n 0, 0, 0, .null), (17, [], .ireturn, 0, 0, .null)]
abbrev jL_law : Nat := 239
def kL_law_0 : List xE := [(0, [], .new 7, 7, 8, .null), (3, [], .dup, 0, 0, .null), (4, [], .invokespecial 9, 73, 1, .null), (7, [], .astore_n 1, 1, 0, .null), (8, [], .new 10, 8, 24, .null), (11, [], .dup, 0, 0, .null), (12, [], .invokespecial 12, 135, 1, .null), (15, [], .astore_n 2, 2, 0, .null), (16, [], .iconst 0, 0, 0, .int 0), (17, [], .istore_n 3, 3, 0, .null), (18, [true, true, true, true], .iload_n 3, 3, 0, .null), (19, [], .aload_n 0, 0, 0, .null), (20, [], .arraylength, 0, 0, .null), (21, [], .bipush 6, 0, 0, .int 6), (23, [], .isub, 0, 0, .null), (24, [], .if_icmp .gt 1691, 0, 1715, .null), (27, [], .aload_n 0, 0, 0, .null), (28, [], .iload_n 3, 3, 0, .null), (29, [], .iaload, 0, 0, .null), (30, [], .bipush 63, 0, 0, .int 63), (32, [], .iand, 0, 0, .null), (33, [], .tableswitch 1676 0 46 #[203, 262, 295, 318, 367, 410, 433, 496, 529, 562, 595, 618, 641, 674, 697, 730, 773, 806, 839, 862, 895, 948, 981, 1014, 1047, 1070, 1093, 1126, 1149, 1192, 1215, 1228, 1251, 1284, 1297, 1310, 1343, 1376, 1419, 1462, 1525, 1558, 1591, 1604, 1617, 1630, 1653], 0, 0, .null), (236, [], .aload_n 1, 1, 0, .null), (237, [], .aload_n 0, 0, 0, .null), (238, [], .iload_n 3, 3, 0, .null), (239, [], .iconst 1, 0, 0, .int 1), (240, [], .iadd, 0, 0, .null), (241, [], .iaload, 0, 0, .null), (242, [], .aload_n 0, 0, 0, .null), (243, [], .iload_n 3, 3, 0, .null), (244, [], .iconst 2, 0, 0, .int 2), (245, [], .iadd, 0, 0, .null), (246, [], .iaload, 0, 0, .null), (247, [], .aload_n 0, 0, 0, .null), (248, [], .iload_n 3, 3, 0, .null), (249, [], .iconst 3, 0, 0, .int 3), (250, [], .iadd, 0, 0, .null), (251, [], .iaload, 0, 0, .null), (252, [], .ifCond .eq 7, 0, 259, .null), (255, [], .iconst 1, 0, 0, .int 1), (256, [], .goto 4, 0, 260, .null), (259, [], .iconst 0, 0, 0, .int 0), (260, [], .invokevirtual 13, 74, 4, .ref 7), (263, [], .aload_n 2, 2, 0, .null), (264, [], .aload_n 0, 0, 0, .null), (265, [], .iload_n 3, 3, 0, .null), (266, [], .iconst 1, 0, 0, .int 1), (267, [], .iadd, 0, 0, .null), (268, [], .iaload, 0, 0, .null), (269, [], .aload_n 0, 0, 0, .null), (270, [], .iload_n 3, 3, 0, .null), (271, [], .iconst 2, 0, 0, .int 2), (272, [], .iadd, 0, 0, .null), (273, [], .iaload, 0, 0, .null), (274, [], .aload_n 0, 0, 0, .null), (275, [], .iload_n 3, 3, 0, .null), (276, [], .iconst 3, 0, 0, .int 3), (277, [], .iadd, 0, 0, .null), (278, [], .iaload, 0, 0, .null), (279, [], .ifCond .eq 7, 0, 286, .null), (282, [], .iconst 1, 0, 0, .int 1), (283, [], .goto 4, 0, 287, .null), (286, [], .iconst 0, 0, 0, .int 0), (287, [], .invokevirtual 17, 148, 4, .ref 8), (290, [], .if_icmp .eq 1419, 0, 1709, .null), (293, [], .iconst 0, 0, 0, .int 0), (294, [], .ireturn, 0, 0, .null), (295, [], .aload_n 1, 1, 0, .null), (296, [], .aload_n 0, 0, 0, .null), (297, [], .iload_n 3, 3, 0, .null), (298, [], .iconst 1, 0, 0, .int 1), (299, [], .iadd, 0, 0, .null), (300, [], .iaload, 0, 0, .null), (301, [], .aload_n 0, 0, 0, .null), (302, [], .iload_n 3, 3, 0, .null), (303, [], .iconst 2, 0, 0, .int 2), (304, [], .iadd, 0, 0, .null), (305, [], .iaload, 0, 0, .null), (306, [], .invokevirtual 18, 75, 3, .ref 7), (309, [], .aload_n 2, 2, 0, .null), (310, [], .aload_n 0, 0, 0, .null), (311, [], .iload_n 3, 3, 0, .null), (312, [], .iconst 1, 0, 0, .int 1), (313, [], .iadd, 0, 0, .null), (314, [], .iaload, 0, 0, .null), (315, [], .aload_n 0, 0, 0, .null), (316, [], .iload_n 3, 3, 0, .null), (317, [], .iconst 2, 0, 0, .int 2), (318, [], .iadd, 0, 0, .null), (319, [], .iaload, 0, 0, .null), (320, [], .invokevirtual 22, 151, 3, .ref 8), (323, [], .if_icmp .eq 1386, 0, 1709, .null), (326, [], .iconst 0, 0, 0, .int 0), (327, [], .ireturn, 0, 0, .null), (328, [], .aload_n 1, 1, 0, .null), (329, [], .aload_n 0, 0, 0, .null), (330, [], .iload_n 3, 3, 0, .null), (331, [], .iconst 1, 0, 0, .int 1), (332, [], .iadd, 0, 0, .null), (333, [], .iaload, 0, 0, .null)]
def kL_law_1 : List xE := [(334, [], .invokevirtual 23, 76, 2, .ref 7), (337, [], .aload_n 2, 2, 0, .null), (338, [], .aload_n 0, 0, 0, .null), (339, [], .iload_n 3, 3, 0, .null), (340, [], .iconst 1, 0, 0, .int 1), (341, [], .iadd, 0, 0, .null), (342, [], .iaload, 0, 0, .null), (343, [], .invokevirtual 27, 152, 2, .ref 8), (346, [], .if_icmp .eq 1363, 0, 1709, .null), (349, [], .iconst 0, 0, 0, .int 0), (350, [], .ireturn, 0, 0, .null), (351, [], .aload_n 1, 1, 0, .null), (352, [], .aload_n 0, 0, 0, .null), (353, [], .iload_n 3, 3, 0, .null), (354, [], .iconst 1, 0, 0, .int 1), (355, [], .iadd, 0, 0, .null), (356, [], .iaload, 0, 0, .null), (357, [], .aload_n 0, 0, 0, .null), (358, [], .iload_n 3, 3, 0, .null), (359, [], .iconst 2, 0, 0, .int 2), (360, [], .iadd, 0, 0, .null), (361, [], .iaload, 0, 0, .null), (362, [], .ifCond .eq 7, 0, 369, .null), (365, [], .iconst 1, 0, 0, .int 1), (366, [], .goto 4, 0, 370, .null), (369, [], .iconst 0, 0, 0, .int 0), (370, [], .invokevirtual 28, 77, 3, .ref 7), (373, [], .aload_n 2, 2, 0, .null), (374, [], .aload_n 0, 0, 0, .null), (375, [], .iload_n 3, 3, 0, .null), (376, [], .iconst 1, 0, 0, .int 1), (377, [], .iadd, 0, 0, .null), (378, [], .iaload, 0, 0, .null), (379, [], .aload_n 0, 0, 0, .null), (380, [], .iload_n 3, 3, 0, .null), (381, [], .iconst 2, 0, 0, .int 2), (382, [], .iadd, 0, 0, .null), (383, [], .iaload, 0, 0, .null), (384, [], .ifCond .eq 7, 0, 391, .null), (387, [], .iconst 1, 0, 0, .int 1), (388, [], .goto 4, 0, 392, .null), (391, [], .iconst 0, 0, 0, .int 0), (392, [], .invokevirtual 32, 153, 3, .ref 8), (395, [], .if_icmp .eq 1314, 0, 1709, .null), (398, [], .iconst 0, 0, 0, .int 0), (399, [], .ireturn, 0, 0, .null), (400, [], .aload_n 1, 1, 0, .null), (401, [], .aload_n 0, 0, 0, .null), (402, [], .iload_n 3, 3, 0, .null), (403, [], .iconst 1, 0, 0, .int 1), (404, [], .iadd, 0, 0, .null), (405, [], .iaload, 0, 0, .null), (406, [], .aload_n 0, 0, 0, .null), (407, [], .iload_n 3, 3, 0, .null), (408, [], .iconst 2, 0, 0, .int 2), (409, [], .iadd, 0, 0, .null), (410, [], .iaload, 0, 0, .null), (411, [], .aload_n 0, 0, 0, .null), (412, [], .iload_n 3, 3, 0, .null), (413, [], .iconst 3, 0, 0, .int 3), (414, [], .iadd, 0, 0, .null), (415, [], .iaload, 0, 0, .null), (416, [], .invokevirtual 33, 78, 4, .ref 7), (419, [], .aload_n 2, 2, 0, .null), (420, [], .aload_n 0, 0, 0, .null), (421, [], .iload_n 3, 3, 0, .null), (422, [], .iconst 1, 0, 0, .int 1), (423, [], .iadd, 0, 0, .null), (424, [], .iaload, 0, 0, .null), (425, [], .aload_n 0, 0, 0, .null), (426, [], .iload_n 3, 3, 0, .null), (427, [], .iconst 2, 0, 0, .int 2), (428, [], .iadd, 0, 0, .null), (429, [], .iaload, 0, 0, .null), (430, [], .aload_n 0, 0, 0, .null), (431, [], .iload_n 3, 3, 0, .null), (432, [], .iconst 3, 0, 0, .int 3), (433, [], .iadd, 0, 0, .null), (434, [], .iaload, 0, 0, .null), (435, [], .invokevirtual 37, 155, 4, .ref 8), (438, [], .if_icmp .eq 1271, 0, 1709, .null), (441, [], .iconst 0, 0, 0, .int 0), (442, [], .ireturn, 0, 0, .null), (443, [], .aload_n 1, 1, 0, .null), (444, [], .aload_n 0, 0, 0, .null), (445, [], .iload_n 3, 3, 0, .null), (446, [], .iconst 1, 0, 0, .int 1), (447, [], .iadd, 0, 0, .null), (448, [], .iaload, 0, 0, .null), (449, [], .invokevirtual 38, 79, 2, .ref 7), (452, [], .aload_n 2, 2, 0, .null), (453, [], .aload_n 0, 0, 0, .null), (454, [], .iload_n 3, 3, 0, .null), (455, [], .iconst 1, 0, 0, .int 1), (456, [], .iadd, 0, 0, .null), (457, [], .iaload, 0, 0, .null), (458, [], .invokevirtual 41, 156, 2, .ref 8), (461, [], .if_icmp .eq 1248, 0, 1709, .null), (464, [], .iconst 0, 0, 0, .int 0), (465, [], .ireturn, 0, 0, .null)]
def kL_law_2 : List xE := [(466, [], .aload_n 1, 1, 0, .null), (467, [], .aload_n 0, 0, 0, .null), (468, [], .iload_n 3, 3, 0, .null), (469, [], .iconst 1, 0, 0, .int 1), (470, [], .iadd, 0, 0, .null), (471, [], .iaload, 0, 0, .null), (472, [], .aload_n 0, 0, 0, .null), (473, [], .iload_n 3, 3, 0, .null), (474, [], .iconst 2, 0, 0, .int 2), (475, [], .iadd, 0, 0, .null), (476, [], .iaload, 0, 0, .null), (477, [], .aload_n 0, 0, 0, .null), (478, [], .iload_n 3, 3, 0, .null), (479, [], .iconst 3, 0, 0, .int 3), (480, [], .iadd, 0, 0, .null), (481, [], .iaload, 0, 0, .null), (482, [], .aload_n 0, 0, 0, .null), (483, [], .iload_n 3, 3, 0, .null), (484, [], .iconst 4, 0, 0, .int 4), (485, [], .iadd, 0, 0, .null), (486, [], .iaload, 0, 0, .null), (487, [], .aload_n 0, 0, 0, .null), (488, [], .iload_n 3, 3, 0, .null), (489, [], .iconst 5, 0, 0, .int 5), (490, [], .iadd, 0, 0, .null), (491, [], .iaload, 0, 0, .null), (492, [], .invokevirtual 42, 80, 6, .ref 7), (495, [], .aload_n 2, 2, 0, .null), (496, [], .aload_n 0, 0, 0, .null), (497, [], .iload_n 3, 3, 0, .null), (498, [], .iconst 1, 0, 0, .int 1), (499, [], .iadd, 0, 0, .null), (500, [], .iaload, 0, 0, .null), (501, [], .aload_n 0, 0, 0, .null), (502, [], .iload_n 3, 3, 0, .null), (503, [], .iconst 2, 0, 0, .int 2), (504, [], .iadd, 0, 0, .null), (505, [], .iaload, 0, 0, .null), (506, [], .aload_n 0, 0, 0, .null), (507, [], .iload_n 3, 3, 0, .null), (508, [], .iconst 3, 0, 0, .int 3), (509, [], .iadd, 0, 0, .null), (510, [], .iaload, 0, 0, .null), (511, [], .aload_n 0, 0, 0, .null), (512, [], .iload_n 3, 3, 0, .null), (513, [], .iconst 4, 0, 0, .int 4), (514, [], .iadd, 0, 0, .null), (515, [], .iaload, 0, 0, .null), (516, [], .aload_n 0, 0, 0, .null), (517, [], .iload_n 3, 3, 0, .null), (518, [], .iconst 5, 0, 0, .int 5), (519, [], .iadd, 0, 0, .null), (520, [], .iaload, 0, 0, .null), (521, [], .invokevirtual 46, 159, 6, .ref 8), (524, [], .if_icmp .eq 1185, 0, 1709, .null), (527, [], .iconst 0, 0, 0, .int 0), (528, [], .ireturn, 0, 0, .null), (529, [], .aload_n 1, 1, 0, .null), (530, [], .aload_n 0, 0, 0, .null), (531, [], .iload_n 3, 3, 0, .null), (532, [], .iconst 1, 0, 0, .int 1), (533, [], .iadd, 0, 0, .null), (534, [], .iaload, 0, 0, .null), (535, [], .aload_n 0, 0, 0, .null), (536, [], .iload_n 3, 3, 0, .null), (537, [], .iconst 2, 0, 0, .int 2), (538, [], .iadd, 0, 0, .null), (539, [], .iaload, 0, 0, .null), (540, [], .invokevirtual 47, 81, 3, .ref 7), (543, [], .aload_n 2, 2, 0, .null), (544, [], .aload_n 0, 0, 0, .null), (545, [], .iload_n 3, 3, 0, .null), (546, [], .iconst 1, 0, 0, .int 1), (547, [], .iadd, 0, 0, .null), (548, [], .iaload, 0, 0, .null), (549, [], .aload_n 0, 0, 0, .null), (550, [], .iload_n 3, 3, 0, .null), (551, [], .iconst 2, 0, 0, .int 2), (552, [], .iadd, 0, 0, .null), (553, [], .iaload, 0, 0, .null), (554, [], .invokevirtual 50, 162, 3, .ref 8), (557, [], .if_icmp .eq 1152, 0, 1709, .null), (560, [], .iconst 0, 0, 0, .int 0), (561, [], .ireturn, 0, 0, .null), (562, [], .aload_n 1, 1, 0, .null), (563, [], .aload_n 0, 0, 0, .null), (564, [], .iload_n 3, 3, 0, .null), (565, [], .iconst 1, 0, 0, .int 1), (566, [], .iadd, 0, 0, .null), (567, [], .iaload, 0, 0, .null), (568, [], .aload_n 0, 0, 0, .null), (569, [], .iload_n 3, 3, 0, .null), (570, [], .iconst 2, 0, 0, .int 2), (571, [], .iadd, 0, 0, .null), (572, [], .iaload, 0, 0, .null), (573, [], .invokevirtual 51, 82, 3, .ref 7), (576, [], .aload_n 2, 2, 0, .null), (577, [], .aload_n 0, 0, 0, .null), (578, [], .iload_n 3, 3, 0, .null), (579, [], .iconst 1, 0, 0, .int 1)]
def kL_law_3 : List xE := [(580, [], .iadd, 0, 0, .null), (581, [], .iaload, 0, 0, .null), (582, [], .aload_n 0, 0, 0, .null), (583, [], .iload_n 3, 3, 0, .null), (584, [], .iconst 2, 0, 0, .int 2), (585, [], .iadd, 0, 0, .null), (586, [], .iaload, 0, 0, .null), (587, [], .invokevirtual 54, 163, 3, .ref 8), (590, [], .if_icmp .eq 1119, 0, 1709, .null), (593, [], .iconst 0, 0, 0, .int 0), (594, [], .ireturn, 0, 0, .null), (595, [], .aload_n 1, 1, 0, .null), (596, [], .aload_n 0, 0, 0, .null), (597, [], .iload_n 3, 3, 0, .null), (598, [], .iconst 1, 0, 0, .int 1), (599, [], .iadd, 0, 0, .null), (600, [], .iaload, 0, 0, .null), (601, [], .aload_n 0, 0, 0, .null), (602, [], .iload_n 3, 3, 0, .null), (603, [], .iconst 2, 0, 0, .int 2), (604, [], .iadd, 0, 0, .null), (605, [], .iaload, 0, 0, .null), (606, [], .invokevirtual 55, 83, 3, .ref 7), (609, [], .aload_n 2, 2, 0, .null), (610, [], .aload_n 0, 0, 0, .null), (611, [], .iload_n 3, 3, 0, .null), (612, [], .iconst 1, 0, 0, .int 1), (613, [], .iadd, 0, 0, .null), (614, [], .iaload, 0, 0, .null), (615, [], .aload_n 0, 0, 0, .null), (616, [], .iload_n 3, 3, 0, .null), (617, [], .iconst 2, 0, 0, .int 2), (618, [], .iadd, 0, 0, .null), (619, [], .iaload, 0, 0, .null), (620, [], .invokevirtual 58, 165, 3, .ref 8), (623, [], .if_icmp .eq 1086, 0, 1709, .null), (626, [], .iconst 0, 0, 0, .int 0), (627, [], .ireturn, 0, 0, .null), (628, [], .aload_n 1, 1, 0, .null), (629, [], .aload_n 0, 0, 0, .null), (630, [], .iload_n 3, 3, 0, .null), (631, [], .iconst 1, 0, 0, .int 1), (632, [], .iadd, 0, 0, .null), (633, [], .iaload, 0, 0, .null), (634, [], .invokevirtual 59, 84, 2, .ref 7), (637, [], .aload_n 2, 2, 0, .null), (638, [], .aload_n 0, 0, 0, .null), (639, [], .iload_n 3, 3, 0, .null), (640, [], .iconst 1, 0, 0, .int 1), (641, [], .iadd, 0, 0, .null), (642, [], .iaload, 0, 0, .null), (643, [], .invokevirtual 62, 168, 2, .ref 8), (646, [], .if_icmp .eq 1063, 0, 1709, .null), (649, [], .iconst 0, 0, 0, .int 0), (650, [], .ireturn, 0, 0, .null), (651, [], .aload_n 1, 1, 0, .null), (652, [], .aload_n 0, 0, 0, .null), (653, [], .iload_n 3, 3, 0, .null), (654, [], .iconst 1, 0, 0, .int 1), (655, [], .iadd, 0, 0, .null), (656, [], .iaload, 0, 0, .null), (657, [], .invokevirtual 63, 85, 2, .ref 7), (660, [], .aload_n 2, 2, 0, .null), (661, [], .aload_n 0, 0, 0, .null), (662, [], .iload_n 3, 3, 0, .null), (663, [], .iconst 1, 0, 0, .int 1), (664, [], .iadd, 0, 0, .null), (665, [], .iaload, 0, 0, .null), (666, [], .invokevirtual 66, 170, 2, .ref 8), (669, [], .if_icmp .eq 1040, 0, 1709, .null), (672, [], .iconst 0, 0, 0, .int 0), (673, [], .ireturn, 0, 0, .null), (674, [], .aload_n 1, 1, 0, .null), (675, [], .aload_n 0, 0, 0, .null), (676, [], .iload_n 3, 3, 0, .null), (677, [], .iconst 1, 0, 0, .int 1), (678, [], .iadd, 0, 0, .null), (679, [], .iaload, 0, 0, .null), (680, [], .aload_n 0, 0, 0, .null), (681, [], .iload_n 3, 3, 0, .null), (682, [], .iconst 2, 0, 0, .int 2), (683, [], .iadd, 0, 0, .null), (684, [], .iaload, 0, 0, .null), (685, [], .invokevirtual 67, 86, 3, .ref 7), (688, [], .aload_n 2, 2, 0, .null), (689, [], .aload_n 0, 0, 0, .null), (690, [], .iload_n 3, 3, 0, .null), (691, [], .iconst 1, 0, 0, .int 1), (692, [], .iadd, 0, 0, .null), (693, [], .iaload, 0, 0, .null), (694, [], .aload_n 0, 0, 0, .null), (695, [], .iload_n 3, 3, 0, .null), (696, [], .iconst 2, 0, 0, .int 2), (697, [], .iadd, 0, 0, .null), (698, [], .iaload, 0, 0, .null), (699, [], .invokevirtual 70, 173, 3, .ref 8), (702, [], .if_icmp .eq 1007, 0, 1709, .null), (705, [], .iconst 0, 0, 0, .int 0), (706, [], .ireturn, 0, 0, .null), (707, [], .aload_n 1, 1, 0, .null)]
def kL_law_4 : List xE := [(708, [], .aload_n 0, 0, 0, .null), (709, [], .iload_n 3, 3, 0, .null), (710, [], .iconst 1, 0, 0, .int 1), (711, [], .iadd, 0, 0, .null), (712, [], .iaload, 0, 0, .null), (713, [], .invokevirtual 71, 87, 2, .ref 7), (716, [], .aload_n 2, 2, 0, .null), (717, [], .aload_n 0, 0, 0, .null), (718, [], .iload_n 3, 3, 0, .null), (719, [], .iconst 1, 0, 0, .int 1), (720, [], .iadd, 0, 0, .null), (721, [], .iaload, 0, 0, .null), (722, [], .invokevirtual 74, 174, 2, .ref 8), (725, [], .if_icmp .eq 984, 0, 1709, .null), (728, [], .iconst 0, 0, 0, .int 0), (729, [], .ireturn, 0, 0, .null), (730, [], .aload_n 1, 1, 0, .null), (731, [], .aload_n 0, 0, 0, .null), (732, [], .iload_n 3, 3, 0, .null), (733, [], .iconst 1, 0, 0, .int 1), (734, [], .iadd, 0, 0, .null), (735, [], .iaload, 0, 0, .null), (736, [], .aload_n 0, 0, 0, .null), (737, [], .iload_n 3, 3, 0, .null), (738, [], .iconst 2, 0, 0, .int 2), (739, [], .iadd, 0, 0, .null), (740, [], .iaload, 0, 0, .null), (741, [], .invokevirtual 75, 88, 3, .ref 7), (744, [], .aload_n 2, 2, 0, .null), (745, [], .aload_n 0, 0, 0, .null), (746, [], .iload_n 3, 3, 0, .null), (747, [], .iconst 1, 0, 0, .int 1), (748, [], .iadd, 0, 0, .null), (749, [], .iaload, 0, 0, .null), (750, [], .aload_n 0, 0, 0, .null), (751, [], .iload_n 3, 3, 0, .null), (752, [], .iconst 2, 0, 0, .int 2), (753, [], .iadd, 0, 0, .null), (754, [], .iaload, 0, 0, .null), (755, [], .invokevirtual 78, 177, 3, .ref 8), (758, [], .if_icmp .eq 951, 0, 1709, .null), (761, [], .iconst 0, 0, 0, .int 0), (762, [], .ireturn, 0, 0, .null), (763, [], .aload_n 1, 1, 0, .null), (764, [], .aload_n 0, 0, 0, .null), (765, [], .iload_n 3, 3, 0, .null), (766, [], .iconst 1, 0, 0, .int 1), (767, [], .iadd, 0, 0, .null), (768, [], .iaload, 0, 0, .null), (769, [], .aload_n 0, 0, 0, .null), (770, [], .iload_n 3, 3, 0, .null), (771, [], .iconst 2, 0, 0, .int 2), (772, [], .iadd, 0, 0, .null), (773, [], .iaload, 0, 0, .null), (774, [], .aload_n 0, 0, 0, .null), (775, [], .iload_n 3, 3, 0, .null), (776, [], .iconst 3, 0, 0, .int 3), (777, [], .iadd, 0, 0, .null), (778, [], .iaload, 0, 0, .null), (779, [], .invokevirtual 79, 89, 4, .ref 7), (782, [], .aload_n 2, 2, 0, .null), (783, [], .aload_n 0, 0, 0, .null), (784, [], .iload_n 3, 3, 0, .null), (785, [], .iconst 1, 0, 0, .int 1), (786, [], .iadd, 0, 0, .null), (787, [], .iaload, 0, 0, .null), (788, [], .aload_n 0, 0, 0, .null), (789, [], .iload_n 3, 3, 0, .null), (790, [], .iconst 2, 0, 0, .int 2), (791, [], .iadd, 0, 0, .null), (792, [], .iaload, 0, 0, .null), (793, [], .aload_n 0, 0, 0, .null), (794, [], .iload_n 3, 3, 0, .null), (795, [], .iconst 3, 0, 0, .int 3), (796, [], .iadd, 0, 0, .null), (797, [], .iaload, 0, 0, .null), (798, [], .invokevirtual 82, 178, 4, .ref 8), (801, [], .if_icmp .eq 908, 0, 1709, .null), (804, [], .iconst 0, 0, 0, .int 0), (805, [], .ireturn, 0, 0, .null), (806, [], .aload_n 1, 1, 0, .null), (807, [], .aload_n 0, 0, 0, .null), (808, [], .iload_n 3, 3, 0, .null), (809, [], .iconst 1, 0, 0, .int 1), (810, [], .iadd, 0, 0, .null), (811, [], .iaload, 0, 0, .null), (812, [], .aload_n 0, 0, 0, .null), (813, [], .iload_n 3, 3, 0, .null), (814, [], .iconst 2, 0, 0, .int 2), (815, [], .iadd, 0, 0, .null), (816, [], .iaload, 0, 0, .null), (817, [], .invokevirtual 83, 90, 3, .ref 7), (820, [], .aload_n 2, 2, 0, .null), (821, [], .aload_n 0, 0, 0, .null), (822, [], .iload_n 3, 3, 0, .null), (823, [], .iconst 1, 0, 0, .int 1), (824, [], .iadd, 0, 0, .null), (825, [], .iaload, 0, 0, .null), (826, [], .aload_n 0, 0, 0, .null), (827, [], .iload_n 3, 3, 0, .null)]
def kL_law_5 : List xE := [(828, [], .iconst 2, 0, 0, .int 2), (829, [], .iadd, 0, 0, .null), (830, [], .iaload, 0, 0, .null), (831, [], .invokevirtual 86, 179, 3, .ref 8), (834, [], .if_icmp .eq 875, 0, 1709, .null), (837, [], .iconst 0, 0, 0, .int 0), (838, [], .ireturn, 0, 0, .null), (839, [], .aload_n 1, 1, 0, .null), (840, [], .aload_n 0, 0, 0, .null), (841, [], .iload_n 3, 3, 0, .null), (842, [], .iconst 1, 0, 0, .int 1), (843, [], .iadd, 0, 0, .null), (844, [], .iaload, 0, 0, .null), (845, [], .aload_n 0, 0, 0, .null), (846, [], .iload_n 3, 3, 0, .null), (847, [], .iconst 2, 0, 0, .int 2), (848, [], .iadd, 0, 0, .null), (849, [], .iaload, 0, 0, .null), (850, [], .invokevirtual 87, 91, 3, .ref 7), (853, [], .aload_n 2, 2, 0, .null), (854, [], .aload_n 0, 0, 0, .null), (855, [], .iload_n 3, 3, 0, .null), (856, [], .iconst 1, 0, 0, .int 1), (857, [], .iadd, 0, 0, .null), (858, [], .iaload, 0, 0, .null), (859, [], .aload_n 0, 0, 0, .null), (860, [], .iload_n 3, 3, 0, .null), (861, [], .iconst 2, 0, 0, .int 2), (862, [], .iadd, 0, 0, .null), (863, [], .iaload, 0, 0, .null), (864, [], .invokevirtual 90, 180, 3, .ref 8), (867, [], .if_icmp .eq 842, 0, 1709, .null), (870, [], .iconst 0, 0, 0, .int 0), (871, [], .ireturn, 0, 0, .null), (872, [], .aload_n 1, 1, 0, .null), (873, [], .aload_n 0, 0, 0, .null), (874, [], .iload_n 3, 3, 0, .null), (875, [], .iconst 1, 0, 0, .int 1), (876, [], .iadd, 0, 0, .null), (877, [], .iaload, 0, 0, .null), (878, [], .invokevirtual 91, 92, 2, .ref 7), (881, [], .aload_n 2, 2, 0, .null), (882, [], .aload_n 0, 0, 0, .null), (883, [], .iload_n 3, 3, 0, .null), (884, [], .iconst 1, 0, 0, .int 1), (885, [], .iadd, 0, 0, .null), (886, [], .iaload, 0, 0, .null), (887, [], .invokevirtual 94, 181, 2, .ref 8), (890, [], .if_icmp .eq 819, 0, 1709, .null), (893, [], .iconst 0, 0, 0, .int 0), (894, [], .ireturn, 0, 0, .null), (895, [], .aload_n 1, 1, 0, .null), (896, [], .aload_n 0, 0, 0, .null), (897, [], .iload_n 3, 3, 0, .null), (898, [], .iconst 1, 0, 0, .int 1), (899, [], .iadd, 0, 0, .null), (900, [], .iaload, 0, 0, .null), (901, [], .aload_n 0, 0, 0, .null), (902, [], .iload_n 3, 3, 0, .null), (903, [], .iconst 2, 0, 0, .int 2), (904, [], .iadd, 0, 0, .null), (905, [], .iaload, 0, 0, .null), (906, [], .invokevirtual 95, 93, 3, .ref 7), (909, [], .aload_n 2, 2, 0, .null), (910, [], .aload_n 0, 0, 0, .null), (911, [], .iload_n 3, 3, 0, .null), (912, [], .iconst 1, 0, 0, .int 1), (913, [], .iadd, 0, 0, .null), (914, [], .iaload, 0, 0, .null), (915, [], .aload_n 0, 0, 0, .null), (916, [], .iload_n 3, 3, 0, .null), (917, [], .iconst 2, 0, 0, .int 2), (918, [], .iadd, 0, 0, .null), (919, [], .iaload, 0, 0, .null), (920, [], .invokevirtual 98, 182, 3, .ref 8), (923, [], .if_icmp .eq 786, 0, 1709, .null), (926, [], .iconst 0, 0, 0, .int 0), (927, [], .ireturn, 0, 0, .null), (928, [], .aload_n 1, 1, 0, .null), (929, [], .aload_n 0, 0, 0, .null), (930, [], .iload_n 3, 3, 0, .null), (931, [], .iconst 1, 0, 0, .int 1), (932, [], .iadd, 0, 0, .null), (933, [], .iaload, 0, 0, .null), (934, [], .aload_n 0, 0, 0, .null), (935, [], .iload_n 3, 3, 0, .null), (936, [], .iconst 2, 0, 0, .int 2), (937, [], .iadd, 0, 0, .null), (938, [], .iaload, 0, 0, .null), (939, [], .aload_n 0, 0, 0, .null), (940, [], .iload_n 3, 3, 0, .null), (941, [], .iconst 3, 0, 0, .int 3), (942, [], .iadd, 0, 0, .null), (943, [], .iaload, 0, 0, .null), (944, [], .aload_n 0, 0, 0, .null), (945, [], .iload_n 3, 3, 0, .null), (946, [], .iconst 4, 0, 0, .int 4), (947, [], .iadd, 0, 0, .null), (948, [], .iaload, 0, 0, .null), (949, [], .invokevirtual 99, 94, 5, .ref 7)]
def kL_law_6 : List xE := [(952, [], .aload_n 2, 2, 0, .null), (953, [], .aload_n 0, 0, 0, .null), (954, [], .iload_n 3, 3, 0, .null), (955, [], .iconst 1, 0, 0, .int 1), (956, [], .iadd, 0, 0, .null), (957, [], .iaload, 0, 0, .null), (958, [], .aload_n 0, 0, 0, .null), (959, [], .iload_n 3, 3, 0, .null), (960, [], .iconst 2, 0, 0, .int 2), (961, [], .iadd, 0, 0, .null), (962, [], .iaload, 0, 0, .null), (963, [], .aload_n 0, 0, 0, .null), (964, [], .iload_n 3, 3, 0, .null), (965, [], .iconst 3, 0, 0, .int 3), (966, [], .iadd, 0, 0, .null), (967, [], .iaload, 0, 0, .null), (968, [], .aload_n 0, 0, 0, .null), (969, [], .iload_n 3, 3, 0, .null), (970, [], .iconst 4, 0, 0, .int 4), (971, [], .iadd, 0, 0, .null), (972, [], .iaload, 0, 0, .null), (973, [], .invokevirtual 103, 186, 5, .ref 8), (976, [], .if_icmp .eq 733, 0, 1709, .null), (979, [], .iconst 0, 0, 0, .int 0), (980, [], .ireturn, 0, 0, .null), (981, [], .aload_n 1, 1, 0, .null), (982, [], .aload_n 0, 0, 0, .null), (983, [], .iload_n 3, 3, 0, .null), (984, [], .iconst 1, 0, 0, .int 1), (985, [], .iadd, 0, 0, .null), (986, [], .iaload, 0, 0, .null), (987, [], .aload_n 0, 0, 0, .null), (988, [], .iload_n 3, 3, 0, .null), (989, [], .iconst 2, 0, 0, .int 2), (990, [], .iadd, 0, 0, .null), (991, [], .iaload, 0, 0, .null), (992, [], .invokevirtual 104, 95, 3, .ref 7), (995, [], .aload_n 2, 2, 0, .null), (996, [], .aload_n 0, 0, 0, .null), (997, [], .iload_n 3, 3, 0, .null), (998, [], .iconst 1, 0, 0, .int 1), (999, [], .iadd, 0, 0, .null), (1000, [], .iaload, 0, 0, .null), (1001, [], .aload_n 0, 0, 0, .null), (1002, [], .iload_n 3, 3, 0, .null), (1003, [], .iconst 2, 0, 0, .int 2), (1004, [], .iadd, 0, 0, .null), (1005, [], .iaload, 0, 0, .null), (1006, [], .invokevirtual 107, 187, 3, .ref 8), (1009, [], .if_icmp .eq 700, 0, 1709, .null), (1012, [], .iconst 0, 0, 0, .int 0), (1013, [], .ireturn, 0, 0, .null), (1014, [], .aload_n 1, 1, 0, .null), (1015, [], .aload_n 0, 0, 0, .null), (1016, [], .iload_n 3, 3, 0, .null), (1017, [], .iconst 1, 0, 0, .int 1), (1018, [], .iadd, 0, 0, .null), (1019, [], .iaload, 0, 0, .null), (1020, [], .aload_n 0, 0, 0, .null), (1021, [], .iload_n 3, 3, 0, .null), (1022, [], .iconst 2, 0, 0, .int 2), (1023, [], .iadd, 0, 0, .null), (1024, [], .iaload, 0, 0, .null), (1025, [], .invokevirtual 108, 96, 3, .ref 7), (1028, [], .aload_n 2, 2, 0, .null), (1029, [], .aload_n 0, 0, 0, .null), (1030, [], .iload_n 3, 3, 0, .null), (1031, [], .iconst 1, 0, 0, .int 1), (1032, [], .iadd, 0, 0, .null), (1033, [], .iaload, 0, 0, .null), (1034, [], .aload_n 0, 0, 0, .null), (1035, [], .iload_n 3, 3, 0, .null), (1036, [], .iconst 2, 0, 0, .int 2), (1037, [], .iadd, 0, 0, .null), (1038, [], .iaload, 0, 0, .null), (1039, [], .invokevirtual 111, 189, 3, .ref 8), (1042, [], .if_icmp .eq 667, 0, 1709, .null), (1045, [], .iconst 0, 0, 0, .int 0), (1046, [], .ireturn, 0, 0, .null), (1047, [], .aload_n 1, 1, 0, .null), (1048, [], .aload_n 0, 0, 0, .null), (1049, [], .iload_n 3, 3, 0, .null), (1050, [], .iconst 1, 0, 0, .int 1), (1051, [], .iadd, 0, 0, .null), (1052, [], .iaload, 0, 0, .null), (1053, [], .aload_n 0, 0, 0, .null), (1054, [], .iload_n 3, 3, 0, .null), (1055, [], .iconst 2, 0, 0, .int 2), (1056, [], .iadd, 0, 0, .null), (1057, [], .iaload, 0, 0, .null), (1058, [], .invokevirtual 112, 97, 3, .ref 7), (1061, [], .aload_n 2, 2, 0, .null), (1062, [], .aload_n 0, 0, 0, .null), (1063, [], .iload_n 3, 3, 0, .null), (1064, [], .iconst 1, 0, 0, .int 1), (1065, [], .iadd, 0, 0, .null), (1066, [], .iaload, 0, 0, .null), (1067, [], .aload_n 0, 0, 0, .null), (1068, [], .iload_n 3, 3, 0, .null), (1069, [], .iconst 2, 0, 0, .int 2)]
def kL_law_7 : List xE := [(1070, [], .iadd, 0, 0, .null), (1071, [], .iaload, 0, 0, .null), (1072, [], .invokevirtual 115, 190, 3, .ref 8), (1075, [], .if_icmp .eq 634, 0, 1709, .null), (1078, [], .iconst 0, 0, 0, .int 0), (1079, [], .ireturn, 0, 0, .null), (1080, [], .aload_n 1, 1, 0, .null), (1081, [], .aload_n 0, 0, 0, .null), (1082, [], .iload_n 3, 3, 0, .null), (1083, [], .iconst 1, 0, 0, .int 1), (1084, [], .iadd, 0, 0, .null), (1085, [], .iaload, 0, 0, .null), (1086, [], .invokevirtual 116, 98, 2, .ref 7), (1089, [], .aload_n 2, 2, 0, .null), (1090, [], .aload_n 0, 0, 0, .null), (1091, [], .iload_n 3, 3, 0, .null), (1092, [], .iconst 1, 0, 0, .int 1), (1093, [], .iadd, 0, 0, .null), (1094, [], .iaload, 0, 0, .null), (1095, [], .invokevirtual 119, 191, 2, .ref 8), (1098, [], .if_icmp .eq 611, 0, 1709, .null), (1101, [], .iconst 0, 0, 0, .int 0), (1102, [], .ireturn, 0, 0, .null), (1103, [], .aload_n 1, 1, 0, .null), (1104, [], .aload_n 0, 0, 0, .null), (1105, [], .iload_n 3, 3, 0, .null), (1106, [], .iconst 1, 0, 0, .int 1), (1107, [], .iadd, 0, 0, .null), (1108, [], .iaload, 0, 0, .null), (1109, [], .invokevirtual 120, 99, 2, .ref 7), (1112, [], .aload_n 2, 2, 0, .null), (1113, [], .aload_n 0, 0, 0, .null), (1114, [], .iload_n 3, 3, 0, .null), (1115, [], .iconst 1, 0, 0, .int 1), (1116, [], .iadd, 0, 0, .null), (1117, [], .iaload, 0, 0, .null), (1118, [], .invokevirtual 123, 192, 2, .ref 8), (1121, [], .if_icmp .eq 588, 0, 1709, .null), (1124, [], .iconst 0, 0, 0, .int 0), (1125, [], .ireturn, 0, 0, .null), (1126, [], .aload_n 1, 1, 0, .null), (1127, [], .aload_n 0, 0, 0, .null), (1128, [], .iload_n 3, 3, 0, .null), (1129, [], .iconst 1, 0, 0, .int 1), (1130, [], .iadd, 0, 0, .null), (1131, [], .iaload, 0, 0, .null), (1132, [], .aload_n 0, 0, 0, .null), (1133, [], .iload_n 3, 3, 0, .null), (1134, [], .iconst 2, 0, 0, .int 2), (1135, [], .iadd, 0, 0, .null), (1136, [], .iaload, 0, 0, .null), (1137, [], .invokevirtual 124, 100, 3, .ref 7), (1140, [], .aload_n 2, 2, 0, .null), (1141, [], .aload_n 0, 0, 0, .null), (1142, [], .iload_n 3, 3, 0, .null), (1143, [], .iconst 1, 0, 0, .int 1), (1144, [], .iadd, 0, 0, .null), (1145, [], .iaload, 0, 0, .null), (1146, [], .aload_n 0, 0, 0, .null), (1147, [], .iload_n 3, 3, 0, .null), (1148, [], .iconst 2, 0, 0, .int 2), (1149, [], .iadd, 0, 0, .null), (1150, [], .iaload, 0, 0, .null), (1151, [], .invokevirtual 127, 193, 3, .ref 8), (1154, [], .if_icmp .eq 555, 0, 1709, .null), (1157, [], .iconst 0, 0, 0, .int 0), (1158, [], .ireturn, 0, 0, .null), (1159, [], .aload_n 1, 1, 0, .null), (1160, [], .aload_n 0, 0, 0, .null), (1161, [], .iload_n 3, 3, 0, .null), (1162, [], .iconst 1, 0, 0, .int 1), (1163, [], .iadd, 0, 0, .null), (1164, [], .iaload, 0, 0, .null), (1165, [], .invokevirtual 128, 101, 2, .ref 7), (1168, [], .aload_n 2, 2, 0, .null), (1169, [], .aload_n 0, 0, 0, .null), (1170, [], .iload_n 3, 3, 0, .null), (1171, [], .iconst 1, 0, 0, .int 1), (1172, [], .iadd, 0, 0, .null), (1173, [], .iaload, 0, 0, .null), (1174, [], .invokevirtual 131, 195, 2, .ref 8), (1177, [], .if_icmp .eq 532, 0, 1709, .null), (1180, [], .iconst 0, 0, 0, .int 0), (1181, [], .ireturn, 0, 0, .null), (1182, [], .aload_n 1, 1, 0, .null), (1183, [], .aload_n 0, 0, 0, .null), (1184, [], .iload_n 3, 3, 0, .null), (1185, [], .iconst 1, 0, 0, .int 1), (1186, [], .iadd, 0, 0, .null), (1187, [], .iaload, 0, 0, .null), (1188, [], .aload_n 0, 0, 0, .null), (1189, [], .iload_n 3, 3, 0, .null), (1190, [], .iconst 2, 0, 0, .int 2), (1191, [], .iadd, 0, 0, .null), (1192, [], .iaload, 0, 0, .null), (1193, [], .aload_n 0, 0, 0, .null), (1194, [], .iload_n 3, 3, 0, .null), (1195, [], .iconst 3, 0, 0, .int 3), (1196, [], .iadd, 0, 0, .null), (1197, [], .iaload, 0, 0, .null)]
def kL_law_8 : List xE := [(1198, [], .invokevirtual 132, 102, 4, .ref 7), (1201, [], .aload_n 2, 2, 0, .null), (1202, [], .aload_n 0, 0, 0, .null), (1203, [], .iload_n 3, 3, 0, .null), (1204, [], .iconst 1, 0, 0, .int 1), (1205, [], .iadd, 0, 0, .null), (1206, [], .iaload, 0, 0, .null), (1207, [], .aload_n 0, 0, 0, .null), (1208, [], .iload_n 3, 3, 0, .null), (1209, [], .iconst 2, 0, 0, .int 2), (1210, [], .iadd, 0, 0, .null), (1211, [], .iaload, 0, 0, .null), (1212, [], .aload_n 0, 0, 0, .null), (1213, [], .iload_n 3, 3, 0, .null), (1214, [], .iconst 3, 0, 0, .int 3), (1215, [], .iadd, 0, 0, .null), (1216, [], .iaload, 0, 0, .null), (1217, [], .invokevirtual 135, 196, 4, .ref 8), (1220, [], .if_icmp .eq 489, 0, 1709, .null), (1223, [], .iconst 0, 0, 0, .int 0), (1224, [], .ireturn, 0, 0, .null), (1225, [], .aload_n 1, 1, 0, .null), (1226, [], .aload_n 0, 0, 0, .null), (1227, [], .iload_n 3, 3, 0, .null), (1228, [], .iconst 1, 0, 0, .int 1), (1229, [], .iadd, 0, 0, .null), (1230, [], .iaload, 0, 0, .null), (1231, [], .invokevirtual 136, 103, 2, .ref 7), (1234, [], .aload_n 2, 2, 0, .null), (1235, [], .aload_n 0, 0, 0, .null), (1236, [], .iload_n 3, 3, 0, .null), (1237, [], .iconst 1, 0, 0, .int 1), (1238, [], .iadd, 0, 0, .null), (1239, [], .iaload, 0, 0, .null), (1240, [], .invokevirtual 139, 197, 2, .ref 8), (1243, [], .if_icmp .eq 466, 0, 1709, .null), (1246, [], .iconst 0, 0, 0, .int 0), (1247, [], .ireturn, 0, 0, .null), (1248, [], .aload_n 1, 1, 0, .null), (1249, [], .invokevirtual 140, 104, 1, .ref 7), (1252, [], .aload_n 2, 2, 0, .null), (1253, [], .invokevirtual 144, 198, 1, .ref 8), (1256, [], .if_icmp .eq 453, 0, 1709, .null), (1259, [], .iconst 0, 0, 0, .int 0), (1260, [], .ireturn, 0, 0, .null), (1261, [], .aload_n 1, 1, 0, .null), (1262, [], .aload_n 0, 0, 0, .null), (1263, [], .iload_n 3, 3, 0, .null), (1264, [], .iconst 1, 0, 0, .int 1), (1265, [], .iadd, 0, 0, .null), (1266, [], .iaload, 0, 0, .null), (1267, [], .invokevirtual 145, 105, 2, .ref 7), (1270, [], .aload_n 2, 2, 0, .null), (1271, [], .aload_n 0, 0, 0, .null), (1272, [], .iload_n 3, 3, 0, .null), (1273, [], .iconst 1, 0, 0, .int 1), (1274, [], .iadd, 0, 0, .null), (1275, [], .iaload, 0, 0, .null), (1276, [], .invokevirtual 148, 199, 2, .ref 8), (1279, [], .if_icmp .eq 430, 0, 1709, .null), (1282, [], .iconst 0, 0, 0, .int 0), (1283, [], .ireturn, 0, 0, .null), (1284, [], .aload_n 1, 1, 0, .null), (1285, [], .aload_n 0, 0, 0, .null), (1286, [], .iload_n 3, 3, 0, .null), (1287, [], .iconst 1, 0, 0, .int 1), (1288, [], .iadd, 0, 0, .null), (1289, [], .iaload, 0, 0, .null), (1290, [], .aload_n 0, 0, 0, .null), (1291, [], .iload_n 3, 3, 0, .null), (1292, [], .iconst 2, 0, 0, .int 2), (1293, [], .iadd, 0, 0, .null), (1294, [], .iaload, 0, 0, .null), (1295, [], .invokevirtual 149, 106, 3, .ref 7), (1298, [], .aload_n 2, 2, 0, .null), (1299, [], .aload_n 0, 0, 0, .null), (1300, [], .iload_n 3, 3, 0, .null), (1301, [], .iconst 1, 0, 0, .int 1), (1302, [], .iadd, 0, 0, .null), (1303, [], .iaload, 0, 0, .null), (1304, [], .aload_n 0, 0, 0, .null), (1305, [], .iload_n 3, 3, 0, .null), (1306, [], .iconst 2, 0, 0, .int 2), (1307, [], .iadd, 0, 0, .null), (1308, [], .iaload, 0, 0, .null), (1309, [], .invokevirtual 152, 200, 3, .ref 8), (1312, [], .if_icmp .eq 397, 0, 1709, .null), (1315, [], .iconst 0, 0, 0, .int 0), (1316, [], .ireturn, 0, 0, .null), (1317, [], .aload_n 1, 1, 0, .null), (1318, [], .invokevirtual 153, 107, 1, .ref 7), (1321, [], .aload_n 2, 2, 0, .null), (1322, [], .invokevirtual 156, 201, 1, .ref 8), (1325, [], .if_icmp .eq 384, 0, 1709, .null), (1328, [], .iconst 0, 0, 0, .int 0), (1329, [], .ireturn, 0, 0, .null), (1330, [], .aload_n 1, 1, 0, .null), (1331, [], .invokevirtual 157, 108, 1, .ref 7), (1334, [], .aload_n 2, 2, 0, .null), (1335, [], .invokevirtual 160, 212, 1, .ref 8)]
def kL_law_9 : List xE := [(1338, [], .if_icmp .eq 371, 0, 1709, .null), (1341, [], .iconst 0, 0, 0, .int 0), (1342, [], .ireturn, 0, 0, .null), (1343, [], .aload_n 1, 1, 0, .null), (1344, [], .aload_n 0, 0, 0, .null), (1345, [], .iload_n 3, 3, 0, .null), (1346, [], .iconst 1, 0, 0, .int 1), (1347, [], .iadd, 0, 0, .null), (1348, [], .iaload, 0, 0, .null), (1349, [], .aload_n 0, 0, 0, .null), (1350, [], .iload_n 3, 3, 0, .null), (1351, [], .iconst 2, 0, 0, .int 2), (1352, [], .iadd, 0, 0, .null), (1353, [], .iaload, 0, 0, .null), (1354, [], .invokevirtual 161, 109, 3, .ref 7), (1357, [], .aload_n 2, 2, 0, .null), (1358, [], .aload_n 0, 0, 0, .null), (1359, [], .iload_n 3, 3, 0, .null), (1360, [], .iconst 1, 0, 0, .int 1), (1361, [], .iadd, 0, 0, .null), (1362, [], .iaload, 0, 0, .null), (1363, [], .aload_n 0, 0, 0, .null), (1364, [], .iload_n 3, 3, 0, .null), (1365, [], .iconst 2, 0, 0, .int 2), (1366, [], .iadd, 0, 0, .null), (1367, [], .iaload, 0, 0, .null), (1368, [], .invokevirtual 164, 213, 3, .ref 8), (1371, [], .if_icmp .eq 338, 0, 1709, .null), (1374, [], .iconst 0, 0, 0, .int 0), (1375, [], .ireturn, 0, 0, .null), (1376, [], .aload_n 1, 1, 0, .null), (1377, [], .aload_n 0, 0, 0, .null), (1378, [], .iload_n 3, 3, 0, .null), (1379, [], .iconst 1, 0, 0, .int 1), (1380, [], .iadd, 0, 0, .null), (1381, [], .iaload, 0, 0, .null), (1382, [], .aload_n 0, 0, 0, .null), (1383, [], .iload_n 3, 3, 0, .null), (1384, [], .iconst 2, 0, 0, .int 2), (1385, [], .iadd, 0, 0, .null), (1386, [], .iaload, 0, 0, .null), (1387, [], .invokevirtual 165, 110, 3, .ref 7), (1390, [], .aload_n 2, 2, 0, .null), (1391, [], .aload_n 0, 0, 0, .null), (1392, [], .iload_n 3, 3, 0, .null), (1393, [], .iconst 1, 0, 0, .int 1), (1394, [], .iadd, 0, 0, .null), (1395, [], .iaload, 0, 0, .null), (1396, [], .aload_n 0, 0, 0, .null), (1397, [], .iload_n 3, 3, 0, .null), (1398, [], .iconst 2, 0, 0, .int 2), (1399, [], .iadd, 0, 0, .null), (1400, [], .iaload, 0, 0, .null), (1401, [], .invokevirtual 168, 215, 3, .ref 8), (1404, [], .if_icmp .eq 305, 0, 1709, .null), (1407, [], .iconst 0, 0, 0, .int 0), (1408, [], .ireturn, 0, 0, .null), (1409, [], .aload_n 1, 1, 0, .null), (1410, [], .aload_n 0, 0, 0, .null), (1411, [], .iload_n 3, 3, 0, .null), (1412, [], .iconst 1, 0, 0, .int 1), (1413, [], .iadd, 0, 0, .null), (1414, [], .iaload, 0, 0, .null), (1415, [], .aload_n 0, 0, 0, .null), (1416, [], .iload_n 3, 3, 0, .null), (1417, [], .iconst 2, 0, 0, .int 2), (1418, [], .iadd, 0, 0, .null), (1419, [], .iaload, 0, 0, .null), (1420, [], .aload_n 0, 0, 0, .null), (1421, [], .iload_n 3, 3, 0, .null), (1422, [], .iconst 3, 0, 0, .int 3), (1423, [], .iadd, 0, 0, .null), (1424, [], .iaload, 0, 0, .null), (1425, [], .invokevirtual 169, 111, 4, .ref 7), (1428, [], .aload_n 2, 2, 0, .null), (1429, [], .aload_n 0, 0, 0, .null), (1430, [], .iload_n 3, 3, 0, .null), (1431, [], .iconst 1, 0, 0, .int 1), (1432, [], .iadd, 0, 0, .null), (1433, [], .iaload, 0, 0, .null), (1434, [], .aload_n 0, 0, 0, .null), (1435, [], .iload_n 3, 3, 0, .null), (1436, [], .iconst 2, 0, 0, .int 2), (1437, [], .iadd, 0, 0, .null), (1438, [], .iaload, 0, 0, .null), (1439, [], .aload_n 0, 0, 0, .null), (1440, [], .iload_n 3, 3, 0, .null), (1441, [], .iconst 3, 0, 0, .int 3), (1442, [], .iadd, 0, 0, .null), (1443, [], .iaload, 0, 0, .null), (1444, [], .invokevirtual 172, 218, 4, .ref 8), (1447, [], .if_icmp .eq 262, 0, 1709, .null), (1450, [], .iconst 0, 0, 0, .int 0), (1451, [], .ireturn, 0, 0, .null), (1452, [], .aload_n 1, 1, 0, .null), (1453, [], .aload_n 0, 0, 0, .null), (1454, [], .iload_n 3, 3, 0, .null), (1455, [], .iconst 1, 0, 0, .int 1), (1456, [], .iadd, 0, 0, .null), (1457, [], .iaload, 0, 0, .null)]
def kL_law_10 : List xE := [(1458, [], .aload_n 0, 0, 0, .null), (1459, [], .iload_n 3, 3, 0, .null), (1460, [], .iconst 2, 0, 0, .int 2), (1461, [], .iadd, 0, 0, .null), (1462, [], .iaload, 0, 0, .null), (1463, [], .aload_n 0, 0, 0, .null), (1464, [], .iload_n 3, 3, 0, .null), (1465, [], .iconst 3, 0, 0, .int 3), (1466, [], .iadd, 0, 0, .null), (1467, [], .iaload, 0, 0, .null), (1468, [], .invokevirtual 173, 112, 4, .ref 7), (1471, [], .aload_n 2, 2, 0, .null), (1472, [], .aload_n 0, 0, 0, .null), (1473, [], .iload_n 3, 3, 0, .null), (1474, [], .iconst 1, 0, 0, .int 1), (1475, [], .iadd, 0, 0, .null), (1476, [], .iaload, 0, 0, .null), (1477, [], .aload_n 0, 0, 0, .null), (1478, [], .iload_n 3, 3, 0, .null), (1479, [], .iconst 2, 0, 0, .int 2), (1480, [], .iadd, 0, 0, .null), (1481, [], .iaload, 0, 0, .null), (1482, [], .aload_n 0, 0, 0, .null), (1483, [], .iload_n 3, 3, 0, .null), (1484, [], .iconst 3, 0, 0, .int 3), (1485, [], .iadd, 0, 0, .null), (1486, [], .iaload, 0, 0, .null), (1487, [], .invokevirtual 176, 219, 4, .ref 8), (1490, [], .if_icmp .eq 219, 0, 1709, .null), (1493, [], .iconst 0, 0, 0, .int 0), (1494, [], .ireturn, 0, 0, .null), (1495, [], .aload_n 1, 1, 0, .null), (1496, [], .aload_n 0, 0, 0, .null), (1497, [], .iload_n 3, 3, 0, .null), (1498, [], .iconst 1, 0, 0, .int 1), (1499, [], .iadd, 0, 0, .null), (1500, [], .iaload, 0, 0, .null), (1501, [], .aload_n 0, 0, 0, .null), (1502, [], .iload_n 3, 3, 0, .null), (1503, [], .iconst 2, 0, 0, .int 2), (1504, [], .iadd, 0, 0, .null), (1505, [], .iaload, 0, 0, .null), (1506, [], .aload_n 0, 0, 0, .null), (1507, [], .iload_n 3, 3, 0, .null), (1508, [], .iconst 3, 0, 0, .int 3), (1509, [], .iadd, 0, 0, .null), (1510, [], .iaload, 0, 0, .null), (1511, [], .aload_n 0, 0, 0, .null), (1512, [], .iload_n 3, 3, 0, .null), (1513, [], .iconst 4, 0, 0, .int 4), (1514, [], .iadd, 0, 0, .null), (1515, [], .iaload, 0, 0, .null), (1516, [], .aload_n 0, 0, 0, .null), (1517, [], .iload_n 3, 3, 0, .null), (1518, [], .iconst 5, 0, 0, .int 5), (1519, [], .iadd, 0, 0, .null), (1520, [], .iaload, 0, 0, .null), (1521, [], .invokevirtual 177, 113, 6, .ref 7), (1524, [], .aload_n 2, 2, 0, .null), (1525, [], .aload_n 0, 0, 0, .null), (1526, [], .iload_n 3, 3, 0, .null), (1527, [], .iconst 1, 0, 0, .int 1), (1528, [], .iadd, 0, 0, .null), (1529, [], .iaload, 0, 0, .null), (1530, [], .aload_n 0, 0, 0, .null), (1531, [], .iload_n 3, 3, 0, .null), (1532, [], .iconst 2, 0, 0, .int 2), (1533, [], .iadd, 0, 0, .null), (1534, [], .iaload, 0, 0, .null), (1535, [], .aload_n 0, 0, 0, .null), (1536, [], .iload_n 3, 3, 0, .null), (1537, [], .iconst 3, 0, 0, .int 3), (1538, [], .iadd, 0, 0, .null), (1539, [], .iaload, 0, 0, .null), (1540, [], .aload_n 0, 0, 0, .null), (1541, [], .iload_n 3, 3, 0, .null), (1542, [], .iconst 4, 0, 0, .int 4), (1543, [], .iadd, 0, 0, .null), (1544, [], .iaload, 0, 0, .null), (1545, [], .aload_n 0, 0, 0, .null), (1546, [], .iload_n 3, 3, 0, .null), (1547, [], .iconst 5, 0, 0, .int 5), (1548, [], .iadd, 0, 0, .null), (1549, [], .iaload, 0, 0, .null), (1550, [], .invokevirtual 180, 220, 6, .ref 8), (1553, [], .if_icmp .eq 156, 0, 1709, .null), (1556, [], .iconst 0, 0, 0, .int 0), (1557, [], .ireturn, 0, 0, .null), (1558, [], .aload_n 1, 1, 0, .null), (1559, [], .aload_n 0, 0, 0, .null), (1560, [], .iload_n 3, 3, 0, .null), (1561, [], .iconst 1, 0, 0, .int 1), (1562, [], .iadd, 0, 0, .null), (1563, [], .iaload, 0, 0, .null), (1564, [], .aload_n 0, 0, 0, .null), (1565, [], .iload_n 3, 3, 0, .null), (1566, [], .iconst 2, 0, 0, .int 2), (1567, [], .iadd, 0, 0, .null), (1568, [], .iaload, 0, 0, .null), (1569, [], .invokevirtual 181, 114, 3, .ref 7)]
def kL_law_11 : List xE := [(1572, [], .aload_n 2, 2, 0, .null), (1573, [], .aload_n 0, 0, 0, .null), (1574, [], .iload_n 3, 3, 0, .null), (1575, [], .iconst 1, 0, 0, .int 1), (1576, [], .iadd, 0, 0, .null), (1577, [], .iaload, 0, 0, .null), (1578, [], .aload_n 0, 0, 0, .null), (1579, [], .iload_n 3, 3, 0, .null), (1580, [], .iconst 2, 0, 0, .int 2), (1581, [], .iadd, 0, 0, .null), (1582, [], .iaload, 0, 0, .null), (1583, [], .invokevirtual 184, 221, 3, .ref 8), (1586, [], .if_icmp .eq 123, 0, 1709, .null), (1589, [], .iconst 0, 0, 0, .int 0), (1590, [], .ireturn, 0, 0, .null), (1591, [], .aload_n 1, 1, 0, .null), (1592, [], .aload_n 0, 0, 0, .null), (1593, [], .iload_n 3, 3, 0, .null), (1594, [], .iconst 1, 0, 0, .int 1), (1595, [], .iadd, 0, 0, .null), (1596, [], .iaload, 0, 0, .null), (1597, [], .aload_n 0, 0, 0, .null), (1598, [], .iload_n 3, 3, 0, .null), (1599, [], .iconst 2, 0, 0, .int 2), (1600, [], .iadd, 0, 0, .null), (1601, [], .iaload, 0, 0, .null), (1602, [], .invokevirtual 185, 115, 3, .ref 7), (1605, [], .aload_n 2, 2, 0, .null), (1606, [], .aload_n 0, 0, 0, .null), (1607, [], .iload_n 3, 3, 0, .null), (1608, [], .iconst 1, 0, 0, .int 1), (1609, [], .iadd, 0, 0, .null), (1610, [], .iaload, 0, 0, .null), (1611, [], .aload_n 0, 0, 0, .null), (1612, [], .iload_n 3, 3, 0, .null), (1613, [], .iconst 2, 0, 0, .int 2), (1614, [], .iadd, 0, 0, .null), (1615, [], .iaload, 0, 0, .null), (1616, [], .invokevirtual 188, 222, 3, .ref 8), (1619, [], .if_icmp .eq 90, 0, 1709, .null), (1622, [], .iconst 0, 0, 0, .int 0), (1623, [], .ireturn, 0, 0, .null), (1624, [], .aload_n 1, 1, 0, .null), (1625, [], .invokevirtual 189, 116, 1, .ref 7), (1628, [], .aload_n 2, 2, 0, .null), (1629, [], .invokevirtual 192, 224, 1, .ref 8), (1632, [], .if_icmp .eq 77, 0, 1709, .null), (1635, [], .iconst 0, 0, 0, .int 0), (1636, [], .ireturn, 0, 0, .null), (1637, [], .aload_n 1, 1, 0, .null), (1638, [], .invokevirtual 193, 117, 1, .ref 7), (1641, [], .aload_n 2, 2, 0, .null), (1642, [], .invokevirtual 196, 225, 1, .ref 8), (1645, [], .if_icmp .eq 64, 0, 1709, .null), (1648, [], .iconst 0, 0, 0, .int 0), (1649, [], .ireturn, 0, 0, .null), (1650, [], .aload_n 1, 1, 0, .null), (1651, [], .invokevirtual 197, 118, 1, .ref 7), (1654, [], .aload_n 2, 2, 0, .null), (1655, [], .invokevirtual 200, 226, 1, .ref 8), (1658, [], .if_icmp .eq 51, 0, 1709, .null), (1661, [], .iconst 0, 0, 0, .int 0), (1662, [], .ireturn, 0, 0, .null), (1663, [], .aload_n 1, 1, 0, .null), (1664, [], .aload_n 0, 0, 0, .null), (1665, [], .iload_n 3, 3, 0, .null), (1666, [], .iconst 1, 0, 0, .int 1), (1667, [], .iadd, 0, 0, .null), (1668, [], .iaload, 0, 0, .null), (1669, [], .invokevirtual 201, 119, 2, .ref 7), (1672, [], .aload_n 2, 2, 0, .null), (1673, [], .aload_n 0, 0, 0, .null), (1674, [], .iload_n 3, 3, 0, .null), (1675, [], .iconst 1, 0, 0, .int 1), (1676, [], .iadd, 0, 0, .null), (1677, [], .iaload, 0, 0, .null), (1678, [], .invokevirtual 204, 227, 2, .ref 8), (1681, [], .if_icmp .eq 28, 0, 1709, .null), (1684, [], .iconst 0, 0, 0, .int 0), (1685, [], .ireturn, 0, 0, .null), (1686, [], .aload_n 1, 1, 0, .null), (1687, [], .aload_n 0, 0, 0, .null), (1688, [], .iload_n 3, 3, 0, .null), (1689, [], .iconst 1, 0, 0, .int 1), (1690, [], .iadd, 0, 0, .null), (1691, [], .iaload, 0, 0, .null), (1692, [], .invokevirtual 205, 120, 2, .ref 7), (1695, [], .aload_n 2, 2, 0, .null), (1696, [], .aload_n 0, 0, 0, .null), (1697, [], .iload_n 3, 3, 0, .null), (1698, [], .iconst 1, 0, 0, .int 1), (1699, [], .iadd, 0, 0, .null), (1700, [], .iaload, 0, 0, .null), (1701, [], .invokevirtual 208, 228, 2, .ref 8), (1704, [], .if_icmp .eq 5, 0, 1709, .null), (1707, [], .iconst 0, 0, 0, .int 0), (1708, [], .ireturn, 0, 0, .null), (1709, [], .iinc 3 6, 3, 0, .int 6), (1712, [], .goto (-1694), 0, 18, .null), (1715, [], .iconst 1, 0, 0, .int 1)]
def kL_law_12 : List xE := [(1716, [], .ireturn, 0, 0, .null)]
def kL_law : List xE := kL_law_0 ++ (kL_law_1 ++ (kL_law_2 ++ (kL_law_3 ++ (kL_law_4 ++ (kL_law_5 ++ (kL_law_6 ++ (kL_law_7 ++ (kL_law_8 ++ (kL_law_9 ++ (kL_law_10 ++ (kL_law_11 ++ (kL_law_12))))))))))))
end
section
def xGood : List Cond := lw_tbl.filter goodWord
def xisNest : Cond → Bool
  | .fieldLinkNest _ _ _ _ _ _ => true
  | .methodLinkNest _ _ _ _ => true
  | _ => false
def xNest : List Cond := lw_tbl.filter xisNest
def xStr : List (String × Nat × String × Nat) := [("EchoValley$Reader", 35, "way", 1100), ("EchoValley$Reader", 44, "person", 1101), ("EchoValley$Reader", 49, "keep", 1104), ("EchoValley$Reader", 54, "rain", 1105), ("EchoValley$Reader", 96, "at", 1102), ("EchoValley$Reader", 98, "hours", 1103), ("EchoValley$Reader", 114, "hour", 1113), ("EchoValley$Reader", 116, "loud", 1114), ("EchoValley$Reader", 125, "once", 1106), ("EchoValley$Reader", 132, "kept", 1107), ("EchoValley$Reader", 134, "low", 1108), ("EchoValley$Reader", 136, "over", 1109), ("EchoValley$Reader", 138, "carried", 1110), ("EchoValley$Reader", 140, "cursed", 1111), ("EchoValley$Reader", 142, "hushed", 1112), ("EchoValleyModel", 33, "once", 1106), ("EchoValleyModel", 35, "kept", 1107), ("EchoValleyModel", 36, "low", 1108), ("EchoValleyModel", 38, "over", 1109), ("EchoValleyModel", 40, "carried", 1110), ("EchoValleyModel", 42, "cursed", 1111), ("EchoValleyModel", 44, "hushed", 1112), ("EchoValleyModel", 239, "way", 1100), ("EchoValleyModel", 248, "person", 1101), ("EchoValleyModel", 253, "keep", 1104), ("EchoValleyModel", 255, "rain", 1105), ("EchoValleyModel", 260, "at", 1102), ("EchoValleyModel", 262, "hour", 1113), ("EchoValleyModel", 264, "loud", 1114), ("EchoValleyModel", 266, "hours", 1103)]
def xT_0 : List (MethodName × ByteArray × Nat × Option FieldType) := [(yX0_isKind, cX0_isKind, 1, (some .boolean)),
  (yX0_isUnder, cX0_isUnder, 4, (some .boolean)),
  (yX0_lasting, cX0_lasting, 2, (some .int)),
  (yX0_reachOf, cX0_reachOf, 2, (some .int)),
  (yX0_canDrown, cX0_canDrown, 3, (some .boolean)),
  (yX0_canYield, cX0_canYield, 2, (some .boolean)),
  (yX1_init, cX1_init, 1, none),
  (yX1_become, cX1_become, 2, none),
  (yX1_placeOf, cX1_placeOf, 3, (some .int)),
  (yX1_put, cX1_put, 6, none),
  (yX1_placesTaken, cX1_placesTaken, 5, (some .int)),
  (yX1_numberAt, cX1_numberAt, 5, (some .int)),
  (yX2_init, cX2_init, 1, none),
  (yX2_add, cX2_add, 4, none),
  (yX2_clear, cX2_clear, 2, (some .int)),
  (yX2_readInto, cX2_readInto, 3, (some .int)),
  (yX2_readItem, cX2_readItem, 3, (some .boolean)),
  (yX2_readWay, cX2_readWay, 4, (some .boolean)),
  (yX2_readPerson, cX2_readPerson, 6, (some .boolean)),
  (yX2_readKeep, cX2_readKeep, 3, (some .boolean)),
  (yX2_readRain, cX2_readRain, 3, (some .boolean)),
  (yX2_readSaying, cX2_readSaying, 7, (some .boolean)),
  (yX2_kindAtHand, cX2_kindAtHand, 1, (some .int)),
  (yX2_take, cX2_take, 2, (some .boolean)),
  (yX2_isAtHand, cX2_isAtHand, 3, (some .boolean)),
  (yX2_takeNumber, cX2_takeNumber, 4, (some .int)),
  (yX2_next, cX2_next, 1, none),
  (yX2_reckonValue, cX2_reckonValue, 2, none),
  (yX2_typeAt, cX2_typeAt, 3, (some .int)),
  (yX3_init, cX3_init, 1, none),
  (yX3_become, cX3_become, 2, none),
  (yX3_isFull, cX3_isFull, 1, (some .boolean)),
  (yX3_add, cX3_add, 8, (some .int)),
  (yX3_reachOf, cX3_reachOf, 2, (some .int)),
  (yX3_firstOver, cX3_firstOver, 3, (some .int)),
  (yX3_isOver, cX3_isOver, 3, (some .boolean)),
  (yX4_init, cX4_init, 1, none),
  (yX4_areBits, cX4_areBits, 1, (some .boolean)),
  (yX4_isMissing, cX4_isMissing, 1, (some .boolean)),
  (yX4_begin, cX4_begin, 3, none),
  (yX4_hasRange, cX4_hasRange, 3, (some .boolean)),
  (yX4_put, cX4_put, 3, none),
  (yX5_init, cX5_init, 1, none),
  (yX5_become, cX5_become, 2, none),
  (yX5_draw, cX5_draw, 1, (some .int)),
  (yX5_rainyDays, cX5_rainyDays, 5, (some .int)),
  (yX5_ageOf, cX5_ageOf, 3, (some .int)),
  (yX5_lastsOf, cX5_lastsOf, 2, (some .int)),
  (yX5_around, cX5_around, 2, (some .int)),
  (yX5_isHeard, cX5_isHeard, 5, (some .boolean)),
  (yX5_isHeardAt, cX5_isHeardAt, 4, (some .boolean)),
  (yX5_heardSet, cX5_heardSet, 6, (some .long)),
  (yX5_loudPlaces, cX5_loudPlaces, 4, (some .int)),
  (yX5_heardOn, cX5_heardOn, 4, (some .int)),
  (yX5_lastDayOf, cX5_lastDayOf, 4, (some .int)),
  (yX5_lastDayOfOnce, cX5_lastDayOfOnce, 5, (some .int)),
  (yX5_doesHear, cX5_doesHear, 5, (some .boolean)),
  (yX6_init, cX6_init, 1, none),
  (yX6_choose, cX6_choose, 6, (some .int)),
  (yX6_gather, cX6_gather, 6, none)]
def xT_1 : List (MethodName × ByteArray × Nat × Option FieldType) := [(yX6_addAround, cX6_addAround, 4, none),
  (yX6_reckon, cX6_reckon, 6, none),
  (yX6_bestNext, cX6_bestNext, 7, (some .int)),
  (yX7_init, cX7_init, 1, none),
  (yX7_become, cX7_become, 2, none),
  (yX7_has, cX7_has, 3, (some .boolean)),
  (yX7_put, cX7_put, 4, none),
  (yX7_putHalf, cX7_putHalf, 4, none),
  (yX7_isOpen, cX7_isOpen, 3, (some .boolean)),
  (yX7_total, cX7_total, 3, (some .int)),
  (yX7_fewestBetween, cX7_fewestBetween, 5, (some .int)),
  (yX7_within, cX7_within, 5, (some .int)),
  (yX7_spread, cX7_spread, 4, (some .int)),
  (yX8_init, cX8_init, 2, none),
  (yX8_way, cX8_way, 5, (some .int)),
  (yX8_steps, cX8_steps, 4, (some .int)),
  (yX8_days, cX8_days, 2, (some .int)),
  (yX8_rain, cX8_rain, 4, (some .int)),
  (yX8_weather, cX8_weather, 5, (some .int)),
  (yX8_keep, cX8_keep, 3, (some .int)),
  (yX8_say, cX8_say, 6, (some .int)),
  (yX8_sayingOf, cX8_sayingOf, 3, (some .int)),
  (yX8_turn, cX8_turn, 4, (some .int)),
  (yX8_age, cX8_age, 3, (some .int)),
  (yX8_over, cX8_over, 3, (some .int)),
  (yX8_until, cX8_until, 3, (some .int)),
  (yX8_reaches, cX8_reaches, 3, (some .int)),
  (yX8_drowns, cX8_drowns, 2, (some .int)),
  (yX8_heard, cX8_heard, 3, (some .int)),
  (yX8_which, cX8_which, 8, (some .int)),
  (yX8_words, cX8_words, 7, (some .int)),
  (yX8_plain, cX8_plain, 7, (some .int)),
  (yX8_alone, cX8_alone, 3, (some .int)),
  (yX8_full, cX8_full, 5, (some .int)),
  (yX8_person, cX8_person, 6, (some .int)),
  (yX8_where, cX8_where, 3, (some .int)),
  (yX8_hears, cX8_hears, 5, (some .int)),
  (yX8_first, cX8_first, 5, (some .int)),
  (yX8_who, cX8_who, 5, (some .int)),
  (yX8_said, cX8_said, 5, (some .int)),
  (yX8_tell, cX8_tell, 5, (some .int)),
  (yX8_needs, cX8_needs, 5, (some .int)),
  (yX8_walk, cX8_walk, 4, (some .int)),
  (yX8_step, cX8_step, 2, (some .int)),
  (yX8_crowd, cX8_crowd, 6, (some .int)),
  (yX8_seed, cX8_seed, 3, (some .int)),
  (yX8_feed, cX8_feed, 3, (some .int)),
  (yX8_wipe, cX8_wipe, 1, (some .int)),
  (yX8_text, cX8_text, 2, (some .int)),
  (yX8_hold, cX8_hold, 3, (some .int)),
  (yX8_as, cX8_as, 4, (some .int)),
  (yX8_sheet, cX8_sheet, 4, (some .int)),
  (yX8_write, cX8_write, 4, (some .int)),
  (yX8_copy, cX8_copy, 8, (some .int)),
  (yX8_load, cX8_load, 7, (some .int)),
  (yX8_judge, cX8_judge, 7, (some .int)),
  (yX8_image, cX8_image, 1, (some .int)),
  (yX8_undo, cX8_undo, 1, (some .int)),
  (yX8_tear, cX8_tear, 2, (some .int)),
  (yX8_count, cX8_count, 2, (some .int))]
def xT_2 : List (MethodName × ByteArray × Nat × Option FieldType) := [(yX8_status, cX8_status, 4, (some .int)),
  (yX8_finding, cX8_finding, 3, (some .int)),
  (yX8_isSaying, cX8_isSaying, 2, (some .boolean)),
  (yX8_isPlace, cX8_isPlace, 1, (some .boolean)),
  (yX8_isDay, cX8_isDay, 1, (some .boolean)),
  (yX8_isHour, cX8_isHour, 1, (some .boolean)),
  (yX8_isWhen, cX8_isWhen, 1, (some .boolean)),
  (yX8_isWord, cX8_isWord, 1, (some .boolean)),
  (yX8_isLoud, cX8_isLoud, 1, (some .boolean)),
  (yX8_isPerson, cX8_isPerson, 1, (some .boolean)),
  (yX8_isSpot, cX8_isSpot, 1, (some .boolean)),
  (yX8_isSheet, cX8_isSheet, 1, (some .boolean)),
  (yX8_dayOf, cX8_dayOf, 1, (some .int)),
  (yX8_hourOf, cX8_hourOf, 1, (some .int)),
  (yX8_isIn, cX8_isIn, 3, (some .boolean)),
  (yX9_init, cX9_init, 2, none),
  (yX9_finding, cX9_finding, 2, (some .int)),
  (yX9_within, cX9_within, 3, (some .boolean)),
  (yX9_has, cX9_has, 2, (some .boolean)),
  (yX9_become, cX9_become, 4, (some .int)),
  (yX9_isPlace, cX9_isPlace, 1, (some .boolean)),
  (yX9_isDay, cX9_isDay, 1, (some .boolean)),
  (yX9_isHour, cX9_isHour, 1, (some .boolean)),
  (yX9_isWhen, cX9_isWhen, 1, (some .boolean)),
  (yX9_isPerson, cX9_isPerson, 1, (some .boolean)),
  (yX9_isSaying, cX9_isSaying, 2, (some .boolean)),
  (yX9_isWay, cX9_isWay, 3, (some .boolean)),
  (yX9_ways, cX9_ways, 4, none),
  (yX9_way, cX9_way, 5, (some .int)),
  (yX9_farOf, cX9_farOf, 3, (some .int)),
  (yX9_measure, cX9_measure, 4, none),
  (yX9_steps, cX9_steps, 3, (some .int)),
  (yX9_days, cX9_days, 2, (some .int)),
  (yX9_rain, cX9_rain, 3, (some .int)),
  (yX9_drawn, cX9_drawn, 2, (some .int)),
  (yX9_weather, cX9_weather, 6, (some .int)),
  (yX9_keep, cX9_keep, 2, (some .int)),
  (yX9_of, cX9_of, 3, (some .int)),
  (yX9_says, cX9_says, 8, (some .int)),
  (yX9_say, cX9_say, 6, (some .int)),
  (yX9_lasts, cX9_lasts, 3, (some .int)),
  (yX9_reach, cX9_reach, 4, (some .int)),
  (yX9_sayingOf, cX9_sayingOf, 3, (some .int)),
  (yX9_turn, cX9_turn, 3, (some .int)),
  (yX9_ageOf, cX9_ageOf, 5, (some .int)),
  (yX9_age, cX9_age, 3, (some .int)),
  (yX9_isOver, cX9_isOver, 5, (some .boolean)),
  (yX9_overOf, cX9_overOf, 3, (some .int)),
  (yX9_over, cX9_over, 3, (some .int)),
  (yX9_isHeard, cX9_isHeard, 4, (some .boolean)),
  (yX9_until, cX9_until, 3, (some .int)),
  (yX9_near, cX9_near, 5, (some .int)),
  (yX9_reachesOf, cX9_reachesOf, 2, (some .int)),
  (yX9_reaches, cX9_reaches, 3, (some .int)),
  (yX9_drowns, cX9_drowns, 2, (some .int)),
  (yX9_isHeardAt, cX9_isHeardAt, 5, (some .boolean)),
  (yX9_heardAt, cX9_heardAt, 6, (some .int)),
  (yX9_heard, cX9_heard, 3, (some .int)),
  (yX9_which, cX9_which, 6, (some .int)),
  (yX9_words, cX9_words, 5, (some .int))]
def xT_3 : List (MethodName × ByteArray × Nat × Option FieldType) := [(yX9_plain, cX9_plain, 5, (some .int)),
  (yX9_alone, cX9_alone, 4, (some .int)),
  (yX9_full, cX9_full, 5, (some .int)),
  (yX9_whereIs, cX9_whereIs, 3, (some .int)),
  (yX9_isAt, cX9_isAt, 6, none),
  (yX9_manyAt, cX9_manyAt, 5, (some .int)),
  (yX9_person, cX9_person, 5, (some .int)),
  (yX9_where, cX9_where, 3, (some .int)),
  (yX9_hearsIt, cX9_hearsIt, 5, (some .boolean)),
  (yX9_hears, cX9_hears, 5, (some .int)),
  (yX9_first, cX9_first, 5, (some .int)),
  (yX9_who, cX9_who, 6, (some .int)),
  (yX9_said, cX9_said, 4, (some .int)),
  (yX9_tell, cX9_tell, 6, (some .int)),
  (yX9_isNear, cX9_isNear, 6, (some .boolean)),
  (yX9_needs, cX9_needs, 6, (some .int)),
  (yX9_walk, cX9_walk, 9, (some .int)),
  (yX9_step, cX9_step, 2, (some .int)),
  (yX9_crowd, cX9_crowd, 5, (some .int)),
  (yX9_seed, cX9_seed, 2, (some .int)),
  (yX9_feed, cX9_feed, 4, (some .int)),
  (yX9_wipe, cX9_wipe, 2, (some .int)),
  (yX9_byteAt, cX9_byteAt, 2, (some .int)),
  (yX9_next, cX9_next, 2, none),
  (yX9_isWord, cX9_isWord, 4, (some .boolean)),
  (yX9_must, cX9_must, 2, none),
  (yX9_number, cX9_number, 5, (some .int)),
  (yX9_item, cX9_item, 7, none),
  (yX9_readItem, cX9_readItem, 4, none),
  (yX9_readSaying, cX9_readSaying, 6, none),
  (yX9_readPerson, cX9_readPerson, 5, none),
  (yX9_isSo, cX9_isSo, 7, none),
  (yX9_text, cX9_text, 2, (some .int)),
  (yX9_hold, cX9_hold, 3, (some .int)),
  (yX9_above, cX9_above, 1, (some .int)),
  (yX9_as, cX9_as, 5, (some .int)),
  (yX9_isSheet, cX9_isSheet, 1, (some .boolean)),
  (yX9_cutTo, cX9_cutTo, 2, (some .int)),
  (yX9_sheet, cX9_sheet, 5, (some .int)),
  (yX9_write, cX9_write, 4, (some .int)),
  (yX9_copy, cX9_copy, 7, (some .int)),
  (yX9_load, cX9_load, 4, (some .int)),
  (yX9_judge, cX9_judge, 7, (some .int)),
  (yX9_copyRow, cX9_copyRow, 3, none),
  (yX9_image, cX9_image, 1, (some .int)),
  (yX9_undo, cX9_undo, 1, (some .int)),
  (yX9_tear, cX9_tear, 2, (some .int)),
  (yX9_count, cX9_count, 4, (some .int)),
  (yX9_status, cX9_status, 2, (some .int)),
  (yJ6_bitCount_0f7a4, cJ6_bitCount_0f7a4, 1, (some .int)),
  (yJ13_bitCount_95d88, cJ13_bitCount_95d88, 2, (some .int)),
  (yJ0_length_8abf5, cJ0_length_8abf5, 1, (some .int)),
  (yJ0_charAt_5068e, cJ0_charAt_5068e, 2, (some .char)),
  (yJ0_coder_7d493, cJ0_coder_7d493, 1, (some .byte)),
  (yJ0_isLatin1_aae02, cJ0_isLatin1_aae02, 1, (some .boolean)),
  (yJ0_checkIndex_df160, cJ0_checkIndex_df160, 2, none),
  (yJ1_charAt_3b067, cJ1_charAt_3b067, 2, (some .char)),
  (yJ7_fill_53178, cJ7_fill_53178, 4, none),
  (yJ3_checkIndex_8e157, cJ3_checkIndex_8e157, 3, (some .int))]
def xT : List (MethodName × ByteArray × Nat × Option FieldType) := xT_0 ++ (xT_1 ++ (xT_2 ++ (xT_3)))
def xC_0 : List (List xE) := [kX0_isKind, kX0_isUnder, kX0_lasting, kX0_reachOf, kX0_canDrown, kX0_canYield, kX1_init, kX1_become, kX1_placeOf, kX1_put, kX1_placesTaken, kX1_numberAt, kX2_init, kX2_add, kX2_clear, kX2_readInto, kX2_readItem, kX2_readWay, kX2_readPerson, kX2_readKeep, kX2_readRain, kX2_readSaying, kX2_kindAtHand, kX2_take, kX2_isAtHand, kX2_takeNumber, kX2_next, kX2_reckonValue, kX2_typeAt, kX3_init, kX3_become, kX3_isFull, kX3_add, kX3_reachOf, kX3_firstOver, kX3_isOver, kX4_init, kX4_areBits, kX4_isMissing, kX4_begin, kX4_hasRange, kX4_put, kX5_init, kX5_become, kX5_draw, kX5_rainyDays, kX5_ageOf, kX5_lastsOf, kX5_around, kX5_isHeard, kX5_isHeardAt, kX5_heardSet, kX5_loudPlaces, kX5_heardOn, kX5_lastDayOf, kX5_lastDayOfOnce, kX5_doesHear, kX6_init, kX6_choose, kX6_gather]
def xC_1 : List (List xE) := [kX6_addAround, kX6_reckon, kX6_bestNext, kX7_init, kX7_become, kX7_has, kX7_put, kX7_putHalf, kX7_isOpen, kX7_total, kX7_fewestBetween, kX7_within, kX7_spread, kX8_init, kX8_way, kX8_steps, kX8_days, kX8_rain, kX8_weather, kX8_keep, kX8_say, kX8_sayingOf, kX8_turn, kX8_age, kX8_over, kX8_until, kX8_reaches, kX8_drowns, kX8_heard, kX8_which, kX8_words, kX8_plain, kX8_alone, kX8_full, kX8_person, kX8_where, kX8_hears, kX8_first, kX8_who, kX8_said, kX8_tell, kX8_needs, kX8_walk, kX8_step, kX8_crowd, kX8_seed, kX8_feed, kX8_wipe, kX8_text, kX8_hold, kX8_as, kX8_sheet, kX8_write, kX8_copy, kX8_load, kX8_judge, kX8_image, kX8_undo, kX8_tear, kX8_count]
def xC_2 : List (List xE) := [kX8_status, kX8_finding, kX8_isSaying, kX8_isPlace, kX8_isDay, kX8_isHour, kX8_isWhen, kX8_isWord, kX8_isLoud, kX8_isPerson, kX8_isSpot, kX8_isSheet, kX8_dayOf, kX8_hourOf, kX8_isIn, kX9_init, kX9_finding, kX9_within, kX9_has, kX9_become, kX9_isPlace, kX9_isDay, kX9_isHour, kX9_isWhen, kX9_isPerson, kX9_isSaying, kX9_isWay, kX9_ways, kX9_way, kX9_farOf, kX9_measure, kX9_steps, kX9_days, kX9_rain, kX9_drawn, kX9_weather, kX9_keep, kX9_of, kX9_says, kX9_say, kX9_lasts, kX9_reach, kX9_sayingOf, kX9_turn, kX9_ageOf, kX9_age, kX9_isOver, kX9_overOf, kX9_over, kX9_isHeard, kX9_until, kX9_near, kX9_reachesOf, kX9_reaches, kX9_drowns, kX9_isHeardAt, kX9_heardAt, kX9_heard, kX9_which, kX9_words]
def xC_3 : List (List xE) := [kX9_plain, kX9_alone, kX9_full, kX9_whereIs, kX9_isAt, kX9_manyAt, kX9_person, kX9_where, kX9_hearsIt, kX9_hears, kX9_first, kX9_who, kX9_said, kX9_tell, kX9_isNear, kX9_needs, kX9_walk, kX9_step, kX9_crowd, kX9_seed, kX9_feed, kX9_wipe, kX9_byteAt, kX9_next, kX9_isWord, kX9_must, kX9_number, kX9_item, kX9_readItem, kX9_readSaying, kX9_readPerson, kX9_isSo, kX9_text, kX9_hold, kX9_above, kX9_as, kX9_isSheet, kX9_cutTo, kX9_sheet, kX9_write, kX9_copy, kX9_load, kX9_judge, kX9_copyRow, kX9_image, kX9_undo, kX9_tear, kX9_count, kX9_status, kJ6_bitCount_0f7a4, kJ13_bitCount_95d88, kJ0_length_8abf5, kJ0_charAt_5068e, kJ0_coder_7d493, kJ0_isLatin1_aae02, kJ0_checkIndex_df160, kJ1_charAt_3b067, kJ7_fill_53178, kJ3_checkIndex_8e157]
def xC : List (List xE) := xC_0 ++ (xC_1 ++ (xC_2 ++ (xC_3)))
def xlook (j : Nat) : List (Nat × Nat × Nat) → Nat × Nat
  | [] => (0, 0)
  | q :: l => match Nat.beq q.1 j with
    | true => q.2
    | false => xlook j l
def xal (j : Nat) : Nat × Nat := xlook j [(63, 1, 10), (29, 6, 240), (6, 1, 144), (42, 13, 513), (12, 1, 120), (57, 3, 504), (36, 1, 40), (73, 58, 2380), (135, 13, 2623)]
def xrt : Nat → Option FieldType
  | 0 => none
  | 1 => some .int
  | 2 => some .boolean
  | 3 => some .char
  | 4 => some .byte
  | _ => some .long
def xR : List Nat := [2, 2, 1, 1, 2, 2, 0, 0, 1, 0, 1, 1, 0, 0, 1, 1, 2, 2, 2, 2, 2, 2, 1, 2, 2, 1, 0, 0, 1, 0, 0, 2, 1, 1, 1, 2, 0, 2, 2, 0, 2, 0, 0, 0, 1, 1, 1, 1, 1, 2, 2, 5, 1, 1, 1, 1, 2, 0, 1, 0, 0, 0, 1, 0, 0, 2, 0, 0, 2, 1, 1, 1, 1, 0, 1, 1, 1, 1, 1, 1, 1, 1, 1, 1, 1, 1, 1, 1, 1, 1, 1, 1, 1, 1, 1, 1, 1, 1, 1, 1, 1, 1, 1, 1, 1, 1, 1, 1, 1, 1, 1, 1, 1, 1, 1, 1, 1, 1, 1, 1, 1, 1, 2, 2, 2, 2, 2, 2, 2, 2, 2, 2, 1, 1, 2, 0, 1, 2, 2, 1, 2, 2, 2, 2, 2, 2, 2, 0, 1, 1, 0, 1, 1, 1, 1, 1, 1, 1, 1, 1, 1, 1, 1, 1, 1, 1, 2, 1, 1, 2, 1, 1, 1, 1, 1, 2, 1, 1, 1, 1, 1, 1, 1, 1, 0, 1, 1, 1, 2, 1, 1, 1, 1, 1, 2, 1, 1, 1, 1, 1, 1, 1, 1, 0, 2, 0, 1, 0, 0, 0, 0, 0, 1, 1, 1, 1, 2, 1, 1, 1, 1, 1, 1, 0, 1, 1, 1, 1, 1, 1, 1, 1, 3, 4, 2, 0, 3, 0, 1]
end
section
def xpp_0 : List (Nat × Nat) := [(3, 82), (9, 85), (11, 87), (12, 266), (16, 267), (19, 268), (22, 199), (24, 201), (25, 270), (29, 225), (31, 271), (35, 227), (37, 229), (38, 272), (42, 273), (46, 249), (47, 295), (51, 298), (52, 299), (56, 160), (60, 303), (66, 311), (70, 323), (74, 331), (75, 175), (79, 336), (80, 341), (83, 170), (86, 348), (90, 353), (93, 178), (96, 365), (101, 370), (104, 373), (107, 376), (110, 165), (114, 379), (120, 383), (121, 384), (125, 392), (128, 114), (131, 116), (134, 118), (137, 121), (140, 124), (143, 128), (146, 396), (149, 406), (152, 421), (155, 430), (158, 448), (161, 464), (164, 465), (167, 478), (170, 483), (173, 492), (177, 504), (183, 514), (187, 523), (192, 528), (195, 168), (199, 489), (202, 532), (207, 111), (210, 544), (214, 545), (218, 555), (221, 558), (224, 566), (227, 571), (230, 596), (233, 604), (237, 234), (240, 236), (243, 643), (246, 181), (249, 206), (250, 655), (253, 663), (256, 671), (260, 693), (264, 821), (267, 173), (270, 828), (271, 829), (274, 833), (275, 838), (278, 841), (281, 844), (282, 845), (285, 256), (288, 854), (291, 858), (293, 254), (296, 866), (299, 258), (302, 870), (308, 875), (311, 882), (314, 269), (318, 899), (321, 904), (324, 486)]
def xpp_1 : List (Nat × Nat) := [(1, 917), (9, 927), (13, 928), (16, 930), (19, 931), (22, 933), (25, 934), (28, 936), (31, 918), (46, 943), (50, 944), (53, 947), (56, 948), (59, 949), (62, 950), (65, 1010), (66, 1007), (70, 1046), (74, 1070), (77, 932), (81, 1004), (84, 1011), (88, 1015), (92, 1019), (96, 1031), (99, 1035), (105, 1027), (108, 1036), (109, 1041), (110, 1049), (113, 1061), (114, 1057), (117, 1073), (118, 1074), (122, 1086), (125, 1094), (128, 1082), (131, 1090), (134, 1095), (137, 1107), (140, 1119), (143, 1115), (146, 1127), (149, 1139), (152, 1135), (155, 1162), (158, 1158), (162, 1151), (165, 1154), (169, 1181), (172, 1185), (175, 1197), (178, 1200), (182, 1212), (185, 1232), (188, 935), (192, 937), (195, 939), (198, 938), (201, 1272), (204, 941), (207, 940), (210, 1284), (214, 1285), (218, 942), (221, 1268), (224, 1290), (228, 945), (231, 1280), (235, 1286), (241, 1294), (244, 1301), (250, 1307), (257, 946), (268, 1276), (271, 1314), (274, 1326), (275, 1327), (278, 1330), (279, 1335), (282, 1338), (283, 1343), (286, 1362), (290, 929)]
def xpp_2 : List (Nat × Nat) := [(7, 368), (13, 832), (17, 403)]
def xpp_3 : List (Nat × Nat) := [(3, 149), (9, 153), (15, 150), (21, 691), (27, 536)]
def xpp_4 : List (Nat × Nat) := [(3, 204), (9, 207), (15, 205), (19, 210), (22, 697), (25, 709), (29, 209), (32, 208), (37, 714), (41, 770), (46, 780), (51, 788), (56, 793), (59, 797), (63, 164), (69, 808), (75, 809), (79, 774), (83, 211), (86, 161), (90, 778), (100, 167), (104, 786), (109, 179), (112, 171), (118, 176), (121, 815), (127, 718), (144, 722), (149, 732), (153, 701), (157, 705)]
def xpp_5 : List (Nat × Nat) := [(3, 107), (9, 112), (15, 115), (18, 117), (21, 119), (24, 122), (27, 126), (30, 108), (34, 686), (40, 410), (46, 434), (50, 438), (54, 441)]
def xpp_6 : List (Nat × Nat) := [(3, 252), (9, 257), (15, 253), (19, 255), (22, 849)]
def xpp_7 : List (Nat × Nat) := [(3, 90), (9, 91), (11, 93), (12, 158), (18, 102), (20, 104), (21, 162), (25, 144), (27, 146), (28, 166), (32, 169), (36, 172), (39, 177), (43, 180), (46, 157), (52, 675), (56, 682), (59, 687), (62, 692), (68, 174), (71, 352), (72, 425), (76, 113), (79, 400), (84, 120), (87, 469), (91, 470), (94, 127), (97, 456), (101, 457), (104, 458), (107, 459), (110, 452), (114, 502), (117, 503), (121, 110), (124, 125), (127, 496), (130, 497), (133, 498), (137, 575)]
def xpp_8 : List (Nat × Nat) := [(3, 232), (9, 235), (15, 237), (18, 238), (21, 608), (25, 159), (31, 622), (35, 626), (39, 233), (43, 612), (49, 163), (53, 109), (58, 123), (61, 613), (65, 614), (68, 615), (72, 616), (75, 617), (79, 621), (83, 630)]
def xpp_9 : List (Nat × Nat) := [(3, 96), (9, 97), (15, 679), (21, 307), (25, 308), (29, 315), (33, 634), (37, 903), (43, 327)]
def xpp_10 : List (Nat × Nat) := [(7, 77), (9, 79), (10, 912), (12, 914), (13, 291), (17, 1000), (18, 319), (22, 1023), (23, 332), (27, 1037), (28, 337), (32, 1042), (33, 344), (37, 1053), (38, 357), (41, 1062), (42, 361), (46, 1066), (47, 388), (50, 1078), (51, 413), (54, 1099), (55, 417), (58, 1103), (59, 426), (62, 1111), (63, 444), (66, 1123), (67, 460), (70, 1131), (71, 474), (74, 1143), (75, 479), (78, 1147), (79, 510), (82, 1165), (83, 515), (86, 1169), (87, 519), (90, 1173), (91, 524), (94, 1177), (95, 540), (98, 1189), (99, 551), (103, 1193), (104, 562), (107, 1204), (108, 567), (111, 1208), (112, 576), (115, 1216), (116, 580), (119, 1220), (120, 584), (123, 1224), (124, 588), (127, 1228), (128, 592), (131, 1236), (132, 600), (135, 1240), (136, 635), (139, 1244), (140, 639), (144, 1248), (145, 647), (148, 1252), (149, 651), (152, 1256), (153, 659), (156, 1260), (157, 667), (160, 1264), (161, 817), (164, 1318), (165, 824), (168, 1322), (169, 834), (172, 1331), (173, 850), (176, 1339), (177, 862), (180, 1346), (181, 871), (184, 1350), (185, 878), (188, 1354), (189, 883), (192, 1358), (193, 887), (196, 1365), (197, 891), (200, 1369), (201, 895), (204, 1373), (205, 908), (208, 1377)]
def xpp_11 : List (Nat × Nat) := []
def xpp_12 : List (Nat × Nat) := [(265, 548), (266, 549), (267, 550)]
def xpp_13 : List (Nat × Nat) := [(314, 507), (316, 508), (318, 509)]
def xpp_14 : List (Nat × Nat) := []
def xpp_15 : List (Nat × Nat) := [(9, 1381), (15, 1382), (38, 730), (335, 726), (492, 736), (495, 740), (498, 751), (1053, 746), (1059, 748)]
def xpp_16 : List (Nat × Nat) := [(9, 743)]
def xpp_17 : List (Nat × Nat) := [(44, 764), (48, 757), (59, 766), (63, 768), (67, 754), (71, 761), (414, 760)]
def xpp_18 : List (Nat × Nat) := []
def xpp_19 : List (Nat × Nat) := []
def xpp_20 : List (Nat × Nat) := []
def xKd : List Nat := [0, 0, 0, 0, 0, 0, 2, 1, 1, 1, 1, 1, 2, 1, 1, 1, 1, 1, 1, 1, 1, 1, 1, 1, 1, 1, 1, 1, 1, 2, 1, 1, 1, 1, 1, 1, 2, 0, 1, 1, 1, 1, 2, 1, 1, 1, 1, 1, 1, 1, 1, 1, 1, 1, 1, 1, 1, 2, 1, 1, 1, 1, 1, 2, 1, 1, 1, 1, 1, 1, 1, 1, 1, 2, 1, 1, 1, 1, 1, 1, 1, 1, 1, 1, 1, 1, 1, 1, 1, 1, 1, 1, 1, 1, 1, 1, 1, 1, 1, 1, 1, 1, 1, 1, 1, 1, 1, 1, 1, 1, 1, 1, 1, 1, 1, 1, 1, 1, 1, 1, 1, 1, 1, 0, 0, 0, 0, 0, 0, 0, 0, 0, 0, 0, 0, 2, 1, 0, 0, 1, 0, 0, 0, 0, 0, 1, 1, 1, 1, 1, 1, 1, 1, 1, 1, 1, 1, 1, 1, 1, 1, 1, 1, 1, 1, 1, 1, 1, 1, 1, 1, 1, 1, 1, 1, 1, 1, 1, 1, 1, 1, 1, 1, 1, 1, 1, 1, 1, 1, 1, 1, 1, 1, 1, 1, 1, 1, 1, 1, 1, 1, 1, 1, 1, 1, 1, 1, 1, 1, 1, 1, 1, 1, 1, 0, 1, 0, 0, 1, 1, 1, 1, 1, 0, 1, 1, 1, 1, 1, 0, 0, 1, 1, 1, 1, 0, 0, 0, 0]
def xMp_0 : List (Nat × Nat × Nat × Nat) := [(367, 69, 366, 0), (831, 69, 830, 0), (402, 69, 401, 0), (412, 69, 411, 0), (440, 69, 439, 0), (443, 69, 442, 0), (148, 62, 147, 0), (690, 62, 688, 689), (539, 62, 537, 538), (561, 62, 559, 560), (535, 62, 533, 534), (646, 62, 644, 645), (203, 64, 202, 0), (658, 64, 656, 657), (666, 64, 664, 665), (696, 64, 694, 695), (712, 64, 711, 12), (773, 64, 772, 15), (783, 64, 782, 17), (791, 64, 790, 18), (796, 64, 795, 19), (812, 64, 811, 21), (800, 64, 799, 20), (717, 64, 716, 13), (721, 64, 720, 14), (777, 64, 776, 16), (700, 64, 699, 9), (708, 64, 707, 11), (704, 64, 703, 10), (106, 61, 105, 0), (685, 61, 683, 684), (382, 61, 380, 381), (387, 61, 385, 386), (409, 61, 407, 408), (433, 61, 431, 432), (437, 61, 436, 4), (251, 66, 250, 0), (843, 66, 842, 0), (857, 66, 855, 856), (848, 66, 846, 847), (869, 66, 867, 868), (861, 66, 859, 860), (89, 59, 88, 0), (674, 59, 672, 673), (351, 59, 349, 350), (356, 59, 354, 355), (424, 59, 422, 423), (399, 59, 397, 398), (468, 59, 466, 467), (455, 59, 453, 454), (501, 59, 499, 500), (495, 59, 493, 494), (531, 59, 529, 530), (907, 59, 905, 906), (451, 59, 449, 450), (599, 59, 597, 598), (574, 59, 572, 573), (231, 65, 230, 0), (607, 65, 605, 606), (611, 65, 610, 5)]
def xMp_1 : List (Nat × Nat × Nat × Nat) := [(620, 65, 619, 6), (625, 65, 624, 7), (629, 65, 628, 8), (95, 60, 94, 0), (678, 60, 676, 677), (306, 60, 304, 305), (314, 60, 312, 313), (318, 60, 317, 1), (633, 60, 631, 632), (902, 60, 900, 901), (326, 60, 324, 325), (473, 60, 471, 472), (330, 60, 329, 2), (81, 58, 80, 0), (294, 58, 292, 293), (322, 58, 320, 321), (335, 58, 333, 334), (340, 58, 338, 339), (347, 58, 345, 346), (360, 58, 358, 359), (364, 58, 362, 363), (391, 58, 389, 390), (416, 58, 414, 415), (420, 58, 418, 419), (429, 58, 427, 428), (447, 58, 445, 446), (463, 58, 461, 462), (477, 58, 475, 476), (482, 58, 480, 481), (513, 58, 511, 512), (518, 58, 516, 517), (522, 58, 520, 521), (527, 58, 525, 526), (543, 58, 541, 542), (554, 58, 552, 553), (565, 58, 563, 564), (570, 58, 568, 569), (579, 58, 577, 578), (583, 58, 581, 582), (587, 58, 585, 586), (591, 58, 589, 590), (595, 58, 593, 594), (603, 58, 601, 602), (638, 58, 636, 637), (642, 58, 640, 641), (650, 58, 648, 649), (654, 58, 652, 653), (662, 58, 660, 661), (670, 58, 668, 669), (820, 58, 818, 819), (827, 58, 825, 826), (837, 58, 835, 836), (853, 58, 851, 852), (865, 58, 863, 864), (874, 58, 872, 873), (881, 58, 879, 880), (886, 58, 884, 885), (890, 58, 888, 889), (894, 58, 892, 893), (898, 58, 896, 897)]
def xMp_2 : List (Nat × Nat × Nat × Nat) := [(911, 58, 909, 910), (302, 58, 301, 0), (395, 58, 394, 3), (297, 58, 296, 0), (343, 58, 342, 0), (378, 58, 377, 0), (485, 58, 484, 0), (372, 58, 371, 0), (375, 58, 374, 0), (557, 58, 556, 0), (823, 58, 822, 0), (840, 58, 839, 0), (488, 58, 487, 0), (491, 58, 490, 0), (310, 58, 309, 0), (916, 67, 915, 0), (1014, 67, 1013, 22), (1009, 67, 1008, 0), (1164, 67, 1163, 0), (1052, 67, 1051, 27), (1006, 67, 1005, 0), (1048, 67, 1047, 0), (1072, 67, 1071, 0), (1153, 67, 1152, 0), (1199, 67, 1198, 0), (1085, 67, 1084, 30), (1018, 67, 1017, 23), (1022, 67, 1021, 24), (1003, 67, 1001, 1002), (1030, 67, 1029, 25), (1034, 67, 1033, 26), (1026, 67, 1024, 1025), (1040, 67, 1038, 1039), (1045, 67, 1043, 1044), (1060, 67, 1059, 28), (1056, 67, 1054, 1055), (1065, 67, 1063, 1064), (1089, 67, 1088, 31), (1077, 67, 1076, 29), (1069, 67, 1067, 1068), (1093, 67, 1092, 32), (1098, 67, 1097, 33), (1081, 67, 1079, 1080), (1102, 67, 1100, 1101), (1110, 67, 1109, 34), (1106, 67, 1104, 1105), (1122, 67, 1121, 36), (1118, 67, 1117, 35), (1114, 67, 1112, 1113), (1130, 67, 1129, 37), (1126, 67, 1124, 1125), (1142, 67, 1141, 39), (1138, 67, 1137, 38), (1134, 67, 1132, 1133), (1146, 67, 1144, 1145), (1161, 67, 1160, 41), (1157, 67, 1156, 40), (1150, 67, 1148, 1149), (1168, 67, 1166, 1167), (1172, 67, 1170, 1171)]
def xMp_3 : List (Nat × Nat × Nat × Nat) := [(1176, 67, 1174, 1175), (1180, 67, 1178, 1179), (1192, 67, 1190, 1191), (1188, 67, 1187, 43), (1203, 67, 1202, 44), (1184, 67, 1183, 42), (1196, 67, 1194, 1195), (1207, 67, 1205, 1206), (1215, 67, 1214, 45), (1211, 67, 1209, 1210), (1219, 67, 1217, 1218), (1223, 67, 1221, 1222), (1227, 67, 1225, 1226), (1231, 67, 1229, 1230), (1235, 67, 1234, 46), (1239, 67, 1237, 1238), (1243, 67, 1241, 1242), (1247, 67, 1245, 1246), (1251, 67, 1249, 1250), (1255, 67, 1253, 1254), (1259, 67, 1257, 1258), (1263, 67, 1261, 1262), (1275, 67, 1274, 48), (1271, 67, 1270, 47), (1283, 67, 1282, 50), (1293, 67, 1292, 52), (1297, 67, 1296, 53), (1304, 67, 1303, 54), (1279, 67, 1278, 49), (1289, 67, 1288, 51), (1310, 67, 1309, 55), (1317, 67, 1316, 56), (1267, 67, 1265, 1266), (1321, 67, 1319, 1320), (1329, 67, 1328, 0), (1325, 67, 1323, 1324), (1337, 67, 1336, 0), (1345, 67, 1344, 0), (1334, 67, 1332, 1333), (1342, 67, 1340, 1341), (1349, 67, 1347, 1348), (1353, 67, 1351, 1352), (1357, 67, 1355, 1356), (1364, 67, 1363, 0), (1361, 67, 1359, 1360), (1368, 67, 1366, 1367), (1372, 67, 1370, 1371), (1376, 67, 1374, 1375), (1380, 67, 1378, 1379), (547, 71, 546, 0), (506, 70, 505, 0), (725, 73, 723, 724), (735, 73, 733, 734), (729, 73, 727, 728), (739, 73, 737, 738), (745, 73, 744, 0), (742, 74, 741, 0), (152, 63, 151, 0), (750, 75, 749, 0)]
set_option maxRecDepth 100000 in
theorem xTc_0 : xMp_0.map (fun r => lw_tbl[r.1]?) = xT_0.map (fun q => some (.code q.1 q.2.1 q.2.2.1 q.2.2.2)) := by rfl
set_option maxRecDepth 100000 in
theorem xTc_1 : xMp_1.map (fun r => lw_tbl[r.1]?) = xT_1.map (fun q => some (.code q.1 q.2.1 q.2.2.1 q.2.2.2)) := by rfl
set_option maxRecDepth 100000 in
theorem xTc_2 : xMp_2.map (fun r => lw_tbl[r.1]?) = xT_2.map (fun q => some (.code q.1 q.2.1 q.2.2.1 q.2.2.2)) := by rfl
set_option maxRecDepth 100000 in
theorem xTc_3 : xMp_3.map (fun r => lw_tbl[r.1]?) = xT_3.map (fun q => some (.code q.1 q.2.1 q.2.2.1 q.2.2.2)) := by rfl
def xMp : List (Nat × Nat × Nat × Nat) := xMp_0 ++ (xMp_1 ++ (xMp_2 ++ (xMp_3)))

def xfind (i : Nat) : List (Nat × Nat) → Option Nat
  | [] => none
  | q :: l => match Nat.beq q.1 i with
    | true => some q.2
    | false => xfind i l
/-- the word stands in the tables at the place that the pool's list says, and it's one that a call keeps -/
def xisw (pp : List (Nat × Nat)) (i : Nat) (w : Cond) : Bool := match xfind i pp with
  | some p => decide (lw_tbl[p]? = some w) && goodWord w
  | none => false
def xisn (pp : List (Nat × Nat)) (i : Nat) (w : Cond) : Bool := match xfind i pp with
  | some p => decide (lw_tbl[p]? = some w) && xisNest w
  | none => false
theorem xisw_mem {pp : List (Nat × Nat)} {i : Nat} {w : Cond} (h : xisw pp i w = true) : w ∈ xGood := by
  unfold xisw at h
  split at h
  · simp only [Bool.and_eq_true, decide_eq_true_eq] at h
    exact List.mem_filter.mpr ⟨List.mem_of_getElem? h.1, h.2⟩
  · cases h
theorem xisn_mem {pp : List (Nat × Nat)} {i : Nat} {w : Cond} (h : xisn pp i w = true) : w ∈ xNest := by
  unfold xisn at h
  split at h
  · simp only [Bool.and_eq_true, decide_eq_true_eq] at h
    exact List.mem_filter.mpr ⟨List.mem_of_getElem? h.1, h.2⟩
  · cases h
def xlen (pc : Nat) : Instr → Nat
  | .bipush _ => 2
  | .sipush _ => 3
  | .ldc _ => 2
  | .ldc_w _ => 3
  | .ldc2_w _ => 3
  | .iload _ => 2
  | .lload _ => 2
  | .aload _ => 2
  | .istore _ => 2
  | .lstore _ => 2
  | .astore _ => 2
  | .iinc _ _ => 3
  | .goto _ => 3
  | .ifCond _ _ => 3
  | .if_icmp _ _ => 3
  | .getfield _ => 3
  | .putfield _ => 3
  | .getstatic _ => 3
  | .invokevirtual _ => 3
  | .invokestatic _ => 3
  | .invokespecial _ => 3
  | .new _ => 3
  | .newarray _ => 2
  | .anewarray _ => 3
  | .tableswitch _ _ _ offs => (3 - pc % 4) + 13 + 4 * offs.size
  | _ => 1
/-- a callee's kind, its number of arguments by its descriptor, its link -/
def xcal (pp : List (Nat × Nat)) (own : String) (idx a kd n : Nat) : Bool := match xT[a]? with
  | some (y, _, _, _) => Nat.beq (xnth 9 xKd a) kd && decide ((parseMethodDescriptor y.desc).map (fun d => d.parameters.length) = some n) && (xisw pp idx (.methodLink own idx y) || xisn pp idx (.methodLinkNest own idx y "EchoValley"))
  | none => false
def xrcT (v : Value) (a : Nat) : Bool := match v, xT[a]? with
  | .ref ci, some (y, _, _, _) => match Nat.beq ci 99 with
    | true => decide (y.cls = "java/lang/String")
    | false => match vwCl[ci]? with
      | some (C, _, _) => decide (y.cls = C)
      | none => false
  | _, _ => false
def xgetT (v : Value) (I : Bool) : Bool := match v with
  | .null => !I
  | _ => I
def xputT (v : Value) (ty : Option FieldType) (I : Bool) : Bool := match v with
  | .int _ => decide (ty = some .int) && I
  | .long _ => decide (ty = some .boolean) && I
  | .null => (match ty with
    | some (.object _) => true
    | some (.array _) => true
    | _ => false) && !I
  | _ => false
def xokI (pp : List (Nat × Nat)) (own : String) (ini : Bool) (nL : Nat) (e : xE) : Bool := match e with
  | (pc, _, ins, a, b, v) => match ins with
    | .iconst n => decide (v = .int (Int32.ofInt n))
    | .bipush n => decide (v = .int (Int8.ofInt n).toInt32)
    | .sipush n => decide (v = .int (Int16.ofInt n).toInt32)
    | .lconst n => decide (v = .long (Int64.ofNat (n : Nat)))
    | .ldc i => match v with
      | .int x => xisw pp i (.constant own i x)
      | .ref r => xStr.any (fun q => decide (q.1 = own ∧ q.2.1 = i ∧ q.2.2.2 = r)) && Nat.ble 1100 r && Nat.blt r 1115
      | _ => false
    | .ldc_w i => match v with
      | .int x => xisw pp i (.constant own i x)
      | .ref r => xStr.any (fun q => decide (q.1 = own ∧ q.2.1 = i ∧ q.2.2.2 = r)) && Nat.ble 1100 r && Nat.blt r 1115
      | _ => false
    | .ldc2_w i => match v with
      | .long x => xisw pp i (.constantLong own i x)
      | _ => false
    | .getstatic i => match a with
      | 0 => decide (v = .ref 1001) && xisw pp i (.fieldLink own i "EchoValley$Kinds" "ABOVE" "[I")
      | 1 => decide (v = .int 1) && xisw pp i (.fieldLink own i "java/lang/String" "COMPACT_STRINGS" "Z")
      | _ => decide (v = .ref 1300) && xisw pp i (.fieldLink own i "jdk/internal/util/Preconditions" "SIOOBE_FORMATTER" "Ljava/util/function/BiFunction;")
    | .iload_n k => decide ((k : Nat) = a)
    | .lload_n k => decide ((k : Nat) = a)
    | .aload_n k => decide ((k : Nat) = a)
    | .iload k => decide (k = a)
    | .lload k => decide (k = a)
    | .aload k => decide (k = a)
    | .istore_n k => decide ((k : Nat) = a) && decide (a < nL)
    | .lstore_n k => decide ((k : Nat) = a) && decide (a + 1 < nL)
    | .astore_n k => decide ((k : Nat) = a) && decide (a < nL)
    | .istore k => decide (k = a) && decide (a < nL)
    | .lstore k => decide (k = a) && decide (a + 1 < nL)
    | .astore k => decide (k = a) && decide (a < nL)
    | .iinc k n => decide (k = a) && decide (a < nL) && decide (v = .int (Int32.ofInt n))
    | .goto o => decide ((pc : Int) + o = (b : Int))
    | .ifCond _ o => decide ((pc : Int) + o = (b : Int))
    | .if_icmp _ o => decide ((pc : Int) + o = (b : Int))
    | .tableswitch df lo hi offs => decide (0 ≤ (pc : Int) + df) && offs.toList.all (fun o => decide (0 ≤ (pc : Int) + o)) && decide (hi - lo + 1 = (offs.size : Int))
    | .getfield i => match Nat.beq a 99 with
      | true => match b with
        | 0 => xisw pp i (.fieldLink own i "java/lang/String" "value" "[B")
        | _ => xisw pp i (.fieldLink own i "java/lang/String" "coder" "B")
      | false => match vwCl[a]? with
        | some (_, T, _) => (xisw pp i (.fieldLink own i (T b).1 (T b).2.1 (T b).2.2.1) || xisn pp i (.fieldLinkNest own i (T b).1 (T b).2.1 (T b).2.2.1 "EchoValley")) && xgetT v (xisI a b)
        | none => false
    | .putfield i => match vwCl[a]? with
        | some (_, T, _) => (match (T b).2.2.2 with
            | false => xisw pp i (.fieldLink own i (T b).1 (T b).2.1 (T b).2.2.1) || xisn pp i (.fieldLinkNest own i (T b).1 (T b).2.1 (T b).2.2.1 "EchoValley")
            | true => ini && decide ((T b).1 = own) && xisw pp i (.fieldLink own i (T b).1 (T b).2.1 (T b).2.2.1)) && xputT v (parseFieldDescriptor (T b).2.2.1) (xisI a b)
        | none => false
    | .new i => match vwCl[a]? with
        | some (C, _, N) => xisw pp i (.classLink own i C) && Nat.beq N b
        | none => false
    | .anewarray i => match a with
        | 1 => xisw pp i (.classLink own i "EchoValley$Sheet")
        | 2 => xisw pp i (.classLink own i "java/lang/String")
        | _ => false
    | .invokestatic i => match Nat.beq a 998 with
        | true => xisw pp i (.methodLink own i arraycopyName)
        | false => match Nat.beq a 996 with
          | true => xisw pp i (.methodLink own i Lib.Math.max.name)
          | false => match Nat.beq a 995 with
            | true => xisw pp i (.methodLink own i Lib.Math.min.name)
            | false => match Nat.beq a 997 with
              | true => true
              | false => xcal pp own i a 0 b
    | .invokevirtual i => xcal pp own i a 1 (b - 1) && Nat.blt 0 b && xrcT v a
    | .invokespecial i => match Nat.beq a 999 with
        | true => xisw pp i (.methodLink own i objectInit)
        | false => xcal pp own i a 2 (b - 1) && Nat.blt 0 b
    | _ => true
def xokC (cc : ByteArray) (pp : List (Nat × Nat)) (own : String) (ini : Bool) (nL : Nat) : List xE → Bool
  | [] => true
  | e :: is => decide (decode cc e.1 = .ok (e.2.2.1, xlen e.1 e.2.2.1)) && xokI pp own ini nL e && (match is with
    | [] => true
    | f :: _ => Nat.beq f.1 (e.1 + xlen e.1 e.2.2.1)) && xokC cc pp own ini nL is
end
section
set_option maxRecDepth 100000 in
theorem oX0_isKind : xokC cX0_isKind xpp_2 "EchoValley$Kinds" false 1 kX0_isKind = true := by decide +kernel
set_option maxRecDepth 100000 in
theorem oX0_isUnder : xokC cX0_isUnder xpp_2 "EchoValley$Kinds" false 4 kX0_isUnder = true := by decide +kernel
set_option maxRecDepth 100000 in
theorem oX0_lasting : xokC cX0_lasting xpp_2 "EchoValley$Kinds" false 2 kX0_lasting = true := by decide +kernel
set_option maxRecDepth 100000 in
theorem oX0_reachOf : xokC cX0_reachOf xpp_2 "EchoValley$Kinds" false 2 kX0_reachOf = true := by decide +kernel
set_option maxRecDepth 100000 in
theorem oX0_canDrown : xokC cX0_canDrown xpp_2 "EchoValley$Kinds" false 3 kX0_canDrown = true := by decide +kernel
set_option maxRecDepth 100000 in
theorem oX0_canYield : xokC cX0_canYield xpp_2 "EchoValley$Kinds" false 2 kX0_canYield = true := by decide +kernel
set_option maxRecDepth 100000 in
theorem oX1_init : xokC cX1_init xpp_3 "EchoValley$People" true 1 kX1_init = true := by decide +kernel
set_option maxRecDepth 100000 in
theorem oX1_become : xokC cX1_become xpp_3 "EchoValley$People" false 2 kX1_become = true := by decide +kernel
set_option maxRecDepth 100000 in
theorem oX1_placeOf : xokC cX1_placeOf xpp_3 "EchoValley$People" false 3 kX1_placeOf = true := by decide +kernel
set_option maxRecDepth 100000 in
theorem oX1_put : xokC cX1_put xpp_3 "EchoValley$People" false 6 kX1_put = true := by decide +kernel
set_option maxRecDepth 100000 in
theorem oX1_placesTaken : xokC cX1_placesTaken xpp_3 "EchoValley$People" false 5 kX1_placesTaken = true := by decide +kernel
set_option maxRecDepth 100000 in
theorem oX1_numberAt : xokC cX1_numberAt xpp_3 "EchoValley$People" false 5 kX1_numberAt = true := by decide +kernel
set_option maxRecDepth 100000 in
theorem oX2_init : xokC cX2_init xpp_4 "EchoValley$Reader" true 1 kX2_init = true := by decide +kernel
set_option maxRecDepth 100000 in
theorem oX2_add : xokC cX2_add xpp_4 "EchoValley$Reader" false 4 kX2_add = true := by decide +kernel
set_option maxRecDepth 100000 in
theorem oX2_clear : xokC cX2_clear xpp_4 "EchoValley$Reader" false 2 kX2_clear = true := by decide +kernel
set_option maxRecDepth 100000 in
theorem oX2_readInto : xokC cX2_readInto xpp_4 "EchoValley$Reader" false 3 kX2_readInto = true := by decide +kernel
set_option maxRecDepth 100000 in
theorem oX2_readItem : xokC cX2_readItem xpp_4 "EchoValley$Reader" false 3 kX2_readItem = true := by decide +kernel
set_option maxRecDepth 100000 in
theorem oX2_readWay : xokC cX2_readWay xpp_4 "EchoValley$Reader" false 4 kX2_readWay = true := by decide +kernel
set_option maxRecDepth 100000 in
theorem oX2_readPerson : xokC cX2_readPerson xpp_4 "EchoValley$Reader" false 6 kX2_readPerson = true := by decide +kernel
set_option maxRecDepth 100000 in
theorem oX2_readKeep : xokC cX2_readKeep xpp_4 "EchoValley$Reader" false 3 kX2_readKeep = true := by decide +kernel
set_option maxRecDepth 100000 in
theorem oX2_readRain : xokC cX2_readRain xpp_4 "EchoValley$Reader" false 3 kX2_readRain = true := by decide +kernel
set_option maxRecDepth 100000 in
theorem oX2_readSaying : xokC cX2_readSaying xpp_4 "EchoValley$Reader" false 7 kX2_readSaying = true := by decide +kernel
set_option maxRecDepth 100000 in
theorem oX2_kindAtHand : xokC cX2_kindAtHand xpp_4 "EchoValley$Reader" false 1 kX2_kindAtHand = true := by decide +kernel
set_option maxRecDepth 100000 in
theorem oX2_take : xokC cX2_take xpp_4 "EchoValley$Reader" false 2 kX2_take = true := by decide +kernel
set_option maxRecDepth 100000 in
theorem oX2_isAtHand : xokC cX2_isAtHand xpp_4 "EchoValley$Reader" false 3 kX2_isAtHand = true := by decide +kernel
set_option maxRecDepth 100000 in
theorem oX2_takeNumber : xokC cX2_takeNumber xpp_4 "EchoValley$Reader" false 4 kX2_takeNumber = true := by decide +kernel
set_option maxRecDepth 100000 in
theorem oX2_next : xokC cX2_next xpp_4 "EchoValley$Reader" false 1 kX2_next = true := by decide +kernel
set_option maxRecDepth 100000 in
theorem oX2_reckonValue : xokC cX2_reckonValue xpp_4 "EchoValley$Reader" false 2 kX2_reckonValue = true := by decide +kernel
set_option maxRecDepth 100000 in
theorem oX2_typeAt : xokC cX2_typeAt xpp_4 "EchoValley$Reader" false 3 kX2_typeAt = true := by decide +kernel
set_option maxRecDepth 100000 in
theorem oX3_init : xokC cX3_init xpp_5 "EchoValley$Sayings" true 1 kX3_init = true := by decide +kernel
set_option maxRecDepth 100000 in
theorem oX3_become : xokC cX3_become xpp_5 "EchoValley$Sayings" false 2 kX3_become = true := by decide +kernel
set_option maxRecDepth 100000 in
theorem oX3_isFull : xokC cX3_isFull xpp_5 "EchoValley$Sayings" false 1 kX3_isFull = true := by decide +kernel
set_option maxRecDepth 100000 in
theorem oX3_add : xokC cX3_add xpp_5 "EchoValley$Sayings" false 8 kX3_add = true := by decide +kernel
set_option maxRecDepth 100000 in
theorem oX3_reachOf : xokC cX3_reachOf xpp_5 "EchoValley$Sayings" false 2 kX3_reachOf = true := by decide +kernel
set_option maxRecDepth 100000 in
theorem oX3_firstOver : xokC cX3_firstOver xpp_5 "EchoValley$Sayings" false 3 kX3_firstOver = true := by decide +kernel
set_option maxRecDepth 100000 in
theorem oX3_isOver : xokC cX3_isOver xpp_5 "EchoValley$Sayings" false 3 kX3_isOver = true := by decide +kernel
set_option maxRecDepth 100000 in
theorem oX4_init : xokC cX4_init xpp_6 "EchoValley$Sheet" true 1 kX4_init = true := by decide +kernel
set_option maxRecDepth 100000 in
theorem oX4_areBits : xokC cX4_areBits xpp_6 "EchoValley$Sheet" false 1 kX4_areBits = true := by decide +kernel
set_option maxRecDepth 100000 in
theorem oX4_isMissing : xokC cX4_isMissing xpp_6 "EchoValley$Sheet" false 1 kX4_isMissing = true := by decide +kernel
set_option maxRecDepth 100000 in
theorem oX4_begin : xokC cX4_begin xpp_6 "EchoValley$Sheet" false 3 kX4_begin = true := by decide +kernel
set_option maxRecDepth 100000 in
theorem oX4_hasRange : xokC cX4_hasRange xpp_6 "EchoValley$Sheet" false 3 kX4_hasRange = true := by decide +kernel
set_option maxRecDepth 100000 in
theorem oX4_put : xokC cX4_put xpp_6 "EchoValley$Sheet" false 3 kX4_put = true := by decide +kernel
set_option maxRecDepth 100000 in
theorem oX5_init : xokC cX5_init xpp_7 "EchoValley$Valley" true 1 kX5_init = true := by decide +kernel
set_option maxRecDepth 100000 in
theorem oX5_become : xokC cX5_become xpp_7 "EchoValley$Valley" false 2 kX5_become = true := by decide +kernel
set_option maxRecDepth 100000 in
theorem oX5_draw : xokC cX5_draw xpp_7 "EchoValley$Valley" false 1 kX5_draw = true := by decide +kernel
set_option maxRecDepth 100000 in
theorem oX5_rainyDays : xokC cX5_rainyDays xpp_7 "EchoValley$Valley" false 5 kX5_rainyDays = true := by decide +kernel
set_option maxRecDepth 100000 in
theorem oX5_ageOf : xokC cX5_ageOf xpp_7 "EchoValley$Valley" false 3 kX5_ageOf = true := by decide +kernel
set_option maxRecDepth 100000 in
theorem oX5_lastsOf : xokC cX5_lastsOf xpp_7 "EchoValley$Valley" false 2 kX5_lastsOf = true := by decide +kernel
set_option maxRecDepth 100000 in
theorem oX5_around : xokC cX5_around xpp_7 "EchoValley$Valley" false 2 kX5_around = true := by decide +kernel
set_option maxRecDepth 100000 in
theorem oX5_isHeard : xokC cX5_isHeard xpp_7 "EchoValley$Valley" false 5 kX5_isHeard = true := by decide +kernel
set_option maxRecDepth 100000 in
theorem oX5_isHeardAt : xokC cX5_isHeardAt xpp_7 "EchoValley$Valley" false 4 kX5_isHeardAt = true := by decide +kernel
set_option maxRecDepth 100000 in
theorem oX5_heardSet : xokC cX5_heardSet xpp_7 "EchoValley$Valley" false 6 kX5_heardSet = true := by decide +kernel
set_option maxRecDepth 100000 in
theorem oX5_loudPlaces : xokC cX5_loudPlaces xpp_7 "EchoValley$Valley" false 4 kX5_loudPlaces = true := by decide +kernel
set_option maxRecDepth 100000 in
theorem oX5_heardOn : xokC cX5_heardOn xpp_7 "EchoValley$Valley" false 4 kX5_heardOn = true := by decide +kernel
set_option maxRecDepth 100000 in
theorem oX5_lastDayOf : xokC cX5_lastDayOf xpp_7 "EchoValley$Valley" false 4 kX5_lastDayOf = true := by decide +kernel
set_option maxRecDepth 100000 in
theorem oX5_lastDayOfOnce : xokC cX5_lastDayOfOnce xpp_7 "EchoValley$Valley" false 5 kX5_lastDayOfOnce = true := by decide +kernel
set_option maxRecDepth 100000 in
theorem oX5_doesHear : xokC cX5_doesHear xpp_7 "EchoValley$Valley" false 5 kX5_doesHear = true := by decide +kernel
set_option maxRecDepth 100000 in
theorem oX6_init : xokC cX6_init xpp_8 "EchoValley$Walk" true 1 kX6_init = true := by decide +kernel
set_option maxRecDepth 100000 in
theorem oX6_choose : xokC cX6_choose xpp_8 "EchoValley$Walk" false 6 kX6_choose = true := by decide +kernel
set_option maxRecDepth 100000 in
theorem oX6_gather : xokC cX6_gather xpp_8 "EchoValley$Walk" false 6 kX6_gather = true := by decide +kernel
set_option maxRecDepth 100000 in
theorem oX6_addAround : xokC cX6_addAround xpp_8 "EchoValley$Walk" false 4 kX6_addAround = true := by decide +kernel
set_option maxRecDepth 100000 in
theorem oX6_reckon : xokC cX6_reckon xpp_8 "EchoValley$Walk" false 6 kX6_reckon = true := by decide +kernel
set_option maxRecDepth 100000 in
theorem oX6_bestNext : xokC cX6_bestNext xpp_8 "EchoValley$Walk" false 7 kX6_bestNext = true := by decide +kernel
set_option maxRecDepth 100000 in
theorem oX7_init : xokC cX7_init xpp_9 "EchoValley$Ways" true 1 kX7_init = true := by decide +kernel
set_option maxRecDepth 100000 in
theorem oX7_become : xokC cX7_become xpp_9 "EchoValley$Ways" false 2 kX7_become = true := by decide +kernel
set_option maxRecDepth 100000 in
theorem oX7_has : xokC cX7_has xpp_9 "EchoValley$Ways" false 3 kX7_has = true := by decide +kernel
set_option maxRecDepth 100000 in
theorem oX7_put : xokC cX7_put xpp_9 "EchoValley$Ways" false 4 kX7_put = true := by decide +kernel
set_option maxRecDepth 100000 in
theorem oX7_putHalf : xokC cX7_putHalf xpp_9 "EchoValley$Ways" false 4 kX7_putHalf = true := by decide +kernel
set_option maxRecDepth 100000 in
theorem oX7_isOpen : xokC cX7_isOpen xpp_9 "EchoValley$Ways" false 3 kX7_isOpen = true := by decide +kernel
set_option maxRecDepth 100000 in
theorem oX7_total : xokC cX7_total xpp_9 "EchoValley$Ways" false 3 kX7_total = true := by decide +kernel
set_option maxRecDepth 100000 in
theorem oX7_fewestBetween : xokC cX7_fewestBetween xpp_9 "EchoValley$Ways" false 5 kX7_fewestBetween = true := by decide +kernel
set_option maxRecDepth 100000 in
theorem oX7_within : xokC cX7_within xpp_9 "EchoValley$Ways" false 5 kX7_within = true := by decide +kernel
set_option maxRecDepth 100000 in
theorem oX7_spread : xokC cX7_spread xpp_9 "EchoValley$Ways" false 4 kX7_spread = true := by decide +kernel
set_option maxRecDepth 100000 in
theorem oX8_init : xokC cX8_init xpp_0 "EchoValley" true 2 kX8_init = true := by decide +kernel
set_option maxRecDepth 100000 in
theorem oX8_way : xokC cX8_way xpp_0 "EchoValley" false 5 kX8_way = true := by decide +kernel
end
section
set_option maxRecDepth 100000 in
theorem oX8_steps : xokC cX8_steps xpp_0 "EchoValley" false 4 kX8_steps = true := by decide +kernel
set_option maxRecDepth 100000 in
theorem oX8_days : xokC cX8_days xpp_0 "EchoValley" false 2 kX8_days = true := by decide +kernel
set_option maxRecDepth 100000 in
theorem oX8_rain : xokC cX8_rain xpp_0 "EchoValley" false 4 kX8_rain = true := by decide +kernel
set_option maxRecDepth 100000 in
theorem oX8_weather : xokC cX8_weather xpp_0 "EchoValley" false 5 kX8_weather = true := by decide +kernel
set_option maxRecDepth 100000 in
theorem oX8_keep : xokC cX8_keep xpp_0 "EchoValley" false 3 kX8_keep = true := by decide +kernel
set_option maxRecDepth 100000 in
theorem oX8_say : xokC cX8_say xpp_0 "EchoValley" false 6 kX8_say = true := by decide +kernel
set_option maxRecDepth 100000 in
theorem oX8_sayingOf : xokC cX8_sayingOf xpp_0 "EchoValley" false 3 kX8_sayingOf = true := by decide +kernel
set_option maxRecDepth 100000 in
theorem oX8_turn : xokC cX8_turn xpp_0 "EchoValley" false 4 kX8_turn = true := by decide +kernel
set_option maxRecDepth 100000 in
theorem oX8_age : xokC cX8_age xpp_0 "EchoValley" false 3 kX8_age = true := by decide +kernel
set_option maxRecDepth 100000 in
theorem oX8_over : xokC cX8_over xpp_0 "EchoValley" false 3 kX8_over = true := by decide +kernel
set_option maxRecDepth 100000 in
theorem oX8_until : xokC cX8_until xpp_0 "EchoValley" false 3 kX8_until = true := by decide +kernel
set_option maxRecDepth 100000 in
theorem oX8_reaches : xokC cX8_reaches xpp_0 "EchoValley" false 3 kX8_reaches = true := by decide +kernel
set_option maxRecDepth 100000 in
theorem oX8_drowns : xokC cX8_drowns xpp_0 "EchoValley" false 2 kX8_drowns = true := by decide +kernel
set_option maxRecDepth 100000 in
theorem oX8_heard : xokC cX8_heard xpp_0 "EchoValley" false 3 kX8_heard = true := by decide +kernel
set_option maxRecDepth 100000 in
theorem oX8_which : xokC cX8_which xpp_0 "EchoValley" false 8 kX8_which = true := by decide +kernel
set_option maxRecDepth 100000 in
theorem oX8_words : xokC cX8_words xpp_0 "EchoValley" false 7 kX8_words = true := by decide +kernel
set_option maxRecDepth 100000 in
theorem oX8_plain : xokC cX8_plain xpp_0 "EchoValley" false 7 kX8_plain = true := by decide +kernel
set_option maxRecDepth 100000 in
theorem oX8_alone : xokC cX8_alone xpp_0 "EchoValley" false 3 kX8_alone = true := by decide +kernel
set_option maxRecDepth 100000 in
theorem oX8_full : xokC cX8_full xpp_0 "EchoValley" false 5 kX8_full = true := by decide +kernel
set_option maxRecDepth 100000 in
theorem oX8_person : xokC cX8_person xpp_0 "EchoValley" false 6 kX8_person = true := by decide +kernel
set_option maxRecDepth 100000 in
theorem oX8_where : xokC cX8_where xpp_0 "EchoValley" false 3 kX8_where = true := by decide +kernel
set_option maxRecDepth 100000 in
theorem oX8_hears : xokC cX8_hears xpp_0 "EchoValley" false 5 kX8_hears = true := by decide +kernel
set_option maxRecDepth 100000 in
theorem oX8_first : xokC cX8_first xpp_0 "EchoValley" false 5 kX8_first = true := by decide +kernel
set_option maxRecDepth 100000 in
theorem oX8_who : xokC cX8_who xpp_0 "EchoValley" false 5 kX8_who = true := by decide +kernel
set_option maxRecDepth 100000 in
theorem oX8_said : xokC cX8_said xpp_0 "EchoValley" false 5 kX8_said = true := by decide +kernel
set_option maxRecDepth 100000 in
theorem oX8_tell : xokC cX8_tell xpp_0 "EchoValley" false 5 kX8_tell = true := by decide +kernel
set_option maxRecDepth 100000 in
theorem oX8_needs : xokC cX8_needs xpp_0 "EchoValley" false 5 kX8_needs = true := by decide +kernel
set_option maxRecDepth 100000 in
theorem oX8_walk : xokC cX8_walk xpp_0 "EchoValley" false 4 kX8_walk = true := by decide +kernel
set_option maxRecDepth 100000 in
theorem oX8_step : xokC cX8_step xpp_0 "EchoValley" false 2 kX8_step = true := by decide +kernel
set_option maxRecDepth 100000 in
theorem oX8_crowd : xokC cX8_crowd xpp_0 "EchoValley" false 6 kX8_crowd = true := by decide +kernel
set_option maxRecDepth 100000 in
theorem oX8_seed : xokC cX8_seed xpp_0 "EchoValley" false 3 kX8_seed = true := by decide +kernel
set_option maxRecDepth 100000 in
theorem oX8_feed : xokC cX8_feed xpp_0 "EchoValley" false 3 kX8_feed = true := by decide +kernel
set_option maxRecDepth 100000 in
theorem oX8_wipe : xokC cX8_wipe xpp_0 "EchoValley" false 1 kX8_wipe = true := by decide +kernel
set_option maxRecDepth 100000 in
theorem oX8_text : xokC cX8_text xpp_0 "EchoValley" false 2 kX8_text = true := by decide +kernel
set_option maxRecDepth 100000 in
theorem oX8_hold : xokC cX8_hold xpp_0 "EchoValley" false 3 kX8_hold = true := by decide +kernel
set_option maxRecDepth 100000 in
theorem oX8_as : xokC cX8_as xpp_0 "EchoValley" false 4 kX8_as = true := by decide +kernel
set_option maxRecDepth 100000 in
theorem oX8_sheet : xokC cX8_sheet xpp_0 "EchoValley" false 4 kX8_sheet = true := by decide +kernel
set_option maxRecDepth 100000 in
theorem oX8_write : xokC cX8_write xpp_0 "EchoValley" false 4 kX8_write = true := by decide +kernel
set_option maxRecDepth 100000 in
theorem oX8_copy : xokC cX8_copy xpp_0 "EchoValley" false 8 kX8_copy = true := by decide +kernel
set_option maxRecDepth 100000 in
theorem oX8_load : xokC cX8_load xpp_0 "EchoValley" false 7 kX8_load = true := by decide +kernel
set_option maxRecDepth 100000 in
theorem oX8_judge : xokC cX8_judge xpp_0 "EchoValley" false 7 kX8_judge = true := by decide +kernel
set_option maxRecDepth 100000 in
theorem oX8_image : xokC cX8_image xpp_0 "EchoValley" false 1 kX8_image = true := by decide +kernel
set_option maxRecDepth 100000 in
theorem oX8_undo : xokC cX8_undo xpp_0 "EchoValley" false 1 kX8_undo = true := by decide +kernel
set_option maxRecDepth 100000 in
theorem oX8_tear : xokC cX8_tear xpp_0 "EchoValley" false 2 kX8_tear = true := by decide +kernel
set_option maxRecDepth 100000 in
theorem oX8_count : xokC cX8_count xpp_0 "EchoValley" false 2 kX8_count = true := by decide +kernel
set_option maxRecDepth 100000 in
theorem oX8_status : xokC cX8_status xpp_0 "EchoValley" false 4 kX8_status = true := by decide +kernel
set_option maxRecDepth 100000 in
theorem oX8_finding : xokC cX8_finding xpp_0 "EchoValley" false 3 kX8_finding = true := by decide +kernel
set_option maxRecDepth 100000 in
theorem oX8_isSaying : xokC cX8_isSaying xpp_0 "EchoValley" false 2 kX8_isSaying = true := by decide +kernel
set_option maxRecDepth 100000 in
theorem oX8_isPlace : xokC cX8_isPlace xpp_0 "EchoValley" false 1 kX8_isPlace = true := by decide +kernel
set_option maxRecDepth 100000 in
theorem oX8_isDay : xokC cX8_isDay xpp_0 "EchoValley" false 1 kX8_isDay = true := by decide +kernel
set_option maxRecDepth 100000 in
theorem oX8_isHour : xokC cX8_isHour xpp_0 "EchoValley" false 1 kX8_isHour = true := by decide +kernel
set_option maxRecDepth 100000 in
theorem oX8_isWhen : xokC cX8_isWhen xpp_0 "EchoValley" false 1 kX8_isWhen = true := by decide +kernel
set_option maxRecDepth 100000 in
theorem oX8_isWord : xokC cX8_isWord xpp_0 "EchoValley" false 1 kX8_isWord = true := by decide +kernel
set_option maxRecDepth 100000 in
theorem oX8_isLoud : xokC cX8_isLoud xpp_0 "EchoValley" false 1 kX8_isLoud = true := by decide +kernel
set_option maxRecDepth 100000 in
theorem oX8_isPerson : xokC cX8_isPerson xpp_0 "EchoValley" false 1 kX8_isPerson = true := by decide +kernel
set_option maxRecDepth 100000 in
theorem oX8_isSpot : xokC cX8_isSpot xpp_0 "EchoValley" false 1 kX8_isSpot = true := by decide +kernel
set_option maxRecDepth 100000 in
theorem oX8_isSheet : xokC cX8_isSheet xpp_0 "EchoValley" false 1 kX8_isSheet = true := by decide +kernel
set_option maxRecDepth 100000 in
theorem oX8_dayOf : xokC cX8_dayOf xpp_0 "EchoValley" false 1 kX8_dayOf = true := by decide +kernel
set_option maxRecDepth 100000 in
theorem oX8_hourOf : xokC cX8_hourOf xpp_0 "EchoValley" false 1 kX8_hourOf = true := by decide +kernel
set_option maxRecDepth 100000 in
theorem oX8_isIn : xokC cX8_isIn xpp_0 "EchoValley" false 3 kX8_isIn = true := by decide +kernel
end
section
set_option maxRecDepth 100000 in
theorem oX9_init : xokC cX9_init xpp_1 "EchoValleyModel" true 2 kX9_init = true := by decide +kernel
set_option maxRecDepth 100000 in
theorem oX9_finding : xokC cX9_finding xpp_1 "EchoValleyModel" false 2 kX9_finding = true := by decide +kernel
set_option maxRecDepth 100000 in
theorem oX9_within : xokC cX9_within xpp_1 "EchoValleyModel" false 3 kX9_within = true := by decide +kernel
set_option maxRecDepth 100000 in
theorem oX9_has : xokC cX9_has xpp_1 "EchoValleyModel" false 2 kX9_has = true := by decide +kernel
set_option maxRecDepth 100000 in
theorem oX9_become : xokC cX9_become xpp_1 "EchoValleyModel" false 4 kX9_become = true := by decide +kernel
set_option maxRecDepth 100000 in
theorem oX9_isPlace : xokC cX9_isPlace xpp_1 "EchoValleyModel" false 1 kX9_isPlace = true := by decide +kernel
set_option maxRecDepth 100000 in
theorem oX9_isDay : xokC cX9_isDay xpp_1 "EchoValleyModel" false 1 kX9_isDay = true := by decide +kernel
set_option maxRecDepth 100000 in
theorem oX9_isHour : xokC cX9_isHour xpp_1 "EchoValleyModel" false 1 kX9_isHour = true := by decide +kernel
set_option maxRecDepth 100000 in
theorem oX9_isWhen : xokC cX9_isWhen xpp_1 "EchoValleyModel" false 1 kX9_isWhen = true := by decide +kernel
set_option maxRecDepth 100000 in
theorem oX9_isPerson : xokC cX9_isPerson xpp_1 "EchoValleyModel" false 1 kX9_isPerson = true := by decide +kernel
set_option maxRecDepth 100000 in
theorem oX9_isSaying : xokC cX9_isSaying xpp_1 "EchoValleyModel" false 2 kX9_isSaying = true := by decide +kernel
set_option maxRecDepth 100000 in
theorem oX9_isWay : xokC cX9_isWay xpp_1 "EchoValleyModel" false 3 kX9_isWay = true := by decide +kernel
set_option maxRecDepth 100000 in
theorem oX9_ways : xokC cX9_ways xpp_1 "EchoValleyModel" false 4 kX9_ways = true := by decide +kernel
set_option maxRecDepth 100000 in
theorem oX9_way : xokC cX9_way xpp_1 "EchoValleyModel" false 5 kX9_way = true := by decide +kernel
set_option maxRecDepth 100000 in
theorem oX9_farOf : xokC cX9_farOf xpp_1 "EchoValleyModel" false 3 kX9_farOf = true := by decide +kernel
set_option maxRecDepth 100000 in
theorem oX9_measure : xokC cX9_measure xpp_1 "EchoValleyModel" false 4 kX9_measure = true := by decide +kernel
set_option maxRecDepth 100000 in
theorem oX9_steps : xokC cX9_steps xpp_1 "EchoValleyModel" false 3 kX9_steps = true := by decide +kernel
set_option maxRecDepth 100000 in
theorem oX9_days : xokC cX9_days xpp_1 "EchoValleyModel" false 2 kX9_days = true := by decide +kernel
set_option maxRecDepth 100000 in
theorem oX9_rain : xokC cX9_rain xpp_1 "EchoValleyModel" false 3 kX9_rain = true := by decide +kernel
set_option maxRecDepth 100000 in
theorem oX9_drawn : xokC cX9_drawn xpp_1 "EchoValleyModel" false 2 kX9_drawn = true := by decide +kernel
set_option maxRecDepth 100000 in
theorem oX9_weather : xokC cX9_weather xpp_1 "EchoValleyModel" false 6 kX9_weather = true := by decide +kernel
set_option maxRecDepth 100000 in
theorem oX9_keep : xokC cX9_keep xpp_1 "EchoValleyModel" false 2 kX9_keep = true := by decide +kernel
set_option maxRecDepth 100000 in
theorem oX9_of : xokC cX9_of xpp_1 "EchoValleyModel" false 3 kX9_of = true := by decide +kernel
set_option maxRecDepth 100000 in
theorem oX9_says : xokC cX9_says xpp_1 "EchoValleyModel" false 8 kX9_says = true := by decide +kernel
set_option maxRecDepth 100000 in
theorem oX9_say : xokC cX9_say xpp_1 "EchoValleyModel" false 6 kX9_say = true := by decide +kernel
set_option maxRecDepth 100000 in
theorem oX9_lasts : xokC cX9_lasts xpp_1 "EchoValleyModel" false 3 kX9_lasts = true := by decide +kernel
set_option maxRecDepth 100000 in
theorem oX9_reach : xokC cX9_reach xpp_1 "EchoValleyModel" false 4 kX9_reach = true := by decide +kernel
set_option maxRecDepth 100000 in
theorem oX9_sayingOf : xokC cX9_sayingOf xpp_1 "EchoValleyModel" false 3 kX9_sayingOf = true := by decide +kernel
set_option maxRecDepth 100000 in
theorem oX9_turn : xokC cX9_turn xpp_1 "EchoValleyModel" false 3 kX9_turn = true := by decide +kernel
set_option maxRecDepth 100000 in
theorem oX9_ageOf : xokC cX9_ageOf xpp_1 "EchoValleyModel" false 5 kX9_ageOf = true := by decide +kernel
set_option maxRecDepth 100000 in
theorem oX9_age : xokC cX9_age xpp_1 "EchoValleyModel" false 3 kX9_age = true := by decide +kernel
set_option maxRecDepth 100000 in
theorem oX9_isOver : xokC cX9_isOver xpp_1 "EchoValleyModel" false 5 kX9_isOver = true := by decide +kernel
set_option maxRecDepth 100000 in
theorem oX9_overOf : xokC cX9_overOf xpp_1 "EchoValleyModel" false 3 kX9_overOf = true := by decide +kernel
set_option maxRecDepth 100000 in
theorem oX9_over : xokC cX9_over xpp_1 "EchoValleyModel" false 3 kX9_over = true := by decide +kernel
set_option maxRecDepth 100000 in
theorem oX9_isHeard : xokC cX9_isHeard xpp_1 "EchoValleyModel" false 4 kX9_isHeard = true := by decide +kernel
set_option maxRecDepth 100000 in
theorem oX9_until : xokC cX9_until xpp_1 "EchoValleyModel" false 3 kX9_until = true := by decide +kernel
set_option maxRecDepth 100000 in
theorem oX9_near : xokC cX9_near xpp_1 "EchoValleyModel" false 5 kX9_near = true := by decide +kernel
set_option maxRecDepth 100000 in
theorem oX9_reachesOf : xokC cX9_reachesOf xpp_1 "EchoValleyModel" false 2 kX9_reachesOf = true := by decide +kernel
set_option maxRecDepth 100000 in
theorem oX9_reaches : xokC cX9_reaches xpp_1 "EchoValleyModel" false 3 kX9_reaches = true := by decide +kernel
set_option maxRecDepth 100000 in
theorem oX9_drowns : xokC cX9_drowns xpp_1 "EchoValleyModel" false 2 kX9_drowns = true := by decide +kernel
set_option maxRecDepth 100000 in
theorem oX9_isHeardAt : xokC cX9_isHeardAt xpp_1 "EchoValleyModel" false 5 kX9_isHeardAt = true := by decide +kernel
set_option maxRecDepth 100000 in
theorem oX9_heardAt : xokC cX9_heardAt xpp_1 "EchoValleyModel" false 6 kX9_heardAt = true := by decide +kernel
set_option maxRecDepth 100000 in
theorem oX9_heard : xokC cX9_heard xpp_1 "EchoValleyModel" false 3 kX9_heard = true := by decide +kernel
set_option maxRecDepth 100000 in
theorem oX9_which : xokC cX9_which xpp_1 "EchoValleyModel" false 6 kX9_which = true := by decide +kernel
set_option maxRecDepth 100000 in
theorem oX9_words : xokC cX9_words xpp_1 "EchoValleyModel" false 5 kX9_words = true := by decide +kernel
set_option maxRecDepth 100000 in
theorem oX9_plain : xokC cX9_plain xpp_1 "EchoValleyModel" false 5 kX9_plain = true := by decide +kernel
set_option maxRecDepth 100000 in
theorem oX9_alone : xokC cX9_alone xpp_1 "EchoValleyModel" false 4 kX9_alone = true := by decide +kernel
set_option maxRecDepth 100000 in
theorem oX9_full : xokC cX9_full xpp_1 "EchoValleyModel" false 5 kX9_full = true := by decide +kernel
set_option maxRecDepth 100000 in
theorem oX9_whereIs : xokC cX9_whereIs xpp_1 "EchoValleyModel" false 3 kX9_whereIs = true := by decide +kernel
set_option maxRecDepth 100000 in
theorem oX9_isAt : xokC cX9_isAt xpp_1 "EchoValleyModel" false 6 kX9_isAt = true := by decide +kernel
set_option maxRecDepth 100000 in
theorem oX9_manyAt : xokC cX9_manyAt xpp_1 "EchoValleyModel" false 5 kX9_manyAt = true := by decide +kernel
set_option maxRecDepth 100000 in
theorem oX9_person : xokC cX9_person xpp_1 "EchoValleyModel" false 5 kX9_person = true := by decide +kernel
set_option maxRecDepth 100000 in
theorem oX9_where : xokC cX9_where xpp_1 "EchoValleyModel" false 3 kX9_where = true := by decide +kernel
set_option maxRecDepth 100000 in
theorem oX9_hearsIt : xokC cX9_hearsIt xpp_1 "EchoValleyModel" false 5 kX9_hearsIt = true := by decide +kernel
set_option maxRecDepth 100000 in
theorem oX9_hears : xokC cX9_hears xpp_1 "EchoValleyModel" false 5 kX9_hears = true := by decide +kernel
set_option maxRecDepth 100000 in
theorem oX9_first : xokC cX9_first xpp_1 "EchoValleyModel" false 5 kX9_first = true := by decide +kernel
set_option maxRecDepth 100000 in
theorem oX9_who : xokC cX9_who xpp_1 "EchoValleyModel" false 6 kX9_who = true := by decide +kernel
set_option maxRecDepth 100000 in
theorem oX9_said : xokC cX9_said xpp_1 "EchoValleyModel" false 4 kX9_said = true := by decide +kernel
set_option maxRecDepth 100000 in
theorem oX9_tell : xokC cX9_tell xpp_1 "EchoValleyModel" false 6 kX9_tell = true := by decide +kernel
set_option maxRecDepth 100000 in
theorem oX9_isNear : xokC cX9_isNear xpp_1 "EchoValleyModel" false 6 kX9_isNear = true := by decide +kernel
set_option maxRecDepth 100000 in
theorem oX9_needs : xokC cX9_needs xpp_1 "EchoValleyModel" false 6 kX9_needs = true := by decide +kernel
set_option maxRecDepth 100000 in
theorem oX9_walk : xokC cX9_walk xpp_1 "EchoValleyModel" false 9 kX9_walk = true := by decide +kernel
set_option maxRecDepth 100000 in
theorem oX9_step : xokC cX9_step xpp_1 "EchoValleyModel" false 2 kX9_step = true := by decide +kernel
set_option maxRecDepth 100000 in
theorem oX9_crowd : xokC cX9_crowd xpp_1 "EchoValleyModel" false 5 kX9_crowd = true := by decide +kernel
set_option maxRecDepth 100000 in
theorem oX9_seed : xokC cX9_seed xpp_1 "EchoValleyModel" false 2 kX9_seed = true := by decide +kernel
end
section
set_option maxRecDepth 100000 in
theorem oX9_feed : xokC cX9_feed xpp_1 "EchoValleyModel" false 4 kX9_feed = true := by decide +kernel
set_option maxRecDepth 100000 in
theorem oX9_wipe : xokC cX9_wipe xpp_1 "EchoValleyModel" false 2 kX9_wipe = true := by decide +kernel
set_option maxRecDepth 100000 in
theorem oX9_byteAt : xokC cX9_byteAt xpp_1 "EchoValleyModel" false 2 kX9_byteAt = true := by decide +kernel
set_option maxRecDepth 100000 in
theorem oX9_next : xokC cX9_next xpp_1 "EchoValleyModel" false 2 kX9_next = true := by decide +kernel
set_option maxRecDepth 100000 in
theorem oX9_isWord : xokC cX9_isWord xpp_1 "EchoValleyModel" false 4 kX9_isWord = true := by decide +kernel
set_option maxRecDepth 100000 in
theorem oX9_must : xokC cX9_must xpp_1 "EchoValleyModel" false 2 kX9_must = true := by decide +kernel
set_option maxRecDepth 100000 in
theorem oX9_number : xokC cX9_number xpp_1 "EchoValleyModel" false 5 kX9_number = true := by decide +kernel
set_option maxRecDepth 100000 in
theorem oX9_item : xokC cX9_item xpp_1 "EchoValleyModel" false 7 kX9_item = true := by decide +kernel
set_option maxRecDepth 100000 in
theorem oX9_readItem : xokC cX9_readItem xpp_1 "EchoValleyModel" false 4 kX9_readItem = true := by decide +kernel
set_option maxRecDepth 100000 in
theorem oX9_readSaying : xokC cX9_readSaying xpp_1 "EchoValleyModel" false 6 kX9_readSaying = true := by decide +kernel
set_option maxRecDepth 100000 in
theorem oX9_readPerson : xokC cX9_readPerson xpp_1 "EchoValleyModel" false 5 kX9_readPerson = true := by decide +kernel
set_option maxRecDepth 100000 in
theorem oX9_isSo : xokC cX9_isSo xpp_1 "EchoValleyModel" false 7 kX9_isSo = true := by decide +kernel
set_option maxRecDepth 100000 in
theorem oX9_text : xokC cX9_text xpp_1 "EchoValleyModel" false 2 kX9_text = true := by decide +kernel
set_option maxRecDepth 100000 in
theorem oX9_hold : xokC cX9_hold xpp_1 "EchoValleyModel" false 3 kX9_hold = true := by decide +kernel
set_option maxRecDepth 100000 in
theorem oX9_above : xokC cX9_above xpp_1 "EchoValleyModel" false 1 kX9_above = true := by decide +kernel
set_option maxRecDepth 100000 in
theorem oX9_as : xokC cX9_as xpp_1 "EchoValleyModel" false 5 kX9_as = true := by decide +kernel
set_option maxRecDepth 100000 in
theorem oX9_isSheet : xokC cX9_isSheet xpp_1 "EchoValleyModel" false 1 kX9_isSheet = true := by decide +kernel
set_option maxRecDepth 100000 in
theorem oX9_cutTo : xokC cX9_cutTo xpp_1 "EchoValleyModel" false 2 kX9_cutTo = true := by decide +kernel
set_option maxRecDepth 100000 in
theorem oX9_sheet : xokC cX9_sheet xpp_1 "EchoValleyModel" false 5 kX9_sheet = true := by decide +kernel
set_option maxRecDepth 100000 in
theorem oX9_write : xokC cX9_write xpp_1 "EchoValleyModel" false 4 kX9_write = true := by decide +kernel
set_option maxRecDepth 100000 in
theorem oX9_copy : xokC cX9_copy xpp_1 "EchoValleyModel" false 7 kX9_copy = true := by decide +kernel
set_option maxRecDepth 100000 in
theorem oX9_load : xokC cX9_load xpp_1 "EchoValleyModel" false 4 kX9_load = true := by decide +kernel
set_option maxRecDepth 100000 in
theorem oX9_judge : xokC cX9_judge xpp_1 "EchoValleyModel" false 7 kX9_judge = true := by decide +kernel
set_option maxRecDepth 100000 in
theorem oX9_copyRow : xokC cX9_copyRow xpp_1 "EchoValleyModel" false 3 kX9_copyRow = true := by decide +kernel
set_option maxRecDepth 100000 in
theorem oX9_image : xokC cX9_image xpp_1 "EchoValleyModel" false 1 kX9_image = true := by decide +kernel
set_option maxRecDepth 100000 in
theorem oX9_undo : xokC cX9_undo xpp_1 "EchoValleyModel" false 1 kX9_undo = true := by decide +kernel
set_option maxRecDepth 100000 in
theorem oX9_tear : xokC cX9_tear xpp_1 "EchoValleyModel" false 2 kX9_tear = true := by decide +kernel
set_option maxRecDepth 100000 in
theorem oX9_count : xokC cX9_count xpp_1 "EchoValleyModel" false 4 kX9_count = true := by decide +kernel
set_option maxRecDepth 100000 in
theorem oX9_status : xokC cX9_status xpp_1 "EchoValleyModel" false 2 kX9_status = true := by decide +kernel
set_option maxRecDepth 100000 in
theorem oJ6_bitCount_0f7a4 : xokC cJ6_bitCount_0f7a4 xpp_12 "java/lang/Integer" false 1 kJ6_bitCount_0f7a4 = true := by decide +kernel
set_option maxRecDepth 100000 in
theorem oJ13_bitCount_95d88 : xokC cJ13_bitCount_95d88 xpp_13 "java/lang/Long" false 2 kJ13_bitCount_95d88 = true := by decide +kernel
set_option maxRecDepth 100000 in
theorem oJ0_length_8abf5 : xokC cJ0_length_8abf5 xpp_15 "java/lang/String" false 1 kJ0_length_8abf5 = true := by decide +kernel
set_option maxRecDepth 100000 in
theorem oJ0_charAt_5068e : xokC cJ0_charAt_5068e xpp_15 "java/lang/String" false 2 kJ0_charAt_5068e = true := by decide +kernel
set_option maxRecDepth 100000 in
theorem oJ0_coder_7d493 : xokC cJ0_coder_7d493 xpp_15 "java/lang/String" false 1 kJ0_coder_7d493 = true := by decide +kernel
set_option maxRecDepth 100000 in
theorem oJ0_isLatin1_aae02 : xokC cJ0_isLatin1_aae02 xpp_15 "java/lang/String" false 1 kJ0_isLatin1_aae02 = true := by decide +kernel
set_option maxRecDepth 100000 in
theorem oJ0_checkIndex_df160 : xokC cJ0_checkIndex_df160 xpp_15 "java/lang/String" false 2 kJ0_checkIndex_df160 = true := by decide +kernel
set_option maxRecDepth 100000 in
theorem oJ1_charAt_3b067 : xokC cJ1_charAt_3b067 xpp_16 "java/lang/StringLatin1" false 2 kJ1_charAt_3b067 = true := by decide +kernel
set_option maxRecDepth 100000 in
theorem oJ7_fill_53178 : xokC cJ7_fill_53178 xpp_19 "java/util/Arrays" false 4 kJ7_fill_53178 = true := by decide +kernel
set_option maxRecDepth 100000 in
theorem oJ3_checkIndex_8e157 : xokC cJ3_checkIndex_8e157 xpp_20 "jdk/internal/util/Preconditions" false 3 kJ3_checkIndex_8e157 = true := by decide +kernel
end
section
theorem xokC_app {cc : ByteArray} {pp : List (Nat × Nat)} {own : String} {ini : Bool} {nL : Nat} : ∀ {l1 l2 : List xE}, xokC cc pp own ini nL l1 = true → xokC cc pp own ini nL l2 = true → (∀ e, l1.getLast? = some e → ∀ f r, l2 = f :: r → Nat.beq f.1 (e.1 + xlen e.1 e.2.2.1) = true) → xokC cc pp own ini nL (l1 ++ l2) = true
  | [], l2, _, h2, _ => h2
  | [e], l2, h1, h2, h3 => by
    unfold xokC at h1 ⊢
    simp only [List.singleton_append, Bool.and_eq_true] at h1 ⊢
    refine ⟨⟨h1.1.1, ?_⟩, h2⟩
    cases l2 with
    | nil => rfl
    | cons f r => exact h3 e rfl f r rfl
  | e :: e' :: l1, l2, h1, h2, h3 => by
    unfold xokC at h1
    simp only [Bool.and_eq_true] at h1
    have ih := xokC_app (l1 := e' :: l1) (l2 := l2) h1.2 h2 (fun x hx f r hf => h3 x (by rw [List.getLast?_cons_cons]; exact hx) f r hf)
    show xokC cc pp own ini nL (e :: (e' :: (l1 ++ l2))) = true
    unfold xokC
    simp only [Bool.and_eq_true]
    exact ⟨h1.1, ih⟩
set_option maxRecDepth 100000 in
theorem oL_law_0 : xokC cL_law xpp_10 "EchoValleyLaw" false 4 kL_law_0 = true := by decide +kernel
set_option maxRecDepth 100000 in
theorem oL_law_1 : xokC cL_law xpp_10 "EchoValleyLaw" false 4 kL_law_1 = true := by decide +kernel
set_option maxRecDepth 100000 in
theorem oL_law_2 : xokC cL_law xpp_10 "EchoValleyLaw" false 4 kL_law_2 = true := by decide +kernel
set_option maxRecDepth 100000 in
theorem oL_law_3 : xokC cL_law xpp_10 "EchoValleyLaw" false 4 kL_law_3 = true := by decide +kernel
set_option maxRecDepth 100000 in
theorem oL_law_4 : xokC cL_law xpp_10 "EchoValleyLaw" false 4 kL_law_4 = true := by decide +kernel
set_option maxRecDepth 100000 in
theorem oL_law_5 : xokC cL_law xpp_10 "EchoValleyLaw" false 4 kL_law_5 = true := by decide +kernel
set_option maxRecDepth 100000 in
theorem oL_law_6 : xokC cL_law xpp_10 "EchoValleyLaw" false 4 kL_law_6 = true := by decide +kernel
set_option maxRecDepth 100000 in
theorem oL_law_7 : xokC cL_law xpp_10 "EchoValleyLaw" false 4 kL_law_7 = true := by decide +kernel
set_option maxRecDepth 100000 in
theorem oL_law_8 : xokC cL_law xpp_10 "EchoValleyLaw" false 4 kL_law_8 = true := by decide +kernel
set_option maxRecDepth 100000 in
theorem oL_law_9 : xokC cL_law xpp_10 "EchoValleyLaw" false 4 kL_law_9 = true := by decide +kernel
set_option maxRecDepth 100000 in
theorem oL_law_10 : xokC cL_law xpp_10 "EchoValleyLaw" false 4 kL_law_10 = true := by decide +kernel
set_option maxRecDepth 100000 in
theorem oL_law_11 : xokC cL_law xpp_10 "EchoValleyLaw" false 4 kL_law_11 = true := by decide +kernel
set_option maxRecDepth 100000 in
theorem oL_law_12 : xokC cL_law xpp_10 "EchoValleyLaw" false 4 kL_law_12 = true := by decide +kernel
theorem oL_from_12 : xokC cL_law xpp_10 "EchoValleyLaw" false 4 kL_law_12 = true := oL_law_12
theorem oL_from_11 : xokC cL_law xpp_10 "EchoValleyLaw" false 4 (kL_law_11 ++ (kL_law_12)) = true := xokC_app oL_law_11 oL_from_12 (fun e he f r hf => by cases he; cases hf; rfl)
theorem oL_from_10 : xokC cL_law xpp_10 "EchoValleyLaw" false 4 (kL_law_10 ++ (kL_law_11 ++ (kL_law_12))) = true := xokC_app oL_law_10 oL_from_11 (fun e he f r hf => by cases he; cases hf; rfl)
theorem oL_from_9 : xokC cL_law xpp_10 "EchoValleyLaw" false 4 (kL_law_9 ++ (kL_law_10 ++ (kL_law_11 ++ (kL_law_12)))) = true := xokC_app oL_law_9 oL_from_10 (fun e he f r hf => by cases he; cases hf; rfl)
theorem oL_from_8 : xokC cL_law xpp_10 "EchoValleyLaw" false 4 (kL_law_8 ++ (kL_law_9 ++ (kL_law_10 ++ (kL_law_11 ++ (kL_law_12))))) = true := xokC_app oL_law_8 oL_from_9 (fun e he f r hf => by cases he; cases hf; rfl)
theorem oL_from_7 : xokC cL_law xpp_10 "EchoValleyLaw" false 4 (kL_law_7 ++ (kL_law_8 ++ (kL_law_9 ++ (kL_law_10 ++ (kL_law_11 ++ (kL_law_12)))))) = true := xokC_app oL_law_7 oL_from_8 (fun e he f r hf => by cases he; cases hf; rfl)
theorem oL_from_6 : xokC cL_law xpp_10 "EchoValleyLaw" false 4 (kL_law_6 ++ (kL_law_7 ++ (kL_law_8 ++ (kL_law_9 ++ (kL_law_10 ++ (kL_law_11 ++ (kL_law_12))))))) = true := xokC_app oL_law_6 oL_from_7 (fun e he f r hf => by cases he; cases hf; rfl)
theorem oL_from_5 : xokC cL_law xpp_10 "EchoValleyLaw" false 4 (kL_law_5 ++ (kL_law_6 ++ (kL_law_7 ++ (kL_law_8 ++ (kL_law_9 ++ (kL_law_10 ++ (kL_law_11 ++ (kL_law_12)))))))) = true := xokC_app oL_law_5 oL_from_6 (fun e he f r hf => by cases he; cases hf; rfl)
theorem oL_from_4 : xokC cL_law xpp_10 "EchoValleyLaw" false 4 (kL_law_4 ++ (kL_law_5 ++ (kL_law_6 ++ (kL_law_7 ++ (kL_law_8 ++ (kL_law_9 ++ (kL_law_10 ++ (kL_law_11 ++ (kL_law_12))))))))) = true := xokC_app oL_law_4 oL_from_5 (fun e he f r hf => by cases he; cases hf; rfl)
theorem oL_from_3 : xokC cL_law xpp_10 "EchoValleyLaw" false 4 (kL_law_3 ++ (kL_law_4 ++ (kL_law_5 ++ (kL_law_6 ++ (kL_law_7 ++ (kL_law_8 ++ (kL_law_9 ++ (kL_law_10 ++ (kL_law_11 ++ (kL_law_12)))))))))) = true := xokC_app oL_law_3 oL_from_4 (fun e he f r hf => by cases he; cases hf; rfl)
theorem oL_from_2 : xokC cL_law xpp_10 "EchoValleyLaw" false 4 (kL_law_2 ++ (kL_law_3 ++ (kL_law_4 ++ (kL_law_5 ++ (kL_law_6 ++ (kL_law_7 ++ (kL_law_8 ++ (kL_law_9 ++ (kL_law_10 ++ (kL_law_11 ++ (kL_law_12))))))))))) = true := xokC_app oL_law_2 oL_from_3 (fun e he f r hf => by cases he; cases hf; rfl)
theorem oL_from_1 : xokC cL_law xpp_10 "EchoValleyLaw" false 4 (kL_law_1 ++ (kL_law_2 ++ (kL_law_3 ++ (kL_law_4 ++ (kL_law_5 ++ (kL_law_6 ++ (kL_law_7 ++ (kL_law_8 ++ (kL_law_9 ++ (kL_law_10 ++ (kL_law_11 ++ (kL_law_12)))))))))))) = true := xokC_app oL_law_1 oL_from_2 (fun e he f r hf => by cases he; cases hf; rfl)
theorem oL_from_0 : xokC cL_law xpp_10 "EchoValleyLaw" false 4 (kL_law_0 ++ (kL_law_1 ++ (kL_law_2 ++ (kL_law_3 ++ (kL_law_4 ++ (kL_law_5 ++ (kL_law_6 ++ (kL_law_7 ++ (kL_law_8 ++ (kL_law_9 ++ (kL_law_10 ++ (kL_law_11 ++ (kL_law_12))))))))))))) = true := xokC_app oL_law_0 oL_from_1 (fun e he f r hf => by cases he; cases hf; rfl)
theorem oL_law : xokC cL_law xpp_10 "EchoValleyLaw" false 4 kL_law = true := oL_from_0
end
section
/-! A small machine over pure data: entries (pc, live slots at a loop's head, instruction, a, b, v), rows of ints M, references R, shapes. -/
def xrow (M : xM) (a : Nat) (f : Nat → Int32) : xM := fun i => if i = a then f else M i
def xup (M : xM) (a k : Nat) (v : Int32) : xM := xrow M a (upd (M a) k v)
def xrup (R : Nat → Nat → Option Nat) (a k : Nat) (v : Option Nat) : Nat → Nat → Option Nat := fun i j => if i = a ∧ j = k then v else R i j
def xrv : Option Nat → Value
  | some r => .ref r
  | none => .null
def xunrv : Value → Option (Option Nat)
  | .ref r => some (some r)
  | .null => some none
  | _ => none
def xget : xL → Nat → Option Value
  | [], _ => none
  | v :: _, 0 => v
  | _ :: l, n + 1 => xget l n
def xset : xL → Nat → Option Value → xL
  | [], _, _ => []
  | _ :: l, 0, v => v :: l
  | w :: l, n + 1, v => w :: xset l n v
/-- the slot ahead of a holds no long -/
def xnol : xL → Nat → Bool
  | .some (.long _) :: _, 1 => false
  | .some (.double _) :: _, 1 => false
  | _, 0 => true
  | [], _ => true
  | _ :: l, n + 1 => xnol l n
def xmask : List Bool → xL → xL
  | true :: m, v :: l => v :: xmask m l
  | false :: m, _ :: l => none :: xmask m l
  | _, _ => []
def xseek (t : Nat) : List xE → List xE
  | [] => []
  | e :: is => match Nat.beq e.1 t with
    | true => e :: is
    | false => xseek t is
/-- b values off the stack, the deepest first -/
def xpop : Nat → List Value → List Value → Option (List Value × List Value)
  | 0, st, acc => some (acc, st)
  | _ + 1, [], _ => none
  | n + 1, v :: st, acc => xpop n st (v :: acc)
def xcat : List Value → Nat
  | [] => 0
  | .long _ :: l => xcat l + 2
  | .double _ :: l => xcat l + 2
  | _ :: l => xcat l + 1
def xpush : Option Value → List Value → List Value
  | some v, st => v :: st
  | none, st => st
def xtab (x : Int32) (jp : Nat → Prop) (pc : Nat) : Int → List Int → Prop
  | _, [] => True
  | lo, o :: os => if x.toInt = lo then jp ((pc : Int) + o).toNat else xtab x jp pc (lo + 1) os
/-- the fields of a String constant: its bytes, its coder -/
def xXF (o b : Nat) : Option Value := match b with
  | 0 => some (.ref (o + 100))
  | _ => some (.int 0)
/-- what may be put: an int, a boolean, one of the made objects -/
def xputS (v w : Value) (P : Int32 → Prop) (Q : Nat → Prop) : Prop := match v, w with
  | .int _, .int x => P x
  | .long _, .int x => if x = 0 ∨ x = 1 then P x else False
  | .null, .ref q => match Nat.blt q 1000 with
    | true => Q q
    | false => False
  | _, _ => False
/-- the receiver is one of the made objects -/
def xint : List Value → Bool
  | .ref o :: _ => Nat.blt o 1000
  | _ => false
/-- the receiver is an object of the class (99: a String constant) -/
def xrecv (sh : List (Nat × Nat)) (v : Value) (as : List Value) : Bool := match v, as with
  | .ref ci, .ref o :: _ => match Nat.beq ci 99 with
    | true => Nat.ble 1100 o && Nat.blt o 1115
    | false => match sh[o]? with
      | some (kd, _) => Nat.beq kd (3 + ci)
      | none => false
  | _, _ => false
def xabove (j : Nat) : Int32 := match j with
  | 0 => -1
  | 1 => 0
  | 2 => 0
  | 3 => 0
  | 4 => 1
  | 5 => 3
  | _ => 2
def xsT : List (List Int32) := [[119, 97, 121], [112, 101, 114, 115, 111, 110], [97, 116], [104, 111, 117, 114, 115], [107, 101, 101, 112], [114, 97, 105, 110], [111, 110, 99, 101], [107, 101, 112, 116], [108, 111, 119], [111, 118, 101, 114], [99, 97, 114, 114, 105, 101, 100], [99, 117, 114, 115, 101, 100], [104, 117, 115, 104, 101, 100], [104, 111, 117, 114], [108, 111, 117, 100]]
def xslen (i : Nat) : Nat := (xnth [] xsT i).length
def xsbyt (i j : Nat) : Int32 := xnth 0 (xnth [] xsT i) j
/-- what lies outside: the script, the row of KINDS, the bytes of String constants -/
def xX (L : Nat) (xs : Nat → Int32) (o : Nat) : Option (Nat × (Nat → Int32)) := match Nat.beq o 1000 with
  | true => some (L, xs)
  | false => match Nat.beq o 1001 with
    | true => some (7, xabove)
    | false => match Nat.ble 1200 o && Nat.blt o 1215 with
      | true => some (xslen (o - 1200), xsbyt (o - 1200))
      | false => none
theorem xite {c : Prop} [Decidable c] {A B : Prop} (h1 : c → A) (h2 : ¬ c → B) : if c then A else B := by
  by_cases h : c
  · rw [if_pos h]; exact h1 h
  · rw [if_neg h]; exact h2 h
theorem xif {c : Prop} [Decidable c] {A B : Prop} (h : c) (h1 : A) : if c then A else B := by rw [if_pos h]; exact h1
theorem xelse {c : Prop} [Decidable c] {A B : Prop} (h : ¬ c) (h1 : B) : if c then A else B := by rw [if_neg h]; exact h1
theorem xite_t {c : Prop} [Decidable c] {A B : Prop} (h : if c then A else B) (z : c) : A := by rw [if_pos z] at h; exact h
theorem xite_f {c : Prop} [Decidable c] {A B : Prop} (h : if c then A else B) (z : ¬ c) : B := by rw [if_neg z] at h; exact h
theorem xite_no {c : Prop} [Decidable c] {B : Prop} (h : if c then False else B) : ¬ c ∧ B := by
  by_cases z : c
  · rw [if_pos z] at h; exact h.elim
  · rw [if_neg z] at h; exact ⟨z, h⟩
theorem xite_yes {c : Prop} [Decidable c] {B : Prop} (h : if c then B else False) : c ∧ B := by
  by_cases z : c
  · rw [if_pos z] at h; exact ⟨z, h⟩
  · rw [if_neg z] at h; exact h.elim
def x1 (X : Nat → Option (Nat × (Nat → Int32))) (K : Nat → List Value → xH → (Option Value → xH → Prop) → Prop) (al : Nat → Nat × Nat) (mc ms : Nat) (rt : Nat) (Q : Option Value → xH → Prop)
    (nx : xL → List Value → xH → Nat → Nat → Prop) (jp : Nat → xL → List Value → xH → Nat → Nat → Prop) (e : xE) (ls : xL) (st : List Value) (h : xH) (cs ss : Nat) : Prop :=
  match e with
  | (pc, _, ins, a, b, v) => match ins with
    | .iconst _ => nx ls (v :: st) h cs ss
    | .bipush _ => nx ls (v :: st) h cs ss
    | .sipush _ => nx ls (v :: st) h cs ss
    | .ldc _ => nx ls (v :: st) h cs ss
    | .ldc_w _ => nx ls (v :: st) h cs ss
    | .ldc2_w _ => nx ls (v :: st) h cs ss
    | .lconst _ => nx ls (v :: st) h cs ss
    | .getstatic _ => nx ls (v :: st) h cs ss
    | .iload_n _ => match xget ls a with
      | some (.int x) => nx ls (.int x :: st) h cs ss
      | _ => False
    | .iload _ => match xget ls a with
      | some (.int x) => nx ls (.int x :: st) h cs ss
      | _ => False
    | .lload_n _ => match xget ls a with
      | some (.long x) => nx ls (.long x :: st) h cs ss
      | _ => False
    | .lload _ => match xget ls a with
      | some (.long x) => nx ls (.long x :: st) h cs ss
      | _ => False
    | .aload_n _ => match xget ls a with
      | some (.ref x) => nx ls (.ref x :: st) h cs ss
      | _ => False
    | .aload _ => match xget ls a with
      | some (.ref x) => nx ls (.ref x :: st) h cs ss
      | _ => False
    | .istore_n _ => match st, xnol ls a with
      | .int x :: r, true => nx (xset ls a (some (.int x))) r h cs ss
      | _, _ => False
    | .istore _ => match st, xnol ls a with
      | .int x :: r, true => nx (xset ls a (some (.int x))) r h cs ss
      | _, _ => False
    | .lstore_n _ => match st, xnol ls a with
      | .long x :: r, true => nx (xset (xset ls (a + 1) none) a (some (.long x))) r h cs ss
      | _, _ => False
    | .lstore _ => match st, xnol ls a with
      | .long x :: r, true => nx (xset (xset ls (a + 1) none) a (some (.long x))) r h cs ss
      | _, _ => False
    | .astore_n _ => match st, xnol ls a with
      | .ref x :: r, true => nx (xset ls a (some (.ref x))) r h cs ss
      | _, _ => False
    | .astore _ => match st, xnol ls a with
      | .ref x :: r, true => nx (xset ls a (some (.ref x))) r h cs ss
      | _, _ => False
    | .iinc _ _ => match xget ls a, v, xnol ls a with
      | some (.int x), .int n, true => nx (xset ls a (some (.int (x + n)))) st h cs ss
      | _, _, _ => False
    | .iadd => match st with
      | .int y :: .int x :: r => nx ls (.int (x + y) :: r) h cs ss
      | _ => False
    | .isub => match st with
      | .int y :: .int x :: r => nx ls (.int (x - y) :: r) h cs ss
      | _ => False
    | .imul => match st with
      | .int y :: .int x :: r => nx ls (.int (x * y) :: r) h cs ss
      | _ => False
    | .iand => match st with
      | .int y :: .int x :: r => nx ls (.int (x &&& y) :: r) h cs ss
      | _ => False
    | .ior => match st with
      | .int y :: .int x :: r => nx ls (.int (x ||| y) :: r) h cs ss
      | _ => False
    | .ixor => match st with
      | .int y :: .int x :: r => nx ls (.int (x ^^^ y) :: r) h cs ss
      | _ => False
    | .ishl => match st with
      | .int y :: .int x :: r => nx ls (.int (x <<< (y &&& 31)) :: r) h cs ss
      | _ => False
    | .ishr => match st with
      | .int y :: .int x :: r => nx ls (.int (x >>> (y &&& 31)) :: r) h cs ss
      | _ => False
    | .iushr => match st with
      | .int y :: .int x :: r => nx ls (.int (x.toUInt32 >>> (y.toUInt32 &&& Int32.toUInt32 31)).toInt32 :: r) h cs ss
      | _ => False
    | .idiv => match st with
      | .int y :: .int x :: r => if y = 0 then False else nx ls (.int (x / y) :: r) h cs ss
      | _ => False
    | .irem => match st with
      | .int y :: .int x :: r => if y = 0 then False else nx ls (.int (x - x / y * y) :: r) h cs ss
      | _ => False
    | .ladd => match st with
      | .long y :: .long x :: r => nx ls (.long (x + y) :: r) h cs ss
      | _ => False
    | .lsub => match st with
      | .long y :: .long x :: r => nx ls (.long (x - y) :: r) h cs ss
      | _ => False
    | .land => match st with
      | .long y :: .long x :: r => nx ls (.long (x &&& y) :: r) h cs ss
      | _ => False
    | .lor => match st with
      | .long y :: .long x :: r => nx ls (.long (x ||| y) :: r) h cs ss
      | _ => False
    | .lshl => match st with
      | .int y :: .long x :: r => nx ls (.long (x <<< (y.toInt64 &&& 63)) :: r) h cs ss
      | _ => False
    | .lshr => match st with
      | .int y :: .long x :: r => nx ls (.long (x >>> (y.toInt64 &&& 63)) :: r) h cs ss
      | _ => False
    | .lushr => match st with
      | .int y :: .long x :: r => nx ls (.long (x.toUInt64 >>> (y.toInt64.toUInt64 &&& Int64.toUInt64 63)).toInt64 :: r) h cs ss
      | _ => False
    | .lcmp => match st with
      | .long y :: .long x :: r => nx ls (.int (lg_cmp x y) :: r) h cs ss
      | _ => False
    | .i2l => match st with
      | .int x :: r => nx ls (.long x.toInt64 :: r) h cs ss
      | _ => False
    | .l2i => match st with
      | .long x :: r => nx ls (.int x.toInt32 :: r) h cs ss
      | _ => False
    | .i2b => match st with
      | .int x :: r => nx ls (.int x.toInt8.toInt32 :: r) h cs ss
      | _ => False
    | .i2s => match st with
      | .int x :: r => nx ls (.int x.toInt16.toInt32 :: r) h cs ss
      | _ => False
    | .i2c => match st with
      | .int x :: r => nx ls (.int (x.toUInt32 % 65536).toInt32 :: r) h cs ss
      | _ => False
    | .dup => match st with
      | .int x :: r => nx ls (.int x :: .int x :: r) h cs ss
      | .ref x :: r => nx ls (.ref x :: .ref x :: r) h cs ss
      | _ => False
    | .dup2 => match st with
      | .int y :: .ref x :: r => nx ls (.int y :: .ref x :: .int y :: .ref x :: r) h cs ss
      | _ => False
    | .pop => match st with
      | .int _ :: r => nx ls r h cs ss
      | _ => False
    | .goto _ => jp b ls st h cs ss
    | .ifCond c _ => match st with
      | .int x :: r => match c with
        | .eq => if x = 0 then jp b ls r h cs ss else nx ls r h cs ss
        | .ne => if x = 0 then nx ls r h cs ss else jp b ls r h cs ss
        | .lt => if x < 0 then jp b ls r h cs ss else nx ls r h cs ss
        | .ge => if 0 ≤ x then jp b ls r h cs ss else nx ls r h cs ss
        | .gt => if 0 < x then jp b ls r h cs ss else nx ls r h cs ss
        | .le => if x ≤ 0 then jp b ls r h cs ss else nx ls r h cs ss
      | _ => False
    | .if_icmp c _ => match st with
      | .int y :: .int x :: r => match c with
        | .eq => if x = y then jp b ls r h cs ss else nx ls r h cs ss
        | .ne => if x = y then nx ls r h cs ss else jp b ls r h cs ss
        | .lt => if x < y then jp b ls r h cs ss else nx ls r h cs ss
        | .ge => if y ≤ x then jp b ls r h cs ss else nx ls r h cs ss
        | .gt => if y < x then jp b ls r h cs ss else nx ls r h cs ss
        | .le => if x ≤ y then jp b ls r h cs ss else nx ls r h cs ss
      | _ => False
    | .tableswitch df lo hi offs => match st with
      | .int x :: r => if x.toInt < lo ∨ hi < x.toInt then jp ((pc : Int) + df).toNat ls r h cs ss else xtab x (fun t => jp t ls r h cs ss) pc lo offs.toList
      | _ => False
    | .getfield _ => match st, h with
      | .ref o :: r, (sh, R, M) => match Nat.beq a 99 with
        | true => match Nat.ble 1100 o && Nat.blt o 1115, xXF o b with
          | true, some w => nx ls (w :: r) (sh, R, M) cs ss
          | _, _ => False
        | false => match sh[o]? with
          | some (kd, n) => match Nat.beq kd (3 + a) && Nat.blt b n with
            | true => match v with
              | .null => nx ls (xrv (R o b) :: r) (sh, R, M) cs ss
              | _ => nx ls (.int (M o b) :: r) (sh, R, M) cs ss
            | false => False
          | none => False
      | _, _ => False
    | .putfield _ => match st, h with
      | w :: .ref o :: r, (sh, R, M) => match sh[o]? with
          | some (kd, n) => match Nat.beq kd (3 + a) && Nat.blt b n with
            | true => xputS v w (fun x => nx ls r (sh, R, xup M o b x) cs ss) (fun q => nx ls r (sh, xrup R o b (some q), M) cs ss)
            | false => False
          | none => False
      | _, _ => False
    | .iaload => match st, h with
      | .int i :: .ref o :: r, (sh, R, M) => match sh[o]? with
        | some (kd, n) => match kd with
          | 0 => if i < 0 ∨ n ≤ i.toNatClampNeg then False else nx ls (.int (M o i.toNatClampNeg) :: r) (sh, R, M) cs ss
          | _ => False
        | none => match X o, Nat.blt o 1200 with
          | some (n, f), true => if i < 0 ∨ n ≤ i.toNatClampNeg then False else nx ls (.int (f i.toNatClampNeg) :: r) (sh, R, M) cs ss
          | _, _ => False
      | _, _ => False
    | .baload => match st, h with
      | .int i :: .ref o :: r, (sh, R, M) => match sh[o]? with
        | some _ => False
        | none => match X o, Nat.blt o 1200 with
          | some (n, f), false => if i < 0 ∨ n ≤ i.toNatClampNeg then False else nx ls (.int (f i.toNatClampNeg) :: r) (sh, R, M) cs ss
          | _, _ => False
      | _, _ => False
    | .aaload => match st, h with
      | .int i :: .ref o :: r, (sh, R, M) => match sh[o]? with
        | some (kd, n) => match Nat.beq kd 1 || Nat.beq kd 2 with
          | true => if i < 0 ∨ n ≤ i.toNatClampNeg then False else nx ls (xrv (R o i.toNatClampNeg) :: r) (sh, R, M) cs ss
          | false => False
        | none => False
      | _, _ => False
    | .iastore => match st, h with
      | .int x :: .int i :: .ref o :: r, (sh, R, M) => match sh[o]? with
        | some (kd, n) => match kd with
          | 0 => if i < 0 ∨ n ≤ i.toNatClampNeg then False else nx ls r (sh, R, xup M o i.toNatClampNeg x) cs ss
          | _ => False
        | none => False
      | _, _ => False
    | .aastore => match st, h with
      | .ref q :: .int i :: .ref o :: r, (sh, R, M) => match sh[o]? with
        | some (kd, n) => match kd with
          | 1 => match sh[q]? with
            | some (kq, _) => match Nat.beq kq 6 with
              | true => if i < 0 ∨ n ≤ i.toNatClampNeg then False else nx ls r (sh, xrup R o i.toNatClampNeg (some q), M) cs ss
              | false => False
            | none => False
          | 2 => match Nat.ble 1100 q && Nat.blt q 1115 with
            | true => if i < 0 ∨ n ≤ i.toNatClampNeg then False else nx ls r (sh, xrup R o i.toNatClampNeg (some q), M) cs ss
            | false => False
          | _ => False
        | none => False
      | _, _ => False
    | .arraylength => match st, h with
      | .ref o :: r, (sh, R, M) => match sh[o]? with
        | some (kd, n) => match Nat.blt kd 3 with
          | true => nx ls (.int (Int32.ofNat n) :: r) (sh, R, M) cs ss
          | false => False
        | none => match X o with
          | some (n, _) => nx ls (.int (Int32.ofNat n) :: r) (sh, R, M) cs ss
          | none => False
      | _, _ => False
    | .new _ => match h with
      | (sh, R, M) => (sh.length < 1000 ∧ cs + 1 ≤ mc ∧ ss + b ≤ ms) ∧ nx ls (.ref sh.length :: st) (sh ++ [(3 + a, b)], fun i => if i = sh.length then fun _ => none else R i, xrow M sh.length (fun _ => 0)) (cs + 1) (ss + b)
    | .newarray .int => match st, h with
      | .int i :: r, (sh, R, M) => (sh.length < 1000 ∧ ¬ i < 0 ∧ i.toNatClampNeg ≤ 1000 ∧ cs + 1 ≤ mc ∧ ss + i.toNatClampNeg ≤ ms) ∧ nx ls (.ref sh.length :: r) (sh ++ [(0, i.toNatClampNeg)], fun i => if i = sh.length then fun _ => none else R i, xrow M sh.length (fun _ => 0)) (cs + 1) (ss + i.toNatClampNeg)
      | _, _ => False
    | .anewarray _ => match st, h with
      | .int i :: r, (sh, R, M) => (sh.length < 1000 ∧ ¬ i < 0 ∧ i.toNatClampNeg ≤ 1000 ∧ cs + 1 ≤ mc ∧ ss + i.toNatClampNeg ≤ ms) ∧ nx ls (.ref sh.length :: r) (sh ++ [(a, i.toNatClampNeg)], fun i => if i = sh.length then fun _ => none else R i, xrow M sh.length (fun _ => 0)) (cs + 1) (ss + i.toNatClampNeg)
      | _, _ => False
    | .invokevirtual _ => match xpop b st [] with
      | some (as, r) => match Nat.ble (xcat r) 8 && xrecv h.1 v as && (Nat.ble (cs + (al a).1) mc && Nat.ble (ss + (al a).2) ms) with
        | true => K a as h (fun w h' => nx ls (xpush w r) h' (cs + (al a).1) (ss + (al a).2))
        | false => False
      | none => False
    | .invokespecial _ => match Nat.beq a 999, st with
      | true, .ref o :: r => match Nat.ble (xcat r) 8 && Nat.blt o 1000 with
        | true => nx ls r h cs ss
        | false => False
      | true, _ => False
      | false, _ => match xpop b st [] with
        | some (as, r) => match Nat.ble (xcat r) 8 && xint as && (Nat.ble (cs + (al a).1) mc && Nat.ble (ss + (al a).2) ms) with
          | true => K a as h (fun w h' => nx ls (xpush w r) h' (cs + (al a).1) (ss + (al a).2))
          | false => False
        | none => False
    | .invokestatic _ => match Nat.beq a 998 with
      | true => match st, h with
        | .int n :: .int dp :: .ref t :: .int sp :: .ref o :: r, (sh, R, M) => match sh[o]?, sh[t]?, Nat.ble (xcat r) 8 with
          | some (0, n0), some (0, n1), true => (¬ sp < 0 ∧ ¬ dp < 0 ∧ ¬ n < 0 ∧ sp.toNatClampNeg + n.toNatClampNeg ≤ n0 ∧ dp.toNatClampNeg + n.toNatClampNeg ≤ n1) ∧ nx ls r (sh, R, xrow M t (va_cpy (M o) (M t) sp.toNatClampNeg dp.toNatClampNeg n.toNatClampNeg)) cs ss
          | _, _, _ => False
        | _, _ => False
      | false => match Nat.beq a 996 with
        | true => match st with
          | .int y :: .int x :: r => match Nat.ble (xcat r) 8 with
            | true => nx ls (.int (if x < y then y else x) :: r) h cs ss
            | false => False
          | _ => False
        | false => match Nat.beq a 995 with
          | true => match st with
            | .int y :: .int x :: r => match Nat.ble (xcat r) 8 with
              | true => nx ls (.int (if y < x then y else x) :: r) h cs ss
              | false => False
            | _ => False
          | false => match Nat.beq a 997 with
            | true => False
            | false => match xpop b st [] with
              | some (as, r) => match Nat.ble (xcat r) 8 && (Nat.ble (cs + (al a).1) mc && Nat.ble (ss + (al a).2) ms) with
                | true => K a as h (fun w h' => nx ls (xpush w r) h' (cs + (al a).1) (ss + (al a).2))
                | false => False
              | none => False
    | .ireturn => match st with
      | .int x :: [] => match rt with
        | 1 => Q (some (.int x)) h
        | 2 => if x = 0 ∨ x = 1 then Q (some (.int x)) h else False
        | 3 => (narrow .char (.int x) = .int x) ∧ Q (some (.int x)) h
        | 4 => (narrow .byte (.int x) = .int x) ∧ Q (some (.int x)) h
        | _ => False
      | _ => False
    | .lreturn => match st, rt with
      | .long x :: [], 5 => Q (some (.long x)) h
      | _, _ => False
    | .return_ => match st, rt with
      | [], 0 => Q none h
      | _, _ => False
    | _ => False
def wpI (X : Nat → Option (Nat × (Nat → Int32))) (K : Nat → List Value → xH → (Option Value → xH → Prop) → Prop) (al : Nat → Nat × Nat) (mc ms rt : Nat) (Q : Option Value → xH → Prop) (back : Nat → xL → List Value → xH → Nat → Nat → Prop) (code : List xE) :
    Nat → Bool → List xE → xL → List Value → xH → Nat → Nat → Prop
  | 0, _, _, _, _, _, _, _ => False
  | _ + 1, _, [], _, _, _, _, _ => False
  | k + 1, s, e :: is, ls, st, h, cs, ss => match s, e.2.1 with
    | false, b :: m => back e.1 (xmask (b :: m) ls) st h cs ss
    | _, _ => x1 X K al mc ms rt Q (fun ls st h cs ss => wpI X K al mc ms rt Q back code k false is ls st h cs ss) (fun t ls st h cs ss => wpI X K al mc ms rt Q back code k false (xseek t code) ls st h cs ss) e ls st h cs ss
end
section
/-! What the small machine's data mean on the machine: addresses, cells, the tables' words. -/
abbrev xG : Type := Launch × Nat × Heap × va_G × (ClassId × ClassId × ClassId) × (Nat → Nat) × Value × Nat × (Nat → Int32)
def gL (G : xG) : Launch := G.1
def gB (G : xG) : Nat := G.2.1
def gH (G : xG) : Heap := G.2.2.1
def gD (G : xG) : va_G := G.2.2.2.1
def gI (G : xG) : ClassId := G.2.2.2.2.1.1
def gS (G : xG) : ClassId := G.2.2.2.2.1.2.1
def gT (G : xG) : ClassId := G.2.2.2.2.1.2.2
def gE (G : xG) : Nat → Nat := G.2.2.2.2.2.1
def gO (G : xG) : Value := G.2.2.2.2.2.2.1
def gN (G : xG) : Nat := G.2.2.2.2.2.2.2.1
def gX (G : xG) : Nat → Int32 := G.2.2.2.2.2.2.2.2
def xA (G : xG) : Nat → Prop := fun q => gB G ≤ q
def xad (G : xG) (r : Nat) : Nat := if r < 1000 then gB G + r else gE G r
def xcv (G : xG) : Value → Value
  | .ref r => if r = 1300 then gO G else .ref (xad G r)
  | v => v
def xce (G : xG) (R : Nat → Nat → Option Nat) (M : xM) (k : Nat) (q : Nat × Nat) : va_E := match q.1 with
  | 0 => .inl (gI G, q.2, .inl (M k))
  | 1 => .inl (gS G, q.2, .inr (.inr (.inr (.inr (fun j => (R k j).map (xad G))))))
  | 2 => .inl (gT G, q.2, .inr (.inr (.inr (.inr (fun j => (R k j).map (xad G))))))
  | ci + 3 => .inr (ci, (List.range q.2).map (fun j => if xisI ci j then .int (M k j) else va_rf ((R k j).map (xad G))))
def xRep (G : xG) (h : xH) (H : Heap) : Prop := (h.1.length ≤ 1000 ∧ ∀ (k j q : Nat), h.2.1 k j = some q → q ≠ 1300) ∧ H.size = gB G + h.1.length ∧ (∀ (k : Nat) (q : Nat × Nat), h.1[k]? = some q → va_at (gD G) vwCl (gB G + k, xce G h.2.1 h.2.2 k q) H) ∧
  (∀ (k : Nat) (q : Nat × Nat) (ci : Nat), h.1[k]? = some q → q.1 = ci + 3 → ∃ (C : String) (T : u_T), vwCl[ci]? = some (C, T, q.2)) ∧ ∀ q : Nat, q < gB G → H[q]? = (gH G)[q]?
def xprs (G : xG) (ls : xL) : List (Nat × Value) := (List.range ls.length).filterMap (fun i => (xget ls i).map (fun v => (i, xcv G v)))
theorem xget_lt : ∀ {ls : xL} {i : Nat} {v : Value}, xget ls i = some v → i < ls.length
  | [], _, _, h => by simp [xget] at h
  | _ :: _, 0, _, _ => by simp
  | _ :: l, i + 1, v, h => by
    have := xget_lt (ls := l) (i := i) (v := v) h
    simp; omega
theorem xget_set : ∀ (ls : xL) (a i : Nat) (v : Option Value), xget (xset ls a v) i = if i = a then (if a < ls.length then v else none) else xget ls i
  | [], a, i, v => by simp [xset, xget]
  | w :: l, 0, 0, v => by simp [xset, xget]
  | w :: l, 0, i + 1, v => by simp [xset, xget]
  | w :: l, a + 1, 0, v => by simp [xset, xget]
  | w :: l, a + 1, i + 1, v => by
    simp only [xset, xget, List.length_cons]
    rw [xget_set l a i v]
    simp
theorem xset_len : ∀ (ls : xL) (a : Nat) (v : Option Value), (xset ls a v).length = ls.length
  | [], _, _ => rfl
  | _ :: l, 0, _ => rfl
  | _ :: l, a + 1, v => by simp [xset, xset_len l a v]
theorem xnol_not : ∀ {ls : xL} {i : Nat} {v : Value}, xnol ls (i + 1) = true → xget ls i = some v → v.category = 1
  | [], _, _, _, h => by simp [xget] at h
  | w :: l, 0, v, hn, h => by
    simp only [xget] at h
    subst h
    cases v <;> first | rfl | (simp [xnol] at hn)
  | w :: l, i + 1, v, hn, h => by
    simp only [xget] at h
    refine xnol_not (ls := l) (i := i) ?_ h
    have e : xnol (w :: l) (i + 1 + 1) = xnol l (i + 1) := by
      cases w with
      | none => rfl
      | some w => cases w <;> rfl
    rw [← e]; exact hn
theorem mem_xprs {G : xG} {ls : xL} {q : Nat × Value} : q ∈ xprs G ls ↔ ∃ v, xget ls q.1 = some v ∧ q.2 = xcv G v := by
  unfold xprs
  rw [List.mem_filterMap]
  constructor
  · rintro ⟨i, -, h⟩
    cases hv : xget ls i with
    | none => rw [hv] at h; cases h
    | some v =>
      rw [hv] at h
      cases h
      exact ⟨v, hv, rfl⟩
  · rintro ⟨v, h1, h2⟩
    refine ⟨q.1, List.mem_range.mpr (xget_lt h1), ?_⟩
    rw [h1]
    simp [← h2]
theorem x_at {G : xG} {LS : Array Slot} {nL : Nat} {ls : xL} (h : lv_has LS nL (xprs G ls)) {i : Nat} {v : Value} (hv : xget ls i = some v) : LS[i]? = some (.val (xcv G v)) := h.2.2 (i, xcv G v) (mem_xprs.mpr ⟨v, hv, rfl⟩)
def xOk1 (v : Value) : Prop := v = .null ∨ ∃ a, v = .ref a
theorem xcv_cat {G : xG} (hO : xOk1 (gO G)) (v : Value) : (xcv G v).category = v.category := by
  cases v with
  | ref r =>
    simp only [xcv]
    by_cases h : r = 1300
    · rw [if_pos h]
      rcases hO with h1 | ⟨a, h1⟩ <;> rw [h1] <;> rfl
    · rw [if_neg h]; rfl
  | _ => rfl
theorem x_store1 {G : xG} (hO : xOk1 (gO G)) {LS : Array Slot} {nL : Nat} {ls : xL} {a : Nat} {v : Value} (hn : xnol ls a = true)
    (h : lv_has LS nL ((a, xcv G v) :: (xprs G ls).filter (fun q => !(q.1 == a) && !(q.1 + 1 == a && q.2.category == 2)))) : lv_has LS nL (xprs G (xset ls a (some v))) := by
  refine ⟨h.1, h.2.1, fun q hq => h.2.2 q ?_⟩
  obtain ⟨w, h1, h2⟩ := mem_xprs.mp hq
  rw [xget_set] at h1
  by_cases e : q.1 = a
  · rw [if_pos e] at h1
    split at h1
    · cases h1
      refine List.mem_cons.mpr (Or.inl ?_)
      cases q; simp at e h2 ⊢; exact ⟨e, h2⟩
    · cases h1
  · rw [if_neg e] at h1
    refine List.mem_cons_of_mem _ (List.mem_filter.mpr ⟨mem_xprs.mpr ⟨w, h1, h2⟩, ?_⟩)
    simp only [Bool.and_eq_true, Bool.not_eq_true', beq_eq_false_iff_ne, ne_eq, Bool.and_eq_false_iff]
    refine ⟨e, ?_⟩
    by_cases e2 : q.1 + 1 = a
    · right
      rw [h2, xcv_cat hO, xnol_not (by rw [e2]; exact hn) h1]
      decide
    · exact Or.inl e2
theorem x_store2 {G : xG} (hO : xOk1 (gO G)) {LS : Array Slot} {nL : Nat} {ls : xL} {a : Nat} {v : Value} (hn : xnol ls a = true)
    (h : lv_has LS nL ((a, xcv G v) :: (xprs G ls).filter (fun q => !(q.1 == a) && (!(q.1 == a + 1) && !(q.1 + 1 == a && q.2.category == 2))))) : lv_has LS nL (xprs G (xset (xset ls (a + 1) none) a (some v))) := by
  refine ⟨h.1, h.2.1, fun q hq => h.2.2 q ?_⟩
  obtain ⟨w, h1, h2⟩ := mem_xprs.mp hq
  rw [xget_set] at h1
  by_cases e : q.1 = a
  · rw [if_pos e] at h1
    split at h1
    · cases h1
      refine List.mem_cons.mpr (Or.inl ?_)
      cases q; simp at e h2 ⊢; exact ⟨e, h2⟩
    · cases h1
  · rw [if_neg e, xget_set] at h1
    by_cases e1 : q.1 = a + 1
    · rw [if_pos e1] at h1
      split at h1 <;> cases h1
    · rw [if_neg e1] at h1
      refine List.mem_cons_of_mem _ (List.mem_filter.mpr ⟨mem_xprs.mpr ⟨w, h1, h2⟩, ?_⟩)
      simp only [Bool.and_eq_true, Bool.not_eq_true', beq_eq_false_iff_ne, ne_eq, Bool.and_eq_false_iff]
      refine ⟨e, e1, ?_⟩
      by_cases e2 : q.1 + 1 = a
      · right
        rw [h2, xcv_cat hO, xnol_not (by rw [e2]; exact hn) h1]
        decide
      · exact Or.inl e2
theorem xget_mask : ∀ {mk : List Bool} {ls : xL} {i : Nat} {v : Value}, xget (xmask mk ls) i = some v → xget ls i = some v
  | true :: m, w :: l, 0, v, h => h
  | true :: m, w :: l, i + 1, v, h => xget_mask (mk := m) (ls := l) (i := i) h
  | false :: m, w :: l, 0, v, h => by simp [xmask, xget] at h
  | false :: m, w :: l, i + 1, v, h => xget_mask (mk := m) (ls := l) (i := i) h
  | [], [], i, v, h => by simp [xmask, xget] at h
  | [], _ :: _, i, v, h => by simp [xmask, xget] at h
  | true :: _, [], i, v, h => by simp [xmask, xget] at h
  | false :: _, [], i, v, h => by simp [xmask, xget] at h
theorem x_mask {G : xG} {LS : Array Slot} {nL : Nat} {ls : xL} {mk : List Bool} (h : lv_has LS nL (xprs G ls)) : lv_has LS nL (xprs G (xmask mk ls)) :=
  ⟨h.1, h.2.1, fun q hq => by
    obtain ⟨v, h1, h2⟩ := mem_xprs.mp hq
    exact h.2.2 q (mem_xprs.mpr ⟨v, xget_mask h1, h2⟩)⟩
end
section
/-! Rows for one instruction with the heap's size kept: stores, makings, the copy of a row. -/
def xGX (G : xG) (U : State) : Prop :=
  va_K (gD G) vwCl [(gI G, .int), (gS G, .object "EchoValley$Sheet"), (gT G, .object "java/lang/String")] U ∧ (∀ w ∈ xNest, va_Nw w U) ∧ (va_AO "EchoValley$Sheet" U ∧ va_AO "java/lang/String" U) ∧
  (∀ q ∈ xStr, vk_R q.1 q.2.1 q.2.2.1 (gE G q.2.2.2) U) ∧
  (∀ i : Nat, i < 15 → va_O "java/lang/String" (gE G (1100 + i)) (xA G) U (gH G) ∧ va_OF "java/lang/String" "coder" "B" (.int 0) (gE G (1100 + i)) (xA G) U (gH G) ∧ va_OF "java/lang/String" "value" "[B" (.ref (gE G (1200 + i))) (gE G (1100 + i)) (xA G) U (gH G) ∧ va_T .byte (gE G (1200 + i)) (xslen i) (fun j => .int (xsbyt i j)) (xA G) U (gH G)) ∧
  va_Z "EchoValley$Kinds" "ABOVE" "[I" (.ref (gE G 1001)) (xA G) U (gH G) ∧ va_T .int (gE G 1001) 7 (fun j => .int (xabove j)) (xA G) U (gH G) ∧
  va_Z "java/lang/String" "COMPACT_STRINGS" "Z" (.int 1) (xA G) U (gH G) ∧ va_Z "jdk/internal/util/Preconditions" "SIOOBE_FORMATTER" "Ljava/util/function/BiFunction;" (gO G) (xA G) U (gH G) ∧
  va_X (gE G 1000) (gN G) (gX G) U (gH G) ∧ gE G 1000 < gB G ∧ xOk1 (gO G) ∧ (gH G).size = gB G
theorem xNest_warm {w : Cond} (hw : xisNest w = true) {s U : State} (hW : s.WarmedH U.vm) (h : va_Nw w s) : va_Nw w U := by
  cases w <;> first | exact va_Nw.warmF hW h | exact va_Nw.warmM hW h | (simp [xisNest] at hw)
theorem xGX.warm {G : xG} {s U : State} (hW : s.WarmedH U.vm) (h : xGX G s) : xGX G U := by
  obtain ⟨h1, h2, ⟨h3, h3'⟩, h4, h5, h6, h7, h8, h9, h10, h11, h12, h13⟩ := h
  have ha := hW.alike
  refine ⟨va_K.moved ha h1, fun w hw => xNest_warm (List.mem_filter.mp hw).2 hW (h2 w hw), ⟨va_AO.moved ha h3, va_AO.moved ha h3'⟩, fun q hq => vk_R.warm hW (h4 q hq), fun i hi => ?_, va_Z.moved ha h6, va_T.moved ha h7, va_Z.moved ha h8, va_Z.moved ha h9, va_X.moved ha h10, h11, h12, h13⟩
  obtain ⟨a, b, c, d⟩ := h5 i hi
  exact ⟨va_O.moved ha a, va_OF.moved ha b, va_OF.moved ha c, va_T.moved ha d⟩
section XR
variable {p : Program} {l : Launch} {e : Env} {R : Room} {s : State} {m : MethodId} {args : Array Value} {below : List Frame} {meth : Method} {c : Code} {H : Heap} {locs : List Loc} {cells slots : Nat} {Q : State → Prop}
variable {cc : ByteArray} {pc : Nat} {ls : Array Slot} {rest : List Value} {D : va_G} {cl : List vw_C} {a : Nat} {tys : List (ClassId × FieldType)}
theorem x_put (hexec : p.tables.exec = Jvm.exec) (hb : c.code = cc) {own C : String} {T : u_T} {N ci index : Nat} {Ts : List Cond} (hts : ∀ w ∈ Ts, w.before args s = true) (hin : ∀ w ∈ u_ws C T N, w ∈ Ts) (ty0 : Nat → FieldType) (hty : ∀ k, k < N → parseFieldDescriptor (T k).2.2.1 = some (ty0 k)) (hnm : ∀ a, a < N → ∀ b, b < N → a ≠ b → (T a).2.1 ≠ (T b).2.1) (hown : s.vm.findClass own = some m.cls) (hK : va_K D cl tys s)
    {fs : List Value} (he : va_at D cl (a, .inr (ci, fs)) H) (hc : cl[ci]? = some (C, T, N)) (k : Nat) (hk : k < N)
    (hlink : (Cond.fieldLink own index (T k).1 (T k).2.1 (T k).2.2.1).before args s = true ∨ ∃ host, (Cond.fieldLinkNest own index (T k).1 (T k).2.1 (T k).2.2.1 host).before args s = true) (hfin : (T k).2.2.2 = false) {ty : FieldType} {v : Value} (hd : parseFieldDescriptor (T k).2.2.1 = some ty) (hn : narrow ty v = v) (hfit : fits ty v = true) (hl : k < fs.length)
    (hdg : decode cc pc = .ok (.putfield index, 3)) (kk : ∀ (H1 : Heap) (lo : Loc), lo.base = a → va_at D cl (a, .inr (ci, fs.set k v)) H1 → H1.size = H.size → (∀ q : Nat, q ≠ a → H1[q]? = H[q]?) → W p l e R s m args below meth c H1 (locs ++ [lo]) cells slots Q (F0 m (pc + 3) ls rest)) : W p l e R s m args below meth c H locs cells slots Q (F0 m pc ls (v :: .ref a :: rest)) := by
  have hap := va_apart (own := own) hts hin ty0 hty hnm hK hc
  obtain ⟨r, h1, cell, q1, q2, q3, q4⟩ := he
  have hr : r = (C, T, N) := Option.some.inj (h1.symm.trans hc)
  subst hr
  obtain ⟨hS, hfc, kC, hkC, hkind⟩ := hK.1 ci _ hc
  obtain ⟨cf, kf, fi, f, hi, hsl⟩ := hS k hk
  have hlay := hts _ (hin _ (u_in_lay hk))
  unfold u_lay at hlay
  rw [if_neg (by rw [hfin]; decide)] at hlay
  have hst := (u_facts hfc hkC (u_lays hts hin hk) hi).1
  have h6 := u_store hfc hkC hkind hlay hi hd hn hfit
  rcases hlink with hlink | ⟨host, hlink⟩
  · refine W.putK hexec hb (f := f) ⟨hown, hlink, ⟨_, _, _, hi⟩, hst⟩ (by rw [q2]; exact h6) q1 q3 (by rw [hsl]; exact k2_hasslot (q4 k hk)) rfl rfl hdg fun H' e1 e2 e3 => ?_
    rw [hsl] at e1 ⊢
    exact kk H' _ rfl ⟨_, hc, t_OB.to (V := updV (vp_V fs) k v) ⟨_, e1, q2, q3, t_set q4 hap hk v⟩ (fun j _ => vp_updV_set hl v j)⟩ e2 e3
  · refine va_WputK hexec hb (f := f) hown hlink hi hst (by rw [q2]; exact h6) q1 q3 (by rw [hsl]; exact k2_hasslot (q4 k hk)) rfl rfl hdg fun H' e1 e2 e3 => ?_
    rw [hsl] at e1 ⊢
    exact kk H' _ rfl ⟨_, hc, t_OB.to (V := updV (vp_V fs) k v) ⟨_, e1, q2, q3, t_set q4 hap hk v⟩ (fun j _ => vp_updV_set hl v j)⟩ e2 e3
theorem x_putF (hexec : p.tables.exec = Jvm.exec) (hb : c.code = cc) {own C : String} {T : u_T} {N ci index : Nat} {Ts : List Cond} (hts : ∀ w ∈ Ts, w.before args s = true) (hin : ∀ w ∈ u_ws C T N, w ∈ Ts) (ty0 : Nat → FieldType) (hty : ∀ k, k < N → parseFieldDescriptor (T k).2.2.1 = some (ty0 k)) (hnm : ∀ a, a < N → ∀ b, b < N → a ≠ b → (T a).2.1 ≠ (T b).2.1) (hown : s.vm.findClass own = some m.cls) (hK : va_K D cl tys s)
    {fs : List Value} (he : va_at D cl (a, .inr (ci, fs)) H) (hc : cl[ci]? = some (C, T, N)) (k : Nat) (hk : k < N)
    (hlink : (Cond.fieldLink own index (T k).1 (T k).2.1 (T k).2.2.1).before args s = true) (hfin : (T k).2.2.2 = true) (hin2 : meth.name = "<init>") (hdecl : (T k).1 = own) {ty : FieldType} {v : Value} (hd : parseFieldDescriptor (T k).2.2.1 = some ty) (hn : narrow ty v = v) (hfit : fits ty v = true) (hl : k < fs.length)
    (hdg : decode cc pc = .ok (.putfield index, 3)) (kk : ∀ (H1 : Heap) (lo : Loc), lo.base = a → va_at D cl (a, .inr (ci, fs.set k v)) H1 → H1.size = H.size → (∀ q : Nat, q ≠ a → H1[q]? = H[q]?) → W p l e R s m args below meth c H1 (locs ++ [lo]) cells slots Q (F0 m (pc + 3) ls rest)) : W p l e R s m args below meth c H locs cells slots Q (F0 m pc ls (v :: .ref a :: rest)) := by
  have hap := va_apart (own := own) hts hin ty0 hty hnm hK hc
  obtain ⟨r, h1, cell, q1, q2, q3, q4⟩ := he
  have hr : r = (C, T, N) := Option.some.inj (h1.symm.trans hc)
  subst hr
  obtain ⟨hS, hfc, kC, hkC, hkind⟩ := hK.1 ci _ hc
  obtain ⟨cf, kf, fi, f, hi, hsl⟩ := hS k hk
  have hlay := hts _ (hin _ (u_in_lay hk))
  unfold u_lay at hlay
  rw [if_pos hfin] at hlay
  have hst := (u_facts hfc hkC (u_lays hts hin hk) hi).1
  have hcf : m.cls = cf := by
    obtain ⟨_, _, c', _, _, _, -, -, hf', -, -, -, hown2, -⟩ := Cond.laysFinal_spec hlay
    have e1 : c' = cf := by have := hi.symm.trans hf'; simp at this; exact this.1.symm
    rw [hdecl] at hown2
    rw [← e1]; exact Option.some.inj (hown.symm.trans hown2)
  have h6 := u_fits hfc hkC hkind (Or.inr hlay) hi hd hn hfit
  refine W.putFinK hexec hb hown hlink hi hst hcf hin2 (by rw [q2]; exact h6) q1 q3 (by rw [hsl]; exact k2_hasslot (q4 k hk)) rfl rfl hdg fun H' e1 e2 e3 => ?_
  rw [hsl] at e1 ⊢
  exact kk H' _ rfl ⟨_, hc, t_OB.to (V := updV (vp_V fs) k v) ⟨_, e1, q2, q3, t_set q4 hap hk v⟩ (fun j _ => vp_updV_set hl v j)⟩ e2 e3
theorem x_iast (hexec : p.tables.exec = Jvm.exec) (hb : c.code = cc) (hK : va_K D cl tys s) (t0 : Nat) {cA : ClassId} {n : Nat} {f : Nat → Int32} (ha : va_at D cl (a, .inl (cA, n, .inl f)) H) (ht : tys[t0]? = some (cA, .int)) {i : Int32} {x : Int32} (hin : vp_in i n) (hdg : decode cc pc = .ok (.iastore, 1))
    (kk : ∀ (H1 : Heap) (lo : Loc), lo.base = a → va_at D cl (a, .inl (cA, n, .inl (upd f i.toNatClampNeg x))) H1 → H1.size = H.size → (∀ q : Nat, q ≠ a → H1[q]? = H[q]?) → W p l e R s m args below meth c H1 (locs ++ [lo]) cells slots Q (F0 m (pc + 1) ls rest)) : W p l e R s m args below meth c H locs cells slots Q (F0 m pc ls (.int x :: .int i :: .ref a :: rest)) := by
  refine W.iast hexec hb ha ((hK.2 t0 _ ht).1 n (fun j => .int (f j))) (fun q => by cases q) (by show ¬ (i < 0 ∨ (arrV _ _ _).slots.size ≤ _); rw [arrV_size]; exact hin) rfl rfl hdg fun H1 e z oq => ?_
  refine kk H1 _ rfl ?_ z oq
  show H1[a]? = some (vp_cell _ _)
  rw [e, vp_cell_i, vp_cell_i, arrV_store]
  congr 2
  funext q
  by_cases hq : q = i.toNatClampNeg
  · subst hq
    simp [updV, upd]
  · simp [updV, upd, hq]
theorem x_aast (hexec : p.tables.exec = Jvm.exec) (hb : c.code = cc) (hK : va_K D cl tys s) (t0 : Nat) {E : String} {cA : ClassId} {n v : Nat} {f : Nat → Option Nat} (ha : va_at D cl (a, .inl (cA, n, .inr (.inr (.inr (.inr f))))) H) (ht : tys[t0]? = some (cA, .object E))
    (hv : ∃ cell : Cell, H[v]? = some cell ∧ cell.vm.isStatics = false ∧ s.vm.findClass E = some cell.cls) {i : Int32} (hin : vp_in i n) (hdg : decode cc pc = .ok (.aastore, 1))
    (kk : ∀ (H1 : Heap) (lo : Loc), lo.base = a → va_at D cl (a, .inl (cA, n, .inr (.inr (.inr (.inr (va_up f i.toNatClampNeg (some v))))))) H1 → H1.size = H.size → (∀ q : Nat, q ≠ a → H1[q]? = H[q]?) → W p l e R s m args below meth c H1 (locs ++ [lo]) cells slots Q (F0 m (pc + 1) ls rest)) : W p l e R s m args below meth c H locs cells slots Q (F0 m pc ls (.ref v :: .int i :: .ref a :: rest)) := by
  have hlt : i.toNatClampNeg < n := Nat.not_le.mp fun q => hin (Or.inr q)
  have h0 : ¬ i < 0 := fun q => hin (Or.inl q)
  obtain ⟨cellV, g1, g2, g3⟩ := hv
  obtain ⟨kA, comp, k1, k2, k3, -⟩ := (hK.2 t0 _ ht).2
  have hcomp : comp = cellV.cls := Option.some.inj (k3.symm.trans g3)
  subst hcomp
  obtain ⟨kC, hkC, -⟩ := Vm.findClass_spec g3
  refine W.aast hexec hb ha (fun q h => by cases h) (fun h => by cases h) k1 k2 rfl hkC ⟨h0, by show _ < (arrV _ _ _).slots.size; rw [arrV_size]; exact hlt⟩ g1 (fun q h => by rw [h] at g2; cases g2) hkC (va_asg _ _) rfl rfl hdg fun H1 e z oq => ?_
  refine kk H1 _ rfl ?_ z oq
  show H1[a]? = some (vp_cell _ _)
  rw [e, vp_cell_q, vp_cell_q, arrV_store]
  congr 2
  funext q
  by_cases hq : q = i.toNatClampNeg
  · subst hq
    simp [updV, va_up, va_rf]
  · simp [updV, va_up, hq]
theorem x_copy (hexec : p.tables.exec = Jvm.exec) (hb : c.code = cc) (hml : c.maxLocals = ls.size) {own : String} {index : Nat} (hown : s.vm.findClass own = some m.cls) (hlink : (Cond.methodLink own index arraycopyName).before args s = true) (hnat : (Cond.native arraycopyName).before args s = true) (hstat : (Cond.static arraycopyName).before args s = true) (hini : (Cond.initialized "java/lang/System").before args s = true)
    (hK : va_K D cl tys s) (t0 : Nat) {a0 : Nat} {c0 : ClassId} {n0 n1 : Nat} {f g : Nat → Int32} (ha0 : va_at D cl (a0, .inl (c0, n0, .inl f)) H) (ha1 : va_at D cl (a, .inl (c0, n1, .inl g)) H) (ht0 : tys[t0]? = some (c0, .int))
    {sp dp n : Int32} (h1 : ¬ sp < 0) (h2 : ¬ dp < 0) (h3 : ¬ n < 0) (h4 : sp.toNatClampNeg + n.toNatClampNeg ≤ n0) (h5 : dp.toNatClampNeg + n.toNatClampNeg ≤ n1)
    (hframes : 1 ≤ R.frames) (hlocals : (rest.map fun v => v.category).sum + (nativeFrameWords "java/lang/System" "arraycopy" 5 + 11) ≤ R.locals) (hdg : decode cc pc = .ok (.invokestatic index, 3))
    (kk : ∀ (H1 : Heap) (L : List Loc), (∀ q ∈ L, q.base = a) → va_at D cl (a, .inl (c0, n1, .inl (va_cpy f g sp.toNatClampNeg dp.toNatClampNeg n.toNatClampNeg))) H1 → H1.size = H.size → (∀ q : Nat, q ≠ a → H1[q]? = H[q]?) → W p l e R s m args below meth c H1 (locs ++ L) cells slots Q (F0 m (pc + 3) ls rest)) : W p l e R s m args below meth c H locs cells slots Q (F0 m pc ls (.int n :: .int dp :: .ref a :: .int sp :: .ref a0 :: rest)) := by
  have nn : ∀ z : Int32, ¬ z < 0 → z.toInt = (z.toNatClampNeg : Int) := by
    intro z hz
    have hz0 : (0 : Int) ≤ z.toInt := by
      have := Int32.not_lt.mp hz
      simpa using Int32.le_iff_toInt_le.mp this
    show z.toInt = ((z.toInt.toNat : Nat) : Int)
    omega
  intro T hT X
  have hc0 : H[a0]? = some (vp_cell c0 (n0, .inl f)) := ha0
  have hc1 : H[a]? = some (vp_cell c0 (n1, .inl g)) := ha1
  obtain ⟨-, k0, hk0, cm0, hkk0⟩ := (hK.2 t0 _ ht0).1 n0 (fun j => .int (f j))
  obtain ⟨-, k1, hk1, cm1, hkk1⟩ := (hK.2 t0 _ ht0).1 n1 (fun j => .int (g j))
  obtain ⟨vm', X', step⟩ := X.arraycopy hexec hown hlink hnat hstat hini (src := a0) (dst := a) (cs := vp_cell c0 (n0, .inl f)) (cd := vp_cell c0 (n1, .inl g)) (srcPos := sp) (destPos := dp) (n := n) (by rw [hT]; exact hc0) (by rw [hT]; exact hc1)
    (fun _ h => by cases h) (fun _ h => by cases h) (fun h => by cases h) (fun h => by cases h) hk0 hk1 hkk0 hkk1 (by simp [refKind]) h1 h2 h3
    (by rw [nn sp h1, nn n h3]; show ¬ _ > ((arrV c0 n0 (fun j => .int (f j))).slots.size : Int); rw [arrV_size]; omega)
    (by rw [nn dp h2, nn n h3]; show ¬ _ > ((arrV c0 n1 (fun j => .int (g j))).slots.size : Int); rw [arrV_size]; omega)
    (fun vm₁ _ i hi => by
      have e : (vp_cell c0 (n0, .inl f)).slots.getD (sp.toNatClampNeg + i) .null = .int (f (sp.toNatClampNeg + i)) := by
        show (arrV c0 n0 (fun j => .int (f j))).slots.getD _ _ = _
        rw [Array.getD_eq_getD_getElem?, arrV_read _ _ (by omega)]
        rfl
      refine ⟨?_, ?_⟩
      · rw [e]
        rfl
      · rw [e]
        exact trivial)
    (g := F0 m pc ls (.int n :: .int dp :: .ref a :: .int sp :: .ref a0 :: rest)) rfl (by rw [hml]) (rest := rest) rfl (by rw [hb]; exact hdg) hframes (by show 2 * 0 + _ + _ ≤ _; omega)
  have e1 : copied (vp_cell c0 (n0, .inl f)) (vp_cell c0 (n1, .inl g)) sp dp n = vp_cell c0 (n1, .inl (va_cpy f g sp.toNatClampNeg dp.toNatClampNeg n.toNatClampNeg)) := va_copied (fun z => .int z) c0 c0 f g h4
  rw [e1] at X' step
  have hl : a < H.size := (Array.getElem?_eq_some_iff.mp hc1).1
  have hheap : ((T.setVm vm').setCell a (vp_cell c0 (n1, .inl (va_cpy f g sp.toNatClampNeg dp.toNatClampNeg n.toNatClampNeg)))).heap = H.setIfInBounds a (vp_cell c0 (n1, .inl (va_cpy f g sp.toNatClampNeg dp.toNatClampNeg n.toNatClampNeg))) := by rw [← hT]; rfl
  obtain ⟨t, a1, b1⟩ := kk _ _ (fun q hq => by
      obtain ⟨z, -, hz⟩ := List.mem_map.mp hq
      rw [← hz]) (show (H.setIfInBounds a _)[a]? = some _ by simp [Array.getElem?_setIfInBounds, hl]) (by simp) (fun q hq => by simp [Array.getElem?_setIfInBounds, Ne.symm hq]) _ hheap X'
  exact ⟨t, step t a1, b1⟩
theorem x_new (hexec : p.tables.exec = Jvm.exec) (hb : c.code = cc) {own C : String} {T : u_T} {N ci index : Nat} {Ts : List Cond} (hts : ∀ w ∈ Ts, w.before args s = true) (hin : ∀ w ∈ u_ws C T N, w ∈ Ts) (ty : Nat → FieldType) (hty : ∀ k, k < N → parseFieldDescriptor (T k).2.2.1 = some (ty k)) (hown : s.vm.findClass own = some m.cls) (hcl : (Cond.classLink own index C).before args s = true) (hinst : (Cond.instantiable C N).before args s = true) (hini : (Cond.initialized C).before args s = true)
    (hK : va_K D cl tys s) (hc : cl[ci]? = some (C, T, N)) {fs : List Value} (hfs : ∀ j, j < N → defaultValue (ty j) = vp_V fs j) (hcells : cells + 1 ≤ R.cells) (hslots : slots + N ≤ R.slots) (hdg : decode cc pc = .ok (.new index, 3))
    (kk : ∀ (H1 : Heap), va_at D cl (H.size, .inr (ci, fs)) H1 → H1.size = H.size + 1 → (∀ q : Nat, q < H.size → H1[q]? = H[q]?) → W p l e R s m args below meth c H1 locs (cells + 1) (slots + N) Q (F0 m (pc + 3) ls (.ref H.size :: rest))) : W p l e R s m args below meth c H locs cells slots Q (F0 m pc ls rest) := by
  have hKn := hK.1 ci _ hc
  refine W.newcK hexec hb hown hcl hinst hini rfl hdg hcells hslots hKn.2.1 rfl fun H1 kC hkC e1 z1 o1 => ?_
  exact kk H1 ⟨_, hc, (u_born ty hts hin hKn hkC e1 hty).to hfs⟩ z1 o1
theorem x_newa (hexec : p.tables.exec = Jvm.exec) (hb : c.code = cc) (harr : (Cond.arrayClass .int).before args s = true) (hK : va_K D cl tys s) (t0 : Nat) {cA : ClassId} (ht : tys[t0]? = some (cA, .int))
    {n : Int32} {N : Nat} (hn : ¬ n < 0) (hN : n.toNatClampNeg = N) (hs : N ≤ 1000) (hcells : cells + 1 ≤ R.cells) (hslots : slots + N ≤ R.slots) (hdg : decode cc pc = .ok (.newarray .int, 2))
    (kk : ∀ (H1 : Heap), va_at D cl (H.size, .inl (cA, N, .inl (fun _ => 0))) H1 → H1.size = H.size + 1 → (∀ q : Nat, q < H.size → H1[q]? = H[q]?) → W p l e R s m args below meth c H1 locs (cells + 1) (slots + N) Q (F0 m (pc + 2) ls (.ref H.size :: rest))) : W p l e R s m args below meth c H locs cells slots Q (F0 m pc ls (.int n :: rest)) := by
  refine va_newaK (atype := .int) hexec hb harr rfl hdg rfl hn hN (by show N * 4 ≤ 536870912; omega) hcells hslots rfl fun H1 cA' e1 z1 o1 hAr hNm => ?_
  have h2 : s.vm.findClass ("[" ++ FieldType.int.toString) = some cA := (hK.2 t0 _ ht).2
  have e : cA' = cA := Option.some.inj (hNm.symm.trans h2)
  subst e
  exact kk H1 e1 z1 o1
theorem x_anewa (hexec : p.tables.exec = Jvm.exec) (hb : c.code = cc) {own E : String} {index : Nat} (hown : s.vm.findClass own = some m.cls) (hcl : (Cond.classLink own index E).before args s = true) (hao : va_AO E s) (hK : va_K D cl tys s) (t0 : Nat) {cA : ClassId} (ht : tys[t0]? = some (cA, .object E))
    {n : Int32} {N : Nat} (hn : ¬ n < 0) (hN : n.toNatClampNeg = N) (hs : N ≤ 1000) (hcells : cells + 1 ≤ R.cells) (hslots : slots + N ≤ R.slots) (hdg : decode cc pc = .ok (.anewarray index, 3))
    (kk : ∀ (H1 : Heap), va_at D cl (H.size, .inl (cA, N, .inr (.inr (.inr (.inr (fun _ => none)))))) H1 → H1.size = H.size + 1 → (∀ q : Nat, q < H.size → H1[q]? = H[q]?) → W p l e R s m args below meth c H1 locs (cells + 1) (slots + N) Q (F0 m (pc + 3) ls (.ref H.size :: rest))) : W p l e R s m args below meth c H locs cells slots Q (F0 m pc ls (.int n :: rest)) := by
  subst hN
  intro T hT X
  subst hT; subst hb
  obtain ⟨vm₁, cA', kA, comp, -, h1, h2, h3, h4, X', st⟩ := X.anewarrayRef hexec hown hcl hao.use (g := F0 m pc ls (.int n :: rest)) rfl hdg rfl hn (by omega) hcells hslots
  obtain ⟨-, -, -, -, -, h5⟩ := (hK.2 t0 _ ht).2
  have e : cA' = cA := Option.some.inj (h1.symm.trans h5)
  subst e
  have hcell : (T.heap.push { cls := cA', slots := Array.replicate n.toNatClampNeg Value.null, vm := .none })[T.heap.size]? = some (vp_cell cA' (n.toNatClampNeg, .inr (.inr (.inr (.inr (fun _ => none)))))) := by
    show _ = some (arrV cA' n.toNatClampNeg (fun _ => Value.null))
    rw [← arrV_new]; simp
  obtain ⟨t, a1, b1⟩ := kk _ hcell (by simp) (fun q hq => by rw [Array.getElem?_push, if_neg (Nat.ne_of_lt hq)]) _ (by rfl) X'
  exact ⟨t, st t a1, b1⟩
end XR
end
section
/-! ONE INSTRUCTION of the small machine is one of the machine. -/
def xCx (G : xG) (p : Program) (R : Room) (s : State) (m : MethodId) (args : Array Value) (c : Code) (cc : ByteArray) (nL : Nat) (own : String) : Prop :=
  p.tables.exec = Jvm.exec ∧ c.code = cc ∧ c.maxLocals = nL ∧ s.vm.findClass own = some m.cls ∧ (∀ w ∈ xGood, w.before args s = true) ∧ xGX G s ∧ (gB G ≤ s.heap.size ∧ ∀ q : Nat, q < gB G → s.heap[q]? = (gH G)[q]?) ∧ 1 ≤ R.frames ∧ 30 ≤ R.locals
def xSt (G : xG) (s : State) (nL mc ms : Nat) (h : xH) (ls : xL) (cs ss : Nat) (H : Heap) (locs : List Loc) (LS : Array Slot) : Prop :=
  xRep G h H ∧ lv_has LS nL (xprs G ls) ∧ (∀ q ∈ locs, gB G ≤ q.base) ∧ s.heap.size ≤ H.size ∧ cs ≤ mc ∧ ss ≤ ms
def xGo (G : xG) (p : Program) (e : Env) (R : Room) (s : State) (m : MethodId) (args : Array Value) (below : List Frame) (meth : Method) (c : Code) (nL mc ms : Nat) (Qf : State → Prop) (pc : Nat) (nx : xL → List Value → xH → Nat → Nat → Prop) : Prop :=
  ∀ (ls : xL) (st : List Value) (h : xH) (cs ss : Nat) (H : Heap) (locs : List Loc) (LS : Array Slot), nx ls st h cs ss → xSt G s nL mc ms h ls cs ss H locs LS → W p (gL G) e R s m args below meth c H locs cs ss Qf (F0 m pc LS (st.map (xcv G)))
theorem x_old {G : xG} {h : xH} {H : Heap} {locs : List Loc} (hr : xRep G h H) (hH : (gH G).size = gB G) (hl : ∀ q ∈ locs, gB G ≤ q.base) : va_S (xA G) (gH G) H locs :=
  ⟨by rw [hH, hr.2.1]; omega, fun q h1 _ => hr.2.2.2.2 q (by rw [← hH]; exact h1), hl⟩
theorem x_oldS {G : xG} {s : State} {h : xH} {H : Heap} {locs : List Loc} (hr : xRep G h H) (hs : gB G ≤ s.heap.size ∧ ∀ q : Nat, q < gB G → s.heap[q]? = (gH G)[q]?) (hz : s.heap.size ≤ H.size) (hl : ∀ q ∈ locs, gB G ≤ q.base) : va_S (xA G) s.heap H locs :=
  ⟨hz, fun q _ h2 => by
    have h3 : q < gB G := Nat.not_le.mp h2
    rw [hr.2.2.2.2 q h3, hs.2 q h3], hl⟩
theorem x_keptS {G : xG} {s : State} (hH : (gH G).size = gB G) (hs : gB G ≤ s.heap.size ∧ ∀ q : Nat, q < gB G → s.heap[q]? = (gH G)[q]?) : ∀ a : Nat, a < (gH G).size → ¬ xA G a → s.heap[a]? = (gH G)[a]? := fun a h1 _ => hs.2 a (by rw [← hH]; exact h1)
/-- a cell of the picture -/
theorem x_cell {G : xG} {sh : List (Nat × Nat)} {Rf : Nat → Nat → Option Nat} {M : xM} {H : Heap} (hr : xRep G (sh, Rf, M) H) {o : Nat} {q : Nat × Nat} (ho : sh[o]? = some q) : va_at (gD G) vwCl (gB G + o, xce G Rf M o q) H ∧ xad G o = gB G + o ∧ o < sh.length := by
  have hl := (List.getElem?_eq_some_iff.mp ho).1
  have h1 := hr.1.1
  simp only at h1
  refine ⟨hr.2.2.1 o q ho, ?_, hl⟩
  unfold xad
  rw [if_pos (by omega)]
theorem x_ref {G : xG} {o : Nat} (h : o < 1000) : xcv G (.ref o) = .ref (gB G + o) := by
  show (if o = 1300 then gO G else Value.ref (if o < 1000 then gB G + o else gE G o)) = _
  rw [if_neg (by omega), if_pos h]
theorem x_refX {G : xG} {o : Nat} (h : 1000 ≤ o) (h2 : o < 1300) : xcv G (.ref o) = .ref (gE G o) := by
  show (if o = 1300 then gO G else Value.ref (if o < 1000 then gB G + o else gE G o)) = _
  rw [if_neg (by omega), if_neg (by omega)]
theorem x_sh {G : xG} {h : xH} {H : Heap} (hr : xRep G h H) {o : Nat} {q : Nat × Nat} (ho : h.1[o]? = some q) : xcv G (.ref o) = .ref (gB G + o) := x_ref (by
  have hl := (List.getElem?_eq_some_iff.mp ho).1
  have h1 := hr.1.1
  omega)
/-- a picture in which one cell has changed -/
theorem x_repU {G : xG} {sh : List (Nat × Nat)} {Rf R1 : Nat → Nat → Option Nat} {M M1 : xM} {H H1 : Heap} (hr : xRep G (sh, Rf, M) H) {o : Nat} {q : Nat × Nat} (ho : sh[o]? = some q) (hc : va_at (gD G) vwCl (gB G + o, xce G R1 M1 o q) H1) (hz : H1.size = H.size) (hq : ∀ a : Nat, a ≠ gB G + o → H1[a]? = H[a]?)
    (hR : ∀ i, i ≠ o → R1 i = Rf i) (hM : ∀ i, i ≠ o → M1 i = M i) (hN : ∀ (k j q : Nat), R1 k j = some q → q ≠ 1300) : xRep G (sh, R1, M1) H1 := by
  refine ⟨⟨hr.1.1, hN⟩, by rw [hz]; exact hr.2.1, fun k q' hk => ?_, hr.2.2.2.1, fun a ha => ?_⟩
  · by_cases e : k = o
    · subst e
      cases hk.symm.trans ho
      exact hc
    · have h1 := hr.2.2.1 k q' hk
      have e1 : xce G R1 M1 k q' = xce G Rf M k q' := by
        unfold xce
        rw [hR k e, hM k e]
      show va_at (gD G) vwCl (gB G + k, xce G R1 M1 k q') H1
      rw [e1]
      exact h1.kept (hq _ (by show gB G + k ≠ gB G + o; omega))
  · rw [hq a (by omega)]
    exact hr.2.2.2.2 a ha
/-- a picture with one more cell -/
theorem x_repN {G : xG} {sh : List (Nat × Nat)} {Rf R1 : Nat → Nat → Option Nat} {M M1 : xM} {H H1 : Heap} (hr : xRep G (sh, Rf, M) H) {q : Nat × Nat} (hlt : sh.length < 1000) (hc : va_at (gD G) vwCl (H.size, xce G R1 M1 sh.length q) H1) (hz : H1.size = H.size + 1) (hq : ∀ a : Nat, a < H.size → H1[a]? = H[a]?)
    (hR : ∀ i, i ≠ sh.length → R1 i = Rf i) (hM : ∀ i, i ≠ sh.length → M1 i = M i) (hk : ∀ ci, q.1 = ci + 3 → ∃ (C : String) (T : u_T), vwCl[ci]? = some (C, T, q.2)) (hN : ∀ (k j q : Nat), R1 k j = some q → q ≠ 1300) : xRep G (sh ++ [q], R1, M1) H1 := by
  have hs := hr.2.1
  simp only at hs
  have key : ∀ (k : Nat) (q' : Nat × Nat), (sh ++ [q])[k]? = some q' → (k < sh.length ∧ sh[k]? = some q') ∨ (k = sh.length ∧ q' = q) := by
    intro k q' h
    by_cases hl : k < sh.length
    · rw [List.getElem?_append_left hl] at h
      exact Or.inl ⟨hl, h⟩
    · rw [List.getElem?_append_right (by omega)] at h
      have hz : k - sh.length < 1 := (List.getElem?_eq_some_iff.mp h).1
      have hk0 : k = sh.length := by omega
      subst hk0
      rw [Nat.sub_self] at h
      cases h
      exact Or.inr ⟨rfl, rfl⟩
  refine ⟨⟨by simp; omega, hN⟩, by rw [hz, hs]; simp; omega, fun k q' h => ?_, fun k q' ci h hci => ?_, fun a ha => ?_⟩
  · rcases key k q' h with ⟨hl, h1⟩ | ⟨hl, h1⟩
    · have h2 := hr.2.2.1 k q' h1
      have e1 : xce G R1 M1 k q' = xce G Rf M k q' := by
        unfold xce
        rw [hR k (by omega), hM k (by omega)]
      show va_at (gD G) vwCl (gB G + k, xce G R1 M1 k q') H1
      rw [e1]
      exact h2.kept (hq _ (by show gB G + k < H.size; omega))
    · subst hl; subst h1
      rw [← hs]
      exact hc
  · rcases key k q' h with ⟨hl, h1⟩ | ⟨hl, h1⟩
    · exact hr.2.2.2.1 k q' ci h1 hci
    · subst h1
      exact hk ci hci
  · rw [hq a (by rw [hs]; omega)]
    exact hr.2.2.2.2 a ha
theorem xcat_eq {G : xG} (hO : xOk1 (gO G)) : ∀ st : List Value, ((st.map (xcv G)).map fun v => v.category).sum = xcat st
  | [] => rfl
  | v :: l => by
    have ih := xcat_eq hO l
    rw [List.map_cons, List.map_cons, List.sum_cons, ih, xcv_cat hO]
    cases v <;> simp [xcat, Value.category] <;> omega
theorem xpop_eq : ∀ (n : Nat) (st acc as r : List Value), xpop n st acc = some (as, r) → as.reverse ++ r = acc.reverse ++ st ∧ as.length = n + acc.length
  | 0, st, acc, as, r, h => by cases h; exact ⟨rfl, by omega⟩
  | n + 1, [], acc, as, r, h => by cases h
  | n + 1, v :: st, acc, as, r, h => by
    obtain ⟨h1, h2⟩ := xpop_eq n st (v :: acc) as r h
    refine ⟨by rw [h1]; simp, by rw [h2]; simp; omega⟩
def xClsOk (ci : Nat) (q : vw_C) : Prop := (∀ w ∈ u_ws q.1 q.2.1 q.2.2, w ∈ xGood) ∧ (∃ ty0 : Nat → FieldType, (∀ k, k < q.2.2 → parseFieldDescriptor (q.2.1 k).2.2.1 = some (ty0 k)) ∧ ∀ k, k < q.2.2 → defaultValue (ty0 k) = if xisI ci k then .int 0 else .null) ∧ (∀ a, a < q.2.2 → ∀ b, b < q.2.2 → a ≠ b → (q.2.1 a).2.1 ≠ (q.2.1 b).2.1) ∧ Cond.instantiable q.1 q.2.2 ∈ xGood ∧ Cond.initialized q.1 ∈ xGood

theorem xcls_0 : xClsOk 0 (RX1, TX1, 1) := ⟨by decide +kernel, ⟨tyX1, tyX1_ok, by decide +kernel⟩, nmX1, by decide +kernel, by decide +kernel⟩
theorem xcls_1 : xClsOk 1 (RX2, TX2, 6) := ⟨by decide +kernel, ⟨tyX2, tyX2_ok, by decide +kernel⟩, nmX2, by decide +kernel, by decide +kernel⟩
theorem xcls_2 : xClsOk 2 (RX3, TX3, 7) := ⟨by decide +kernel, ⟨tyX3, tyX3_ok, by decide +kernel⟩, nmX3, by decide +kernel, by decide +kernel⟩
theorem xcls_3 : xClsOk 3 (RX4, TX4, 3) := ⟨by decide +kernel, ⟨tyX4, tyX4_ok, by decide +kernel⟩, nmX4, by decide +kernel, by decide +kernel⟩
theorem xcls_4 : xClsOk 4 (RX5, TX5, 8) := ⟨by decide +kernel, ⟨tyX5, tyX5_ok, by decide +kernel⟩, nmX5, by decide +kernel, by decide +kernel⟩
theorem xcls_5 : xClsOk 5 (RX6, TX6, 4) := ⟨by decide +kernel, ⟨tyX6, tyX6_ok, by decide +kernel⟩, nmX6, by decide +kernel, by decide +kernel⟩
theorem xcls_6 : xClsOk 6 (RX7, TX7, 1) := ⟨by decide +kernel, ⟨tyX7, tyX7_ok, by decide +kernel⟩, nmX7, by decide +kernel, by decide +kernel⟩
theorem xcls_7 : xClsOk 7 (RX8, TX8, 8) := ⟨by decide +kernel, ⟨tyX8, tyX8_ok, by decide +kernel⟩, nmX8, by decide +kernel, by decide +kernel⟩
theorem xcls_8 : xClsOk 8 (RX9, TX9, 24) := ⟨by decide +kernel, ⟨tyX9, tyX9_ok, by decide +kernel⟩, nmX9, by decide +kernel, by decide +kernel⟩
theorem xcls_ok {ci : Nat} {q : vw_C} (h : vwCl[ci]? = some q) : xClsOk ci q := by
  match ci, h with
  | 0, h => cases h; exact xcls_0
  | 1, h => cases h; exact xcls_1
  | 2, h => cases h; exact xcls_2
  | 3, h => cases h; exact xcls_3
  | 4, h => cases h; exact xcls_4
  | 5, h => cases h; exact xcls_5
  | 6, h => cases h; exact xcls_6
  | 7, h => cases h; exact xcls_7
  | 8, h => cases h; exact xcls_8
  | n + 9, h => simp [vwCl] at h

def xPc (G : xG) (as : List Value) (h : xH) : Array Value → State → Prop := fun v U => v = (as.map (xcv G)).toArray ∧ xGX G U ∧ xRep G h U.heap
def xQc (G : xG) (Q : Option Value → xH → Prop) : Array Value → State → Outcome → State → Prop := fun _ st o t => st.heap.size ≤ t.heap.size ∧ ∃ (w : Option Value) (h : xH), o = .returned (w.map (xcv G)) ∧ Q w h ∧ xRep G h t.heap
def xrm (d a : Nat) : Room := { frames := d + 1, cells := (xal a).1, slots := (xal a).2, locals := 30 * (d + 1) }
/-- a callee, by its number, at the depth d -/
def xMt (G : xG) (d a : Nat) (as : List Value) (h : xH) (Q : Option Value → xH → Prop) : Prop := ∃ (y : MethodName) (bytes : ByteArray) (maxL : Nat) (ret : Option FieldType), xT[a]? = some (y, bytes, maxL, ret) ∧ Met (gL G) y (.code y bytes maxL ret :: xGood) (xrm d a) (xPc G as h) (xQc G Q) (xal a).1 (xal a).2 (xA G)
theorem xPc_blind {G : xG} {as : List Value} {h : xH} : FrameBlind (xPc G as h) := fun a U g mk q => ⟨q.1, q.2.1.warm (State.WarmedH.refl U), q.2.2⟩
def xTok (i : Nat) (q : MethodName × ByteArray × Nat × Option FieldType) (r : Nat × Nat × Nat × Nat) : Bool :=
  decide (lw_tbl[r.2.1]? = some (.initialized q.1.cls)) && decide (q.2.2.1 ≤ 9) && decide (q.1.cls ≠ "java/lang/invoke/MethodHandle" ∧ q.1.cls ≠ "java/lang/invoke/VarHandle") && goodWord (.initialized q.1.cls) && (match i with
    | 0 => decide (lw_tbl[r.2.2.1]? = some (.static q.1)) && goodWord (.static q.1)
    | 1 => decide (lw_tbl[r.2.2.1]? = some (.instanceMethod q.1)) && goodWord (.instanceMethod q.1) && decide (lw_tbl[r.2.2.2]? = some (.selects q.1.cls q.1 q.1)) && goodWord (.selects q.1.cls q.1 q.1)
    | 2 => decide (lw_tbl[r.2.2.1]? = some (.instanceMethod q.1)) && goodWord (.instanceMethod q.1) && decide (q.1.name = "<init>") && decide (q.2.2.2 = none)
    | _ => false)
def xTall (n : Nat) : Nat → Bool
  | 0 => true
  | k + 1 => xTall n k && (match xT[n + k]?, xMp[n + k]? with
    | some q, some r => xTok (xnth 9 xKd (n + k)) q r
    | _, _ => true)
set_option maxRecDepth 100000 in
theorem xTall_0 : xTall 0 60 = true := by decide +kernel
set_option maxRecDepth 100000 in
theorem xTall_1 : xTall 60 60 = true := by decide +kernel
set_option maxRecDepth 100000 in
theorem xTall_2 : xTall 120 60 = true := by decide +kernel
set_option maxRecDepth 100000 in
theorem xTall_3 : xTall 180 59 = true := by decide +kernel
theorem xTall_at (n : Nat) : ∀ (k : Nat), xTall n k = true → ∀ i, n ≤ i → i < n + k → ∀ q r, xT[i]? = some q → xMp[i]? = some r → xTok (xnth 9 xKd i) q r = true
  | 0, _, i, h1, h2, _, _, _, _ => absurd h1 (by omega)
  | k + 1, h, i, h1, h2, q, r, hq, hr => by
    simp only [xTall, Bool.and_eq_true] at h
    rcases Nat.lt_or_ge i (n + k) with h3 | h3
    · exact xTall_at n k h.1 i h1 h3 q r hq hr
    · have e : i = n + k := by omega
      subst e
      have h2 := h.2
      rw [hq, hr] at h2
      exact h2
theorem xT_len : xT.length = 239 := by decide +kernel
theorem xMp_len : xMp.length = 239 := by decide +kernel
theorem xTc : xMp.map (fun r => lw_tbl[r.1]?) = xT.map (fun q => some (.code q.1 q.2.1 q.2.2.1 q.2.2.2)) := by
  unfold xMp xT
  simp only [List.map_append, xTc_0, xTc_1, xTc_2, xTc_3]
theorem xT_at {a : Nat} {q : MethodName × ByteArray × Nat × Option FieldType} (h : xT[a]? = some q) : ∃ r, xTok (xnth 9 xKd a) q r = true ∧ lw_tbl[r.1]? = some (.code q.1 q.2.1 q.2.2.1 q.2.2.2) := by
  have hl := (List.getElem?_eq_some_iff.mp h).1
  rw [xT_len] at hl
  have h2 : xMp[a]? = some (xMp[a]'(by rw [xMp_len]; exact hl)) := List.getElem?_eq_getElem _
  generalize (xMp[a]'(by rw [xMp_len]; exact hl)) = r at h2
  refine ⟨r, ?_, ?_⟩
  · rcases Nat.lt_or_ge a 60 with h3 | h3
    · exact xTall_at 0 60 xTall_0 a (by omega) (by omega) _ _ h h2
    · rcases Nat.lt_or_ge a 120 with h4 | h4
      · exact xTall_at 60 60 xTall_1 a h3 (by omega) _ _ h h2
      · rcases Nat.lt_or_ge a 180 with h5 | h5
        · exact xTall_at 120 60 xTall_2 a h4 (by omega) _ _ h h2
        · exact xTall_at 180 59 xTall_3 a h5 (by omega) _ _ h h2
  · have h3 : (xMp.map (fun r => lw_tbl[r.1]?))[a]? = (xT.map (fun q => some (Cond.code q.1 q.2.1 q.2.2.1 q.2.2.2)))[a]? := by rw [xTc]
    rw [List.getElem?_map, List.getElem?_map, h, h2] at h3
    exact Option.some.inj h3
theorem xgood_mem {p : Nat} {w : Cond} (h : lw_tbl[p]? = some w) (hg : goodWord w = true) : w ∈ xGood := List.mem_filter.mpr ⟨List.mem_of_getElem? h, hg⟩
theorem xgood_in {w : Cond} (h : w ∈ xGood) : GoodIn xGood (w :: xGood) := by
  have key : ∀ v ∈ xGood, v ∈ xGood ∧ ((v.onTables && v.keeps) = true ∨ ∃ ty, v = .arrayClass ty) := fun v hv => ⟨hv, good_of_word (List.mem_filter.mp hv).2⟩
  intro v hv
  rcases List.mem_cons.mp hv with rfl | hv
  · exact key _ h
  · exact key _ hv
theorem xpush_map {G : xG} (w : Option Value) (r : List Value) : (xpush w r).map (xcv G) = (w.map (xcv G)).toList ++ r.map (xcv G) := by
  cases w <;> rfl
section XS
variable {G : xG} {p : Program} {e : Env} {R : Room} {s : State} {m : MethodId} {args : Array Value} {below : List Frame} {meth : Method} {c : Code} {cc : ByteArray} {nL mc ms : Nat} {own : String} {Qf : State → Prop} {pc : Nat} {ls : xL} {h : xH} {cs ss : Nat} {H : Heap} {locs : List Loc} {LS : Array Slot}
/-- behind a call -/
theorem x_after {d a : Nat} {r : List Value} {avs : Array Value} {Q : Option Value → xH → Prop} {st0 : List Value} {nx : xL → List Value → xH → Nat → Nat → Prop} (hS : xSt G s nL mc ms h ls cs ss H locs LS) (hb1 : cs + (xal a).1 ≤ mc) (hb2 : ss + (xal a).2 ≤ ms) (hnx : xGo G p e R s m args below meth c nL mc ms Qf (pc + 3) nx)
    (hQ : Q = fun w h' => nx ls (xpush w r) h' (cs + (xal a).1) (ss + (xal a).2))
    (hr : va_Run p (gL G) e R s m args below meth c H locs cs ss (xal a).1 (xal a).2 (F0 m pc LS st0) (r.map (xcv G)) (xQc G Q avs) (xA G)) : W p (gL G) e R s m args below meth c H locs cs ss Qf (F0 m pc LS st0) := by
  subst hQ
  intro T hT X
  obtain ⟨v, st₀, t, T', L, h0, X', hL, e1, e2, ⟨hz, w, h', hv, hq, hrep⟩, st⟩ := hr T hT X
  cases hv
  have hk := hnx ls (xpush w r) h' (cs + (xal a).1) (ss + (xal a).2) T'.heap (locs ++ L) LS hq ⟨by rw [e1]; exact hrep, hS.2.1, fun q hq' => by
      rcases List.mem_append.mp hq' with h1 | h1
      · exact hS.2.2.1 q h1
      · exact hL q h1, by rw [e1]; rw [h0] at hz; exact Nat.le_trans hS.2.2.2.1 hz, hb1, hb2⟩
  obtain ⟨t2, a1, b1⟩ := hk T' rfl X'
  refine ⟨t2, st t2 ?_, b1⟩
  rw [xpush_map] at a1
  exact a1
theorem x_room {d a maxL : Nat} (hR : d + 2 ≤ R.frames ∧ 28 + 30 * (d + 1) ≤ R.locals) (hm : maxL ≤ 9) : (xrm d a).frames + 1 ≤ R.frames ∧ 8 + (maxL + 11) + (xrm d a).locals ≤ R.locals := ⟨by show d + 1 + 1 ≤ _; omega, by show 8 + (maxL + 11) + 30 * (d + 1) ≤ _; omega⟩
theorem x_callS {d a b idx : Nat} {pp : List (Nat × Nat)} {st as r : List Value} {Q : Option Value → xH → Prop} {nx : xL → List Value → xH → Nat → Nat → Prop} (C : xCx G p R s m args c cc nL own) (hR : d + 2 ≤ R.frames ∧ 28 + 30 * (d + 1) ≤ R.locals) (hRc : R.cells = mc ∧ R.slots = ms) (hS : xSt G s nL mc ms h ls cs ss H locs LS) (hb1 : cs + (xal a).1 ≤ mc) (hb2 : ss + (xal a).2 ≤ ms) (hnx : xGo G p e R s m args below meth c nL mc ms Qf (pc + 3) nx)
    (hok : xcal pp own idx a 0 b = true) (hdg : decode cc pc = .ok (.invokestatic idx, 3)) (hp : xpop b st [] = some (as, r)) (hcat : xcat r ≤ 8) (hK : xMt G d a as h Q) (hQ : Q = fun w h' => nx ls (xpush w r) h' (cs + (xal a).1) (ss + (xal a).2)) :
    W p (gL G) e R s m args below meth c H locs cs ss Qf (F0 m pc LS (st.map (xcv G))) := by
  obtain ⟨hx, hb, hml, hown, hts, hG, hso, -, -⟩ := C
  obtain ⟨y, bytes, maxL, ret, hT, hM⟩ := hK
  unfold xcal at hok
  rw [hT] at hok
  simp only [Bool.and_eq_true, decide_eq_true_eq, Bool.or_eq_true] at hok
  obtain ⟨⟨hkd, hpar⟩, hlink⟩ := hok
  have hkd : xnth 9 xKd a = 0 := Nat.eq_of_beq_eq_true hkd
  obtain ⟨rr, hrr, w1⟩ := xT_at hT
  rw [hkd] at hrr
  simp only [xTok, Bool.and_eq_true, decide_eq_true_eq] at hrr
  obtain ⟨⟨⟨⟨w2, hmx⟩, hcl⟩, g2⟩, w3, g3⟩ := hrr
  have hcode := xgood_mem w1 rfl
  have hini := hts _ (xgood_mem w2 g2)
  have hstat := hts _ (xgood_mem w3 g3)
  obtain ⟨e1, e2⟩ := xpop_eq _ _ _ _ _ hp
  have hO := hG.2.2.2.2.2.2.2.2.2.2.2.1
  have est : st.map (xcv G) = (as.map (xcv G)).reverse ++ r.map (xcv G) := by
    simp only [List.reverse_nil, List.nil_append] at e1
    rw [← e1]; simp
  have hlen : (as.map (xcv G)).length = b := by simp at e2 ⊢; exact e2
  have hpre : PreS s H (xPc G as h) (as.map (xcv G)) := ⟨xPc_blind, fun U hU hW => ⟨rfl, hG.warm hW, by rw [hU]; exact hS.1⟩⟩
  have hf : cs + (xal a).1 ≤ R.cells ∧ ss + (xal a).2 ≤ R.slots := ⟨by rw [hRc.1]; exact hb1, by rw [hRc.2]; exact hb2⟩
  have hW : 2 * (F0 m pc LS (st.map (xcv G))).monitorRoom + ((r.map (xcv G)).map fun v => v.category).sum ≤ 8 := lv_room (by rw [xcat_eq hO]; exact hcat)
  rcases hlink with hlink | hlink
  · have hl := hts _ (xisw_mem hlink)
    refine x_after (d := d) (a := a) hS hb1 hb2 hnx hQ (va_runS (As := as.map (xcv G)) (n := b) ⟨hx, hb, hml, hown, hts⟩ hM ⟨callB_of b hts (xgood_in hcode) rfl rfl rfl hini hl ⟨hcl.1, hcl.2, hpar⟩ (x_room hR hmx), hstat⟩ hpre rfl hlen hS.2.1.1 est hW hdg hf)
  · have hl := hG.2.1 _ (xisn_mem hlink)
    refine x_after (d := d) (a := a) hS hb1 hb2 hnx hQ (va_runSN (As := as.map (xcv G)) (n := b) ⟨hx, hb, hml, hown, hts⟩ hM ⟨va_cnB b hts (xgood_in hcode) rfl rfl rfl hl hini ⟨hcl.1, hcl.2, hpar⟩ (x_room hR hmx), hstat, trivial⟩ hpre rfl hlen hS.2.1.1 est hW hdg hf)
theorem x_callI {d a b idx : Nat} {pp : List (Nat × Nat)} {st as r : List Value} {Q : Option Value → xH → Prop} {nx : xL → List Value → xH → Nat → Nat → Prop} (C : xCx G p R s m args c cc nL own) (hR : d + 2 ≤ R.frames ∧ 28 + 30 * (d + 1) ≤ R.locals) (hRc : R.cells = mc ∧ R.slots = ms) (hS : xSt G s nL mc ms h ls cs ss H locs LS) (hb1 : cs + (xal a).1 ≤ mc) (hb2 : ss + (xal a).2 ≤ ms) (hnx : xGo G p e R s m args below meth c nL mc ms Qf (pc + 3) nx)
    (hok : xcal pp own idx a 2 (b - 1) = true) (hb0 : 0 < b) (hdg : decode cc pc = .ok (.invokespecial idx, 3)) (hp : xpop b st [] = some (as, r)) (hcat : xcat r ≤ 8) (hrc : ∃ o ar, as = .ref o :: ar ∧ o < 1000) (hK : xMt G d a as h Q) (hQ : Q = fun w h' => nx ls (xpush w r) h' (cs + (xal a).1) (ss + (xal a).2)) :
    W p (gL G) e R s m args below meth c H locs cs ss Qf (F0 m pc LS (st.map (xcv G))) := by
  obtain ⟨hx, hb, hml, hown, hts, hG, hso, -, -⟩ := C
  obtain ⟨y, bytes, maxL, ret, hT, hM⟩ := hK
  unfold xcal at hok
  rw [hT] at hok
  simp only [Bool.and_eq_true, decide_eq_true_eq, Bool.or_eq_true] at hok
  obtain ⟨⟨hkd, hpar⟩, hlink⟩ := hok
  have hkd : xnth 9 xKd a = 2 := Nat.eq_of_beq_eq_true hkd
  obtain ⟨rr, hrr, w1⟩ := xT_at hT
  rw [hkd] at hrr
  simp only [xTok, Bool.and_eq_true, decide_eq_true_eq] at hrr
  obtain ⟨⟨⟨⟨w2, hmx⟩, hcl⟩, g2⟩, ⟨⟨w3, g3⟩, hnm⟩, hret⟩ := hrr
  have hcode := xgood_mem w1 rfl
  have hini := hts _ (xgood_mem w2 g2)
  have hinst := hts _ (xgood_mem w3 g3)
  obtain ⟨e1, e2⟩ := xpop_eq _ _ _ _ _ hp
  have hO := hG.2.2.2.2.2.2.2.2.2.2.2.1
  obtain ⟨o, ar, rfl, ho⟩ := hrc
  have est : st.map (xcv G) = (ar.map (xcv G)).reverse ++ .ref (gB G + o) :: r.map (xcv G) := by
    simp only [List.reverse_nil, List.nil_append] at e1
    rw [← e1, ← x_ref ho]; simp
  have hlen : (ar.map (xcv G)).length = b - 1 := by simp at e2 ⊢; omega
  have hpre : PreS s H (xPc G (.ref o :: ar) h) (.ref (gB G + o) :: ar.map (xcv G)) := ⟨xPc_blind, fun U hU hW => ⟨by rw [List.map_cons, x_ref ho], hG.warm hW, by rw [hU]; exact hS.1⟩⟩
  have hf : cs + (xal a).1 ≤ R.cells ∧ ss + (xal a).2 ≤ R.slots := ⟨by rw [hRc.1]; exact hb1, by rw [hRc.2]; exact hb2⟩
  have hW : 2 * (F0 m pc LS (st.map (xcv G))).monitorRoom + ((r.map (xcv G)).map fun v => v.category).sum ≤ 8 := lv_room (by rw [xcat_eq hO]; exact hcat)
  subst hret
  rcases hlink with hlink | hlink
  · have hl := hts _ (xisw_mem hlink)
    refine x_after (d := d) (a := a) hS hb1 hb2 hnx hQ (va_runI (As := ar.map (xcv G)) (n := b - 1) ⟨hx, hb, hml, hown, hts⟩ hM ⟨callB_of (b - 1) hts (xgood_in hcode) rfl rfl rfl hini hl ⟨hcl.1, hcl.2, hpar⟩ (x_room hR hmx), hnm, hinst⟩ hpre rfl hlen hS.2.1.1 est hW hdg hf)
  · have hl := hG.2.1 _ (xisn_mem hlink)
    refine x_after (d := d) (a := a) hS hb1 hb2 hnx hQ (va_runIN (As := ar.map (xcv G)) (n := b - 1) ⟨hx, hb, hml, hown, hts⟩ hM ⟨va_cnB (b - 1) hts (xgood_in hcode) rfl rfl rfl hl hini ⟨hcl.1, hcl.2, hpar⟩ (x_room hR hmx), hnm, hinst⟩ hpre rfl hlen hS.2.1.1 est hW hdg hf)
theorem x_callV {d a b idx : Nat} {pp : List (Nat × Nat)} {st as r : List Value} {v : Value} {Q : Option Value → xH → Prop} {nx : xL → List Value → xH → Nat → Nat → Prop} (C : xCx G p R s m args c cc nL own) (hR : d + 2 ≤ R.frames ∧ 28 + 30 * (d + 1) ≤ R.locals) (hRc : R.cells = mc ∧ R.slots = ms) (hS : xSt G s nL mc ms h ls cs ss H locs LS) (hb1 : cs + (xal a).1 ≤ mc) (hb2 : ss + (xal a).2 ≤ ms) (hnx : xGo G p e R s m args below meth c nL mc ms Qf (pc + 3) nx)
    (hok : xcal pp own idx a 1 (b - 1) = true) (hb0 : 0 < b) (hv : xrcT v a = true) (hrecv : xrecv h.1 v as = true) (hdg : decode cc pc = .ok (.invokevirtual idx, 3)) (hp : xpop b st [] = some (as, r)) (hcat : xcat r ≤ 8) (hK : xMt G d a as h Q) (hQ : Q = fun w h' => nx ls (xpush w r) h' (cs + (xal a).1) (ss + (xal a).2)) :
    W p (gL G) e R s m args below meth c H locs cs ss Qf (F0 m pc LS (st.map (xcv G))) := by
  obtain ⟨hx, hb, hml, hown, hts, hG, hso, -, -⟩ := C
  obtain ⟨y, bytes, maxL, ret, hT, hM⟩ := hK
  unfold xrcT at hv
  rw [hT] at hv
  unfold xcal at hok
  rw [hT] at hok
  simp only [Bool.and_eq_true, decide_eq_true_eq, Bool.or_eq_true] at hok
  obtain ⟨⟨hkd, hpar⟩, hlink⟩ := hok
  have hkd : xnth 9 xKd a = 1 := Nat.eq_of_beq_eq_true hkd
  obtain ⟨rr, hrr, w1⟩ := xT_at hT
  rw [hkd] at hrr
  simp only [xTok, Bool.and_eq_true, decide_eq_true_eq] at hrr
  obtain ⟨⟨⟨⟨w2, hmx⟩, hcl⟩, g2⟩, ⟨⟨w3, g3⟩, w4⟩, g4⟩ := hrr
  have hcode := xgood_mem w1 rfl
  have hini := hts _ (xgood_mem w2 g2)
  have hinst := hts _ (xgood_mem w3 g3)
  have hsel := hts _ (xgood_mem w4 g4)
  obtain ⟨e1, e2⟩ := xpop_eq _ _ _ _ _ hp
  have hO := hG.2.2.2.2.2.2.2.2.2.2.2.1
  have hrc : ∃ (o : Nat) (ar : List Value) (A : Nat), as = .ref o :: ar ∧ xcv G (.ref o) = .ref A ∧ ∃ cellB : Cell, H[A]? = some cellB ∧ cellB.vm.isStatics = false ∧ s.vm.findClass y.cls = some cellB.cls := by
    unfold xrecv at hrecv
    split at hrecv
    · rename_i ci o ar
      split at hrecv
      · rename_i h99
        simp only [Bool.and_eq_true, Nat.ble_eq, Nat.blt_eq] at hrecv
        simp only [h99, decide_eq_true_eq] at hv
        obtain ⟨i, rfl⟩ : ∃ i : Nat, @Eq Nat o (1100 + i) := ⟨@HSub.hSub Nat Nat Nat _ o 1100, by omega⟩
        obtain ⟨cell, c1, c2, c3, -⟩ := ((hG.2.2.2.2.1 i (by omega)).1).kept (x_keptS hG.2.2.2.2.2.2.2.2.2.2.2.2 hso)
        have hH : H[gE G (1100 + i)]? = some cell := by
          have hlt : gE G (1100 + i) < gB G := by
            obtain ⟨cell', c1', -, -, c4'⟩ := (hG.2.2.2.2.1 i (by omega)).1
            have := (Array.getElem?_eq_some_iff.mp c1').1
            rw [hG.2.2.2.2.2.2.2.2.2.2.2.2] at this
            exact this
          rw [hS.1.2.2.2.2 _ hlt, ← hso.2 _ hlt]
          exact c1
        exact ⟨_, _, _, rfl, x_refX (by omega) (by omega), cell, hH, c2, by rw [hv]; exact c3⟩
      · rename_i h99
        simp only [h99] at hv
        split at hrecv
        · rename_i kd n hsh
          have hkd' : kd = 3 + ci := Nat.eq_of_beq_eq_true hrecv
          subst hkd'
          obtain ⟨C1, T1, hvw⟩ := hS.1.2.2.2.1 o _ ci hsh (Nat.add_comm 3 ci)
          rw [hvw] at hv
          simp only [decide_eq_true_eq] at hv
          have hat := hS.1.2.2.1 o _ hsh
          have hce : xce G h.2.1 h.2.2 o (3 + ci, n) = .inr (ci, (List.range n).map (fun j => if xisI ci j then .int (h.2.2 o j) else va_rf ((h.2.1 o j).map (xad G)))) := by
            unfold xce
            rw [Nat.add_comm 3 ci]
          rw [hce] at hat
          obtain ⟨q', r1, cell, c1, c2, c3, -⟩ := hat
          have hq' : q' = (C1, T1, n) := Option.some.inj (r1.symm.trans hvw)
          subst hq'
          exact ⟨o, ar, gB G + o, rfl, x_sh hS.1 hsh, cell, c1, by rw [c3]; rfl, by rw [c2, hv]; exact (hG.1.1 ci _ hvw).2.1⟩
        · cases hrecv
    · cases hrecv
  obtain ⟨o, ar, A, rfl, hA, hcell⟩ := hrc
  have est : st.map (xcv G) = (ar.map (xcv G)).reverse ++ .ref A :: r.map (xcv G) := by
    simp only [List.reverse_nil, List.nil_append] at e1
    rw [← e1, ← hA]; simp
  have hlen : (ar.map (xcv G)).length = b - 1 := by simp at e2 ⊢; omega
  have hpre : PreV s H y.cls A (xPc G (.ref o :: ar) h) (ar.map (xcv G)) := ⟨xPc_blind, hcell, fun U hU hW => ⟨by rw [List.map_cons, hA], hG.warm hW, by rw [hU]; exact hS.1⟩⟩
  have hf : cs + (xal a).1 ≤ R.cells ∧ ss + (xal a).2 ≤ R.slots := ⟨by rw [hRc.1]; exact hb1, by rw [hRc.2]; exact hb2⟩
  have hW : 2 * (F0 m pc LS (st.map (xcv G))).monitorRoom + ((r.map (xcv G)).map fun v => v.category).sum ≤ 8 := lv_room (by rw [xcat_eq hO]; exact hcat)
  rcases hlink with hlink | hlink
  · have hl := hts _ (xisw_mem hlink)
    refine x_after (d := d) (a := a) hS hb1 hb2 hnx hQ (va_runV (As := ar.map (xcv G)) (n := b - 1) (C := y.cls) ⟨hx, hb, hml, hown, hts⟩ hM ⟨callB_of (b - 1) hts (xgood_in hcode) rfl rfl rfl hini hl ⟨hcl.1, hcl.2, hpar⟩ (x_room hR hmx), hinst, hsel⟩ hpre rfl hlen hS.2.1.1 est hW hdg hf)
  · have hl := hG.2.1 _ (xisn_mem hlink)
    refine x_after (d := d) (a := a) hS hb1 hb2 hnx hQ (va_runVN (As := ar.map (xcv G)) (n := b - 1) (C := y.cls) ⟨hx, hb, hml, hown, hts⟩ hM ⟨va_cnB (b - 1) hts (xgood_in hcode) rfl rfl rfl hl hini ⟨hcl.1, hcl.2, hpar⟩ (x_room hR hmx), hinst, hsel⟩ hpre rfl hlen hS.2.1.1 est hW hdg hf)
end XS
end
section
/-! ONE STEP: what x1 says of the next states, the machine does. -/
theorem xcv_ok1 {G : xG} (hO : xOk1 (gO G)) (r : Nat) : xOk1 (xcv G (.ref r)) := by
  show xOk1 (if r = 1300 then gO G else .ref (xad G r))
  split
  · exact hO
  · exact Or.inr ⟨_, rfl⟩
theorem xtab_at {x : Int32} {jp : Nat → Prop} {pc : Nat} : ∀ {os : List Int} {lo : Int}, xtab x jp pc lo os → ∀ (i : Nat) (o : Int), os[i]? = some o → x.toInt = lo + i → jp ((pc : Int) + o).toNat
  | [], _, _, i, o, h, _ => by simp at h
  | o' :: os, lo, ht, 0, o, h, hx => by
    simp at h
    subst h
    exact xite_t ht (by simpa using hx)
  | o' :: os, lo, ht, i + 1, o, h, hx => by
    simp only [List.getElem?_cons_succ] at h
    exact xtab_at (os := os) (lo := lo + 1) (xite_f ht (by rw [hx]; push_cast; omega)) i o h (by rw [hx]; push_cast; omega)
def xretok (rt : Nat) (ins : Instr) (w : Option Value) : Prop := (ins = .ireturn ∧ ∃ (x : Int32) (ty : FieldType), w = some (.int x) ∧ xrt rt = some ty ∧ narrow ty (.int x) = .int x) ∨ (ins = .lreturn ∧ xrt rt = some .long ∧ ∃ x : Int64, w = some (.long x)) ∨ (ins = .return_ ∧ xrt rt = none ∧ w = none)
def xRet (G : xG) (p : Program) (e : Env) (R : Room) (s : State) (m : MethodId) (args : Array Value) (below : List Frame) (meth : Method) (c : Code) (cc : ByteArray) (mc ms rt : Nat) (Qf : State → Prop) (Q : Option Value → xH → Prop) : Prop :=
  ∀ (w : Option Value) (h : xH) (H : Heap) (locs : List Loc) (cs ss pc : Nat) (LS : Array Slot) (ins : Instr), Q w h → xRep G h H → (∀ q ∈ locs, gB G ≤ q.base) → s.heap.size ≤ H.size → cs ≤ mc → ss ≤ ms → xretok rt ins w → decode cc pc = .ok (ins, 1) → W p (gL G) e R s m args below meth c H locs cs ss Qf (F0 m pc LS (w.toList.map (xcv G)))
theorem narrow_z {x : Int32} (h : x = 0 ∨ x = 1) : narrow .boolean (.int x) = .int x := by
  rcases h with rfl | rfl <;> decide +kernel
set_option maxRecDepth 100000 in
theorem x_objw : Cond.instanceMethod objectInit ∈ xGood ∧ Cond.code objectInit ⟨#[0xb1]⟩ 1 none ∈ xGood ∧ Cond.arrayClass .int ∈ xGood ∧ Cond.native arraycopyName ∈ xGood ∧ Cond.static arraycopyName ∈ xGood ∧ Cond.initialized "java/lang/System" ∈ xGood :=
  ⟨xgood_mem (p := 83) (by rfl) rfl, xgood_mem (p := 84) (by rfl) rfl, xgood_mem (p := 101) (by rfl) rfl, xgood_mem (p := 681) (by rfl) rfl, xgood_mem (p := 680) (by rfl) rfl, xgood_mem (p := 72) (by rfl) rfl⟩
set_option maxRecDepth 100000 in
theorem x_mathw : Cond.static Lib.Math.max.name ∈ xGood ∧ Cond.static Lib.Math.min.name ∈ xGood ∧ Cond.initialized "java/lang/Math" ∈ xGood ∧ Cond.code Lib.Math.max.name Lib.Math.max.code 2 (some .int) ∈ xGood ∧ Cond.code Lib.Math.min.name Lib.Math.min.code 2 (some .int) ∈ xGood :=
  ⟨xgood_mem (p := 404) (by rfl) rfl, xgood_mem (p := 876) (by rfl) rfl, xgood_mem (p := 68) (by rfl) rfl, xgood_mem (p := 405) (by rfl) rfl, xgood_mem (p := 877) (by rfl) rfl⟩
theorem x_ldcwS {p : Program} {l : Launch} {e : Env} {R : Room} {s : State} {m : MethodId} {args : Array Value} {below : List Frame} {meth : Method} {c : Code} {H : Heap} {locs : List Loc} {cells slots : Nat} {Q : State → Prop} {cc : ByteArray} {pc : Nat} {ls : Array Slot} {rest : List Value} (hexec : p.tables.exec = Jvm.exec) (hb : c.code = cc) {own tx : String} {index q : Nat} (hown : s.vm.findClass own = some m.cls) (hZ : vk_R own index tx q s) (hdg : decode cc pc = .ok (.ldc_w index, 3))
    (k : W p l e R s m args below meth c H locs cells slots Q (F0 m (pc + 3) ls (.ref q :: rest))) : W p l e R s m args below meth c H locs cells slots Q (F0 m pc ls rest) := by
  intro T hT X
  subst hb
  obtain ⟨t, a1, b1⟩ := k T hT X
  refine ⟨t, ?_, b1⟩
  obtain ⟨k, cf, i, a', hk, hcf, hcp, -, hr, hev'⟩ := Cond.stringRef_spec hown hZ.1
  cases hZ.2.symm.trans hev'
  obtain ⟨k', hk', he⟩ := X.warmed.alike.2.2 _ _ hk
  have hr' : k'.resolved[index]? = some (some (.string q)) := by
    rcases X.warmed.entry hk hk' index with h | ⟨h, -⟩
    · rw [h]; exact hr
    · rw [hr] at h; cases h
  jvm_step X.here [hexec, hdg, ldc_w.wp_string (e := e) (s := T) (f := F0 m pc ls rest) X.here.top hk' (by rw [he]; exact hcf) hcp hr']
  exact a1
section XT
variable {G : xG} {p : Program} {e : Env} {R : Room} {s : State} {m : MethodId} {args : Array Value} {below : List Frame} {meth : Method} {c : Code} {cc : ByteArray} {nL mc ms rt : Nat} {own : String} {Qf : State → Prop} {pc : Nat} {ls : xL} {st : List Value} {h : xH} {cs ss : Nat} {H : Heap} {locs : List Loc} {LS : Array Slot}
variable {d : Nat} {pp : List (Nat × Nat)} {ini : Bool} {Q : Option Value → xH → Prop} {K : Nat → List Value → xH → (Option Value → xH → Prop) → Prop} {nx : xL → List Value → xH → Nat → Nat → Prop} {jp : Nat → xL → List Value → xH → Nat → Nat → Prop} {mk : List Bool} {a b : Nat} {v : Value}

theorem y_iconst {n : Int} (C : xCx G p R s m args c cc nL own) (hR : d + 2 ≤ R.frames ∧ 28 + 30 * (d + 1) ≤ R.locals ∨ ∀ a as h Q, ¬ K a as h Q) (hRc : R.cells = mc ∧ R.slots = ms) (hini : ini = true → meth.name = "<init>") (hjp : ∀ t, xGo G p e R s m args below meth c nL mc ms Qf t (jp t)) (hret : xRet G p e R s m args below meth c cc mc ms rt Qf Q) (hK : ∀ a as h Q, K a as h Q → xMt G d a as h Q) (S : xSt G s nL mc ms h ls cs ss H locs LS) (hdg : decode cc pc = .ok (.iconst n, 1)) (hok : xokI pp own ini nL (pc, mk, .iconst n, a, b, v) = true) (hnx : xGo G p e R s m args below meth c nL mc ms Qf (pc + 1) nx) (hx : x1 (xX (gN G) (gX G)) K xal mc ms rt Q nx jp (pc, mk, .iconst n, a, b, v) ls st h cs ss) : W p (gL G) e R s m args below meth c H locs cs ss Qf (F0 m pc LS (st.map (xcv G))) := by
  obtain ⟨hx0, hb, hml, hown, hts, hG, hso, hfr, hlo⟩ := id C
  have hO := hG.2.2.2.2.2.2.2.2.2.2.2.1
  have hv : v = .int (Int32.ofInt n) := of_decide_eq_true hok
  subst hv
  exact lv_iconst (v := Int32.ofInt n) hx0 hb hdg rfl (hnx _ _ _ _ _ _ _ _ hx S)
theorem y_bipush {n : Int} (C : xCx G p R s m args c cc nL own) (hR : d + 2 ≤ R.frames ∧ 28 + 30 * (d + 1) ≤ R.locals ∨ ∀ a as h Q, ¬ K a as h Q) (hRc : R.cells = mc ∧ R.slots = ms) (hini : ini = true → meth.name = "<init>") (hjp : ∀ t, xGo G p e R s m args below meth c nL mc ms Qf t (jp t)) (hret : xRet G p e R s m args below meth c cc mc ms rt Qf Q) (hK : ∀ a as h Q, K a as h Q → xMt G d a as h Q) (S : xSt G s nL mc ms h ls cs ss H locs LS) (hdg : decode cc pc = .ok (.bipush n, 2)) (hok : xokI pp own ini nL (pc, mk, .bipush n, a, b, v) = true) (hnx : xGo G p e R s m args below meth c nL mc ms Qf (pc + 2) nx) (hx : x1 (xX (gN G) (gX G)) K xal mc ms rt Q nx jp (pc, mk, .bipush n, a, b, v) ls st h cs ss) : W p (gL G) e R s m args below meth c H locs cs ss Qf (F0 m pc LS (st.map (xcv G))) := by
  obtain ⟨hx0, hb, hml, hown, hts, hG, hso, hfr, hlo⟩ := id C
  have hO := hG.2.2.2.2.2.2.2.2.2.2.2.1
  have hv : v = .int (Int8.ofInt n).toInt32 := of_decide_eq_true hok
  subst hv
  exact lv_bipush (v := (Int8.ofInt n).toInt32) hx0 hb hdg rfl (hnx _ _ _ _ _ _ _ _ hx S)
theorem y_sipush {n : Int} (C : xCx G p R s m args c cc nL own) (hR : d + 2 ≤ R.frames ∧ 28 + 30 * (d + 1) ≤ R.locals ∨ ∀ a as h Q, ¬ K a as h Q) (hRc : R.cells = mc ∧ R.slots = ms) (hini : ini = true → meth.name = "<init>") (hjp : ∀ t, xGo G p e R s m args below meth c nL mc ms Qf t (jp t)) (hret : xRet G p e R s m args below meth c cc mc ms rt Qf Q) (hK : ∀ a as h Q, K a as h Q → xMt G d a as h Q) (S : xSt G s nL mc ms h ls cs ss H locs LS) (hdg : decode cc pc = .ok (.sipush n, 3)) (hok : xokI pp own ini nL (pc, mk, .sipush n, a, b, v) = true) (hnx : xGo G p e R s m args below meth c nL mc ms Qf (pc + 3) nx) (hx : x1 (xX (gN G) (gX G)) K xal mc ms rt Q nx jp (pc, mk, .sipush n, a, b, v) ls st h cs ss) : W p (gL G) e R s m args below meth c H locs cs ss Qf (F0 m pc LS (st.map (xcv G))) := by
  obtain ⟨hx0, hb, hml, hown, hts, hG, hso, hfr, hlo⟩ := id C
  have hO := hG.2.2.2.2.2.2.2.2.2.2.2.1
  have hv : v = .int (Int16.ofInt n).toInt32 := of_decide_eq_true hok
  subst hv
  exact lv_sipush (v := (Int16.ofInt n).toInt32) hx0 hb hdg rfl (hnx _ _ _ _ _ _ _ _ hx S)
theorem y_lconst {n : Fin 2} (C : xCx G p R s m args c cc nL own) (hR : d + 2 ≤ R.frames ∧ 28 + 30 * (d + 1) ≤ R.locals ∨ ∀ a as h Q, ¬ K a as h Q) (hRc : R.cells = mc ∧ R.slots = ms) (hini : ini = true → meth.name = "<init>") (hjp : ∀ t, xGo G p e R s m args below meth c nL mc ms Qf t (jp t)) (hret : xRet G p e R s m args below meth c cc mc ms rt Qf Q) (hK : ∀ a as h Q, K a as h Q → xMt G d a as h Q) (S : xSt G s nL mc ms h ls cs ss H locs LS) (hdg : decode cc pc = .ok (.lconst n, 1)) (hok : xokI pp own ini nL (pc, mk, .lconst n, a, b, v) = true) (hnx : xGo G p e R s m args below meth c nL mc ms Qf (pc + 1) nx) (hx : x1 (xX (gN G) (gX G)) K xal mc ms rt Q nx jp (pc, mk, .lconst n, a, b, v) ls st h cs ss) : W p (gL G) e R s m args below meth c H locs cs ss Qf (F0 m pc LS (st.map (xcv G))) := by
  obtain ⟨hx0, hb, hml, hown, hts, hG, hso, hfr, hlo⟩ := id C
  have hO := hG.2.2.2.2.2.2.2.2.2.2.2.1
  have hv : v = .long (Int64.ofNat (n : Nat)) := of_decide_eq_true hok
  subst hv
  exact lv_lconst (v := Int64.ofNat (n : Nat)) hx0 hb hdg rfl (hnx _ _ _ _ _ _ _ _ hx S)
theorem y_ldc {i : Nat} (C : xCx G p R s m args c cc nL own) (hR : d + 2 ≤ R.frames ∧ 28 + 30 * (d + 1) ≤ R.locals ∨ ∀ a as h Q, ¬ K a as h Q) (hRc : R.cells = mc ∧ R.slots = ms) (hini : ini = true → meth.name = "<init>") (hjp : ∀ t, xGo G p e R s m args below meth c nL mc ms Qf t (jp t)) (hret : xRet G p e R s m args below meth c cc mc ms rt Qf Q) (hK : ∀ a as h Q, K a as h Q → xMt G d a as h Q) (S : xSt G s nL mc ms h ls cs ss H locs LS) (hdg : decode cc pc = .ok (.ldc i, 2)) (hok : xokI pp own ini nL (pc, mk, .ldc i, a, b, v) = true) (hnx : xGo G p e R s m args below meth c nL mc ms Qf (pc + 2) nx) (hx : x1 (xX (gN G) (gX G)) K xal mc ms rt Q nx jp (pc, mk, .ldc i, a, b, v) ls st h cs ss) : W p (gL G) e R s m args below meth c H locs cs ss Qf (F0 m pc LS (st.map (xcv G))) := by
  obtain ⟨hx0, hb, hml, hown, hts, hG, hso, hfr, hlo⟩ := id C
  have hO := hG.2.2.2.2.2.2.2.2.2.2.2.1
  cases v with
  | int x => exact lv_ldc hx0 hb hown (hts _ (xisw_mem hok)) hdg (hnx _ _ _ _ _ _ _ _ hx S)
  | ref r =>
    have h1 : (xStr.any (fun q => decide (q.1 = own ∧ q.2.1 = i ∧ q.2.2.2 = r)) && Nat.ble 1100 r && Nat.blt r 1115) = true := hok
    simp only [Bool.and_eq_true, List.any_eq_true, decide_eq_true_eq, Nat.ble_eq, Nat.blt_eq] at h1
    obtain ⟨⟨⟨q, hq, q1, q2, q3⟩, h2⟩, h3⟩ := h1
    have h4 := hG.2.2.2.1 q hq
    rw [q1, q2, q3] at h4
    have h5 := hnx _ _ _ _ _ _ _ _ hx S
    rw [List.map_cons, x_refX (by omega) (by omega)] at h5
    exact va_ldcS hx0 hb hown h4 hdg h5
  | _ => exact (Bool.false_ne_true hok).elim
theorem y_ldc_w {i : Nat} (C : xCx G p R s m args c cc nL own) (hR : d + 2 ≤ R.frames ∧ 28 + 30 * (d + 1) ≤ R.locals ∨ ∀ a as h Q, ¬ K a as h Q) (hRc : R.cells = mc ∧ R.slots = ms) (hini : ini = true → meth.name = "<init>") (hjp : ∀ t, xGo G p e R s m args below meth c nL mc ms Qf t (jp t)) (hret : xRet G p e R s m args below meth c cc mc ms rt Qf Q) (hK : ∀ a as h Q, K a as h Q → xMt G d a as h Q) (S : xSt G s nL mc ms h ls cs ss H locs LS) (hdg : decode cc pc = .ok (.ldc_w i, 3)) (hok : xokI pp own ini nL (pc, mk, .ldc_w i, a, b, v) = true) (hnx : xGo G p e R s m args below meth c nL mc ms Qf (pc + 3) nx) (hx : x1 (xX (gN G) (gX G)) K xal mc ms rt Q nx jp (pc, mk, .ldc_w i, a, b, v) ls st h cs ss) : W p (gL G) e R s m args below meth c H locs cs ss Qf (F0 m pc LS (st.map (xcv G))) := by
  obtain ⟨hx0, hb, hml, hown, hts, hG, hso, hfr, hlo⟩ := id C
  have hO := hG.2.2.2.2.2.2.2.2.2.2.2.1
  cases v with
  | int x => exact lv_ldcw hx0 hb hown (hts _ (xisw_mem hok)) hdg (hnx _ _ _ _ _ _ _ _ hx S)
  | ref r =>
    have h1 : (xStr.any (fun q => decide (q.1 = own ∧ q.2.1 = i ∧ q.2.2.2 = r)) && Nat.ble 1100 r && Nat.blt r 1115) = true := hok
    simp only [Bool.and_eq_true, List.any_eq_true, decide_eq_true_eq, Nat.ble_eq, Nat.blt_eq] at h1
    obtain ⟨⟨⟨q, hq, q1, q2, q3⟩, h2⟩, h3⟩ := h1
    have h4 := hG.2.2.2.1 q hq
    rw [q1, q2, q3] at h4
    have h5 := hnx _ _ _ _ _ _ _ _ hx S
    rw [List.map_cons, x_refX (by omega) (by omega)] at h5
    exact x_ldcwS hx0 hb hown h4 hdg h5
  | _ => exact (Bool.false_ne_true hok).elim
theorem y_ldc2_w {i : Nat} (C : xCx G p R s m args c cc nL own) (hR : d + 2 ≤ R.frames ∧ 28 + 30 * (d + 1) ≤ R.locals ∨ ∀ a as h Q, ¬ K a as h Q) (hRc : R.cells = mc ∧ R.slots = ms) (hini : ini = true → meth.name = "<init>") (hjp : ∀ t, xGo G p e R s m args below meth c nL mc ms Qf t (jp t)) (hret : xRet G p e R s m args below meth c cc mc ms rt Qf Q) (hK : ∀ a as h Q, K a as h Q → xMt G d a as h Q) (S : xSt G s nL mc ms h ls cs ss H locs LS) (hdg : decode cc pc = .ok (.ldc2_w i, 3)) (hok : xokI pp own ini nL (pc, mk, .ldc2_w i, a, b, v) = true) (hnx : xGo G p e R s m args below meth c nL mc ms Qf (pc + 3) nx) (hx : x1 (xX (gN G) (gX G)) K xal mc ms rt Q nx jp (pc, mk, .ldc2_w i, a, b, v) ls st h cs ss) : W p (gL G) e R s m args below meth c H locs cs ss Qf (F0 m pc LS (st.map (xcv G))) := by
  obtain ⟨hx0, hb, hml, hown, hts, hG, hso, hfr, hlo⟩ := id C
  have hO := hG.2.2.2.2.2.2.2.2.2.2.2.1
  cases v with
  | long x => exact lv_ldc2 hx0 hb hown (hts _ (xisw_mem hok)) hdg (hnx _ _ _ _ _ _ _ _ hx S)
  | _ => exact (Bool.false_ne_true hok).elim
theorem y_getstatic {i : Nat} (C : xCx G p R s m args c cc nL own) (hR : d + 2 ≤ R.frames ∧ 28 + 30 * (d + 1) ≤ R.locals ∨ ∀ a as h Q, ¬ K a as h Q) (hRc : R.cells = mc ∧ R.slots = ms) (hini : ini = true → meth.name = "<init>") (hjp : ∀ t, xGo G p e R s m args below meth c nL mc ms Qf t (jp t)) (hret : xRet G p e R s m args below meth c cc mc ms rt Qf Q) (hK : ∀ a as h Q, K a as h Q → xMt G d a as h Q) (S : xSt G s nL mc ms h ls cs ss H locs LS) (hdg : decode cc pc = .ok (.getstatic i, 3)) (hok : xokI pp own ini nL (pc, mk, .getstatic i, a, b, v) = true) (hnx : xGo G p e R s m args below meth c nL mc ms Qf (pc + 3) nx) (hx : x1 (xX (gN G) (gX G)) K xal mc ms rt Q nx jp (pc, mk, .getstatic i, a, b, v) ls st h cs ss) : W p (gL G) e R s m args below meth c H locs cs ss Qf (F0 m pc LS (st.map (xcv G))) := by
  obtain ⟨hx0, hb, hml, hown, hts, hG, hso, hfr, hlo⟩ := id C
  have hO := hG.2.2.2.2.2.2.2.2.2.2.2.1
  have hS := x_oldS S.1 hso S.2.2.2.1 S.2.2.1
  have hk := x_keptS hG.2.2.2.2.2.2.2.2.2.2.2.2 hso
  match a, hok with
  | 0, hok =>
    have h1 : (decide (v = .ref 1001) && xisw pp i (.fieldLink own i "EchoValley$Kinds" "ABOVE" "[I")) = true := hok
    simp only [Bool.and_eq_true, decide_eq_true_eq] at h1
    obtain ⟨rfl, h2⟩ := h1
    have h5 := hnx _ _ _ _ _ _ _ _ hx S
    rw [List.map_cons, x_refX (by omega) (by omega)] at h5
    exact va_gets hx0 hb (hG.2.2.2.2.2.1.kept hk) hS hown (hts _ (xisw_mem h2)) (fun _ h => h) hdg h5
  | 1, hok =>
    have h1 : (decide (v = .int 1) && xisw pp i (.fieldLink own i "java/lang/String" "COMPACT_STRINGS" "Z")) = true := hok
    simp only [Bool.and_eq_true, decide_eq_true_eq] at h1
    obtain ⟨rfl, h2⟩ := h1
    exact va_gets hx0 hb (hG.2.2.2.2.2.2.2.1.kept hk) hS hown (hts _ (xisw_mem h2)) (fun _ h => h) hdg (hnx _ _ _ _ _ _ _ _ hx S)
  | n + 2, hok =>
    have h1 : (decide (v = .ref 1300) && xisw pp i (.fieldLink own i "jdk/internal/util/Preconditions" "SIOOBE_FORMATTER" "Ljava/util/function/BiFunction;")) = true := hok
    simp only [Bool.and_eq_true, decide_eq_true_eq] at h1
    obtain ⟨rfl, h2⟩ := h1
    exact va_gets hx0 hb (hG.2.2.2.2.2.2.2.2.1.kept hk) hS hown (hts _ (xisw_mem h2)) (fun _ h => h) hdg (hnx _ _ _ _ _ _ _ _ hx S)
theorem y_iload_n {k : Fin 4} (C : xCx G p R s m args c cc nL own) (hR : d + 2 ≤ R.frames ∧ 28 + 30 * (d + 1) ≤ R.locals ∨ ∀ a as h Q, ¬ K a as h Q) (hRc : R.cells = mc ∧ R.slots = ms) (hini : ini = true → meth.name = "<init>") (hjp : ∀ t, xGo G p e R s m args below meth c nL mc ms Qf t (jp t)) (hret : xRet G p e R s m args below meth c cc mc ms rt Qf Q) (hK : ∀ a as h Q, K a as h Q → xMt G d a as h Q) (S : xSt G s nL mc ms h ls cs ss H locs LS) (hdg : decode cc pc = .ok (.iload_n k, 1)) (hok : xokI pp own ini nL (pc, mk, .iload_n k, a, b, v) = true) (hnx : xGo G p e R s m args below meth c nL mc ms Qf (pc + 1) nx) (hx : x1 (xX (gN G) (gX G)) K xal mc ms rt Q nx jp (pc, mk, .iload_n k, a, b, v) ls st h cs ss) : W p (gL G) e R s m args below meth c H locs cs ss Qf (F0 m pc LS (st.map (xcv G))) := by
  obtain ⟨hx0, hb, hml, hown, hts, hG, hso, hfr, hlo⟩ := id C
  have hO := hG.2.2.2.2.2.2.2.2.2.2.2.1
  have hk : (k : Nat) = a := of_decide_eq_true hok
  dsimp only [x1] at hx
  split at hx
  · rename_i x hg
    exact lv_iload_n hx0 hb hdg hk (x_at S.2.1 hg) (hnx _ _ _ _ _ _ _ _ hx S)
  · exact hx.elim
theorem y_iload {k : Nat} (C : xCx G p R s m args c cc nL own) (hR : d + 2 ≤ R.frames ∧ 28 + 30 * (d + 1) ≤ R.locals ∨ ∀ a as h Q, ¬ K a as h Q) (hRc : R.cells = mc ∧ R.slots = ms) (hini : ini = true → meth.name = "<init>") (hjp : ∀ t, xGo G p e R s m args below meth c nL mc ms Qf t (jp t)) (hret : xRet G p e R s m args below meth c cc mc ms rt Qf Q) (hK : ∀ a as h Q, K a as h Q → xMt G d a as h Q) (S : xSt G s nL mc ms h ls cs ss H locs LS) (hdg : decode cc pc = .ok (.iload k, 2)) (hok : xokI pp own ini nL (pc, mk, .iload k, a, b, v) = true) (hnx : xGo G p e R s m args below meth c nL mc ms Qf (pc + 2) nx) (hx : x1 (xX (gN G) (gX G)) K xal mc ms rt Q nx jp (pc, mk, .iload k, a, b, v) ls st h cs ss) : W p (gL G) e R s m args below meth c H locs cs ss Qf (F0 m pc LS (st.map (xcv G))) := by
  obtain ⟨hx0, hb, hml, hown, hts, hG, hso, hfr, hlo⟩ := id C
  have hO := hG.2.2.2.2.2.2.2.2.2.2.2.1
  have hk : k = a := of_decide_eq_true hok
  subst hk
  dsimp only [x1] at hx
  split at hx
  · rename_i x hg
    exact lv_iload hx0 hb hdg (x_at S.2.1 hg) (hnx _ _ _ _ _ _ _ _ hx S)
  · exact hx.elim
theorem y_lload_n {k : Fin 4} (C : xCx G p R s m args c cc nL own) (hR : d + 2 ≤ R.frames ∧ 28 + 30 * (d + 1) ≤ R.locals ∨ ∀ a as h Q, ¬ K a as h Q) (hRc : R.cells = mc ∧ R.slots = ms) (hini : ini = true → meth.name = "<init>") (hjp : ∀ t, xGo G p e R s m args below meth c nL mc ms Qf t (jp t)) (hret : xRet G p e R s m args below meth c cc mc ms rt Qf Q) (hK : ∀ a as h Q, K a as h Q → xMt G d a as h Q) (S : xSt G s nL mc ms h ls cs ss H locs LS) (hdg : decode cc pc = .ok (.lload_n k, 1)) (hok : xokI pp own ini nL (pc, mk, .lload_n k, a, b, v) = true) (hnx : xGo G p e R s m args below meth c nL mc ms Qf (pc + 1) nx) (hx : x1 (xX (gN G) (gX G)) K xal mc ms rt Q nx jp (pc, mk, .lload_n k, a, b, v) ls st h cs ss) : W p (gL G) e R s m args below meth c H locs cs ss Qf (F0 m pc LS (st.map (xcv G))) := by
  obtain ⟨hx0, hb, hml, hown, hts, hG, hso, hfr, hlo⟩ := id C
  have hO := hG.2.2.2.2.2.2.2.2.2.2.2.1
  have hk : (k : Nat) = a := of_decide_eq_true hok
  dsimp only [x1] at hx
  split at hx
  · rename_i x hg
    exact lv_lload_n hx0 hb hdg hk (x_at S.2.1 hg) (hnx _ _ _ _ _ _ _ _ hx S)
  · exact hx.elim
theorem y_lload {k : Nat} (C : xCx G p R s m args c cc nL own) (hR : d + 2 ≤ R.frames ∧ 28 + 30 * (d + 1) ≤ R.locals ∨ ∀ a as h Q, ¬ K a as h Q) (hRc : R.cells = mc ∧ R.slots = ms) (hini : ini = true → meth.name = "<init>") (hjp : ∀ t, xGo G p e R s m args below meth c nL mc ms Qf t (jp t)) (hret : xRet G p e R s m args below meth c cc mc ms rt Qf Q) (hK : ∀ a as h Q, K a as h Q → xMt G d a as h Q) (S : xSt G s nL mc ms h ls cs ss H locs LS) (hdg : decode cc pc = .ok (.lload k, 2)) (hok : xokI pp own ini nL (pc, mk, .lload k, a, b, v) = true) (hnx : xGo G p e R s m args below meth c nL mc ms Qf (pc + 2) nx) (hx : x1 (xX (gN G) (gX G)) K xal mc ms rt Q nx jp (pc, mk, .lload k, a, b, v) ls st h cs ss) : W p (gL G) e R s m args below meth c H locs cs ss Qf (F0 m pc LS (st.map (xcv G))) := by
  obtain ⟨hx0, hb, hml, hown, hts, hG, hso, hfr, hlo⟩ := id C
  have hO := hG.2.2.2.2.2.2.2.2.2.2.2.1
  have hk : k = a := of_decide_eq_true hok
  subst hk
  dsimp only [x1] at hx
  split at hx
  · rename_i x hg
    exact lv_lload hx0 hb hdg (x_at S.2.1 hg) (hnx _ _ _ _ _ _ _ _ hx S)
  · exact hx.elim
theorem y_aload_n {k : Fin 4} (C : xCx G p R s m args c cc nL own) (hR : d + 2 ≤ R.frames ∧ 28 + 30 * (d + 1) ≤ R.locals ∨ ∀ a as h Q, ¬ K a as h Q) (hRc : R.cells = mc ∧ R.slots = ms) (hini : ini = true → meth.name = "<init>") (hjp : ∀ t, xGo G p e R s m args below meth c nL mc ms Qf t (jp t)) (hret : xRet G p e R s m args below meth c cc mc ms rt Qf Q) (hK : ∀ a as h Q, K a as h Q → xMt G d a as h Q) (S : xSt G s nL mc ms h ls cs ss H locs LS) (hdg : decode cc pc = .ok (.aload_n k, 1)) (hok : xokI pp own ini nL (pc, mk, .aload_n k, a, b, v) = true) (hnx : xGo G p e R s m args below meth c nL mc ms Qf (pc + 1) nx) (hx : x1 (xX (gN G) (gX G)) K xal mc ms rt Q nx jp (pc, mk, .aload_n k, a, b, v) ls st h cs ss) : W p (gL G) e R s m args below meth c H locs cs ss Qf (F0 m pc LS (st.map (xcv G))) := by
  obtain ⟨hx0, hb, hml, hown, hts, hG, hso, hfr, hlo⟩ := id C
  have hO := hG.2.2.2.2.2.2.2.2.2.2.2.1
  have hk : (k : Nat) = a := of_decide_eq_true hok
  dsimp only [x1] at hx
  split at hx
  · rename_i x hg
    have h5 := hnx _ _ _ _ _ _ _ _ hx S
    have h6 := x_at S.2.1 hg
    rw [List.map_cons] at h5
    rcases xcv_ok1 hO x with h7 | ⟨A, h7⟩ <;> rw [h7] at h5 h6
    · exact lv_aload_nN hx0 hb hdg hk h6 h5
    · exact lv_aload_n hx0 hb hdg hk h6 h5
  · exact hx.elim
theorem y_aload {k : Nat} (C : xCx G p R s m args c cc nL own) (hR : d + 2 ≤ R.frames ∧ 28 + 30 * (d + 1) ≤ R.locals ∨ ∀ a as h Q, ¬ K a as h Q) (hRc : R.cells = mc ∧ R.slots = ms) (hini : ini = true → meth.name = "<init>") (hjp : ∀ t, xGo G p e R s m args below meth c nL mc ms Qf t (jp t)) (hret : xRet G p e R s m args below meth c cc mc ms rt Qf Q) (hK : ∀ a as h Q, K a as h Q → xMt G d a as h Q) (S : xSt G s nL mc ms h ls cs ss H locs LS) (hdg : decode cc pc = .ok (.aload k, 2)) (hok : xokI pp own ini nL (pc, mk, .aload k, a, b, v) = true) (hnx : xGo G p e R s m args below meth c nL mc ms Qf (pc + 2) nx) (hx : x1 (xX (gN G) (gX G)) K xal mc ms rt Q nx jp (pc, mk, .aload k, a, b, v) ls st h cs ss) : W p (gL G) e R s m args below meth c H locs cs ss Qf (F0 m pc LS (st.map (xcv G))) := by
  obtain ⟨hx0, hb, hml, hown, hts, hG, hso, hfr, hlo⟩ := id C
  have hO := hG.2.2.2.2.2.2.2.2.2.2.2.1
  have hk : k = a := of_decide_eq_true hok
  subst hk
  dsimp only [x1] at hx
  split at hx
  · rename_i x hg
    have h5 := hnx _ _ _ _ _ _ _ _ hx S
    have h6 := x_at S.2.1 hg
    rw [List.map_cons] at h5
    rcases xcv_ok1 hO x with h7 | ⟨A, h7⟩ <;> rw [h7] at h5 h6
    · exact lv_aloadN hx0 hb hdg h6 h5
    · exact lv_aload hx0 hb hdg h6 h5
  · exact hx.elim
theorem y_istore_n {k : Fin 4} (C : xCx G p R s m args c cc nL own) (hR : d + 2 ≤ R.frames ∧ 28 + 30 * (d + 1) ≤ R.locals ∨ ∀ a as h Q, ¬ K a as h Q) (hRc : R.cells = mc ∧ R.slots = ms) (hini : ini = true → meth.name = "<init>") (hjp : ∀ t, xGo G p e R s m args below meth c nL mc ms Qf t (jp t)) (hret : xRet G p e R s m args below meth c cc mc ms rt Qf Q) (hK : ∀ a as h Q, K a as h Q → xMt G d a as h Q) (S : xSt G s nL mc ms h ls cs ss H locs LS) (hdg : decode cc pc = .ok (.istore_n k, 1)) (hok : xokI pp own ini nL (pc, mk, .istore_n k, a, b, v) = true) (hnx : xGo G p e R s m args below meth c nL mc ms Qf (pc + 1) nx) (hx : x1 (xX (gN G) (gX G)) K xal mc ms rt Q nx jp (pc, mk, .istore_n k, a, b, v) ls st h cs ss) : W p (gL G) e R s m args below meth c H locs cs ss Qf (F0 m pc LS (st.map (xcv G))) := by
  obtain ⟨hx0, hb, hml, hown, hts, hG, hso, hfr, hlo⟩ := id C
  have hO := hG.2.2.2.2.2.2.2.2.2.2.2.1
  have h1 : (decide ((k : Nat) = a) && decide (a < nL)) = true := hok
  simp only [Bool.and_eq_true, decide_eq_true_eq] at h1
  dsimp only [x1] at hx
  split at hx
  · rename_i x r hn
    exact lv_istore_n hx0 hb hdg h1.1 S.2.1 h1.2 rfl (fun LS' hl => hnx _ _ _ _ _ _ _ _ hx ⟨S.1, x_store1 (v := .int x) hO hn hl, S.2.2⟩)
  · exact hx.elim
theorem y_istore {k : Nat} (C : xCx G p R s m args c cc nL own) (hR : d + 2 ≤ R.frames ∧ 28 + 30 * (d + 1) ≤ R.locals ∨ ∀ a as h Q, ¬ K a as h Q) (hRc : R.cells = mc ∧ R.slots = ms) (hini : ini = true → meth.name = "<init>") (hjp : ∀ t, xGo G p e R s m args below meth c nL mc ms Qf t (jp t)) (hret : xRet G p e R s m args below meth c cc mc ms rt Qf Q) (hK : ∀ a as h Q, K a as h Q → xMt G d a as h Q) (S : xSt G s nL mc ms h ls cs ss H locs LS) (hdg : decode cc pc = .ok (.istore k, 2)) (hok : xokI pp own ini nL (pc, mk, .istore k, a, b, v) = true) (hnx : xGo G p e R s m args below meth c nL mc ms Qf (pc + 2) nx) (hx : x1 (xX (gN G) (gX G)) K xal mc ms rt Q nx jp (pc, mk, .istore k, a, b, v) ls st h cs ss) : W p (gL G) e R s m args below meth c H locs cs ss Qf (F0 m pc LS (st.map (xcv G))) := by
  obtain ⟨hx0, hb, hml, hown, hts, hG, hso, hfr, hlo⟩ := id C
  have hO := hG.2.2.2.2.2.2.2.2.2.2.2.1
  have h1 : (decide (k = a) && decide (a < nL)) = true := hok
  simp only [Bool.and_eq_true, decide_eq_true_eq] at h1
  obtain ⟨rfl, h2⟩ := h1
  dsimp only [x1] at hx
  split at hx
  · rename_i x r hn
    exact lv_istore hx0 hb hdg S.2.1 h2 rfl (fun LS' hl => hnx _ _ _ _ _ _ _ _ hx ⟨S.1, x_store1 (v := .int x) hO hn hl, S.2.2⟩)
  · exact hx.elim
theorem y_lstore_n {k : Fin 4} (C : xCx G p R s m args c cc nL own) (hR : d + 2 ≤ R.frames ∧ 28 + 30 * (d + 1) ≤ R.locals ∨ ∀ a as h Q, ¬ K a as h Q) (hRc : R.cells = mc ∧ R.slots = ms) (hini : ini = true → meth.name = "<init>") (hjp : ∀ t, xGo G p e R s m args below meth c nL mc ms Qf t (jp t)) (hret : xRet G p e R s m args below meth c cc mc ms rt Qf Q) (hK : ∀ a as h Q, K a as h Q → xMt G d a as h Q) (S : xSt G s nL mc ms h ls cs ss H locs LS) (hdg : decode cc pc = .ok (.lstore_n k, 1)) (hok : xokI pp own ini nL (pc, mk, .lstore_n k, a, b, v) = true) (hnx : xGo G p e R s m args below meth c nL mc ms Qf (pc + 1) nx) (hx : x1 (xX (gN G) (gX G)) K xal mc ms rt Q nx jp (pc, mk, .lstore_n k, a, b, v) ls st h cs ss) : W p (gL G) e R s m args below meth c H locs cs ss Qf (F0 m pc LS (st.map (xcv G))) := by
  obtain ⟨hx0, hb, hml, hown, hts, hG, hso, hfr, hlo⟩ := id C
  have hO := hG.2.2.2.2.2.2.2.2.2.2.2.1
  have h1 : (decide ((k : Nat) = a) && decide (a + 1 < nL)) = true := hok
  simp only [Bool.and_eq_true, decide_eq_true_eq] at h1
  dsimp only [x1] at hx
  split at hx
  · rename_i x r hn
    exact lv_lstore_n hx0 hb hdg h1.1 S.2.1 h1.2 rfl (fun LS' hl => hnx _ _ _ _ _ _ _ _ hx ⟨S.1, x_store2 (v := .long x) hO hn hl, S.2.2⟩)
  · exact hx.elim
theorem y_lstore {k : Nat} (C : xCx G p R s m args c cc nL own) (hR : d + 2 ≤ R.frames ∧ 28 + 30 * (d + 1) ≤ R.locals ∨ ∀ a as h Q, ¬ K a as h Q) (hRc : R.cells = mc ∧ R.slots = ms) (hini : ini = true → meth.name = "<init>") (hjp : ∀ t, xGo G p e R s m args below meth c nL mc ms Qf t (jp t)) (hret : xRet G p e R s m args below meth c cc mc ms rt Qf Q) (hK : ∀ a as h Q, K a as h Q → xMt G d a as h Q) (S : xSt G s nL mc ms h ls cs ss H locs LS) (hdg : decode cc pc = .ok (.lstore k, 2)) (hok : xokI pp own ini nL (pc, mk, .lstore k, a, b, v) = true) (hnx : xGo G p e R s m args below meth c nL mc ms Qf (pc + 2) nx) (hx : x1 (xX (gN G) (gX G)) K xal mc ms rt Q nx jp (pc, mk, .lstore k, a, b, v) ls st h cs ss) : W p (gL G) e R s m args below meth c H locs cs ss Qf (F0 m pc LS (st.map (xcv G))) := by
  obtain ⟨hx0, hb, hml, hown, hts, hG, hso, hfr, hlo⟩ := id C
  have hO := hG.2.2.2.2.2.2.2.2.2.2.2.1
  have h1 : (decide (k = a) && decide (a + 1 < nL)) = true := hok
  simp only [Bool.and_eq_true, decide_eq_true_eq] at h1
  obtain ⟨rfl, h2⟩ := h1
  dsimp only [x1] at hx
  split at hx
  · rename_i x r hn
    exact lv_lstore hx0 hb hdg S.2.1 h2 rfl (fun LS' hl => hnx _ _ _ _ _ _ _ _ hx ⟨S.1, x_store2 (v := .long x) hO hn hl, S.2.2⟩)
  · exact hx.elim
theorem y_astore_n {k : Fin 4} (C : xCx G p R s m args c cc nL own) (hR : d + 2 ≤ R.frames ∧ 28 + 30 * (d + 1) ≤ R.locals ∨ ∀ a as h Q, ¬ K a as h Q) (hRc : R.cells = mc ∧ R.slots = ms) (hini : ini = true → meth.name = "<init>") (hjp : ∀ t, xGo G p e R s m args below meth c nL mc ms Qf t (jp t)) (hret : xRet G p e R s m args below meth c cc mc ms rt Qf Q) (hK : ∀ a as h Q, K a as h Q → xMt G d a as h Q) (S : xSt G s nL mc ms h ls cs ss H locs LS) (hdg : decode cc pc = .ok (.astore_n k, 1)) (hok : xokI pp own ini nL (pc, mk, .astore_n k, a, b, v) = true) (hnx : xGo G p e R s m args below meth c nL mc ms Qf (pc + 1) nx) (hx : x1 (xX (gN G) (gX G)) K xal mc ms rt Q nx jp (pc, mk, .astore_n k, a, b, v) ls st h cs ss) : W p (gL G) e R s m args below meth c H locs cs ss Qf (F0 m pc LS (st.map (xcv G))) := by
  obtain ⟨hx0, hb, hml, hown, hts, hG, hso, hfr, hlo⟩ := id C
  have hO := hG.2.2.2.2.2.2.2.2.2.2.2.1
  have h1 : (decide ((k : Nat) = a) && decide (a < nL)) = true := hok
  simp only [Bool.and_eq_true, decide_eq_true_eq] at h1
  dsimp only [x1] at hx
  split at hx
  · rename_i x r hn
    have h8 : ∀ LS', lv_has LS' nL ((a, xcv G (.ref x)) :: (xprs G ls).filter (fun q => !(q.1 == a) && !(q.1 + 1 == a && q.2.category == 2))) → W p (gL G) e R s m args below meth c H locs cs ss Qf (F0 m (pc + 1) LS' (r.map (xcv G))) := fun LS' hl => hnx _ _ _ _ _ _ _ _ hx ⟨S.1, x_store1 (v := .ref x) hO hn hl, S.2.2⟩
    rw [List.map_cons]
    rcases xcv_ok1 hO x with h7 | ⟨A, h7⟩ <;> rw [h7] at h8 ⊢
    · exact lv_astore_nN hx0 hb hdg h1.1 S.2.1 h1.2 rfl h8
    · exact lv_astore_n hx0 hb hdg h1.1 S.2.1 h1.2 rfl h8
  · exact hx.elim
theorem y_astore {k : Nat} (C : xCx G p R s m args c cc nL own) (hR : d + 2 ≤ R.frames ∧ 28 + 30 * (d + 1) ≤ R.locals ∨ ∀ a as h Q, ¬ K a as h Q) (hRc : R.cells = mc ∧ R.slots = ms) (hini : ini = true → meth.name = "<init>") (hjp : ∀ t, xGo G p e R s m args below meth c nL mc ms Qf t (jp t)) (hret : xRet G p e R s m args below meth c cc mc ms rt Qf Q) (hK : ∀ a as h Q, K a as h Q → xMt G d a as h Q) (S : xSt G s nL mc ms h ls cs ss H locs LS) (hdg : decode cc pc = .ok (.astore k, 2)) (hok : xokI pp own ini nL (pc, mk, .astore k, a, b, v) = true) (hnx : xGo G p e R s m args below meth c nL mc ms Qf (pc + 2) nx) (hx : x1 (xX (gN G) (gX G)) K xal mc ms rt Q nx jp (pc, mk, .astore k, a, b, v) ls st h cs ss) : W p (gL G) e R s m args below meth c H locs cs ss Qf (F0 m pc LS (st.map (xcv G))) := by
  obtain ⟨hx0, hb, hml, hown, hts, hG, hso, hfr, hlo⟩ := id C
  have hO := hG.2.2.2.2.2.2.2.2.2.2.2.1
  have h1 : (decide (k = a) && decide (a < nL)) = true := hok
  simp only [Bool.and_eq_true, decide_eq_true_eq] at h1
  obtain ⟨rfl, h2⟩ := h1
  dsimp only [x1] at hx
  split at hx
  · rename_i x r hn
    have h8 : ∀ LS', lv_has LS' nL ((k, xcv G (.ref x)) :: (xprs G ls).filter (fun q => !(q.1 == k) && !(q.1 + 1 == k && q.2.category == 2))) → W p (gL G) e R s m args below meth c H locs cs ss Qf (F0 m (pc + 2) LS' (r.map (xcv G))) := fun LS' hl => hnx _ _ _ _ _ _ _ _ hx ⟨S.1, x_store1 (v := .ref x) hO hn hl, S.2.2⟩
    rw [List.map_cons]
    rcases xcv_ok1 hO x with h7 | ⟨A, h7⟩ <;> rw [h7] at h8 ⊢
    · exact lv_astoreN hx0 hb hdg S.2.1 h2 rfl h8
    · exact lv_astore hx0 hb hdg S.2.1 h2 rfl h8
  · exact hx.elim
theorem y_iinc {k : Nat} {n : Int} (C : xCx G p R s m args c cc nL own) (hR : d + 2 ≤ R.frames ∧ 28 + 30 * (d + 1) ≤ R.locals ∨ ∀ a as h Q, ¬ K a as h Q) (hRc : R.cells = mc ∧ R.slots = ms) (hini : ini = true → meth.name = "<init>") (hjp : ∀ t, xGo G p e R s m args below meth c nL mc ms Qf t (jp t)) (hret : xRet G p e R s m args below meth c cc mc ms rt Qf Q) (hK : ∀ a as h Q, K a as h Q → xMt G d a as h Q) (S : xSt G s nL mc ms h ls cs ss H locs LS) (hdg : decode cc pc = .ok (.iinc k n, 3)) (hok : xokI pp own ini nL (pc, mk, .iinc k n, a, b, v) = true) (hnx : xGo G p e R s m args below meth c nL mc ms Qf (pc + 3) nx) (hx : x1 (xX (gN G) (gX G)) K xal mc ms rt Q nx jp (pc, mk, .iinc k n, a, b, v) ls st h cs ss) : W p (gL G) e R s m args below meth c H locs cs ss Qf (F0 m pc LS (st.map (xcv G))) := by
  obtain ⟨hx0, hb, hml, hown, hts, hG, hso, hfr, hlo⟩ := id C
  have hO := hG.2.2.2.2.2.2.2.2.2.2.2.1
  have h1 : (decide (k = a) && decide (a < nL) && decide (v = .int (Int32.ofInt n))) = true := hok
  simp only [Bool.and_eq_true, decide_eq_true_eq] at h1
  obtain ⟨⟨rfl, h2⟩, rfl⟩ := h1
  dsimp only [x1] at hx
  split at hx
  · rename_i x n' hg hn' hn
    cases hn'
    obtain ⟨i, hi⟩ := List.getElem?_of_mem (mem_xprs.mpr ⟨_, hg, rfl⟩ : (k, xcv G (.int x)) ∈ xprs G ls)
    exact lv_iinc (v := x + Int32.ofInt n) hx0 hb hdg S.2.1 hi rfl h2 rfl (fun LS' hl => hnx _ _ _ _ _ _ _ _ hx ⟨S.1, x_store1 (v := .int (x + Int32.ofInt n)) hO hn hl, S.2.2⟩)
  · exact hx.elim
theorem y_iadd (C : xCx G p R s m args c cc nL own) (hR : d + 2 ≤ R.frames ∧ 28 + 30 * (d + 1) ≤ R.locals ∨ ∀ a as h Q, ¬ K a as h Q) (hRc : R.cells = mc ∧ R.slots = ms) (hini : ini = true → meth.name = "<init>") (hjp : ∀ t, xGo G p e R s m args below meth c nL mc ms Qf t (jp t)) (hret : xRet G p e R s m args below meth c cc mc ms rt Qf Q) (hK : ∀ a as h Q, K a as h Q → xMt G d a as h Q) (S : xSt G s nL mc ms h ls cs ss H locs LS) (hdg : decode cc pc = .ok (.iadd, 1)) (hok : xokI pp own ini nL (pc, mk, .iadd, a, b, v) = true) (hnx : xGo G p e R s m args below meth c nL mc ms Qf (pc + 1) nx) (hx : x1 (xX (gN G) (gX G)) K xal mc ms rt Q nx jp (pc, mk, .iadd, a, b, v) ls st h cs ss) : W p (gL G) e R s m args below meth c H locs cs ss Qf (F0 m pc LS (st.map (xcv G))) := by
  obtain ⟨hx0, hb, hml, hown, hts, hG, hso, hfr, hlo⟩ := id C
  have hO := hG.2.2.2.2.2.2.2.2.2.2.2.1
  dsimp only [x1] at hx
  split at hx
  · exact lv_iadd hx0 hb hdg (hnx _ _ _ _ _ _ _ _ hx S)
  · exact hx.elim
theorem y_isub (C : xCx G p R s m args c cc nL own) (hR : d + 2 ≤ R.frames ∧ 28 + 30 * (d + 1) ≤ R.locals ∨ ∀ a as h Q, ¬ K a as h Q) (hRc : R.cells = mc ∧ R.slots = ms) (hini : ini = true → meth.name = "<init>") (hjp : ∀ t, xGo G p e R s m args below meth c nL mc ms Qf t (jp t)) (hret : xRet G p e R s m args below meth c cc mc ms rt Qf Q) (hK : ∀ a as h Q, K a as h Q → xMt G d a as h Q) (S : xSt G s nL mc ms h ls cs ss H locs LS) (hdg : decode cc pc = .ok (.isub, 1)) (hok : xokI pp own ini nL (pc, mk, .isub, a, b, v) = true) (hnx : xGo G p e R s m args below meth c nL mc ms Qf (pc + 1) nx) (hx : x1 (xX (gN G) (gX G)) K xal mc ms rt Q nx jp (pc, mk, .isub, a, b, v) ls st h cs ss) : W p (gL G) e R s m args below meth c H locs cs ss Qf (F0 m pc LS (st.map (xcv G))) := by
  obtain ⟨hx0, hb, hml, hown, hts, hG, hso, hfr, hlo⟩ := id C
  have hO := hG.2.2.2.2.2.2.2.2.2.2.2.1
  dsimp only [x1] at hx
  split at hx
  · exact lv_isub hx0 hb hdg (hnx _ _ _ _ _ _ _ _ hx S)
  · exact hx.elim
theorem y_imul (C : xCx G p R s m args c cc nL own) (hR : d + 2 ≤ R.frames ∧ 28 + 30 * (d + 1) ≤ R.locals ∨ ∀ a as h Q, ¬ K a as h Q) (hRc : R.cells = mc ∧ R.slots = ms) (hini : ini = true → meth.name = "<init>") (hjp : ∀ t, xGo G p e R s m args below meth c nL mc ms Qf t (jp t)) (hret : xRet G p e R s m args below meth c cc mc ms rt Qf Q) (hK : ∀ a as h Q, K a as h Q → xMt G d a as h Q) (S : xSt G s nL mc ms h ls cs ss H locs LS) (hdg : decode cc pc = .ok (.imul, 1)) (hok : xokI pp own ini nL (pc, mk, .imul, a, b, v) = true) (hnx : xGo G p e R s m args below meth c nL mc ms Qf (pc + 1) nx) (hx : x1 (xX (gN G) (gX G)) K xal mc ms rt Q nx jp (pc, mk, .imul, a, b, v) ls st h cs ss) : W p (gL G) e R s m args below meth c H locs cs ss Qf (F0 m pc LS (st.map (xcv G))) := by
  obtain ⟨hx0, hb, hml, hown, hts, hG, hso, hfr, hlo⟩ := id C
  have hO := hG.2.2.2.2.2.2.2.2.2.2.2.1
  dsimp only [x1] at hx
  split at hx
  · exact lv_imul hx0 hb hdg (hnx _ _ _ _ _ _ _ _ hx S)
  · exact hx.elim
theorem y_iand (C : xCx G p R s m args c cc nL own) (hR : d + 2 ≤ R.frames ∧ 28 + 30 * (d + 1) ≤ R.locals ∨ ∀ a as h Q, ¬ K a as h Q) (hRc : R.cells = mc ∧ R.slots = ms) (hini : ini = true → meth.name = "<init>") (hjp : ∀ t, xGo G p e R s m args below meth c nL mc ms Qf t (jp t)) (hret : xRet G p e R s m args below meth c cc mc ms rt Qf Q) (hK : ∀ a as h Q, K a as h Q → xMt G d a as h Q) (S : xSt G s nL mc ms h ls cs ss H locs LS) (hdg : decode cc pc = .ok (.iand, 1)) (hok : xokI pp own ini nL (pc, mk, .iand, a, b, v) = true) (hnx : xGo G p e R s m args below meth c nL mc ms Qf (pc + 1) nx) (hx : x1 (xX (gN G) (gX G)) K xal mc ms rt Q nx jp (pc, mk, .iand, a, b, v) ls st h cs ss) : W p (gL G) e R s m args below meth c H locs cs ss Qf (F0 m pc LS (st.map (xcv G))) := by
  obtain ⟨hx0, hb, hml, hown, hts, hG, hso, hfr, hlo⟩ := id C
  have hO := hG.2.2.2.2.2.2.2.2.2.2.2.1
  dsimp only [x1] at hx
  split at hx
  · exact lv_iand hx0 hb hdg (hnx _ _ _ _ _ _ _ _ hx S)
  · exact hx.elim
theorem y_ior (C : xCx G p R s m args c cc nL own) (hR : d + 2 ≤ R.frames ∧ 28 + 30 * (d + 1) ≤ R.locals ∨ ∀ a as h Q, ¬ K a as h Q) (hRc : R.cells = mc ∧ R.slots = ms) (hini : ini = true → meth.name = "<init>") (hjp : ∀ t, xGo G p e R s m args below meth c nL mc ms Qf t (jp t)) (hret : xRet G p e R s m args below meth c cc mc ms rt Qf Q) (hK : ∀ a as h Q, K a as h Q → xMt G d a as h Q) (S : xSt G s nL mc ms h ls cs ss H locs LS) (hdg : decode cc pc = .ok (.ior, 1)) (hok : xokI pp own ini nL (pc, mk, .ior, a, b, v) = true) (hnx : xGo G p e R s m args below meth c nL mc ms Qf (pc + 1) nx) (hx : x1 (xX (gN G) (gX G)) K xal mc ms rt Q nx jp (pc, mk, .ior, a, b, v) ls st h cs ss) : W p (gL G) e R s m args below meth c H locs cs ss Qf (F0 m pc LS (st.map (xcv G))) := by
  obtain ⟨hx0, hb, hml, hown, hts, hG, hso, hfr, hlo⟩ := id C
  have hO := hG.2.2.2.2.2.2.2.2.2.2.2.1
  dsimp only [x1] at hx
  split at hx
  · exact lv_ior hx0 hb hdg (hnx _ _ _ _ _ _ _ _ hx S)
  · exact hx.elim
theorem y_ixor (C : xCx G p R s m args c cc nL own) (hR : d + 2 ≤ R.frames ∧ 28 + 30 * (d + 1) ≤ R.locals ∨ ∀ a as h Q, ¬ K a as h Q) (hRc : R.cells = mc ∧ R.slots = ms) (hini : ini = true → meth.name = "<init>") (hjp : ∀ t, xGo G p e R s m args below meth c nL mc ms Qf t (jp t)) (hret : xRet G p e R s m args below meth c cc mc ms rt Qf Q) (hK : ∀ a as h Q, K a as h Q → xMt G d a as h Q) (S : xSt G s nL mc ms h ls cs ss H locs LS) (hdg : decode cc pc = .ok (.ixor, 1)) (hok : xokI pp own ini nL (pc, mk, .ixor, a, b, v) = true) (hnx : xGo G p e R s m args below meth c nL mc ms Qf (pc + 1) nx) (hx : x1 (xX (gN G) (gX G)) K xal mc ms rt Q nx jp (pc, mk, .ixor, a, b, v) ls st h cs ss) : W p (gL G) e R s m args below meth c H locs cs ss Qf (F0 m pc LS (st.map (xcv G))) := by
  obtain ⟨hx0, hb, hml, hown, hts, hG, hso, hfr, hlo⟩ := id C
  have hO := hG.2.2.2.2.2.2.2.2.2.2.2.1
  dsimp only [x1] at hx
  split at hx
  · exact lv_ixor hx0 hb hdg (hnx _ _ _ _ _ _ _ _ hx S)
  · exact hx.elim
theorem y_ishl (C : xCx G p R s m args c cc nL own) (hR : d + 2 ≤ R.frames ∧ 28 + 30 * (d + 1) ≤ R.locals ∨ ∀ a as h Q, ¬ K a as h Q) (hRc : R.cells = mc ∧ R.slots = ms) (hini : ini = true → meth.name = "<init>") (hjp : ∀ t, xGo G p e R s m args below meth c nL mc ms Qf t (jp t)) (hret : xRet G p e R s m args below meth c cc mc ms rt Qf Q) (hK : ∀ a as h Q, K a as h Q → xMt G d a as h Q) (S : xSt G s nL mc ms h ls cs ss H locs LS) (hdg : decode cc pc = .ok (.ishl, 1)) (hok : xokI pp own ini nL (pc, mk, .ishl, a, b, v) = true) (hnx : xGo G p e R s m args below meth c nL mc ms Qf (pc + 1) nx) (hx : x1 (xX (gN G) (gX G)) K xal mc ms rt Q nx jp (pc, mk, .ishl, a, b, v) ls st h cs ss) : W p (gL G) e R s m args below meth c H locs cs ss Qf (F0 m pc LS (st.map (xcv G))) := by
  obtain ⟨hx0, hb, hml, hown, hts, hG, hso, hfr, hlo⟩ := id C
  have hO := hG.2.2.2.2.2.2.2.2.2.2.2.1
  dsimp only [x1] at hx
  split at hx
  · exact lv_ishl hx0 hb hdg (hnx _ _ _ _ _ _ _ _ hx S)
  · exact hx.elim
theorem y_ishr (C : xCx G p R s m args c cc nL own) (hR : d + 2 ≤ R.frames ∧ 28 + 30 * (d + 1) ≤ R.locals ∨ ∀ a as h Q, ¬ K a as h Q) (hRc : R.cells = mc ∧ R.slots = ms) (hini : ini = true → meth.name = "<init>") (hjp : ∀ t, xGo G p e R s m args below meth c nL mc ms Qf t (jp t)) (hret : xRet G p e R s m args below meth c cc mc ms rt Qf Q) (hK : ∀ a as h Q, K a as h Q → xMt G d a as h Q) (S : xSt G s nL mc ms h ls cs ss H locs LS) (hdg : decode cc pc = .ok (.ishr, 1)) (hok : xokI pp own ini nL (pc, mk, .ishr, a, b, v) = true) (hnx : xGo G p e R s m args below meth c nL mc ms Qf (pc + 1) nx) (hx : x1 (xX (gN G) (gX G)) K xal mc ms rt Q nx jp (pc, mk, .ishr, a, b, v) ls st h cs ss) : W p (gL G) e R s m args below meth c H locs cs ss Qf (F0 m pc LS (st.map (xcv G))) := by
  obtain ⟨hx0, hb, hml, hown, hts, hG, hso, hfr, hlo⟩ := id C
  have hO := hG.2.2.2.2.2.2.2.2.2.2.2.1
  dsimp only [x1] at hx
  split at hx
  · exact lv_ishr hx0 hb hdg (hnx _ _ _ _ _ _ _ _ hx S)
  · exact hx.elim
theorem y_ladd (C : xCx G p R s m args c cc nL own) (hR : d + 2 ≤ R.frames ∧ 28 + 30 * (d + 1) ≤ R.locals ∨ ∀ a as h Q, ¬ K a as h Q) (hRc : R.cells = mc ∧ R.slots = ms) (hini : ini = true → meth.name = "<init>") (hjp : ∀ t, xGo G p e R s m args below meth c nL mc ms Qf t (jp t)) (hret : xRet G p e R s m args below meth c cc mc ms rt Qf Q) (hK : ∀ a as h Q, K a as h Q → xMt G d a as h Q) (S : xSt G s nL mc ms h ls cs ss H locs LS) (hdg : decode cc pc = .ok (.ladd, 1)) (hok : xokI pp own ini nL (pc, mk, .ladd, a, b, v) = true) (hnx : xGo G p e R s m args below meth c nL mc ms Qf (pc + 1) nx) (hx : x1 (xX (gN G) (gX G)) K xal mc ms rt Q nx jp (pc, mk, .ladd, a, b, v) ls st h cs ss) : W p (gL G) e R s m args below meth c H locs cs ss Qf (F0 m pc LS (st.map (xcv G))) := by
  obtain ⟨hx0, hb, hml, hown, hts, hG, hso, hfr, hlo⟩ := id C
  have hO := hG.2.2.2.2.2.2.2.2.2.2.2.1
  dsimp only [x1] at hx
  split at hx
  · exact lv_ladd hx0 hb hdg (hnx _ _ _ _ _ _ _ _ hx S)
  · exact hx.elim
theorem y_lsub (C : xCx G p R s m args c cc nL own) (hR : d + 2 ≤ R.frames ∧ 28 + 30 * (d + 1) ≤ R.locals ∨ ∀ a as h Q, ¬ K a as h Q) (hRc : R.cells = mc ∧ R.slots = ms) (hini : ini = true → meth.name = "<init>") (hjp : ∀ t, xGo G p e R s m args below meth c nL mc ms Qf t (jp t)) (hret : xRet G p e R s m args below meth c cc mc ms rt Qf Q) (hK : ∀ a as h Q, K a as h Q → xMt G d a as h Q) (S : xSt G s nL mc ms h ls cs ss H locs LS) (hdg : decode cc pc = .ok (.lsub, 1)) (hok : xokI pp own ini nL (pc, mk, .lsub, a, b, v) = true) (hnx : xGo G p e R s m args below meth c nL mc ms Qf (pc + 1) nx) (hx : x1 (xX (gN G) (gX G)) K xal mc ms rt Q nx jp (pc, mk, .lsub, a, b, v) ls st h cs ss) : W p (gL G) e R s m args below meth c H locs cs ss Qf (F0 m pc LS (st.map (xcv G))) := by
  obtain ⟨hx0, hb, hml, hown, hts, hG, hso, hfr, hlo⟩ := id C
  have hO := hG.2.2.2.2.2.2.2.2.2.2.2.1
  dsimp only [x1] at hx
  split at hx
  · exact lv_lsub hx0 hb hdg (hnx _ _ _ _ _ _ _ _ hx S)
  · exact hx.elim
theorem y_land (C : xCx G p R s m args c cc nL own) (hR : d + 2 ≤ R.frames ∧ 28 + 30 * (d + 1) ≤ R.locals ∨ ∀ a as h Q, ¬ K a as h Q) (hRc : R.cells = mc ∧ R.slots = ms) (hini : ini = true → meth.name = "<init>") (hjp : ∀ t, xGo G p e R s m args below meth c nL mc ms Qf t (jp t)) (hret : xRet G p e R s m args below meth c cc mc ms rt Qf Q) (hK : ∀ a as h Q, K a as h Q → xMt G d a as h Q) (S : xSt G s nL mc ms h ls cs ss H locs LS) (hdg : decode cc pc = .ok (.land, 1)) (hok : xokI pp own ini nL (pc, mk, .land, a, b, v) = true) (hnx : xGo G p e R s m args below meth c nL mc ms Qf (pc + 1) nx) (hx : x1 (xX (gN G) (gX G)) K xal mc ms rt Q nx jp (pc, mk, .land, a, b, v) ls st h cs ss) : W p (gL G) e R s m args below meth c H locs cs ss Qf (F0 m pc LS (st.map (xcv G))) := by
  obtain ⟨hx0, hb, hml, hown, hts, hG, hso, hfr, hlo⟩ := id C
  have hO := hG.2.2.2.2.2.2.2.2.2.2.2.1
  dsimp only [x1] at hx
  split at hx
  · exact lv_land hx0 hb hdg (hnx _ _ _ _ _ _ _ _ hx S)
  · exact hx.elim
theorem y_lor (C : xCx G p R s m args c cc nL own) (hR : d + 2 ≤ R.frames ∧ 28 + 30 * (d + 1) ≤ R.locals ∨ ∀ a as h Q, ¬ K a as h Q) (hRc : R.cells = mc ∧ R.slots = ms) (hini : ini = true → meth.name = "<init>") (hjp : ∀ t, xGo G p e R s m args below meth c nL mc ms Qf t (jp t)) (hret : xRet G p e R s m args below meth c cc mc ms rt Qf Q) (hK : ∀ a as h Q, K a as h Q → xMt G d a as h Q) (S : xSt G s nL mc ms h ls cs ss H locs LS) (hdg : decode cc pc = .ok (.lor, 1)) (hok : xokI pp own ini nL (pc, mk, .lor, a, b, v) = true) (hnx : xGo G p e R s m args below meth c nL mc ms Qf (pc + 1) nx) (hx : x1 (xX (gN G) (gX G)) K xal mc ms rt Q nx jp (pc, mk, .lor, a, b, v) ls st h cs ss) : W p (gL G) e R s m args below meth c H locs cs ss Qf (F0 m pc LS (st.map (xcv G))) := by
  obtain ⟨hx0, hb, hml, hown, hts, hG, hso, hfr, hlo⟩ := id C
  have hO := hG.2.2.2.2.2.2.2.2.2.2.2.1
  dsimp only [x1] at hx
  split at hx
  · exact lv_lor hx0 hb hdg (hnx _ _ _ _ _ _ _ _ hx S)
  · exact hx.elim
theorem y_iushr (C : xCx G p R s m args c cc nL own) (hR : d + 2 ≤ R.frames ∧ 28 + 30 * (d + 1) ≤ R.locals ∨ ∀ a as h Q, ¬ K a as h Q) (hRc : R.cells = mc ∧ R.slots = ms) (hini : ini = true → meth.name = "<init>") (hjp : ∀ t, xGo G p e R s m args below meth c nL mc ms Qf t (jp t)) (hret : xRet G p e R s m args below meth c cc mc ms rt Qf Q) (hK : ∀ a as h Q, K a as h Q → xMt G d a as h Q) (S : xSt G s nL mc ms h ls cs ss H locs LS) (hdg : decode cc pc = .ok (.iushr, 1)) (hok : xokI pp own ini nL (pc, mk, .iushr, a, b, v) = true) (hnx : xGo G p e R s m args below meth c nL mc ms Qf (pc + 1) nx) (hx : x1 (xX (gN G) (gX G)) K xal mc ms rt Q nx jp (pc, mk, .iushr, a, b, v) ls st h cs ss) : W p (gL G) e R s m args below meth c H locs cs ss Qf (F0 m pc LS (st.map (xcv G))) := by
  obtain ⟨hx0, hb, hml, hown, hts, hG, hso, hfr, hlo⟩ := id C
  have hO := hG.2.2.2.2.2.2.2.2.2.2.2.1
  dsimp only [x1] at hx
  split at hx
  · exact lv_iushr hx0 hb hdg rfl (hnx _ _ _ _ _ _ _ _ hx S)
  · exact hx.elim
theorem y_lushr (C : xCx G p R s m args c cc nL own) (hR : d + 2 ≤ R.frames ∧ 28 + 30 * (d + 1) ≤ R.locals ∨ ∀ a as h Q, ¬ K a as h Q) (hRc : R.cells = mc ∧ R.slots = ms) (hini : ini = true → meth.name = "<init>") (hjp : ∀ t, xGo G p e R s m args below meth c nL mc ms Qf t (jp t)) (hret : xRet G p e R s m args below meth c cc mc ms rt Qf Q) (hK : ∀ a as h Q, K a as h Q → xMt G d a as h Q) (S : xSt G s nL mc ms h ls cs ss H locs LS) (hdg : decode cc pc = .ok (.lushr, 1)) (hok : xokI pp own ini nL (pc, mk, .lushr, a, b, v) = true) (hnx : xGo G p e R s m args below meth c nL mc ms Qf (pc + 1) nx) (hx : x1 (xX (gN G) (gX G)) K xal mc ms rt Q nx jp (pc, mk, .lushr, a, b, v) ls st h cs ss) : W p (gL G) e R s m args below meth c H locs cs ss Qf (F0 m pc LS (st.map (xcv G))) := by
  obtain ⟨hx0, hb, hml, hown, hts, hG, hso, hfr, hlo⟩ := id C
  have hO := hG.2.2.2.2.2.2.2.2.2.2.2.1
  dsimp only [x1] at hx
  split at hx
  · exact lv_lushr hx0 hb hdg rfl (hnx _ _ _ _ _ _ _ _ hx S)
  · exact hx.elim
theorem y_lshl (C : xCx G p R s m args c cc nL own) (hR : d + 2 ≤ R.frames ∧ 28 + 30 * (d + 1) ≤ R.locals ∨ ∀ a as h Q, ¬ K a as h Q) (hRc : R.cells = mc ∧ R.slots = ms) (hini : ini = true → meth.name = "<init>") (hjp : ∀ t, xGo G p e R s m args below meth c nL mc ms Qf t (jp t)) (hret : xRet G p e R s m args below meth c cc mc ms rt Qf Q) (hK : ∀ a as h Q, K a as h Q → xMt G d a as h Q) (S : xSt G s nL mc ms h ls cs ss H locs LS) (hdg : decode cc pc = .ok (.lshl, 1)) (hok : xokI pp own ini nL (pc, mk, .lshl, a, b, v) = true) (hnx : xGo G p e R s m args below meth c nL mc ms Qf (pc + 1) nx) (hx : x1 (xX (gN G) (gX G)) K xal mc ms rt Q nx jp (pc, mk, .lshl, a, b, v) ls st h cs ss) : W p (gL G) e R s m args below meth c H locs cs ss Qf (F0 m pc LS (st.map (xcv G))) := by
  obtain ⟨hx0, hb, hml, hown, hts, hG, hso, hfr, hlo⟩ := id C
  have hO := hG.2.2.2.2.2.2.2.2.2.2.2.1
  dsimp only [x1] at hx
  split at hx
  · exact lv_lshl hx0 hb hdg rfl (hnx _ _ _ _ _ _ _ _ hx S)
  · exact hx.elim
theorem y_lshr (C : xCx G p R s m args c cc nL own) (hR : d + 2 ≤ R.frames ∧ 28 + 30 * (d + 1) ≤ R.locals ∨ ∀ a as h Q, ¬ K a as h Q) (hRc : R.cells = mc ∧ R.slots = ms) (hini : ini = true → meth.name = "<init>") (hjp : ∀ t, xGo G p e R s m args below meth c nL mc ms Qf t (jp t)) (hret : xRet G p e R s m args below meth c cc mc ms rt Qf Q) (hK : ∀ a as h Q, K a as h Q → xMt G d a as h Q) (S : xSt G s nL mc ms h ls cs ss H locs LS) (hdg : decode cc pc = .ok (.lshr, 1)) (hok : xokI pp own ini nL (pc, mk, .lshr, a, b, v) = true) (hnx : xGo G p e R s m args below meth c nL mc ms Qf (pc + 1) nx) (hx : x1 (xX (gN G) (gX G)) K xal mc ms rt Q nx jp (pc, mk, .lshr, a, b, v) ls st h cs ss) : W p (gL G) e R s m args below meth c H locs cs ss Qf (F0 m pc LS (st.map (xcv G))) := by
  obtain ⟨hx0, hb, hml, hown, hts, hG, hso, hfr, hlo⟩ := id C
  have hO := hG.2.2.2.2.2.2.2.2.2.2.2.1
  dsimp only [x1] at hx
  split at hx
  · exact lv_lshr hx0 hb hdg rfl (hnx _ _ _ _ _ _ _ _ hx S)
  · exact hx.elim
theorem y_i2l (C : xCx G p R s m args c cc nL own) (hR : d + 2 ≤ R.frames ∧ 28 + 30 * (d + 1) ≤ R.locals ∨ ∀ a as h Q, ¬ K a as h Q) (hRc : R.cells = mc ∧ R.slots = ms) (hini : ini = true → meth.name = "<init>") (hjp : ∀ t, xGo G p e R s m args below meth c nL mc ms Qf t (jp t)) (hret : xRet G p e R s m args below meth c cc mc ms rt Qf Q) (hK : ∀ a as h Q, K a as h Q → xMt G d a as h Q) (S : xSt G s nL mc ms h ls cs ss H locs LS) (hdg : decode cc pc = .ok (.i2l, 1)) (hok : xokI pp own ini nL (pc, mk, .i2l, a, b, v) = true) (hnx : xGo G p e R s m args below meth c nL mc ms Qf (pc + 1) nx) (hx : x1 (xX (gN G) (gX G)) K xal mc ms rt Q nx jp (pc, mk, .i2l, a, b, v) ls st h cs ss) : W p (gL G) e R s m args below meth c H locs cs ss Qf (F0 m pc LS (st.map (xcv G))) := by
  obtain ⟨hx0, hb, hml, hown, hts, hG, hso, hfr, hlo⟩ := id C
  have hO := hG.2.2.2.2.2.2.2.2.2.2.2.1
  dsimp only [x1] at hx
  split at hx
  · exact lv_i2l hx0 hb hdg rfl (hnx _ _ _ _ _ _ _ _ hx S)
  · exact hx.elim
theorem y_l2i (C : xCx G p R s m args c cc nL own) (hR : d + 2 ≤ R.frames ∧ 28 + 30 * (d + 1) ≤ R.locals ∨ ∀ a as h Q, ¬ K a as h Q) (hRc : R.cells = mc ∧ R.slots = ms) (hini : ini = true → meth.name = "<init>") (hjp : ∀ t, xGo G p e R s m args below meth c nL mc ms Qf t (jp t)) (hret : xRet G p e R s m args below meth c cc mc ms rt Qf Q) (hK : ∀ a as h Q, K a as h Q → xMt G d a as h Q) (S : xSt G s nL mc ms h ls cs ss H locs LS) (hdg : decode cc pc = .ok (.l2i, 1)) (hok : xokI pp own ini nL (pc, mk, .l2i, a, b, v) = true) (hnx : xGo G p e R s m args below meth c nL mc ms Qf (pc + 1) nx) (hx : x1 (xX (gN G) (gX G)) K xal mc ms rt Q nx jp (pc, mk, .l2i, a, b, v) ls st h cs ss) : W p (gL G) e R s m args below meth c H locs cs ss Qf (F0 m pc LS (st.map (xcv G))) := by
  obtain ⟨hx0, hb, hml, hown, hts, hG, hso, hfr, hlo⟩ := id C
  have hO := hG.2.2.2.2.2.2.2.2.2.2.2.1
  dsimp only [x1] at hx
  split at hx
  · exact lv_l2i hx0 hb hdg rfl (hnx _ _ _ _ _ _ _ _ hx S)
  · exact hx.elim
theorem y_i2b (C : xCx G p R s m args c cc nL own) (hR : d + 2 ≤ R.frames ∧ 28 + 30 * (d + 1) ≤ R.locals ∨ ∀ a as h Q, ¬ K a as h Q) (hRc : R.cells = mc ∧ R.slots = ms) (hini : ini = true → meth.name = "<init>") (hjp : ∀ t, xGo G p e R s m args below meth c nL mc ms Qf t (jp t)) (hret : xRet G p e R s m args below meth c cc mc ms rt Qf Q) (hK : ∀ a as h Q, K a as h Q → xMt G d a as h Q) (S : xSt G s nL mc ms h ls cs ss H locs LS) (hdg : decode cc pc = .ok (.i2b, 1)) (hok : xokI pp own ini nL (pc, mk, .i2b, a, b, v) = true) (hnx : xGo G p e R s m args below meth c nL mc ms Qf (pc + 1) nx) (hx : x1 (xX (gN G) (gX G)) K xal mc ms rt Q nx jp (pc, mk, .i2b, a, b, v) ls st h cs ss) : W p (gL G) e R s m args below meth c H locs cs ss Qf (F0 m pc LS (st.map (xcv G))) := by
  obtain ⟨hx0, hb, hml, hown, hts, hG, hso, hfr, hlo⟩ := id C
  have hO := hG.2.2.2.2.2.2.2.2.2.2.2.1
  dsimp only [x1] at hx
  split at hx
  · exact lv_i2b hx0 hb hdg rfl (hnx _ _ _ _ _ _ _ _ hx S)
  · exact hx.elim
theorem y_i2s (C : xCx G p R s m args c cc nL own) (hR : d + 2 ≤ R.frames ∧ 28 + 30 * (d + 1) ≤ R.locals ∨ ∀ a as h Q, ¬ K a as h Q) (hRc : R.cells = mc ∧ R.slots = ms) (hini : ini = true → meth.name = "<init>") (hjp : ∀ t, xGo G p e R s m args below meth c nL mc ms Qf t (jp t)) (hret : xRet G p e R s m args below meth c cc mc ms rt Qf Q) (hK : ∀ a as h Q, K a as h Q → xMt G d a as h Q) (S : xSt G s nL mc ms h ls cs ss H locs LS) (hdg : decode cc pc = .ok (.i2s, 1)) (hok : xokI pp own ini nL (pc, mk, .i2s, a, b, v) = true) (hnx : xGo G p e R s m args below meth c nL mc ms Qf (pc + 1) nx) (hx : x1 (xX (gN G) (gX G)) K xal mc ms rt Q nx jp (pc, mk, .i2s, a, b, v) ls st h cs ss) : W p (gL G) e R s m args below meth c H locs cs ss Qf (F0 m pc LS (st.map (xcv G))) := by
  obtain ⟨hx0, hb, hml, hown, hts, hG, hso, hfr, hlo⟩ := id C
  have hO := hG.2.2.2.2.2.2.2.2.2.2.2.1
  dsimp only [x1] at hx
  split at hx
  · exact lv_i2s hx0 hb hdg rfl (hnx _ _ _ _ _ _ _ _ hx S)
  · exact hx.elim
theorem y_i2c (C : xCx G p R s m args c cc nL own) (hR : d + 2 ≤ R.frames ∧ 28 + 30 * (d + 1) ≤ R.locals ∨ ∀ a as h Q, ¬ K a as h Q) (hRc : R.cells = mc ∧ R.slots = ms) (hini : ini = true → meth.name = "<init>") (hjp : ∀ t, xGo G p e R s m args below meth c nL mc ms Qf t (jp t)) (hret : xRet G p e R s m args below meth c cc mc ms rt Qf Q) (hK : ∀ a as h Q, K a as h Q → xMt G d a as h Q) (S : xSt G s nL mc ms h ls cs ss H locs LS) (hdg : decode cc pc = .ok (.i2c, 1)) (hok : xokI pp own ini nL (pc, mk, .i2c, a, b, v) = true) (hnx : xGo G p e R s m args below meth c nL mc ms Qf (pc + 1) nx) (hx : x1 (xX (gN G) (gX G)) K xal mc ms rt Q nx jp (pc, mk, .i2c, a, b, v) ls st h cs ss) : W p (gL G) e R s m args below meth c H locs cs ss Qf (F0 m pc LS (st.map (xcv G))) := by
  obtain ⟨hx0, hb, hml, hown, hts, hG, hso, hfr, hlo⟩ := id C
  have hO := hG.2.2.2.2.2.2.2.2.2.2.2.1
  dsimp only [x1] at hx
  split at hx
  · exact lv_i2c hx0 hb hdg rfl (hnx _ _ _ _ _ _ _ _ hx S)
  · exact hx.elim
theorem y_idiv (C : xCx G p R s m args c cc nL own) (hR : d + 2 ≤ R.frames ∧ 28 + 30 * (d + 1) ≤ R.locals ∨ ∀ a as h Q, ¬ K a as h Q) (hRc : R.cells = mc ∧ R.slots = ms) (hini : ini = true → meth.name = "<init>") (hjp : ∀ t, xGo G p e R s m args below meth c nL mc ms Qf t (jp t)) (hret : xRet G p e R s m args below meth c cc mc ms rt Qf Q) (hK : ∀ a as h Q, K a as h Q → xMt G d a as h Q) (S : xSt G s nL mc ms h ls cs ss H locs LS) (hdg : decode cc pc = .ok (.idiv, 1)) (hok : xokI pp own ini nL (pc, mk, .idiv, a, b, v) = true) (hnx : xGo G p e R s m args below meth c nL mc ms Qf (pc + 1) nx) (hx : x1 (xX (gN G) (gX G)) K xal mc ms rt Q nx jp (pc, mk, .idiv, a, b, v) ls st h cs ss) : W p (gL G) e R s m args below meth c H locs cs ss Qf (F0 m pc LS (st.map (xcv G))) := by
  obtain ⟨hx0, hb, hml, hown, hts, hG, hso, hfr, hlo⟩ := id C
  have hO := hG.2.2.2.2.2.2.2.2.2.2.2.1
  dsimp only [x1] at hx
  split at hx
  · exact lv_idiv hx0 hb hdg (xite_no hx).1 (hnx _ _ _ _ _ _ _ _ (xite_no hx).2 S)
  · exact hx.elim
theorem y_irem (C : xCx G p R s m args c cc nL own) (hR : d + 2 ≤ R.frames ∧ 28 + 30 * (d + 1) ≤ R.locals ∨ ∀ a as h Q, ¬ K a as h Q) (hRc : R.cells = mc ∧ R.slots = ms) (hini : ini = true → meth.name = "<init>") (hjp : ∀ t, xGo G p e R s m args below meth c nL mc ms Qf t (jp t)) (hret : xRet G p e R s m args below meth c cc mc ms rt Qf Q) (hK : ∀ a as h Q, K a as h Q → xMt G d a as h Q) (S : xSt G s nL mc ms h ls cs ss H locs LS) (hdg : decode cc pc = .ok (.irem, 1)) (hok : xokI pp own ini nL (pc, mk, .irem, a, b, v) = true) (hnx : xGo G p e R s m args below meth c nL mc ms Qf (pc + 1) nx) (hx : x1 (xX (gN G) (gX G)) K xal mc ms rt Q nx jp (pc, mk, .irem, a, b, v) ls st h cs ss) : W p (gL G) e R s m args below meth c H locs cs ss Qf (F0 m pc LS (st.map (xcv G))) := by
  obtain ⟨hx0, hb, hml, hown, hts, hG, hso, hfr, hlo⟩ := id C
  have hO := hG.2.2.2.2.2.2.2.2.2.2.2.1
  dsimp only [x1] at hx
  split at hx
  · exact lv_irem hx0 hb hdg (xite_no hx).1 (hnx _ _ _ _ _ _ _ _ (xite_no hx).2 S)
  · exact hx.elim
theorem y_lcmp (C : xCx G p R s m args c cc nL own) (hR : d + 2 ≤ R.frames ∧ 28 + 30 * (d + 1) ≤ R.locals ∨ ∀ a as h Q, ¬ K a as h Q) (hRc : R.cells = mc ∧ R.slots = ms) (hini : ini = true → meth.name = "<init>") (hjp : ∀ t, xGo G p e R s m args below meth c nL mc ms Qf t (jp t)) (hret : xRet G p e R s m args below meth c cc mc ms rt Qf Q) (hK : ∀ a as h Q, K a as h Q → xMt G d a as h Q) (S : xSt G s nL mc ms h ls cs ss H locs LS) (hdg : decode cc pc = .ok (.lcmp, 1)) (hok : xokI pp own ini nL (pc, mk, .lcmp, a, b, v) = true) (hnx : xGo G p e R s m args below meth c nL mc ms Qf (pc + 1) nx) (hx : x1 (xX (gN G) (gX G)) K xal mc ms rt Q nx jp (pc, mk, .lcmp, a, b, v) ls st h cs ss) : W p (gL G) e R s m args below meth c H locs cs ss Qf (F0 m pc LS (st.map (xcv G))) := by
  obtain ⟨hx0, hb, hml, hown, hts, hG, hso, hfr, hlo⟩ := id C
  have hO := hG.2.2.2.2.2.2.2.2.2.2.2.1
  dsimp only [x1] at hx
  split at hx
  · exact W.lcmp hx0 hb hdg (hnx _ _ _ _ _ _ _ _ hx S)
  · exact hx.elim
theorem y_dup (C : xCx G p R s m args c cc nL own) (hR : d + 2 ≤ R.frames ∧ 28 + 30 * (d + 1) ≤ R.locals ∨ ∀ a as h Q, ¬ K a as h Q) (hRc : R.cells = mc ∧ R.slots = ms) (hini : ini = true → meth.name = "<init>") (hjp : ∀ t, xGo G p e R s m args below meth c nL mc ms Qf t (jp t)) (hret : xRet G p e R s m args below meth c cc mc ms rt Qf Q) (hK : ∀ a as h Q, K a as h Q → xMt G d a as h Q) (S : xSt G s nL mc ms h ls cs ss H locs LS) (hdg : decode cc pc = .ok (.dup, 1)) (hok : xokI pp own ini nL (pc, mk, .dup, a, b, v) = true) (hnx : xGo G p e R s m args below meth c nL mc ms Qf (pc + 1) nx) (hx : x1 (xX (gN G) (gX G)) K xal mc ms rt Q nx jp (pc, mk, .dup, a, b, v) ls st h cs ss) : W p (gL G) e R s m args below meth c H locs cs ss Qf (F0 m pc LS (st.map (xcv G))) := by
  obtain ⟨hx0, hb, hml, hown, hts, hG, hso, hfr, hlo⟩ := id C
  have hO := hG.2.2.2.2.2.2.2.2.2.2.2.1
  dsimp only [x1] at hx
  split at hx
  · exact lv_dup hx0 hb hdg rfl (hnx _ _ _ _ _ _ _ _ hx S)
  · exact lv_dup hx0 hb hdg (xcv_cat hO _) (hnx _ _ _ _ _ _ _ _ hx S)
  · exact hx.elim
theorem y_dup2 (C : xCx G p R s m args c cc nL own) (hR : d + 2 ≤ R.frames ∧ 28 + 30 * (d + 1) ≤ R.locals ∨ ∀ a as h Q, ¬ K a as h Q) (hRc : R.cells = mc ∧ R.slots = ms) (hini : ini = true → meth.name = "<init>") (hjp : ∀ t, xGo G p e R s m args below meth c nL mc ms Qf t (jp t)) (hret : xRet G p e R s m args below meth c cc mc ms rt Qf Q) (hK : ∀ a as h Q, K a as h Q → xMt G d a as h Q) (S : xSt G s nL mc ms h ls cs ss H locs LS) (hdg : decode cc pc = .ok (.dup2, 1)) (hok : xokI pp own ini nL (pc, mk, .dup2, a, b, v) = true) (hnx : xGo G p e R s m args below meth c nL mc ms Qf (pc + 1) nx) (hx : x1 (xX (gN G) (gX G)) K xal mc ms rt Q nx jp (pc, mk, .dup2, a, b, v) ls st h cs ss) : W p (gL G) e R s m args below meth c H locs cs ss Qf (F0 m pc LS (st.map (xcv G))) := by
  obtain ⟨hx0, hb, hml, hown, hts, hG, hso, hfr, hlo⟩ := id C
  have hO := hG.2.2.2.2.2.2.2.2.2.2.2.1
  dsimp only [x1] at hx
  split at hx
  · exact lv_dup2_11 hx0 hb hdg rfl (xcv_cat hO _) (hnx _ _ _ _ _ _ _ _ hx S)
  · exact hx.elim
theorem y_pop (C : xCx G p R s m args c cc nL own) (hR : d + 2 ≤ R.frames ∧ 28 + 30 * (d + 1) ≤ R.locals ∨ ∀ a as h Q, ¬ K a as h Q) (hRc : R.cells = mc ∧ R.slots = ms) (hini : ini = true → meth.name = "<init>") (hjp : ∀ t, xGo G p e R s m args below meth c nL mc ms Qf t (jp t)) (hret : xRet G p e R s m args below meth c cc mc ms rt Qf Q) (hK : ∀ a as h Q, K a as h Q → xMt G d a as h Q) (S : xSt G s nL mc ms h ls cs ss H locs LS) (hdg : decode cc pc = .ok (.pop, 1)) (hok : xokI pp own ini nL (pc, mk, .pop, a, b, v) = true) (hnx : xGo G p e R s m args below meth c nL mc ms Qf (pc + 1) nx) (hx : x1 (xX (gN G) (gX G)) K xal mc ms rt Q nx jp (pc, mk, .pop, a, b, v) ls st h cs ss) : W p (gL G) e R s m args below meth c H locs cs ss Qf (F0 m pc LS (st.map (xcv G))) := by
  obtain ⟨hx0, hb, hml, hown, hts, hG, hso, hfr, hlo⟩ := id C
  have hO := hG.2.2.2.2.2.2.2.2.2.2.2.1
  dsimp only [x1] at hx
  split at hx
  · exact lv_pop hx0 hb hdg rfl (hnx _ _ _ _ _ _ _ _ hx S)
  · exact hx.elim
theorem y_goto {o : Int} (C : xCx G p R s m args c cc nL own) (hR : d + 2 ≤ R.frames ∧ 28 + 30 * (d + 1) ≤ R.locals ∨ ∀ a as h Q, ¬ K a as h Q) (hRc : R.cells = mc ∧ R.slots = ms) (hini : ini = true → meth.name = "<init>") (hjp : ∀ t, xGo G p e R s m args below meth c nL mc ms Qf t (jp t)) (hret : xRet G p e R s m args below meth c cc mc ms rt Qf Q) (hK : ∀ a as h Q, K a as h Q → xMt G d a as h Q) (S : xSt G s nL mc ms h ls cs ss H locs LS) (hdg : decode cc pc = .ok (.goto o, 3)) (hok : xokI pp own ini nL (pc, mk, .goto o, a, b, v) = true) (hnx : xGo G p e R s m args below meth c nL mc ms Qf (pc + 3) nx) (hx : x1 (xX (gN G) (gX G)) K xal mc ms rt Q nx jp (pc, mk, .goto o, a, b, v) ls st h cs ss) : W p (gL G) e R s m args below meth c H locs cs ss Qf (F0 m pc LS (st.map (xcv G))) := by
  obtain ⟨hx0, hb, hml, hown, hts, hG, hso, hfr, hlo⟩ := id C
  have hO := hG.2.2.2.2.2.2.2.2.2.2.2.1
  exact lv_goto hx0 hb hdg (of_decide_eq_true hok) (hjp b _ _ _ _ _ _ _ _ hx S)
theorem y_ifCond {q : ClassFile.Cond} {o : Int} (C : xCx G p R s m args c cc nL own) (hR : d + 2 ≤ R.frames ∧ 28 + 30 * (d + 1) ≤ R.locals ∨ ∀ a as h Q, ¬ K a as h Q) (hRc : R.cells = mc ∧ R.slots = ms) (hini : ini = true → meth.name = "<init>") (hjp : ∀ t, xGo G p e R s m args below meth c nL mc ms Qf t (jp t)) (hret : xRet G p e R s m args below meth c cc mc ms rt Qf Q) (hK : ∀ a as h Q, K a as h Q → xMt G d a as h Q) (S : xSt G s nL mc ms h ls cs ss H locs LS) (hdg : decode cc pc = .ok (.ifCond q o, 3)) (hok : xokI pp own ini nL (pc, mk, .ifCond q o, a, b, v) = true) (hnx : xGo G p e R s m args below meth c nL mc ms Qf (pc + 3) nx) (hx : x1 (xX (gN G) (gX G)) K xal mc ms rt Q nx jp (pc, mk, .ifCond q o, a, b, v) ls st h cs ss) : W p (gL G) e R s m args below meth c H locs cs ss Qf (F0 m pc LS (st.map (xcv G))) := by
  obtain ⟨hx0, hb, hml, hown, hts, hG, hso, hfr, hlo⟩ := id C
  have hO := hG.2.2.2.2.2.2.2.2.2.2.2.1
  have ht : (pc : Int) + o = (b : Int) := of_decide_eq_true hok
  cases q
  · dsimp only [x1] at hx
    split at hx
    · exact lv_if_eq hx0 hb hdg ht (fun z => hjp b _ _ _ _ _ _ _ _ (xite_t hx z) S) (fun z => hnx _ _ _ _ _ _ _ _ (xite_f hx z) S)
    · exact hx.elim
  · dsimp only [x1] at hx
    split at hx
    · exact lv_if_ne hx0 hb hdg ht (fun z => hjp b _ _ _ _ _ _ _ _ (xite_f hx z) S) (fun z => hnx _ _ _ _ _ _ _ _ (xite_t hx z) S)
    · exact hx.elim
  · dsimp only [x1] at hx
    split at hx
    · exact lv_if_lt hx0 hb hdg ht (fun z => hjp b _ _ _ _ _ _ _ _ (xite_t hx z) S) (fun z => hnx _ _ _ _ _ _ _ _ (xite_f hx z) S)
    · exact hx.elim
  · dsimp only [x1] at hx
    split at hx
    · exact lv_if_ge hx0 hb hdg ht (fun z => hjp b _ _ _ _ _ _ _ _ (xite_t hx z) S) (fun z => hnx _ _ _ _ _ _ _ _ (xite_f hx z) S)
    · exact hx.elim
  · dsimp only [x1] at hx
    split at hx
    · exact lv_if_gt hx0 hb hdg ht (fun z => hjp b _ _ _ _ _ _ _ _ (xite_t hx z) S) (fun z => hnx _ _ _ _ _ _ _ _ (xite_f hx z) S)
    · exact hx.elim
  · dsimp only [x1] at hx
    split at hx
    · exact lv_if_le hx0 hb hdg ht (fun z => hjp b _ _ _ _ _ _ _ _ (xite_t hx z) S) (fun z => hnx _ _ _ _ _ _ _ _ (xite_f hx z) S)
    · exact hx.elim
theorem y_if_icmp {q : ClassFile.Cond} {o : Int} (C : xCx G p R s m args c cc nL own) (hR : d + 2 ≤ R.frames ∧ 28 + 30 * (d + 1) ≤ R.locals ∨ ∀ a as h Q, ¬ K a as h Q) (hRc : R.cells = mc ∧ R.slots = ms) (hini : ini = true → meth.name = "<init>") (hjp : ∀ t, xGo G p e R s m args below meth c nL mc ms Qf t (jp t)) (hret : xRet G p e R s m args below meth c cc mc ms rt Qf Q) (hK : ∀ a as h Q, K a as h Q → xMt G d a as h Q) (S : xSt G s nL mc ms h ls cs ss H locs LS) (hdg : decode cc pc = .ok (.if_icmp q o, 3)) (hok : xokI pp own ini nL (pc, mk, .if_icmp q o, a, b, v) = true) (hnx : xGo G p e R s m args below meth c nL mc ms Qf (pc + 3) nx) (hx : x1 (xX (gN G) (gX G)) K xal mc ms rt Q nx jp (pc, mk, .if_icmp q o, a, b, v) ls st h cs ss) : W p (gL G) e R s m args below meth c H locs cs ss Qf (F0 m pc LS (st.map (xcv G))) := by
  obtain ⟨hx0, hb, hml, hown, hts, hG, hso, hfr, hlo⟩ := id C
  have hO := hG.2.2.2.2.2.2.2.2.2.2.2.1
  have ht : (pc : Int) + o = (b : Int) := of_decide_eq_true hok
  cases q
  · dsimp only [x1] at hx
    split at hx
    · exact lv_icmp_eq hx0 hb hdg ht (fun z => hjp b _ _ _ _ _ _ _ _ (xite_t hx z) S) (fun z => hnx _ _ _ _ _ _ _ _ (xite_f hx z) S)
    · exact hx.elim
  · dsimp only [x1] at hx
    split at hx
    · exact lv_icmp_ne hx0 hb hdg ht (fun z => hjp b _ _ _ _ _ _ _ _ (xite_f hx z) S) (fun z => hnx _ _ _ _ _ _ _ _ (xite_t hx z) S)
    · exact hx.elim
  · dsimp only [x1] at hx
    split at hx
    · exact lv_icmp_lt hx0 hb hdg ht (fun z => hjp b _ _ _ _ _ _ _ _ (xite_t hx z) S) (fun z => hnx _ _ _ _ _ _ _ _ (xite_f hx z) S)
    · exact hx.elim
  · dsimp only [x1] at hx
    split at hx
    · exact lv_icmp_ge hx0 hb hdg ht (fun z => hjp b _ _ _ _ _ _ _ _ (xite_t hx z) S) (fun z => hnx _ _ _ _ _ _ _ _ (xite_f hx z) S)
    · exact hx.elim
  · dsimp only [x1] at hx
    split at hx
    · exact lv_icmp_gt hx0 hb hdg ht (fun z => hjp b _ _ _ _ _ _ _ _ (xite_t hx z) S) (fun z => hnx _ _ _ _ _ _ _ _ (xite_f hx z) S)
    · exact hx.elim
  · dsimp only [x1] at hx
    split at hx
    · exact lv_icmp_le hx0 hb hdg ht (fun z => hjp b _ _ _ _ _ _ _ _ (xite_t hx z) S) (fun z => hnx _ _ _ _ _ _ _ _ (xite_f hx z) S)
    · exact hx.elim
theorem y_tableswitch {df lo hi : Int} {offs : Array Int} {len : Nat} (C : xCx G p R s m args c cc nL own) (hR : d + 2 ≤ R.frames ∧ 28 + 30 * (d + 1) ≤ R.locals ∨ ∀ a as h Q, ¬ K a as h Q) (hRc : R.cells = mc ∧ R.slots = ms) (hini : ini = true → meth.name = "<init>") (hjp : ∀ t, xGo G p e R s m args below meth c nL mc ms Qf t (jp t)) (hret : xRet G p e R s m args below meth c cc mc ms rt Qf Q) (hK : ∀ a as h Q, K a as h Q → xMt G d a as h Q) (S : xSt G s nL mc ms h ls cs ss H locs LS) (hdg : decode cc pc = .ok (.tableswitch df lo hi offs, len)) (hok : xokI pp own ini nL (pc, mk, .tableswitch df lo hi offs, a, b, v) = true) (hnx : xGo G p e R s m args below meth c nL mc ms Qf (pc + len) nx) (hx : x1 (xX (gN G) (gX G)) K xal mc ms rt Q nx jp (pc, mk, .tableswitch df lo hi offs, a, b, v) ls st h cs ss) : W p (gL G) e R s m args below meth c H locs cs ss Qf (F0 m pc LS (st.map (xcv G))) := by
  obtain ⟨hx0, hb, hml, hown, hts, hG, hso, hfr, hlo⟩ := id C
  have hO := hG.2.2.2.2.2.2.2.2.2.2.2.1
  have h1 : (decide (0 ≤ (pc : Int) + df) && offs.toList.all (fun o => decide (0 ≤ (pc : Int) + o)) && decide (hi - lo + 1 = (offs.size : Int))) = true := hok
  simp only [Bool.and_eq_true, decide_eq_true_eq, List.all_eq_true] at h1
  obtain ⟨⟨h2, h3⟩, h4⟩ := h1
  dsimp only [x1] at hx
  split at hx
  · rename_i x r
    by_cases hout : x.toInt < lo ∨ hi < x.toInt
    · exact lv_tableOut hx0 hb hdg hout (by omega) (hjp _ _ _ _ _ _ _ _ _ (xite_t hx hout) S)
    · have ha : ¬ x.toInt < lo := fun z => hout (Or.inl z)
      have hb' : ¬ hi < x.toInt := fun z => hout (Or.inr z)
      have hlt : (x.toInt - lo).toNat < offs.size := by omega
      have ho : offs[(x.toInt - lo).toNat]? = some (offs[(x.toInt - lo).toNat]'hlt) := Array.getElem?_eq_getElem hlt
      generalize (offs[(x.toInt - lo).toNat]'hlt) = off at ho
      have ho2 : offs.toList[(x.toInt - lo).toNat]? = some off := by rw [Array.getElem?_toList]; exact ho
      have h5 := h3 off (List.mem_of_getElem? ho2)
      exact lv_tableIn hx0 hb hdg ha hb' ho (by omega) (hjp _ _ _ _ _ _ _ _ _ (xtab_at (xite_f hx hout) _ _ ho2 (by omega)) S)
  · exact hx.elim

theorem x_P1 {D : va_G} {cl : List vw_C} {q : Nat × va_E} {H : Heap} (h : va_at D cl q H) : va_P D cl [q] H := fun k q' hk => by
  cases k with
  | zero => simp at hk; subst hk; exact h
  | succ n => simp at hk
theorem x_get {C1 : String} {T1 : u_T} {N ci i k A : Nat} {fs : List Value} {w : Value} {rest : List Value} (C : xCx G p R s m args c cc nL own) (hat : va_at (gD G) vwCl (A, .inr (ci, fs)) H) (hvw : vwCl[ci]? = some (C1, T1, N)) (hk : k < N) (hlink : xisw pp i (.fieldLink own i (T1 k).1 (T1 k).2.1 (T1 k).2.2.1) = true ∨ xisn pp i (.fieldLinkNest own i (T1 k).1 (T1 k).2.1 (T1 k).2.2.1 "EchoValley") = true) (hv : fs[k]? = some w) (hdg : decode cc pc = .ok (.getfield i, 3))
    (kk : W p (gL G) e R s m args below meth c H locs cs ss Qf (F0 m (pc + 3) LS (w :: rest))) : W p (gL G) e R s m args below meth c H locs cs ss Qf (F0 m pc LS (.ref A :: rest)) := by
  obtain ⟨hx0, hb, hml, hown, hts, hG, hso, hfr, hlo⟩ := id C
  have hcls := xcls_ok hvw
  rcases hlink with hl | hl
  · exact va_get (C := C1) (T := T1) (N := N) hx0 hb hts hcls.1 hown hG.1 (x_P1 hat) 0 rfl hvw k hk (hts _ (xisw_mem hl)) (fun _ h => h) hv hdg kk
  · exact va_getN (C := C1) (T := T1) (N := N) hx0 hb hts hcls.1 hown hG.1 (x_P1 hat) 0 rfl hvw k hk (va_Nw.use rfl (hG.2.1 _ (xisn_mem hl))) (fun _ h => h) hv hdg kk
def xfs (G : xG) (ci : Nat) (r : Nat → Option Nat) (f : Nat → Int32) (n : Nat) : List Value := (List.range n).map (fun j => if xisI ci j then .int (f j) else va_rf ((r j).map (xad G)))
theorem xfs_at {G : xG} {ci n k : Nat} {r : Nat → Option Nat} {f : Nat → Int32} (hk : k < n) : (xfs G ci r f n)[k]? = some (if xisI ci k then .int (f k) else va_rf ((r k).map (xad G))) := by
  unfold xfs
  rw [List.getElem?_map, List.getElem?_range hk]
  rfl
theorem xfs_len {G : xG} {ci n : Nat} {r : Nat → Option Nat} {f : Nat → Int32} : (xfs G ci r f n).length = n := by simp [xfs]
theorem xce_obj {G : xG} {Rf : Nat → Nat → Option Nat} {M : xM} {o a n : Nat} : xce G Rf M o (3 + a, n) = .inr (a, xfs G a (Rf o) (M o) n) := by
  unfold xce xfs
  rw [Nat.add_comm 3 a]
theorem xfs_setI {G : xG} {ci n k : Nat} {r : Nat → Option Nat} {f : Nat → Int32} {x : Int32} (hI : xisI ci k = true) : (xfs G ci r f n).set k (.int x) = xfs G ci r (upd f k x) n := by
  apply List.ext_getElem?
  intro i
  rw [List.getElem?_set]
  by_cases hi : i < n
  · rw [xfs_at hi, xfs_at hi]
    by_cases e : k = i
    · subst e
      rw [if_pos rfl, if_pos (by rw [xfs_len]; exact hi), if_pos hI]
      simp [upd]
    · rw [if_neg e]
      simp [upd, Ne.symm e]
  · have h1 : (xfs G ci r f n)[i]? = none := List.getElem?_eq_none (by rw [xfs_len]; omega)
    have h2 : (xfs G ci r (upd f k x) n)[i]? = none := List.getElem?_eq_none (by rw [xfs_len]; omega)
    rw [h1, h2]
    split
    · rw [if_neg (by rw [xfs_len]; omega)]
    · rfl
theorem xfs_setR {G : xG} {ci n k : Nat} {r r' : Nat → Option Nat} {f : Nat → Int32} {q : Nat} (hI : xisI ci k = false) (hr : ∀ j, r' j = if j = k then some q else r j) : (xfs G ci r f n).set k (.ref (xad G q)) = xfs G ci r' f n := by
  apply List.ext_getElem?
  intro i
  rw [List.getElem?_set]
  by_cases hi : i < n
  · rw [xfs_at hi, xfs_at hi]
    by_cases e : k = i
    · subst e
      rw [if_pos rfl, if_pos (by rw [xfs_len]; exact hi), hI]
      simp [hr, va_rf]
    · rw [if_neg e, hr, if_neg (Ne.symm e)]
  · have h1 : (xfs G ci r f n)[i]? = none := List.getElem?_eq_none (by rw [xfs_len]; omega)
    have h2 : (xfs G ci r' f n)[i]? = none := List.getElem?_eq_none (by rw [xfs_len]; omega)
    rw [h1, h2]
    split
    · rw [if_neg (by rw [xfs_len]; omega)]
    · rfl
theorem xrow_ne {M : xM} {a i : Nat} {f : Nat → Int32} (h : i ≠ a) : xrow M a f i = M i := if_neg h
theorem xrow_eq {M : xM} {a : Nat} {f : Nat → Int32} : xrow M a f a = f := if_pos rfl
theorem xrup_ne {Rf : Nat → Nat → Option Nat} {a k i : Nat} {v : Option Nat} (h : i ≠ a) : xrup Rf a k v i = Rf i := by
  funext j
  unfold xrup
  rw [if_neg (fun z => h z.1)]
theorem xrup_eq {Rf : Nat → Nat → Option Nat} {a k : Nat} {v : Option Nat} (j : Nat) : xrup Rf a k v a j = if j = k then v else Rf a j := by
  unfold xrup
  by_cases h : j = k
  · rw [if_pos ⟨rfl, h⟩, if_pos h]
  · rw [if_neg (fun z => h z.2), if_neg h]
theorem xcv_rv {G : xG} (o : Option Nat) (h : ∀ q, o = some q → q ≠ 1300) : xcv G (xrv o) = va_rf (o.map (xad G)) := by
  cases o with
  | none => rfl
  | some q =>
    show (if q = 1300 then gO G else .ref (xad G q)) = _
    rw [if_neg (h q rfl)]
    rfl

theorem y_getfield {i : Nat} (C : xCx G p R s m args c cc nL own) (hR : d + 2 ≤ R.frames ∧ 28 + 30 * (d + 1) ≤ R.locals ∨ ∀ a as h Q, ¬ K a as h Q) (hRc : R.cells = mc ∧ R.slots = ms) (hini : ini = true → meth.name = "<init>") (hjp : ∀ t, xGo G p e R s m args below meth c nL mc ms Qf t (jp t)) (hret : xRet G p e R s m args below meth c cc mc ms rt Qf Q) (hK : ∀ a as h Q, K a as h Q → xMt G d a as h Q) (S : xSt G s nL mc ms h ls cs ss H locs LS) (hdg : decode cc pc = .ok (.getfield i, 3)) (hok : xokI pp own ini nL (pc, mk, .getfield i, a, b, v) = true) (hnx : xGo G p e R s m args below meth c nL mc ms Qf (pc + 3) nx) (hx : x1 (xX (gN G) (gX G)) K xal mc ms rt Q nx jp (pc, mk, .getfield i, a, b, v) ls st h cs ss) : W p (gL G) e R s m args below meth c H locs cs ss Qf (F0 m pc LS (st.map (xcv G))) := by
  obtain ⟨hx0, hb, hml, hown, hts, hG, hso, hfr, hlo⟩ := id C
  have hO := hG.2.2.2.2.2.2.2.2.2.2.2.1
  obtain ⟨sh, Rf, M⟩ := h
  have hS := x_oldS S.1 hso S.2.2.2.1 S.2.2.1
  have hkept := x_keptS hG.2.2.2.2.2.2.2.2.2.2.2.2 hso
  rcases st with _ | ⟨w, r⟩
  · exact False.elim hx
  cases w with
  | ref o =>
    cases h99 : Nat.beq a 99 with
    | true =>
      dsimp only [x1] at hx
      rw [h99] at hx
      have ho : @LE.le Nat _ 1100 o ∧ @LT.lt Nat _ o 1115 ∧ ∃ w, xXF o b = some w ∧ nx ls (w :: r) (sh, Rf, M) cs ss := by
        dsimp only at hx
        split at hx
        · rename_i w h1 h2
          simp only [Bool.and_eq_true, Nat.ble_eq, Nat.blt_eq] at h1
          exact ⟨h1.1, h1.2, w, h2, hx⟩
        · exact hx.elim
      obtain ⟨h1, h2, w, h3, h4⟩ := ho
      obtain ⟨j, rfl⟩ : ∃ j : Nat, @Eq Nat o (1100 + j) := ⟨@HSub.hSub Nat Nat Nat _ o 1100, by omega⟩
      obtain ⟨-, f1, f2, -⟩ := hG.2.2.2.2.1 j (by omega)
      have h5 := hnx _ _ _ _ _ _ _ _ h4 S
      rw [List.map_cons] at h5 ⊢
      rw [x_refX (by omega) (by omega)]
      unfold xokI at hok
      simp only [h99] at hok
      cases b with
      | zero =>
        cases h3
        rw [x_refX (by omega) (by omega)] at h5
        have e : 1100 + j + 100 = 1200 + j := by omega
        rw [e] at h5
        exact vk_getf hx0 hb (f2.kept hkept) hS hown (hts _ (xisw_mem hok)) (fun _ h => h) hdg h5
      | succ b' =>
        cases h3
        exact vk_getf hx0 hb (f1.kept hkept) hS hown (hts _ (xisw_mem hok)) (fun _ h => h) hdg h5
    | false =>
      dsimp only [x1] at hx
      rw [h99] at hx
      dsimp only at hx
      split at hx
      · rename_i kd n hsh
        split at hx
        · rename_i hc
          simp only [Bool.and_eq_true, Nat.blt_eq] at hc
          have hkd : kd = 3 + a := Nat.eq_of_beq_eq_true hc.1
          subst hkd
          obtain ⟨C1, T1, hvw⟩ := S.1.2.2.2.1 o _ a hsh (Nat.add_comm 3 a)
          have hat := (x_cell S.1 hsh).1
          rw [xce_obj] at hat
          unfold xokI at hok
          simp only [h99, hvw, Bool.and_eq_true, Bool.or_eq_true] at hok
          rw [List.map_cons, x_sh S.1 hsh]
          have hint : xisI a b = true → nx ls (.int (M o b) :: r) (sh, Rf, M) cs ss → W p (gL G) e R s m args below meth c H locs cs ss Qf (F0 m pc LS (.ref (gB G + o) :: r.map (xcv G))) := fun hI hx1 => x_get C hat hvw hc.2 hok.1 (by rw [xfs_at hc.2, if_pos hI]; rfl) hdg (hnx _ _ _ _ _ _ _ _ hx1 S)
          have h2 := hok.2
          cases v with
          | null =>
            have hI : xisI a b = false := by simpa [xgetT] using h2
            have h5 := hnx _ _ _ _ _ _ _ _ hx S
            rw [List.map_cons] at h5
            refine x_get C hat hvw hc.2 hok.1 (w := va_rf ((Rf o b).map (xad G))) (by rw [xfs_at hc.2, hI]; rfl) hdg ?_
            rw [xcv_rv] at h5
            · exact h5
            · exact S.1.1.2 o b
          | _ => exact hint h2 hx
        · exact hx.elim
      · exact hx.elim
  | _ => exact False.elim hx

theorem xputS_inv {v w : Value} {P : Int32 → Prop} {Q : Nat → Prop} (h : xputS v w P Q) : (∃ z x, v = .int z ∧ w = .int x ∧ P x) ∨ (∃ z x, v = .long z ∧ w = .int x ∧ (x = 0 ∨ x = 1) ∧ P x) ∨ ∃ q : Nat, v = .null ∧ w = .ref q ∧ q < 1000 ∧ Q q := by
  unfold xputS at h
  split at h
  · exact Or.inl ⟨_, _, rfl, rfl, h⟩
  · exact Or.inr (Or.inl ⟨_, _, rfl, rfl, xite_yes h⟩)
  · rename_i q
    cases hq : Nat.blt q 1000 with
    | true =>
      rw [hq] at h
      exact Or.inr (Or.inr ⟨q, rfl, rfl, by rw [← Nat.blt_eq]; exact hq, h⟩)
    | false =>
      rw [hq] at h
      exact h.elim
  · exact h.elim
theorem fits_z {x : Int32} (h : x = 0 ∨ x = 1) : fits .boolean (.int x) = true := by
  rcases h with rfl | rfl <;> decide +kernel

theorem y_putfield {i : Nat} (C : xCx G p R s m args c cc nL own) (hR : d + 2 ≤ R.frames ∧ 28 + 30 * (d + 1) ≤ R.locals ∨ ∀ a as h Q, ¬ K a as h Q) (hRc : R.cells = mc ∧ R.slots = ms) (hini : ini = true → meth.name = "<init>") (hjp : ∀ t, xGo G p e R s m args below meth c nL mc ms Qf t (jp t)) (hret : xRet G p e R s m args below meth c cc mc ms rt Qf Q) (hK : ∀ a as h Q, K a as h Q → xMt G d a as h Q) (S : xSt G s nL mc ms h ls cs ss H locs LS) (hdg : decode cc pc = .ok (.putfield i, 3)) (hok : xokI pp own ini nL (pc, mk, .putfield i, a, b, v) = true) (hnx : xGo G p e R s m args below meth c nL mc ms Qf (pc + 3) nx) (hx : x1 (xX (gN G) (gX G)) K xal mc ms rt Q nx jp (pc, mk, .putfield i, a, b, v) ls st h cs ss) : W p (gL G) e R s m args below meth c H locs cs ss Qf (F0 m pc LS (st.map (xcv G))) := by
  obtain ⟨hx0, hb, hml, hown, hts, hG, hso, hfr, hlo⟩ := id C
  have hO := hG.2.2.2.2.2.2.2.2.2.2.2.1
  obtain ⟨sh, Rf, M⟩ := h
  rcases st with _ | ⟨w, r⟩
  · exact False.elim hx
  rcases r with _ | ⟨w2, r⟩
  · exact False.elim hx
  cases w2 with
  | ref o =>
    have hx2 : ∃ n, sh[o]? = some (3 + a, n) ∧ b < n ∧ xputS v w (fun x => nx ls r (sh, Rf, xup M o b x) cs ss) (fun q => nx ls r (sh, xrup Rf o b (some q), M) cs ss) := by
      dsimp only [x1] at hx
      split at hx
      · rename_i kd n hsh
        split at hx
        · rename_i hc
          simp only [Bool.and_eq_true, Nat.blt_eq] at hc
          have hkd : kd = 3 + a := Nat.eq_of_beq_eq_true hc.1
          subst hkd
          exact ⟨n, hsh, hc.2, hx⟩
        · exact hx.elim
      · exact hx.elim
    obtain ⟨n, hsh, hbn, hx2⟩ := hx2
    obtain ⟨C1, T1, hvw⟩ := S.1.2.2.2.1 o _ a hsh (Nat.add_comm 3 a)
    have hat := (x_cell S.1 hsh).1
    rw [xce_obj] at hat
    have hcls := xcls_ok hvw
    obtain ⟨ty0, hty, -⟩ := hcls.2.1
    unfold xokI at hok
    simp only [hvw, Bool.and_eq_true] at hok
    have put : ∀ (w' : Value) (ty : FieldType) (h' : xH), parseFieldDescriptor (T1 b).2.2.1 = some ty → narrow ty w' = w' → fits ty w' = true → nx ls r h' cs ss →
        (∀ H1 : Heap, va_at (gD G) vwCl (gB G + o, .inr (a, (xfs G a (Rf o) (M o) n).set b w')) H1 → H1.size = H.size → (∀ q : Nat, q ≠ gB G + o → H1[q]? = H[q]?) → xRep G h' H1) → W p (gL G) e R s m args below meth c H locs cs ss Qf (F0 m pc LS (w' :: .ref (gB G + o) :: r.map (xcv G))) := by
      intro w' ty h' hd hn hf hx3 hrep
      have kk : ∀ (H1 : Heap) (lo : Loc), lo.base = gB G + o → va_at (gD G) vwCl (gB G + o, .inr (a, (xfs G a (Rf o) (M o) n).set b w')) H1 → H1.size = H.size → (∀ q : Nat, q ≠ gB G + o → H1[q]? = H[q]?) → W p (gL G) e R s m args below meth c H1 (locs ++ [lo]) cs ss Qf (F0 m (pc + 3) LS (r.map (xcv G))) := fun H1 lo e0 e1 e2 e3 => hnx _ _ _ _ _ _ _ _ hx3 ⟨hrep H1 e1 e2 e3, S.2.1, fun q hq => by
        rcases List.mem_append.mp hq with h1 | h1
        · exact S.2.2.1 q h1
        · rw [List.mem_singleton.mp h1, e0]; omega, by rw [e2]; exact S.2.2.2.1, S.2.2.2.2⟩
      have h1 := hok.1
      cases hfin : (T1 b).2.2.2 with
      | false =>
        rw [hfin] at h1
        simp only [Bool.or_eq_true] at h1
        refine x_put (C := C1) (T := T1) (N := n) hx0 hb hts hcls.1 ty0 hty hcls.2.2.1 hown hG.1 hat hvw b hbn ?_ hfin hd hn hf (by rw [xfs_len]; exact hbn) hdg kk
        rcases h1 with h1 | h1
        · exact Or.inl (hts _ (xisw_mem h1))
        · exact Or.inr ⟨_, va_Nw.use rfl (hG.2.1 _ (xisn_mem h1))⟩
      | true =>
        rw [hfin] at h1
        simp only [Bool.and_eq_true, decide_eq_true_eq] at h1
        exact x_putF (C := C1) (T := T1) (N := n) hx0 hb hts hcls.1 ty0 hty hcls.2.2.1 hown hG.1 hat hvw b hbn (hts _ (xisw_mem h1.2)) hfin (hini h1.1.1) h1.1.2 hd hn hf (by rw [xfs_len]; exact hbn) hdg kk
    have repI : ∀ (x : Int32), xisI a b = true → ∀ H1 : Heap, va_at (gD G) vwCl (gB G + o, .inr (a, (xfs G a (Rf o) (M o) n).set b (.int x))) H1 → H1.size = H.size → (∀ q : Nat, q ≠ gB G + o → H1[q]? = H[q]?) → xRep G (sh, Rf, xup M o b x) H1 := fun x hI H1 e1 e2 e3 => x_repU S.1 hsh (by rw [xce_obj]; unfold xup; rw [xrow_eq, ← xfs_setI hI]; exact e1) e2 e3 (fun _ _ => rfl) (fun i hi => xrow_ne hi) S.1.1.2
    show W p (gL G) e R s m args below meth c H locs cs ss Qf (F0 m pc LS (xcv G w :: xcv G (.ref o) :: r.map (xcv G)))
    rw [x_sh S.1 hsh]
    have h2 := hok.2
    rcases xputS_inv hx2 with ⟨z, x, rfl, rfl, hx3⟩ | ⟨z, x, rfl, rfl, hz, hx3⟩ | ⟨q, rfl, rfl, hq', hx3⟩
    · simp only [xputT, Bool.and_eq_true, decide_eq_true_eq] at h2
      exact put (.int x) .int _ h2.1 rfl rfl hx3 (repI x h2.2)
    · simp only [xputT, Bool.and_eq_true, decide_eq_true_eq] at h2
      exact put (.int x) .boolean _ h2.1 (narrow_z hz) (fits_z hz) hx3 (repI x h2.2)
    · simp only [xputT, Bool.and_eq_true, Bool.not_eq_true'] at h2
      rw [x_ref hq']
      have rep : ∀ H1 : Heap, va_at (gD G) vwCl (gB G + o, .inr (a, (xfs G a (Rf o) (M o) n).set b (.ref (gB G + q)))) H1 → H1.size = H.size → (∀ q : Nat, q ≠ gB G + o → H1[q]? = H[q]?) → xRep G (sh, xrup Rf o b (some q), M) H1 := fun H1 e1 e2 e3 => x_repU S.1 hsh (by
            rw [xce_obj, ← xfs_setR (q := q) h2.2 (fun j => xrup_eq j)]
            unfold xad
            rw [if_pos hq']
            exact e1) e2 e3 (fun i hi => xrup_ne hi) (fun _ _ => rfl) (fun k j z hz => by
            unfold xrup at hz
            split at hz
            · cases hz; omega
            · exact S.1.1.2 k j z hz)
      have h4 := h2.1
      split at h4
      · rename_i C2 hd
        exact put _ _ _ hd rfl rfl hx3 rep
      · rename_i t2 hd
        exact put _ _ _ hd rfl rfl hx3 rep
      · cases h4
  | _ => exact False.elim hx

set_option maxRecDepth 100000 in
theorem xX_inv {L : Nat} {xs : Nat → Int32} {o n : Nat} {f : Nat → Int32} (h : xX L xs o = some (n, f)) : (o = 1000 ∧ n = L ∧ f = xs) ∨ (o = 1001 ∧ n = 7 ∧ f = xabove) ∨ ∃ i, i < 15 ∧ o = 1200 + i ∧ n = xslen i ∧ f = xsbyt i := by
  unfold xX at h
  split at h
  · rename_i h1
    have h2 := Option.some.inj h
    exact Or.inl ⟨Nat.eq_of_beq_eq_true h1, (congrArg Prod.fst h2).symm, (congrArg Prod.snd h2).symm⟩
  · split at h
    · rename_i h1
      have h2 := Option.some.inj h
      exact Or.inr (Or.inl ⟨Nat.eq_of_beq_eq_true h1, (congrArg Prod.fst h2).symm, (congrArg Prod.snd h2).symm⟩)
    · split at h
      · rename_i h1
        simp only [Bool.and_eq_true, Nat.ble_eq, Nat.blt_eq] at h1
        have h2 := Option.some.inj h
        exact Or.inr (Or.inr ⟨o - 1200, by omega, by omega, (congrArg Prod.fst h2).symm, (congrArg Prod.snd h2).symm⟩)
      · cases h
theorem xce_arr {G : xG} {Rf : Nat → Nat → Option Nat} {M : xM} {o n : Nat} : xce G Rf M o (0, n) = .inl (gI G, n, .inl (M o)) := rfl
theorem x_st1 {o1 : Nat} {lo : Loc} {h' : xH} {H1 : Heap} (S : xSt G s nL mc ms h ls cs ss H locs LS) (e0 : lo.base = gB G + o1) (e2 : H1.size = H.size) (hr : xRep G h' H1) : xSt G s nL mc ms h' ls cs ss H1 (locs ++ [lo]) LS := ⟨hr, S.2.1, fun q hq => by
      rcases List.mem_append.mp hq with h1 | h1
      · exact S.2.2.1 q h1
      · rw [List.mem_singleton.mp h1, e0]; omega, by rw [e2]; exact S.2.2.2.1, S.2.2.2.2⟩

theorem y_iaload (C : xCx G p R s m args c cc nL own) (hR : d + 2 ≤ R.frames ∧ 28 + 30 * (d + 1) ≤ R.locals ∨ ∀ a as h Q, ¬ K a as h Q) (hRc : R.cells = mc ∧ R.slots = ms) (hini : ini = true → meth.name = "<init>") (hjp : ∀ t, xGo G p e R s m args below meth c nL mc ms Qf t (jp t)) (hret : xRet G p e R s m args below meth c cc mc ms rt Qf Q) (hK : ∀ a as h Q, K a as h Q → xMt G d a as h Q) (S : xSt G s nL mc ms h ls cs ss H locs LS) (hdg : decode cc pc = .ok (.iaload, 1)) (hok : xokI pp own ini nL (pc, mk, .iaload, a, b, v) = true) (hnx : xGo G p e R s m args below meth c nL mc ms Qf (pc + 1) nx) (hx : x1 (xX (gN G) (gX G)) K xal mc ms rt Q nx jp (pc, mk, .iaload, a, b, v) ls st h cs ss) : W p (gL G) e R s m args below meth c H locs cs ss Qf (F0 m pc LS (st.map (xcv G))) := by
  obtain ⟨hx0, hb, hml, hown, hts, hG, hso, hfr, hlo⟩ := id C
  have hO := hG.2.2.2.2.2.2.2.2.2.2.2.1
  obtain ⟨sh, Rf, M⟩ := h
  have hS := x_oldS S.1 hso S.2.2.2.1 S.2.2.1
  have hkept := x_keptS hG.2.2.2.2.2.2.2.2.2.2.2.2 hso
  rcases st with _ | ⟨w, _ | ⟨w2, r⟩⟩
  · exact False.elim hx
  · cases w <;> exact False.elim hx
  cases w with
  | int i =>
    cases w2 with
    | ref o =>
      dsimp only [x1] at hx
      rw [List.map_cons, List.map_cons]
      split at hx
      · rename_i kd n hsh
        split at hx
        · have hat := (x_cell S.1 hsh).1
          rw [xce_arr] at hat
          rw [x_sh S.1 hsh]
          exact va_iald hx0 hb hG.1 (x_P1 hat) 0 0 rfl rfl (xite_no hx).1 hdg (hnx _ _ _ _ _ _ _ _ (xite_no hx).2 S)
        · exact hx.elim
      · split at hx
        · rename_i n f h1 h2
          have h3 : @LT.lt Nat _ o 1200 := by rw [← Nat.blt_eq]; exact h2
          rcases xX_inv h1 with ⟨rfl, rfl, rfl⟩ | ⟨rfl, rfl, rfl⟩ | ⟨i, hi, rfl, -, -⟩
          · rw [x_refX (by omega) (by omega)]
            exact va_sld hx0 hb hG.2.2.2.2.2.2.2.2.2.1 (by rw [hG.2.2.2.2.2.2.2.2.2.2.2.2]; exact hG.2.2.2.2.2.2.2.2.2.2.1) (Nat.not_le.mpr hG.2.2.2.2.2.2.2.2.2.2.1) (x_old S.1 hG.2.2.2.2.2.2.2.2.2.2.2.2 S.2.2.1) (xite_no hx).1 hdg (hnx _ _ _ _ _ _ _ _ (xite_no hx).2 S)
          · rw [x_refX (by omega) (by omega)]
            exact va_ti hx0 hb (hG.2.2.2.2.2.2.1.kept hkept) hS (xite_no hx).1 rfl hdg (hnx _ _ _ _ _ _ _ _ (xite_no hx).2 S)
          · omega
        · exact hx.elim
    | _ => exact False.elim hx
  | _ => exact False.elim hx
theorem y_baload (C : xCx G p R s m args c cc nL own) (hR : d + 2 ≤ R.frames ∧ 28 + 30 * (d + 1) ≤ R.locals ∨ ∀ a as h Q, ¬ K a as h Q) (hRc : R.cells = mc ∧ R.slots = ms) (hini : ini = true → meth.name = "<init>") (hjp : ∀ t, xGo G p e R s m args below meth c nL mc ms Qf t (jp t)) (hret : xRet G p e R s m args below meth c cc mc ms rt Qf Q) (hK : ∀ a as h Q, K a as h Q → xMt G d a as h Q) (S : xSt G s nL mc ms h ls cs ss H locs LS) (hdg : decode cc pc = .ok (.baload, 1)) (hok : xokI pp own ini nL (pc, mk, .baload, a, b, v) = true) (hnx : xGo G p e R s m args below meth c nL mc ms Qf (pc + 1) nx) (hx : x1 (xX (gN G) (gX G)) K xal mc ms rt Q nx jp (pc, mk, .baload, a, b, v) ls st h cs ss) : W p (gL G) e R s m args below meth c H locs cs ss Qf (F0 m pc LS (st.map (xcv G))) := by
  obtain ⟨hx0, hb, hml, hown, hts, hG, hso, hfr, hlo⟩ := id C
  have hO := hG.2.2.2.2.2.2.2.2.2.2.2.1
  obtain ⟨sh, Rf, M⟩ := h
  have hS := x_oldS S.1 hso S.2.2.2.1 S.2.2.1
  have hkept := x_keptS hG.2.2.2.2.2.2.2.2.2.2.2.2 hso
  rcases st with _ | ⟨w, _ | ⟨w2, r⟩⟩
  · exact False.elim hx
  · cases w <;> exact False.elim hx
  cases w with
  | int i =>
    cases w2 with
    | ref o =>
      dsimp only [x1] at hx
      rw [List.map_cons, List.map_cons]
      split at hx
      · exact hx.elim
      · split at hx
        · rename_i n f h1 h2
          have h3 : ¬ @LT.lt Nat _ o 1200 := by
            intro z
            rw [← Nat.blt_eq] at z
            rw [z] at h2
            cases h2
          rcases xX_inv h1 with ⟨rfl, rfl, rfl⟩ | ⟨rfl, rfl, rfl⟩ | ⟨j, hj, rfl, rfl, rfl⟩
          · omega
          · omega
          · rw [x_refX (by omega) (by omega)]
            exact va_tb hx0 hb ((hG.2.2.2.2.1 j hj).2.2.2.kept hkept) hS (xite_no hx).1 rfl hdg (hnx _ _ _ _ _ _ _ _ (xite_no hx).2 S)
        · exact hx.elim
    | _ => exact False.elim hx
  | _ => exact False.elim hx
theorem y_aaload (C : xCx G p R s m args c cc nL own) (hR : d + 2 ≤ R.frames ∧ 28 + 30 * (d + 1) ≤ R.locals ∨ ∀ a as h Q, ¬ K a as h Q) (hRc : R.cells = mc ∧ R.slots = ms) (hini : ini = true → meth.name = "<init>") (hjp : ∀ t, xGo G p e R s m args below meth c nL mc ms Qf t (jp t)) (hret : xRet G p e R s m args below meth c cc mc ms rt Qf Q) (hK : ∀ a as h Q, K a as h Q → xMt G d a as h Q) (S : xSt G s nL mc ms h ls cs ss H locs LS) (hdg : decode cc pc = .ok (.aaload, 1)) (hok : xokI pp own ini nL (pc, mk, .aaload, a, b, v) = true) (hnx : xGo G p e R s m args below meth c nL mc ms Qf (pc + 1) nx) (hx : x1 (xX (gN G) (gX G)) K xal mc ms rt Q nx jp (pc, mk, .aaload, a, b, v) ls st h cs ss) : W p (gL G) e R s m args below meth c H locs cs ss Qf (F0 m pc LS (st.map (xcv G))) := by
  obtain ⟨hx0, hb, hml, hown, hts, hG, hso, hfr, hlo⟩ := id C
  have hO := hG.2.2.2.2.2.2.2.2.2.2.2.1
  obtain ⟨sh, Rf, M⟩ := h
  rcases st with _ | ⟨w, _ | ⟨w2, r⟩⟩
  · exact False.elim hx
  · cases w <;> exact False.elim hx
  cases w with
  | int i =>
    cases w2 with
    | ref o =>
      dsimp only [x1] at hx
      rw [List.map_cons, List.map_cons]
      split at hx
      · rename_i kd n hsh
        split at hx
        · rename_i hkd
          simp only [Bool.or_eq_true] at hkd
          have hat := (x_cell S.1 hsh).1
          have h5 := hnx _ _ _ _ _ _ _ _ (xite_no hx).2 S
          rw [List.map_cons, xcv_rv _ (S.1.1.2 o i.toNatClampNeg)] at h5
          rw [x_sh S.1 hsh]
          rcases hkd with hkd | hkd
          · have hkd := Nat.eq_of_beq_eq_true hkd
            subst hkd
            exact va_aldq hx0 hb hG.1 (x_P1 hat) 0 1 rfl rfl (xite_no hx).1 hdg h5
          · have hkd := Nat.eq_of_beq_eq_true hkd
            subst hkd
            exact va_aldq hx0 hb hG.1 (x_P1 hat) 0 2 rfl rfl (xite_no hx).1 hdg h5
        · exact hx.elim
      · exact hx.elim
    | _ => exact False.elim hx
  | _ => exact False.elim hx
theorem y_iastore (C : xCx G p R s m args c cc nL own) (hR : d + 2 ≤ R.frames ∧ 28 + 30 * (d + 1) ≤ R.locals ∨ ∀ a as h Q, ¬ K a as h Q) (hRc : R.cells = mc ∧ R.slots = ms) (hini : ini = true → meth.name = "<init>") (hjp : ∀ t, xGo G p e R s m args below meth c nL mc ms Qf t (jp t)) (hret : xRet G p e R s m args below meth c cc mc ms rt Qf Q) (hK : ∀ a as h Q, K a as h Q → xMt G d a as h Q) (S : xSt G s nL mc ms h ls cs ss H locs LS) (hdg : decode cc pc = .ok (.iastore, 1)) (hok : xokI pp own ini nL (pc, mk, .iastore, a, b, v) = true) (hnx : xGo G p e R s m args below meth c nL mc ms Qf (pc + 1) nx) (hx : x1 (xX (gN G) (gX G)) K xal mc ms rt Q nx jp (pc, mk, .iastore, a, b, v) ls st h cs ss) : W p (gL G) e R s m args below meth c H locs cs ss Qf (F0 m pc LS (st.map (xcv G))) := by
  obtain ⟨hx0, hb, hml, hown, hts, hG, hso, hfr, hlo⟩ := id C
  have hO := hG.2.2.2.2.2.2.2.2.2.2.2.1
  obtain ⟨sh, Rf, M⟩ := h
  rcases st with _ | ⟨w, _ | ⟨w2, _ | ⟨w3, r⟩⟩⟩
  · exact False.elim hx
  · cases w <;> exact False.elim hx
  · cases w <;> cases w2 <;> exact False.elim hx
  cases w with
  | int x =>
    cases w2 with
    | int i =>
      cases w3 with
      | ref o =>
        dsimp only [x1] at hx
        rw [List.map_cons, List.map_cons, List.map_cons]
        split at hx
        · rename_i kd n hsh
          split at hx
          · have hat := (x_cell S.1 hsh).1
            rw [xce_arr] at hat
            rw [x_sh S.1 hsh]
            exact x_iast hx0 hb hG.1 0 hat rfl (xite_no hx).1 hdg (fun H1 lo e0 e1 e2 e3 => hnx _ _ _ _ _ _ _ _ (xite_no hx).2 (x_st1 S e0 e2 (x_repU S.1 hsh (by rw [xce_arr]; unfold xup; rw [xrow_eq]; exact e1) e2 e3 (fun _ _ => rfl) (fun i hi => xrow_ne hi) S.1.1.2)))
          · exact hx.elim
        · exact hx.elim
      | _ => exact False.elim hx
    | _ => exact False.elim hx
  | _ => exact False.elim hx
theorem y_arraylength (C : xCx G p R s m args c cc nL own) (hR : d + 2 ≤ R.frames ∧ 28 + 30 * (d + 1) ≤ R.locals ∨ ∀ a as h Q, ¬ K a as h Q) (hRc : R.cells = mc ∧ R.slots = ms) (hini : ini = true → meth.name = "<init>") (hjp : ∀ t, xGo G p e R s m args below meth c nL mc ms Qf t (jp t)) (hret : xRet G p e R s m args below meth c cc mc ms rt Qf Q) (hK : ∀ a as h Q, K a as h Q → xMt G d a as h Q) (S : xSt G s nL mc ms h ls cs ss H locs LS) (hdg : decode cc pc = .ok (.arraylength, 1)) (hok : xokI pp own ini nL (pc, mk, .arraylength, a, b, v) = true) (hnx : xGo G p e R s m args below meth c nL mc ms Qf (pc + 1) nx) (hx : x1 (xX (gN G) (gX G)) K xal mc ms rt Q nx jp (pc, mk, .arraylength, a, b, v) ls st h cs ss) : W p (gL G) e R s m args below meth c H locs cs ss Qf (F0 m pc LS (st.map (xcv G))) := by
  obtain ⟨hx0, hb, hml, hown, hts, hG, hso, hfr, hlo⟩ := id C
  have hO := hG.2.2.2.2.2.2.2.2.2.2.2.1
  obtain ⟨sh, Rf, M⟩ := h
  have hS := x_oldS S.1 hso S.2.2.2.1 S.2.2.1
  have hkept := x_keptS hG.2.2.2.2.2.2.2.2.2.2.2.2 hso
  rcases st with _ | ⟨w, r⟩
  · exact False.elim hx
  cases w with
  | ref o =>
    dsimp only [x1] at hx
    rw [List.map_cons]
    split at hx
    · rename_i kd n hsh
      split at hx
      · rename_i hk
        have hk : kd < 3 := by rw [← Nat.blt_eq]; exact hk
        have hat := (x_cell S.1 hsh).1
        have h5 := hnx _ _ _ _ _ _ _ _ hx S
        rw [x_sh S.1 hsh]
        match kd, hk, hat with
        | 0, _, hat => exact va_alen hx0 hb hG.1 (x_P1 hat) 0 0 rfl rfl rfl hdg h5
        | 1, _, hat => exact va_alen hx0 hb hG.1 (x_P1 hat) 0 1 rfl rfl rfl hdg h5
        | 2, _, hat => exact va_alen hx0 hb hG.1 (x_P1 hat) 0 2 rfl rfl rfl hdg h5
      · exact hx.elim
    · split at hx
      · rename_i n f h1
        rcases xX_inv h1 with ⟨rfl, rfl, rfl⟩ | ⟨rfl, rfl, rfl⟩ | ⟨j, hj, rfl, rfl, rfl⟩
        · rw [x_refX (by omega) (by omega)]
          exact va_slen hx0 hb hG.2.2.2.2.2.2.2.2.2.1 (by rw [hG.2.2.2.2.2.2.2.2.2.2.2.2]; exact hG.2.2.2.2.2.2.2.2.2.2.1) (Nat.not_le.mpr hG.2.2.2.2.2.2.2.2.2.2.1) (x_old S.1 hG.2.2.2.2.2.2.2.2.2.2.2.2 S.2.2.1) hdg (hnx _ _ _ _ _ _ _ _ hx S)
        · rw [x_refX (by omega) (by omega)]
          exact va_tlen hx0 hb (hG.2.2.2.2.2.2.1.kept hkept) hS rfl hdg (hnx _ _ _ _ _ _ _ _ hx S)
        · rw [x_refX (by omega) (by omega)]
          exact va_tlen hx0 hb ((hG.2.2.2.2.1 j hj).2.2.2.kept hkept) hS rfl hdg (hnx _ _ _ _ _ _ _ _ hx S)
      · exact hx.elim
  | _ => exact False.elim hx
theorem y_ireturn (C : xCx G p R s m args c cc nL own) (hR : d + 2 ≤ R.frames ∧ 28 + 30 * (d + 1) ≤ R.locals ∨ ∀ a as h Q, ¬ K a as h Q) (hRc : R.cells = mc ∧ R.slots = ms) (hini : ini = true → meth.name = "<init>") (hjp : ∀ t, xGo G p e R s m args below meth c nL mc ms Qf t (jp t)) (hret : xRet G p e R s m args below meth c cc mc ms rt Qf Q) (hK : ∀ a as h Q, K a as h Q → xMt G d a as h Q) (S : xSt G s nL mc ms h ls cs ss H locs LS) (hdg : decode cc pc = .ok (.ireturn, 1)) (hok : xokI pp own ini nL (pc, mk, .ireturn, a, b, v) = true) (hnx : xGo G p e R s m args below meth c nL mc ms Qf (pc + 1) nx) (hx : x1 (xX (gN G) (gX G)) K xal mc ms rt Q nx jp (pc, mk, .ireturn, a, b, v) ls st h cs ss) : W p (gL G) e R s m args below meth c H locs cs ss Qf (F0 m pc LS (st.map (xcv G))) := by
  obtain ⟨hx0, hb, hml, hown, hts, hG, hso, hfr, hlo⟩ := id C
  have hO := hG.2.2.2.2.2.2.2.2.2.2.2.1
  rcases st with _ | ⟨w, _ | ⟨w2, r⟩⟩
  · exact False.elim hx
  · cases w with
    | int x =>
      have fin : ∀ ty, xrt rt = some ty → narrow ty (.int x) = .int x → Q (some (.int x)) h → W p (gL G) e R s m args below meth c H locs cs ss Qf (F0 m pc LS ([Value.int x].map (xcv G))) := fun ty h1 h2 h3 => hret (some (.int x)) h H locs cs ss pc LS .ireturn h3 S.1 S.2.2.1 S.2.2.2.1 S.2.2.2.2.1 S.2.2.2.2.2 (Or.inl ⟨rfl, x, ty, rfl, h1, h2⟩) hdg
      match rt, hret, fin, hx with
      | 0, _, _, hx => exact False.elim hx
      | 1, _, fin, hx => exact fin .int rfl rfl hx
      | 2, _, fin, hx => exact fin .boolean rfl (narrow_z (xite_yes hx).1) (xite_yes hx).2
      | 3, _, fin, hx => exact fin .char rfl hx.1 hx.2
      | 4, _, fin, hx => exact fin .byte rfl hx.1 hx.2
      | n + 5, _, _, hx => exact False.elim hx
    | _ => exact False.elim hx
  · cases w <;> exact False.elim hx
theorem y_lreturn (C : xCx G p R s m args c cc nL own) (hR : d + 2 ≤ R.frames ∧ 28 + 30 * (d + 1) ≤ R.locals ∨ ∀ a as h Q, ¬ K a as h Q) (hRc : R.cells = mc ∧ R.slots = ms) (hini : ini = true → meth.name = "<init>") (hjp : ∀ t, xGo G p e R s m args below meth c nL mc ms Qf t (jp t)) (hret : xRet G p e R s m args below meth c cc mc ms rt Qf Q) (hK : ∀ a as h Q, K a as h Q → xMt G d a as h Q) (S : xSt G s nL mc ms h ls cs ss H locs LS) (hdg : decode cc pc = .ok (.lreturn, 1)) (hok : xokI pp own ini nL (pc, mk, .lreturn, a, b, v) = true) (hnx : xGo G p e R s m args below meth c nL mc ms Qf (pc + 1) nx) (hx : x1 (xX (gN G) (gX G)) K xal mc ms rt Q nx jp (pc, mk, .lreturn, a, b, v) ls st h cs ss) : W p (gL G) e R s m args below meth c H locs cs ss Qf (F0 m pc LS (st.map (xcv G))) := by
  obtain ⟨hx0, hb, hml, hown, hts, hG, hso, hfr, hlo⟩ := id C
  have hO := hG.2.2.2.2.2.2.2.2.2.2.2.1
  dsimp only [x1] at hx
  split at hx
  · rename_i x
    exact hret (some (.long x)) h H locs cs ss pc LS .lreturn hx S.1 S.2.2.1 S.2.2.2.1 S.2.2.2.2.1 S.2.2.2.2.2 (Or.inr (Or.inl ⟨rfl, rfl, x, rfl⟩)) hdg
  · exact hx.elim
theorem y_return_ (C : xCx G p R s m args c cc nL own) (hR : d + 2 ≤ R.frames ∧ 28 + 30 * (d + 1) ≤ R.locals ∨ ∀ a as h Q, ¬ K a as h Q) (hRc : R.cells = mc ∧ R.slots = ms) (hini : ini = true → meth.name = "<init>") (hjp : ∀ t, xGo G p e R s m args below meth c nL mc ms Qf t (jp t)) (hret : xRet G p e R s m args below meth c cc mc ms rt Qf Q) (hK : ∀ a as h Q, K a as h Q → xMt G d a as h Q) (S : xSt G s nL mc ms h ls cs ss H locs LS) (hdg : decode cc pc = .ok (.return_, 1)) (hok : xokI pp own ini nL (pc, mk, .return_, a, b, v) = true) (hnx : xGo G p e R s m args below meth c nL mc ms Qf (pc + 1) nx) (hx : x1 (xX (gN G) (gX G)) K xal mc ms rt Q nx jp (pc, mk, .return_, a, b, v) ls st h cs ss) : W p (gL G) e R s m args below meth c H locs cs ss Qf (F0 m pc LS (st.map (xcv G))) := by
  obtain ⟨hx0, hb, hml, hown, hts, hG, hso, hfr, hlo⟩ := id C
  have hO := hG.2.2.2.2.2.2.2.2.2.2.2.1
  dsimp only [x1] at hx
  split at hx
  · exact hret none h H locs cs ss pc LS .return_ hx S.1 S.2.2.1 S.2.2.2.1 S.2.2.2.2.1 S.2.2.2.2.2 (Or.inr (Or.inr ⟨rfl, rfl, rfl⟩)) hdg
  · exact hx.elim

theorem xup_map {G : xG} {Rf : Nat → Nat → Option Nat} {o k q : Nat} : (fun j => (xrup Rf o k (some q) o j).map (xad G)) = va_up (fun j => (Rf o j).map (xad G)) k (some (xad G q)) := by
  funext j
  rw [xrup_eq]
  unfold va_up
  by_cases h : j = k
  · rw [if_pos h, if_pos h]; rfl
  · rw [if_neg h, if_neg h]
theorem xrup_no {Rf : Nat → Nat → Option Nat} {o k q : Nat} (h : ∀ (k j q : Nat), Rf k j = some q → q ≠ 1300) (hq : q ≠ 1300) : ∀ (a j z : Nat), xrup Rf o k (some q) a j = some z → z ≠ 1300 := fun a j z hz => by
  unfold xrup at hz
  split at hz
  · cases hz; exact hq
  · exact h a j z hz
theorem x_rnew {G : xG} {sh : List (Nat × Nat)} {Rf : Nat → Nat → Option Nat} {M : xM} (h : xRep G (sh, Rf, M) H) : (∀ i, i ≠ sh.length → (fun i => if i = sh.length then fun _ => none else Rf i) i = Rf i) ∧ (∀ i, i ≠ sh.length → xrow M sh.length (fun _ => 0) i = M i) ∧ ∀ (k j q : Nat), (fun i => if i = sh.length then fun _ => none else Rf i) k j = some q → q ≠ 1300 :=
  ⟨fun i hi => if_neg hi, fun i hi => xrow_ne hi, fun k j q hq => by
    dsimp only at hq
    split at hq
    · cases hq
    · exact h.1.2 k j q hq⟩
theorem x_newref {G : xG} {sh : List (Nat × Nat)} {Rf : Nat → Nat → Option Nat} {M : xM} (h : xRep G (sh, Rf, M) H) (hl : sh.length < 1000) : xcv G (.ref sh.length) = .ref H.size := by
  rw [x_ref hl, h.2.1]

theorem y_aastore (C : xCx G p R s m args c cc nL own) (hR : d + 2 ≤ R.frames ∧ 28 + 30 * (d + 1) ≤ R.locals ∨ ∀ a as h Q, ¬ K a as h Q) (hRc : R.cells = mc ∧ R.slots = ms) (hini : ini = true → meth.name = "<init>") (hjp : ∀ t, xGo G p e R s m args below meth c nL mc ms Qf t (jp t)) (hret : xRet G p e R s m args below meth c cc mc ms rt Qf Q) (hK : ∀ a as h Q, K a as h Q → xMt G d a as h Q) (S : xSt G s nL mc ms h ls cs ss H locs LS) (hdg : decode cc pc = .ok (.aastore, 1)) (hok : xokI pp own ini nL (pc, mk, .aastore, a, b, v) = true) (hnx : xGo G p e R s m args below meth c nL mc ms Qf (pc + 1) nx) (hx : x1 (xX (gN G) (gX G)) K xal mc ms rt Q nx jp (pc, mk, .aastore, a, b, v) ls st h cs ss) : W p (gL G) e R s m args below meth c H locs cs ss Qf (F0 m pc LS (st.map (xcv G))) := by
  obtain ⟨hx0, hb, hml, hown, hts, hG, hso, hfr, hlo⟩ := id C
  have hO := hG.2.2.2.2.2.2.2.2.2.2.2.1
  obtain ⟨sh, Rf, M⟩ := h
  rcases st with _ | ⟨w, _ | ⟨w2, _ | ⟨w3, r⟩⟩⟩
  · exact False.elim hx
  · cases w <;> exact False.elim hx
  · cases w <;> cases w2 <;> exact False.elim hx
  cases w with
  | ref q =>
    cases w2 with
    | int i =>
      cases w3 with
      | ref o =>
        dsimp only [x1] at hx
        rw [List.map_cons, List.map_cons, List.map_cons]
        split at hx
        · rename_i kd n hsh
          have hat := (x_cell S.1 hsh).1
          rw [x_sh S.1 hsh]
          split at hx
          · split at hx
            · rename_i kq nq hq
              split at hx
              · rename_i hkq
                have hkq : kq = 6 := Nat.eq_of_beq_eq_true hkq
                subst hkq
                have hqc := x_cell S.1 hq
                have hq1 := (x_cell S.1 hq).1
                rw [show ((6 : Nat), nq) = (3 + 3, nq) from rfl, xce_obj] at hq1
                obtain ⟨q', r1, cell, c1, c2, c3, -⟩ := hq1
                obtain ⟨C1, T1, hvw⟩ := S.1.2.2.2.1 q _ 3 hq rfl
                have hq' : q' = (C1, T1, nq) := Option.some.inj (r1.symm.trans hvw)
                subst hq'
                have hC1 : C1 = "EchoValley$Sheet" := by
                  have h1 : vwCl[3]? = some (RX4, TX4, 3) := rfl
                  have h2 := Option.some.inj (hvw.symm.trans h1)
                  exact congrArg Prod.fst h2
                rw [x_sh S.1 hq]
                have hne : @Ne Nat q 1300 := by
                  have h1 := hqc.2.2
                  have h2 := S.1.1.1
                  simp only at h2
                  omega
                exact x_aast hx0 hb hG.1 1 hat rfl ⟨cell, c1, by rw [c3]; rfl, by rw [c2, ← hC1]; exact (hG.1.1 3 _ hvw).2.1⟩ (xite_no hx).1 hdg (fun H1 lo e0 e1 e2 e3 => hnx _ _ _ _ _ _ _ _ (xite_no hx).2 (x_st1 S e0 e2 (x_repU S.1 hsh (by
                  show va_at (gD G) vwCl (gB G + o, .inl (gS G, n, .inr (.inr (.inr (.inr (fun j => (xrup Rf o i.toNatClampNeg (some q) o j).map (xad G))))))) H1
                  rw [xup_map, hqc.2.1]
                  exact e1) e2 e3 (fun i hi => xrup_ne hi) (fun _ _ => rfl) (xrup_no S.1.1.2 hne))))
              · exact hx.elim
            · exact hx.elim
          · split at hx
            · rename_i hq
              simp only [Bool.and_eq_true, Nat.ble_eq, Nat.blt_eq] at hq
              have h1 : @LE.le Nat _ 1100 q := hq.1
              have h2 : @LT.lt Nat _ q 1115 := hq.2
              obtain ⟨j, rfl⟩ : ∃ j : Nat, @Eq Nat q (1100 + j) := ⟨@HSub.hSub Nat Nat Nat _ q 1100, by omega⟩
              have hkept := x_keptS hG.2.2.2.2.2.2.2.2.2.2.2.2 hso
              obtain ⟨cell, c1, c2, c3, c4⟩ := (hG.2.2.2.2.1 j (by omega)).1
              have hlt : gE G (1100 + j) < gB G := Nat.not_le.mp c4
              have e4 : xad G (1100 + j) = gE G (1100 + j) := by
                unfold xad
                rw [if_neg (by omega)]
              rw [x_refX (by omega) (by omega)]
              exact x_aast hx0 hb hG.1 2 hat rfl ⟨cell, by rw [S.1.2.2.2.2 _ hlt]; exact c1, c2, c3⟩ (xite_no hx).1 hdg (fun H1 lo e0 e1 e2 e3 => hnx _ _ _ _ _ _ _ _ (xite_no hx).2 (x_st1 S e0 e2 (x_repU S.1 hsh (by
                  show va_at (gD G) vwCl (gB G + o, .inl (gT G, n, .inr (.inr (.inr (.inr (fun z => (xrup Rf o i.toNatClampNeg (some (1100 + j)) o z).map (xad G))))))) H1
                  rw [xup_map, e4]
                  exact e1) e2 e3 (fun i hi => xrup_ne hi) (fun _ _ => rfl) (xrup_no S.1.1.2 (by omega)))))
            · exact hx.elim
          · exact hx.elim
        · exact hx.elim
      | _ => exact False.elim hx
    | _ => exact False.elim hx
  | _ => exact False.elim hx
theorem y_new {i : Nat} (C : xCx G p R s m args c cc nL own) (hR : d + 2 ≤ R.frames ∧ 28 + 30 * (d + 1) ≤ R.locals ∨ ∀ a as h Q, ¬ K a as h Q) (hRc : R.cells = mc ∧ R.slots = ms) (hini : ini = true → meth.name = "<init>") (hjp : ∀ t, xGo G p e R s m args below meth c nL mc ms Qf t (jp t)) (hret : xRet G p e R s m args below meth c cc mc ms rt Qf Q) (hK : ∀ a as h Q, K a as h Q → xMt G d a as h Q) (S : xSt G s nL mc ms h ls cs ss H locs LS) (hdg : decode cc pc = .ok (.new i, 3)) (hok : xokI pp own ini nL (pc, mk, .new i, a, b, v) = true) (hnx : xGo G p e R s m args below meth c nL mc ms Qf (pc + 3) nx) (hx : x1 (xX (gN G) (gX G)) K xal mc ms rt Q nx jp (pc, mk, .new i, a, b, v) ls st h cs ss) : W p (gL G) e R s m args below meth c H locs cs ss Qf (F0 m pc LS (st.map (xcv G))) := by
  obtain ⟨hx0, hb, hml, hown, hts, hG, hso, hfr, hlo⟩ := id C
  have hO := hG.2.2.2.2.2.2.2.2.2.2.2.1
  obtain ⟨sh, Rf, M⟩ := h
  dsimp only [x1] at hx
  obtain ⟨⟨h1, h2, h3⟩, h4⟩ := hx
  unfold xokI at hok
  cases hvw : vwCl[a]? with
  | none => simp only [hvw] at hok; cases hok
  | some q =>
    obtain ⟨C1, T1, N⟩ := q
    simp only [hvw, Bool.and_eq_true] at hok
    have hN : N = b := Nat.eq_of_beq_eq_true hok.2
    subst hN
    have hcls := xcls_ok hvw
    obtain ⟨ty0, hty, hdef⟩ := hcls.2.1
    have hrn := x_rnew S.1
    refine x_new (C := C1) (T := T1) (N := N) hx0 hb hts hcls.1 ty0 hty hown (hts _ (xisw_mem hok.1)) (hts _ hcls.2.2.2.1) (hts _ hcls.2.2.2.2) hG.1 hvw (fs := xfs G a (fun _ => none) (fun _ => 0) N) (fun j hj => ?_) (by rw [hRc.1]; exact h2) (by rw [hRc.2]; exact h3) hdg (fun H1 e1 e2 e3 => ?_)
    · rw [hdef j hj]
      unfold vp_V
      rw [List.getD_eq_getElem?_getD, xfs_at hj]
      split <;> rfl
    · have h5 := hnx _ _ _ _ _ H1 locs LS h4 ⟨x_repN S.1 h1 (by rw [xce_obj, xrow_eq, if_pos rfl]; exact e1) e2 e3 hrn.1 hrn.2.1 (fun ci hci => ⟨C1, T1, by
        have e : ci = a := by simp only at hci; omega
        rw [e]; exact hvw⟩) hrn.2.2, S.2.1, S.2.2.1, by rw [e2]; exact Nat.le_succ_of_le S.2.2.2.1, h2, h3⟩
      rw [List.map_cons, x_newref S.1 h1] at h5
      exact h5
theorem y_newarray (C : xCx G p R s m args c cc nL own) (hR : d + 2 ≤ R.frames ∧ 28 + 30 * (d + 1) ≤ R.locals ∨ ∀ a as h Q, ¬ K a as h Q) (hRc : R.cells = mc ∧ R.slots = ms) (hini : ini = true → meth.name = "<init>") (hjp : ∀ t, xGo G p e R s m args below meth c nL mc ms Qf t (jp t)) (hret : xRet G p e R s m args below meth c cc mc ms rt Qf Q) (hK : ∀ a as h Q, K a as h Q → xMt G d a as h Q) (S : xSt G s nL mc ms h ls cs ss H locs LS) (hdg : decode cc pc = .ok (.newarray .int, 2)) (hok : xokI pp own ini nL (pc, mk, .newarray .int, a, b, v) = true) (hnx : xGo G p e R s m args below meth c nL mc ms Qf (pc + 2) nx) (hx : x1 (xX (gN G) (gX G)) K xal mc ms rt Q nx jp (pc, mk, .newarray .int, a, b, v) ls st h cs ss) : W p (gL G) e R s m args below meth c H locs cs ss Qf (F0 m pc LS (st.map (xcv G))) := by
  obtain ⟨hx0, hb, hml, hown, hts, hG, hso, hfr, hlo⟩ := id C
  have hO := hG.2.2.2.2.2.2.2.2.2.2.2.1
  obtain ⟨sh, Rf, M⟩ := h
  rcases st with _ | ⟨w, r⟩
  · exact False.elim hx
  cases w with
  | int i =>
    dsimp only [x1] at hx
    obtain ⟨⟨h1, h0, h6, h2, h3⟩, h4⟩ := hx
    have hrn := x_rnew S.1
    refine x_newa hx0 hb (hts _ x_objw.2.2.1) hG.1 0 rfl h0 rfl h6 (by rw [hRc.1]; exact h2) (by rw [hRc.2]; exact h3) hdg (fun H1 e1 e2 e3 => ?_)
    have h5 := hnx _ _ _ _ _ H1 locs LS h4 ⟨x_repN S.1 h1 (by rw [xce_arr, xrow_eq]; exact e1) e2 e3 hrn.1 hrn.2.1 (fun ci hci => by cases hci) hrn.2.2, S.2.1, S.2.2.1, by rw [e2]; exact Nat.le_succ_of_le S.2.2.2.1, h2, h3⟩
    rw [List.map_cons, x_newref S.1 h1] at h5
    exact h5
  | _ => exact False.elim hx
theorem y_anewarray {i : Nat} (C : xCx G p R s m args c cc nL own) (hR : d + 2 ≤ R.frames ∧ 28 + 30 * (d + 1) ≤ R.locals ∨ ∀ a as h Q, ¬ K a as h Q) (hRc : R.cells = mc ∧ R.slots = ms) (hini : ini = true → meth.name = "<init>") (hjp : ∀ t, xGo G p e R s m args below meth c nL mc ms Qf t (jp t)) (hret : xRet G p e R s m args below meth c cc mc ms rt Qf Q) (hK : ∀ a as h Q, K a as h Q → xMt G d a as h Q) (S : xSt G s nL mc ms h ls cs ss H locs LS) (hdg : decode cc pc = .ok (.anewarray i, 3)) (hok : xokI pp own ini nL (pc, mk, .anewarray i, a, b, v) = true) (hnx : xGo G p e R s m args below meth c nL mc ms Qf (pc + 3) nx) (hx : x1 (xX (gN G) (gX G)) K xal mc ms rt Q nx jp (pc, mk, .anewarray i, a, b, v) ls st h cs ss) : W p (gL G) e R s m args below meth c H locs cs ss Qf (F0 m pc LS (st.map (xcv G))) := by
  obtain ⟨hx0, hb, hml, hown, hts, hG, hso, hfr, hlo⟩ := id C
  have hO := hG.2.2.2.2.2.2.2.2.2.2.2.1
  obtain ⟨sh, Rf, M⟩ := h
  rcases st with _ | ⟨w, r⟩
  · exact False.elim hx
  cases w with
  | int n =>
    dsimp only [x1] at hx
    obtain ⟨⟨h1, h0, h6, h2, h3⟩, h4⟩ := hx
    have hrn := x_rnew S.1
    match a, hok, h4 with
    | 0, hok, _ => cases hok
    | 1, hok, h4 =>
      refine x_anewa (E := "EchoValley$Sheet") hx0 hb hown (hts _ (xisw_mem hok)) hG.2.2.1.1 hG.1 1 rfl h0 rfl h6 (by rw [hRc.1]; exact h2) (by rw [hRc.2]; exact h3) hdg (fun H1 e1 e2 e3 => ?_)
      have h5 := hnx _ _ _ _ _ H1 locs LS h4 ⟨x_repN S.1 h1 (by
        show va_at (gD G) vwCl (H.size, .inl (gS G, n.toNatClampNeg, .inr (.inr (.inr (.inr (fun j => ((if sh.length = sh.length then fun _ => none else Rf sh.length) j : Option Nat).map (xad G))))))) H1
        rw [if_pos rfl]; exact e1) e2 e3 hrn.1 hrn.2.1 (fun ci hci => by simp only at hci; omega) hrn.2.2, S.2.1, S.2.2.1, by rw [e2]; exact Nat.le_succ_of_le S.2.2.2.1, h2, h3⟩
      rw [List.map_cons, x_newref S.1 h1] at h5
      exact h5
    | 2, hok, h4 =>
      refine x_anewa (E := "java/lang/String") hx0 hb hown (hts _ (xisw_mem hok)) hG.2.2.1.2 hG.1 2 rfl h0 rfl h6 (by rw [hRc.1]; exact h2) (by rw [hRc.2]; exact h3) hdg (fun H1 e1 e2 e3 => ?_)
      have h5 := hnx _ _ _ _ _ H1 locs LS h4 ⟨x_repN S.1 h1 (by
        show va_at (gD G) vwCl (H.size, .inl (gT G, n.toNatClampNeg, .inr (.inr (.inr (.inr (fun j => ((if sh.length = sh.length then fun _ => none else Rf sh.length) j : Option Nat).map (xad G))))))) H1
        rw [if_pos rfl]; exact e1) e2 e3 hrn.1 hrn.2.1 (fun ci hci => by simp only at hci; omega) hrn.2.2, S.2.1, S.2.2.1, by rw [e2]; exact Nat.le_succ_of_le S.2.2.2.1, h2, h3⟩
      rw [List.map_cons, x_newref S.1 h1] at h5
      exact h5
    | k + 3, hok, _ => cases hok
  | _ => exact False.elim hx
theorem y_invokevirtual {i : Nat} (C : xCx G p R s m args c cc nL own) (hR : d + 2 ≤ R.frames ∧ 28 + 30 * (d + 1) ≤ R.locals ∨ ∀ a as h Q, ¬ K a as h Q) (hRc : R.cells = mc ∧ R.slots = ms) (hini : ini = true → meth.name = "<init>") (hjp : ∀ t, xGo G p e R s m args below meth c nL mc ms Qf t (jp t)) (hret : xRet G p e R s m args below meth c cc mc ms rt Qf Q) (hK : ∀ a as h Q, K a as h Q → xMt G d a as h Q) (S : xSt G s nL mc ms h ls cs ss H locs LS) (hdg : decode cc pc = .ok (.invokevirtual i, 3)) (hok : xokI pp own ini nL (pc, mk, .invokevirtual i, a, b, v) = true) (hnx : xGo G p e R s m args below meth c nL mc ms Qf (pc + 3) nx) (hx : x1 (xX (gN G) (gX G)) K xal mc ms rt Q nx jp (pc, mk, .invokevirtual i, a, b, v) ls st h cs ss) : W p (gL G) e R s m args below meth c H locs cs ss Qf (F0 m pc LS (st.map (xcv G))) := by
  obtain ⟨hx0, hb, hml, hown, hts, hG, hso, hfr, hlo⟩ := id C
  have hO := hG.2.2.2.2.2.2.2.2.2.2.2.1
  have h1 : (xcal pp own i a 1 (b - 1) && Nat.blt 0 b && xrcT v a) = true := hok
  simp only [Bool.and_eq_true, Nat.blt_eq] at h1
  obtain ⟨⟨h2, h3⟩, h4⟩ := h1
  dsimp only [x1] at hx
  split at hx
  · rename_i as r hp
    split at hx
    · rename_i hc
      simp only [Bool.and_eq_true, Nat.ble_eq] at hc
      rcases hR with hR | hR
      · exact x_callV C hR hRc S hc.2.1 hc.2.2 hnx h2 h3 h4 hc.1.2 hdg hp hc.1.1 (hK _ _ _ _ hx) rfl
      · exact absurd hx (hR _ _ _ _)
    · exact hx.elim
  · exact hx.elim
theorem y_invokespecial {i : Nat} (C : xCx G p R s m args c cc nL own) (hR : d + 2 ≤ R.frames ∧ 28 + 30 * (d + 1) ≤ R.locals ∨ ∀ a as h Q, ¬ K a as h Q) (hRc : R.cells = mc ∧ R.slots = ms) (hini : ini = true → meth.name = "<init>") (hjp : ∀ t, xGo G p e R s m args below meth c nL mc ms Qf t (jp t)) (hret : xRet G p e R s m args below meth c cc mc ms rt Qf Q) (hK : ∀ a as h Q, K a as h Q → xMt G d a as h Q) (S : xSt G s nL mc ms h ls cs ss H locs LS) (hdg : decode cc pc = .ok (.invokespecial i, 3)) (hok : xokI pp own ini nL (pc, mk, .invokespecial i, a, b, v) = true) (hnx : xGo G p e R s m args below meth c nL mc ms Qf (pc + 3) nx) (hx : x1 (xX (gN G) (gX G)) K xal mc ms rt Q nx jp (pc, mk, .invokespecial i, a, b, v) ls st h cs ss) : W p (gL G) e R s m args below meth c H locs cs ss Qf (F0 m pc LS (st.map (xcv G))) := by
  obtain ⟨hx0, hb, hml, hown, hts, hG, hso, hfr, hlo⟩ := id C
  have hO := hG.2.2.2.2.2.2.2.2.2.2.2.1
  cases h9 : Nat.beq a 999 with
  | true =>
    unfold xokI at hok
    simp only [h9] at hok
    rcases st with _ | ⟨w, r⟩
    · dsimp only [x1] at hx
      rw [h9] at hx
      exact False.elim hx
    cases w with
    | ref o =>
      dsimp only [x1] at hx
      rw [h9] at hx
      dsimp only at hx
      split at hx
      · rename_i hc
        simp only [Bool.and_eq_true, Nat.ble_eq, Nat.blt_eq] at hc
        have h5 := hnx _ _ _ _ _ _ _ _ hx S
        rw [List.map_cons, x_ref hc.2]
        exact W.objInit hx0 hb hown (hts _ (xisw_mem hok)) (hts _ x_objw.1) (hts _ x_objw.2.1) rfl (by rw [hml]; exact S.2.1.1) rfl hdg hfr (by
            have := xcat_eq hO r
            show 2 * 0 + ((r.map (xcv G)).map fun v => v.category).sum + 12 ≤ R.locals
            rw [this]; omega) h5
      · exact hx.elim
    | _ =>
      dsimp only [x1] at hx
      rw [h9] at hx
      exact False.elim hx
  | false =>
    have h1 : (xcal pp own i a 2 (b - 1) && Nat.blt 0 b) = true := by
      unfold xokI at hok
      simp only [h9] at hok
      exact hok
    simp only [Bool.and_eq_true, Nat.blt_eq] at h1
    have hx2 : (match xpop b st [] with
          | some (as, r) => match Nat.ble (xcat r) 8 && xint as && (Nat.ble (cs + (xal a).1) mc && Nat.ble (ss + (xal a).2) ms) with
            | true => K a as h (fun w h' => nx ls (xpush w r) h' (cs + (xal a).1) (ss + (xal a).2))
            | false => False
          | none => False) := by
      dsimp only [x1] at hx
      rw [h9] at hx
      exact hx
    split at hx2
    · rename_i as r hp
      split at hx2
      · rename_i hc
        simp only [Bool.and_eq_true, Nat.ble_eq] at hc
        have hrc : ∃ o ar, as = .ref o :: ar ∧ o < 1000 := by
          have h5 := hc.1.2
          unfold xint at h5
          split at h5
          · rename_i o ar
            exact ⟨o, ar, rfl, by rw [← Nat.blt_eq]; exact h5⟩
          · cases h5
        rcases hR with hR | hR
        · exact x_callI C hR hRc S hc.2.1 hc.2.2 hnx h1.1 h1.2 hdg hp hc.1.1 hrc (hK _ _ _ _ hx2) rfl
        · exact absurd hx2 (hR _ _ _ _)
      · exact hx2.elim
    · exact hx2.elim
theorem y_invokestatic {i : Nat} (C : xCx G p R s m args c cc nL own) (hR : d + 2 ≤ R.frames ∧ 28 + 30 * (d + 1) ≤ R.locals ∨ ∀ a as h Q, ¬ K a as h Q) (hRc : R.cells = mc ∧ R.slots = ms) (hini : ini = true → meth.name = "<init>") (hjp : ∀ t, xGo G p e R s m args below meth c nL mc ms Qf t (jp t)) (hret : xRet G p e R s m args below meth c cc mc ms rt Qf Q) (hK : ∀ a as h Q, K a as h Q → xMt G d a as h Q) (S : xSt G s nL mc ms h ls cs ss H locs LS) (hdg : decode cc pc = .ok (.invokestatic i, 3)) (hok : xokI pp own ini nL (pc, mk, .invokestatic i, a, b, v) = true) (hnx : xGo G p e R s m args below meth c nL mc ms Qf (pc + 3) nx) (hx : x1 (xX (gN G) (gX G)) K xal mc ms rt Q nx jp (pc, mk, .invokestatic i, a, b, v) ls st h cs ss) : W p (gL G) e R s m args below meth c H locs cs ss Qf (F0 m pc LS (st.map (xcv G))) := by
  obtain ⟨hx0, hb, hml, hown, hts, hG, hso, hfr, hlo⟩ := id C
  have hO := hG.2.2.2.2.2.2.2.2.2.2.2.1
  obtain ⟨sh, Rf, M⟩ := h
  cases h9 : Nat.beq a 998 with
  | true =>
    unfold xokI at hok
    simp only [h9] at hok
    dsimp only [x1] at hx
    rw [h9] at hx
    dsimp only at hx
    have hx2 : ∃ n dp t sp o r n0 n1, st = .int n :: .int dp :: .ref t :: .int sp :: .ref o :: r ∧ sh[o]? = some (0, n0) ∧ sh[t]? = some (0, n1) ∧ xcat r ≤ 8 ∧ (¬ sp < 0 ∧ ¬ dp < 0 ∧ ¬ n < 0 ∧ sp.toNatClampNeg + n.toNatClampNeg ≤ n0 ∧ dp.toNatClampNeg + n.toNatClampNeg ≤ n1) ∧ nx ls r (sh, Rf, xrow M t (va_cpy (M o) (M t) sp.toNatClampNeg dp.toNatClampNeg n.toNatClampNeg)) cs ss := by
      split at hx
      · rename_i n dp t sp o r sh' R' M' heq
        cases heq
        split at hx
        · rename_i n0 n1 q1 q2 q3
          exact ⟨_, _, _, _, _, _, _, _, rfl, q1, q2, by rw [← Nat.ble_eq]; exact q3, hx.1, hx.2⟩
        · exact hx.elim
      · exact hx.elim
    obtain ⟨n, dp, t, sp, o, r, n0, n1, rfl, q1, q2, q3, ⟨g1, g2, g3, g4, g5⟩, hx3⟩ := hx2
    have ha0 := (x_cell S.1 q1).1
    have ha1 := (x_cell S.1 q2).1
    rw [xce_arr] at ha0 ha1
    show W p (gL G) e R s m args below meth c H locs cs ss Qf (F0 m pc LS (.int n :: .int dp :: xcv G (.ref t) :: .int sp :: xcv G (.ref o) :: r.map (xcv G)))
    rw [x_sh S.1 q1, x_sh S.1 q2]
    refine x_copy hx0 hb (by rw [hml]; exact S.2.1.1.symm) hown (hts _ (xisw_mem hok)) (hts _ x_objw.2.2.2.1) (hts _ x_objw.2.2.2.2.1) (hts _ x_objw.2.2.2.2.2) hG.1 0 ha0 ha1 rfl g1 g2 g3 g4 g5 hfr (by
      have h1 : nativeFrameWords "java/lang/System" "arraycopy" 5 = 7 := by decide +kernel
      rw [xcat_eq hO, h1]; omega) hdg (fun H1 L e0 e1 e2 e3 => ?_)
    exact hnx _ _ _ _ _ _ _ _ hx3 ⟨x_repU S.1 q2 (by rw [xce_arr, xrow_eq]; exact e1) e2 e3 (fun _ _ => rfl) (fun i hi => xrow_ne hi) S.1.1.2, S.2.1, fun q hq => by
        rcases List.mem_append.mp hq with h1 | h1
        · exact S.2.2.1 q h1
        · rw [e0 q h1]; omega, by rw [e2]; exact S.2.2.2.1, S.2.2.2.2⟩
  | false =>
    have mm : ∀ (x y z : Int32) (r : List Value), st = .int y :: .int x :: r → xcat r ≤ 8 → nx ls (.int z :: r) (sh, Rf, M) cs ss → ((r.map (xcv G)).map fun v => v.category).sum + 13 ≤ R.locals ∧ W p (gL G) e R s m args below meth c H locs cs ss Qf (F0 m (pc + 3) LS (.int z :: r.map (xcv G))) := fun x y z r _ hc hn => ⟨by rw [xcat_eq hO]; omega, hnx _ _ _ _ _ _ _ _ hn S⟩
    cases h6 : Nat.beq a 996 with
    | true =>
      unfold xokI at hok
      simp only [h9, h6] at hok
      dsimp only [x1] at hx
      rw [h9] at hx
      dsimp only at hx
      rw [h6] at hx
      dsimp only at hx
      split at hx
      · rename_i y x r
        split at hx
        · rename_i hc
          simp only [Nat.ble_eq] at hc
          obtain ⟨m1, m2⟩ := mm x y _ r rfl hc hx
          exact va_mmax hx0 hb (by rw [hml]; exact S.2.1.1.symm) hown (hts _ (xisw_mem hok)) (hts _ x_mathw.1) (hts _ x_mathw.2.2.1) (hts _ x_mathw.2.2.2.1) hfr m1 (by rw [hRc.1]; exact S.2.2.2.2.1) (by rw [hRc.2]; exact S.2.2.2.2.2) hdg m2
        · exact hx.elim
      · exact hx.elim
    | false =>
    cases h5 : Nat.beq a 995 with
    | true =>
      unfold xokI at hok
      simp only [h9, h6, h5] at hok
      dsimp only [x1] at hx
      rw [h9] at hx
      dsimp only at hx
      rw [h6] at hx
      dsimp only at hx
      rw [h5] at hx
      dsimp only at hx
      split at hx
      · rename_i y x r
        split at hx
        · rename_i hc
          simp only [Nat.ble_eq] at hc
          obtain ⟨m1, m2⟩ := mm x y _ r rfl hc hx
          exact va_mmin hx0 hb (by rw [hml]; exact S.2.1.1.symm) hown (hts _ (xisw_mem hok)) (hts _ x_mathw.2.1) (hts _ x_mathw.2.2.1) (hts _ x_mathw.2.2.2.2) hfr m1 (by rw [hRc.1]; exact S.2.2.2.2.1) (by rw [hRc.2]; exact S.2.2.2.2.2) hdg m2
        · exact hx.elim
      · exact hx.elim
    | false =>
    cases h7 : Nat.beq a 997 with
    | true =>
      dsimp only [x1] at hx
      rw [h9] at hx
      dsimp only at hx
      rw [h6] at hx
      dsimp only at hx
      rw [h5] at hx
      dsimp only at hx
      rw [h7] at hx
      exact False.elim hx
    | false =>
    have h1 : xcal pp own i a 0 b = true := by
      unfold xokI at hok
      simp only [h9, h6, h5, h7] at hok
      exact hok
    have hx2 : (match xpop b st [] with
          | some (as, r) => match Nat.ble (xcat r) 8 && (Nat.ble (cs + (xal a).1) mc && Nat.ble (ss + (xal a).2) ms) with
            | true => K a as (sh, Rf, M) (fun w h' => nx ls (xpush w r) h' (cs + (xal a).1) (ss + (xal a).2))
            | false => False
          | none => False) := by
      dsimp only [x1] at hx
      rw [h9] at hx
      dsimp only at hx
      rw [h6] at hx
      dsimp only at hx
      rw [h5] at hx
      dsimp only at hx
      rw [h7] at hx
      exact hx
    split at hx2
    · rename_i as r hp
      split at hx2
      · rename_i hc
        simp only [Bool.and_eq_true, Nat.ble_eq] at hc
        rcases hR with hR | hR
        · exact x_callS C hR hRc S hc.2.1 hc.2.2 hnx h1 hdg hp hc.1 (hK _ _ _ _ hx2) rfl
        · exact absurd hx2 (hR _ _ _ _)
      · exact hx2.elim
    · exact hx2.elim
theorem x1_sound {ins : Instr} (C : xCx G p R s m args c cc nL own) (hR : d + 2 ≤ R.frames ∧ 28 + 30 * (d + 1) ≤ R.locals ∨ ∀ a as h Q, ¬ K a as h Q) (hRc : R.cells = mc ∧ R.slots = ms) (hini : ini = true → meth.name = "<init>") (hjp : ∀ t, xGo G p e R s m args below meth c nL mc ms Qf t (jp t)) (hret : xRet G p e R s m args below meth c cc mc ms rt Qf Q) (hK : ∀ a as h Q, K a as h Q → xMt G d a as h Q) (S : xSt G s nL mc ms h ls cs ss H locs LS) (hdg : decode cc pc = .ok (ins, xlen pc ins)) (hok : xokI pp own ini nL (pc, mk, ins, a, b, v) = true) (hnx : xGo G p e R s m args below meth c nL mc ms Qf (pc + xlen pc ins) nx) (hx : x1 (xX (gN G) (gX G)) K xal mc ms rt Q nx jp (pc, mk, ins, a, b, v) ls st h cs ss) : W p (gL G) e R s m args below meth c H locs cs ss Qf (F0 m pc LS (st.map (xcv G))) := by
  cases ins
  case iconst n => exact y_iconst C hR hRc hini hjp hret hK S hdg hok hnx hx
  case bipush n => exact y_bipush C hR hRc hini hjp hret hK S hdg hok hnx hx
  case sipush n => exact y_sipush C hR hRc hini hjp hret hK S hdg hok hnx hx
  case lconst n => exact y_lconst C hR hRc hini hjp hret hK S hdg hok hnx hx
  case ldc i => exact y_ldc C hR hRc hini hjp hret hK S hdg hok hnx hx
  case ldc_w i => exact y_ldc_w C hR hRc hini hjp hret hK S hdg hok hnx hx
  case ldc2_w i => exact y_ldc2_w C hR hRc hini hjp hret hK S hdg hok hnx hx
  case getstatic i => exact y_getstatic C hR hRc hini hjp hret hK S hdg hok hnx hx
  case iload_n k => exact y_iload_n C hR hRc hini hjp hret hK S hdg hok hnx hx
  case iload k => exact y_iload C hR hRc hini hjp hret hK S hdg hok hnx hx
  case lload_n k => exact y_lload_n C hR hRc hini hjp hret hK S hdg hok hnx hx
  case lload k => exact y_lload C hR hRc hini hjp hret hK S hdg hok hnx hx
  case aload_n k => exact y_aload_n C hR hRc hini hjp hret hK S hdg hok hnx hx
  case aload k => exact y_aload C hR hRc hini hjp hret hK S hdg hok hnx hx
  case istore_n k => exact y_istore_n C hR hRc hini hjp hret hK S hdg hok hnx hx
  case istore k => exact y_istore C hR hRc hini hjp hret hK S hdg hok hnx hx
  case lstore_n k => exact y_lstore_n C hR hRc hini hjp hret hK S hdg hok hnx hx
  case lstore k => exact y_lstore C hR hRc hini hjp hret hK S hdg hok hnx hx
  case astore_n k => exact y_astore_n C hR hRc hini hjp hret hK S hdg hok hnx hx
  case astore k => exact y_astore C hR hRc hini hjp hret hK S hdg hok hnx hx
  case iinc k n => exact y_iinc C hR hRc hini hjp hret hK S hdg hok hnx hx
  case iadd => exact y_iadd C hR hRc hini hjp hret hK S hdg hok hnx hx
  case isub => exact y_isub C hR hRc hini hjp hret hK S hdg hok hnx hx
  case imul => exact y_imul C hR hRc hini hjp hret hK S hdg hok hnx hx
  case iand => exact y_iand C hR hRc hini hjp hret hK S hdg hok hnx hx
  case ior => exact y_ior C hR hRc hini hjp hret hK S hdg hok hnx hx
  case ixor => exact y_ixor C hR hRc hini hjp hret hK S hdg hok hnx hx
  case ishl => exact y_ishl C hR hRc hini hjp hret hK S hdg hok hnx hx
  case ishr => exact y_ishr C hR hRc hini hjp hret hK S hdg hok hnx hx
  case ladd => exact y_ladd C hR hRc hini hjp hret hK S hdg hok hnx hx
  case lsub => exact y_lsub C hR hRc hini hjp hret hK S hdg hok hnx hx
  case land => exact y_land C hR hRc hini hjp hret hK S hdg hok hnx hx
  case lor => exact y_lor C hR hRc hini hjp hret hK S hdg hok hnx hx
  case iushr => exact y_iushr C hR hRc hini hjp hret hK S hdg hok hnx hx
  case lushr => exact y_lushr C hR hRc hini hjp hret hK S hdg hok hnx hx
  case lshl => exact y_lshl C hR hRc hini hjp hret hK S hdg hok hnx hx
  case lshr => exact y_lshr C hR hRc hini hjp hret hK S hdg hok hnx hx
  case i2l => exact y_i2l C hR hRc hini hjp hret hK S hdg hok hnx hx
  case l2i => exact y_l2i C hR hRc hini hjp hret hK S hdg hok hnx hx
  case i2b => exact y_i2b C hR hRc hini hjp hret hK S hdg hok hnx hx
  case i2s => exact y_i2s C hR hRc hini hjp hret hK S hdg hok hnx hx
  case i2c => exact y_i2c C hR hRc hini hjp hret hK S hdg hok hnx hx
  case idiv => exact y_idiv C hR hRc hini hjp hret hK S hdg hok hnx hx
  case irem => exact y_irem C hR hRc hini hjp hret hK S hdg hok hnx hx
  case lcmp => exact y_lcmp C hR hRc hini hjp hret hK S hdg hok hnx hx
  case dup => exact y_dup C hR hRc hini hjp hret hK S hdg hok hnx hx
  case dup2 => exact y_dup2 C hR hRc hini hjp hret hK S hdg hok hnx hx
  case pop => exact y_pop C hR hRc hini hjp hret hK S hdg hok hnx hx
  case goto o => exact y_goto C hR hRc hini hjp hret hK S hdg hok hnx hx
  case ifCond q o => exact y_ifCond C hR hRc hini hjp hret hK S hdg hok hnx hx
  case if_icmp q o => exact y_if_icmp C hR hRc hini hjp hret hK S hdg hok hnx hx
  case tableswitch df lo hi offs => exact y_tableswitch C hR hRc hini hjp hret hK S hdg hok hnx hx
  case getfield i => exact y_getfield C hR hRc hini hjp hret hK S hdg hok hnx hx
  case putfield i => exact y_putfield C hR hRc hini hjp hret hK S hdg hok hnx hx
  case iaload => exact y_iaload C hR hRc hini hjp hret hK S hdg hok hnx hx
  case baload => exact y_baload C hR hRc hini hjp hret hK S hdg hok hnx hx
  case aaload => exact y_aaload C hR hRc hini hjp hret hK S hdg hok hnx hx
  case iastore => exact y_iastore C hR hRc hini hjp hret hK S hdg hok hnx hx
  case aastore => exact y_aastore C hR hRc hini hjp hret hK S hdg hok hnx hx
  case arraylength => exact y_arraylength C hR hRc hini hjp hret hK S hdg hok hnx hx
  case new i => exact y_new C hR hRc hini hjp hret hK S hdg hok hnx hx
  case anewarray i => exact y_anewarray C hR hRc hini hjp hret hK S hdg hok hnx hx
  case invokevirtual i => exact y_invokevirtual C hR hRc hini hjp hret hK S hdg hok hnx hx
  case invokespecial i => exact y_invokespecial C hR hRc hini hjp hret hK S hdg hok hnx hx
  case invokestatic i => exact y_invokestatic C hR hRc hini hjp hret hK S hdg hok hnx hx
  case ireturn => exact y_ireturn C hR hRc hini hjp hret hK S hdg hok hnx hx
  case lreturn => exact y_lreturn C hR hRc hini hjp hret hK S hdg hok hnx hx
  case return_ => exact y_return_ C hR hRc hini hjp hret hK S hdg hok hnx hx
  case newarray t =>
    cases t
    case int => exact y_newarray C hR hRc hini hjp hret hK S hdg hok hnx hx
    all_goals exact False.elim hx
  all_goals exact False.elim hx
end XT
end
section
/-! RUNS of the small machine are runs of the machine: contracts by number (CW), states at a loop's head (Ev). -/
theorem xokC_head {cc : ByteArray} {pp : List (Nat × Nat)} {own : String} {ini : Bool} {nL : Nat} {e : xE} {is : List xE} (h : xokC cc pp own ini nL (e :: is) = true) :
    decode cc e.1 = .ok (e.2.2.1, xlen e.1 e.2.2.1) ∧ xokI pp own ini nL e = true ∧ (∀ f is', is = f :: is' → f.1 = e.1 + xlen e.1 e.2.2.1) ∧ xokC cc pp own ini nL is = true := by
  unfold xokC at h
  simp only [Bool.and_eq_true, decide_eq_true_eq] at h
  obtain ⟨⟨⟨h1, h2⟩, h3⟩, h4⟩ := h
  refine ⟨h1, h2, fun f is' hf => ?_, h4⟩
  subst hf
  exact Nat.eq_of_beq_eq_true h3
theorem xokC_seek {cc : ByteArray} {pp : List (Nat × Nat)} {own : String} {ini : Bool} {nL t : Nat} : ∀ {code : List xE}, xokC cc pp own ini nL code = true → xokC cc pp own ini nL (xseek t code) = true
  | [], h => h
  | e :: is, h => by
    unfold xseek
    split
    · exact h
    · exact xokC_seek (xokC_head h).2.2.2
theorem xseek_head {t : Nat} : ∀ {code : List xE} (e : xE) (is : List xE), xseek t code = e :: is → e.1 = t
  | [], e, is, h => by cases h
  | f :: r, e, is, h => by
    unfold xseek at h
    split at h
    · rename_i hb
      cases h
      exact Nat.eq_of_beq_eq_true hb
    · exact xseek_head (code := r) e is h
section XU
variable {G : xG} {p : Program} {e : Env} {R : Room} {s : State} {m : MethodId} {args : Array Value} {below : List Frame} {meth : Method} {c : Code} {cc : ByteArray} {nL mc ms rt : Nat} {own : String} {Qf : State → Prop}
variable {d : Nat} {pp : List (Nat × Nat)} {ini : Bool} {Q : Option Value → xH → Prop} {K : Nat → List Value → xH → (Option Value → xH → Prop) → Prop} {back : Nat → xL → List Value → xH → Nat → Nat → Prop} {code : List xE}
theorem x_run (C : xCx G p R s m args c cc nL own) (hR : d + 2 ≤ R.frames ∧ 28 + 30 * (d + 1) ≤ R.locals ∨ ∀ a as h Q, ¬ K a as h Q) (hRc : R.cells = mc ∧ R.slots = ms) (hini : ini = true → meth.name = "<init>") (hret : xRet G p e R s m args below meth c cc mc ms rt Qf Q) (hK : ∀ a as h Q, K a as h Q → xMt G d a as h Q) (hcode : xokC cc pp own ini nL code = true) (hback : ∀ t, xGo G p e R s m args below meth c nL mc ms Qf t (back t)) :
    ∀ (k : Nat) (start : Bool) (is : List xE) (pc : Nat), xokC cc pp own ini nL is = true → (∀ f is', is = f :: is' → f.1 = pc) → xGo G p e R s m args below meth c nL mc ms Qf pc (fun ls st h cs ss => wpI (xX (gN G) (gX G)) K xal mc ms rt Q back code k start is ls st h cs ss) := by
  intro k
  induction k with
  | zero => intro start is pc _ _ ls st h cs ss H locs LS hx S; exact False.elim hx
  | succ k ih =>
    intro start is pc hok hpc ls st h cs ss H locs LS hx S
    cases is with
    | nil => exact False.elim hx
    | cons f is =>
      have hf := hpc f is rfl
      obtain ⟨h1, h2, h3, h4⟩ := xokC_head hok
      obtain ⟨pc', mk, ins, a, b, v⟩ := f
      simp only at hf h1 h3
      subst hf
      have hgo : x1 (xX (gN G) (gX G)) K xal mc ms rt Q (fun ls st h cs ss => wpI (xX (gN G) (gX G)) K xal mc ms rt Q back code k false is ls st h cs ss) (fun t ls st h cs ss => wpI (xX (gN G) (gX G)) K xal mc ms rt Q back code k false (xseek t code) ls st h cs ss) (pc', mk, ins, a, b, v) ls st h cs ss → W p (gL G) e R s m args below meth c H locs cs ss Qf (F0 m pc' LS (st.map (xcv G))) := fun hx =>
        x1_sound C hR hRc hini (fun t => ih false (xseek t code) t (xokC_seek hcode) (fun f is' hh => xseek_head f is' hh)) hret hK S h1 h2 (ih false is _ h4 h3) hx
      cases start with
      | true => exact hgo hx
      | false =>
        cases mk with
        | nil => exact hgo hx
        | cons b0 mk => exact hback pc' _ _ _ _ _ _ _ _ hx ⟨S.1, x_mask S.2.1, S.2.2⟩
end XU
/-- the entry's slots -/
def xent : List Value → xL
  | [] => []
  | .long x :: vs => some (.long x) :: none :: xent vs
  | .double x :: vs => some (.double x) :: none :: xent vs
  | v :: vs => some v :: xent vs
def xpad : Nat → xL → xL
  | 0, _ => []
  | n + 1, [] => none :: xpad n []
  | n + 1, v :: l => v :: xpad n l
theorem xget_nil (i : Nat) : xget [] i = none := by cases i <;> rfl
theorem xget_pad : ∀ {n : Nat} {l : xL} {i : Nat} {v : Value}, xget (xpad n l) i = some v → xget l i = some v
  | 0, l, i, v, h => by rw [show xpad 0 l = [] from rfl, xget_nil] at h; cases h
  | n + 1, [], 0, v, h => by cases h
  | n + 1, [], i + 1, v, h => by
    have := xget_pad (n := n) (l := []) (i := i) (v := v) h
    rw [xget_nil] at this; cases this
  | n + 1, w :: l, 0, v, h => h
  | n + 1, w :: l, i + 1, v, h => xget_pad (n := n) (l := l) (i := i) (v := v) h
theorem xent_args {G : xG} (hO : xOk1 (gO G)) : ∀ (vs : List Value) (k i : Nat) (v : Value), xget (xent vs) i = some v → (k + i, xcv G v) ∈ lv_args k (vs.map (xcv G))
  | [], k, i, v, h => by rw [show xent [] = [] from rfl, xget_nil] at h; cases h
  | w :: vs, k, i, v, h => by
    have hc := xcv_cat hO w
    have one : w.category = 1 → xent (w :: vs) = some w :: xent vs := by cases w <;> first | (intro _; rfl) | (intro h; simp [Value.category] at h)
    have two : w.category = 2 → xent (w :: vs) = some w :: none :: xent vs := by cases w <;> first | (intro _; rfl) | (intro h; simp [Value.category] at h)
    rw [List.map_cons]
    unfold lv_args
    rcases lv_cat w with h1 | h1
    · rw [one h1] at h
      cases i with
      | zero =>
        cases h
        exact List.mem_cons_self
      | succ i =>
        have ih := xent_args hO vs (k + 1) i v h
        refine List.mem_cons_of_mem _ ?_
        rw [hc, h1]
        have e : k + 1 + i = k + (i + 1) := by omega
        rw [e] at ih
        exact ih
    · rw [two h1] at h
      match i, h with
      | 0, h => cases h; exact List.mem_cons_self
      | 1, h => cases h
      | i + 2, h =>
        have ih := xent_args hO vs (k + 2) i v h
        refine List.mem_cons_of_mem _ ?_
        rw [hc, h1]
        have e : k + 2 + i = k + (i + 2) := by omega
        rw [e] at ih
        exact ih
theorem x_entry {G : xG} (hO : xOk1 (gO G)) {LS : Array Slot} {n : Nat} {vs : List Value} (h : lv_has LS n (lv_args 0 (vs.map (xcv G)))) : lv_has LS n (xprs G (xpad n (xent vs))) :=
  ⟨h.1, h.2.1, fun q hq => by
    obtain ⟨v, h1, h2⟩ := mem_xprs.mp hq
    have h3 := xent_args hO vs 0 q.1 v (xget_pad h1)
    rw [Nat.zero_add, ← h2] at h3
    exact h.2.2 q h3⟩
theorem x_sl {G : xG} (hO : xOk1 (gO G)) : ∀ vs : List Value, (lg_sl (vs.map (xcv G))).length = (xent vs).length
  | [] => rfl
  | v :: vs => by
    have ih := x_sl hO vs
    have hc := xcv_cat hO v
    unfold lg_sl at ih ⊢
    rw [List.map_cons, List.flatMap_cons, List.length_append, ih, hc]
    cases v <;> simp [Value.category, xent] <;> omega
/-- a method's number, its code, the kind of its answer, its slots: as the tables have them -/
def xMf (j : Nat) (code : List xE) (rt nL : Nat) : Prop := ∃ (y : MethodName) (bytes : ByteArray) (ret : Option FieldType) (pp : List (Nat × Nat)) (ini : Bool), xT[j]? = some (y, bytes, nL, ret) ∧ xokC bytes pp y.cls ini nL code = true ∧ (ini = true → y.name = "<init>") ∧ ret = xrt rt ∧ plainName y.cls = true
def xEvs (G : xG) (d j pc : Nat) (ls : xL) (st : List Value) (h : xH) (cs ss : Nat) (Q : Option Value → xH → Prop) : Prop :=
  ∀ (y : MethodName) (bytes : ByteArray) (nL : Nat) (ret : Option FieldType), xT[j]? = some (y, bytes, nL, ret) →
  ∀ (p : Program) (e : Env) (s : State) (m : MethodId) (args : Array Value) (below : List Frame) (meth : Method) (c : Code), xCx G p (xrm d j) s m args c bytes nL y.cls → meth.sig.returnType = ret → meth.locks = false → meth.name = y.name →
  ∀ (H : Heap) (locs : List Loc) (LS : Array Slot), xSt G s nL (xal j).1 (xal j).2 h ls cs ss H locs LS → W p (gL G) e (xrm d j) s m args below meth c H locs cs ss (MQ below (xQc G Q) args s (xal j).1 (xal j).2 (xA G)) (F0 m pc LS (st.map (xcv G)))
theorem Ev_x : ∃ F : xG → Nat → Nat → Nat → xL → List Value → xH → Nat → Nat → (Option Value → xH → Prop) → Prop, F = xEvs := ⟨_, rfl⟩
noncomputable def Ev : xG → Nat → Nat → Nat → xL → List Value → xH → Nat → Nat → (Option Value → xH → Prop) → Prop := Classical.choose Ev_x
theorem Ev_eq : Ev = xEvs := Classical.choose_spec Ev_x
theorem CW_x : ∃ F : xG → Nat → Nat → List Value → xH → (Option Value → xH → Prop) → Prop, F = xMt := ⟨_, rfl⟩
noncomputable def CW : xG → Nat → Nat → List Value → xH → (Option Value → xH → Prop) → Prop := Classical.choose CW_x
theorem CW_eq : CW = xMt := Classical.choose_spec CW_x
def xK (G : xG) : Nat → Nat → List Value → xH → (Option Value → xH → Prop) → Prop
  | 0 => fun _ _ _ _ => False
  | d + 1 => CW G d
theorem x_retN {G : xG} {p : Program} {e : Env} {R : Room} {s : State} {m : MethodId} {args : Array Value} {below : List Frame} {meth : Method} {c : Code} {cc : ByteArray} {mc ms rt : Nat} {Q : Option Value → xH → Prop} (hx : p.tables.exec = Jvm.exec) (hb : c.code = cc) (hr : meth.sig.returnType = xrt rt) (hlocks : meth.locks = false) : xRet G p e R s m args below meth c cc mc ms rt (MQ below (xQc G Q) args s mc ms (xA G)) Q := by
  intro w h H locs cs ss pc LS ins hQ hrep hl hz hc hs hok hdg
  refine W.widen (k := mc) (n := ms) hc hs ?_
  rcases hok with ⟨rfl, x, ty, rfl, h1, h2⟩ | ⟨rfl, h1, x, rfl⟩ | ⟨rfl, h1, rfl⟩
  · exact W.zret hx hb (hr.trans h1) h2 (fun t ht _ => ⟨by rw [ht]; exact hz, some (.int x), h, rfl, hQ, by rw [ht]; exact hrep⟩) hl hdg hlocks
  · exact W.lret hx hb (hr.trans h1) (fun t ht _ => ⟨by rw [ht]; exact hz, some (.long x), h, rfl, hQ, by rw [ht]; exact hrep⟩) hl hdg hlocks
  · exact W.vret hx hb (hr.trans h1) (fun t ht _ => ⟨by rw [ht]; exact hz, none, h, rfl, hQ, by rw [ht]; exact hrep⟩) hl hdg hlocks
/-- from here to the next loop's head, call or end -/
theorem Ev_wp {G : xG} {d j pc mc ms : Nat} {code : List xE} {rt nL : Nat} (hf : xMf j code rt nL) (hal : xal j = (mc, ms)) {ls : xL} {st : List Value} {h : xH} {cs ss : Nat} {Q : Option Value → xH → Prop}
    (hw : wpI (xX (gN G) (gX G)) (xK G d) xal mc ms rt Q (fun pc ls st h cs ss => Ev G d j pc ls st h cs ss Q) code 400 true (xseek pc code) ls st h cs ss) : Ev G d j pc ls st h cs ss Q := by
  rw [Ev_eq] at hw ⊢
  obtain ⟨y, bytes, ret, pp, ini, hT, hok, hin, hret, hpl⟩ := hf
  intro y' bytes' nL' ret' hT' p e s m args below meth c C hr hlocks hnm H locs LS S
  cases hT.symm.trans hT'
  have hal1 : (xal j).1 = mc := by rw [hal]
  have hal2 : (xal j).2 = ms := by rw [hal]
  rw [hal1, hal2] at S ⊢
  have hrt := x_retN (G := G) (e := e) (R := xrm d j) (s := s) (m := m) (args := args) (below := below) (mc := mc) (ms := ms) (Q := Q) C.1 C.2.1 (hr.trans hret) hlocks
  have hback : ∀ t, xGo G p e (xrm d j) s m args below meth c nL mc ms (MQ below (xQc G Q) args s mc ms (xA G)) t (fun ls st h cs ss => xEvs G d j t ls st h cs ss Q) := fun t ls st h cs ss H locs LS hE S => by
    have h1 := hE y bytes nL ret hT p e s m args below meth c C hr hlocks hnm H locs LS (by rw [hal1, hal2]; exact S)
    rw [hal1, hal2] at h1
    exact h1
  cases d with
  | zero => exact x_run (d := 0) C (Or.inr (fun a as h Q hk => hk)) ⟨hal1, hal2⟩ (fun z => by rw [hnm]; exact hin z) hrt (fun a as h Q hk => hk.elim) hok hback 400 true (xseek pc code) pc (xokC_seek hok) (fun f is' hh => xseek_head f is' hh) _ _ _ _ _ _ _ _ hw S
  | succ d => exact x_run (d := d) C (Or.inl ⟨by show d + 2 ≤ d + 1 + 1; omega, by show 28 + 30 * (d + 1) ≤ 30 * (d + 1 + 1); omega⟩) ⟨hal1, hal2⟩ (fun z => by rw [hnm]; exact hin z) hrt (fun a as h Q hk => by rw [← CW_eq]; exact hk) hok hback 400 true (xseek pc code) pc (xokC_seek hok) (fun f is' hh => xseek_head f is' hh) _ _ _ _ _ _ _ _ hw S
/-- a contract from the method's entry -/
theorem CW_ev {G : xG} {d j : Nat} {code : List xE} {rt nL : Nat} (hf : xMf j code rt nL) {vs : List Value} {ls : xL} (hls : xpad nL (xent vs) = ls) (hlen : Nat.ble (xent vs).length nL = true) {h : xH} {Q : Option Value → xH → Prop} (hw : Ev G d j 0 ls [] h 0 0 Q) : CW G d j vs h Q := by
  rw [CW_eq]
  rw [Ev_eq] at hw
  obtain ⟨y, bytes, ret, pp, ini, hT, hok, hin, hret, hpl⟩ := hf
  refine ⟨y, bytes, nL, ret, hT, ?_⟩
  refine Met.ofW (cc := bytes) (maxL := nL) (ret := ret) hpl rfl ?_
  intro p e s m args below meth c s₁ B hml hv
  obtain ⟨rfl, hG, hrep⟩ := hv
  have hx := B.exec
  have hb := B.bytes
  have hr := B.returns
  have hts := atoms_spec (ws := Cond.code y bytes nL ret :: xGood) B.pre
  have hown : s.vm.findClass y.cls = some m.cls := findClass_of_methodNamed B.named
  have hlocks := B.notSynchronized
  have hnm : meth.name = y.name := (name_of_methodNamed B.named B.method).1
  have hO := hG.2.2.2.2.2.2.2.2.2.2.2.1
  have hl := lv_entry (vs.map (xcv G)) (n := nL) (by rw [x_sl hO]; rw [← Nat.ble_eq]; exact hlen)
  rw [lg_entry_eq]
  generalize (lg_sl (vs.map (xcv G)) ++ List.replicate (nL - (lg_sl (vs.map (xcv G))).length) Slot.unset).toArray = LS at hl ⊢
  have hz := hrep.2.1
  exact hw y bytes nL ret hT p e s m _ below meth c ⟨hx, hb, hml, hown, fun w hw => hts w (List.mem_cons_of_mem _ hw), hG, ⟨by omega, hrep.2.2.2.2⟩, by show 1 ≤ d + 1; omega, by show 30 ≤ 30 * (d + 1); omega⟩ hr hlocks hnm s.heap [] LS ⟨hrep, (by rw [← hls]; exact x_entry hO hl), (fun q hq => absurd hq List.not_mem_nil), Nat.le_refl _, Nat.zero_le _, Nat.zero_le _⟩
/-- the same, from the entry to the first loop's head, call or end -/
theorem CW_wp {G : xG} {d j mc ms : Nat} {code : List xE} {rt nL : Nat} (hf : xMf j code rt nL) (hal : xal j = (mc, ms)) {vs : List Value} {ls : xL} (hls : xpad nL (xent vs) = ls) (hlen : Nat.ble (xent vs).length nL = true) {h : xH} {Q : Option Value → xH → Prop}
    (hw : wpI (xX (gN G) (gX G)) (xK G d) xal mc ms rt Q (fun pc ls st h cs ss => Ev G d j pc ls st h cs ss Q) code 400 true (xseek 0 code) ls [] h 0 0) : CW G d j vs h Q := CW_ev hf hls hlen (Ev_wp hf hal hw)
end
section
theorem fX0_isKind : xMf jX0_isKind kX0_isKind 2 1 := ⟨yX0_isKind, cX0_isKind, (some .boolean), xpp_2, false, by rfl, oX0_isKind, by decide, rfl, by decide⟩
theorem fX0_isUnder : xMf jX0_isUnder kX0_isUnder 2 4 := ⟨yX0_isUnder, cX0_isUnder, (some .boolean), xpp_2, false, by rfl, oX0_isUnder, by decide, rfl, by decide⟩
theorem fX0_lasting : xMf jX0_lasting kX0_lasting 1 2 := ⟨yX0_lasting, cX0_lasting, (some .int), xpp_2, false, by rfl, oX0_lasting, by decide, rfl, by decide⟩
theorem fX0_reachOf : xMf jX0_reachOf kX0_reachOf 1 2 := ⟨yX0_reachOf, cX0_reachOf, (some .int), xpp_2, false, by rfl, oX0_reachOf, by decide, rfl, by decide⟩
theorem fX0_canDrown : xMf jX0_canDrown kX0_canDrown 2 3 := ⟨yX0_canDrown, cX0_canDrown, (some .boolean), xpp_2, false, by rfl, oX0_canDrown, by decide, rfl, by decide⟩
theorem fX0_canYield : xMf jX0_canYield kX0_canYield 2 2 := ⟨yX0_canYield, cX0_canYield, (some .boolean), xpp_2, false, by rfl, oX0_canYield, by decide, rfl, by decide⟩
theorem fX1_init : xMf jX1_init kX1_init 0 1 := ⟨yX1_init, cX1_init, none, xpp_3, true, by rfl, oX1_init, by decide, rfl, by decide⟩
theorem fX1_become : xMf jX1_become kX1_become 0 2 := ⟨yX1_become, cX1_become, none, xpp_3, false, by rfl, oX1_become, by decide, rfl, by decide⟩
theorem fX1_placeOf : xMf jX1_placeOf kX1_placeOf 1 3 := ⟨yX1_placeOf, cX1_placeOf, (some .int), xpp_3, false, by rfl, oX1_placeOf, by decide, rfl, by decide⟩
theorem fX1_put : xMf jX1_put kX1_put 0 6 := ⟨yX1_put, cX1_put, none, xpp_3, false, by rfl, oX1_put, by decide, rfl, by decide⟩
theorem fX1_placesTaken : xMf jX1_placesTaken kX1_placesTaken 1 5 := ⟨yX1_placesTaken, cX1_placesTaken, (some .int), xpp_3, false, by rfl, oX1_placesTaken, by decide, rfl, by decide⟩
theorem fX1_numberAt : xMf jX1_numberAt kX1_numberAt 1 5 := ⟨yX1_numberAt, cX1_numberAt, (some .int), xpp_3, false, by rfl, oX1_numberAt, by decide, rfl, by decide⟩
theorem fX2_init : xMf jX2_init kX2_init 0 1 := ⟨yX2_init, cX2_init, none, xpp_4, true, by rfl, oX2_init, by decide, rfl, by decide⟩
theorem fX2_add : xMf jX2_add kX2_add 0 4 := ⟨yX2_add, cX2_add, none, xpp_4, false, by rfl, oX2_add, by decide, rfl, by decide⟩
theorem fX2_clear : xMf jX2_clear kX2_clear 1 2 := ⟨yX2_clear, cX2_clear, (some .int), xpp_4, false, by rfl, oX2_clear, by decide, rfl, by decide⟩
theorem fX2_readInto : xMf jX2_readInto kX2_readInto 1 3 := ⟨yX2_readInto, cX2_readInto, (some .int), xpp_4, false, by rfl, oX2_readInto, by decide, rfl, by decide⟩
theorem fX2_readItem : xMf jX2_readItem kX2_readItem 2 3 := ⟨yX2_readItem, cX2_readItem, (some .boolean), xpp_4, false, by rfl, oX2_readItem, by decide, rfl, by decide⟩
theorem fX2_readWay : xMf jX2_readWay kX2_readWay 2 4 := ⟨yX2_readWay, cX2_readWay, (some .boolean), xpp_4, false, by rfl, oX2_readWay, by decide, rfl, by decide⟩
theorem fX2_readPerson : xMf jX2_readPerson kX2_readPerson 2 6 := ⟨yX2_readPerson, cX2_readPerson, (some .boolean), xpp_4, false, by rfl, oX2_readPerson, by decide, rfl, by decide⟩
theorem fX2_readKeep : xMf jX2_readKeep kX2_readKeep 2 3 := ⟨yX2_readKeep, cX2_readKeep, (some .boolean), xpp_4, false, by rfl, oX2_readKeep, by decide, rfl, by decide⟩
theorem fX2_readRain : xMf jX2_readRain kX2_readRain 2 3 := ⟨yX2_readRain, cX2_readRain, (some .boolean), xpp_4, false, by rfl, oX2_readRain, by decide, rfl, by decide⟩
theorem fX2_readSaying : xMf jX2_readSaying kX2_readSaying 2 7 := ⟨yX2_readSaying, cX2_readSaying, (some .boolean), xpp_4, false, by rfl, oX2_readSaying, by decide, rfl, by decide⟩
theorem fX2_kindAtHand : xMf jX2_kindAtHand kX2_kindAtHand 1 1 := ⟨yX2_kindAtHand, cX2_kindAtHand, (some .int), xpp_4, false, by rfl, oX2_kindAtHand, by decide, rfl, by decide⟩
theorem fX2_take : xMf jX2_take kX2_take 2 2 := ⟨yX2_take, cX2_take, (some .boolean), xpp_4, false, by rfl, oX2_take, by decide, rfl, by decide⟩
theorem fX2_isAtHand : xMf jX2_isAtHand kX2_isAtHand 2 3 := ⟨yX2_isAtHand, cX2_isAtHand, (some .boolean), xpp_4, false, by rfl, oX2_isAtHand, by decide, rfl, by decide⟩
theorem fX2_takeNumber : xMf jX2_takeNumber kX2_takeNumber 1 4 := ⟨yX2_takeNumber, cX2_takeNumber, (some .int), xpp_4, false, by rfl, oX2_takeNumber, by decide, rfl, by decide⟩
theorem fX2_next : xMf jX2_next kX2_next 0 1 := ⟨yX2_next, cX2_next, none, xpp_4, false, by rfl, oX2_next, by decide, rfl, by decide⟩
theorem fX2_reckonValue : xMf jX2_reckonValue kX2_reckonValue 0 2 := ⟨yX2_reckonValue, cX2_reckonValue, none, xpp_4, false, by rfl, oX2_reckonValue, by decide, rfl, by decide⟩
theorem fX2_typeAt : xMf jX2_typeAt kX2_typeAt 1 3 := ⟨yX2_typeAt, cX2_typeAt, (some .int), xpp_4, false, by rfl, oX2_typeAt, by decide, rfl, by decide⟩
theorem fX3_init : xMf jX3_init kX3_init 0 1 := ⟨yX3_init, cX3_init, none, xpp_5, true, by rfl, oX3_init, by decide, rfl, by decide⟩
theorem fX3_become : xMf jX3_become kX3_become 0 2 := ⟨yX3_become, cX3_become, none, xpp_5, false, by rfl, oX3_become, by decide, rfl, by decide⟩
theorem fX3_isFull : xMf jX3_isFull kX3_isFull 2 1 := ⟨yX3_isFull, cX3_isFull, (some .boolean), xpp_5, false, by rfl, oX3_isFull, by decide, rfl, by decide⟩
theorem fX3_add : xMf jX3_add kX3_add 1 8 := ⟨yX3_add, cX3_add, (some .int), xpp_5, false, by rfl, oX3_add, by decide, rfl, by decide⟩
theorem fX3_reachOf : xMf jX3_reachOf kX3_reachOf 1 2 := ⟨yX3_reachOf, cX3_reachOf, (some .int), xpp_5, false, by rfl, oX3_reachOf, by decide, rfl, by decide⟩
theorem fX3_firstOver : xMf jX3_firstOver kX3_firstOver 1 3 := ⟨yX3_firstOver, cX3_firstOver, (some .int), xpp_5, false, by rfl, oX3_firstOver, by decide, rfl, by decide⟩
theorem fX3_isOver : xMf jX3_isOver kX3_isOver 2 3 := ⟨yX3_isOver, cX3_isOver, (some .boolean), xpp_5, false, by rfl, oX3_isOver, by decide, rfl, by decide⟩
theorem fX4_init : xMf jX4_init kX4_init 0 1 := ⟨yX4_init, cX4_init, none, xpp_6, true, by rfl, oX4_init, by decide, rfl, by decide⟩
theorem fX4_areBits : xMf jX4_areBits kX4_areBits 2 1 := ⟨yX4_areBits, cX4_areBits, (some .boolean), xpp_6, false, by rfl, oX4_areBits, by decide, rfl, by decide⟩
theorem fX4_isMissing : xMf jX4_isMissing kX4_isMissing 2 1 := ⟨yX4_isMissing, cX4_isMissing, (some .boolean), xpp_6, false, by rfl, oX4_isMissing, by decide, rfl, by decide⟩
theorem fX4_begin : xMf jX4_begin kX4_begin 0 3 := ⟨yX4_begin, cX4_begin, none, xpp_6, false, by rfl, oX4_begin, by decide, rfl, by decide⟩
theorem fX4_hasRange : xMf jX4_hasRange kX4_hasRange 2 3 := ⟨yX4_hasRange, cX4_hasRange, (some .boolean), xpp_6, false, by rfl, oX4_hasRange, by decide, rfl, by decide⟩
theorem fX4_put : xMf jX4_put kX4_put 0 3 := ⟨yX4_put, cX4_put, none, xpp_6, false, by rfl, oX4_put, by decide, rfl, by decide⟩
theorem fX5_init : xMf jX5_init kX5_init 0 1 := ⟨yX5_init, cX5_init, none, xpp_7, true, by rfl, oX5_init, by decide, rfl, by decide⟩
theorem fX5_become : xMf jX5_become kX5_become 0 2 := ⟨yX5_become, cX5_become, none, xpp_7, false, by rfl, oX5_become, by decide, rfl, by decide⟩
theorem fX5_draw : xMf jX5_draw kX5_draw 1 1 := ⟨yX5_draw, cX5_draw, (some .int), xpp_7, false, by rfl, oX5_draw, by decide, rfl, by decide⟩
theorem fX5_rainyDays : xMf jX5_rainyDays kX5_rainyDays 1 5 := ⟨yX5_rainyDays, cX5_rainyDays, (some .int), xpp_7, false, by rfl, oX5_rainyDays, by decide, rfl, by decide⟩
theorem fX5_ageOf : xMf jX5_ageOf kX5_ageOf 1 3 := ⟨yX5_ageOf, cX5_ageOf, (some .int), xpp_7, false, by rfl, oX5_ageOf, by decide, rfl, by decide⟩
theorem fX5_lastsOf : xMf jX5_lastsOf kX5_lastsOf 1 2 := ⟨yX5_lastsOf, cX5_lastsOf, (some .int), xpp_7, false, by rfl, oX5_lastsOf, by decide, rfl, by decide⟩
theorem fX5_around : xMf jX5_around kX5_around 1 2 := ⟨yX5_around, cX5_around, (some .int), xpp_7, false, by rfl, oX5_around, by decide, rfl, by decide⟩
theorem fX5_isHeard : xMf jX5_isHeard kX5_isHeard 2 5 := ⟨yX5_isHeard, cX5_isHeard, (some .boolean), xpp_7, false, by rfl, oX5_isHeard, by decide, rfl, by decide⟩
theorem fX5_isHeardAt : xMf jX5_isHeardAt kX5_isHeardAt 2 4 := ⟨yX5_isHeardAt, cX5_isHeardAt, (some .boolean), xpp_7, false, by rfl, oX5_isHeardAt, by decide, rfl, by decide⟩
theorem fX5_heardSet : xMf jX5_heardSet kX5_heardSet 5 6 := ⟨yX5_heardSet, cX5_heardSet, (some .long), xpp_7, false, by rfl, oX5_heardSet, by decide, rfl, by decide⟩
theorem fX5_loudPlaces : xMf jX5_loudPlaces kX5_loudPlaces 1 4 := ⟨yX5_loudPlaces, cX5_loudPlaces, (some .int), xpp_7, false, by rfl, oX5_loudPlaces, by decide, rfl, by decide⟩
theorem fX5_heardOn : xMf jX5_heardOn kX5_heardOn 1 4 := ⟨yX5_heardOn, cX5_heardOn, (some .int), xpp_7, false, by rfl, oX5_heardOn, by decide, rfl, by decide⟩
theorem fX5_lastDayOf : xMf jX5_lastDayOf kX5_lastDayOf 1 4 := ⟨yX5_lastDayOf, cX5_lastDayOf, (some .int), xpp_7, false, by rfl, oX5_lastDayOf, by decide, rfl, by decide⟩
theorem fX5_lastDayOfOnce : xMf jX5_lastDayOfOnce kX5_lastDayOfOnce 1 5 := ⟨yX5_lastDayOfOnce, cX5_lastDayOfOnce, (some .int), xpp_7, false, by rfl, oX5_lastDayOfOnce, by decide, rfl, by decide⟩
theorem fX5_doesHear : xMf jX5_doesHear kX5_doesHear 2 5 := ⟨yX5_doesHear, cX5_doesHear, (some .boolean), xpp_7, false, by rfl, oX5_doesHear, by decide, rfl, by decide⟩
theorem fX6_init : xMf jX6_init kX6_init 0 1 := ⟨yX6_init, cX6_init, none, xpp_8, true, by rfl, oX6_init, by decide, rfl, by decide⟩
theorem fX6_choose : xMf jX6_choose kX6_choose 1 6 := ⟨yX6_choose, cX6_choose, (some .int), xpp_8, false, by rfl, oX6_choose, by decide, rfl, by decide⟩
theorem fX6_gather : xMf jX6_gather kX6_gather 0 6 := ⟨yX6_gather, cX6_gather, none, xpp_8, false, by rfl, oX6_gather, by decide, rfl, by decide⟩
theorem fX6_addAround : xMf jX6_addAround kX6_addAround 0 4 := ⟨yX6_addAround, cX6_addAround, none, xpp_8, false, by rfl, oX6_addAround, by decide, rfl, by decide⟩
theorem fX6_reckon : xMf jX6_reckon kX6_reckon 0 6 := ⟨yX6_reckon, cX6_reckon, none, xpp_8, false, by rfl, oX6_reckon, by decide, rfl, by decide⟩
theorem fX6_bestNext : xMf jX6_bestNext kX6_bestNext 1 7 := ⟨yX6_bestNext, cX6_bestNext, (some .int), xpp_8, false, by rfl, oX6_bestNext, by decide, rfl, by decide⟩
theorem fX7_init : xMf jX7_init kX7_init 0 1 := ⟨yX7_init, cX7_init, none, xpp_9, true, by rfl, oX7_init, by decide, rfl, by decide⟩
theorem fX7_become : xMf jX7_become kX7_become 0 2 := ⟨yX7_become, cX7_become, none, xpp_9, false, by rfl, oX7_become, by decide, rfl, by decide⟩
theorem fX7_has : xMf jX7_has kX7_has 2 3 := ⟨yX7_has, cX7_has, (some .boolean), xpp_9, false, by rfl, oX7_has, by decide, rfl, by decide⟩
theorem fX7_put : xMf jX7_put kX7_put 0 4 := ⟨yX7_put, cX7_put, none, xpp_9, false, by rfl, oX7_put, by decide, rfl, by decide⟩
theorem fX7_putHalf : xMf jX7_putHalf kX7_putHalf 0 4 := ⟨yX7_putHalf, cX7_putHalf, none, xpp_9, false, by rfl, oX7_putHalf, by decide, rfl, by decide⟩
theorem fX7_isOpen : xMf jX7_isOpen kX7_isOpen 2 3 := ⟨yX7_isOpen, cX7_isOpen, (some .boolean), xpp_9, false, by rfl, oX7_isOpen, by decide, rfl, by decide⟩
theorem fX7_total : xMf jX7_total kX7_total 1 3 := ⟨yX7_total, cX7_total, (some .int), xpp_9, false, by rfl, oX7_total, by decide, rfl, by decide⟩
theorem fX7_fewestBetween : xMf jX7_fewestBetween kX7_fewestBetween 1 5 := ⟨yX7_fewestBetween, cX7_fewestBetween, (some .int), xpp_9, false, by rfl, oX7_fewestBetween, by decide, rfl, by decide⟩
theorem fX7_within : xMf jX7_within kX7_within 1 5 := ⟨yX7_within, cX7_within, (some .int), xpp_9, false, by rfl, oX7_within, by decide, rfl, by decide⟩
theorem fX7_spread : xMf jX7_spread kX7_spread 1 4 := ⟨yX7_spread, cX7_spread, (some .int), xpp_9, false, by rfl, oX7_spread, by decide, rfl, by decide⟩
theorem fX8_init : xMf jX8_init kX8_init 0 2 := ⟨yX8_init, cX8_init, none, xpp_0, true, by rfl, oX8_init, by decide, rfl, by decide⟩
theorem fX8_way : xMf jX8_way kX8_way 1 5 := ⟨yX8_way, cX8_way, (some .int), xpp_0, false, by rfl, oX8_way, by decide, rfl, by decide⟩
theorem fX8_steps : xMf jX8_steps kX8_steps 1 4 := ⟨yX8_steps, cX8_steps, (some .int), xpp_0, false, by rfl, oX8_steps, by decide, rfl, by decide⟩
theorem fX8_days : xMf jX8_days kX8_days 1 2 := ⟨yX8_days, cX8_days, (some .int), xpp_0, false, by rfl, oX8_days, by decide, rfl, by decide⟩
theorem fX8_rain : xMf jX8_rain kX8_rain 1 4 := ⟨yX8_rain, cX8_rain, (some .int), xpp_0, false, by rfl, oX8_rain, by decide, rfl, by decide⟩
theorem fX8_weather : xMf jX8_weather kX8_weather 1 5 := ⟨yX8_weather, cX8_weather, (some .int), xpp_0, false, by rfl, oX8_weather, by decide, rfl, by decide⟩
theorem fX8_keep : xMf jX8_keep kX8_keep 1 3 := ⟨yX8_keep, cX8_keep, (some .int), xpp_0, false, by rfl, oX8_keep, by decide, rfl, by decide⟩
theorem fX8_say : xMf jX8_say kX8_say 1 6 := ⟨yX8_say, cX8_say, (some .int), xpp_0, false, by rfl, oX8_say, by decide, rfl, by decide⟩
theorem fX8_sayingOf : xMf jX8_sayingOf kX8_sayingOf 1 3 := ⟨yX8_sayingOf, cX8_sayingOf, (some .int), xpp_0, false, by rfl, oX8_sayingOf, by decide, rfl, by decide⟩
theorem fX8_turn : xMf jX8_turn kX8_turn 1 4 := ⟨yX8_turn, cX8_turn, (some .int), xpp_0, false, by rfl, oX8_turn, by decide, rfl, by decide⟩
theorem fX8_age : xMf jX8_age kX8_age 1 3 := ⟨yX8_age, cX8_age, (some .int), xpp_0, false, by rfl, oX8_age, by decide, rfl, by decide⟩
theorem fX8_over : xMf jX8_over kX8_over 1 3 := ⟨yX8_over, cX8_over, (some .int), xpp_0, false, by rfl, oX8_over, by decide, rfl, by decide⟩
theorem fX8_until : xMf jX8_until kX8_until 1 3 := ⟨yX8_until, cX8_until, (some .int), xpp_0, false, by rfl, oX8_until, by decide, rfl, by decide⟩
theorem fX8_reaches : xMf jX8_reaches kX8_reaches 1 3 := ⟨yX8_reaches, cX8_reaches, (some .int), xpp_0, false, by rfl, oX8_reaches, by decide, rfl, by decide⟩
theorem fX8_drowns : xMf jX8_drowns kX8_drowns 1 2 := ⟨yX8_drowns, cX8_drowns, (some .int), xpp_0, false, by rfl, oX8_drowns, by decide, rfl, by decide⟩
theorem fX8_heard : xMf jX8_heard kX8_heard 1 3 := ⟨yX8_heard, cX8_heard, (some .int), xpp_0, false, by rfl, oX8_heard, by decide, rfl, by decide⟩
theorem fX8_which : xMf jX8_which kX8_which 1 8 := ⟨yX8_which, cX8_which, (some .int), xpp_0, false, by rfl, oX8_which, by decide, rfl, by decide⟩
theorem fX8_words : xMf jX8_words kX8_words 1 7 := ⟨yX8_words, cX8_words, (some .int), xpp_0, false, by rfl, oX8_words, by decide, rfl, by decide⟩
theorem fX8_plain : xMf jX8_plain kX8_plain 1 7 := ⟨yX8_plain, cX8_plain, (some .int), xpp_0, false, by rfl, oX8_plain, by decide, rfl, by decide⟩
theorem fX8_alone : xMf jX8_alone kX8_alone 1 3 := ⟨yX8_alone, cX8_alone, (some .int), xpp_0, false, by rfl, oX8_alone, by decide, rfl, by decide⟩
theorem fX8_full : xMf jX8_full kX8_full 1 5 := ⟨yX8_full, cX8_full, (some .int), xpp_0, false, by rfl, oX8_full, by decide, rfl, by decide⟩
theorem fX8_person : xMf jX8_person kX8_person 1 6 := ⟨yX8_person, cX8_person, (some .int), xpp_0, false, by rfl, oX8_person, by decide, rfl, by decide⟩
theorem fX8_where : xMf jX8_where kX8_where 1 3 := ⟨yX8_where, cX8_where, (some .int), xpp_0, false, by rfl, oX8_where, by decide, rfl, by decide⟩
theorem fX8_hears : xMf jX8_hears kX8_hears 1 5 := ⟨yX8_hears, cX8_hears, (some .int), xpp_0, false, by rfl, oX8_hears, by decide, rfl, by decide⟩
theorem fX8_first : xMf jX8_first kX8_first 1 5 := ⟨yX8_first, cX8_first, (some .int), xpp_0, false, by rfl, oX8_first, by decide, rfl, by decide⟩
theorem fX8_who : xMf jX8_who kX8_who 1 5 := ⟨yX8_who, cX8_who, (some .int), xpp_0, false, by rfl, oX8_who, by decide, rfl, by decide⟩
theorem fX8_said : xMf jX8_said kX8_said 1 5 := ⟨yX8_said, cX8_said, (some .int), xpp_0, false, by rfl, oX8_said, by decide, rfl, by decide⟩
theorem fX8_tell : xMf jX8_tell kX8_tell 1 5 := ⟨yX8_tell, cX8_tell, (some .int), xpp_0, false, by rfl, oX8_tell, by decide, rfl, by decide⟩
theorem fX8_needs : xMf jX8_needs kX8_needs 1 5 := ⟨yX8_needs, cX8_needs, (some .int), xpp_0, false, by rfl, oX8_needs, by decide, rfl, by decide⟩
theorem fX8_walk : xMf jX8_walk kX8_walk 1 4 := ⟨yX8_walk, cX8_walk, (some .int), xpp_0, false, by rfl, oX8_walk, by decide, rfl, by decide⟩
theorem fX8_step : xMf jX8_step kX8_step 1 2 := ⟨yX8_step, cX8_step, (some .int), xpp_0, false, by rfl, oX8_step, by decide, rfl, by decide⟩
theorem fX8_crowd : xMf jX8_crowd kX8_crowd 1 6 := ⟨yX8_crowd, cX8_crowd, (some .int), xpp_0, false, by rfl, oX8_crowd, by decide, rfl, by decide⟩
theorem fX8_seed : xMf jX8_seed kX8_seed 1 3 := ⟨yX8_seed, cX8_seed, (some .int), xpp_0, false, by rfl, oX8_seed, by decide, rfl, by decide⟩
theorem fX8_feed : xMf jX8_feed kX8_feed 1 3 := ⟨yX8_feed, cX8_feed, (some .int), xpp_0, false, by rfl, oX8_feed, by decide, rfl, by decide⟩
theorem fX8_wipe : xMf jX8_wipe kX8_wipe 1 1 := ⟨yX8_wipe, cX8_wipe, (some .int), xpp_0, false, by rfl, oX8_wipe, by decide, rfl, by decide⟩
theorem fX8_text : xMf jX8_text kX8_text 1 2 := ⟨yX8_text, cX8_text, (some .int), xpp_0, false, by rfl, oX8_text, by decide, rfl, by decide⟩
theorem fX8_hold : xMf jX8_hold kX8_hold 1 3 := ⟨yX8_hold, cX8_hold, (some .int), xpp_0, false, by rfl, oX8_hold, by decide, rfl, by decide⟩
theorem fX8_as : xMf jX8_as kX8_as 1 4 := ⟨yX8_as, cX8_as, (some .int), xpp_0, false, by rfl, oX8_as, by decide, rfl, by decide⟩
theorem fX8_sheet : xMf jX8_sheet kX8_sheet 1 4 := ⟨yX8_sheet, cX8_sheet, (some .int), xpp_0, false, by rfl, oX8_sheet, by decide, rfl, by decide⟩
theorem fX8_write : xMf jX8_write kX8_write 1 4 := ⟨yX8_write, cX8_write, (some .int), xpp_0, false, by rfl, oX8_write, by decide, rfl, by decide⟩
theorem fX8_copy : xMf jX8_copy kX8_copy 1 8 := ⟨yX8_copy, cX8_copy, (some .int), xpp_0, false, by rfl, oX8_copy, by decide, rfl, by decide⟩
theorem fX8_load : xMf jX8_load kX8_load 1 7 := ⟨yX8_load, cX8_load, (some .int), xpp_0, false, by rfl, oX8_load, by decide, rfl, by decide⟩
theorem fX8_judge : xMf jX8_judge kX8_judge 1 7 := ⟨yX8_judge, cX8_judge, (some .int), xpp_0, false, by rfl, oX8_judge, by decide, rfl, by decide⟩
theorem fX8_image : xMf jX8_image kX8_image 1 1 := ⟨yX8_image, cX8_image, (some .int), xpp_0, false, by rfl, oX8_image, by decide, rfl, by decide⟩
theorem fX8_undo : xMf jX8_undo kX8_undo 1 1 := ⟨yX8_undo, cX8_undo, (some .int), xpp_0, false, by rfl, oX8_undo, by decide, rfl, by decide⟩
theorem fX8_tear : xMf jX8_tear kX8_tear 1 2 := ⟨yX8_tear, cX8_tear, (some .int), xpp_0, false, by rfl, oX8_tear, by decide, rfl, by decide⟩
theorem fX8_count : xMf jX8_count kX8_count 1 2 := ⟨yX8_count, cX8_count, (some .int), xpp_0, false, by rfl, oX8_count, by decide, rfl, by decide⟩
theorem fX8_status : xMf jX8_status kX8_status 1 4 := ⟨yX8_status, cX8_status, (some .int), xpp_0, false, by rfl, oX8_status, by decide, rfl, by decide⟩
theorem fX8_finding : xMf jX8_finding kX8_finding 1 3 := ⟨yX8_finding, cX8_finding, (some .int), xpp_0, false, by rfl, oX8_finding, by decide, rfl, by decide⟩
theorem fX8_isSaying : xMf jX8_isSaying kX8_isSaying 2 2 := ⟨yX8_isSaying, cX8_isSaying, (some .boolean), xpp_0, false, by rfl, oX8_isSaying, by decide, rfl, by decide⟩
theorem fX8_isPlace : xMf jX8_isPlace kX8_isPlace 2 1 := ⟨yX8_isPlace, cX8_isPlace, (some .boolean), xpp_0, false, by rfl, oX8_isPlace, by decide, rfl, by decide⟩
theorem fX8_isDay : xMf jX8_isDay kX8_isDay 2 1 := ⟨yX8_isDay, cX8_isDay, (some .boolean), xpp_0, false, by rfl, oX8_isDay, by decide, rfl, by decide⟩
theorem fX8_isHour : xMf jX8_isHour kX8_isHour 2 1 := ⟨yX8_isHour, cX8_isHour, (some .boolean), xpp_0, false, by rfl, oX8_isHour, by decide, rfl, by decide⟩
theorem fX8_isWhen : xMf jX8_isWhen kX8_isWhen 2 1 := ⟨yX8_isWhen, cX8_isWhen, (some .boolean), xpp_0, false, by rfl, oX8_isWhen, by decide, rfl, by decide⟩
theorem fX8_isWord : xMf jX8_isWord kX8_isWord 2 1 := ⟨yX8_isWord, cX8_isWord, (some .boolean), xpp_0, false, by rfl, oX8_isWord, by decide, rfl, by decide⟩
theorem fX8_isLoud : xMf jX8_isLoud kX8_isLoud 2 1 := ⟨yX8_isLoud, cX8_isLoud, (some .boolean), xpp_0, false, by rfl, oX8_isLoud, by decide, rfl, by decide⟩
theorem fX8_isPerson : xMf jX8_isPerson kX8_isPerson 2 1 := ⟨yX8_isPerson, cX8_isPerson, (some .boolean), xpp_0, false, by rfl, oX8_isPerson, by decide, rfl, by decide⟩
theorem fX8_isSpot : xMf jX8_isSpot kX8_isSpot 2 1 := ⟨yX8_isSpot, cX8_isSpot, (some .boolean), xpp_0, false, by rfl, oX8_isSpot, by decide, rfl, by decide⟩
theorem fX8_isSheet : xMf jX8_isSheet kX8_isSheet 2 1 := ⟨yX8_isSheet, cX8_isSheet, (some .boolean), xpp_0, false, by rfl, oX8_isSheet, by decide, rfl, by decide⟩
theorem fX8_dayOf : xMf jX8_dayOf kX8_dayOf 1 1 := ⟨yX8_dayOf, cX8_dayOf, (some .int), xpp_0, false, by rfl, oX8_dayOf, by decide, rfl, by decide⟩
theorem fX8_hourOf : xMf jX8_hourOf kX8_hourOf 1 1 := ⟨yX8_hourOf, cX8_hourOf, (some .int), xpp_0, false, by rfl, oX8_hourOf, by decide, rfl, by decide⟩
theorem fX8_isIn : xMf jX8_isIn kX8_isIn 2 3 := ⟨yX8_isIn, cX8_isIn, (some .boolean), xpp_0, false, by rfl, oX8_isIn, by decide, rfl, by decide⟩
theorem fX9_init : xMf jX9_init kX9_init 0 2 := ⟨yX9_init, cX9_init, none, xpp_1, true, by rfl, oX9_init, by decide, rfl, by decide⟩
theorem fX9_finding : xMf jX9_finding kX9_finding 1 2 := ⟨yX9_finding, cX9_finding, (some .int), xpp_1, false, by rfl, oX9_finding, by decide, rfl, by decide⟩
theorem fX9_within : xMf jX9_within kX9_within 2 3 := ⟨yX9_within, cX9_within, (some .boolean), xpp_1, false, by rfl, oX9_within, by decide, rfl, by decide⟩
theorem fX9_has : xMf jX9_has kX9_has 2 2 := ⟨yX9_has, cX9_has, (some .boolean), xpp_1, false, by rfl, oX9_has, by decide, rfl, by decide⟩
theorem fX9_become : xMf jX9_become kX9_become 1 4 := ⟨yX9_become, cX9_become, (some .int), xpp_1, false, by rfl, oX9_become, by decide, rfl, by decide⟩
theorem fX9_isPlace : xMf jX9_isPlace kX9_isPlace 2 1 := ⟨yX9_isPlace, cX9_isPlace, (some .boolean), xpp_1, false, by rfl, oX9_isPlace, by decide, rfl, by decide⟩
theorem fX9_isDay : xMf jX9_isDay kX9_isDay 2 1 := ⟨yX9_isDay, cX9_isDay, (some .boolean), xpp_1, false, by rfl, oX9_isDay, by decide, rfl, by decide⟩
theorem fX9_isHour : xMf jX9_isHour kX9_isHour 2 1 := ⟨yX9_isHour, cX9_isHour, (some .boolean), xpp_1, false, by rfl, oX9_isHour, by decide, rfl, by decide⟩
theorem fX9_isWhen : xMf jX9_isWhen kX9_isWhen 2 1 := ⟨yX9_isWhen, cX9_isWhen, (some .boolean), xpp_1, false, by rfl, oX9_isWhen, by decide, rfl, by decide⟩
theorem fX9_isPerson : xMf jX9_isPerson kX9_isPerson 2 1 := ⟨yX9_isPerson, cX9_isPerson, (some .boolean), xpp_1, false, by rfl, oX9_isPerson, by decide, rfl, by decide⟩
theorem fX9_isSaying : xMf jX9_isSaying kX9_isSaying 2 2 := ⟨yX9_isSaying, cX9_isSaying, (some .boolean), xpp_1, false, by rfl, oX9_isSaying, by decide, rfl, by decide⟩
theorem fX9_isWay : xMf jX9_isWay kX9_isWay 2 3 := ⟨yX9_isWay, cX9_isWay, (some .boolean), xpp_1, false, by rfl, oX9_isWay, by decide, rfl, by decide⟩
theorem fX9_ways : xMf jX9_ways kX9_ways 0 4 := ⟨yX9_ways, cX9_ways, none, xpp_1, false, by rfl, oX9_ways, by decide, rfl, by decide⟩
theorem fX9_way : xMf jX9_way kX9_way 1 5 := ⟨yX9_way, cX9_way, (some .int), xpp_1, false, by rfl, oX9_way, by decide, rfl, by decide⟩
theorem fX9_farOf : xMf jX9_farOf kX9_farOf 1 3 := ⟨yX9_farOf, cX9_farOf, (some .int), xpp_1, false, by rfl, oX9_farOf, by decide, rfl, by decide⟩
theorem fX9_measure : xMf jX9_measure kX9_measure 0 4 := ⟨yX9_measure, cX9_measure, none, xpp_1, false, by rfl, oX9_measure, by decide, rfl, by decide⟩
theorem fX9_steps : xMf jX9_steps kX9_steps 1 3 := ⟨yX9_steps, cX9_steps, (some .int), xpp_1, false, by rfl, oX9_steps, by decide, rfl, by decide⟩
theorem fX9_days : xMf jX9_days kX9_days 1 2 := ⟨yX9_days, cX9_days, (some .int), xpp_1, false, by rfl, oX9_days, by decide, rfl, by decide⟩
theorem fX9_rain : xMf jX9_rain kX9_rain 1 3 := ⟨yX9_rain, cX9_rain, (some .int), xpp_1, false, by rfl, oX9_rain, by decide, rfl, by decide⟩
theorem fX9_drawn : xMf jX9_drawn kX9_drawn 1 2 := ⟨yX9_drawn, cX9_drawn, (some .int), xpp_1, false, by rfl, oX9_drawn, by decide, rfl, by decide⟩
theorem fX9_weather : xMf jX9_weather kX9_weather 1 6 := ⟨yX9_weather, cX9_weather, (some .int), xpp_1, false, by rfl, oX9_weather, by decide, rfl, by decide⟩
theorem fX9_keep : xMf jX9_keep kX9_keep 1 2 := ⟨yX9_keep, cX9_keep, (some .int), xpp_1, false, by rfl, oX9_keep, by decide, rfl, by decide⟩
theorem fX9_of : xMf jX9_of kX9_of 1 3 := ⟨yX9_of, cX9_of, (some .int), xpp_1, false, by rfl, oX9_of, by decide, rfl, by decide⟩
theorem fX9_says : xMf jX9_says kX9_says 1 8 := ⟨yX9_says, cX9_says, (some .int), xpp_1, false, by rfl, oX9_says, by decide, rfl, by decide⟩
theorem fX9_say : xMf jX9_say kX9_say 1 6 := ⟨yX9_say, cX9_say, (some .int), xpp_1, false, by rfl, oX9_say, by decide, rfl, by decide⟩
theorem fX9_lasts : xMf jX9_lasts kX9_lasts 1 3 := ⟨yX9_lasts, cX9_lasts, (some .int), xpp_1, false, by rfl, oX9_lasts, by decide, rfl, by decide⟩
theorem fX9_reach : xMf jX9_reach kX9_reach 1 4 := ⟨yX9_reach, cX9_reach, (some .int), xpp_1, false, by rfl, oX9_reach, by decide, rfl, by decide⟩
theorem fX9_sayingOf : xMf jX9_sayingOf kX9_sayingOf 1 3 := ⟨yX9_sayingOf, cX9_sayingOf, (some .int), xpp_1, false, by rfl, oX9_sayingOf, by decide, rfl, by decide⟩
theorem fX9_turn : xMf jX9_turn kX9_turn 1 3 := ⟨yX9_turn, cX9_turn, (some .int), xpp_1, false, by rfl, oX9_turn, by decide, rfl, by decide⟩
theorem fX9_ageOf : xMf jX9_ageOf kX9_ageOf 1 5 := ⟨yX9_ageOf, cX9_ageOf, (some .int), xpp_1, false, by rfl, oX9_ageOf, by decide, rfl, by decide⟩
theorem fX9_age : xMf jX9_age kX9_age 1 3 := ⟨yX9_age, cX9_age, (some .int), xpp_1, false, by rfl, oX9_age, by decide, rfl, by decide⟩
theorem fX9_isOver : xMf jX9_isOver kX9_isOver 2 5 := ⟨yX9_isOver, cX9_isOver, (some .boolean), xpp_1, false, by rfl, oX9_isOver, by decide, rfl, by decide⟩
theorem fX9_overOf : xMf jX9_overOf kX9_overOf 1 3 := ⟨yX9_overOf, cX9_overOf, (some .int), xpp_1, false, by rfl, oX9_overOf, by decide, rfl, by decide⟩
theorem fX9_over : xMf jX9_over kX9_over 1 3 := ⟨yX9_over, cX9_over, (some .int), xpp_1, false, by rfl, oX9_over, by decide, rfl, by decide⟩
theorem fX9_isHeard : xMf jX9_isHeard kX9_isHeard 2 4 := ⟨yX9_isHeard, cX9_isHeard, (some .boolean), xpp_1, false, by rfl, oX9_isHeard, by decide, rfl, by decide⟩
theorem fX9_until : xMf jX9_until kX9_until 1 3 := ⟨yX9_until, cX9_until, (some .int), xpp_1, false, by rfl, oX9_until, by decide, rfl, by decide⟩
theorem fX9_near : xMf jX9_near kX9_near 1 5 := ⟨yX9_near, cX9_near, (some .int), xpp_1, false, by rfl, oX9_near, by decide, rfl, by decide⟩
theorem fX9_reachesOf : xMf jX9_reachesOf kX9_reachesOf 1 2 := ⟨yX9_reachesOf, cX9_reachesOf, (some .int), xpp_1, false, by rfl, oX9_reachesOf, by decide, rfl, by decide⟩
theorem fX9_reaches : xMf jX9_reaches kX9_reaches 1 3 := ⟨yX9_reaches, cX9_reaches, (some .int), xpp_1, false, by rfl, oX9_reaches, by decide, rfl, by decide⟩
theorem fX9_drowns : xMf jX9_drowns kX9_drowns 1 2 := ⟨yX9_drowns, cX9_drowns, (some .int), xpp_1, false, by rfl, oX9_drowns, by decide, rfl, by decide⟩
theorem fX9_isHeardAt : xMf jX9_isHeardAt kX9_isHeardAt 2 5 := ⟨yX9_isHeardAt, cX9_isHeardAt, (some .boolean), xpp_1, false, by rfl, oX9_isHeardAt, by decide, rfl, by decide⟩
theorem fX9_heardAt : xMf jX9_heardAt kX9_heardAt 1 6 := ⟨yX9_heardAt, cX9_heardAt, (some .int), xpp_1, false, by rfl, oX9_heardAt, by decide, rfl, by decide⟩
theorem fX9_heard : xMf jX9_heard kX9_heard 1 3 := ⟨yX9_heard, cX9_heard, (some .int), xpp_1, false, by rfl, oX9_heard, by decide, rfl, by decide⟩
theorem fX9_which : xMf jX9_which kX9_which 1 6 := ⟨yX9_which, cX9_which, (some .int), xpp_1, false, by rfl, oX9_which, by decide, rfl, by decide⟩
theorem fX9_words : xMf jX9_words kX9_words 1 5 := ⟨yX9_words, cX9_words, (some .int), xpp_1, false, by rfl, oX9_words, by decide, rfl, by decide⟩
theorem fX9_plain : xMf jX9_plain kX9_plain 1 5 := ⟨yX9_plain, cX9_plain, (some .int), xpp_1, false, by rfl, oX9_plain, by decide, rfl, by decide⟩
theorem fX9_alone : xMf jX9_alone kX9_alone 1 4 := ⟨yX9_alone, cX9_alone, (some .int), xpp_1, false, by rfl, oX9_alone, by decide, rfl, by decide⟩
theorem fX9_full : xMf jX9_full kX9_full 1 5 := ⟨yX9_full, cX9_full, (some .int), xpp_1, false, by rfl, oX9_full, by decide, rfl, by decide⟩
theorem fX9_whereIs : xMf jX9_whereIs kX9_whereIs 1 3 := ⟨yX9_whereIs, cX9_whereIs, (some .int), xpp_1, false, by rfl, oX9_whereIs, by decide, rfl, by decide⟩
theorem fX9_isAt : xMf jX9_isAt kX9_isAt 0 6 := ⟨yX9_isAt, cX9_isAt, none, xpp_1, false, by rfl, oX9_isAt, by decide, rfl, by decide⟩
theorem fX9_manyAt : xMf jX9_manyAt kX9_manyAt 1 5 := ⟨yX9_manyAt, cX9_manyAt, (some .int), xpp_1, false, by rfl, oX9_manyAt, by decide, rfl, by decide⟩
theorem fX9_person : xMf jX9_person kX9_person 1 5 := ⟨yX9_person, cX9_person, (some .int), xpp_1, false, by rfl, oX9_person, by decide, rfl, by decide⟩
theorem fX9_where : xMf jX9_where kX9_where 1 3 := ⟨yX9_where, cX9_where, (some .int), xpp_1, false, by rfl, oX9_where, by decide, rfl, by decide⟩
theorem fX9_hearsIt : xMf jX9_hearsIt kX9_hearsIt 2 5 := ⟨yX9_hearsIt, cX9_hearsIt, (some .boolean), xpp_1, false, by rfl, oX9_hearsIt, by decide, rfl, by decide⟩
theorem fX9_hears : xMf jX9_hears kX9_hears 1 5 := ⟨yX9_hears, cX9_hears, (some .int), xpp_1, false, by rfl, oX9_hears, by decide, rfl, by decide⟩
theorem fX9_first : xMf jX9_first kX9_first 1 5 := ⟨yX9_first, cX9_first, (some .int), xpp_1, false, by rfl, oX9_first, by decide, rfl, by decide⟩
theorem fX9_who : xMf jX9_who kX9_who 1 6 := ⟨yX9_who, cX9_who, (some .int), xpp_1, false, by rfl, oX9_who, by decide, rfl, by decide⟩
theorem fX9_said : xMf jX9_said kX9_said 1 4 := ⟨yX9_said, cX9_said, (some .int), xpp_1, false, by rfl, oX9_said, by decide, rfl, by decide⟩
theorem fX9_tell : xMf jX9_tell kX9_tell 1 6 := ⟨yX9_tell, cX9_tell, (some .int), xpp_1, false, by rfl, oX9_tell, by decide, rfl, by decide⟩
theorem fX9_isNear : xMf jX9_isNear kX9_isNear 2 6 := ⟨yX9_isNear, cX9_isNear, (some .boolean), xpp_1, false, by rfl, oX9_isNear, by decide, rfl, by decide⟩
theorem fX9_needs : xMf jX9_needs kX9_needs 1 6 := ⟨yX9_needs, cX9_needs, (some .int), xpp_1, false, by rfl, oX9_needs, by decide, rfl, by decide⟩
theorem fX9_walk : xMf jX9_walk kX9_walk 1 9 := ⟨yX9_walk, cX9_walk, (some .int), xpp_1, false, by rfl, oX9_walk, by decide, rfl, by decide⟩
theorem fX9_step : xMf jX9_step kX9_step 1 2 := ⟨yX9_step, cX9_step, (some .int), xpp_1, false, by rfl, oX9_step, by decide, rfl, by decide⟩
theorem fX9_crowd : xMf jX9_crowd kX9_crowd 1 5 := ⟨yX9_crowd, cX9_crowd, (some .int), xpp_1, false, by rfl, oX9_crowd, by decide, rfl, by decide⟩
theorem fX9_seed : xMf jX9_seed kX9_seed 1 2 := ⟨yX9_seed, cX9_seed, (some .int), xpp_1, false, by rfl, oX9_seed, by decide, rfl, by decide⟩
theorem fX9_feed : xMf jX9_feed kX9_feed 1 4 := ⟨yX9_feed, cX9_feed, (some .int), xpp_1, false, by rfl, oX9_feed, by decide, rfl, by decide⟩
theorem fX9_wipe : xMf jX9_wipe kX9_wipe 1 2 := ⟨yX9_wipe, cX9_wipe, (some .int), xpp_1, false, by rfl, oX9_wipe, by decide, rfl, by decide⟩
theorem fX9_byteAt : xMf jX9_byteAt kX9_byteAt 1 2 := ⟨yX9_byteAt, cX9_byteAt, (some .int), xpp_1, false, by rfl, oX9_byteAt, by decide, rfl, by decide⟩
theorem fX9_next : xMf jX9_next kX9_next 0 2 := ⟨yX9_next, cX9_next, none, xpp_1, false, by rfl, oX9_next, by decide, rfl, by decide⟩
theorem fX9_isWord : xMf jX9_isWord kX9_isWord 2 4 := ⟨yX9_isWord, cX9_isWord, (some .boolean), xpp_1, false, by rfl, oX9_isWord, by decide, rfl, by decide⟩
theorem fX9_must : xMf jX9_must kX9_must 0 2 := ⟨yX9_must, cX9_must, none, xpp_1, false, by rfl, oX9_must, by decide, rfl, by decide⟩
theorem fX9_number : xMf jX9_number kX9_number 1 5 := ⟨yX9_number, cX9_number, (some .int), xpp_1, false, by rfl, oX9_number, by decide, rfl, by decide⟩
theorem fX9_item : xMf jX9_item kX9_item 0 7 := ⟨yX9_item, cX9_item, none, xpp_1, false, by rfl, oX9_item, by decide, rfl, by decide⟩
theorem fX9_readItem : xMf jX9_readItem kX9_readItem 0 4 := ⟨yX9_readItem, cX9_readItem, none, xpp_1, false, by rfl, oX9_readItem, by decide, rfl, by decide⟩
theorem fX9_readSaying : xMf jX9_readSaying kX9_readSaying 0 6 := ⟨yX9_readSaying, cX9_readSaying, none, xpp_1, false, by rfl, oX9_readSaying, by decide, rfl, by decide⟩
theorem fX9_readPerson : xMf jX9_readPerson kX9_readPerson 0 5 := ⟨yX9_readPerson, cX9_readPerson, none, xpp_1, false, by rfl, oX9_readPerson, by decide, rfl, by decide⟩
theorem fX9_isSo : xMf jX9_isSo kX9_isSo 0 7 := ⟨yX9_isSo, cX9_isSo, none, xpp_1, false, by rfl, oX9_isSo, by decide, rfl, by decide⟩
theorem fX9_text : xMf jX9_text kX9_text 1 2 := ⟨yX9_text, cX9_text, (some .int), xpp_1, false, by rfl, oX9_text, by decide, rfl, by decide⟩
theorem fX9_hold : xMf jX9_hold kX9_hold 1 3 := ⟨yX9_hold, cX9_hold, (some .int), xpp_1, false, by rfl, oX9_hold, by decide, rfl, by decide⟩
theorem fX9_above : xMf jX9_above kX9_above 1 1 := ⟨yX9_above, cX9_above, (some .int), xpp_1, false, by rfl, oX9_above, by decide, rfl, by decide⟩
theorem fX9_as : xMf jX9_as kX9_as 1 5 := ⟨yX9_as, cX9_as, (some .int), xpp_1, false, by rfl, oX9_as, by decide, rfl, by decide⟩
theorem fX9_isSheet : xMf jX9_isSheet kX9_isSheet 2 1 := ⟨yX9_isSheet, cX9_isSheet, (some .boolean), xpp_1, false, by rfl, oX9_isSheet, by decide, rfl, by decide⟩
theorem fX9_cutTo : xMf jX9_cutTo kX9_cutTo 1 2 := ⟨yX9_cutTo, cX9_cutTo, (some .int), xpp_1, false, by rfl, oX9_cutTo, by decide, rfl, by decide⟩
theorem fX9_sheet : xMf jX9_sheet kX9_sheet 1 5 := ⟨yX9_sheet, cX9_sheet, (some .int), xpp_1, false, by rfl, oX9_sheet, by decide, rfl, by decide⟩
theorem fX9_write : xMf jX9_write kX9_write 1 4 := ⟨yX9_write, cX9_write, (some .int), xpp_1, false, by rfl, oX9_write, by decide, rfl, by decide⟩
theorem fX9_copy : xMf jX9_copy kX9_copy 1 7 := ⟨yX9_copy, cX9_copy, (some .int), xpp_1, false, by rfl, oX9_copy, by decide, rfl, by decide⟩
theorem fX9_load : xMf jX9_load kX9_load 1 4 := ⟨yX9_load, cX9_load, (some .int), xpp_1, false, by rfl, oX9_load, by decide, rfl, by decide⟩
theorem fX9_judge : xMf jX9_judge kX9_judge 1 7 := ⟨yX9_judge, cX9_judge, (some .int), xpp_1, false, by rfl, oX9_judge, by decide, rfl, by decide⟩
theorem fX9_copyRow : xMf jX9_copyRow kX9_copyRow 0 3 := ⟨yX9_copyRow, cX9_copyRow, none, xpp_1, false, by rfl, oX9_copyRow, by decide, rfl, by decide⟩
theorem fX9_image : xMf jX9_image kX9_image 1 1 := ⟨yX9_image, cX9_image, (some .int), xpp_1, false, by rfl, oX9_image, by decide, rfl, by decide⟩
theorem fX9_undo : xMf jX9_undo kX9_undo 1 1 := ⟨yX9_undo, cX9_undo, (some .int), xpp_1, false, by rfl, oX9_undo, by decide, rfl, by decide⟩
theorem fX9_tear : xMf jX9_tear kX9_tear 1 2 := ⟨yX9_tear, cX9_tear, (some .int), xpp_1, false, by rfl, oX9_tear, by decide, rfl, by decide⟩
theorem fX9_count : xMf jX9_count kX9_count 1 4 := ⟨yX9_count, cX9_count, (some .int), xpp_1, false, by rfl, oX9_count, by decide, rfl, by decide⟩
theorem fX9_status : xMf jX9_status kX9_status 1 2 := ⟨yX9_status, cX9_status, (some .int), xpp_1, false, by rfl, oX9_status, by decide, rfl, by decide⟩
theorem fJ6_bitCount_0f7a4 : xMf jJ6_bitCount_0f7a4 kJ6_bitCount_0f7a4 1 1 := ⟨yJ6_bitCount_0f7a4, cJ6_bitCount_0f7a4, (some .int), xpp_12, false, by rfl, oJ6_bitCount_0f7a4, by decide, rfl, by decide⟩
theorem fJ13_bitCount_95d88 : xMf jJ13_bitCount_95d88 kJ13_bitCount_95d88 1 2 := ⟨yJ13_bitCount_95d88, cJ13_bitCount_95d88, (some .int), xpp_13, false, by rfl, oJ13_bitCount_95d88, by decide, rfl, by decide⟩
theorem fJ0_length_8abf5 : xMf jJ0_length_8abf5 kJ0_length_8abf5 1 1 := ⟨yJ0_length_8abf5, cJ0_length_8abf5, (some .int), xpp_15, false, by rfl, oJ0_length_8abf5, by decide, rfl, by decide⟩
theorem fJ0_charAt_5068e : xMf jJ0_charAt_5068e kJ0_charAt_5068e 3 2 := ⟨yJ0_charAt_5068e, cJ0_charAt_5068e, (some .char), xpp_15, false, by rfl, oJ0_charAt_5068e, by decide, rfl, by decide⟩
theorem fJ0_coder_7d493 : xMf jJ0_coder_7d493 kJ0_coder_7d493 4 1 := ⟨yJ0_coder_7d493, cJ0_coder_7d493, (some .byte), xpp_15, false, by rfl, oJ0_coder_7d493, by decide, rfl, by decide⟩
theorem fJ0_isLatin1_aae02 : xMf jJ0_isLatin1_aae02 kJ0_isLatin1_aae02 2 1 := ⟨yJ0_isLatin1_aae02, cJ0_isLatin1_aae02, (some .boolean), xpp_15, false, by rfl, oJ0_isLatin1_aae02, by decide, rfl, by decide⟩
theorem fJ0_checkIndex_df160 : xMf jJ0_checkIndex_df160 kJ0_checkIndex_df160 0 2 := ⟨yJ0_checkIndex_df160, cJ0_checkIndex_df160, none, xpp_15, false, by rfl, oJ0_checkIndex_df160, by decide, rfl, by decide⟩
theorem fJ1_charAt_3b067 : xMf jJ1_charAt_3b067 kJ1_charAt_3b067 3 2 := ⟨yJ1_charAt_3b067, cJ1_charAt_3b067, (some .char), xpp_16, false, by rfl, oJ1_charAt_3b067, by decide, rfl, by decide⟩
theorem fJ7_fill_53178 : xMf jJ7_fill_53178 kJ7_fill_53178 0 4 := ⟨yJ7_fill_53178, cJ7_fill_53178, none, xpp_19, false, by rfl, oJ7_fill_53178, by decide, rfl, by decide⟩
theorem fJ3_checkIndex_8e157 : xMf jJ3_checkIndex_8e157 kJ3_checkIndex_8e157 1 3 := ⟨yJ3_checkIndex_8e157, cJ3_checkIndex_8e157, (some .int), xpp_20, false, by rfl, oJ3_checkIndex_8e157, by decide, rfl, by decide⟩
end
section
/-! THE CLAIM OUT OF ONE WALK OF THE LAW'S BODY. Your part is whole_start (and what it stands on); all else here is the same for every law, but numbers. -/
def R_law : String := "EchoValleyLaw"
def lw_P (b : Addr) (xs : List Int32) (args : Array Value) (s : State) : Prop := args = #[.ref b] ∧ s.IntsAt b xs ∧ xs.length ≤ 3072 ∧ (Jvm.Cond.and given_1 narrow_1).before args s = true
def lw_Q (_ : Array Value) (s : State) (o : Outcome) (t : State) : Prop := o = .returned (some (.int 1)) ∧ Framed s o t [] 600000 7302250
def lw_Z (below : List Frame) (a : Array Value) (s : State) : State → Prop := fun t => ∃ o, t.status = .running ∧ Ended t below o ∧ lw_Q a s o t
/-- the law's own end, with 1 on the stack, nothing written that was there before, its room as the claim has it -/
theorem lw_ret {p : Program} {l : Launch} {e : Env} {s : State} {m : MethodId} {below : List Frame} {meth : Method} {c : Code} {b : Nat} (hx : p.tables.exec = Jvm.exec) (hb : c.code = code) (hr : meth.sig.returnType = ret) (hlocks : meth.locks = false) {pc : Nat} {H : Heap} {ls : Array Slot} (hdg : decode code pc = .ok (.ireturn, 1)) : W p l e room_1 s m #[Value.ref b] below meth c H [] 600000 7302250 (lw_Z below #[Value.ref b] s) (F0 m pc ls [.int 1]) := by
  intro T hT X
  obtain ⟨fs, hret, hrun, hended, hW, hframe⟩ := X.leave (v := some (.int 1)) (hlocks := hlocks) (fun h => by rw [hr] at h; cases h)
  have hmeth' : T.vm.method? m = some meth := X.method'
  refine ⟨T.setFrames fs, ?_, .returned (some (.int 1)), hrun, hended, rfl, ⟨_, rfl⟩, hW, hframe⟩
  jvm_step X.here [X.here.top, hx, hb, hdg, hmeth', hr, ret, narrow_b1]
  (try refine ⟨rfl, ?_⟩); (try refine ⟨rfl, ?_⟩)
  first | (intro acts; rw [hret _ acts rfl rfl rfl]) | rw [hret _ _ rfl rfl rfl]
  exact Steps.refl _
/-- what holds at the law's entry: the machine, the code, the tables' words (any of lw_tbl by 'hts w (by decide +kernel)'), the script of L ints xs at the cell b, what the Statement gives of the start (any of its parts by flat_of_before) -/
def lw_At (p : Program) (s : State) (m : MethodId) (meth : Method) (c : Code) (b L : Nat) (xs : Nat → Int32) : Prop :=
  p.tables.exec = Jvm.exec ∧ c.code = code ∧ meth.sig.returnType = ret ∧ c.maxLocals = 4 ∧ s.vm.findClass R_law = some m.cls ∧ (∀ w ∈ lw_tbl, w.before #[Value.ref b] s = true) ∧ va_X b L xs s s.heap ∧ b < s.heap.size ∧ meth.locks = false ∧ (Jvm.Cond.and given_1 narrow_1).before #[Value.ref b] s = true
end
section
theorem x_eqR {args : Array Value} {s : State} {t u : Term} {a : Nat} (h : (Cond.eq t u).before args s = true) (ht : t.eval args s none [] s = some (.ref a)) : u.eval args s none [] s = some (.ref a) := by
  cases hu : u.eval args s none [] s with
  | none => simp [Cond.before, Cond.holds, Cond.value, ht, hu] at h
  | some w =>
    simp only [Cond.before, Cond.holds, Cond.value, ht, hu] at h
    cases w <;> simp_all
theorem x_str1 {args : Array Value} {s : State} {t : Term} {n : Nat} {f : Nat → Int32} {A : Nat → Prop} (hn : n < 2 ^ 31) (hex : (Cond.exactly t "java/lang/String").before args s = true) (hco : (Cond.eq (.field t "java/lang/String" "coder" "B") (.int 0)).before args s = true)
    (har : (Cond.arrayOf (.field t "java/lang/String" "value" "[B") .byte).before args s = true) (hle : (Cond.eq (.length (.field t "java/lang/String" "value" "[B")) (.int (Int32.ofNat n))).before args s = true) (hel : ∀ j : Nat, j < n → (Cond.eq (.elem (.field t "java/lang/String" "value" "[B") (.int (Int32.ofNat j))) (.int (f j))).before args s = true) (hA : ∀ a : Nat, a < s.heap.size → ¬ A a) :
    ∃ a v : Nat, t.eval args s none [] s = some (.ref a) ∧ va_O "java/lang/String" a A s s.heap ∧ va_OF "java/lang/String" "coder" "B" (.int 0) a A s s.heap ∧ va_OF "java/lang/String" "value" "[B" (.ref v) a A s s.heap ∧ va_T .byte v n (fun j => .int (f j)) A s s.heap := by
  obtain ⟨a, c, cA, kA, q1, q2, q3, q4, q5, q6, -⟩ := Cond.exactly_spec (args := args) (first := s) (o := none) (s := s) (idx := []) (t := t) (cls := "java/lang/String") hex
  obtain ⟨v, ht, hT⟩ := va_Tof (f := fun j => .int (f j)) (A := A) hn har (va_eqt hle) (fun j hj => va_eqt (hel j hj)) hA
  exact ⟨a, v, q1, ⟨cA, q3, q5, by rw [q6]; exact q2, hA a (Array.getElem?_eq_some_iff.mp q3).1⟩, vk_OFof q1 (va_eqt hco) hA, vk_OFof q1 ht hA, hT⟩
def xRk : List Nat := [35, 44, 96, 98, 49, 54, 125, 132, 134, 136, 138, 140, 142, 114, 116]
def xMk : List Nat := [239, 248, 260, 266, 253, 255, 33, 35, 36, 38, 40, 42, 44, 262, 264]
def xSf (i : Nat) (q : Nat × Nat) (A : Nat → Prop) (args : Array Value) (s : State) : Prop := (Term.string "EchoValley$Reader" (xnth 0 xRk i)).eval args s none [] s = some (.ref q.1) ∧ (Term.string "EchoValleyModel" (xnth 0 xMk i)).eval args s none [] s = some (.ref q.1) ∧ va_O "java/lang/String" q.1 A s s.heap ∧ va_OF "java/lang/String" "coder" "B" (.int 0) q.1 A s s.heap ∧ va_OF "java/lang/String" "value" "[B" (.ref q.2) q.1 A s s.heap ∧ va_T .byte q.2 (xslen i) (fun j => .int (xsbyt i j)) A s s.heap
set_option maxRecDepth 100000 in
theorem x_str_0 {args : Array Value} {s : State} {A : Nat → Prop} (hs : ∀ c ∈ flatC (Jvm.Cond.and given_1 narrow_1), c.before args s = true) (hA : ∀ a : Nat, a < s.heap.size → ¬ A a) : ∃ q, xSf 0 q A args s := by
  obtain ⟨a, v, h1, h2⟩ := x_str1 (n := 3) (f := xsbyt 0) (A := A) (t := (Term.string "EchoValley$Reader" 35)) (by decide) (hs _ (by decide +kernel)) (hs _ (by decide +kernel)) (hs _ (by decide +kernel)) (hs _ (by decide +kernel)) (fun j hj => by
    match j, hj with
    | 0, _ => exact hs _ (by decide +kernel)
    | 1, _ => exact hs _ (by decide +kernel)
    | 2, _ => exact hs _ (by decide +kernel)
    | j + 3, hj => exact absurd hj (by omega)) hA
  exact ⟨(a, v), h1, x_eqR (hs (.eq (Term.string "EchoValley$Reader" 35) (.string "EchoValleyModel" 239)) (by decide +kernel)) h1, h2⟩
set_option maxRecDepth 100000 in
theorem x_str_1 {args : Array Value} {s : State} {A : Nat → Prop} (hs : ∀ c ∈ flatC (Jvm.Cond.and given_1 narrow_1), c.before args s = true) (hA : ∀ a : Nat, a < s.heap.size → ¬ A a) : ∃ q, xSf 1 q A args s := by
  obtain ⟨a, v, h1, h2⟩ := x_str1 (n := 6) (f := xsbyt 1) (A := A) (t := (Term.string "EchoValley$Reader" 44)) (by decide) (hs _ (by decide +kernel)) (hs _ (by decide +kernel)) (hs _ (by decide +kernel)) (hs _ (by decide +kernel)) (fun j hj => by
    match j, hj with
    | 0, _ => exact hs _ (by decide +kernel)
    | 1, _ => exact hs _ (by decide +kernel)
    | 2, _ => exact hs _ (by decide +kernel)
    | 3, _ => exact hs _ (by decide +kernel)
    | 4, _ => exact hs _ (by decide +kernel)
    | 5, _ => exact hs _ (by decide +kernel)
    | j + 6, hj => exact absurd hj (by omega)) hA
  exact ⟨(a, v), h1, x_eqR (hs (.eq (Term.string "EchoValley$Reader" 44) (.string "EchoValleyModel" 248)) (by decide +kernel)) h1, h2⟩
set_option maxRecDepth 100000 in
theorem x_str_2 {args : Array Value} {s : State} {A : Nat → Prop} (hs : ∀ c ∈ flatC (Jvm.Cond.and given_1 narrow_1), c.before args s = true) (hA : ∀ a : Nat, a < s.heap.size → ¬ A a) : ∃ q, xSf 2 q A args s := by
  obtain ⟨a, v, h1, h2⟩ := x_str1 (n := 2) (f := xsbyt 2) (A := A) (t := (Term.string "EchoValley$Reader" 96)) (by decide) (hs _ (by decide +kernel)) (hs _ (by decide +kernel)) (hs _ (by decide +kernel)) (hs _ (by decide +kernel)) (fun j hj => by
    match j, hj with
    | 0, _ => exact hs _ (by decide +kernel)
    | 1, _ => exact hs _ (by decide +kernel)
    | j + 2, hj => exact absurd hj (by omega)) hA
  exact ⟨(a, v), h1, x_eqR (hs (.eq (Term.string "EchoValley$Reader" 96) (.string "EchoValleyModel" 260)) (by decide +kernel)) h1, h2⟩
set_option maxRecDepth 100000 in
theorem x_str_3 {args : Array Value} {s : State} {A : Nat → Prop} (hs : ∀ c ∈ flatC (Jvm.Cond.and given_1 narrow_1), c.before args s = true) (hA : ∀ a : Nat, a < s.heap.size → ¬ A a) : ∃ q, xSf 3 q A args s := by
  obtain ⟨a, v, h1, h2⟩ := x_str1 (n := 5) (f := xsbyt 3) (A := A) (t := (Term.string "EchoValley$Reader" 98)) (by decide) (hs _ (by decide +kernel)) (hs _ (by decide +kernel)) (hs _ (by decide +kernel)) (hs _ (by decide +kernel)) (fun j hj => by
    match j, hj with
    | 0, _ => exact hs _ (by decide +kernel)
    | 1, _ => exact hs _ (by decide +kernel)
    | 2, _ => exact hs _ (by decide +kernel)
    | 3, _ => exact hs _ (by decide +kernel)
    | 4, _ => exact hs _ (by decide +kernel)
    | j + 5, hj => exact absurd hj (by omega)) hA
  exact ⟨(a, v), h1, x_eqR (hs (.eq (Term.string "EchoValley$Reader" 98) (.string "EchoValleyModel" 266)) (by decide +kernel)) h1, h2⟩
set_option maxRecDepth 100000 in
theorem x_str_4 {args : Array Value} {s : State} {A : Nat → Prop} (hs : ∀ c ∈ flatC (Jvm.Cond.and given_1 narrow_1), c.before args s = true) (hA : ∀ a : Nat, a < s.heap.size → ¬ A a) : ∃ q, xSf 4 q A args s := by
  obtain ⟨a, v, h1, h2⟩ := x_str1 (n := 4) (f := xsbyt 4) (A := A) (t := (Term.string "EchoValley$Reader" 49)) (by decide) (hs _ (by decide +kernel)) (hs _ (by decide +kernel)) (hs _ (by decide +kernel)) (hs _ (by decide +kernel)) (fun j hj => by
    match j, hj with
    | 0, _ => exact hs _ (by decide +kernel)
    | 1, _ => exact hs _ (by decide +kernel)
    | 2, _ => exact hs _ (by decide +kernel)
    | 3, _ => exact hs _ (by decide +kernel)
    | j + 4, hj => exact absurd hj (by omega)) hA
  exact ⟨(a, v), h1, x_eqR (hs (.eq (Term.string "EchoValley$Reader" 49) (.string "EchoValleyModel" 253)) (by decide +kernel)) h1, h2⟩
set_option maxRecDepth 100000 in
theorem x_str_5 {args : Array Value} {s : State} {A : Nat → Prop} (hs : ∀ c ∈ flatC (Jvm.Cond.and given_1 narrow_1), c.before args s = true) (hA : ∀ a : Nat, a < s.heap.size → ¬ A a) : ∃ q, xSf 5 q A args s := by
  obtain ⟨a, v, h1, h2⟩ := x_str1 (n := 4) (f := xsbyt 5) (A := A) (t := (Term.string "EchoValley$Reader" 54)) (by decide) (hs _ (by decide +kernel)) (hs _ (by decide +kernel)) (hs _ (by decide +kernel)) (hs _ (by decide +kernel)) (fun j hj => by
    match j, hj with
    | 0, _ => exact hs _ (by decide +kernel)
    | 1, _ => exact hs _ (by decide +kernel)
    | 2, _ => exact hs _ (by decide +kernel)
    | 3, _ => exact hs _ (by decide +kernel)
    | j + 4, hj => exact absurd hj (by omega)) hA
  exact ⟨(a, v), h1, x_eqR (hs (.eq (Term.string "EchoValley$Reader" 54) (.string "EchoValleyModel" 255)) (by decide +kernel)) h1, h2⟩
set_option maxRecDepth 100000 in
theorem x_str_6 {args : Array Value} {s : State} {A : Nat → Prop} (hs : ∀ c ∈ flatC (Jvm.Cond.and given_1 narrow_1), c.before args s = true) (hA : ∀ a : Nat, a < s.heap.size → ¬ A a) : ∃ q, xSf 6 q A args s := by
  obtain ⟨a, v, h1, h2⟩ := x_str1 (n := 4) (f := xsbyt 6) (A := A) (t := (Term.string "EchoValley$Reader" 125)) (by decide) (hs _ (by decide +kernel)) (hs _ (by decide +kernel)) (hs _ (by decide +kernel)) (hs _ (by decide +kernel)) (fun j hj => by
    match j, hj with
    | 0, _ => exact hs _ (by decide +kernel)
    | 1, _ => exact hs _ (by decide +kernel)
    | 2, _ => exact hs _ (by decide +kernel)
    | 3, _ => exact hs _ (by decide +kernel)
    | j + 4, hj => exact absurd hj (by omega)) hA
  exact ⟨(a, v), h1, x_eqR (hs (.eq (Term.string "EchoValley$Reader" 125) (.string "EchoValleyModel" 33)) (by decide +kernel)) h1, h2⟩
set_option maxRecDepth 100000 in
theorem x_str_7 {args : Array Value} {s : State} {A : Nat → Prop} (hs : ∀ c ∈ flatC (Jvm.Cond.and given_1 narrow_1), c.before args s = true) (hA : ∀ a : Nat, a < s.heap.size → ¬ A a) : ∃ q, xSf 7 q A args s := by
  obtain ⟨a, v, h1, h2⟩ := x_str1 (n := 4) (f := xsbyt 7) (A := A) (t := (Term.string "EchoValley$Reader" 132)) (by decide) (hs _ (by decide +kernel)) (hs _ (by decide +kernel)) (hs _ (by decide +kernel)) (hs _ (by decide +kernel)) (fun j hj => by
    match j, hj with
    | 0, _ => exact hs _ (by decide +kernel)
    | 1, _ => exact hs _ (by decide +kernel)
    | 2, _ => exact hs _ (by decide +kernel)
    | 3, _ => exact hs _ (by decide +kernel)
    | j + 4, hj => exact absurd hj (by omega)) hA
  exact ⟨(a, v), h1, x_eqR (hs (.eq (Term.string "EchoValley$Reader" 132) (.string "EchoValleyModel" 35)) (by decide +kernel)) h1, h2⟩
set_option maxRecDepth 100000 in
theorem x_str_8 {args : Array Value} {s : State} {A : Nat → Prop} (hs : ∀ c ∈ flatC (Jvm.Cond.and given_1 narrow_1), c.before args s = true) (hA : ∀ a : Nat, a < s.heap.size → ¬ A a) : ∃ q, xSf 8 q A args s := by
  obtain ⟨a, v, h1, h2⟩ := x_str1 (n := 3) (f := xsbyt 8) (A := A) (t := (Term.string "EchoValley$Reader" 134)) (by decide) (hs _ (by decide +kernel)) (hs _ (by decide +kernel)) (hs _ (by decide +kernel)) (hs _ (by decide +kernel)) (fun j hj => by
    match j, hj with
    | 0, _ => exact hs _ (by decide +kernel)
    | 1, _ => exact hs _ (by decide +kernel)
    | 2, _ => exact hs _ (by decide +kernel)
    | j + 3, hj => exact absurd hj (by omega)) hA
  exact ⟨(a, v), h1, x_eqR (hs (.eq (Term.string "EchoValley$Reader" 134) (.string "EchoValleyModel" 36)) (by decide +kernel)) h1, h2⟩
set_option maxRecDepth 100000 in
theorem x_str_9 {args : Array Value} {s : State} {A : Nat → Prop} (hs : ∀ c ∈ flatC (Jvm.Cond.and given_1 narrow_1), c.before args s = true) (hA : ∀ a : Nat, a < s.heap.size → ¬ A a) : ∃ q, xSf 9 q A args s := by
  obtain ⟨a, v, h1, h2⟩ := x_str1 (n := 4) (f := xsbyt 9) (A := A) (t := (Term.string "EchoValley$Reader" 136)) (by decide) (hs _ (by decide +kernel)) (hs _ (by decide +kernel)) (hs _ (by decide +kernel)) (hs _ (by decide +kernel)) (fun j hj => by
    match j, hj with
    | 0, _ => exact hs _ (by decide +kernel)
    | 1, _ => exact hs _ (by decide +kernel)
    | 2, _ => exact hs _ (by decide +kernel)
    | 3, _ => exact hs _ (by decide +kernel)
    | j + 4, hj => exact absurd hj (by omega)) hA
  exact ⟨(a, v), h1, x_eqR (hs (.eq (Term.string "EchoValley$Reader" 136) (.string "EchoValleyModel" 38)) (by decide +kernel)) h1, h2⟩
set_option maxRecDepth 100000 in
theorem x_str_10 {args : Array Value} {s : State} {A : Nat → Prop} (hs : ∀ c ∈ flatC (Jvm.Cond.and given_1 narrow_1), c.before args s = true) (hA : ∀ a : Nat, a < s.heap.size → ¬ A a) : ∃ q, xSf 10 q A args s := by
  obtain ⟨a, v, h1, h2⟩ := x_str1 (n := 7) (f := xsbyt 10) (A := A) (t := (Term.string "EchoValley$Reader" 138)) (by decide) (hs _ (by decide +kernel)) (hs _ (by decide +kernel)) (hs _ (by decide +kernel)) (hs _ (by decide +kernel)) (fun j hj => by
    match j, hj with
    | 0, _ => exact hs _ (by decide +kernel)
    | 1, _ => exact hs _ (by decide +kernel)
    | 2, _ => exact hs _ (by decide +kernel)
    | 3, _ => exact hs _ (by decide +kernel)
    | 4, _ => exact hs _ (by decide +kernel)
    | 5, _ => exact hs _ (by decide +kernel)
    | 6, _ => exact hs _ (by decide +kernel)
    | j + 7, hj => exact absurd hj (by omega)) hA
  exact ⟨(a, v), h1, x_eqR (hs (.eq (Term.string "EchoValley$Reader" 138) (.string "EchoValleyModel" 40)) (by decide +kernel)) h1, h2⟩
set_option maxRecDepth 100000 in
theorem x_str_11 {args : Array Value} {s : State} {A : Nat → Prop} (hs : ∀ c ∈ flatC (Jvm.Cond.and given_1 narrow_1), c.before args s = true) (hA : ∀ a : Nat, a < s.heap.size → ¬ A a) : ∃ q, xSf 11 q A args s := by
  obtain ⟨a, v, h1, h2⟩ := x_str1 (n := 6) (f := xsbyt 11) (A := A) (t := (Term.string "EchoValley$Reader" 140)) (by decide) (hs _ (by decide +kernel)) (hs _ (by decide +kernel)) (hs _ (by decide +kernel)) (hs _ (by decide +kernel)) (fun j hj => by
    match j, hj with
    | 0, _ => exact hs _ (by decide +kernel)
    | 1, _ => exact hs _ (by decide +kernel)
    | 2, _ => exact hs _ (by decide +kernel)
    | 3, _ => exact hs _ (by decide +kernel)
    | 4, _ => exact hs _ (by decide +kernel)
    | 5, _ => exact hs _ (by decide +kernel)
    | j + 6, hj => exact absurd hj (by omega)) hA
  exact ⟨(a, v), h1, x_eqR (hs (.eq (Term.string "EchoValley$Reader" 140) (.string "EchoValleyModel" 42)) (by decide +kernel)) h1, h2⟩
set_option maxRecDepth 100000 in
theorem x_str_12 {args : Array Value} {s : State} {A : Nat → Prop} (hs : ∀ c ∈ flatC (Jvm.Cond.and given_1 narrow_1), c.before args s = true) (hA : ∀ a : Nat, a < s.heap.size → ¬ A a) : ∃ q, xSf 12 q A args s := by
  obtain ⟨a, v, h1, h2⟩ := x_str1 (n := 6) (f := xsbyt 12) (A := A) (t := (Term.string "EchoValley$Reader" 142)) (by decide) (hs _ (by decide +kernel)) (hs _ (by decide +kernel)) (hs _ (by decide +kernel)) (hs _ (by decide +kernel)) (fun j hj => by
    match j, hj with
    | 0, _ => exact hs _ (by decide +kernel)
    | 1, _ => exact hs _ (by decide +kernel)
    | 2, _ => exact hs _ (by decide +kernel)
    | 3, _ => exact hs _ (by decide +kernel)
    | 4, _ => exact hs _ (by decide +kernel)
    | 5, _ => exact hs _ (by decide +kernel)
    | j + 6, hj => exact absurd hj (by omega)) hA
  exact ⟨(a, v), h1, x_eqR (hs (.eq (Term.string "EchoValley$Reader" 142) (.string "EchoValleyModel" 44)) (by decide +kernel)) h1, h2⟩
set_option maxRecDepth 100000 in
theorem x_str_13 {args : Array Value} {s : State} {A : Nat → Prop} (hs : ∀ c ∈ flatC (Jvm.Cond.and given_1 narrow_1), c.before args s = true) (hA : ∀ a : Nat, a < s.heap.size → ¬ A a) : ∃ q, xSf 13 q A args s := by
  obtain ⟨a, v, h1, h2⟩ := x_str1 (n := 4) (f := xsbyt 13) (A := A) (t := (Term.string "EchoValley$Reader" 114)) (by decide) (hs _ (by decide +kernel)) (hs _ (by decide +kernel)) (hs _ (by decide +kernel)) (hs _ (by decide +kernel)) (fun j hj => by
    match j, hj with
    | 0, _ => exact hs _ (by decide +kernel)
    | 1, _ => exact hs _ (by decide +kernel)
    | 2, _ => exact hs _ (by decide +kernel)
    | 3, _ => exact hs _ (by decide +kernel)
    | j + 4, hj => exact absurd hj (by omega)) hA
  exact ⟨(a, v), h1, x_eqR (hs (.eq (Term.string "EchoValley$Reader" 114) (.string "EchoValleyModel" 262)) (by decide +kernel)) h1, h2⟩
set_option maxRecDepth 100000 in
theorem x_str_14 {args : Array Value} {s : State} {A : Nat → Prop} (hs : ∀ c ∈ flatC (Jvm.Cond.and given_1 narrow_1), c.before args s = true) (hA : ∀ a : Nat, a < s.heap.size → ¬ A a) : ∃ q, xSf 14 q A args s := by
  obtain ⟨a, v, h1, h2⟩ := x_str1 (n := 4) (f := xsbyt 14) (A := A) (t := (Term.string "EchoValley$Reader" 116)) (by decide) (hs _ (by decide +kernel)) (hs _ (by decide +kernel)) (hs _ (by decide +kernel)) (hs _ (by decide +kernel)) (fun j hj => by
    match j, hj with
    | 0, _ => exact hs _ (by decide +kernel)
    | 1, _ => exact hs _ (by decide +kernel)
    | 2, _ => exact hs _ (by decide +kernel)
    | 3, _ => exact hs _ (by decide +kernel)
    | j + 4, hj => exact absurd hj (by omega)) hA
  exact ⟨(a, v), h1, x_eqR (hs (.eq (Term.string "EchoValley$Reader" 116) (.string "EchoValleyModel" 264)) (by decide +kernel)) h1, h2⟩
theorem x_strs {args : Array Value} {s : State} {A : Nat → Prop} (hs : ∀ c ∈ flatC (Jvm.Cond.and given_1 narrow_1), c.before args s = true) (hA : ∀ a : Nat, a < s.heap.size → ¬ A a) : ∃ ad : Nat → Nat × Nat, ∀ i, i < 15 → xSf i (ad i) A args s := by
  have h0 : ∀ i : Nat, ∃ q : Nat × Nat, i < 15 → xSf i q A args s := by
    intro i
    by_cases hi : i < 15
    · have h1 : ∃ q, xSf i q A args s := by
        match i, hi with
        | 0, _ => exact x_str_0 hs hA
        | 1, _ => exact x_str_1 hs hA
        | 2, _ => exact x_str_2 hs hA
        | 3, _ => exact x_str_3 hs hA
        | 4, _ => exact x_str_4 hs hA
        | 5, _ => exact x_str_5 hs hA
        | 6, _ => exact x_str_6 hs hA
        | 7, _ => exact x_str_7 hs hA
        | 8, _ => exact x_str_8 hs hA
        | 9, _ => exact x_str_9 hs hA
        | 10, _ => exact x_str_10 hs hA
        | 11, _ => exact x_str_11 hs hA
        | 12, _ => exact x_str_12 hs hA
        | 13, _ => exact x_str_13 hs hA
        | 14, _ => exact x_str_14 hs hA
        | i + 15, hi => exact absurd hi (by omega)
      obtain ⟨q, hq⟩ := h1
      exact ⟨q, fun _ => hq⟩
    · exact ⟨(0, 0), fun h => absurd h hi⟩
  exact Classical.axiomOfChoice h0

set_option maxRecDepth 100000 in
theorem x_nestw : ∀ w, xisNest w = true → w.onTables = true := by
  intro w h
  cases w <;> first | rfl | (simp [xisNest] at h)
set_option maxHeartbeats 4000000 in
set_option maxRecDepth 100000 in
/-- the start, as the Statement gives it -/
theorem x_world (l : Launch) {p : Program} {s : State} {m : MethodId} {meth : Method} {c : Code} {b L : Nat} {xs : Nat → Int32} (C0 : lw_At p s m meth c b L xs) : ∃ G : xG, gL G = l ∧ gB G = s.heap.size ∧ gH G = s.heap ∧ gN G = L ∧ gX G = xs ∧ gE G 1000 = b ∧ xGX G s := by
  obtain ⟨hx, hb, hr, hml, hown, hts, hX, hbl, hlocks, hgv⟩ := id C0
  have hs := flat_of_before _ hgv
  have hA : ∀ a : Nat, a < s.heap.size → ¬ (fun q : Nat => s.heap.size ≤ q) a := fun a h => Nat.not_le.mpr h
  obtain ⟨ad, had⟩ := x_strs (A := fun q : Nat => s.heap.size ≤ q) hs hA
  have hg : ∀ w ∈ xGood, w.before #[Value.ref b] s = true := fun w hw => hts w (List.mem_filter.mp hw).1
  obtain ⟨c0, iS0, hKn0⟩ := u_known (C := RX1) (T := TX1) (N := 1) (n := 1) hg xcls_0.1 (hg _ xcls_0.2.2.2.1)
  obtain ⟨c1, iS1, hKn1⟩ := u_known (C := RX2) (T := TX2) (N := 6) (n := 6) hg xcls_1.1 (hg _ xcls_1.2.2.2.1)
  obtain ⟨c2, iS2, hKn2⟩ := u_known (C := RX3) (T := TX3) (N := 7) (n := 7) hg xcls_2.1 (hg _ xcls_2.2.2.2.1)
  obtain ⟨c3, iS3, hKn3⟩ := u_known (C := RX4) (T := TX4) (N := 3) (n := 3) hg xcls_3.1 (hg _ xcls_3.2.2.2.1)
  obtain ⟨c4, iS4, hKn4⟩ := u_known (C := RX5) (T := TX5) (N := 8) (n := 8) hg xcls_4.1 (hg _ xcls_4.2.2.2.1)
  obtain ⟨c5, iS5, hKn5⟩ := u_known (C := RX6) (T := TX6) (N := 4) (n := 4) hg xcls_5.1 (hg _ xcls_5.2.2.2.1)
  obtain ⟨c6, iS6, hKn6⟩ := u_known (C := RX7) (T := TX7) (N := 1) (n := 1) hg xcls_6.1 (hg _ xcls_6.2.2.2.1)
  obtain ⟨c7, iS7, hKn7⟩ := u_known (C := RX8) (T := TX8) (N := 8) (n := 8) hg xcls_7.1 (hg _ xcls_7.2.2.2.1)
  obtain ⟨c8, iS8, hKn8⟩ := u_known (C := RX9) (T := TX9) (N := 24) (n := 24) hg xcls_8.1 (hg _ xcls_8.2.2.2.1)
  have hKc : ∀ (k : Nat) (q : vw_C), vwCl[k]? = some q → u_Kn s q.1 q.2.1 q.2.2 ((fun k : Nat => if k = 0 then c0 else if k = 1 then c1 else if k = 2 then c2 else if k = 3 then c3 else if k = 4 then c4 else if k = 5 then c5 else if k = 6 then c6 else if k = 7 then c7 else c8) k) ((fun k : Nat => if k = 0 then iS0 else if k = 1 then iS1 else if k = 2 then iS2 else if k = 3 then iS3 else if k = 4 then iS4 else if k = 5 then iS5 else if k = 6 then iS6 else if k = 7 then iS7 else iS8) k) := by
    intro k q hq
    match k, hq with
    | 0, hq => cases hq; exact hKn0
    | 1, hq => cases hq; exact hKn1
    | 2, hq => cases hq; exact hKn2
    | 3, hq => cases hq; exact hKn3
    | 4, hq => cases hq; exact hKn4
    | 5, hq => cases hq; exact hKn5
    | 6, hq => cases hq; exact hKn6
    | 7, hq => cases hq; exact hKn7
    | 8, hq => cases hq; exact hKn8
    | k + 9, hq => simp [vwCl] at hq
  obtain ⟨kI, cI, hI⟩ : ∃ (kI : Unit) (cI : ClassId), ArrOfT s cI .int ∧ va_RA s cI .int := by
    have h1 := hg _ x_objw.2.2.1
    obtain ⟨cI, kA, comp, h2, h3, h4⟩ := Cond.arrayClass_spec h1
    exact ⟨(), cI, fun n z => ⟨fun k h => (by cases h), kA, h3, comp, h4⟩, h2⟩
  have arrO : ∀ E : String, (Cond.arrayOver (.object E)).before #[Value.ref b] s = true → ∃ cA : ClassId, ArrOfT s cA (.object E) ∧ va_RA s cA (.object E) := by
    intro E h
    obtain ⟨comp, cA, k, h1, h2, h3, h4, h5⟩ := Cond.arrayOver_spec h
    exact ⟨cA, fun n z => ⟨fun k h => (by cases h), k, h3, comp, h4⟩, k, comp, h3, h4, h1, h5⟩
  have aS := hts (.arrayOver (.object "EchoValley$Sheet")) (List.mem_of_getElem? (i := 226) (by rfl))
  have aT := hts (.arrayOver (.object "java/lang/String")) (List.mem_of_getElem? (i := 919) (by rfl))
  obtain ⟨cS, hS⟩ := arrO _ aS
  obtain ⟨cT, hT⟩ := arrO _ aT
  obtain ⟨aA, hA1, hA2⟩ := va_Tof (tm := .static "EchoValley$Kinds" "ABOVE" "[I") (ty := .int) (N := 7) (f := fun j => .int (xabove j)) (A := fun q : Nat => s.heap.size ≤ q) (by decide) (hs _ (by decide +kernel)) (va_eqt (hs _ (by decide +kernel))) (fun j hj => by
    match j, hj with
    | 0, _ => exact va_eqt (hs _ (by decide +kernel))
    | 1, _ => exact va_eqt (hs _ (by decide +kernel))
    | 2, _ => exact va_eqt (hs _ (by decide +kernel))
    | 3, _ => exact va_eqt (hs _ (by decide +kernel))
    | 4, _ => exact va_eqt (hs _ (by decide +kernel))
    | 5, _ => exact va_eqt (hs _ (by decide +kernel))
    | 6, _ => exact va_eqt (hs _ (by decide +kernel))
    | j + 7, hj => exact absurd hj (by omega)) hA
  have hZ1 := va_Zof (A := fun q : Nat => s.heap.size ≤ q) (hts (.laysStatic "EchoValley$Kinds" "ABOVE" "[I") (List.mem_of_getElem? (i := 369) (by rfl))) (hts (.initialized "EchoValley$Kinds") (List.mem_of_getElem? (i := 69) (by rfl))) hA1 hA
  have hZ2 := va_Zof (A := fun q : Nat => s.heap.size ≤ q) (hts (.laysStatic "java/lang/String" "COMPACT_STRINGS" "Z") (List.mem_of_getElem? (i := 731) (by rfl))) (hts (.initialized "java/lang/String") (List.mem_of_getElem? (i := 73) (by rfl))) (va_eqi (hs (.eq (.static "java/lang/String" "COMPACT_STRINGS" "Z") (.int 1)) (by decide +kernel))) hA
  have hZ3 : ∃ ov : Value, xOk1 ov ∧ va_Z "jdk/internal/util/Preconditions" "SIOOBE_FORMATTER" "Ljava/util/function/BiFunction;" ov (fun q : Nat => s.heap.size ≤ q) s s.heap := by
    rcases va_Zqof (A := fun q : Nat => s.heap.size ≤ q) (hts (.laysStatic "jdk/internal/util/Preconditions" "SIOOBE_FORMATTER" "Ljava/util/function/BiFunction;") (List.mem_of_getElem? (i := 747) (by rfl))) (hts (.initialized "jdk/internal/util/Preconditions") (List.mem_of_getElem? (i := 75) (by rfl))) (hs (.isRef (.static "jdk/internal/util/Preconditions" "SIOOBE_FORMATTER" "Ljava/util/function/BiFunction;")) (by decide +kernel)) hA with h | ⟨t, h⟩
    · exact ⟨.null, Or.inl rfl, h⟩
    · exact ⟨.ref t, Or.inr ⟨t, rfl⟩, h⟩
  obtain ⟨ov, hov, hZ3⟩ := hZ3
  refine ⟨(l, s.heap.size, s.heap, (fun k : Nat => if k = 0 then c0 else if k = 1 then c1 else if k = 2 then c2 else if k = 3 then c3 else if k = 4 then c4 else if k = 5 then c5 else if k = 6 then c6 else if k = 7 then c7 else c8, fun k : Nat => if k = 0 then iS0 else if k = 1 then iS1 else if k = 2 then iS2 else if k = 3 then iS3 else if k = 4 then iS4 else if k = 5 then iS5 else if k = 6 then iS6 else if k = 7 then iS7 else iS8), (cI, cS, cT), (fun o : Nat => if o = 1000 then b else if o = 1001 then aA else if o < 1115 then (ad (o - 1100)).1 else (ad (o - 1200)).2), ov, L, xs), rfl, rfl, rfl, rfl, rfl, rfl, ⟨hKc, fun k q hq => ?_⟩, fun w hw => ?_, ⟨aS, aT⟩, ?_, fun i hi => ?_, hZ1, hA2, hZ2, hZ3, hX, hbl, hov, rfl⟩
  · match k, hq with
    | 0, hq => cases hq; exact hI
    | 1, hq => cases hq; exact hS
    | 2, hq => cases hq; exact hT
    | k + 3, hq => simp at hq
  · obtain ⟨h1, h2⟩ := List.mem_filter.mp hw
    exact va_Nw.of (x_nestw w h2) (hts w h1)
  · intro q hq
    obtain ⟨j, hj⟩ := List.getElem?_of_mem hq
    match j, hj with
    | 0, hj => cases hj; exact vk_R.of (hts (.stringRef "EchoValley$Reader" 35 "way") (List.mem_of_getElem? (i := 713) (by rfl))) (had 0 (by omega)).1
    | 1, hj => cases hj; exact vk_R.of (hts (.stringRef "EchoValley$Reader" 44 "person") (List.mem_of_getElem? (i := 779) (by rfl))) (had 1 (by omega)).1
    | 2, hj => cases hj; exact vk_R.of (hts (.stringRef "EchoValley$Reader" 49 "keep") (List.mem_of_getElem? (i := 787) (by rfl))) (had 4 (by omega)).1
    | 3, hj => cases hj; exact vk_R.of (hts (.stringRef "EchoValley$Reader" 54 "rain") (List.mem_of_getElem? (i := 792) (by rfl))) (had 5 (by omega)).1
    | 4, hj => cases hj; exact vk_R.of (hts (.stringRef "EchoValley$Reader" 96 "at") (List.mem_of_getElem? (i := 784) (by rfl))) (had 2 (by omega)).1
    | 5, hj => cases hj; exact vk_R.of (hts (.stringRef "EchoValley$Reader" 98 "hours") (List.mem_of_getElem? (i := 785) (by rfl))) (had 3 (by omega)).1
    | 6, hj => cases hj; exact vk_R.of (hts (.stringRef "EchoValley$Reader" 114 "hour") (List.mem_of_getElem? (i := 813) (by rfl))) (had 13 (by omega)).1
    | 7, hj => cases hj; exact vk_R.of (hts (.stringRef "EchoValley$Reader" 116 "loud") (List.mem_of_getElem? (i := 814) (by rfl))) (had 14 (by omega)).1
    | 8, hj => cases hj; exact vk_R.of (hts (.stringRef "EchoValley$Reader" 125 "once") (List.mem_of_getElem? (i := 801) (by rfl))) (had 6 (by omega)).1
    | 9, hj => cases hj; exact vk_R.of (hts (.stringRef "EchoValley$Reader" 132 "kept") (List.mem_of_getElem? (i := 802) (by rfl))) (had 7 (by omega)).1
    | 10, hj => cases hj; exact vk_R.of (hts (.stringRef "EchoValley$Reader" 134 "low") (List.mem_of_getElem? (i := 803) (by rfl))) (had 8 (by omega)).1
    | 11, hj => cases hj; exact vk_R.of (hts (.stringRef "EchoValley$Reader" 136 "over") (List.mem_of_getElem? (i := 804) (by rfl))) (had 9 (by omega)).1
    | 12, hj => cases hj; exact vk_R.of (hts (.stringRef "EchoValley$Reader" 138 "carried") (List.mem_of_getElem? (i := 805) (by rfl))) (had 10 (by omega)).1
    | 13, hj => cases hj; exact vk_R.of (hts (.stringRef "EchoValley$Reader" 140 "cursed") (List.mem_of_getElem? (i := 806) (by rfl))) (had 11 (by omega)).1
    | 14, hj => cases hj; exact vk_R.of (hts (.stringRef "EchoValley$Reader" 142 "hushed") (List.mem_of_getElem? (i := 807) (by rfl))) (had 12 (by omega)).1
    | 15, hj => cases hj; exact vk_R.of (hts (.stringRef "EchoValleyModel" 33 "once") (List.mem_of_getElem? (i := 920) (by rfl))) (had 6 (by omega)).2.1
    | 16, hj => cases hj; exact vk_R.of (hts (.stringRef "EchoValleyModel" 35 "kept") (List.mem_of_getElem? (i := 921) (by rfl))) (had 7 (by omega)).2.1
    | 17, hj => cases hj; exact vk_R.of (hts (.stringRef "EchoValleyModel" 36 "low") (List.mem_of_getElem? (i := 922) (by rfl))) (had 8 (by omega)).2.1
    | 18, hj => cases hj; exact vk_R.of (hts (.stringRef "EchoValleyModel" 38 "over") (List.mem_of_getElem? (i := 923) (by rfl))) (had 9 (by omega)).2.1
    | 19, hj => cases hj; exact vk_R.of (hts (.stringRef "EchoValleyModel" 40 "carried") (List.mem_of_getElem? (i := 924) (by rfl))) (had 10 (by omega)).2.1
    | 20, hj => cases hj; exact vk_R.of (hts (.stringRef "EchoValleyModel" 42 "cursed") (List.mem_of_getElem? (i := 925) (by rfl))) (had 11 (by omega)).2.1
    | 21, hj => cases hj; exact vk_R.of (hts (.stringRef "EchoValleyModel" 44 "hushed") (List.mem_of_getElem? (i := 926) (by rfl))) (had 12 (by omega)).2.1
    | 22, hj => cases hj; exact vk_R.of (hts (.stringRef "EchoValleyModel" 239 "way") (List.mem_of_getElem? (i := 1305) (by rfl))) (had 0 (by omega)).2.1
    | 23, hj => cases hj; exact vk_R.of (hts (.stringRef "EchoValleyModel" 248 "person") (List.mem_of_getElem? (i := 1306) (by rfl))) (had 1 (by omega)).2.1
    | 24, hj => cases hj; exact vk_R.of (hts (.stringRef "EchoValleyModel" 253 "keep") (List.mem_of_getElem? (i := 1312) (by rfl))) (had 4 (by omega)).2.1
    | 25, hj => cases hj; exact vk_R.of (hts (.stringRef "EchoValleyModel" 255 "rain") (List.mem_of_getElem? (i := 1313) (by rfl))) (had 5 (by omega)).2.1
    | 26, hj => cases hj; exact vk_R.of (hts (.stringRef "EchoValleyModel" 260 "at") (List.mem_of_getElem? (i := 1298) (by rfl))) (had 2 (by omega)).2.1
    | 27, hj => cases hj; exact vk_R.of (hts (.stringRef "EchoValleyModel" 262 "hour") (List.mem_of_getElem? (i := 1299) (by rfl))) (had 13 (by omega)).2.1
    | 28, hj => cases hj; exact vk_R.of (hts (.stringRef "EchoValleyModel" 264 "loud") (List.mem_of_getElem? (i := 1300) (by rfl))) (had 14 (by omega)).2.1
    | 29, hj => cases hj; exact vk_R.of (hts (.stringRef "EchoValleyModel" 266 "hours") (List.mem_of_getElem? (i := 1311) (by rfl))) (had 3 (by omega)).2.1
    | j + 30, hj => simp [xStr] at hj
  · obtain ⟨-, -, h1, h2, h3, h4⟩ := had i hi
    show va_O _ (if 1100 + i = 1000 then b else if 1100 + i = 1001 then aA else if 1100 + i < 1115 then (ad (1100 + i - 1100)).1 else (ad (1100 + i - 1200)).2) _ _ _ ∧ va_OF _ _ _ _ (if 1100 + i = 1000 then b else if 1100 + i = 1001 then aA else if 1100 + i < 1115 then (ad (1100 + i - 1100)).1 else (ad (1100 + i - 1200)).2) _ _ _ ∧ va_OF _ _ _ (.ref (if 1200 + i = 1000 then b else if 1200 + i = 1001 then aA else if 1200 + i < 1115 then (ad (1200 + i - 1100)).1 else (ad (1200 + i - 1200)).2)) (if 1100 + i = 1000 then b else if 1100 + i = 1001 then aA else if 1100 + i < 1115 then (ad (1100 + i - 1100)).1 else (ad (1100 + i - 1200)).2) _ _ _ ∧ va_T _ (if 1200 + i = 1000 then b else if 1200 + i = 1001 then aA else if 1200 + i < 1115 then (ad (1200 + i - 1100)).1 else (ad (1200 + i - 1200)).2) _ _ _ _ _
    rw [if_neg (show ¬ 1100 + i = 1000 by omega), if_neg (show ¬ 1100 + i = 1001 by omega), if_pos (show 1100 + i < 1115 by omega), if_neg (show ¬ 1200 + i = 1000 by omega), if_neg (show ¬ 1200 + i = 1001 by omega), if_neg (show ¬ 1200 + i < 1115 by omega), Nat.add_sub_cancel_left, Nat.add_sub_cancel_left]
    exact ⟨h1, h2, h3, h4⟩
end
section
/-! THE LAW out of a pure statement on the small machine. -/
/-- what is owed of pure data: the law's code, from its entry, comes to its end with 1, by the contracts at the depth 11 -/
def LawPure : Prop := ∀ (G : xG), gN G ≤ 3072 → ∀ (LE : Nat → xL → List Value → xH → Nat → Nat → Prop),
  (∀ (pc : Nat) (ls : xL) (st : List Value) (h : xH) (cs ss : Nat), wpI (xX (gN G) (gX G)) (CW G 11) xal 600000 7302250 2 (fun w _ => w = some (.int 1)) LE kL_law 400 true (xseek pc kL_law) ls st h cs ss → LE pc ls st h cs ss) →
  LE 0 [some (.ref 1000), none, none, none] [] ([], fun _ _ => none, fun _ _ => 0) 0 0
theorem whole_of (law : LawPure) {p : Program} {e : Env} {s : State} {m : MethodId} {below : List Frame} {meth : Method} {c : Code} (l : Launch) {b L : Nat} {xs : Nat → Int32} (hL : L ≤ 3072) (C0 : lw_At p s m meth c b L xs) : W p l e room_1 s m #[Value.ref b] below meth c s.heap [] 0 0 (lw_Z below #[Value.ref b] s) (entryFrame m ([Value.ref b] : List Value).toArray 4) := by
  obtain ⟨G, hGL, hGB, hGH, hGN, hGX, hGE, hG⟩ := x_world l C0
  obtain ⟨hx, hb, hr, hml, hown, hts, hX, hbl, hlocks, hgv⟩ := id C0
  have hO := hG.2.2.2.2.2.2.2.2.2.2.2.1
  have C : xCx G p room_1 s m #[Value.ref b] c cL_law 4 "EchoValleyLaw" := ⟨hx, hb, hml, hown, fun w hw => hts w (List.mem_filter.mp hw).1, hG, ⟨by rw [hGB]; exact Nat.le_refl _, fun q _ => by rw [hGH]⟩, by decide, by decide⟩
  have hret : xRet G p e room_1 s m #[Value.ref b] below meth c cL_law 600000 7302250 2 (lw_Z below #[Value.ref b] s) (fun w _ => w = some (.int 1)) := by
    intro w h H locs cs ss pc LS ins hw hrep hl hz hc hs hok hdg
    subst hw
    have hins : ins = .ireturn := by
      rcases hok with ⟨h1, -⟩ | ⟨-, -, x, h2⟩ | ⟨-, -, h2⟩
      · exact h1
      · cases h2
      · cases h2
    subst hins
    rw [hGL]
    refine va_forget (fun q hq => by rw [← hGB]; exact hl q hq) ?_
    refine W.widen (k := 600000) (n := 7302250) hc hs ?_
    exact lw_ret hx hb hr hlocks hdg
  have key := law G (by rw [hGN]; exact hL) (fun pc ls st h cs ss => ∀ (H : Heap) (locs : List Loc) (LS : Array Slot), xSt G s 4 600000 7302250 h ls cs ss H locs LS → W p (gL G) e room_1 s m #[Value.ref b] below meth c H locs cs ss (lw_Z below #[Value.ref b] s) (F0 m pc LS (st.map (xcv G))))
    (fun pc ls st h cs ss hw H locs LS S => x_run (d := 11) C (Or.inl ⟨by decide, by decide⟩) ⟨rfl, rfl⟩ (fun z => by cases z) hret (fun a as h Q hk => by rw [← CW_eq]; exact hk) oL_law (fun t ls st h cs ss H locs LS hE S => hE H locs LS S) 400 true (xseek pc kL_law) pc (xokC_seek oL_law) (fun f is' hh => xseek_head f is' hh) _ _ _ _ _ _ _ _ hw S)
  have hl := lv_entry ([Value.ref b]) (n := 4) (Nat.le_of_ble_eq_true rfl)
  rw [lg_entry_eq]
  generalize (lg_sl ([Value.ref b]) ++ List.replicate (4 - (lg_sl ([Value.ref b])).length) Slot.unset).toArray = LS at hl ⊢
  have e1 : ([Value.ref 1000] : List Value).map (xcv G) = [Value.ref b] := by
    rw [List.map_cons, x_refX (by omega) (by omega), hGE]; rfl
  have hl2 : lv_has LS 4 (xprs G [some (.ref 1000), none, none, none]) := x_entry (vs := [.ref 1000]) hO (by rw [e1]; exact hl)
  rw [← hGL]
  exact key s.heap [] LS ⟨⟨⟨Nat.zero_le _, fun k j q hq => by cases hq⟩, by rw [hGB]; rfl, fun k q hk => by simp at hk, fun k q ci hk => by simp at hk, fun q _ => by rw [hGH]⟩, hl2, fun q hq => absurd hq List.not_mem_nil, Nat.le_refl _, Nat.zero_le _, Nat.zero_le _⟩
end
section
/-! The objects, in the order in which they are made: shapes and references. -/
def SH : List (Nat × Nat) := [(10, 8), (7, 8), (9, 1), (0, 10), (5, 7), (0, 40), (0, 40), (0, 40), (0, 40), (0, 40), (0, 40), (3, 1), (0, 144), (0, 100), (0, 10), (7, 8), (9, 1), (0, 10), (5, 7), (0, 40), (0, 40), (0, 40), (0, 40), (0, 40), (0, 40), (3, 1), (0, 144), (0, 100), (0, 10), (7, 8), (9, 1), (0, 10), (5, 7), (0, 40), (0, 40), (0, 40), (0, 40), (0, 40), (0, 40), (3, 1), (0, 144), (0, 100), (0, 10), (4, 6), (0, 120), (1, 4), (8, 4), (0, 24), (0, 240), (0, 240), (0, 7), (6, 3), (0, 40), (6, 3), (0, 40), (6, 3), (0, 40), (6, 3), (0, 40), (11, 24), (0, 598), (0, 598), (0, 8), (0, 100), (0, 240), (0, 24), (0, 120), (2, 7), (0, 720), (0, 4), (0, 4), (0, 160), (0, 40)]
def RL0 : List (List (Option Nat)) := [[some 1, some 15, some 29, none, some 43, some 45, some 46, some 50], [some 2, some 4, some 11, some 13, some 14], [some 3], [], [none, some 5, some 6, some 7, some 8, some 9, some 10], [], [], [], [], [], [], [some 12], [], [], [], [some 16, some 18, some 25, some 27, some 28], [some 17], [], [none, some 19, some 20, some 21, some 22, some 23, some 24], [], [], [], [], [], [], [some 26], [], [], [], [some 30, some 32, some 39, some 41, some 42], [some 31], [], [none, some 33, some 34, some 35, some 36, some 37, some 38], [], [], [], [], [], [], [some 40], [], [], [], [none, some 44], [], [some 51, some 53, some 55, some 57], [none, some 47, some 48, some 49], [], [], [], [], [none, none, some 52], [], [none, none, some 54], [], [none, none, some 56], [], [none, none, some 58], [], [some 60, some 61, none, some 62, some 63, none, some 64, some 65, none, some 66, none, none, none, none, none, none, some 67, some 68, none, none, some 69, some 70, some 71, some 72], [], [], [], [], [], [], [], [some 1106, some 1107, some 1108, some 1109, some 1110, some 1111, some 1112], [], [], [], [], []]
def RR : Nat → Nat → Option Nat := fun a k => xnth none (xnth [] RL0 a) k
abbrev HH (M : xM) : xH := (SH, RR, M)
end
section
/-! Small questions of numbers: the class's and the model's. -/
theorem xnin {x : Int32} {n : Nat} (h : vp_in x n) : ¬ (x < 0 ∨ n ≤ x.toNatClampNeg) := h
theorem nin {k n : Nat} (h : k < n) (hn : n < 2 ^ 31) : ¬ (nI k < 0 ∨ n ≤ (nI k).toNatClampNeg) := nI_in h hn
/-- a number is one from 0 to n - 1, or not -/
theorem n_ix (x : Int32) (n : Nat) (hn : n < 2 ^ 31) : (∃ p : Nat, p < n ∧ x = nI p) ∨ ((x < 0 ∨ nI n ≤ x) ∧ ∀ p : Nat, p < n → x ≠ nI p) := by
  rcases pk_ix x hn with h | h | ⟨j, h1, h2⟩
  · exact Or.inr ⟨Or.inl h, fun p hp e => by subst e; exact nI_pos (by omega) h⟩
  · exact Or.inr ⟨Or.inr h, fun p hp e => by subst e; exact nI_ge hp hn h⟩
  · exact Or.inl ⟨j, h1, h2⟩
section CL
variable {G : xG} {d : Nat} {h : xH} {Q : Option Value → xH → Prop}
theorem c_isPlace (x : Int32) (q1 : ∀ p : Nat, p < 10 → x = nI p → Q (some (.int 1)) h) (q0 : (∀ p : Nat, p < 10 → x ≠ nI p) → Q (some (.int 0)) h) : CW G d jX8_isPlace [.int x] h Q := by
  refine CW_wp fX8_isPlace rfl rfl rfl ?_
  rcases n_ix x 10 (by decide) with ⟨p, hp, rfl⟩ | ⟨hx, hn⟩
  · refine xelse (nI_pos (by omega)) ?_
    refine xelse (nI_ge hp (by decide)) ?_
    exact q1 p hp rfl
  · refine xite (fun c => q0 hn) (fun c => ?_)
    exact xif (hx.resolve_left c) (q0 hn)
theorem c_isDay (x : Int32) (q1 : ∀ p : Nat, p < 100 → x = nI p → Q (some (.int 1)) h) (q0 : (∀ p : Nat, p < 100 → x ≠ nI p) → Q (some (.int 0)) h) : CW G d jX8_isDay [.int x] h Q := by
  refine CW_wp fX8_isDay rfl rfl rfl ?_
  rcases n_ix x 100 (by decide) with ⟨p, hp, rfl⟩ | ⟨hx, hn⟩
  · refine xelse (nI_pos (by omega)) ?_
    refine xelse (nI_ge hp (by decide)) ?_
    exact q1 p hp rfl
  · refine xite (fun c => q0 hn) (fun c => ?_)
    exact xif (hx.resolve_left c) (q0 hn)
theorem c_isHour (x : Int32) (q1 : ∀ p : Nat, p < 24 → x = nI p → Q (some (.int 1)) h) (q0 : (∀ p : Nat, p < 24 → x ≠ nI p) → Q (some (.int 0)) h) : CW G d jX8_isHour [.int x] h Q := by
  refine CW_wp fX8_isHour rfl rfl rfl ?_
  rcases n_ix x 24 (by decide) with ⟨p, hp, rfl⟩ | ⟨hx, hn⟩
  · refine xelse (nI_pos (by omega)) ?_
    refine xelse (nI_ge hp (by decide)) ?_
    exact q1 p hp rfl
  · refine xite (fun c => q0 hn) (fun c => ?_)
    exact xif (hx.resolve_left c) (q0 hn)
theorem c_isWord (x : Int32) (q1 : ∀ p : Nat, p < 16 → x = nI p → Q (some (.int 1)) h) (q0 : (∀ p : Nat, p < 16 → x ≠ nI p) → Q (some (.int 0)) h) : CW G d jX8_isWord [.int x] h Q := by
  refine CW_wp fX8_isWord rfl rfl rfl ?_
  rcases n_ix x 16 (by decide) with ⟨p, hp, rfl⟩ | ⟨hx, hn⟩
  · refine xelse (nI_pos (by omega)) ?_
    refine xelse (nI_ge hp (by decide)) ?_
    exact q1 p hp rfl
  · refine xite (fun c => q0 hn) (fun c => ?_)
    exact xif (hx.resolve_left c) (q0 hn)
theorem c_isPerson (x : Int32) (q1 : ∀ p : Nat, p < 6 → x = nI p → Q (some (.int 1)) h) (q0 : (∀ p : Nat, p < 6 → x ≠ nI p) → Q (some (.int 0)) h) : CW G d jX8_isPerson [.int x] h Q := by
  refine CW_wp fX8_isPerson rfl rfl rfl ?_
  rcases n_ix x 6 (by decide) with ⟨p, hp, rfl⟩ | ⟨hx, hn⟩
  · refine xelse (nI_pos (by omega)) ?_
    refine xelse (nI_ge hp (by decide)) ?_
    exact q1 p hp rfl
  · refine xite (fun c => q0 hn) (fun c => ?_)
    exact xif (hx.resolve_left c) (q0 hn)
theorem c_isSpot (x : Int32) (q1 : ∀ p : Nat, p < 10 → x = nI p → Q (some (.int 1)) h) (q0 : (∀ p : Nat, p < 10 → x ≠ nI p) → Q (some (.int 0)) h) : CW G d jX8_isSpot [.int x] h Q := by
  refine CW_wp fX8_isSpot rfl rfl rfl ?_
  rcases n_ix x 10 (by decide) with ⟨p, hp, rfl⟩ | ⟨hx, hn⟩
  · refine xelse (nI_pos (by omega)) ?_
    refine xelse (nI_ge hp (by decide)) ?_
    exact q1 p hp rfl
  · refine xite (fun c => q0 hn) (fun c => ?_)
    exact xif (hx.resolve_left c) (q0 hn)
theorem c_isSheet (x : Int32) (q1 : ∀ p : Nat, p < 4 → x = nI p → Q (some (.int 1)) h) (q0 : (∀ p : Nat, p < 4 → x ≠ nI p) → Q (some (.int 0)) h) : CW G d jX8_isSheet [.int x] h Q := by
  refine CW_wp fX8_isSheet rfl rfl rfl ?_
  rcases n_ix x 4 (by decide) with ⟨p, hp, rfl⟩ | ⟨hx, hn⟩
  · refine xelse (nI_pos (by omega)) ?_
    refine xelse (nI_ge hp (by decide)) ?_
    exact q1 p hp rfl
  · refine xite (fun c => q0 hn) (fun c => ?_)
    exact xif (hx.resolve_left c) (q0 hn)
/-- a number is one from 1 to n, or not -/
theorem n_i1 (x : Int32) (n : Nat) (hn : n < 2 ^ 31) : (∃ p : Nat, 1 ≤ p ∧ p ≤ n ∧ x = nI p) ∨ ((x < 1 ∨ nI n < x) ∧ ∀ p : Nat, 1 ≤ p → p ≤ n → x ≠ nI p) := by
  by_cases h1 : x < 1
  · exact Or.inr ⟨Or.inl h1, fun p hp hp2 e => by
      subst e
      rw [show (1 : Int32) = nI 1 from rfl, nI_ltI (by omega) (by omega)] at h1
      omega⟩
  · by_cases h2 : nI n < x
    · exact Or.inr ⟨Or.inr h2, fun p hp hp2 e => by
        subst e
        rw [nI_ltI (by omega) (by omega)] at h2
        omega⟩
    · have h3 : ¬ x < 0 := fun z => h1 (Int32.lt_trans z (by decide))
      obtain ⟨j, hj, rfl⟩ := nI_of h3
      rw [show (1 : Int32) = nI 1 from rfl, nI_ltI (by omega) (by omega)] at h1
      rw [nI_ltI (by omega) (by omega)] at h2
      exact Or.inl ⟨j, by omega, by omega, rfl⟩
theorem c_isLoud (x : Int32) (q1 : ∀ p : Nat, 1 ≤ p → p ≤ 9 → x = nI p → Q (some (.int 1)) h) (q0 : (∀ p : Nat, 1 ≤ p → p ≤ 9 → x ≠ nI p) → Q (some (.int 0)) h) : CW G d jX8_isLoud [.int x] h Q := by
  refine CW_wp fX8_isLoud rfl rfl rfl ?_
  rcases n_i1 x 9 (by decide) with ⟨p, hp, hp2, rfl⟩ | ⟨hx, hn⟩
  · refine xelse (by rw [show (1 : Int32) = nI 1 from rfl, nI_ltI (by omega) (by omega)]; omega) ?_
    refine xelse (by rw [show (9 : Int32) = nI 9 from rfl, nI_ltI (by omega) (by omega)]; omega) ?_
    exact q1 p hp hp2 rfl
  · refine xite (fun c => q0 hn) (fun c => ?_)
    exact xif (hx.resolve_left c) (q0 hn)
theorem c_dayOf (x : Int32) (q : Q (some (.int (x / 100))) h) : CW G d jX8_dayOf [.int x] h Q := by
  refine CW_wp fX8_dayOf rfl rfl rfl ?_
  exact q
theorem c_hourOf (x : Int32) (q : Q (some (.int (x - x / 100 * 100))) h) : CW G d jX8_hourOf [.int x] h Q := by
  refine CW_wp fX8_hourOf rfl rfl rfl ?_
  exact q
/-- a 'when': 100 times a DAY, and an HOUR -/
theorem when_div (D t : Nat) (hD : D < 100) (ht : t < 24) : nI (100 * D + t) / 100 = nI D ∧ nI (100 * D + t) - nI (100 * D + t) / 100 * 100 = nI t := by
  have h1 : nI (100 * D + t) / 100 = nI D := by
    rw [show (100 : Int32) = nI 100 from rfl, pk_div (by omega) (by omega) (by omega)]
    congr 1; omega
  refine ⟨h1, ?_⟩
  rw [show (100 : Int32) = nI 100 from rfl, pk_rem (by omega) (by omega) (by omega)]
  congr 1; omega
theorem c_isWhen (x : Int32) (q1 : ∀ D t : Nat, D < 100 → t < 24 → x = nI (100 * D + t) → Q (some (.int 1)) h) (q0 : (∀ D t : Nat, D < 100 → t < 24 → x ≠ nI (100 * D + t)) → Q (some (.int 0)) h) : CW G (d + 1) jX8_isWhen [.int x] h Q := by
  refine CW_wp fX8_isWhen rfl rfl rfl ?_
  refine xite (fun c => q0 (fun D t hD ht e => by subst e; exact nI_pos (by omega) c)) (fun c => ?_)
  obtain ⟨w, hw, rfl⟩ := nI_of c
  have e1 : nI w / 100 = nI (w / 100) := by
    rw [show (100 : Int32) = nI 100 from rfl, pk_div (by omega) (by omega) (by omega)]
  have e2 : nI w - nI w / 100 * 100 = nI (w % 100) := by
    rw [show (100 : Int32) = nI 100 from rfl, pk_rem (by omega) (by omega) (by omega)]
  have no : (¬ (w / 100 < 100 ∧ w % 100 < 24)) → ∀ D t : Nat, D < 100 → t < 24 → nI w ≠ nI (100 * D + t) := fun hn D t hD ht e => by
    rw [nI_eq (by omega) (by omega)] at e
    exact hn ⟨by omega, by omega⟩
  refine c_dayOf _ ?_
  rw [e1]
  refine c_isDay _ (fun p hp e => ?_) (fun hn => ?_)
  · rw [nI_eq (by omega) (by omega)] at e
    refine c_hourOf _ ?_
    rw [e2]
    refine c_isHour _ (fun t ht e' => ?_) (fun hn => ?_)
    · rw [nI_eq (by omega) (by omega)] at e'
      exact q1 (w / 100) (w % 100) (by omega) (by omega) (by congr 1; omega)
    · exact q0 (no (fun z => hn _ z.2 rfl))
  · exact q0 (no (fun z => hn _ z.1 rfl))
/-- the model's 'within', by the ends as it stands there -/
theorem m_within (x lo hi : Int32) (q1 : lo ≤ x → x ≤ hi → Q (some (.int 1)) h) (q0 : ¬ (lo ≤ x ∧ x ≤ hi) → Q (some (.int 0)) h) : CW G d jX9_within [.int x, .int lo, .int hi] h Q := by
  refine CW_wp fX9_within rfl rfl rfl ?_
  refine xite (fun c => q0 (fun z => absurd z.1 (Int32.not_le.mpr c))) (fun c => ?_)
  refine xite (fun c2 => q0 (fun z => absurd z.2 (Int32.not_le.mpr c2))) (fun c2 => ?_)
  exact q1 (Int32.not_lt.mp c) (Int32.not_lt.mp c2)
theorem w_ix {x : Int32} {n : Nat} (hn : n + 1 < 2 ^ 31) (h1 : 0 ≤ x) (h2 : x ≤ nI n) : ∃ p : Nat, p < n + 1 ∧ x = nI p := by
  obtain ⟨j, hj, rfl⟩ := nI_of (Int32.not_lt.mpr h1)
  rw [nI_leI (by omega) (by omega)] at h2
  exact ⟨j, by omega, rfl⟩
theorem w_no {x : Int32} {n : Nat} (hn : n + 1 < 2 ^ 31) (h : ¬ (0 ≤ x ∧ x ≤ nI n)) : ∀ p : Nat, p < n + 1 → x ≠ nI p := fun p hp e => by
  subst e
  exact h ⟨nI_pos' (by omega), nI_le (by omega) (by omega)⟩
theorem m_isPlace (x : Int32) (q1 : ∀ p : Nat, p < 10 → x = nI p → Q (some (.int 1)) h) (q0 : (∀ p : Nat, p < 10 → x ≠ nI p) → Q (some (.int 0)) h) : CW G (d + 1) jX9_isPlace [.int x] h Q := by
  refine CW_wp fX9_isPlace rfl rfl rfl ?_
  refine m_within _ _ _ (fun c1 c2 => ?_) (fun c => ?_)
  · obtain ⟨p, hp, e⟩ := w_ix (n := 9) (by decide) c1 c2
    exact q1 p hp e
  · exact q0 (w_no (n := 9) (by decide) c)
theorem m_isDay (x : Int32) (q1 : ∀ p : Nat, p < 100 → x = nI p → Q (some (.int 1)) h) (q0 : (∀ p : Nat, p < 100 → x ≠ nI p) → Q (some (.int 0)) h) : CW G (d + 1) jX9_isDay [.int x] h Q := by
  refine CW_wp fX9_isDay rfl rfl rfl ?_
  refine m_within _ _ _ (fun c1 c2 => ?_) (fun c => ?_)
  · obtain ⟨p, hp, e⟩ := w_ix (n := 99) (by decide) c1 c2
    exact q1 p hp e
  · exact q0 (w_no (n := 99) (by decide) c)
theorem m_isHour (x : Int32) (q1 : ∀ p : Nat, p < 24 → x = nI p → Q (some (.int 1)) h) (q0 : (∀ p : Nat, p < 24 → x ≠ nI p) → Q (some (.int 0)) h) : CW G (d + 1) jX9_isHour [.int x] h Q := by
  refine CW_wp fX9_isHour rfl rfl rfl ?_
  refine m_within _ _ _ (fun c1 c2 => ?_) (fun c => ?_)
  · obtain ⟨p, hp, e⟩ := w_ix (n := 23) (by decide) c1 c2
    exact q1 p hp e
  · exact q0 (w_no (n := 23) (by decide) c)
theorem m_isPerson (x : Int32) (q1 : ∀ p : Nat, p < 6 → x = nI p → Q (some (.int 1)) h) (q0 : (∀ p : Nat, p < 6 → x ≠ nI p) → Q (some (.int 0)) h) : CW G (d + 1) jX9_isPerson [.int x] h Q := by
  refine CW_wp fX9_isPerson rfl rfl rfl ?_
  refine m_within _ _ _ (fun c1 c2 => ?_) (fun c => ?_)
  · obtain ⟨p, hp, e⟩ := w_ix (n := 5) (by decide) c1 c2
    exact q1 p hp e
  · exact q0 (w_no (n := 5) (by decide) c)
theorem m_isSheet (x : Int32) (q1 : ∀ p : Nat, p < 4 → x = nI p → Q (some (.int 1)) h) (q0 : (∀ p : Nat, p < 4 → x ≠ nI p) → Q (some (.int 0)) h) : CW G (d + 1) jX9_isSheet [.int x] h Q := by
  refine CW_wp fX9_isSheet rfl rfl rfl ?_
  refine m_within _ _ _ (fun c1 c2 => ?_) (fun c => ?_)
  · obtain ⟨p, hp, e⟩ := w_ix (n := 3) (by decide) c1 c2
    exact q1 p hp e
  · exact q0 (w_no (n := 3) (by decide) c)
theorem m_isWhen (x : Int32) (q1 : ∀ D t : Nat, D < 100 → t < 24 → x = nI (100 * D + t) → Q (some (.int 1)) h) (q0 : (∀ D t : Nat, D < 100 → t < 24 → x ≠ nI (100 * D + t)) → Q (some (.int 0)) h) : CW G (d + 2) jX9_isWhen [.int x] h Q := by
  refine CW_wp fX9_isWhen rfl rfl rfl ?_
  refine xite (fun c => q0 (fun D t hD ht e => by subst e; exact nI_pos (by omega) c)) (fun c => ?_)
  obtain ⟨w, hw, rfl⟩ := nI_of c
  have e1 : nI w / 100 = nI (w / 100) := by
    rw [show (100 : Int32) = nI 100 from rfl, pk_div (by omega) (by omega) (by omega)]
  have e2 : nI w - nI w / 100 * 100 = nI (w % 100) := by
    rw [show (100 : Int32) = nI 100 from rfl, pk_rem (by omega) (by omega) (by omega)]
  have no : (¬ (w / 100 < 100 ∧ w % 100 < 24)) → ∀ D t : Nat, D < 100 → t < 24 → nI w ≠ nI (100 * D + t) := fun hn D t hD ht e => by
    rw [nI_eq (by omega) (by omega)] at e
    exact hn ⟨by omega, by omega⟩
  refine m_isDay (nI w / 100) (fun p hp e => ?_) (fun hn => ?_)
  · rw [e1, nI_eq (by omega) (by omega)] at e
    refine m_isHour (nI w - nI w / 100 * 100) (fun t ht e' => ?_) (fun hn => ?_)
    · rw [e2, nI_eq (by omega) (by omega)] at e'
      exact q1 (w / 100) (w % 100) (by omega) (by omega) (by congr 1; omega)
    · rw [e2] at hn
      exact q0 (no (fun z => hn _ z.2 rfl))
  · rw [e1] at hn
    exact q0 (no (fun z => hn _ z.1 rfl))
end CL
end
section
/-! The JDK's own small methods. -/
section JD
variable {G : xG} {d : Nat} {Q : Option Value → xH → Prop}
def ffill (f : Nat → Int32) (v : Int32) (i : Nat) : Nat → Int32 := fun k => if k < i then v else f k
theorem ffill_succ (f : Nat → Int32) (v : Int32) (i : Nat) : upd (ffill f v i) i v = ffill f v (i + 1) := by
  funext k
  unfold upd ffill
  by_cases h : k = i
  · subst h
    rw [if_pos rfl, if_pos (Nat.lt_succ_self k)]
  · rw [if_neg h]
    by_cases h2 : k < i
    · rw [if_pos h2, if_pos (by omega)]
    · rw [if_neg h2, if_neg (by omega)]
theorem xrow_xrow (M : xM) (a : Nat) (f g : Nat → Int32) : xrow (xrow M a f) a g = xrow M a g := by
  funext i
  unfold xrow
  by_cases h : i = a
  · rw [if_pos h, if_pos h]
  · rw [if_neg h, if_neg h, if_neg h]
theorem xup_row (M : xM) (a : Nat) (f : Nat → Int32) (k : Nat) (v : Int32) : xup (xrow M a f) a k v = xrow M a (upd f k v) := by
  unfold xup
  rw [xrow_eq, xrow_xrow]
theorem xrow_self (M : xM) (a : Nat) : xrow M a (M a) = M := by
  funext i
  unfold xrow
  by_cases h : i = a
  · rw [if_pos h, h]
  · rw [if_neg h]
set_option maxRecDepth 4000 in
theorem l_fill (sh : List (Nat × Nat)) (R : Nat → Nat → Option Nat) (M : xM) (a n : Nat) (hn : n < 2 ^ 31) (hsh : sh[a]? = some (0, n)) (v : Int32) (q : Q none (sh, R, xrow M a (ffill (M a) v n))) :
    ∀ (k i : Nat), i + k = n → Ev G d jJ7_fill_53178 5 [some (.ref a), some (.int v), some (.int (nI i)), some (.int (nI n))] [] (sh, R, xrow M a (ffill (M a) v i)) 0 0 Q := by
  intro k
  induction k with
  | zero =>
    intro i hi
    refine Ev_wp fJ7_fill_53178 rfl ?_
    refine xif (by rw [show i = n by omega]; exact Int32.le_refl _) ?_
    rw [show i = n by omega]
    exact q
  | succ k ih =>
    intro i hi
    refine Ev_wp fJ7_fill_53178 rfl ?_
    refine xelse (nI_ge (by omega) hn) ?_
    have h1 := ih (i + 1) (by omega)
    rw [← ffill_succ, ← xup_row] at h1
    show (match sh[a]? with
        | some (kd, n) => match kd with
          | 0 => if nI i < 0 ∨ n ≤ (nI i).toNatClampNeg then False else _
          | _ => False
        | none => False)
    rw [hsh]
    refine xelse (nin (by omega) hn) ?_
    have h2 : nI (i + 1) = nI i + 1 := nI_succ i
    have h3 : (nI i).toNatClampNeg = i := nI_clamp (by omega)
    rw [h2] at h1
    rw [h3]
    exact h1
theorem c_fill (sh : List (Nat × Nat)) (R : Nat → Nat → Option Nat) (M : xM) (a n : Nat) (hn : n < 2 ^ 31) (hsh : sh[a]? = some (0, n)) (v : Int32) (q : Q none (sh, R, xrow M a (ffill (M a) v n))) : CW G d jJ7_fill_53178 [.ref a, .int v] (sh, R, M) Q := by
  refine CW_wp fJ7_fill_53178 rfl rfl rfl ?_
  have h1 := l_fill (G := G) (d := d) sh R M a n hn hsh v q n 0 (by omega)
  have h0 : xrow M a (ffill (M a) v 0) = M := by
    have e : ffill (M a) v 0 = M a := by funext k; unfold ffill; rw [if_neg (by omega)]
    rw [e, xrow_self]
  rw [h0] at h1
  show (match sh[a]? with
        | some (kd, n) => match Nat.blt kd 3 with
          | true => _
          | false => False
        | none => _)
  rw [hsh]
  exact h1
end JD
end
section
/-! String constants: length and signs. -/
section ST
variable {G : xG} {d : Nat} {M : xM} {Q : Option Value → xH → Prop}
theorem c_coder (i : Nat) (hi : i < 15) (q : Q (some (.int 0)) (HH M)) : CW G d jJ0_coder_7d493 [.ref (1100 + i)] (HH M) Q := by
  match i, hi with
  | 0, _ => exact CW_wp fJ0_coder_7d493 rfl rfl rfl (And.intro (by decide +kernel) q)
  | 1, _ => exact CW_wp fJ0_coder_7d493 rfl rfl rfl (And.intro (by decide +kernel) q)
  | 2, _ => exact CW_wp fJ0_coder_7d493 rfl rfl rfl (And.intro (by decide +kernel) q)
  | 3, _ => exact CW_wp fJ0_coder_7d493 rfl rfl rfl (And.intro (by decide +kernel) q)
  | 4, _ => exact CW_wp fJ0_coder_7d493 rfl rfl rfl (And.intro (by decide +kernel) q)
  | 5, _ => exact CW_wp fJ0_coder_7d493 rfl rfl rfl (And.intro (by decide +kernel) q)
  | 6, _ => exact CW_wp fJ0_coder_7d493 rfl rfl rfl (And.intro (by decide +kernel) q)
  | 7, _ => exact CW_wp fJ0_coder_7d493 rfl rfl rfl (And.intro (by decide +kernel) q)
  | 8, _ => exact CW_wp fJ0_coder_7d493 rfl rfl rfl (And.intro (by decide +kernel) q)
  | 9, _ => exact CW_wp fJ0_coder_7d493 rfl rfl rfl (And.intro (by decide +kernel) q)
  | 10, _ => exact CW_wp fJ0_coder_7d493 rfl rfl rfl (And.intro (by decide +kernel) q)
  | 11, _ => exact CW_wp fJ0_coder_7d493 rfl rfl rfl (And.intro (by decide +kernel) q)
  | 12, _ => exact CW_wp fJ0_coder_7d493 rfl rfl rfl (And.intro (by decide +kernel) q)
  | 13, _ => exact CW_wp fJ0_coder_7d493 rfl rfl rfl (And.intro (by decide +kernel) q)
  | 14, _ => exact CW_wp fJ0_coder_7d493 rfl rfl rfl (And.intro (by decide +kernel) q)
  | i + 15, hi => exact absurd hi (by omega)
theorem c_isLatin1 (i : Nat) (hi : i < 15) (q : Q (some (.int 1)) (HH M)) : CW G d jJ0_isLatin1_aae02 [.ref (1100 + i)] (HH M) Q := by
  match i, hi with
  | 0, _ => exact CW_wp fJ0_isLatin1_aae02 rfl rfl rfl q
  | 1, _ => exact CW_wp fJ0_isLatin1_aae02 rfl rfl rfl q
  | 2, _ => exact CW_wp fJ0_isLatin1_aae02 rfl rfl rfl q
  | 3, _ => exact CW_wp fJ0_isLatin1_aae02 rfl rfl rfl q
  | 4, _ => exact CW_wp fJ0_isLatin1_aae02 rfl rfl rfl q
  | 5, _ => exact CW_wp fJ0_isLatin1_aae02 rfl rfl rfl q
  | 6, _ => exact CW_wp fJ0_isLatin1_aae02 rfl rfl rfl q
  | 7, _ => exact CW_wp fJ0_isLatin1_aae02 rfl rfl rfl q
  | 8, _ => exact CW_wp fJ0_isLatin1_aae02 rfl rfl rfl q
  | 9, _ => exact CW_wp fJ0_isLatin1_aae02 rfl rfl rfl q
  | 10, _ => exact CW_wp fJ0_isLatin1_aae02 rfl rfl rfl q
  | 11, _ => exact CW_wp fJ0_isLatin1_aae02 rfl rfl rfl q
  | 12, _ => exact CW_wp fJ0_isLatin1_aae02 rfl rfl rfl q
  | 13, _ => exact CW_wp fJ0_isLatin1_aae02 rfl rfl rfl q
  | 14, _ => exact CW_wp fJ0_isLatin1_aae02 rfl rfl rfl q
  | i + 15, hi => exact absurd hi (by omega)
theorem c_length (i : Nat) (hi : i < 15) (q : Q (some (.int (nI (xslen i)))) (HH M)) : CW G (d + 1) jJ0_length_8abf5 [.ref (1100 + i)] (HH M) Q := by
  match i, hi, q with
  | 0, _, q => exact CW_wp fJ0_length_8abf5 rfl rfl rfl (c_coder 0 (by decide) q)
  | 1, _, q => exact CW_wp fJ0_length_8abf5 rfl rfl rfl (c_coder 1 (by decide) q)
  | 2, _, q => exact CW_wp fJ0_length_8abf5 rfl rfl rfl (c_coder 2 (by decide) q)
  | 3, _, q => exact CW_wp fJ0_length_8abf5 rfl rfl rfl (c_coder 3 (by decide) q)
  | 4, _, q => exact CW_wp fJ0_length_8abf5 rfl rfl rfl (c_coder 4 (by decide) q)
  | 5, _, q => exact CW_wp fJ0_length_8abf5 rfl rfl rfl (c_coder 5 (by decide) q)
  | 6, _, q => exact CW_wp fJ0_length_8abf5 rfl rfl rfl (c_coder 6 (by decide) q)
  | 7, _, q => exact CW_wp fJ0_length_8abf5 rfl rfl rfl (c_coder 7 (by decide) q)
  | 8, _, q => exact CW_wp fJ0_length_8abf5 rfl rfl rfl (c_coder 8 (by decide) q)
  | 9, _, q => exact CW_wp fJ0_length_8abf5 rfl rfl rfl (c_coder 9 (by decide) q)
  | 10, _, q => exact CW_wp fJ0_length_8abf5 rfl rfl rfl (c_coder 10 (by decide) q)
  | 11, _, q => exact CW_wp fJ0_length_8abf5 rfl rfl rfl (c_coder 11 (by decide) q)
  | 12, _, q => exact CW_wp fJ0_length_8abf5 rfl rfl rfl (c_coder 12 (by decide) q)
  | 13, _, q => exact CW_wp fJ0_length_8abf5 rfl rfl rfl (c_coder 13 (by decide) q)
  | 14, _, q => exact CW_wp fJ0_length_8abf5 rfl rfl rfl (c_coder 14 (by decide) q)
  | i + 15, hi, _ => exact absurd hi (by omega)
theorem c_preCheck (k n : Nat) (hk : k < n) (hn : n < 2 ^ 31) (o : Nat) (q : Q (some (.int (nI k))) (HH M)) : CW G d jJ3_checkIndex_8e157 [.int (nI k), .int (nI n), .ref o] (HH M) Q := by
  refine CW_wp fJ3_checkIndex_8e157 rfl rfl rfl ?_
  refine xelse (nI_pos (by omega)) ?_
  refine xif (nI_lt hk hn) ?_
  exact q
theorem c_strCheck (k n : Nat) (hk : k < n) (hn : n < 2 ^ 31) (q : Q none (HH M)) : CW G (d + 1) jJ0_checkIndex_df160 [.int (nI k), .int (nI n)] (HH M) Q := by
  refine CW_wp fJ0_checkIndex_df160 rfl rfl rfl ?_
  exact c_preCheck k n hk hn 1300 q
def xsb (i k : Nat) : Int32 := xsbyt i k
theorem xsb_ok : ∀ i, i < 15 → ∀ k, k < xslen i → ((xsbyt i k &&& 255).toUInt32 % 65536).toInt32 = xsbyt i k ∧ xslen i < 2 ^ 31 := by decide +kernel
theorem c_lat1 (i : Nat) (hi : i < 15) (k : Nat) (hk : k < xslen i) (q : Q (some (.int (xsbyt i k))) (HH M)) : CW G (d + 2) jJ1_charAt_3b067 [.ref (1200 + i), .int (nI k)] (HH M) Q := by
  have h1 := xsb_ok i hi k hk
  have h3 : (nI k).toNatClampNeg = k := nI_clamp (by omega)
  have h4 := pk_nc (xsbyt i k &&& 255)
  rw [h1.1] at h4
  match i, hi, hk, q, h1, h4 with
  | 0, _, hk, q, h1, h4 =>
    refine CW_wp fJ1_charAt_3b067 rfl rfl rfl ?_
    refine c_strCheck k (xslen 0) hk h1.2 ?_
    refine xelse (nin hk h1.2) ?_
    rw [h3]
    refine And.intro (a := narrow .char (.int ((xsbyt 0 k &&& 255).toUInt32 % 65536).toInt32) = .int ((xsbyt 0 k &&& 255).toUInt32 % 65536).toInt32) ?_ ?_
    · rw [h1.1]; exact h4
    · show Q (some (.int ((xsbyt 0 k &&& 255).toUInt32 % 65536).toInt32)) (HH M)
      rw [h1.1]; exact q
  | 1, _, hk, q, h1, h4 =>
    refine CW_wp fJ1_charAt_3b067 rfl rfl rfl ?_
    refine c_strCheck k (xslen 1) hk h1.2 ?_
    refine xelse (nin hk h1.2) ?_
    rw [h3]
    refine And.intro (a := narrow .char (.int ((xsbyt 1 k &&& 255).toUInt32 % 65536).toInt32) = .int ((xsbyt 1 k &&& 255).toUInt32 % 65536).toInt32) ?_ ?_
    · rw [h1.1]; exact h4
    · show Q (some (.int ((xsbyt 1 k &&& 255).toUInt32 % 65536).toInt32)) (HH M)
      rw [h1.1]; exact q
  | 2, _, hk, q, h1, h4 =>
    refine CW_wp fJ1_charAt_3b067 rfl rfl rfl ?_
    refine c_strCheck k (xslen 2) hk h1.2 ?_
    refine xelse (nin hk h1.2) ?_
    rw [h3]
    refine And.intro (a := narrow .char (.int ((xsbyt 2 k &&& 255).toUInt32 % 65536).toInt32) = .int ((xsbyt 2 k &&& 255).toUInt32 % 65536).toInt32) ?_ ?_
    · rw [h1.1]; exact h4
    · show Q (some (.int ((xsbyt 2 k &&& 255).toUInt32 % 65536).toInt32)) (HH M)
      rw [h1.1]; exact q
  | 3, _, hk, q, h1, h4 =>
    refine CW_wp fJ1_charAt_3b067 rfl rfl rfl ?_
    refine c_strCheck k (xslen 3) hk h1.2 ?_
    refine xelse (nin hk h1.2) ?_
    rw [h3]
    refine And.intro (a := narrow .char (.int ((xsbyt 3 k &&& 255).toUInt32 % 65536).toInt32) = .int ((xsbyt 3 k &&& 255).toUInt32 % 65536).toInt32) ?_ ?_
    · rw [h1.1]; exact h4
    · show Q (some (.int ((xsbyt 3 k &&& 255).toUInt32 % 65536).toInt32)) (HH M)
      rw [h1.1]; exact q
  | 4, _, hk, q, h1, h4 =>
    refine CW_wp fJ1_charAt_3b067 rfl rfl rfl ?_
    refine c_strCheck k (xslen 4) hk h1.2 ?_
    refine xelse (nin hk h1.2) ?_
    rw [h3]
    refine And.intro (a := narrow .char (.int ((xsbyt 4 k &&& 255).toUInt32 % 65536).toInt32) = .int ((xsbyt 4 k &&& 255).toUInt32 % 65536).toInt32) ?_ ?_
    · rw [h1.1]; exact h4
    · show Q (some (.int ((xsbyt 4 k &&& 255).toUInt32 % 65536).toInt32)) (HH M)
      rw [h1.1]; exact q
  | 5, _, hk, q, h1, h4 =>
    refine CW_wp fJ1_charAt_3b067 rfl rfl rfl ?_
    refine c_strCheck k (xslen 5) hk h1.2 ?_
    refine xelse (nin hk h1.2) ?_
    rw [h3]
    refine And.intro (a := narrow .char (.int ((xsbyt 5 k &&& 255).toUInt32 % 65536).toInt32) = .int ((xsbyt 5 k &&& 255).toUInt32 % 65536).toInt32) ?_ ?_
    · rw [h1.1]; exact h4
    · show Q (some (.int ((xsbyt 5 k &&& 255).toUInt32 % 65536).toInt32)) (HH M)
      rw [h1.1]; exact q
  | 6, _, hk, q, h1, h4 =>
    refine CW_wp fJ1_charAt_3b067 rfl rfl rfl ?_
    refine c_strCheck k (xslen 6) hk h1.2 ?_
    refine xelse (nin hk h1.2) ?_
    rw [h3]
    refine And.intro (a := narrow .char (.int ((xsbyt 6 k &&& 255).toUInt32 % 65536).toInt32) = .int ((xsbyt 6 k &&& 255).toUInt32 % 65536).toInt32) ?_ ?_
    · rw [h1.1]; exact h4
    · show Q (some (.int ((xsbyt 6 k &&& 255).toUInt32 % 65536).toInt32)) (HH M)
      rw [h1.1]; exact q
  | 7, _, hk, q, h1, h4 =>
    refine CW_wp fJ1_charAt_3b067 rfl rfl rfl ?_
    refine c_strCheck k (xslen 7) hk h1.2 ?_
    refine xelse (nin hk h1.2) ?_
    rw [h3]
    refine And.intro (a := narrow .char (.int ((xsbyt 7 k &&& 255).toUInt32 % 65536).toInt32) = .int ((xsbyt 7 k &&& 255).toUInt32 % 65536).toInt32) ?_ ?_
    · rw [h1.1]; exact h4
    · show Q (some (.int ((xsbyt 7 k &&& 255).toUInt32 % 65536).toInt32)) (HH M)
      rw [h1.1]; exact q
  | 8, _, hk, q, h1, h4 =>
    refine CW_wp fJ1_charAt_3b067 rfl rfl rfl ?_
    refine c_strCheck k (xslen 8) hk h1.2 ?_
    refine xelse (nin hk h1.2) ?_
    rw [h3]
    refine And.intro (a := narrow .char (.int ((xsbyt 8 k &&& 255).toUInt32 % 65536).toInt32) = .int ((xsbyt 8 k &&& 255).toUInt32 % 65536).toInt32) ?_ ?_
    · rw [h1.1]; exact h4
    · show Q (some (.int ((xsbyt 8 k &&& 255).toUInt32 % 65536).toInt32)) (HH M)
      rw [h1.1]; exact q
  | 9, _, hk, q, h1, h4 =>
    refine CW_wp fJ1_charAt_3b067 rfl rfl rfl ?_
    refine c_strCheck k (xslen 9) hk h1.2 ?_
    refine xelse (nin hk h1.2) ?_
    rw [h3]
    refine And.intro (a := narrow .char (.int ((xsbyt 9 k &&& 255).toUInt32 % 65536).toInt32) = .int ((xsbyt 9 k &&& 255).toUInt32 % 65536).toInt32) ?_ ?_
    · rw [h1.1]; exact h4
    · show Q (some (.int ((xsbyt 9 k &&& 255).toUInt32 % 65536).toInt32)) (HH M)
      rw [h1.1]; exact q
  | 10, _, hk, q, h1, h4 =>
    refine CW_wp fJ1_charAt_3b067 rfl rfl rfl ?_
    refine c_strCheck k (xslen 10) hk h1.2 ?_
    refine xelse (nin hk h1.2) ?_
    rw [h3]
    refine And.intro (a := narrow .char (.int ((xsbyt 10 k &&& 255).toUInt32 % 65536).toInt32) = .int ((xsbyt 10 k &&& 255).toUInt32 % 65536).toInt32) ?_ ?_
    · rw [h1.1]; exact h4
    · show Q (some (.int ((xsbyt 10 k &&& 255).toUInt32 % 65536).toInt32)) (HH M)
      rw [h1.1]; exact q
  | 11, _, hk, q, h1, h4 =>
    refine CW_wp fJ1_charAt_3b067 rfl rfl rfl ?_
    refine c_strCheck k (xslen 11) hk h1.2 ?_
    refine xelse (nin hk h1.2) ?_
    rw [h3]
    refine And.intro (a := narrow .char (.int ((xsbyt 11 k &&& 255).toUInt32 % 65536).toInt32) = .int ((xsbyt 11 k &&& 255).toUInt32 % 65536).toInt32) ?_ ?_
    · rw [h1.1]; exact h4
    · show Q (some (.int ((xsbyt 11 k &&& 255).toUInt32 % 65536).toInt32)) (HH M)
      rw [h1.1]; exact q
  | 12, _, hk, q, h1, h4 =>
    refine CW_wp fJ1_charAt_3b067 rfl rfl rfl ?_
    refine c_strCheck k (xslen 12) hk h1.2 ?_
    refine xelse (nin hk h1.2) ?_
    rw [h3]
    refine And.intro (a := narrow .char (.int ((xsbyt 12 k &&& 255).toUInt32 % 65536).toInt32) = .int ((xsbyt 12 k &&& 255).toUInt32 % 65536).toInt32) ?_ ?_
    · rw [h1.1]; exact h4
    · show Q (some (.int ((xsbyt 12 k &&& 255).toUInt32 % 65536).toInt32)) (HH M)
      rw [h1.1]; exact q
  | 13, _, hk, q, h1, h4 =>
    refine CW_wp fJ1_charAt_3b067 rfl rfl rfl ?_
    refine c_strCheck k (xslen 13) hk h1.2 ?_
    refine xelse (nin hk h1.2) ?_
    rw [h3]
    refine And.intro (a := narrow .char (.int ((xsbyt 13 k &&& 255).toUInt32 % 65536).toInt32) = .int ((xsbyt 13 k &&& 255).toUInt32 % 65536).toInt32) ?_ ?_
    · rw [h1.1]; exact h4
    · show Q (some (.int ((xsbyt 13 k &&& 255).toUInt32 % 65536).toInt32)) (HH M)
      rw [h1.1]; exact q
  | 14, _, hk, q, h1, h4 =>
    refine CW_wp fJ1_charAt_3b067 rfl rfl rfl ?_
    refine c_strCheck k (xslen 14) hk h1.2 ?_
    refine xelse (nin hk h1.2) ?_
    rw [h3]
    refine And.intro (a := narrow .char (.int ((xsbyt 14 k &&& 255).toUInt32 % 65536).toInt32) = .int ((xsbyt 14 k &&& 255).toUInt32 % 65536).toInt32) ?_ ?_
    · rw [h1.1]; exact h4
    · show Q (some (.int ((xsbyt 14 k &&& 255).toUInt32 % 65536).toInt32)) (HH M)
      rw [h1.1]; exact q
  | i + 15, hi, _, _, _, _ => exact absurd hi (by omega)
theorem c_charAt (i : Nat) (hi : i < 15) (k : Nat) (hk : k < xslen i) (q : Q (some (.int (xsbyt i k))) (HH M)) : CW G (d + 3) jJ0_charAt_5068e [.ref (1100 + i), .int (nI k)] (HH M) Q := by
  have h1 := xsb_ok i hi k hk
  have h4 := pk_nc (xsbyt i k &&& 255)
  rw [h1.1] at h4
  match i, hi, hk, q, h4 with
  | 0, _, hk, q, h4 =>
    refine CW_wp fJ0_charAt_5068e rfl rfl rfl ?_
    refine c_isLatin1 0 (by decide) ?_
    refine c_lat1 0 (by decide) k hk ?_
    exact And.intro h4 q
  | 1, _, hk, q, h4 =>
    refine CW_wp fJ0_charAt_5068e rfl rfl rfl ?_
    refine c_isLatin1 1 (by decide) ?_
    refine c_lat1 1 (by decide) k hk ?_
    exact And.intro h4 q
  | 2, _, hk, q, h4 =>
    refine CW_wp fJ0_charAt_5068e rfl rfl rfl ?_
    refine c_isLatin1 2 (by decide) ?_
    refine c_lat1 2 (by decide) k hk ?_
    exact And.intro h4 q
  | 3, _, hk, q, h4 =>
    refine CW_wp fJ0_charAt_5068e rfl rfl rfl ?_
    refine c_isLatin1 3 (by decide) ?_
    refine c_lat1 3 (by decide) k hk ?_
    exact And.intro h4 q
  | 4, _, hk, q, h4 =>
    refine CW_wp fJ0_charAt_5068e rfl rfl rfl ?_
    refine c_isLatin1 4 (by decide) ?_
    refine c_lat1 4 (by decide) k hk ?_
    exact And.intro h4 q
  | 5, _, hk, q, h4 =>
    refine CW_wp fJ0_charAt_5068e rfl rfl rfl ?_
    refine c_isLatin1 5 (by decide) ?_
    refine c_lat1 5 (by decide) k hk ?_
    exact And.intro h4 q
  | 6, _, hk, q, h4 =>
    refine CW_wp fJ0_charAt_5068e rfl rfl rfl ?_
    refine c_isLatin1 6 (by decide) ?_
    refine c_lat1 6 (by decide) k hk ?_
    exact And.intro h4 q
  | 7, _, hk, q, h4 =>
    refine CW_wp fJ0_charAt_5068e rfl rfl rfl ?_
    refine c_isLatin1 7 (by decide) ?_
    refine c_lat1 7 (by decide) k hk ?_
    exact And.intro h4 q
  | 8, _, hk, q, h4 =>
    refine CW_wp fJ0_charAt_5068e rfl rfl rfl ?_
    refine c_isLatin1 8 (by decide) ?_
    refine c_lat1 8 (by decide) k hk ?_
    exact And.intro h4 q
  | 9, _, hk, q, h4 =>
    refine CW_wp fJ0_charAt_5068e rfl rfl rfl ?_
    refine c_isLatin1 9 (by decide) ?_
    refine c_lat1 9 (by decide) k hk ?_
    exact And.intro h4 q
  | 10, _, hk, q, h4 =>
    refine CW_wp fJ0_charAt_5068e rfl rfl rfl ?_
    refine c_isLatin1 10 (by decide) ?_
    refine c_lat1 10 (by decide) k hk ?_
    exact And.intro h4 q
  | 11, _, hk, q, h4 =>
    refine CW_wp fJ0_charAt_5068e rfl rfl rfl ?_
    refine c_isLatin1 11 (by decide) ?_
    refine c_lat1 11 (by decide) k hk ?_
    exact And.intro h4 q
  | 12, _, hk, q, h4 =>
    refine CW_wp fJ0_charAt_5068e rfl rfl rfl ?_
    refine c_isLatin1 12 (by decide) ?_
    refine c_lat1 12 (by decide) k hk ?_
    exact And.intro h4 q
  | 13, _, hk, q, h4 =>
    refine CW_wp fJ0_charAt_5068e rfl rfl rfl ?_
    refine c_isLatin1 13 (by decide) ?_
    refine c_lat1 13 (by decide) k hk ?_
    exact And.intro h4 q
  | 14, _, hk, q, h4 =>
    refine CW_wp fJ0_charAt_5068e rfl rfl rfl ?_
    refine c_isLatin1 14 (by decide) ?_
    refine c_lat1 14 (by decide) k hk ?_
    exact And.intro h4 q
  | i + 15, hi, _, _, _ => exact absurd hi (by omega)
end ST
end
section
/-! Bits (families of kit/laws/BITS.to-paste, and sets as natural numbers). -/
def bt (x : Int32) (i : Nat) : Bool := x.toBitVec.getLsbD i
theorem b_ext {x y : Int32} (h : ∀ i, i < 32 → bt x i = bt y i) : x = y := Int32.toBitVec_inj.mp (BitVec.eq_of_getLsbD_eq (fun i hi => h i hi))
theorem b_or (x y : Int32) (i : Nat) : bt (x ||| y) i = (bt x i || bt y i) := by unfold bt; rw [Int32.toBitVec_or, BitVec.getLsbD_or]
theorem b_and (x y : Int32) (i : Nat) : bt (x &&& y) i = (bt x i && bt y i) := by unfold bt; rw [Int32.toBitVec_and, BitVec.getLsbD_and]
theorem b_xor (x y : Int32) (i : Nat) : bt (x ^^^ y) i = (bt x i ^^ bt y i) := by unfold bt; rw [Int32.toBitVec_xor, BitVec.getLsbD_xor]
theorem b_big {x : Int32} {i : Nat} (h : 32 ≤ i) : bt x i = false := BitVec.getLsbD_of_ge _ _ h
theorem b_m1 : ∀ i, i < 32 → bt (-1) i = true := by decide +kernel
theorem b_0 (i : Nat) : bt 0 i = false := BitVec.getLsbD_zero
theorem s_l : ∀ n, n < 32 → ((nI n &&& 31).toBitVec.smod 32).toNat = n := by decide +kernel
theorem s_u : ∀ n, n < 32 → (((nI n).toUInt32 &&& Int32.toUInt32 31).toBitVec % 32).toNat = n := by decide +kernel
theorem b_shl (n : Nat) (hn : n < 32) (x : Int32) {i : Nat} (hi : i < 32) : bt (x <<< (nI n &&& 31)) i = (decide (n ≤ i) && bt x (i - n)) := by
  unfold bt
  rw [Int32.toBitVec_shiftLeft]
  show (x.toBitVec <<< ((nI n &&& 31).toBitVec.smod 32).toNat).getLsbD i = _
  rw [s_l n hn, BitVec.getLsbD_shiftLeft]
  rcases Nat.lt_or_ge i n with h | h
  · simp [h, Nat.not_le.mpr h]
  · simp [hi, h, Nat.not_lt.mpr h]
theorem b_sshr (n : Nat) (hn : n < 32) (x : Int32) {i : Nat} (hi : i < 32) : bt (x >>> (nI n &&& 31)) i = if n + i < 32 then bt x (n + i) else bt x 31 := by
  unfold bt
  rw [Int32.toBitVec_shiftRight]
  show (x.toBitVec.sshiftRight ((nI n &&& 31).toBitVec.smod 32).toNat).getLsbD i = _
  rw [s_l n hn, BitVec.getLsbD_sshiftRight, BitVec.msb_eq_getLsbD_last]
  simp [hi]
theorem nx_and (a b : Nat) : nI a &&& nI b = nI (a &&& b) := by
  apply Int32.toBitVec_inj.1
  show BitVec.ofNat 32 a &&& BitVec.ofNat 32 b = BitVec.ofNat 32 (a &&& b)
  apply BitVec.eq_of_getLsbD_eq
  intro i hi
  simp [hi]
theorem nx_xor (a b : Nat) : nI a ^^^ nI b = nI (a ^^^ b) := by
  apply Int32.toBitVec_inj.1
  show BitVec.ofNat 32 a ^^^ BitVec.ofNat 32 b = BitVec.ofNat 32 (a ^^^ b)
  apply BitVec.eq_of_getLsbD_eq
  intro i hi
  simp [hi]
theorem wb_tb (n : Nat) : (lN n).toBitVec = BitVec.ofNat 64 n := rfl
theorem wb_inj {a b : Int64} (h : a.toBitVec = b.toBitVec) : a = b := Int64.toBitVec_inj.mp h
theorem wb_tn {n : Nat} (h : n < 2 ^ 64) : (lN n).toBitVec.toNat = n := by rw [wb_tb, BitVec.toNat_ofNat, Nat.mod_eq_of_lt h]
theorem wb_of (x : Int64) : ∃ n, n < 2 ^ 64 ∧ x = lN n := ⟨x.toBitVec.toNat, x.toBitVec.isLt, wb_inj (by rw [wb_tb]; simp)⟩
theorem wb_of32 (x : Int32) : ∃ n, n < 2 ^ 32 ∧ x = nI n := ⟨x.toBitVec.toNat, x.toBitVec.isLt, Int32.toBitVec_inj.mp (by show _ = BitVec.ofNat 32 _; simp)⟩
theorem wb_c : ∀ k, k < 64 → ((nI k).toInt64 &&& 63) = lN k := by decide +kernel
theorem wb_cu : ∀ k, k < 64 → ((nI k).toInt64.toUInt64 &&& Int64.toUInt64 63) = UInt64.ofNat k := by decide +kernel
theorem wb_sm : ∀ k, k < 64 → (BitVec.ofNat 64 k).smod 64 = BitVec.ofNat 64 k := by decide +kernel
theorem wb_pw {a b : Nat} (h : a ≤ b) : 2 ^ b = 2 ^ a * 2 ^ (b - a) := by rw [← Nat.pow_add]; congr 1; omega
theorem wb_lt2 {a b : Nat} (h : a < b) : 2 ^ a < 2 ^ b := Nat.pow_lt_pow_right (by decide) h
theorem wb_mod (n : Nat) : lN n = lN (n % 2 ^ 64) := wb_inj (by rw [wb_tb, wb_tb]; apply BitVec.eq_of_toNat_eq; rw [BitVec.toNat_ofNat, BitVec.toNat_ofNat, Nat.mod_mod])
theorem wb_shr {n k : Nat} (hn : n < 2 ^ 64) (hk : k < 64) : ((lN n).toUInt64 >>> ((nI k).toInt64.toUInt64 &&& Int64.toUInt64 63)).toInt64 = lN (n / 2 ^ k) := by
  rw [wb_cu k hk]
  apply wb_inj
  apply BitVec.eq_of_toNat_eq
  show ((lN n).toUInt64 >>> UInt64.ofNat k).toNat = (BitVec.ofNat 64 _).toNat
  have h1 : (UInt64.ofNat k).toNat = k := by
    show (BitVec.ofNat 64 k).toNat = k
    rw [BitVec.toNat_ofNat, Nat.mod_eq_of_lt (by omega)]
  have h2 : (lN n).toUInt64.toNat = n := wb_tn hn
  rw [UInt64.toNat_shiftRight, h1, h2, Nat.mod_eq_of_lt hk, Nat.shiftRight_eq_div_pow, BitVec.toNat_ofNat, Nat.mod_eq_of_lt (Nat.lt_of_le_of_lt (Nat.div_le_self _ _) hn)]
theorem wb_shl (n : Nat) {k : Nat} (hk : k < 64) : lN n <<< ((nI k).toInt64 &&& 63) = lN (n * 2 ^ k) := by
  rw [wb_c k hk]
  apply wb_inj
  rw [Int64.toBitVec_shiftLeft, wb_tb, wb_tb, wb_tb, wb_sm k hk]
  apply BitVec.eq_of_toNat_eq
  rw [BitVec.shiftLeft_eq', BitVec.toNat_shiftLeft, BitVec.toNat_ofNat, BitVec.toNat_ofNat, BitVec.toNat_ofNat, Nat.mod_eq_of_lt (show k < 2 ^ 64 by omega), Nat.shiftLeft_eq, Nat.mul_mod, Nat.mod_mod, ← Nat.mul_mod]
theorem wb_and {a b : Nat} (ha : a < 2 ^ 64) (hb : b < 2 ^ 64) : lN a &&& lN b = lN (a &&& b) := by
  apply wb_inj
  rw [Int64.toBitVec_and, wb_tb, wb_tb, wb_tb]
  apply BitVec.eq_of_toNat_eq
  rw [BitVec.toNat_and, BitVec.toNat_ofNat, BitVec.toNat_ofNat, BitVec.toNat_ofNat, Nat.mod_eq_of_lt ha, Nat.mod_eq_of_lt hb, Nat.mod_eq_of_lt (Nat.and_lt_two_pow _ hb)]
theorem wb_or {a b : Nat} (ha : a < 2 ^ 64) (hb : b < 2 ^ 64) : lN a ||| lN b = lN (a ||| b) := by
  apply wb_inj
  rw [Int64.toBitVec_or, wb_tb, wb_tb, wb_tb]
  apply BitVec.eq_of_toNat_eq
  rw [BitVec.toNat_or, BitVec.toNat_ofNat, BitVec.toNat_ofNat, BitVec.toNat_ofNat, Nat.mod_eq_of_lt ha, Nat.mod_eq_of_lt hb, Nat.mod_eq_of_lt (Nat.or_lt_two_pow ha hb)]
theorem wb_mask {n k : Nat} (hn : n < 2 ^ 64) (hk : k < 64) : lN n &&& lN (2 ^ k - 1) = lN (n % 2 ^ k) := by
  rw [wb_and hn (by have := wb_lt2 hk; omega), Nat.and_two_pow_sub_one_eq_mod]
theorem wb_a1 {n : Nat} (hn : n < 2 ^ 64) : lN n &&& 1 = lN (n % 2) := wb_mask (k := 1) hn (by decide)
theorem pf_lI {a : Nat} (h : a < 2 ^ 63) : (lN a).toInt = (a : Int) := lg_ofNat_toInt h
theorem pf_shr {a d : Nat} {D : Int64} (hD : (D.toBitVec.smod 64).toNat = d) (h : a < 2 ^ 62) : lN a >>> D = lN (a / 2 ^ d) := by
  have hd : a / 2 ^ d ≤ a := Nat.div_le_self _ _
  apply Int64.toInt_inj.mp
  have e : (lN a >>> D).toInt = (lN a).toInt >>> d := by
    rw [← hD]
    exact BitVec.toInt_sshiftRight ..
  rw [e, Int.shiftRight_eq_div_pow, pf_lI (by omega), pf_lI (by omega)]
  rfl
/-! Branches on numbers known as natural ones. -/
theorem xlt {x y : Int32} {A B : Prop} (a b : Nat) (hx : x = nI a) (hy : y = nI b) (ha : a < 2 ^ 31) (hb : b < 2 ^ 31) (h1 : a < b → A) (h2 : b ≤ a → B) : if x < y then A else B := by
  subst hx hy
  exact xite (fun c => h1 (by rw [nI_ltI ha hb] at c; exact c)) (fun c => h2 (by rw [nI_ltI ha hb] at c; omega))
theorem xle {x y : Int32} {A B : Prop} (a b : Nat) (hx : x = nI a) (hy : y = nI b) (ha : a < 2 ^ 31) (hb : b < 2 ^ 31) (h1 : a ≤ b → A) (h2 : b < a → B) : if x ≤ y then A else B := by
  subst hx hy
  exact xite (fun c => h1 (by rw [nI_leI ha hb] at c; exact c)) (fun c => h2 (by rw [nI_leI ha hb] at c; omega))
theorem xeq {x y : Int32} {A B : Prop} (a b : Nat) (hx : x = nI a) (hy : y = nI b) (ha : a < 2 ^ 31) (hb : b < 2 ^ 31) (h1 : a = b → A) (h2 : a ≠ b → B) : if x = y then A else B := by
  subst hx hy
  exact xite (fun c => h1 (by rw [nI_eq ha hb] at c; exact c)) (fun c => h2 (by rw [nI_eq ha hb] at c; exact c))
theorem xix {i : Int32} {n : Nat} {B : Prop} (k : Nat) (hi : i = nI k) (hk : k < n) (hn : n < 2 ^ 31) (h : i.toNatClampNeg = k → B) : if i < 0 ∨ n ≤ i.toNatClampNeg then False else B := by
  subst hi
  exact xelse (nin hk hn) (h (nI_clamp (by omega)))
theorem ia {x y : Int32} {a b : Nat} (hx : x = nI a) (hy : y = nI b) : x + y = nI (a + b) := by subst hx hy; exact nI_add a b
theorem im {x y : Int32} {a b : Nat} (hx : x = nI a) (hy : y = nI b) : x * y = nI (a * b) := by subst hx hy; exact pk_mul a b
theorem isb {x y : Int32} {a b : Nat} (hx : x = nI a) (hy : y = nI b) (h : b ≤ a) : x - y = nI (a - b) := by subst hx hy; exact pk_sub h
theorem idv {x y : Int32} {a b : Nat} (hx : x = nI a) (hy : y = nI b) (ha : a < 2 ^ 31) (h0 : 0 < b) (hb : b < 2 ^ 31) : x / y = nI (a / b) := by subst hx hy; exact pk_div ha h0 hb
theorem irm {x y : Int32} {a b : Nat} (hx : x = nI a) (hy : y = nI b) (ha : a < 2 ^ 31) (h0 : 0 < b) (hb : b < 2 ^ 31) : x - x / y * y = nI (a % b) := by subst hx hy; exact pk_rem ha h0 hb
/-- a loop upwards: from its end back to its start -/
theorem dn {E : Nat → Prop} {a n : Nat} (h : a ≤ n) (h0 : E n) (hs : ∀ i, a ≤ i → i < n → E (i + 1) → E i) : E a := by
  have : ∀ k i, i + k = n → a ≤ i → E i := by
    intro k
    induction k with
    | zero => intro i hi _; rw [show i = n by omega]; exact h0
    | succ k ih => intro i hi ha; exact hs i ha (by omega) (ih (i + 1) (by omega) (by omega))
  exact this (n - a) a (by omega) (Nat.le_refl _)
/-! Sets as natural numbers. -/
def bts (P : Nat → Bool) : Nat → Nat
  | 0 => 0
  | n + 1 => bts P n ||| (if P n = true then 2 ^ n else 0)
theorem tb_p (k i : Nat) : (2 ^ k).testBit i = decide (k = i) := Nat.testBit_two_pow
theorem tb_bts (P : Nat → Bool) : ∀ n i, (bts P n).testBit i = (decide (i < n) && P i)
  | 0, i => by simp [bts]
  | n + 1, i => by
    rw [bts, Nat.testBit_or, tb_bts P n i]
    by_cases h : P n = true
    · rw [if_pos h, tb_p]
      by_cases h2 : n = i
      · subst h2; simp [h]
      · by_cases h3 : i < n
        · simp [h2, h3, show i < n + 1 by omega]
        · simp [h2, h3, show ¬ i < n + 1 by omega]
    · rw [if_neg h]
      by_cases h2 : n = i
      · subst h2; simp [h]
      · by_cases h3 : i < n
        · simp [h3, show i < n + 1 by omega]
        · simp [h3, show ¬ i < n + 1 by omega]
theorem bts_lt (P : Nat → Bool) (n : Nat) : bts P n < 2 ^ n := by
  apply Nat.lt_pow_two_of_testBit
  intro i hi
  rw [tb_bts]
  simp [show ¬ i < n by omega]
theorem bts_eq {P : Nat → Bool} {n a : Nat} (h : ∀ i, a.testBit i = (decide (i < n) && P i)) : a = bts P n := Nat.eq_of_testBit_eq (fun i => by rw [h, tb_bts])
theorem bts_congr {P P' : Nat → Bool} {n : Nat} (h : ∀ i, i < n → P i = P' i) : bts P n = bts P' n := bts_eq (fun i => by
  rw [tb_bts]
  by_cases hi : i < n
  · rw [h i hi]
  · simp [hi])
theorem bt_nI {m i : Nat} (hi : i < 32) : bt (nI m) i = m.testBit i := by
  show (BitVec.ofNat 32 m).getLsbD i = m.testBit i
  rw [BitVec.getLsbD_ofNat, decide_eq_true hi, Bool.true_and]
theorem eq_nI {x : Int32} {c : Nat} (h : ∀ i, i < 32 → bt x i = c.testBit i) : x = nI c := b_ext (fun i hi => by rw [h i hi, bt_nI hi])
theorem nx_or (a b : Nat) : nI a ||| nI b = nI (a ||| b) := eq_nI (fun i hi => by rw [b_or, bt_nI hi, bt_nI hi, Nat.testBit_or])
theorem nx_shl (k : Nat) (hk : k < 31) : (1 : Int32) <<< (nI k &&& 31) = nI (2 ^ k) := by
  have h := pk_shlN (n := 1) (nI k &&& 31) k (s_l k (by omega)) (by have := wb_lt2 (show k < 32 by omega); omega)
  rw [Nat.one_mul] at h
  exact h
theorem io {x y : Int32} {a b : Nat} (hx : x = nI a) (hy : y = nI b) : x ||| y = nI (a ||| b) := by subst hx hy; exact nx_or a b
theorem ish {x : Int32} {k : Nat} (hx : x = nI k) (hk : k < 31) : (1 : Int32) <<< (x &&& 31) = nI (2 ^ k) := by subst hx; exact nx_shl k hk
theorem nx_andn {a b n : Nat} (hn : n ≤ 31) (P : Nat → Bool) (h : ∀ i, i < 32 → (a.testBit i && !b.testBit i) = (decide (i < n) && P i)) : nI a &&& (nI b ^^^ (-1)) = nI (bts P n) := eq_nI (fun i hi => by
  rw [b_and, b_xor, bt_nI hi, bt_nI hi, b_m1 i hi, tb_bts, ← h i hi, Bool.xor_true])
theorem tb_div (m i : Nat) : (m / 2 ^ i % 2 = 1) ↔ m.testBit i = true := by rw [Nat.testBit_eq_decide_div_mod_eq]; simp
theorem lg_cmp1 {b : Nat} (hb : b < 2) : (lg_cmp (lN b) 1 = 0) ↔ b = 1 := by
  match b, hb with
  | 0, _ => decide +kernel
  | 1, _ => decide +kernel
  | b + 2, h => omega
section BI
variable {G : xG} {d : Nat} {h : xH} {Q : Option Value → xH → Prop}
theorem c_isIn {y : Int64} {x : Int32} (m i : Nat) (hy : y = lN m) (hm : m < 2 ^ 62) (hx : x = nI i) (hi : i < 62) (q1 : m.testBit i = true → Q (some (.int 1)) h) (q0 : m.testBit i = false → Q (some (.int 0)) h) : CW G d jX8_isIn [.long y, .int x] h Q := by
  subst hy hx
  refine CW_wp fX8_isIn rfl rfl rfl ?_
  have e : lN m >>> ((nI i).toInt64 &&& 63) &&& 1 = lN (m / 2 ^ i % 2) := by
    rw [pf_shr (d := i) (by rw [wb_c i (by omega), wb_tb, wb_sm i (by omega), BitVec.toNat_ofNat, Nat.mod_eq_of_lt (by omega)]) hm, wb_a1 (Nat.lt_of_le_of_lt (Nat.div_le_self _ _) (by omega))]
  have e2 : (lg_cmp (lN m >>> ((nI i).toInt64 &&& 63) &&& 1) 1 = 0) ↔ m.testBit i = true := by
    rw [e, lg_cmp1 (Nat.mod_lt _ (by decide)), tb_div]
  refine xite (fun c => q1 (e2.mp c)) (fun c => q0 ?_)
  cases hb : m.testBit i with
  | false => rfl
  | true => exact absurd (e2.mpr hb) c
theorem m_has {y x : Int32} (m i : Nat) (hy : y = nI m) (hm : m < 2 ^ 31) (hx : x = nI i) (hi : i < 31) (q1 : m.testBit i = true → Q (some (.int 1)) h) (q0 : m.testBit i = false → Q (some (.int 0)) h) : CW G d jX9_has [.int y, .int x] h Q := by
  subst hy hx
  refine CW_wp fX9_has rfl rfl rfl ?_
  have e : nI m >>> (nI i &&& 31) &&& 1 = nI (m / 2 ^ i % 2) := by
    rw [pk_shrN hm (nI i &&& 31) i (s_l i (by omega)), pk_andN (Nat.lt_of_le_of_lt (Nat.div_le_self _ _) (by omega)) 1 (by decide)]
  refine xeq (m / 2 ^ i % 2) 1 e rfl (by omega) (by decide) (fun c => q1 ((tb_div m i).mp c)) (fun c => q0 ?_)
  cases hb : m.testBit i with
  | false => rfl
  | true => exact absurd ((tb_div m i).mpr hb) c
end BI
end
section
/-! THE STATE: the model's row N of 598 ints is the mathematical state; what it says, in natural numbers. -/
def vN (N : Nat → Int32) (j : Nat) : Nat := (N j).toNatClampNeg
def sF (N : Nat → Int32) (s f : Nat) : Nat := vN N (204 + 6 * s + f)
/-- how many SAYINGS -/
def sN (N : Nat → Int32) : Nat := vN N 1
def Wf (N : Nat → Int32) : Prop :=
  (N 0 = nI (vN N 0) ∧ vN N 0 < 100) ∧ (N 1 = nI (sN N) ∧ sN N ≤ 40) ∧ (N 2 = nI (vN N 2) ∧ 1 ≤ vN N 2 ∧ vN N 2 ≤ 20) ∧
  (∀ j, j < 100 → N (4 + j) = nI (vN N (4 + j)) ∧ vN N (4 + j) ≤ 1) ∧
  (∀ a b, a < 10 → b < 10 → N (104 + 10 * a + b) = nI (vN N (104 + 10 * a + b)) ∧ vN N (104 + 10 * a + b) ≤ 1 ∧ vN N (104 + 10 * a + b) = vN N (104 + 10 * b + a)) ∧ (∀ a, a < 10 → vN N (104 + 10 * a + a) = 0) ∧
  (∀ s, s < sN N → ∀ f, f < 6 → N (204 + 6 * s + f) = nI (sF N s f)) ∧
  (∀ s, s < sN N → sF N s 0 < 7 ∧ sF N s 1 < 16 ∧ 1 ≤ sF N s 2 ∧ sF N s 2 ≤ 9 ∧ sF N s 3 < 10 ∧ sF N s 4 < 24 ∧ sF N s 5 ≤ vN N 0) ∧ (∀ s t, s ≤ t → t < sN N → sF N s 5 ≤ sF N t 5) ∧
  (∀ q, q < 144 → N (444 + q) = -1 ∨ ∃ p, p < 10 ∧ N (444 + q) = nI p) ∧ (∀ j, j < 10 → N (588 + j) = -1 ∨ ∃ s, s < sN N ∧ N (588 + j) = nI s)
/-- there is a WAY -/
def wy (N : Nat → Int32) (p q : Nat) : Bool := decide (vN N (104 + 10 * p + q) = 1)
/-- a Valley of the class, its cells from b on, holds the state N -/
def PV (b : Nat) (N : Nat → Int32) (M : xM) : Prop :=
  M b 5 = N 0 ∧ M (b + 3) 0 = N 1 ∧ M b 6 = N 2 ∧ M b 7 = N 3 ∧ (∀ j, j < 100 → M (b + 12) j = N (4 + j)) ∧ (∀ p, p < 10 → M (b + 2) p = nI (bts (wy N p) 10)) ∧
  (∀ s, s < sN N → ∀ f, f < 6 → M (b + 4 + f) s = N (204 + 6 * s + f)) ∧ (∀ q, q < 144 → M (b + 11) q = N (444 + q)) ∧ (∀ j, j < 10 → M (b + 13) j = N (588 + j))
/-- RAIN on k DAYS from a on -/
def rs (N : Nat → Int32) (a : Nat) : Nat → Nat
  | 0 => 0
  | k + 1 => rs N a k + vN N (4 + (a + k))
def ageS (N : Nat → Int32) (s D : Nat) : Nat := (D - sF N s 5) + rs N (sF N s 5 + 1) (D - sF N s 5)
def lastK (k keep : Nat) : Nat := if k = 1 ∨ k = 4 then 2 * keep else if k = 5 then keep + 5 else if k = 6 then max 1 (keep - 3) else keep
def reachK (k loud : Nat) : Nat := if k = 2 ∨ k = 6 then 0 else if k = 4 then loud / 3 + 2 else loud / 3
/-- b is said OVER a (told behind it) -/
def ovS (N : Nat → Int32) (a b : Nat) : Bool := decide (sF N a 3 = sF N b 3) && decide (sF N a 4 = sF N b 4) && (decide (sF N b 0 = 3) || decide (sF N b 0 = 5) || (decide (sF N b 0 ≠ 2) && decide (sF N b 0 ≠ 6) && decide (sF N a 2 ≤ sF N b 2))) && (decide (sF N a 0 ≠ 5) || decide (sF N b 0 = 5))
/-- the first one from i on, of k, that is so -/
def ff (P : Nat → Bool) : Nat → Nat → Option Nat
  | 0, _ => none
  | k + 1, i => if P i = true then some i else ff P k (i + 1)
/-- the first SAYING that is said OVER s -/
def foS (N : Nat → Int32) (s : Nat) : Option Nat := ff (ovS N s) (sN N - (s + 1)) (s + 1)
def hdS (N : Nat → Int32) (s D : Nat) : Bool := decide (sF N s 5 < D) && decide (D < 100) && decide (ageS N s D ≤ lastK (sF N s 0) (vN N 2)) && (match foS N s with
  | none => true
  | some b => decide (D < sF N b 5))
section CV
variable {G : xG} {d : Nat} {M : xM} {N : Nat → Int32} {Q : Option Value → xH → Prop}
theorem PV.rain {b : Nat} (hp : PV b N M) (hw : Wf N) {j : Nat} (hj : j < 100) : M (b + 12) j = nI (vN N (4 + j)) := by
  rw [hp.2.2.2.2.1 j hj]; exact (hw.2.2.2.1 j hj).1
theorem PV.say {b : Nat} (hp : PV b N M) (hw : Wf N) {s f : Nat} (hs : s < sN N) (hf : f < 6) : M (b + 4 + f) s = nI (sF N s f) := by
  rw [hp.2.2.2.2.2.2.1 s hs f hf]; exact hw.2.2.2.2.2.2.1 s hs f hf
theorem l_rainy (hp : PV 1 N M) (hw : Wf N) (e a : Nat) (he : e < 100) (q : ∀ r, r = nI (rs N a (e + 1 - a)) → Q (some (.int r)) (HH M)) :
    ∀ (k i : Nat) (x r : Int32), i + k = e + 1 → a ≤ i → x = nI i → r = nI (rs N a (i - a)) → Ev G d jX5_rainyDays 5 [some (.ref 1), none, some (.int (nI e)), some (.int r), some (.int x)] [] (HH M) 0 0 Q := by
  intro k
  induction k with
  | zero =>
    intro i x r hi ha hx hr
    subst hx
    refine Ev_wp fX5_rainyDays rfl ?_
    refine xif (nI_lt (by omega) (by omega)) ?_
    exact q r (by rw [hr, show i = e + 1 by omega])
  | succ k ih =>
    intro i x r hi ha hx hr
    subst hx
    refine Ev_wp fX5_rainyDays rfl ?_
    refine xelse (nI_nlt (by omega) (by omega)) ?_
    refine xelse (nin (by omega) (by decide)) ?_
    rw [nI_clamp (by omega), show M 13 i = nI (vN N (4 + i)) from hp.rain hw (show i < 100 by omega)]
    refine ih (i + 1) _ _ (by omega) (by omega) (nI_succ i).symm ?_
    rw [hr, nI_add, show i + 1 - a = (i - a) + 1 by omega]
    show _ = nI (rs N a (i - a) + vN N (4 + (a + (i - a))))
    rw [show a + (i - a) = i by omega]
theorem c_rainy (hp : PV 1 N M) (hw : Wf N) {x y : Int32} (a e : Nat) (hx : x = nI a) (hy : y = nI e) (he : e < 100) (ha : a ≤ e + 1) (q : ∀ r, r = nI (rs N a (e + 1 - a)) → Q (some (.int r)) (HH M)) : CW G d jX5_rainyDays [.ref 1, .int x, .int y] (HH M) Q := by
  subst hx hy
  refine CW_wp fX5_rainyDays rfl rfl rfl ?_
  exact l_rainy hp hw e a he q (e + 1 - a) a _ _ (by omega) (Nat.le_refl _) rfl (by rw [Nat.sub_self]; rfl)
theorem c_ageOf (hp : PV 1 N M) (hw : Wf N) {x y : Int32} (a e : Nat) (hx : x = nI a) (hy : y = nI e) (he : e < 100) (ha : a ≤ e) (q : ∀ r, r = nI (e - a + rs N (a + 1) (e - a)) → Q (some (.int r)) (HH M)) : CW G (d + 1) jX5_ageOf [.ref 1, .int x, .int y] (HH M) Q := by
  subst hx hy
  refine CW_wp fX5_ageOf rfl rfl rfl ?_
  refine c_rainy hp hw (a + 1) e (nI_succ a).symm rfl he (by omega) (fun r hr => ?_)
  refine q _ ?_
  rw [hr, ← nI_add, ← pk_sub ha, show e + 1 - (a + 1) = e - a by omega]
theorem c_lasting (h : xH) {x y : Int32} (k kp : Nat) (hk : k < 7) (hkp : 1 ≤ kp ∧ kp ≤ 20) (hx : x = nI k) (hy : y = nI kp) (q : ∀ r, r = nI (lastK k kp) → Q (some (.int r)) h) : CW G d jX0_lasting [.int x, .int y] h Q := by
  subst hx hy
  match k, hk, q with
  | 0, _, q => exact CW_wp fX0_lasting rfl rfl rfl (q _ rfl)
  | 1, _, q => exact CW_wp fX0_lasting rfl rfl rfl (q _ (pk_mul 2 kp))
  | 2, _, q => exact CW_wp fX0_lasting rfl rfl rfl (q _ rfl)
  | 3, _, q => exact CW_wp fX0_lasting rfl rfl rfl (q _ rfl)
  | 4, _, q => exact CW_wp fX0_lasting rfl rfl rfl (q _ (pk_mul 2 kp))
  | 5, _, q => exact CW_wp fX0_lasting rfl rfl rfl (q _ (nI_add kp 5))
  | 6, _, q =>
    refine CW_wp fX0_lasting rfl rfl rfl (q _ ?_)
    have h1 : ∀ kp, 1 ≤ kp ∧ kp ≤ 20 → (if (1 : Int32) < nI kp - 3 then nI kp - 3 else 1) = nI (lastK 6 kp) := by
      intro kp ⟨h1, h2⟩
      match kp, h1, h2 with
      | 1, _, _ => decide +kernel
      | 2, _, _ => decide +kernel
      | 3, _, _ => decide +kernel
      | n + 4, _, h2 =>
        rw [show (3 : Int32) = nI 3 from rfl, pk_sub (by omega), show (1 : Int32) = nI 1 from rfl]
        rw [show lastK 6 (n + 4) = n + 1 by
          show max 1 (n + 4 - 3) = n + 1
          omega, show n + 4 - 3 = n + 1 by omega]
        by_cases h : nI 1 < nI (n + 1)
        · rw [if_pos h]
        · rw [if_neg h]
          rw [nI_ltI (by omega) (by omega)] at h
          rw [show n = 0 by omega]
    exact h1 kp hkp
  | k + 7, hk, _ => exact absurd hk (by omega)
theorem c_reachK (h : xH) {x y : Int32} (k l : Nat) (hk : k < 7) (hl : l ≤ 9) (hx : x = nI k) (hy : y = nI l) (q : ∀ r, r = nI (reachK k l) → Q (some (.int r)) h) : CW G d jX0_reachOf [.int x, .int y] h Q := by
  subst hx hy
  have e : nI l / 3 = nI (l / 3) := by rw [show (3 : Int32) = nI 3 from rfl, pk_div (by omega) (by omega) (by omega)]
  match k, hk, q with
  | 0, _, q => exact CW_wp fX0_reachOf rfl rfl rfl (q _ e)
  | 1, _, q => exact CW_wp fX0_reachOf rfl rfl rfl (q _ e)
  | 2, _, q => exact CW_wp fX0_reachOf rfl rfl rfl (q _ rfl)
  | 3, _, q => exact CW_wp fX0_reachOf rfl rfl rfl (q _ e)
  | 4, _, q => exact CW_wp fX0_reachOf rfl rfl rfl (q _ (by rw [e]; exact nI_add (l / 3) 2))
  | 5, _, q => exact CW_wp fX0_reachOf rfl rfl rfl (q _ e)
  | 6, _, q => exact CW_wp fX0_reachOf rfl rfl rfl (q _ rfl)
  | k + 7, hk, _ => exact absurd hk (by omega)
end CV
end
section
/-! What is HEARD: the class's side. -/
def drownK (k l dl : Nat) : Bool := decide (k = 3) || decide (k = 5) || (decide (k ≠ 2) && decide (k ≠ 6) && decide (dl ≤ l))
def yieldK (k dk : Nat) : Bool := decide (k ≠ 5) || decide (dk = 5)
theorem ovS_eq (N : Nat → Int32) (a b : Nat) : ovS N a b = (decide (sF N a 3 = sF N b 3) && decide (sF N a 4 = sF N b 4) && drownK (sF N b 0) (sF N b 2) (sF N a 2) && yieldK (sF N a 0) (sF N b 0)) := rfl
section CH
variable {G : xG} {d : Nat} {M : xM} {N : Nat → Int32} {Q : Option Value → xH → Prop}
theorem c_isKind (x : Int32) (q1 : ∀ p : Nat, p < 7 → x = nI p → Q (some (.int 1)) (HH M)) (q0 : (∀ p : Nat, p < 7 → x ≠ nI p) → Q (some (.int 0)) (HH M)) : CW G d jX0_isKind [.int x] (HH M) Q := by
  refine CW_wp fX0_isKind rfl rfl rfl ?_
  rcases n_ix x 7 (by decide) with ⟨p, hp, rfl⟩ | ⟨hx, hn⟩
  · refine xelse (nI_pos (by omega)) ?_
    refine xelse (nI_ge hp (by decide)) ?_
    exact q1 p hp rfl
  · refine xite (fun c => q0 hn) (fun c => ?_)
    exact xif (hx.resolve_left c) (q0 hn)
theorem c_canDrown (h : xH) {x y z : Int32} (k l dl : Nat) (hk : k < 7) (hl : l ≤ 9) (hdl : dl ≤ 9) (hx : x = nI k) (hy : y = nI l) (hz : z = nI dl) (q1 : drownK k l dl = true → Q (some (.int 1)) h) (q0 : drownK k l dl = false → Q (some (.int 0)) h) : CW G d jX0_canDrown [.int x, .int y, .int z] h Q := by
  subst hx hy hz
  have cmp : ∀ P1 P0 : Prop, (dl ≤ l → P1) → (¬ dl ≤ l → P0) → if nI l < nI dl then P0 else P1 := fun P1 P0 h1 h0 => xite (fun c => h0 (by rw [nI_ltI (by omega) (by omega)] at c; omega)) (fun c => h1 (by rw [nI_ltI (by omega) (by omega)] at c; omega))
  match k, hk, q1, q0 with
  | 0, _, q1, q0 => exact CW_wp fX0_canDrown rfl rfl rfl (cmp _ _ (fun c => q1 (by simp [drownK, c])) (fun c => q0 (by simp [drownK, c])))
  | 1, _, q1, q0 => exact CW_wp fX0_canDrown rfl rfl rfl (cmp _ _ (fun c => q1 (by simp [drownK, c])) (fun c => q0 (by simp [drownK, c])))
  | 2, _, q1, q0 => exact CW_wp fX0_canDrown rfl rfl rfl (q0 (by simp [drownK]))
  | 3, _, q1, q0 => exact CW_wp fX0_canDrown rfl rfl rfl (q1 (by simp [drownK]))
  | 4, _, q1, q0 => exact CW_wp fX0_canDrown rfl rfl rfl (cmp _ _ (fun c => q1 (by simp [drownK, c])) (fun c => q0 (by simp [drownK, c])))
  | 5, _, q1, q0 => exact CW_wp fX0_canDrown rfl rfl rfl (q1 (by simp [drownK]))
  | 6, _, q1, q0 => exact CW_wp fX0_canDrown rfl rfl rfl (q0 (by simp [drownK]))
  | k + 7, hk, _, _ => exact absurd hk (by omega)
theorem c_canYield (h : xH) {x y : Int32} (k dk : Nat) (hk : k < 7) (hdk : dk < 7) (hx : x = nI k) (hy : y = nI dk) (q1 : yieldK k dk = true → Q (some (.int 1)) h) (q0 : yieldK k dk = false → Q (some (.int 0)) h) : CW G d jX0_canYield [.int x, .int y] h Q := by
  subst hx hy
  refine CW_wp fX0_canYield rfl rfl rfl ?_
  refine xite (fun c => ?_) (fun c => ?_)
  · rw [show (5 : Int32) = nI 5 from rfl, nI_eq (by omega) (by omega)] at c
    refine xite (fun c2 => ?_) (fun c2 => ?_)
    · rw [show (5 : Int32) = nI 5 from rfl, nI_eq (by omega) (by omega)] at c2
      exact q1 (by simp [yieldK, c2])
    · rw [show (5 : Int32) = nI 5 from rfl, nI_eq (by omega) (by omega)] at c2
      exact q0 (by simp [yieldK, c, c2])
  · rw [show (5 : Int32) = nI 5 from rfl, nI_eq (by omega) (by omega)] at c
    exact q1 (by simp [yieldK, c])
theorem b1 {r : Int32} (h : r = 1) : ¬ r = 0 := by rw [h]; decide
theorem c_canDrownB (h : xH) {x y z : Int32} (k l dl : Nat) (hk : k < 7) (hl : l ≤ 9) (hdl : dl ≤ 9) (hx : x = nI k) (hy : y = nI l) (hz : z = nI dl) (q1 : drownK k l dl = true → ∀ r, r = 1 → Q (some (.int r)) h) (q0 : drownK k l dl = false → ∀ r, r = 0 → Q (some (.int r)) h) : CW G d jX0_canDrown [.int x, .int y, .int z] h Q := c_canDrown h k l dl hk hl hdl hx hy hz (fun e => q1 e 1 rfl) (fun e => q0 e 0 rfl)
theorem c_isOver (hp : PV 1 N M) (hw : Wf N) {x y : Int32} (b a : Nat) (hb : b < sN N) (ha : a < sN N) (hx : x = nI b) (hy : y = nI a) (q1 : ovS N a b = true → Q (some (.int 1)) (HH M)) (q0 : ovS N a b = false → Q (some (.int 0)) (HH M)) : CW G (d + 1) jX3_isOver [.ref 4, .int x, .int y] (HH M) Q := by
  subst hx hy
  have hn := hw.2.1.2
  have wa := hw.2.2.2.2.2.2.2.1 a ha
  have wb := hw.2.2.2.2.2.2.2.1 b hb
  have ra : ∀ f, f < 6 → M (5 + f) a = nI (sF N a f) := fun f hf => hp.say hw ha hf
  have rb : ∀ f, f < 6 → M (5 + f) b = nI (sF N b f) := fun f hf => hp.say hw hb hf
  refine CW_wp fX3_isOver rfl rfl rfl ?_
  refine xelse (nin (n := 40) (by omega) (by decide)) ?_
  refine xelse (nin (n := 40) (by omega) (by decide)) ?_
  rw [nI_clamp (by omega), nI_clamp (by omega), show M 8 b = _ from rb 3 (by decide), show M 8 a = _ from ra 3 (by decide)]
  refine xite (fun c => ?_) (fun c => q0 ?_)
  · rw [nI_eq (by omega) (by omega)] at c
    refine xelse (nin (n := 40) (by omega) (by decide)) ?_
    refine xelse (nin (n := 40) (by omega) (by decide)) ?_
    rw [nI_clamp (by omega), nI_clamp (by omega), show M 9 b = _ from rb 4 (by decide), show M 9 a = _ from ra 4 (by decide)]
    refine xite (fun c2 => ?_) (fun c2 => q0 ?_)
    · rw [nI_eq (by omega) (by omega)] at c2
      refine xelse (nin (n := 40) (by omega) (by decide)) ?_
      refine xelse (nin (n := 40) (by omega) (by decide)) ?_
      refine xelse (nin (n := 40) (by omega) (by decide)) ?_
      rw [nI_clamp (by omega), nI_clamp (by omega)]
      refine c_canDrownB (HH M) (sF N b 0) (sF N b 2) (sF N a 2) wb.1 wb.2.2.2.1 wa.2.2.2.1 (rb 0 (by decide)) (rb 2 (by decide)) (ra 2 (by decide)) (fun e3 r3 h3 => ?_) (fun e3 r3 h3 => xif h3 (q0 (by rw [ovS_eq, e3]; simp)))
      refine xelse (b1 h3) ?_
      refine xelse (nin (n := 40) (by omega) (by decide)) ?_
      refine xelse (nin (n := 40) (by omega) (by decide)) ?_
      rw [nI_clamp (by omega), nI_clamp (by omega)]
      refine c_canYield (HH M) (sF N a 0) (sF N b 0) wa.1 wb.1 (ra 0 (by decide)) (rb 0 (by decide)) (fun e4 => ?_) (fun e4 => q0 (by rw [ovS_eq, e4]; simp))
      exact q1 (by rw [ovS_eq, e3, e4, c, c2]; simp)
    · rw [nI_eq (by omega) (by omega)] at c2
      rw [ovS_eq]
      simp [Ne.symm c2]
  · rw [nI_eq (by omega) (by omega)] at c
    rw [ovS_eq]
    simp [Ne.symm c]
end CH
end
section
/-! What is HEARD, the class's side: places within reach; SAYINGS heard. -/
/-! Ahead of a branch: tests of written numbers that stand between (the kernel wants them said). -/
theorem xl1 {l : Prop} [Decidable l] (hl : ¬ l) {c : Prop} [Decidable c] {A B : Prop} (h : if c then A else B) : if l then False else (if c then A else B) := xelse hl h
theorem xl2 {l : Prop} [Decidable l] (hl : ¬ l) {c : Prop} [Decidable c] {A B : Prop} (h : if c then A else B) : if l then False else (if l then False else (if c then A else B)) := xelse hl (xelse hl h)
theorem xr1 {l : Prop} [Decidable l] (hl : l) {c : Prop} [Decidable c] {A B : Prop} (h : if c then A else B) : if l then (if c then A else B) else False := xif hl h
def anyN (P : Nat → Bool) : Nat → Bool
  | 0 => false
  | n + 1 => anyN P n || P n
theorem anyN_iff (P : Nat → Bool) : ∀ n, anyN P n = true ↔ ∃ i, i < n ∧ P i = true
  | 0 => by simp [anyN]
  | n + 1 => by
    rw [anyN, Bool.or_eq_true, anyN_iff P n]
    constructor
    · rintro (⟨i, hi, h⟩ | h)
      · exact ⟨i, by omega, h⟩
      · exact ⟨n, by omega, h⟩
    · rintro ⟨i, hi, h⟩
      by_cases e : i = n
      · subst e; exact Or.inr h
      · exact Or.inl ⟨i, by omega, h⟩
theorem ff_step (P : Nat → Bool) {n i : Nat} (h : i < n) : ff P (n - i) i = if P i = true then some i else ff P (n - (i + 1)) (i + 1) := by
  rw [show n - i = (n - (i + 1)) + 1 by omega]; rfl
theorem ff_end (P : Nat → Bool) {n i : Nat} (h : n ≤ i) : ff P (n - i) i = none := by
  rw [show n - i = 0 by omega]; rfl
theorem ff_some {P : Nat → Bool} : ∀ {k i j : Nat}, ff P k i = some j → i ≤ j ∧ j < i + k ∧ P j = true ∧ ∀ t, i ≤ t → t < j → P t = false
  | 0, i, j, h => by cases h
  | k + 1, i, j, h => by
    rw [ff] at h
    by_cases c : P i = true
    · rw [if_pos c] at h
      cases h
      exact ⟨Nat.le_refl _, by omega, c, fun t h1 h2 => by omega⟩
    · rw [if_neg c] at h
      obtain ⟨h1, h2, h3, h4⟩ := ff_some h
      refine ⟨by omega, by omega, h3, fun t ht1 ht2 => ?_⟩
      by_cases e : t = i
      · subst e; simpa using c
      · exact h4 t (by omega) ht2
theorem ff_none {P : Nat → Bool} : ∀ {k i : Nat}, ff P k i = none → ∀ t, i ≤ t → t < i + k → P t = false
  | 0, i, h, t, h1, h2 => by omega
  | k + 1, i, h, t, h1, h2 => by
    rw [ff] at h
    by_cases c : P i = true
    · rw [if_pos c] at h; cases h
    · rw [if_neg c] at h
      by_cases e : t = i
      · subst e; simpa using c
      · exact ff_none h t (by omega) (by omega)
theorem bts_or (P P' : Nat → Bool) (n : Nat) : bts P n ||| bts P' n = bts (fun i => P i || P' i) n := bts_eq (fun i => by
  rw [Nat.testBit_or, tb_bts, tb_bts]
  cases decide (i < n) <;> simp)
theorem bts_one (a n : Nat) (h : a < n) : 2 ^ a = bts (fun q => decide (a = q)) n := bts_eq (fun i => by
  rw [tb_p]
  by_cases e : a = i
  · subst e; simp [h]
  · simp [e])
theorem bts31 (P : Nat → Bool) {n : Nat} (hn : n ≤ 30) : bts P n < 2 ^ 31 := Nat.lt_of_lt_of_le (bts_lt P n) (Nat.le_of_lt (wb_lt2 (show n < 31 by omega)))
theorem bts62 (P : Nat → Bool) {n : Nat} (hn : n ≤ 61) : bts P n < 2 ^ 62 := Nat.lt_of_lt_of_le (bts_lt P n) (Nat.le_of_lt (wb_lt2 (show n < 62 by omega)))
def sprI (N : Nat → Int32) (S : Nat → Bool) (i : Nat) : Nat → Bool := fun q => S q || anyN (fun c => S c && wy N c q) i
/-- a set, and what is one step off -/
def spr (N : Nat → Int32) (S : Nat → Bool) : Nat → Bool := sprI N S 10
/-- PLACES within k steps of a -/
def rc (N : Nat → Int32) (a : Nat) : Nat → Nat → Bool
  | 0 => fun q => decide (a = q)
  | k + 1 => spr N (rc N a k)
/-- a SAYING's own reach -/
def arS (N : Nat → Int32) (s : Nat) : Nat → Bool := rc N (sF N s 3) (reachK (sF N s 0) (sF N s 2))
def haS (N : Nat → Int32) (s p D : Nat) : Bool := hdS N s D && arS N s p
theorem reachK_le (k l : Nat) (h : l ≤ 9) : reachK k l ≤ 5 := by
  unfold reachK
  split
  · omega
  · split <;> omega
theorem lastK_le (k l : Nat) (h : l ≤ 20) : lastK k l ≤ 40 := by
  unfold lastK
  split
  · omega
  · split
    · omega
    · split <;> omega
theorem rs_le (N : Nat → Int32) (hw : Wf N) (a : Nat) : ∀ k, a + k ≤ 100 → rs N a k ≤ k
  | 0, _ => Nat.le_refl _
  | k + 1, h => by
    have := rs_le N hw a k (by omega)
    have := (hw.2.2.2.1 (a + k) (by omega)).2
    show rs N a k + vN N (4 + (a + k)) ≤ k + 1
    omega
section CN
variable {G : xG} {d : Nat} {M : xM} {N : Nat → Int32} {Q : Option Value → xH → Prop}
theorem c_spread (hp : PV 1 N M) {x : Int32} (S : Nat → Bool) (hx : x = nI (bts S 10)) (q : ∀ r, r = nI (bts (spr N S) 10) → Q (some (.int r)) (HH M)) : CW G (d + 1) jX7_spread [.ref 2, .int x] (HH M) Q := by
  subst hx
  have hnear : ∀ p, p < 10 → M 3 p = nI (bts (wy N p) 10) := hp.2.2.2.2.2.1
  refine CW_wp fX7_spread rfl rfl rfl ?_
  have key : ∀ (i : Nat), i ≤ 10 → Ev G (d + 1) jX7_spread 4 [some (.ref 2), some (.int (nI (bts S 10))), some (.int (nI (bts (sprI N S i) 10))), some (.int (nI i))] [] (HH M) 0 0 Q := by
    intro i hi
    refine dn (E := fun i => Ev G (d + 1) jX7_spread 4 [some (.ref 2), some (.int (nI (bts S 10))), some (.int (nI (bts (sprI N S i) 10))), some (.int (nI i))] [] (HH M) 0 0 Q) hi ?_ (fun i _ h2 ih => ?_)
    · refine Ev_wp fX7_spread rfl ?_
      exact q _ rfl
    · refine Ev_wp fX7_spread rfl ?_
      refine xelse (nI_ge h2 (by decide)) ?_
      rw [nI_succ] at ih
      have hb := bts31 S (show 10 ≤ 30 by decide)
      refine c_isIn (bts S 10) i (nI_l hb) (by omega) rfl (by omega) (fun c => ?_) (fun c => ?_)
      · rw [tb_bts] at c
        simp [h2] at c
        refine xelse (nin (n := 10) h2 (by decide)) ?_
        rw [nI_clamp (by omega), hnear i h2]
        have e3 : nI (bts (sprI N S i) 10) ||| nI (bts (wy N i) 10) = nI (bts (sprI N S (i + 1)) 10) := by
          rw [nx_or, bts_or]
          congr 1
          exact bts_congr (fun j _ => by simp [sprI, anyN, c, Bool.or_assoc])
        rw [← e3] at ih
        exact ih
      · rw [tb_bts] at c
        simp [h2] at c
        rw [show sprI N S (i + 1) = sprI N S i by funext j; simp [sprI, anyN, c]] at ih
        exact ih
  have h0 := key 0 (by decide)
  rw [show sprI N S 0 = S by funext j; simp [sprI, anyN]] at h0
  exact h0
theorem c_within (hp : PV 1 N M) {x y : Int32} (a k : Nat) (hx : x = nI a) (hy : y = nI k) (ha : a < 10) (hk : k < 100) (q : ∀ r, r = nI (bts (rc N a k) 10) → Q (some (.int r)) (HH M)) : CW G (d + 2) jX7_within [.ref 2, .int x, .int y] (HH M) Q := by
  subst hx hy
  refine CW_wp fX7_within rfl rfl rfl ?_
  have key : Ev G (d + 2) jX7_within 7 [some (.ref 2), none, some (.int (nI k)), some (.int (nI (bts (rc N a 0) 10))), some (.int (nI 0))] [] (HH M) 0 0 Q := by
    refine dn (E := fun i => Ev G (d + 2) jX7_within 7 [some (.ref 2), none, some (.int (nI k)), some (.int (nI (bts (rc N a i) 10))), some (.int (nI i))] [] (HH M) 0 0 Q) (Nat.zero_le k) ?_ (fun i _ h2 ih => ?_)
    · refine Ev_wp fX7_within rfl ?_
      exact xif (by exact Int32.le_refl _) (by exact q _ rfl)
    · refine Ev_wp fX7_within rfl ?_
      refine xelse (nI_ge h2 (by omega)) ?_
      rw [nI_succ] at ih
      refine c_spread hp (rc N a i) rfl (fun r hr => ?_)
      subst hr
      exact ih
  rw [show bts (rc N a 0) 10 = 2 ^ a from (bts_one a 10 ha).symm, ← nx_shl a (by omega)] at key
  exact key
/-- the fewest steps -/
def fwS (N : Nat → Int32) (a b : Nat) : Option Nat := ff (fun k => rc N a k b) 10 0
theorem c_fewest (hp : PV 1 N M) (a b : Nat) (ha : a < 10) (hb : b < 10) (qs : ∀ k, fwS N a b = some k → Q (some (.int (nI k))) (HH M)) (qn : fwS N a b = none → Q (some (.int (-1))) (HH M)) : CW G (d + 2) jX7_fewestBetween [.ref 2, .int (nI a), .int (nI b)] (HH M) Q := by
  refine CW_wp fX7_fewestBetween rfl rfl rfl ?_
  have key : ff (fun k => rc N a k b) (10 - 0) 0 = fwS N a b → Ev G (d + 2) jX7_fewestBetween 7 [some (.ref 2), none, some (.int (nI b)), some (.int (nI (bts (rc N a 0) 10))), some (.int (nI 0))] [] (HH M) 0 0 Q := by
    refine dn (E := fun i => ff (fun k => rc N a k b) (10 - i) i = fwS N a b → Ev G (d + 2) jX7_fewestBetween 7 [some (.ref 2), none, some (.int (nI b)), some (.int (nI (bts (rc N a i) 10))), some (.int (nI i))] [] (HH M) 0 0 Q) (Nat.zero_le 10) (fun hf => ?_) (fun i _ h2 ih hf => ?_)
    · refine Ev_wp fX7_fewestBetween rfl ?_
      exact qn hf.symm
    · refine Ev_wp fX7_fewestBetween rfl ?_
      refine xelse (nI_ge h2 (by decide)) ?_
      rw [nI_succ] at ih
      rw [ff_step _ h2] at hf
      have hb2 := bts31 (rc N a i) (show 10 ≤ 30 by decide)
      refine c_isIn (bts (rc N a i) 10) b (nI_l hb2) (by omega) rfl (by omega) (fun c => ?_) (fun c => ?_)
      · rw [tb_bts] at c
        simp [hb] at c
        rw [if_pos c] at hf
        exact qs i hf.symm
      · rw [tb_bts] at c
        simp [hb] at c
        rw [if_neg (by simp [c])] at hf
        refine c_spread hp (rc N a i) rfl (fun r hr => ?_)
        subst hr
        exact ih hf
  have k2 := key rfl
  rw [show bts (rc N a 0) 10 = 2 ^ a from (bts_one a 10 ha).symm, ← nx_shl a (by omega)] at k2
  exact k2
theorem c_reachOf (hp : PV 1 N M) (hw : Wf N) {x : Int32} (s : Nat) (hs : s < sN N) (hx : x = nI s) (q : ∀ r, r = nI (reachK (sF N s 0) (sF N s 2)) → Q (some (.int r)) (HH M)) : CW G (d + 1) jX3_reachOf [.ref 4, .int x] (HH M) Q := by
  subst hx
  have hn := hw.2.1.2
  have wa := hw.2.2.2.2.2.2.2.1 s hs
  have ra : ∀ f, f < 6 → M (5 + f) s = nI (sF N s f) := fun f hf => hp.say hw hs hf
  refine CW_wp fX3_reachOf rfl rfl rfl ?_
  refine xelse (nin (n := 40) (by omega) (by decide)) ?_
  refine xelse (nin (n := 40) (by omega) (by decide)) ?_
  rw [nI_clamp (by omega)]
  exact c_reachK (HH M) (sF N s 0) (sF N s 2) wa.1 wa.2.2.2.1 (ra 0 (by decide)) (ra 2 (by decide)) q
theorem c_lastsOf (hp : PV 1 N M) (hw : Wf N) {x : Int32} (s : Nat) (hs : s < sN N) (hx : x = nI s) (q : ∀ r, r = nI (lastK (sF N s 0) (vN N 2)) → Q (some (.int r)) (HH M)) : CW G (d + 1) jX5_lastsOf [.ref 1, .int x] (HH M) Q := by
  subst hx
  have hn := hw.2.1.2
  have wa := hw.2.2.2.2.2.2.2.1 s hs
  have ra : ∀ f, f < 6 → M (5 + f) s = nI (sF N s f) := fun f hf => hp.say hw hs hf
  refine CW_wp fX5_lastsOf rfl rfl rfl ?_
  refine xelse (nin (n := 40) (by omega) (by decide)) ?_
  rw [nI_clamp (by omega)]
  exact c_lasting (HH M) (sF N s 0) (vN N 2) wa.1 hw.2.2.1.2 (ra 0 (by decide)) (hp.2.2.1.trans hw.2.2.1.1) q
theorem c_around (hp : PV 1 N M) (hw : Wf N) {x : Int32} (s : Nat) (hs : s < sN N) (hx : x = nI s) (q : ∀ r, r = nI (bts (arS N s) 10) → Q (some (.int r)) (HH M)) : CW G (d + 3) jX5_around [.ref 1, .int x] (HH M) Q := by
  subst hx
  have hn := hw.2.1.2
  have wa := hw.2.2.2.2.2.2.2.1 s hs
  have ra : ∀ f, f < 6 → M (5 + f) s = nI (sF N s f) := fun f hf => hp.say hw hs hf
  refine CW_wp fX5_around rfl rfl rfl ?_
  refine xelse (nin (n := 40) (by omega) (by decide)) ?_
  rw [nI_clamp (by omega)]
  refine c_reachOf hp hw s hs rfl (fun r hr => ?_)
  have := reachK_le (sF N s 0) (sF N s 2) wa.2.2.2.1
  exact c_within hp (sF N s 3) (reachK (sF N s 0) (sF N s 2)) (ra 3 (by decide)) hr wa.2.2.2.2.1 (by omega) q
theorem c_firstOver (hp : PV 1 N M) (hw : Wf N) {x : Int32} (s : Nat) (hs : s < sN N) (hx : x = nI s) (qs : ∀ k, foS N s = some k → Q (some (.int (nI k))) (HH M)) (qn : foS N s = none → Q (some (.int (-1))) (HH M)) : CW G (d + 2) jX3_firstOver [.ref 4, .int x] (HH M) Q := by
  subst hx
  have hn := hw.2.1.2
  have e1 : M 4 0 = nI (sN N) := hp.2.1.trans hw.2.1.1
  refine CW_wp fX3_firstOver rfl rfl rfl ?_
  have key : ff (ovS N s) (sN N - (s + 1)) (s + 1) = foS N s → Ev G (d + 2) jX3_firstOver 4 [some (.ref 4), some (.int (nI s)), some (.int (nI (s + 1)))] [] (HH M) 0 0 Q := by
    refine dn (E := fun i => ff (ovS N s) (sN N - i) i = foS N s → Ev G (d + 2) jX3_firstOver 4 [some (.ref 4), some (.int (nI s)), some (.int (nI i))] [] (HH M) 0 0 Q) (show s + 1 ≤ sN N by omega) (fun hf => ?_) (fun i h1 h2 ih hf => ?_)
    · refine Ev_wp fX3_firstOver rfl ?_
      exact xif (by rw [e1]; exact Int32.le_refl _) (by exact qn (by rw [← hf, ff_end _ (Nat.le_refl _)]))
    · refine Ev_wp fX3_firstOver rfl ?_
      refine xelse (by rw [e1]; exact nI_ge h2 (by omega)) ?_
      rw [nI_succ] at ih
      rw [ff_step _ h2] at hf
      refine c_isOver hp hw i s h2 hs rfl rfl (fun c => ?_) (fun c => ?_)
      · rw [if_pos c] at hf
        exact qs i hf.symm
      · rw [if_neg (by simp [c])] at hf
        exact ih hf
  rw [nI_succ] at key
  exact key rfl
theorem foS_lt {s k : Nat} (h : foS N s = some k) : s < k ∧ k < sN N := by
  obtain ⟨h1, h2, h3, h4⟩ := ff_some h
  omega
theorem c_isHeard (hp : PV 1 N M) (hw : Wf N) {x y : Int32} (s D : Nat) (hs : s < sN N) (hD : D ≤ 100) (hx : x = nI s) (hy : y = nI D) (q1 : hdS N s D = true → Q (some (.int 1)) (HH M)) (q0 : hdS N s D = false → Q (some (.int 0)) (HH M)) : CW G (d + 3) jX5_isHeard [.ref 1, .int x, .int y] (HH M) Q := by
  subst hx hy
  have hn := hw.2.1.2
  have wa := hw.2.2.2.2.2.2.2.1 s hs
  have w0 := hw.1.2
  have ra : ∀ f, f < 6 → M (5 + f) s = nI (sF N s f) := fun f hf => hp.say hw hs hf
  refine CW_wp fX5_isHeard rfl rfl rfl ?_
  refine xelse (nin (n := 40) (by omega) (by decide)) ?_
  rw [nI_clamp (by omega)]
  refine xle D (sF N s 5) rfl (ra 5 (by decide)) (by omega) (by omega) (fun c => q0 (by simp [hdS, show ¬ sF N s 5 < D by omega])) (fun c => ?_)
  refine c_isDay _ (fun p hp' e => ?_) (fun e => q0 (by simp [hdS, show ¬ D < 100 from fun z => e D z rfl]))
  rw [nI_eq (by omega) (by omega)] at e
  subst e
  refine c_ageOf hp hw (sF N s 5) D (ra 5 (by decide)) rfl (by omega) (by omega) (fun r hr => ?_)
  refine c_lastsOf hp hw s hs rfl (fun r2 hr2 => ?_)
  have h5 := rs_le N hw (sF N s 5 + 1) (D - sF N s 5) (by omega)
  have h6 := lastK_le (sF N s 0) (vN N 2) hw.2.2.1.2.2
  refine xle _ _ hr hr2 (by omega) (by omega) (fun c2 => ?_) (fun c2 => q0 (by simp [hdS, ageS, show ¬ (D - sF N s 5 + rs N (sF N s 5 + 1) (D - sF N s 5) ≤ lastK (sF N s 0) (vN N 2)) by omega]))
  refine c_firstOver hp hw s hs rfl (fun k hk => ?_) (fun hk => ?_)
  · have hk2 := foS_lt hk
    refine xelse (nI_pos (by omega)) ?_
    refine xelse (nin (n := 40) (by omega) (by decide)) ?_
    rw [nI_clamp (by omega)]
    have wk := hw.2.2.2.2.2.2.2.1 k hk2.2
    refine xle (sF N k 5) D (hp.say hw hk2.2 (show 5 < 6 by decide)) rfl (by omega) (by omega) (fun c3 => q0 ?_) (fun c3 => q1 ?_)
    · simp [hdS, hk, show ¬ D < sF N k 5 by omega]
    · simp [hdS, hk, ageS, c, c2, c3, hp']
  · exact q1 (by simp [hdS, hk, ageS, c, c2, hp'])
theorem c_isHeardAt (hp : PV 1 N M) (hw : Wf N) {x y z : Int32} (s p D : Nat) (hs : s < sN N) (hpl : p < 10) (hD : D ≤ 100) (hx : x = nI s) (hz : z = nI p) (hy : y = nI D) (q1 : haS N s p D = true → Q (some (.int 1)) (HH M)) (q0 : haS N s p D = false → Q (some (.int 0)) (HH M)) : CW G (d + 4) jX5_isHeardAt [.ref 1, .int x, .int z, .int y] (HH M) Q := by
  subst hx hy hz
  refine CW_wp fX5_isHeardAt rfl rfl rfl ?_
  refine c_isHeard hp hw s D hs hD rfl rfl (fun c => ?_) (fun c => q0 (by simp [haS, c]))
  refine c_around hp hw s hs rfl (fun r hr => ?_)
  subst hr
  have hb := bts31 (arS N s) (show 10 ≤ 30 by decide)
  refine c_isIn (bts (arS N s) 10) p (nI_l hb) (by omega) rfl (by omega) (fun c2 => ?_) (fun c2 => ?_)
  · rw [tb_bts] at c2
    simp [hpl] at c2
    exact q1 (by simp [haS, c, c2])
  · rw [tb_bts] at c2
    simp [hpl] at c2
    exact q0 (by simp [haS, c2])
/-- HEARD at a PLACE, in an HOUR -/
def htS (N : Nat → Int32) (p D t s : Nat) : Bool := decide (sF N s 4 = t) && haS N s p D
theorem c_heardSet (hp : PV 1 N M) (hw : Wf N) {x z : Int32} (p D t : Nat) (hpl : p < 10) (hD : D < 100) (ht : t < 24) (hz : z = nI p) (hx : x = nI (100 * D + t)) (q : ∀ r, r = lN (bts (htS N p D t) (sN N)) → Q (some (.long r)) (HH M)) : CW G (d + 5) jX5_heardSet [.ref 1, .int z, .int x] (HH M) Q := by
  subst hx hz
  have hn := hw.2.1.2
  have e1 : M 4 0 = nI (sN N) := hp.2.1.trans hw.2.1.1
  obtain ⟨w1, w2⟩ := when_div D t hD ht
  refine CW_wp fX5_heardSet rfl rfl rfl ?_
  have key : Ev G (d + 5) jX5_heardSet 5 [some (.ref 1), some (.int (nI p)), some (.int (nI (100 * D + t))), some (.long (lN (bts (htS N p D t) 0))), none, some (.int (nI 0))] [] (HH M) 0 0 Q := by
    refine dn (E := fun i => Ev G (d + 5) jX5_heardSet 5 [some (.ref 1), some (.int (nI p)), some (.int (nI (100 * D + t))), some (.long (lN (bts (htS N p D t) i))), none, some (.int (nI i))] [] (HH M) 0 0 Q) (Nat.zero_le (sN N)) ?_ (fun i _ h2 ih => ?_)
    · refine Ev_wp fX5_heardSet rfl ?_
      exact xif (by rw [e1]; exact Int32.le_refl _) (by exact q _ rfl)
    · refine Ev_wp fX5_heardSet rfl ?_
      refine xelse (by rw [e1]; exact nI_ge h2 (by omega)) ?_
      rw [nI_succ, bts] at ih
      refine xelse (nin (n := 40) (by omega) (by decide)) ?_
      rw [nI_clamp (by omega)]
      have wa := hw.2.2.2.2.2.2.2.1 i h2
      refine c_hourOf _ ?_
      rw [w2]
      refine xeq (sF N i 4) t (hp.say hw h2 (show 4 < 6 by decide)) rfl (by omega) (by omega) (fun c => ?_) (fun c => ?_)
      · refine c_dayOf _ ?_
        rw [w1]
        refine c_isHeardAt hp hw i p D h2 hpl (by omega) rfl rfl rfl (fun c2 => ?_) (fun c2 => ?_)
        · rw [if_pos (by simp [htS, c, c2])] at ih
          have b1 := bts62 (htS N p D t) (show i ≤ 61 by omega)
          have b2 := wb_lt2 (show i < 64 by omega)
          have e3 : lN (bts (htS N p D t) i) ||| (1 : Int64) <<< ((nI i).toInt64 &&& 63) = lN (bts (htS N p D t) i ||| 2 ^ i) := by
            rw [show (1 : Int64) = lN 1 from rfl, wb_shl 1 (by omega), Nat.one_mul, wb_or (by omega) b2]
          rw [← e3] at ih
          exact ih
        · rw [if_neg (by simp [htS, c2]), Nat.or_zero] at ih
          exact ih
      · rw [if_neg (by simp [htS, c]), Nat.or_zero] at ih
        exact ih
  exact key
end CN
end
section
/-! The model's questions. -/
def wh (N : Nat → Int32) (p t : Nat) : Int32 := N (444 + (24 * p + t))
theorem wh_c {N : Nat → Int32} (hw : Wf N) {p t : Nat} (hp : p < 6) (ht : t < 24) : wh N p t = -1 ∨ ∃ a, a < 10 ∧ wh N p t = nI a := hw.2.2.2.2.2.2.2.2.2.1 (24 * p + t) (by omega)
/-- how many are so -/
def cn (P : Nat → Bool) : Nat → Nat
  | 0 => 0
  | n + 1 => cn P n + (if P n = true then 1 else 0)
theorem cn_le (P : Nat → Bool) : ∀ n, cn P n ≤ n
  | 0 => Nat.le_refl _
  | n + 1 => by
    have := cn_le P n
    rw [cn]
    split <;> omega
theorem cn_congr {P P' : Nat → Bool} : ∀ {n : Nat}, (∀ i, i < n → P i = P' i) → cn P n = cn P' n
  | 0, _ => rfl
  | n + 1, h => by rw [cn, cn, cn_congr (fun i hi => h i (by omega)), h n (by omega)]
/-- a PERSON HEARS a SAYING -/
def heS (N : Nat → Int32) (p s D : Nat) : Bool := decide (wh N p (sF N s 4) ≠ -1) && (hdS N s D && arS N s (wh N p (sF N s 4)).toNatClampNeg)
theorem w_no2 {x : Int32} {a b : Nat} (ha : a < 2 ^ 31) (hb : b < 2 ^ 31) (h : ∀ k, a ≤ k → k ≤ b → x ≠ nI k) : ¬ (nI a ≤ x ∧ x ≤ nI b) := fun ⟨h1, h2⟩ => by
  have h3 : (0 : Int32) ≤ nI a := nI_pos' ha
  have h0 : ¬ x < 0 := fun z => Int32.not_le.mpr z (Int32.le_trans h3 h1)
  obtain ⟨j, hj, rfl⟩ := nI_of h0
  rw [nI_leI ha hj] at h1
  rw [nI_leI hj hb] at h2
  exact h j h1 h2 rfl
theorem last6 {v : Int32} {kp : Nat} (hv : v = nI kp) (hkp : 1 ≤ kp ∧ kp ≤ 20) : (if (1 : Int32) < v - 3 then v - 3 else 1) = nI (lastK 6 kp) := by
  subst hv
  match kp, hkp.1, hkp.2 with
  | 1, _, _ => decide +kernel
  | 2, _, _ => decide +kernel
  | 3, _, _ => decide +kernel
  | n + 4, _, h2 =>
    rw [show (3 : Int32) = nI 3 from rfl, pk_sub (by omega), show (1 : Int32) = nI 1 from rfl]
    rw [show lastK 6 (n + 4) = n + 1 by
      show max 1 (n + 4 - 3) = n + 1
      omega, show n + 4 - 3 = n + 1 by omega]
    by_cases h : nI 1 < nI (n + 1)
    · rw [if_pos h]
    · rw [if_neg h]
      rw [nI_ltI (by omega) (by omega)] at h
      rw [show n = 0 by omega]
section MQ
variable {G : xG} {d : Nat} {M : xM} {N : Nat → Int32} {Q : Option Value → xH → Prop}
theorem m_within_t {h : xH} {x lo hi : Int32} (k a b : Nat) (hx : x = nI k) (hlo : lo = nI a) (hhi : hi = nI b) (h1 : a ≤ k) (h2 : k ≤ b) (hb : b < 2 ^ 31) (q : Q (some (.int 1)) h) : CW G d jX9_within [.int x, .int lo, .int hi] h Q := by
  subst hx hlo hhi
  exact m_within _ _ _ (fun _ _ => q) (fun c => absurd ⟨nI_le h1 (by omega), nI_le h2 hb⟩ c)
theorem m_within_f {h : xH} {x lo hi : Int32} (a b : Nat) (hlo : lo = nI a) (hhi : hi = nI b) (ha : a < 2 ^ 31) (hb : b < 2 ^ 31) (hx : ∀ k, a ≤ k → k ≤ b → x ≠ nI k) (q : Q (some (.int 0)) h) : CW G d jX9_within [.int x, .int lo, .int hi] h Q := by
  subst hlo hhi
  exact m_within _ _ _ (fun c1 c2 => absurd ⟨c1, c2⟩ (w_no2 ha hb hx)) (fun _ => q)
theorem m_isPlace_t {h : xH} {x : Int32} (p : Nat) (hp : p < 10) (hx : x = nI p) (q : Q (some (.int 1)) h) : CW G (d + 1) jX9_isPlace [.int x] h Q := m_isPlace x (fun _ _ _ => q) (fun z => absurd hx (z p hp))
theorem m_isPlace_f {h : xH} {x : Int32} (hx : ∀ p, p < 10 → x ≠ nI p) (q : Q (some (.int 0)) h) : CW G (d + 1) jX9_isPlace [.int x] h Q := m_isPlace x (fun p hp e => absurd e (hx p hp)) (fun _ => q)
theorem m_isDay_t {h : xH} {x : Int32} (p : Nat) (hp : p < 100) (hx : x = nI p) (q : Q (some (.int 1)) h) : CW G (d + 1) jX9_isDay [.int x] h Q := m_isDay x (fun _ _ _ => q) (fun z => absurd hx (z p hp))
theorem m_isDay_f {h : xH} {x : Int32} (hx : ∀ p, p < 100 → x ≠ nI p) (q : Q (some (.int 0)) h) : CW G (d + 1) jX9_isDay [.int x] h Q := m_isDay x (fun p hp e => absurd e (hx p hp)) (fun _ => q)
theorem m_isHour_t {h : xH} {x : Int32} (p : Nat) (hp : p < 24) (hx : x = nI p) (q : Q (some (.int 1)) h) : CW G (d + 1) jX9_isHour [.int x] h Q := m_isHour x (fun _ _ _ => q) (fun z => absurd hx (z p hp))
theorem m_isHour_f {h : xH} {x : Int32} (hx : ∀ p, p < 24 → x ≠ nI p) (q : Q (some (.int 0)) h) : CW G (d + 1) jX9_isHour [.int x] h Q := m_isHour x (fun p hp e => absurd e (hx p hp)) (fun _ => q)
theorem m_isPerson_t {h : xH} {x : Int32} (p : Nat) (hp : p < 6) (hx : x = nI p) (q : Q (some (.int 1)) h) : CW G (d + 1) jX9_isPerson [.int x] h Q := m_isPerson x (fun _ _ _ => q) (fun z => absurd hx (z p hp))
theorem m_isPerson_f {h : xH} {x : Int32} (hx : ∀ p, p < 6 → x ≠ nI p) (q : Q (some (.int 0)) h) : CW G (d + 1) jX9_isPerson [.int x] h Q := m_isPerson x (fun p hp e => absurd e (hx p hp)) (fun _ => q)
theorem m_isSheet_t {h : xH} {x : Int32} (p : Nat) (hp : p < 4) (hx : x = nI p) (q : Q (some (.int 1)) h) : CW G (d + 1) jX9_isSheet [.int x] h Q := m_isSheet x (fun _ _ _ => q) (fun z => absurd hx (z p hp))
theorem m_isSheet_f {h : xH} {x : Int32} (hx : ∀ p, p < 4 → x ≠ nI p) (q : Q (some (.int 0)) h) : CW G (d + 1) jX9_isSheet [.int x] h Q := m_isSheet x (fun p hp e => absurd e (hx p hp)) (fun _ => q)
theorem m_isWhen_t {h : xH} {x : Int32} (D t : Nat) (hD : D < 100) (ht : t < 24) (hx : x = nI (100 * D + t)) (q : Q (some (.int 1)) h) : CW G (d + 2) jX9_isWhen [.int x] h Q := m_isWhen x (fun _ _ _ _ _ => q) (fun z => absurd hx (z D t hD ht))
theorem m_isWhen_f {h : xH} {x : Int32} (hx : ∀ D t, D < 100 → t < 24 → x ≠ nI (100 * D + t)) (q : Q (some (.int 0)) h) : CW G (d + 2) jX9_isWhen [.int x] h Q := m_isWhen x (fun D t hD ht e => absurd e (hx D t hD ht)) (fun _ => q)
theorem m_isSaying_t (hn : M 60 = N) (hw : Wf N) {x : Int32} (s : Nat) (hs : s < sN N) (hx : x = nI s) (q : Q (some (.int 1)) (HH M)) : CW G (d + 1) jX9_isSaying [.ref 59, .int x] (HH M) Q := by
  have h40 := hw.2.1.2
  have e1 : M 60 1 = nI (sN N) := by rw [hn]; exact hw.2.1.1
  refine CW_wp fX9_isSaying rfl rfl rfl ?_
  exact m_within_t s 0 (sN N - 1) hx rfl (isb e1 rfl (by omega)) (Nat.zero_le _) (by omega) (by omega) q
theorem m_isSaying_f (hn : M 60 = N) (hw : Wf N) {x : Int32} (hx : ∀ s, s < sN N → x ≠ nI s) (q : Q (some (.int 0)) (HH M)) : CW G (d + 1) jX9_isSaying [.ref 59, .int x] (HH M) Q := by
  have h40 := hw.2.1.2
  have e1 : M 60 1 = nI (sN N) := by rw [hn]; exact hw.2.1.1
  refine CW_wp fX9_isSaying rfl rfl rfl ?_
  rcases Nat.eq_zero_or_pos (sN N) with z | z
  · refine m_within _ _ _ (fun c1 c2 => ?_) (fun _ => q)
    have c3 : x ≤ M 60 1 - 1 := c2
    rw [e1, z] at c3
    exact absurd (Int32.le_trans c1 c3) (by decide)
  · exact m_within_f 0 (sN N - 1) rfl (isb e1 rfl (by omega)) (by omega) (by omega) (fun k _ hk => hx k (by omega)) q
theorem m_of (hn : M 60 = N) (hw : Wf N) {x y : Int32} (s f : Nat) (hs : s < sN N) (hf : f < 6) (hx : x = nI s) (hy : y = nI f) (q : ∀ r, r = nI (sF N s f) → Q (some (.int r)) (HH M)) : CW G d jX9_of [.ref 59, .int x, .int y] (HH M) Q := by
  have h40 := hw.2.1.2
  refine CW_wp fX9_of rfl rfl rfl ?_
  refine xix (n := 598) (204 + 6 * s + f) (ia (ia rfl (im rfl hx)) hy) (by omega) (by decide) (fun e => ?_)
  rw [e, hn]
  exact q _ (hw.2.2.2.2.2.2.1 s hs f hf)
theorem m_isWay (hn : M 60 = N) (hw : Wf N) {x y : Int32} (a b : Nat) (ha : a < 10) (hb : b < 10) (hx : x = nI a) (hy : y = nI b) (q1 : wy N a b = true → Q (some (.int 1)) (HH M)) (q0 : wy N a b = false → Q (some (.int 0)) (HH M)) : CW G d jX9_isWay [.ref 59, .int x, .int y] (HH M) Q := by
  have hv := hw.2.2.2.2.1 a b ha hb
  refine CW_wp fX9_isWay rfl rfl rfl ?_
  refine xix (n := 598) (104 + 10 * a + b) (ia (ia rfl (im rfl hx)) hy) (by omega) (by decide) (fun e => ?_)
  rw [e, hn]
  refine xeq (vN N (104 + 10 * a + b)) 1 hv.1 rfl (by omega) (by decide) (fun c => q1 (by simp [wy, c])) (fun c => q0 (by simp [wy, c]))
theorem m_lasts (hn : M 60 = N) (hw : Wf N) {x : Int32} (s : Nat) (hs : s < sN N) (hx : x = nI s) (q : ∀ r, r = nI (lastK (sF N s 0) (vN N 2)) → Q (some (.int r)) (HH M)) : CW G (d + 1) jX9_lasts [.ref 59, .int x] (HH M) Q := by
  have e2 : M 60 2 = nI (vN N 2) := by rw [hn]; exact hw.2.2.1.1
  refine CW_wp fX9_lasts rfl rfl rfl ?_
  refine m_of hn hw s 0 hs (by decide) hx rfl (fun r hr => ?_)
  have hk := (hw.2.2.2.2.2.2.2.1 s hs).1
  have hkp := hw.2.2.1.2
  generalize vN N 2 = kp at hkp q e2
  generalize sF N s 0 = k at hr hk q
  match k, hk, hr, q with
  | 0, _, hr, q => subst hr; exact q _ e2
  | 1, _, hr, q => subst hr; exact q _ (im rfl e2)
  | 2, _, hr, q => subst hr; exact q _ e2
  | 3, _, hr, q => subst hr; exact q _ e2
  | 4, _, hr, q => subst hr; exact q _ (im rfl e2)
  | 5, _, hr, q => subst hr; exact q _ (ia e2 rfl)
  | 6, _, hr, q => subst hr; exact q _ (last6 e2 hkp)
  | k + 7, hk, _, _ => exact absurd hk (by omega)
theorem m_reach (hn : M 60 = N) (hw : Wf N) {x : Int32} (s : Nat) (hs : s < sN N) (hx : x = nI s) (q : ∀ r, r = nI (reachK (sF N s 0) (sF N s 2)) → Q (some (.int r)) (HH M)) : CW G (d + 1) jX9_reach [.ref 59, .int x] (HH M) Q := by
  have wa := hw.2.2.2.2.2.2.2.1 s hs
  refine CW_wp fX9_reach rfl rfl rfl ?_
  refine m_of hn hw s 0 hs (by decide) hx rfl (fun r hr => ?_)
  refine m_of hn hw s 2 hs (by decide) hx rfl (fun r2 hr2 => ?_)
  have e : r2 / 3 = nI (sF N s 2 / 3) := idv hr2 rfl (by omega) (by decide) (by decide)
  refine xeq (sF N s 0) 2 hr rfl (by omega) (by decide) (fun c => q _ (by simp [reachK, c]; rfl)) (fun c => ?_)
  refine xeq (sF N s 0) 6 hr rfl (by omega) (by decide) (fun c2 => q _ (by simp [reachK, c2]; rfl)) (fun c2 => ?_)
  refine xeq (sF N s 0) 4 hr rfl (by omega) (by decide) (fun c3 => q _ ?_) (fun c3 => q _ ?_)
  · rw [e, show reachK (sF N s 0) (sF N s 2) = sF N s 2 / 3 + 2 by simp [reachK, c3]]
    exact nI_add _ 2
  · rw [e, show reachK (sF N s 0) (sF N s 2) = sF N s 2 / 3 by simp [reachK, c, c2, c3]]
theorem m_ageOf (hn : M 60 = N) (hw : Wf N) {x y : Int32} (s D : Nat) (hs : s < sN N) (hD : D < 100) (hl : sF N s 5 ≤ D) (hx : x = nI s) (hy : y = nI D) (q : ∀ r, r = nI (ageS N s D) → Q (some (.int r)) (HH M)) : CW G (d + 1) jX9_ageOf [.ref 59, .int x, .int y] (HH M) Q := by
  subst hx hy
  refine CW_wp fX9_ageOf rfl rfl rfl ?_
  refine m_of hn hw s 5 hs (by decide) rfl rfl (fun r hr => ?_)
  refine m_of hn hw s 5 hs (by decide) rfl rfl (fun r2 hr2 => ?_)
  subst hr hr2
  have key : Ev G (d + 1) jX9_ageOf 19 [some (.ref 59), none, some (.int (nI D)), some (.int (nI (D - sF N s 5 + rs N (sF N s 5 + 1) (sF N s 5 + 1 - (sF N s 5 + 1))))), some (.int (nI (sF N s 5 + 1)))] [] (HH M) 0 0 Q := by
    refine dn (E := fun i => Ev G (d + 1) jX9_ageOf 19 [some (.ref 59), none, some (.int (nI D)), some (.int (nI (D - sF N s 5 + rs N (sF N s 5 + 1) (i - (sF N s 5 + 1))))), some (.int (nI i))] [] (HH M) 0 0 Q) (show sF N s 5 + 1 ≤ D + 1 by omega) ?_ (fun i h1 h2 ih => ?_)
    · refine Ev_wp fX9_ageOf rfl ?_
      exact xif (by exact nI_lt (by omega) (by omega)) (by exact q _ (by rw [ageS, show D + 1 - (sF N s 5 + 1) = D - sF N s 5 by omega]))
    · refine Ev_wp fX9_ageOf rfl ?_
      refine xelse (nI_nlt (by omega) (by omega)) ?_
      refine xix (n := 598) (4 + i) (ia rfl rfl) (by omega) (by decide) (fun e => ?_)
      rw [e, hn, (hw.2.2.2.1 i (by omega)).1]
      rw [nI_succ, show i + 1 - (sF N s 5 + 1) = (i - (sF N s 5 + 1)) + 1 by omega, rs, show sF N s 5 + 1 + (i - (sF N s 5 + 1)) = i by omega, ← Nat.add_assoc, ← nI_add] at ih
      exact ih
  have e0 : nI (D - sF N s 5 + rs N (sF N s 5 + 1) (sF N s 5 + 1 - (sF N s 5 + 1))) = nI D - nI (sF N s 5) := by
    rw [Nat.sub_self, pk_sub hl]; rfl
  rw [e0, nI_succ] at key
  exact key
theorem m_isOver (hn : M 60 = N) (hw : Wf N) {x y : Int32} (a b : Nat) (ha : a < sN N) (hb : b < sN N) (hx : x = nI a) (hy : y = nI b) (q1 : ovS N a b = true → Q (some (.int 1)) (HH M)) (q0 : ovS N a b = false → Q (some (.int 0)) (HH M)) : CW G (d + 1) jX9_isOver [.ref 59, .int x, .int y] (HH M) Q := by
  have wa := hw.2.2.2.2.2.2.2.1 a ha
  have wb := hw.2.2.2.2.2.2.2.1 b hb
  refine CW_wp fX9_isOver rfl rfl rfl ?_
  refine m_of hn hw a 3 ha (by decide) hx rfl (fun r1 h1 => ?_)
  refine m_of hn hw b 3 hb (by decide) hy rfl (fun r2 h2 => ?_)
  refine xeq _ _ h1 h2 (by omega) (by omega) (fun c1 => ?_) (fun c1 => q0 (by simp [ovS, c1]))
  refine m_of hn hw a 4 ha (by decide) hx rfl (fun r3 h3 => ?_)
  refine m_of hn hw b 4 hb (by decide) hy rfl (fun r4 h4 => ?_)
  refine xeq _ _ h3 h4 (by omega) (by omega) (fun c2 => ?_) (fun c2 => q0 (by simp [ovS, c2]))
  refine m_of hn hw b 0 hb (by decide) hy rfl (fun k hk => ?_)
  refine xeq _ 3 hk rfl (by omega) (by decide) (fun k3 => ?_) (fun k3 => ?_)
  · refine m_of hn hw a 0 ha (by decide) hx rfl (fun k2 hk2 => ?_)
    refine xeq _ 5 hk2 rfl (by omega) (by decide) (fun y1 => ?_) (fun y1 => q1 (by simp [ovS, c1, c2, k3, y1]))
    exact xeq _ 5 hk rfl (by omega) (by decide) (fun y2 => absurd (k3.symm.trans y2) (by decide)) (fun y2 => q0 (by simp [ovS, c1, c2, k3, y1]))
  refine xeq _ 5 hk rfl (by omega) (by decide) (fun k5 => ?_) (fun k5 => ?_)
  · refine m_of hn hw a 0 ha (by decide) hx rfl (fun k2 hk2 => ?_)
    refine xeq _ 5 hk2 rfl (by omega) (by decide) (fun y1 => ?_) (fun y1 => q1 (by simp [ovS, c1, c2, k3, k5, y1]))
    exact xeq _ 5 hk rfl (by omega) (by decide) (fun y2 => q1 (by simp [ovS, c1, c2, k3, k5, y1])) (fun y2 => absurd k5 y2)
  refine xeq _ 2 hk rfl (by omega) (by decide) (fun k2 => q0 (by simp [ovS, k3, k5, k2])) (fun k2 => ?_)
  refine xeq _ 6 hk rfl (by omega) (by decide) (fun k6 => q0 (by simp [ovS, k3, k5, k6])) (fun k6 => ?_)
  refine m_of hn hw b 2 hb (by decide) hy rfl (fun l1 hl1 => ?_)
  refine m_of hn hw a 2 ha (by decide) hx rfl (fun l2 hl2 => ?_)
  refine xlt _ _ hl1 hl2 (by omega) (by omega) (fun cl => q0 ?_) (fun cl => ?_)
  · simp [ovS, k3, k5, show ¬ sF N a 2 ≤ sF N b 2 by omega]
  · refine m_of hn hw a 0 ha (by decide) hx rfl (fun k2' hk2' => ?_)
    refine xeq _ 5 hk2' rfl (by omega) (by decide) (fun y1 => ?_) (fun y1 => q1 (by simp [ovS, c1, c2, k2, k6, cl, y1]))
    exact xeq _ 5 hk rfl (by omega) (by decide) (fun y2 => absurd y2 k5) (fun y2 => q0 (by simp [ovS, y1, k5]))
theorem m_overOf (hn : M 60 = N) (hw : Wf N) {x : Int32} (s : Nat) (hs : s < sN N) (hx : x = nI s) (qs : ∀ k, foS N s = some k → Q (some (.int (nI k))) (HH M)) (qn : foS N s = none → Q (some (.int (-1))) (HH M)) : CW G (d + 2) jX9_overOf [.ref 59, .int x] (HH M) Q := by
  subst hx
  have h40 := hw.2.1.2
  have e1 : M 60 1 = nI (sN N) := by rw [hn]; exact hw.2.1.1
  have hge : M 60 1 ≤ nI (sN N) := by rw [e1]; exact Int32.le_refl _
  have hlt : ∀ i, i < sN N → ¬ M 60 1 ≤ nI i := fun i hi => by rw [e1]; exact nI_ge hi (by omega)
  refine CW_wp fX9_overOf rfl rfl rfl ?_
  have key : ff (ovS N s) (sN N - (s + 1)) (s + 1) = foS N s → Ev G (d + 2) jX9_overOf 4 [some (.ref 59), some (.int (nI s)), some (.int (nI (s + 1)))] [] (HH M) 0 0 Q := by
    refine dn (E := fun i => ff (ovS N s) (sN N - i) i = foS N s → Ev G (d + 2) jX9_overOf 4 [some (.ref 59), some (.int (nI s)), some (.int (nI i))] [] (HH M) 0 0 Q) (show s + 1 ≤ sN N by omega) (fun hf => ?_) (fun i h1 h2 ih hf => ?_)
    · refine Ev_wp fX9_overOf rfl ?_
      exact xif hge (by exact qn (by rw [← hf, ff_end _ (Nat.le_refl _)]))
    · refine Ev_wp fX9_overOf rfl ?_
      refine xelse (hlt i h2) ?_
      rw [nI_succ] at ih
      rw [ff_step _ h2] at hf
      refine m_isOver hn hw s i hs h2 rfl rfl (fun c => ?_) (fun c => ?_)
      · rw [if_pos c] at hf
        exact qs i hf.symm
      · rw [if_neg (by simp [c])] at hf
        exact ih hf
  rw [nI_succ] at key
  exact key rfl
theorem m_isHeard (hn : M 60 = N) (hw : Wf N) {x y : Int32} (s D : Nat) (hs : s < sN N) (hD : D < 100) (hx : x = nI s) (hy : y = nI D) (q1 : hdS N s D = true → Q (some (.int 1)) (HH M)) (q0 : hdS N s D = false → Q (some (.int 0)) (HH M)) : CW G (d + 3) jX9_isHeard [.ref 59, .int x, .int y] (HH M) Q := by
  have wa := hw.2.2.2.2.2.2.2.1 s hs
  have w0 := hw.1.2
  have h40 := hw.2.1.2
  refine CW_wp fX9_isHeard rfl rfl rfl ?_
  refine m_of hn hw s 5 hs (by decide) hx rfl (fun r1 h1 => ?_)
  refine xle _ _ hy h1 (by omega) (by omega) (fun c => q0 (by simp [hdS, show ¬ sF N s 5 < D by omega])) (fun c => ?_)
  refine m_ageOf hn hw s D hs hD (by omega) hx hy (fun r2 h2 => ?_)
  refine m_lasts hn hw s hs hx (fun r3 h3 => ?_)
  have h5 := rs_le N hw (sF N s 5 + 1) (D - sF N s 5) (by omega)
  have h6 := lastK_le (sF N s 0) (vN N 2) hw.2.2.1.2.2
  have h7 : ageS N s D = D - sF N s 5 + rs N (sF N s 5 + 1) (D - sF N s 5) := rfl
  refine xle _ _ h2 h3 (by omega) (by omega) (fun c2 => ?_) (fun c2 => q0 (by simp [hdS, show ¬ (ageS N s D ≤ lastK (sF N s 0) (vN N 2)) by omega]))
  refine m_overOf hn hw s hs hx (fun k hk => ?_) (fun hk => ?_)
  · have hk2 := foS_lt hk
    have wk := hw.2.2.2.2.2.2.2.1 k hk2.2
    refine xelse (nI_pos (by omega)) ?_
    refine m_of hn hw k 5 hk2.2 (by decide) rfl rfl (fun r4 h4 => ?_)
    refine xle _ _ h4 hy (by omega) (by omega) (fun c3 => q0 ?_) (fun c3 => q1 ?_)
    · simp [hdS, hk, show ¬ D < sF N k 5 by omega]
    · simp [hdS, hk, c, c2, c3, hD]
  · exact q1 (by simp [hdS, hk, c, c2, hD])
theorem m_whereIs (hn : M 60 = N) {x y : Int32} (p t : Nat) (hp : p < 6) (ht : t < 24) (hx : x = nI p) (hy : y = nI t) (q : Q (some (.int (wh N p t))) (HH M)) : CW G d jX9_whereIs [.ref 59, .int x, .int y] (HH M) Q := by
  refine CW_wp fX9_whereIs rfl rfl rfl ?_
  refine xix (n := 598) (444 + 24 * p + t) (ia (ia rfl (im rfl hx)) hy) (by omega) (by decide) (fun e => ?_)
  rw [e, hn, Nat.add_assoc]
  exact q
theorem m_manyAt (hn : M 60 = N) {x y : Int32} (t : Nat) (ht : t < 24) (hy : y = nI t) (q : Q (some (.int (nI (cn (fun p => decide (wh N p t = x)) 6)))) (HH M)) : CW G (d + 1) jX9_manyAt [.ref 59, .int x, .int y] (HH M) Q := by
  refine CW_wp fX9_manyAt rfl rfl rfl ?_
  refine dn (E := fun i => Ev G (d + 1) jX9_manyAt 5 [some (.ref 59), some (.int x), some (.int y), some (.int (nI (cn (fun p => decide (wh N p t = x)) i))), some (.int (nI i))] [] (HH M) 0 0 Q) (Nat.zero_le 6) ?_ (fun i _ h2 ih => ?_)
  · refine Ev_wp fX9_manyAt rfl ?_
    exact q
  · refine Ev_wp fX9_manyAt rfl ?_
    refine xelse (nI_ge h2 (by decide)) ?_
    refine m_whereIs hn i t (by omega) ht rfl hy ?_
    rw [nI_succ, cn] at ih
    refine xite (fun c => ?_) (fun c => ?_)
    · rw [if_pos (by simp [c]), nI_succ] at ih
      exact ih
    · rw [if_neg (by simp [c]), ← nI_add] at ih
      exact ih
end MQ
end
section
/-! STEPS as the model measures them. -/
def FAR (N : Nat → Int32) (f : Nat → Int32) : Prop := ∀ i j, i < 10 → j < 10 → ∃ D, D < 100 ∧ f (10 * i + j) = nI D ∧ ∀ k, k < 99 → (D ≤ k ↔ rc N i k j = true)
def SR (N : Nat → Int32) (M : xM) : Prop := M 59 5 = 0 ∨ (M 59 5 = 1 ∧ FAR N (M 63))
def Rm (N : Nat → Int32) (M M' : xM) : Prop := (∀ r, r ≠ 59 → r ≠ 63 → M' r = M r) ∧ (∀ k, k ≠ 5 → M' 59 k = M 59 k) ∧ SR N M'
theorem Rm.refl {N : Nat → Int32} {M : xM} (h : SR N M) : Rm N M M := ⟨fun _ _ _ => rfl, fun _ _ => rfl, h⟩
theorem Rm.trans {N : Nat → Int32} {M M' M'' : xM} (h : Rm N M M') (h2 : Rm N M' M'') : Rm N M M'' := ⟨fun r a b => (h2.1 r a b).trans (h.1 r a b), fun k a => (h2.2.1 k a).trans (h.2.1 k a), h2.2.2⟩
theorem Rm.n {N : Nat → Int32} {M M' : xM} (h : Rm N M M') (hn : M 60 = N) : M' 60 = N := (h.1 60 (by decide) (by decide)).trans hn
theorem rc_0 (N : Nat → Int32) (a q : Nat) : rc N a 0 q = decide (a = q) := rfl
theorem rc_s (N : Nat → Int32) (a k q : Nat) : rc N a (k + 1) q = true ↔ rc N a k q = true ∨ ∃ c, c < 10 ∧ rc N a k c = true ∧ wy N c q = true := by
  show (rc N a k q || anyN (fun c => rc N a k c && wy N c q) 10) = true ↔ _
  rw [Bool.or_eq_true, anyN_iff]
  constructor
  · rintro (h | ⟨c, h1, h2⟩)
    · exact Or.inl h
    · rw [Bool.and_eq_true] at h2
      exact Or.inr ⟨c, h1, h2.1, h2.2⟩
  · rintro (h | ⟨c, h1, h2, h3⟩)
    · exact Or.inl h
    · exact Or.inr ⟨c, h1, by rw [h2, h3]; rfl⟩
theorem rc_mono {N : Nat → Int32} {a q k : Nat} (h : rc N a k q = true) : ∀ m, k ≤ m → rc N a m q = true := by
  intro m hm
  induction m with
  | zero => rw [show k = 0 by omega] at h; exact h
  | succ m ih =>
    by_cases e : k = m + 1
    · subst e; exact h
    · exact (rc_s N a m q).mpr (Or.inl (ih (by omega)))
theorem rc_trans {N : Nat → Int32} {a b m : Nat} (h : rc N a m b = true) : ∀ (n q : Nat), rc N b n q = true → rc N a (m + n) q = true
  | 0, q, h2 => by
    rw [rc_0] at h2
    rw [← of_decide_eq_true h2]; exact h
  | n + 1, q, h2 => by
    rcases (rc_s N b n q).mp h2 with h3 | ⟨c, h3, h4, h5⟩
    · exact rc_mono (rc_trans h n q h3) _ (by omega)
    · exact (rc_s N a (m + n) q).mpr (Or.inr ⟨c, h3, rc_trans h n c h4, h5⟩)
/-- the model's table on the way: as far as PLACES below b may lie between -/
def FW (N : Nat → Int32) (b : Nat) (D : Nat → Nat) : Prop :=
  (∀ i, i < 10 → D (10 * i + i) = 0) ∧ (∀ i j, i < 10 → j < 10 → D (10 * i + j) ≤ 99) ∧ (∀ i j, i < 10 → j < 10 → D (10 * i + j) < 99 → rc N i (D (10 * i + j)) j = true) ∧
  (∀ i j, i < 10 → j < 10 → wy N i j = true → D (10 * i + j) ≤ 1) ∧ (∀ l i j, l < b → i < 10 → j < 10 → D (10 * i + j) ≤ D (10 * i + l) + D (10 * l + j))
def fwS1 (D : Nat → Nat) (b t : Nat) : Nat := min (D t) (D (10 * (t / 10) + b) + D (10 * b + t % 10))
theorem fw_at (D : Nat → Nat) (b i j : Nat) (hj : j < 10) : fwS1 D b (10 * i + j) = min (D (10 * i + j)) (D (10 * i + b) + D (10 * b + j)) := by
  unfold fwS1
  rw [show (10 * i + j) / 10 = i by omega, show (10 * i + j) % 10 = j by omega]
theorem fw_step {N : Nat → Int32} {b : Nat} {D D' : Nat → Nat} (hb : b < 10) (h : FW N b D) (hD : ∀ t, t < 100 → D' t = fwS1 D b t) : FW N (b + 1) D' := by
  obtain ⟨h1, h2, h3, h4, h5⟩ := h
  have e : ∀ i j, i < 10 → j < 10 → D' (10 * i + j) = min (D (10 * i + j)) (D (10 * i + b) + D (10 * b + j)) := fun i j hi hj => by
    rw [hD _ (by omega), fw_at D b i j hj]
  have hbb := h1 b hb
  refine ⟨fun i hi => ?_, fun i j hi hj => ?_, fun i j hi hj hlt => ?_, fun i j hi hj hw => ?_, fun l i j hl hi hj => ?_⟩
  · have := h1 i hi
    rw [e i i hi hi]; omega
  · have := h2 i j hi hj
    rw [e i j hi hj]; omega
  · rw [e i j hi hj] at hlt ⊢
    by_cases c : D (10 * i + j) ≤ D (10 * i + b) + D (10 * b + j)
    · rw [Nat.min_eq_left c] at hlt ⊢
      exact h3 i j hi hj hlt
    · rw [Nat.min_eq_right (by omega)] at hlt ⊢
      exact rc_trans (h3 i b hi hb (by omega)) _ _ (h3 b j hb hj (by omega))
  · have := h4 i j hi hj hw
    rw [e i j hi hj]; omega
  · by_cases hlb : l = b
    · subst hlb
      rw [e i j hi hj, e i l hi hb, e l j hb hj]
      omega
    · have hl' : l < b := by omega
      rw [e i j hi hj, e i l hi (by omega), e l j (by omega) hj]
      have a1 := h5 l i j hl' hi hj
      have a2 := h5 l b j hl' hb hj
      have a3 := h5 l i b hl' hi hb
      omega
theorem fw_end {N : Nat → Int32} {D : Nat → Nat} {f : Nat → Int32} (h : FW N 10 D) (hf : ∀ t, t < 100 → f t = nI (D t)) : FAR N f := by
  obtain ⟨h1, h2, h3, h4, h5⟩ := h
  intro i j hi hj
  refine ⟨D (10 * i + j), by have := h2 i j hi hj; omega, hf _ (by omega), fun k hk => ⟨fun hd => rc_mono (h3 i j hi hj (by omega)) k hd, ?_⟩⟩
  have key : ∀ k j, j < 10 → rc N i k j = true → D (10 * i + j) ≤ k := by
    intro k
    induction k with
    | zero =>
      intro j hj hr
      rw [rc_0] at hr
      have e := of_decide_eq_true hr
      subst e
      exact Nat.le_of_eq (h1 i hi)
    | succ k ih =>
      intro j hj hr
      rcases (rc_s N i k j).mp hr with h6 | ⟨c, h6, h7, h8⟩
      · have := ih j hj h6; omega
      · have a1 := ih c h6 h7
        have a2 := h4 c j h6 hj h8
        have a3 := h5 c i j h6 hi hj
        omega
  exact key k j hj
/-- the table at first -/
def fw0 (N : Nat → Int32) (t : Nat) : Nat := if t / 10 = t % 10 then 0 else if vN N (104 + t) = 1 then 1 else 99
theorem fw_0 (N : Nat → Int32) : FW N 0 (fw0 N) := by
  have e : ∀ i j, i < 10 → j < 10 → fw0 N (10 * i + j) = if i = j then 0 else if wy N i j = true then 1 else 99 := fun i j hi hj => by
    unfold fw0 wy
    rw [show (10 * i + j) / 10 = i by omega, show (10 * i + j) % 10 = j by omega, ← Nat.add_assoc]
    simp
  refine ⟨fun i hi => ?_, fun i j hi hj => ?_, fun i j hi hj hlt => ?_, fun i j hi hj hw => ?_, fun l i j hl => absurd hl (Nat.not_lt_zero _)⟩
  · rw [e i i hi hi, if_pos rfl]
  · rw [e i j hi hj]
    split
    · omega
    · split <;> omega
  · rw [e i j hi hj] at hlt ⊢
    by_cases c : i = j
    · rw [if_pos c, rc_0]; exact decide_eq_true c
    · rw [if_neg c] at hlt ⊢
      by_cases c2 : wy N i j = true
      · rw [if_pos c2]
        exact (rc_s N i 0 j).mpr (Or.inr ⟨i, hi, decide_eq_true rfl, c2⟩)
      · rw [if_neg c2] at hlt; omega
  · rw [e i j hi hj]
    split
    · omega
    · exact Nat.le_refl _
theorem nI_min (a b : Nat) (ha : a < 2 ^ 31) (hb : b < 2 ^ 31) : (if nI b < nI a then nI b else nI a) = nI (min a b) := by
  by_cases h : b < a
  · rw [if_pos (nI_lt h ha), Nat.min_eq_right (by omega)]
  · rw [if_neg (nI_nlt (by omega) hb), Nat.min_eq_left (by omega)]
section MF
variable {G : xG} {d : Nat} {M : xM} {N : Nat → Int32} {Q : Option Value → xH → Prop}
theorem xrow_at (M : xM) (a : Nat) (f : Nat → Int32) : xrow M a f a = f := if_pos rfl
set_option maxRecDepth 4000 in
theorem m_measure (hn : M 60 = N) (hw : Wf N) (q : ∀ f, FAR N f → Q none (HH (xup (xrow M 63 f) 59 5 1))) : CW G d jX9_measure [.ref 59] (HH M) Q := by
  refine CW_wp fX9_measure rfl rfl rfl ?_
  have l3 : ∀ b, b < 10 → ∀ D, (∀ t, t < 100 → D t ≤ 99) → D (10 * b + b) = 0 → (∀ f, (∀ t, t < 100 → f t = nI (fwS1 D b t)) → Ev G d jX9_measure 56 [some (.ref 59), some (.int (nI (b + 1))), none, none] [] (HH (xrow M 63 f)) 0 0 Q) → ∀ f, (∀ t, t < 100 → f t = nI (D t)) → Ev G d jX9_measure 64 [some (.ref 59), some (.int (nI b)), some (.int (nI 0)), none] [] (HH (xrow M 63 f)) 0 0 Q := by
    intro b hb D hD hbb q2 f hf
    have hsmall : ∀ t, t < 100 → fwS1 D b t ≤ 99 := fun t ht => by
      have := hD t ht
      unfold fwS1; omega
    refine dn (E := fun i => ∀ f, (∀ t, t < i → f t = nI (fwS1 D b t)) → (∀ t, i ≤ t → t < 100 → f t = nI (D t)) → Ev G d jX9_measure 64 [some (.ref 59), some (.int (nI b)), some (.int (nI i)), none] [] (HH (xrow M 63 f)) 0 0 Q) (Nat.zero_le 100) (fun f h1 _ => ?_) (fun i _ h2 ih f h3 h4 => ?_) f (fun t ht => absurd ht (Nat.not_lt_zero _)) (fun t _ ht => hf t ht)
    · refine Ev_wp fX9_measure rfl ?_
      have h5 := q2 f h1
      rw [nI_succ] at h5
      exact h5
    · refine Ev_wp fX9_measure rfl ?_
      refine xelse (nI_ge h2 (by decide)) ?_
      have e1 : nI i / 10 * 10 + nI b = nI (10 * (i / 10) + b) := by
        rw [Nat.mul_comm]
        exact ia (im (idv rfl rfl (by omega) (by decide) (by decide)) rfl) rfl
      refine xl1 (l := (10 : Int32) = 0) (by decide) ?_
      refine xix (n := 100) (10 * (i / 10) + b) e1 (by omega) (by decide) (fun e => ?_)
      rw [e]
      have e2 : 10 * nI b + (nI i - nI i / 10 * 10) = nI (10 * b + i % 10) := ia (im rfl rfl) (irm rfl rfl (by omega) (by decide) (by decide))
      refine xl1 (l := (10 : Int32) = 0) (by decide) ?_
      refine xix (n := 100) (10 * b + i % 10) e2 (by omega) (by decide) (fun e => ?_)
      rw [e]
      refine xix (n := 100) i rfl h2 (by decide) (fun e => ?_)
      rw [e]
      refine xix (n := 100) i rfl h2 (by decide) (fun e => ?_)
      rw [e, xrow_at]
      have f1 : ∀ t, t < 100 → t % 10 = b ∨ t / 10 = b → f t = nI (D t) := fun t ht hx => by
        by_cases c : t < i
        · rw [h3 t c]
          congr 1
          unfold fwS1
          rcases hx with hx | hx
          · rw [hx, hbb, show 10 * (t / 10) + b = t by omega]; omega
          · rw [hx, hbb, show 10 * b + t % 10 = t by omega]; omega
        · exact h4 t (by omega) ht
      have hd1 := hD (10 * (i / 10) + b) (by omega)
      have hd2 := hD (10 * b + i % 10) (by omega)
      have hd3 := hD i h2
      rw [f1 (10 * (i / 10) + b) (by omega) (by omega), f1 (10 * b + i % 10) (by omega) (by omega), h4 i (Nat.le_refl _) h2, nI_add, nI_min _ _ (by omega) (by omega), xup_row]
      have h6 := ih (upd f i (nI (min (D i) (D (10 * (i / 10) + b) + D (10 * b + i % 10))))) (fun t ht => by
        unfold upd
        by_cases c : t = i
        · subst c; rw [if_pos rfl]; rfl
        · rw [if_neg c]; exact h3 t (by omega)) (fun t ht1 ht2 => by
        unfold upd
        rw [if_neg (by omega)]; exact h4 t (by omega) ht2)
      rw [nI_succ] at h6
      exact h6
  have l2 : ∀ f D, FW N 0 D → (∀ t, t < 100 → f t = nI (D t)) → Ev G d jX9_measure 56 [some (.ref 59), some (.int (nI 0)), none, none] [] (HH (xrow M 63 f)) 0 0 Q := by
    intro f D h1 h2
    refine dn (E := fun b => ∀ f D, FW N b D → (∀ t, t < 100 → f t = nI (D t)) → Ev G d jX9_measure 56 [some (.ref 59), some (.int (nI b)), none, none] [] (HH (xrow M 63 f)) 0 0 Q) (Nat.zero_le 10) (fun f D h1 h2 => ?_) (fun b _ hb ih f D h1 h2 => ?_) f D h1 h2
    · refine Ev_wp fX9_measure rfl ?_
      exact q f (fw_end h1 h2)
    · refine Ev_wp fX9_measure rfl ?_
      refine xelse (nI_ge hb (by decide)) ?_
      exact l3 b hb D (fun t ht => by
        have := h1.2.1 (t / 10) (t % 10) (by omega) (by omega)
        rw [show 10 * (t / 10) + t % 10 = t by omega] at this
        exact this) (h1.1 b hb) (fun f' hf' => ih f' (fwS1 D b) (fw_step hb h1 (fun _ _ => rfl)) hf') f h2
  have l1 : ∀ i, i ≤ 100 → ∀ f, (∀ t, t < i → f t = nI (fw0 N t)) → Ev G d jX9_measure 2 [some (.ref 59), some (.int (nI i)), none, none] [] (HH (xrow M 63 f)) 0 0 Q := by
    intro i hi
    refine dn (E := fun i => ∀ f, (∀ t, t < i → f t = nI (fw0 N t)) → Ev G d jX9_measure 2 [some (.ref 59), some (.int (nI i)), none, none] [] (HH (xrow M 63 f)) 0 0 Q) hi (fun f hf => ?_) (fun i _ h2 ih f hf => ?_)
    · refine Ev_wp fX9_measure rfl ?_
      exact l2 f (fw0 N) (fw_0 N) hf
    · refine Ev_wp fX9_measure rfl ?_
      refine xelse (nI_ge h2 (by decide)) ?_
      have hu : ∀ v, v = nI (fw0 N i) → Ev G d jX9_measure 2 [some (.ref 59), some (.int (nI i + 1)), none, none] [] (HH (xup (xrow M 63 f) 63 i v)) 0 0 Q := fun v hv => by
        rw [xup_row, ← nI_succ]
        refine ih (upd f i v) (fun t ht => ?_)
        unfold upd
        by_cases c : t = i
        · subst c; rw [if_pos rfl]; exact hv
        · rw [if_neg c]; exact hf t (by omega)
      refine xl2 (l := (10 : Int32) = 0) (by decide) ?_
      refine xeq (i / 10) (i % 10) (idv rfl rfl (by omega) (by decide) (by decide)) (irm rfl rfl (by omega) (by decide) (by decide)) (by omega) (by omega) (fun c => ?_) (fun c => ?_)
      · refine xix (n := 100) i rfl h2 (by decide) (fun e => ?_)
        rw [e]
        exact hu _ (by rw [fw0, if_pos c]; rfl)
      · refine xix (n := 598) (104 + i) (ia rfl rfl) (by omega) (by decide) (fun e => ?_)
        rw [e, show xrow M 63 f 60 = M 60 from rfl, hn]
        have hv := hw.2.2.2.2.1 (i / 10) (i % 10) (by omega) (by omega)
        rw [show 104 + 10 * (i / 10) + i % 10 = 104 + i by omega] at hv
        refine xeq (vN N (104 + i)) 1 hv.1 rfl (by omega) (by decide) (fun c2 => ?_) (fun c2 => ?_)
        · refine xix (n := 100) i rfl h2 (by decide) (fun e => ?_)
          rw [e]
          exact hu _ (by rw [fw0, if_neg c, if_pos c2]; rfl)
        · refine xix (n := 100) i rfl h2 (by decide) (fun e => ?_)
          rw [e]
          exact hu _ (by rw [fw0, if_neg c, if_neg c2]; rfl)
  have h0 := l1 0 (by decide) (M 63) (fun t ht => absurd ht (Nat.not_lt_zero _))
  rw [xrow_self] at h0
  exact h0
theorem m_farOf (hn : M 60 = N) (hw : Wf N) (hr : SR N M) {x y : Int32} (a b : Nat) (ha : a < 10) (hb : b < 10) (hx : x = nI a) (hy : y = nI b) (q : ∀ M', Rm N M M' → ∀ D, D < 100 → (∀ k, k < 99 → (D ≤ k ↔ rc N a k b = true)) → ∀ r, r = nI D → Q (some (.int r)) (HH M')) : CW G (d + 1) jX9_farOf [.ref 59, .int x, .int y] (HH M) Q := by
  refine CW_wp fX9_farOf rfl rfl rfl ?_
  rcases hr with hr | ⟨hr, hf⟩
  · refine xif hr ?_
    refine m_measure hn hw (fun f hf => ?_)
    refine xix (n := 100) (10 * a + b) (ia (im rfl hx) hy) (by omega) (by decide) (fun e => ?_)
    rw [e]
    obtain ⟨D, h1, h2, h3⟩ := hf a b ha hb
    exact q _ ⟨fun r h4 h5 => by
      unfold xup
      rw [xrow_ne h4, xrow_ne h5], fun k hk => by
      unfold xup
      rw [xrow_at, pk_un hk, xrow_ne (by decide)], Or.inr ⟨rfl, hf⟩⟩ D h1 h3 _ h2
  · refine xelse (b1 hr) ?_
    refine xix (n := 100) (10 * a + b) (ia (im rfl hx) hy) (by omega) (by decide) (fun e => ?_)
    rw [e]
    obtain ⟨D, h1, h2, h3⟩ := hf a b ha hb
    exact q _ (Rm.refl (Or.inr ⟨hr, hf⟩)) D h1 h3 _ h2
theorem m_near (hn : M 60 = N) (hw : Wf N) (hr : SR N M) {x y : Int32} (a k : Nat) (ha : a < 10) (hk : k < 99) (hx : x = nI a) (hy : y = nI k) (q : ∀ M', Rm N M M' → ∀ r, r = nI (bts (rc N a k) 10) → Q (some (.int r)) (HH M')) : CW G (d + 2) jX9_near [.ref 59, .int x, .int y] (HH M) Q := by
  refine CW_wp fX9_near rfl rfl rfl ?_
  refine dn (E := fun i => ∀ M', Rm N M M' → Ev G (d + 2) jX9_near 5 [some (.ref 59), some (.int x), some (.int y), some (.int (nI (bts (rc N a k) i))), some (.int (nI i))] [] (HH M') 0 0 Q) (Nat.zero_le 10) (fun M' hm => ?_) (fun i _ h2 ih M' hm => ?_) M (Rm.refl hr)
  · refine Ev_wp fX9_near rfl ?_
    exact q M' hm _ rfl
  · refine Ev_wp fX9_near rfl ?_
    refine xelse (nI_ge h2 (by decide)) ?_
    refine m_farOf (hm.n hn) hw hm.2.2 a i ha h2 hx rfl (fun M'' hm2 D hD hd r hr => ?_)
    have ih := ih M'' (hm.trans hm2)
    rw [nI_succ, bts] at ih
    refine xlt k D hy hr (by omega) (by omega) (fun c => ?_) (fun c => ?_)
    · rw [if_neg (fun z => by have := (hd k hk).mpr z; omega), ← nx_or] at ih
      exact ih
    · rw [if_pos ((hd k hk).mp c), ← nx_or, ← nx_shl i (by omega)] at ih
      exact ih
theorem m_reachesOf (hn : M 60 = N) (hw : Wf N) (hr : SR N M) {x : Int32} (s : Nat) (hs : s < sN N) (hx : x = nI s) (q : ∀ M', Rm N M M' → ∀ r, r = nI (bts (arS N s) 10) → Q (some (.int r)) (HH M')) : CW G (d + 3) jX9_reachesOf [.ref 59, .int x] (HH M) Q := by
  have wa := hw.2.2.2.2.2.2.2.1 s hs
  refine CW_wp fX9_reachesOf rfl rfl rfl ?_
  refine m_of hn hw s 3 hs (by decide) hx rfl (fun r1 h1 => ?_)
  refine m_reach hn hw s hs hx (fun r2 h2 => ?_)
  have := reachK_le (sF N s 0) (sF N s 2) wa.2.2.2.1
  exact m_near hn hw hr (sF N s 3) (reachK (sF N s 0) (sF N s 2)) wa.2.2.2.2.1 (by omega) h1 h2 q
theorem m_isHeardAt (hn : M 60 = N) (hw : Wf N) (hr : SR N M) {x z y v : Int32} (s p D t : Nat) (hs : s < sN N) (hpl : p < 10) (hD : D < 100) (ht : t < 24) (hx : x = nI s) (hz : z = nI p) (hy : y = nI D) (hv : v = nI t) (q1 : ∀ M', Rm N M M' → htS N p D t s = true → Q (some (.int 1)) (HH M')) (q0 : ∀ M', Rm N M M' → htS N p D t s = false → Q (some (.int 0)) (HH M')) : CW G (d + 4) jX9_isHeardAt [.ref 59, .int x, .int z, .int y, .int v] (HH M) Q := by
  have wa := hw.2.2.2.2.2.2.2.1 s hs
  have r0 := Rm.refl hr
  refine CW_wp fX9_isHeardAt rfl rfl rfl ?_
  refine m_of hn hw s 4 hs (by decide) hx rfl (fun r1 h1 => ?_)
  refine xeq _ _ h1 hv (by omega) (by omega) (fun c => ?_) (fun c => q0 M r0 (by simp [htS, c]))
  refine m_isHeard hn hw s D hs hD hx hy (fun c2 => ?_) (fun c2 => q0 M r0 (by simp [htS, haS, c2]))
  refine m_reachesOf hn hw hr s hs hx (fun M' hm r2 h2 => ?_)
  have hb := bts31 (arS N s) (show 10 ≤ 30 by decide)
  refine m_has (bts (arS N s) 10) p h2 hb hz (by omega) (fun c3 => q1 M' hm ?_) (fun c3 => q0 M' hm ?_)
  · rw [tb_bts] at c3
    simp [hpl] at c3
    simp [htS, haS, c, c2, c3]
  · rw [tb_bts] at c3
    simp [hpl] at c3
    simp [htS, haS, c3]
theorem m_heardAt (hn : M 60 = N) (hw : Wf N) (hr : SR N M) {z y v : Int32} (p D t : Nat) (hpl : p < 10) (hD : D < 100) (ht : t < 24) (hz : z = nI p) (hy : y = nI D) (hv : v = nI t) (q : ∀ M', Rm N M M' → ∀ r, r = nI (cn (htS N p D t) (sN N)) → Q (some (.int r)) (HH M')) : CW G (d + 5) jX9_heardAt [.ref 59, .int z, .int y, .int v] (HH M) Q := by
  have h40 := hw.2.1.2
  have hge : ∀ M', Rm N M M' → M' 60 1 ≤ nI (sN N) := fun M' hm => by rw [hm.n hn, hw.2.1.1]; exact Int32.le_refl _
  have hlt : ∀ M', Rm N M M' → ∀ i, i < sN N → ¬ M' 60 1 ≤ nI i := fun M' hm i hi => by rw [hm.n hn, hw.2.1.1]; exact nI_ge hi (by omega)
  refine CW_wp fX9_heardAt rfl rfl rfl ?_
  refine dn (E := fun i => ∀ M', Rm N M M' → Ev G (d + 5) jX9_heardAt 6 [some (.ref 59), some (.int z), some (.int y), some (.int v), some (.int (nI (cn (htS N p D t) i))), some (.int (nI i))] [] (HH M') 0 0 Q) (Nat.zero_le (sN N)) (fun M' hm => ?_) (fun i _ h2 ih M' hm => ?_) M (Rm.refl hr)
  · refine Ev_wp fX9_heardAt rfl ?_
    exact xif (hge M' hm) (by exact q M' hm _ rfl)
  · refine Ev_wp fX9_heardAt rfl ?_
    refine xelse (hlt M' hm i h2) ?_
    refine m_isHeardAt (hm.n hn) hw hm.2.2 i p D t h2 hpl hD ht rfl hz hy hv (fun M'' hm2 c => ?_) (fun M'' hm2 c => ?_)
    · have ih := ih M'' (hm.trans hm2)
      rw [nI_succ, cn, if_pos c, nI_succ] at ih
      exact ih
    · have ih := ih M'' (hm.trans hm2)
      rw [nI_succ, cn, if_neg (by simp [c]), ← nI_add] at ih
      exact ih
theorem m_hearsIt (hn : M 60 = N) (hw : Wf N) (hr : SR N M) {x z y : Int32} (p s D : Nat) (hs : s < sN N) (hpl : p < 6) (hD : D < 100) (hx : x = nI p) (hz : z = nI s) (hy : y = nI D) (q1 : ∀ M', Rm N M M' → heS N p s D = true → Q (some (.int 1)) (HH M')) (q0 : ∀ M', Rm N M M' → heS N p s D = false → Q (some (.int 0)) (HH M')) : CW G (d + 4) jX9_hearsIt [.ref 59, .int x, .int z, .int y] (HH M) Q := by
  have wa := hw.2.2.2.2.2.2.2.1 s hs
  have r0 := Rm.refl hr
  refine CW_wp fX9_hearsIt rfl rfl rfl ?_
  refine m_of hn hw s 4 hs (by decide) hz rfl (fun r1 h1 => ?_)
  refine m_whereIs hn p (sF N s 4) hpl wa.2.2.2.2.2.1 hx h1 ?_
  rcases wh_c hw hpl wa.2.2.2.2.2.1 with e | ⟨a, ha, e⟩
  · rw [e]
    exact q0 M r0 (by simp [heS, e])
  · rw [e]
    have e2 : (nI a).toNatClampNeg = a := nI_clamp (by omega)
    have e3 : nI a ≠ -1 := fun z => absurd (z ▸ nI_pos' (show a < 2 ^ 31 by omega)) (by decide)
    refine xelse (nI_pos (by omega)) ?_
    refine m_isHeard hn hw s D hs hD hz hy (fun c2 => ?_) (fun c2 => q0 M r0 (by simp [heS, c2]))
    refine m_reachesOf hn hw hr s hs hz (fun M' hm r2 h2 => ?_)
    have hb := bts31 (arS N s) (show 10 ≤ 30 by decide)
    refine m_has (bts (arS N s) 10) a h2 hb rfl (by omega) (fun c3 => q1 M' hm ?_) (fun c3 => q0 M' hm ?_)
    · rw [tb_bts] at c3
      simp [ha] at c3
      simp [heS, e, e2, e3, c2, c3]
    · rw [tb_bts] at c3
      simp [ha] at c3
      simp [heS, e, e2, c3]
theorem m_isNear (hn : M 60 = N) (hw : Wf N) (hr : SR N M) {x z y v : Int32} (p a l t : Nat) (hpl : p < 6) (ha : a < 10) (hl : l ≤ 9) (ht : t < 24) (hx : x = nI p) (hz : z = nI a) (hy : y = nI l) (hv : v = nI t) (q1 : ∀ M', Rm N M M' → ∀ b, b < 10 → wh N p t = nI b → rc N a (l / 3) b = true → Q (some (.int 1)) (HH M')) (q0 : ∀ M', Rm N M M' → (wh N p t = -1 ∨ ∃ b, b < 10 ∧ wh N p t = nI b ∧ rc N a (l / 3) b = false) → Q (some (.int 0)) (HH M')) : CW G (d + 3) jX9_isNear [.ref 59, .int x, .int z, .int y, .int v] (HH M) Q := by
  have r0 := Rm.refl hr
  refine CW_wp fX9_isNear rfl rfl rfl ?_
  refine m_whereIs hn p t hpl ht hx hv ?_
  rcases wh_c hw hpl ht with e | ⟨b, hb0, e⟩
  · rw [e]
    exact q0 M r0 (Or.inl e)
  · rw [e]
    refine xelse (nI_pos (by omega)) ?_
    refine m_near hn hw hr a (l / 3) ha (by omega) hz (idv hy rfl (by omega) (by decide) (by decide)) (fun M' hm r2 h2 => ?_)
    have hb := bts31 (rc N a (l / 3)) (show 10 ≤ 30 by decide)
    refine m_has (bts (rc N a (l / 3)) 10) b h2 hb rfl (by omega) (fun c3 => q1 M' hm b hb0 e ?_) (fun c3 => q0 M' hm (Or.inr ⟨b, hb0, e, ?_⟩))
    · rw [tb_bts] at c3
      simpa [hb0] using c3
    · rw [tb_bts] at c3
      simpa [hb0] using c3
end MF
end
section
/-! The class's further questions. -/
def agO (N : Nat → Int32) (own D : Nat) : Nat := (D - own) + rs N (own + 1) (D - own)
def opS (N : Nat → Int32) (p q : Nat) : Bool := decide (p = q) || wy N p q
theorem agO_s (N : Nat → Int32) {own D : Nat} (h : own ≤ D) : agO N own (D + 1) = agO N own D + 1 + vN N (4 + (D + 1)) := by
  unfold agO
  rw [show D + 1 - own = (D - own) + 1 by omega, rs, show own + 1 + (D - own) = D + 1 by omega]
  omega
theorem agO_le (N : Nat → Int32) (hw : Wf N) {own D : Nat} (h : own ≤ D) (hD : D < 100) : agO N own D ≤ 200 := by
  have := rs_le N hw (own + 1) (D - own) (by omega)
  unfold agO; omega
theorem bts_0 (n : Nat) : bts (fun _ => false) n = 0 := (bts_eq (fun i => by simp)).symm
theorem anyN_s (P : Nat → Bool) (n : Nat) : anyN P (n + 1) = (anyN P n || P n) := rfl
section CM
variable {G : xG} {d : Nat} {M : xM} {N : Nat → Int32} {Q : Option Value → xH → Prop}
theorem c_has (hp : PV 1 N M) {x y : Int32} (a b : Nat) (ha : a < 10) (hb : b < 10) (hx : x = nI a) (hy : y = nI b) (q1 : wy N a b = true → Q (some (.int 1)) (HH M)) (q0 : wy N a b = false → Q (some (.int 0)) (HH M)) : CW G (d + 1) jX7_has [.ref 2, .int x, .int y] (HH M) Q := by
  subst hx hy
  have hnear : ∀ p, p < 10 → M 3 p = nI (bts (wy N p) 10) := hp.2.2.2.2.2.1
  refine CW_wp fX7_has rfl rfl rfl ?_
  refine c_isPlace _ (fun p hp e => ?_) (fun e => absurd rfl (e a ha))
  refine xix (n := 10) a rfl ha (by decide) (fun e => ?_)
  rw [e, hnear a ha]
  have hb2 := bts31 (wy N a) (show 10 ≤ 30 by decide)
  refine c_isIn (bts (wy N a) 10) b (nI_l hb2) (by omega) rfl (by omega) (fun c => q1 ?_) (fun c => q0 ?_)
  · rw [tb_bts] at c
    simpa [hb] using c
  · rw [tb_bts] at c
    simpa [hb] using c
theorem c_isOpen (hp : PV 1 N M) {x y : Int32} (a b : Nat) (ha : a < 10) (hb : b < 10) (hx : x = nI a) (hy : y = nI b) (q1 : opS N a b = true → Q (some (.int 1)) (HH M)) (q0 : opS N a b = false → Q (some (.int 0)) (HH M)) : CW G (d + 2) jX7_isOpen [.ref 2, .int x, .int y] (HH M) Q := by
  refine CW_wp fX7_isOpen rfl rfl rfl ?_
  refine xeq a b hx hy (by omega) (by omega) (fun c => q1 (by simp [opS, c])) (fun c => ?_)
  exact c_has hp a b ha hb hx hy (fun c2 => q1 (by simp [opS, c2])) (fun c2 => q0 (by simp [opS, c, c2]))
theorem c_placeOf (hp : PV 1 N M) {x y : Int32} (p t : Nat) (hpl : p < 6) (ht : t < 24) (hx : x = nI p) (hy : y = nI t) (q : Q (some (.int (wh N p t))) (HH M)) : CW G d jX1_placeOf [.ref 11, .int x, .int y] (HH M) Q := by
  have hpp : ∀ q, q < 144 → M 12 q = N (444 + q) := hp.2.2.2.2.2.2.2.1
  refine CW_wp fX1_placeOf rfl rfl rfl ?_
  refine xix (n := 144) (p * 24 + t) (ia (im hx rfl) hy) (by omega) (by decide) (fun e => ?_)
  rw [e, hpp _ (by omega), Nat.mul_comm p 24]
  exact q
theorem c_numberAt (hp : PV 1 N M) {x y : Int32} (t : Nat) (ht : t < 24) (hy : y = nI t) (q : ∀ r, r = nI (cn (fun p => decide (wh N p t = x)) 6) → Q (some (.int r)) (HH M)) : CW G (d + 1) jX1_numberAt [.ref 11, .int x, .int y] (HH M) Q := by
  refine CW_wp fX1_numberAt rfl rfl rfl ?_
  refine dn (E := fun i => Ev G (d + 1) jX1_numberAt 5 [some (.ref 11), some (.int x), some (.int y), some (.int (nI (cn (fun p => decide (wh N p t = x)) i))), some (.int (nI i))] [] (HH M) 0 0 Q) (Nat.zero_le 6) ?_ (fun i _ h2 ih => ?_)
  · refine Ev_wp fX1_numberAt rfl ?_
    exact id (q _ rfl)
  · refine Ev_wp fX1_numberAt rfl ?_
    refine xelse (nI_ge h2 (by decide)) ?_
    refine c_placeOf hp i t (by omega) ht rfl hy ?_
    rw [nI_succ, cn] at ih
    refine xite (fun c => ?_) (fun c => ?_)
    · rw [if_pos (by simp [c]), nI_succ] at ih
      exact ih
    · rw [if_neg (by simp [c]), Nat.add_zero] at ih
      exact ih
/-- someone is at a PLACE in an HOUR -/
def tkS (N : Nat → Int32) (t p : Nat) : Bool := anyN (fun k => decide (wh N k t = nI p)) 6
theorem c_placesTaken (hp : PV 1 N M) (hw : Wf N) {y : Int32} (t : Nat) (ht : t < 24) (hy : y = nI t) (q : ∀ r, r = nI (bts (tkS N t) 10) → Q (some (.int r)) (HH M)) : CW G (d + 1) jX1_placesTaken [.ref 11, .int y] (HH M) Q := by
  refine CW_wp fX1_placesTaken rfl rfl rfl ?_
  have key : Ev G (d + 1) jX1_placesTaken 4 [some (.ref 11), some (.int y), some (.int (nI (bts (fun p => anyN (fun k => decide (wh N k t = nI p)) 0) 10))), some (.int (nI 0)), none] [] (HH M) 0 0 Q := by
    refine dn (E := fun i => Ev G (d + 1) jX1_placesTaken 4 [some (.ref 11), some (.int y), some (.int (nI (bts (fun p => anyN (fun k => decide (wh N k t = nI p)) i) 10))), some (.int (nI i)), none] [] (HH M) 0 0 Q) (Nat.zero_le 6) ?_ (fun i _ h2 ih => ?_)
    · refine Ev_wp fX1_placesTaken rfl ?_
      exact id (q _ rfl)
    · refine Ev_wp fX1_placesTaken rfl ?_
      refine xelse (nI_ge h2 (by decide)) ?_
      refine c_placeOf hp i t (by omega) ht rfl hy ?_
      rw [nI_succ] at ih
      rcases wh_c hw (show i < 6 by omega) ht with e | ⟨a, ha, e⟩
      · rw [e]
        rw [bts_congr (P' := fun p => anyN (fun k => decide (wh N k t = nI p)) i) (fun p hp2 => by
          show (anyN (fun k => decide (wh N k t = nI p)) i || decide (wh N i t = nI p)) = _
          rw [e, decide_eq_false (fun z => absurd (z ▸ nI_pos' (show p < 2 ^ 31 by omega)) (by decide)), Bool.or_false])] at ih
        exact ih
      · rw [e]
        refine xelse (fun z => absurd (z ▸ nI_pos' (show a < 2 ^ 31 by omega)) (by decide)) ?_
        have e4 : nI (bts (fun p => anyN (fun k => decide (wh N k t = nI p)) i) 10) ||| (1 : Int32) <<< (nI a &&& 31) = nI (bts (fun p => anyN (fun k => decide (wh N k t = nI p)) (i + 1)) 10) := by
          rw [nx_shl a (by omega), nx_or, bts_one a 10 ha, bts_or]
          congr 1
          refine bts_congr (fun p hp2 => ?_)
          show (anyN (fun k => decide (wh N k t = nI p)) i || decide (a = p)) = (anyN (fun k => decide (wh N k t = nI p)) i || decide (wh N i t = nI p))
          rw [e]
          congr 1
          exact decide_eq_decide.mpr (nI_eq (by omega) (by omega)).symm
        rw [← e4] at ih
        exact ih
  rw [show bts (fun p => anyN (fun k => decide (wh N k t = nI p)) 0) 10 = 0 from bts_0 10] at key
  exact key
theorem c_loudPlaces (hp : PV 1 N M) (hw : Wf N) {x : Int32} (D t : Nat) (hD : D < 100) (ht : t < 24) (hx : x = nI (100 * D + t)) (q : ∀ r, r = nI (bts (fun p => anyN (htS N p D t) (sN N)) 10) → Q (some (.int r)) (HH M)) : CW G (d + 5) jX5_loudPlaces [.ref 1, .int x] (HH M) Q := by
  subst hx
  have hn := hw.2.1.2
  have e1 : M 4 0 = nI (sN N) := hp.2.1.trans hw.2.1.1
  obtain ⟨w1, w2⟩ := when_div D t hD ht
  refine CW_wp fX5_loudPlaces rfl rfl rfl ?_
  have key : Ev G (d + 5) jX5_loudPlaces 4 [some (.ref 1), some (.int (nI (100 * D + t))), some (.int (nI (bts (fun p => anyN (htS N p D t) 0) 10))), some (.int (nI 0))] [] (HH M) 0 0 Q := by
    refine dn (E := fun i => Ev G (d + 5) jX5_loudPlaces 4 [some (.ref 1), some (.int (nI (100 * D + t))), some (.int (nI (bts (fun p => anyN (htS N p D t) i) 10))), some (.int (nI i))] [] (HH M) 0 0 Q) (Nat.zero_le (sN N)) ?_ (fun i _ h2 ih => ?_)
    · refine Ev_wp fX5_loudPlaces rfl ?_
      exact xif (by rw [e1]; exact Int32.le_refl _) (by exact q _ rfl)
    · refine Ev_wp fX5_loudPlaces rfl ?_
      refine xelse (by rw [e1]; exact nI_ge h2 (by omega)) ?_
      rw [nI_succ] at ih
      have wa := hw.2.2.2.2.2.2.2.1 i h2
      refine xelse (nin (n := 40) (by omega) (by decide)) ?_
      rw [nI_clamp (by omega)]
      refine c_hourOf _ ?_
      rw [w2]
      have no : (∀ p, htS N p D t i = false) → bts (fun p => anyN (htS N p D t) (i + 1)) 10 = bts (fun p => anyN (htS N p D t) i) 10 := fun hz => bts_congr (fun p _ => by rw [anyN_s, hz p, Bool.or_false])
      refine xeq (sF N i 4) t (hp.say hw h2 (show 4 < 6 by decide)) rfl (by omega) (by omega) (fun c => ?_) (fun c => ?_)
      · refine c_dayOf _ ?_
        rw [w1]
        refine c_isHeard hp hw i D h2 (by omega) rfl rfl (fun c2 => ?_) (fun c2 => ?_)
        · refine c_around hp hw i h2 rfl (fun r hr => ?_)
          subst hr
          have e4 : nI (bts (fun p => anyN (htS N p D t) i) 10) ||| nI (bts (arS N i) 10) = nI (bts (fun p => anyN (htS N p D t) (i + 1)) 10) := by
            rw [nx_or, bts_or]
            congr 1
            exact bts_congr (fun p _ => by rw [anyN_s]; simp [htS, haS, c, c2])
          rw [← e4] at ih
          exact ih
        · rw [no (fun p => by simp [htS, haS, c2])] at ih
          exact ih
      · rw [no (fun p => by simp [htS, c])] at ih
        exact ih
  rw [show bts (fun p => anyN (htS N p D t) 0) 10 = 0 from bts_0 10] at key
  exact key
theorem c_heardOn (hp : PV 1 N M) (hw : Wf N) {x : Int32} (D : Nat) (hD : D < 100) (hx : x = nI D) (q : ∀ r, r = nI (cn (fun s => hdS N s D) (sN N)) → Q (some (.int r)) (HH M)) : CW G (d + 4) jX5_heardOn [.ref 1, .int x] (HH M) Q := by
  have hn := hw.2.1.2
  have e1 : M 4 0 = nI (sN N) := hp.2.1.trans hw.2.1.1
  refine CW_wp fX5_heardOn rfl rfl rfl ?_
  refine dn (E := fun i => Ev G (d + 4) jX5_heardOn 4 [some (.ref 1), some (.int x), some (.int (nI (cn (fun s => hdS N s D) i))), some (.int (nI i))] [] (HH M) 0 0 Q) (Nat.zero_le (sN N)) ?_ (fun i _ h2 ih => ?_)
  · refine Ev_wp fX5_heardOn rfl ?_
    exact xif (by rw [e1]; exact Int32.le_refl _) (by exact q _ rfl)
  · refine Ev_wp fX5_heardOn rfl ?_
    refine xelse (by rw [e1]; exact nI_ge h2 (by omega)) ?_
    rw [nI_succ, cn] at ih
    refine c_isHeard hp hw i D h2 (by omega) rfl hx (fun c2 => ?_) (fun c2 => ?_)
    · rw [if_pos c2, nI_succ] at ih
      exact ih
    · rw [if_neg (by simp [c2])] at ih
      exact ih
theorem c_lastDayOf (hp : PV 1 N M) (hw : Wf N) {x : Int32} (s : Nat) (hs : s < sN N) (hx : x = nI s) (q : ∀ L, sF N s 5 ≤ L → L < 100 → (∀ D, sF N s 5 < D → D ≤ L → hdS N s D = true) → (L = 99 ∨ hdS N s (L + 1) = false) → ∀ r, r = (if L = sF N s 5 then -1 else nI L) → Q (some (.int r)) (HH M)) : CW G (d + 4) jX5_lastDayOf [.ref 1, .int x] (HH M) Q := by
  subst hx
  have hn := hw.2.1.2
  have w0 := hw.1.2
  have wa := hw.2.2.2.2.2.2.2.1 s hs
  refine CW_wp fX5_lastDayOf rfl rfl rfl ?_
  refine xelse (nin (n := 40) (by omega) (by decide)) ?_
  rw [nI_clamp (by omega), show M 10 s = nI (sF N s 5) from hp.say hw hs (show 5 < 6 by decide)]
  have key : (∀ D, sF N s 5 < D → D ≤ sF N s 5 → hdS N s D = true) → Ev G (d + 4) jX5_lastDayOf 14 [some (.ref 1), some (.int (nI s)), some (.int (if sF N s 5 = sF N s 5 then -1 else nI (sF N s 5))), some (.int (nI (sF N s 5 + 1)))] [] (HH M) 0 0 Q := by
    refine dn (E := fun i => (∀ D, sF N s 5 < D → D ≤ i → hdS N s D = true) → Ev G (d + 4) jX5_lastDayOf 14 [some (.ref 1), some (.int (nI s)), some (.int (if i = sF N s 5 then -1 else nI i)), some (.int (nI (i + 1)))] [] (HH M) 0 0 Q) (show sF N s 5 ≤ 99 by omega) (fun hh => ?_) (fun i h1 h2 ih hh => ?_)
    · refine Ev_wp fX5_lastDayOf rfl ?_
      exact id (q 99 (by omega) (by decide) hh (Or.inl rfl) _ rfl)
    · refine Ev_wp fX5_lastDayOf rfl ?_
      refine xelse (nI_ge (b := 100) (by omega) (by decide)) ?_
      refine c_isHeard hp hw s (i + 1) hs (by omega) rfl rfl (fun c => ?_) (fun c => ?_)
      · have ih := ih (fun D hD1 hD2 => by
          by_cases z : D = i + 1
          · subst z; exact c
          · exact hh D hD1 (by omega))
        rw [if_neg (by omega), nI_succ (i + 1)] at ih
        exact ih
      · exact q i h1 (by omega) hh (Or.inr c) _ rfl
  have k2 := key (fun D h1 h2 => by omega)
  rw [if_pos rfl, nI_succ] at k2
  exact k2
theorem c_lastDayOfOnce (hp : PV 1 N M) (hw : Wf N) {x : Int32} (own : Nat) (ho : own < 100) (hx : x = nI own) (q : ∀ L, own ≤ L → L < 100 → (∀ D, own < D → D ≤ L → agO N own D ≤ vN N 2) → (L = 99 ∨ ¬ agO N own (L + 1) ≤ vN N 2) → Q (some (.int (nI L))) (HH M)) : CW G (d + 2) jX5_lastDayOfOnce [.ref 1, .int x] (HH M) Q := by
  subst hx
  have hk := hw.2.2.1.2
  refine CW_wp fX5_lastDayOfOnce rfl rfl rfl ?_
  refine c_lasting (HH M) 0 (vN N 2) (by decide) hk rfl (hp.2.2.1.trans hw.2.2.1.1) (fun r hr => ?_)
  have hr : r = nI (vN N 2) := hr
  subst hr
  have key : (∀ D, own < D → D ≤ own → agO N own D ≤ vN N 2) → Ev G (d + 2) jX5_lastDayOfOnce 16 [some (.ref 1), some (.int (nI own)), some (.int (nI (vN N 2))), some (.int (nI own)), some (.int (nI (own + 1)))] [] (HH M) 0 0 Q := by
    refine dn (E := fun i => (∀ D, own < D → D ≤ i → agO N own D ≤ vN N 2) → Ev G (d + 2) jX5_lastDayOfOnce 16 [some (.ref 1), some (.int (nI own)), some (.int (nI (vN N 2))), some (.int (nI i)), some (.int (nI (i + 1)))] [] (HH M) 0 0 Q) (show own ≤ 99 by omega) (fun hh => ?_) (fun i h1 h2 ih hh => ?_)
    · refine Ev_wp fX5_lastDayOfOnce rfl ?_
      exact id (q 99 (by omega) (by decide) hh (Or.inl rfl))
    · refine Ev_wp fX5_lastDayOfOnce rfl ?_
      refine xelse (nI_ge (b := 100) (by omega) (by decide)) ?_
      refine c_ageOf hp hw own (i + 1) rfl rfl (by omega) (by omega) (fun r hr => ?_)
      have hb := agO_le N hw (own := own) (D := i + 1) (by omega) (by omega)
      refine xlt (vN N 2) (agO N own (i + 1)) rfl hr (by omega) (by omega) (fun c => ?_) (fun c => ?_)
      · exact q i h1 (by omega) hh (Or.inr (by omega))
      · have ih := ih (fun D hD1 hD2 => by
          by_cases z : D = i + 1
          · subst z; exact c
          · exact hh D hD1 (by omega))
        rw [nI_succ (i + 1)] at ih
        exact ih
  have k2 := key (fun D h1 h2 => by omega)
  rw [nI_succ] at k2
  exact k2
theorem c_doesHear (hp : PV 1 N M) (hw : Wf N) {x z y : Int32} (p s D : Nat) (hs : s < sN N) (hpl : p < 6) (hD : D ≤ 100) (hx : x = nI p) (hz : z = nI s) (hy : y = nI D) (q1 : heS N p s D = true → Q (some (.int 1)) (HH M)) (q0 : heS N p s D = false → Q (some (.int 0)) (HH M)) : CW G (d + 5) jX5_doesHear [.ref 1, .int x, .int z, .int y] (HH M) Q := by
  have hn := hw.2.1.2
  have wa := hw.2.2.2.2.2.2.2.1 s hs
  refine CW_wp fX5_doesHear rfl rfl rfl ?_
  refine xix (n := 40) s hz (by omega) (by decide) (fun e => ?_)
  rw [e, show M 9 s = nI (sF N s 4) from hp.say hw hs (show 4 < 6 by decide)]
  refine c_placeOf hp p (sF N s 4) hpl wa.2.2.2.2.2.1 hx rfl ?_
  rcases wh_c hw hpl wa.2.2.2.2.2.1 with e | ⟨a, ha, e⟩
  · rw [e]
    exact q0 (by simp [heS, e])
  · rw [e]
    have e2 : (nI a).toNatClampNeg = a := nI_clamp (by omega)
    have e3 : nI a ≠ -1 := fun z => absurd (z ▸ nI_pos' (show a < 2 ^ 31 by omega)) (by decide)
    refine xelse e3 ?_
    refine c_isHeardAt hp hw s a D hs ha hD hz rfl hy (fun c => q1 ?_) (fun c => q0 ?_)
    · rw [haS] at c
      simp [heS, e, e2, e3, c]
    · rw [haS] at c
      simp only [heS, e, e2, c]
      simp
end CM
end
section
/-! THE INVARIANT between the class and the model. -/
def SK (M : xM) : Prop := (M 0 3 = 0 ∧ M 59 2 = 0) ∨ (M 0 3 = 1 ∧ M 59 2 = 1 ∧ Wf (M 61) ∧ PV 15 (M 61) M)
/-- findings counted: k = 0: alike; k = j + 1: the class has counted j, the model not yet -/
def SF (k : Nat) (M : xM) : Prop := (∀ i, i < 7 → M 50 i = M 62 (i + 1) + (if k = i + 1 then 1 else 0)) ∧ M 62 0 = M 62 1 + M 62 2 + M 62 3 + M 62 4 + M 62 5 + M 62 6 + M 62 7
def SW (M : xM) : Prop := ∃ L, L ≤ 24 ∧ M 46 0 = nI L ∧ M 59 8 = nI L ∧ ∀ i, i < L → M 47 i = M 65 i
def ST (M : xM) : Prop := ∃ T, T ≤ 120 ∧ M 43 0 = nI T ∧ M 59 10 = nI T ∧ ∀ i, i < T → M 44 i = M 66 i ∧ ∃ b, b < 256 ∧ M 66 i = nI b
def SS1 (a b s : Nat) (M : xM) : Prop := ∃ w n, (w = 0 ∨ w = 8 ∨ w = 16 ∨ w = 32) ∧ n ≤ 40 ∧ M a 0 = nI w ∧ M 69 s = nI w ∧ M a 1 = nI n ∧ M 70 s = nI n ∧ ∀ k, k < 40 → M b k = M 71 (40 * s + k)
def SS (M : xM) : Prop := SS1 51 52 0 M ∧ SS1 53 54 1 M ∧ SS1 55 56 2 M ∧ SS1 57 58 3 M
def Iv (k : Nat) (M : xM) : Prop := Wf (M 60) ∧ PV 1 (M 60) M ∧ SK M ∧ SF k M ∧ SR (M 60) M ∧ SW M ∧ ST M ∧ SS M
theorem PV.congr {b : Nat} {N : Nat → Int32} {M M' : xM} (h : ∀ r, b ≤ r → r ≤ b + 13 → M' r = M r) (p : PV b N M) : PV b N M' := by
  obtain ⟨p1, p2, p3, p4, p5, p6, p7, p8, p9⟩ := p
  refine ⟨?_, ?_, ?_, ?_, fun j hj => ?_, fun j hj => ?_, fun s hs f hf => ?_, fun j hj => ?_, fun j hj => ?_⟩
  · rw [h b (by omega) (by omega)]; exact p1
  · rw [h (b + 3) (by omega) (by omega)]; exact p2
  · rw [h b (by omega) (by omega)]; exact p3
  · rw [h b (by omega) (by omega)]; exact p4
  · rw [h (b + 12) (by omega) (by omega)]; exact p5 j hj
  · rw [h (b + 2) (by omega) (by omega)]; exact p6 j hj
  · rw [h (b + 4 + f) (by omega) (by omega)]; exact p7 s hs f hf
  · rw [h (b + 11) (by omega) (by omega)]; exact p8 j hj
  · rw [h (b + 13) (by omega) (by omega)]; exact p9 j hj
theorem PV.row {b a : Nat} {N : Nat → Int32} {M : xM} {f : Nat → Int32} (p : PV b N M) (h : a < b ∨ b + 13 < a) : PV b N (xrow M a f) := p.congr (fun r h1 h2 => xrow_ne (by omega))
theorem PV.up {b a k : Nat} {N : Nat → Int32} {M : xM} {v : Int32} (p : PV b N M) (h : a < b ∨ b + 13 < a) : PV b N (xup M a k v) := p.row h
theorem SK.row {a : Nat} {M : xM} {f : Nat → Int32} (h : SK M) (h0 : a ≠ 0 ∧ a ≠ 59 ∧ a ≠ 61 ∧ (a < 15 ∨ 28 < a)) : SK (xrow M a f) := by
  unfold SK at h ⊢
  rw [xrow_ne (Ne.symm h0.1), xrow_ne (Ne.symm h0.2.1), xrow_ne (Ne.symm h0.2.2.1)]
  rcases h with h | ⟨h1, h2, h3, h4⟩
  · exact Or.inl h
  · exact Or.inr ⟨h1, h2, h3, h4.row (by omega)⟩
theorem SK.up {a k : Nat} {M : xM} {v : Int32} (h : SK M) (h0 : a ≠ 0 ∧ a ≠ 59 ∧ a ≠ 61 ∧ (a < 15 ∨ 28 < a)) : SK (xup M a k v) := h.row h0
/-- the invariant where only STEPS have been measured anew -/
theorem Iv.rm {k : Nat} {M M' : xM} (I : Iv k M) (h : Rm (M 60) M M') : Iv k M' := by
  obtain ⟨i1, i2, i3, i4, i5, i6, i7, i8⟩ := I
  obtain ⟨h1, h2, h3⟩ := h
  have e : ∀ r, r ≠ 59 → r ≠ 63 → M' r = M r := h1
  have e60 : M' 60 = M 60 := e 60 (by decide) (by decide)
  refine ⟨by rw [e60]; exact i1, by rw [e60]; exact i2.congr (fun r _ hr => e r (by omega) (by omega)), ?_, ?_, by rw [e60]; exact h3, ?_, ?_, ?_⟩
  · unfold SK at i3 ⊢
    rw [e 0 (by decide) (by decide), h2 2 (by decide), e 61 (by decide) (by decide)]
    rcases i3 with i3 | ⟨a, b, c, d⟩
    · exact Or.inl i3
    · exact Or.inr ⟨a, b, c, d.congr (fun r _ hr => e r (by omega) (by omega))⟩
  · unfold SF at i4 ⊢
    rw [e 50 (by decide) (by decide), e 62 (by decide) (by decide)]
    exact i4
  · unfold SW at i6 ⊢
    rw [e 46 (by decide) (by decide), h2 8 (by decide), e 47 (by decide) (by decide), e 65 (by decide) (by decide)]
    exact i6
  · unfold ST at i7 ⊢
    rw [e 43 (by decide) (by decide), h2 10 (by decide), e 44 (by decide) (by decide), e 66 (by decide) (by decide)]
    exact i7
  · unfold SS SS1 at i8 ⊢
    rw [e 51 (by decide) (by decide), e 52 (by decide) (by decide), e 53 (by decide) (by decide), e 54 (by decide) (by decide), e 55 (by decide) (by decide), e 56 (by decide) (by decide), e 57 (by decide) (by decide), e 58 (by decide) (by decide), e 69 (by decide) (by decide), e 70 (by decide) (by decide), e 71 (by decide) (by decide)]
    exact i8
def fc (k : Nat) (M : xM) : xM := xup M 50 k (M 50 k + 1)
def fm (k : Nat) (M : xM) : xM := xup (xup M 62 (k + 1) (M 62 (k + 1) + 1)) 62 0 (M 62 0 + 1)
theorem iv_fc {k : Nat} {M : xM} (I : Iv 0 M) : Iv (k + 1) (fc k M) := by
  obtain ⟨i1, i2, i3, i4, i5, i6, i7, i8⟩ := I
  refine ⟨i1, i2.up (by decide), i3.up (by decide), ⟨fun i hi => ?_, i4.2⟩, i5, i6, i7, i8⟩
  have h := i4.1 i hi
  rw [if_neg (by omega)] at h
  show (if i = k then M 50 k + 1 else M 50 i) = M 62 (i + 1) + (if k + 1 = i + 1 then 1 else 0)
  by_cases c : i = k
  · subst c
    rw [if_pos rfl, if_pos rfl, h]
    rw [Int32.add_zero]
  · rw [if_neg c, if_neg (by omega), h]
theorem iv_fm {k : Nat} {M : xM} (hk : k < 7) (I : Iv (k + 1) M) : Iv 0 (fm k M) := by
  obtain ⟨i1, i2, i3, i4, i5, i6, i7, i8⟩ := I
  refine ⟨i1, (i2.up (by decide)).up (by decide), (i3.up (by decide)).up (by decide), ⟨fun i hi => ?_, ?_⟩, i5, i6, i7, i8⟩
  · have h := i4.1 i hi
    show M 50 i = (if i + 1 = 0 then M 62 0 + 1 else if i + 1 = k + 1 then M 62 (k + 1) + 1 else M 62 (i + 1)) + (if 0 = i + 1 then 1 else 0)
    rw [if_neg (by omega), if_neg (show ¬ 0 = i + 1 by omega)]
    by_cases c : i = k
    · subst c
      rw [if_pos rfl] at h ⊢
      rw [h, Int32.add_zero]
    · rw [if_neg (by omega)] at h ⊢
      exact h
  · have h := i4.2
    match k, hk with
    | 0, _ => show M 62 0 + 1 = (M 62 1 + 1) + M 62 2 + M 62 3 + M 62 4 + M 62 5 + M 62 6 + M 62 7; rw [h]; ac_rfl
    | 1, _ => show M 62 0 + 1 = M 62 1 + (M 62 2 + 1) + M 62 3 + M 62 4 + M 62 5 + M 62 6 + M 62 7; rw [h]; ac_rfl
    | 2, _ => show M 62 0 + 1 = M 62 1 + M 62 2 + (M 62 3 + 1) + M 62 4 + M 62 5 + M 62 6 + M 62 7; rw [h]; ac_rfl
    | 3, _ => show M 62 0 + 1 = M 62 1 + M 62 2 + M 62 3 + (M 62 4 + 1) + M 62 5 + M 62 6 + M 62 7; rw [h]; ac_rfl
    | 4, _ => show M 62 0 + 1 = M 62 1 + M 62 2 + M 62 3 + M 62 4 + (M 62 5 + 1) + M 62 6 + M 62 7; rw [h]; ac_rfl
    | 5, _ => show M 62 0 + 1 = M 62 1 + M 62 2 + M 62 3 + M 62 4 + M 62 5 + (M 62 6 + 1) + M 62 7; rw [h]; ac_rfl
    | 6, _ => show M 62 0 + 1 = M 62 1 + M 62 2 + M 62 3 + M 62 4 + M 62 5 + M 62 6 + (M 62 7 + 1); rw [h]; ac_rfl
    | k + 7, hk => exact absurd hk (by omega)
def nF : Nat → Int32
  | 0 => -1000001
  | 1 => -1000002
  | 2 => -1000003
  | 3 => -1000004
  | 4 => -1000005
  | 5 => -1000006
  | _ => -1000007
/-- the model's answer to a call that the class has answered r, and the state behind both -/
def Aft (G : xG) (j : Nat) (as : List Value) (r : Int32) (M1 : xM) : Prop := ∀ Q' : Option Value → xH → Prop, (∀ M2, Iv 0 M2 → Q' (some (.int r)) (HH M2)) → CW G 11 j as (HH M1) Q'
section FI
variable {G : xG} {d : Nat} {M : xM} {Q : Option Value → xH → Prop}
theorem c_fin0 (q : Q (some (.int (nF 0))) (HH (fc 0 M))) : CW G d jX8_finding [.ref 0, .int (-1000001)] (HH M) Q := by
  refine CW_wp fX8_finding rfl rfl rfl ?_
  exact q
theorem m_fin0 (I : Iv 1 M) (q : ∀ M2, Iv 0 M2 → Q (some (.int (nF 0))) (HH M2)) : CW G d jX9_finding [.ref 59, .int (-1000001)] (HH M) Q := by
  refine CW_wp fX9_finding rfl rfl rfl ?_
  exact q (fm 0 M) (iv_fm (by decide) I)
theorem c_fin1 (q : Q (some (.int (nF 1))) (HH (fc 1 M))) : CW G d jX8_finding [.ref 0, .int (-1000002)] (HH M) Q := by
  refine CW_wp fX8_finding rfl rfl rfl ?_
  exact q
theorem m_fin1 (I : Iv 2 M) (q : ∀ M2, Iv 0 M2 → Q (some (.int (nF 1))) (HH M2)) : CW G d jX9_finding [.ref 59, .int (-1000002)] (HH M) Q := by
  refine CW_wp fX9_finding rfl rfl rfl ?_
  exact q (fm 1 M) (iv_fm (by decide) I)
theorem c_fin2 (q : Q (some (.int (nF 2))) (HH (fc 2 M))) : CW G d jX8_finding [.ref 0, .int (-1000003)] (HH M) Q := by
  refine CW_wp fX8_finding rfl rfl rfl ?_
  exact q
theorem m_fin2 (I : Iv 3 M) (q : ∀ M2, Iv 0 M2 → Q (some (.int (nF 2))) (HH M2)) : CW G d jX9_finding [.ref 59, .int (-1000003)] (HH M) Q := by
  refine CW_wp fX9_finding rfl rfl rfl ?_
  exact q (fm 2 M) (iv_fm (by decide) I)
theorem c_fin3 (q : Q (some (.int (nF 3))) (HH (fc 3 M))) : CW G d jX8_finding [.ref 0, .int (-1000004)] (HH M) Q := by
  refine CW_wp fX8_finding rfl rfl rfl ?_
  exact q
theorem m_fin3 (I : Iv 4 M) (q : ∀ M2, Iv 0 M2 → Q (some (.int (nF 3))) (HH M2)) : CW G d jX9_finding [.ref 59, .int (-1000004)] (HH M) Q := by
  refine CW_wp fX9_finding rfl rfl rfl ?_
  exact q (fm 3 M) (iv_fm (by decide) I)
theorem c_fin4 (q : Q (some (.int (nF 4))) (HH (fc 4 M))) : CW G d jX8_finding [.ref 0, .int (-1000005)] (HH M) Q := by
  refine CW_wp fX8_finding rfl rfl rfl ?_
  exact q
theorem m_fin4 (I : Iv 5 M) (q : ∀ M2, Iv 0 M2 → Q (some (.int (nF 4))) (HH M2)) : CW G d jX9_finding [.ref 59, .int (-1000005)] (HH M) Q := by
  refine CW_wp fX9_finding rfl rfl rfl ?_
  exact q (fm 4 M) (iv_fm (by decide) I)
theorem c_fin5 (q : Q (some (.int (nF 5))) (HH (fc 5 M))) : CW G d jX8_finding [.ref 0, .int (-1000006)] (HH M) Q := by
  refine CW_wp fX8_finding rfl rfl rfl ?_
  exact q
theorem m_fin5 (I : Iv 6 M) (q : ∀ M2, Iv 0 M2 → Q (some (.int (nF 5))) (HH M2)) : CW G d jX9_finding [.ref 59, .int (-1000006)] (HH M) Q := by
  refine CW_wp fX9_finding rfl rfl rfl ?_
  exact q (fm 5 M) (iv_fm (by decide) I)
theorem c_fin6 (q : Q (some (.int (nF 6))) (HH (fc 6 M))) : CW G d jX8_finding [.ref 0, .int (-1000007)] (HH M) Q := by
  refine CW_wp fX8_finding rfl rfl rfl ?_
  exact q
theorem m_fin6 (I : Iv 7 M) (q : ∀ M2, Iv 0 M2 → Q (some (.int (nF 6))) (HH M2)) : CW G d jX9_finding [.ref 59, .int (-1000007)] (HH M) Q := by
  refine CW_wp fX9_finding rfl rfl rfl ?_
  exact q (fm 6 M) (iv_fm (by decide) I)
theorem c_isSaying {N : Nat → Int32} (hp : PV 1 N M) (hw : Wf N) (x : Int32) (q1 : ∀ s : Nat, s < sN N → x = nI s → Q (some (.int 1)) (HH M)) (q0 : (∀ s : Nat, s < sN N → x ≠ nI s) → Q (some (.int 0)) (HH M)) : CW G d jX8_isSaying [.ref 0, .int x] (HH M) Q := by
  have e1 : M 4 0 = nI (sN N) := hp.2.1.trans hw.2.1.1
  have h40 := hw.2.1.2
  refine CW_wp fX8_isSaying rfl rfl rfl ?_
  rcases n_ix x (sN N) (by omega) with ⟨p, hp, rfl⟩ | ⟨hx, hn⟩
  · refine xelse (nI_pos (by omega)) ?_
    refine xelse (by rw [e1]; exact nI_ge hp (by omega)) ?_
    exact q1 p hp rfl
  · refine xite (fun c => q0 hn) (fun c => ?_)
    exact xif (by rw [e1]; exact hx.resolve_left c) (by exact q0 hn)
end FI
end
section
/-! How many bits are set: the JDK's way, byte by byte. -/
theorem and_split (x m M : Nat) (hm : m < 256) : x &&& (m + 256 * M) = ((x % 256) &&& m) + 256 * ((x / 256) &&& M) := by
  have h1 : (x &&& (m + 256 * M)) % 2 ^ 8 = (x % 2 ^ 8) &&& ((m + 256 * M) % 2 ^ 8) := Nat.and_mod_two_pow
  have h2 : (x &&& (m + 256 * M)) / 2 ^ 8 = (x / 2 ^ 8) &&& ((m + 256 * M) / 2 ^ 8) := Nat.and_div_two_pow
  rw [show (m + 256 * M) % 2 ^ 8 = m by omega] at h1
  rw [show (m + 256 * M) / 2 ^ 8 = M by omega] at h2
  have h3 := Nat.div_add_mod (x &&& (m + 256 * M)) (2 ^ 8)
  rw [h1, h2] at h3
  rw [show (256 : Nat) = 2 ^ 8 from rfl] at *
  omega
def mk8 (m : Nat) : Nat → Nat
  | 0 => 0
  | k + 1 => m + 256 * mk8 m k
def g1 (k n : Nat) : Nat := n - (n / 2 &&& mk8 85 k)
def g2 (k n : Nat) : Nat := (n &&& mk8 51 k) + (n / 4 &&& mk8 51 k)
def g3 (k n : Nat) : Nat := (n + n / 16) &&& mk8 15 k
/-- bits of each byte, in that byte -/
def by8 : Nat → Nat → Nat
  | 0, _ => 0
  | k + 1, n => cn (n % 256).testBit 8 + 256 * by8 k (n / 256)
theorem mk8_s (m k : Nat) : mk8 m (k + 1) = m + 256 * mk8 m k := rfl
def f1 (a : Nat) : Nat := a - (a / 2 &&& 85)
def f2 (p : Nat) : Nat := (p &&& 51) + (p / 4 &&& 51)
theorem g1_a : ∀ a, a < 256 → ∀ c, c < 2 → (a / 2 + 128 * c) &&& 85 = a / 2 &&& 85 := by decide +kernel
theorem g2_a : ∀ a, a < 256 → ∀ c, c < 4 → (a / 4 + 64 * c) &&& 51 = a / 4 &&& 51 := by decide +kernel
theorem g_a : ∀ a, a < 256 → f1 a < 256 ∧ f2 (f1 a) % 16 ≤ 4 ∧ f2 (f1 a) ≤ 68 ∧ (f2 (f1 a) + f2 (f1 a) / 16) % 16 = cn a.testBit 8 := by decide +kernel
theorem and15 (x : Nat) : x &&& 15 = x % 16 := Nat.and_two_pow_sub_one_eq_mod x 4
theorem g1_s (k a b : Nat) (ha : a < 256) : g1 (k + 1) (a + 256 * b) = f1 a + 256 * g1 k b := by
  have h1 : (a / 2 &&& 85) ≤ a / 2 := Nat.and_le_left
  have h2 : (b / 2 &&& mk8 85 k) ≤ b / 2 := Nat.and_le_left
  unfold g1 f1
  rw [mk8_s, and_split _ 85 _ (by decide), show (a + 256 * b) / 2 % 256 = a / 2 + 128 * (b % 2) by omega, show (a + 256 * b) / 2 / 256 = b / 2 by omega, g1_a a ha _ (by omega)]
  omega
theorem g2_s (k p q : Nat) (hp : p < 256) : g2 (k + 1) (p + 256 * q) = f2 p + 256 * g2 k q := by
  unfold g2 f2
  rw [mk8_s, and_split _ 51 _ (by decide), and_split _ 51 _ (by decide), show (p + 256 * q) % 256 = p by omega, show (p + 256 * q) / 256 = q by omega, show (p + 256 * q) / 4 % 256 = p / 4 + 64 * (q % 4) by omega, show (p + 256 * q) / 4 / 256 = q / 4 by omega, g2_a p hp _ (by omega)]
  omega
theorem g3_s (k y z : Nat) (hy : y ≤ 68) (hz : z % 16 ≤ 4) : g3 (k + 1) (y + 256 * z) = (y + y / 16) % 16 + 256 * g3 k z := by
  unfold g3
  rw [mk8_s, and_split _ 15 _ (by decide), and15, show (y + 256 * z + (y + 256 * z) / 16) % 256 % 16 = (y + y / 16) % 16 by omega, show (y + 256 * z + (y + 256 * z) / 16) / 256 = z + z / 16 by omega]
theorem g_by : ∀ (k n : Nat), n < 256 ^ k → g2 k (g1 k n) % 16 ≤ 4 ∧ g3 k (g2 k (g1 k n)) = by8 k n
  | 0, n, h => by
    have : n = 0 := by simpa using h
    subst this
    decide +kernel
  | k + 1, n, h => by
    have h2 : n / 256 < 256 ^ k := by
      rw [Nat.div_lt_iff_lt_mul (by decide)]
      rw [Nat.pow_succ] at h
      exact h
    obtain ⟨i1, i2⟩ := g_by k (n / 256) h2
    have ha : n % 256 < 256 := Nat.mod_lt _ (by decide)
    obtain ⟨a2, a3, a4, a5⟩ := g_a (n % 256) ha
    have e : n = n % 256 + 256 * (n / 256) := by omega
    have e1 : g2 (k + 1) (g1 (k + 1) n) = f2 (f1 (n % 256)) + 256 * g2 k (g1 k (n / 256)) := by
      conv => lhs; rw [e]
      rw [g1_s k _ _ ha, g2_s k _ _ a2]
    rw [e1]
    refine ⟨?_, ?_⟩
    · rw [show ∀ F X : Nat, (F + 256 * X) % 16 = F % 16 from fun F X => by omega]
      exact a3
    rw [g3_s k _ _ a4 i1, i2, a5]
    rfl
theorem cn_add (P : Nat → Bool) (a : Nat) : ∀ b, cn P (a + b) = cn P a + cn (fun i => P (a + i)) b
  | 0 => rfl
  | b + 1 => by
    rw [show a + (b + 1) = (a + b) + 1 from rfl, cn, cn, cn_add P a b, Nat.add_assoc]
theorem cn_bits (n : Nat) : ∀ k, cn n.testBit (8 + k) = cn (n % 256).testBit 8 + cn (n / 256).testBit k := fun k => by
  rw [cn_add]
  congr 1
  · exact cn_congr (fun i hi => by
      rw [show (256 : Nat) = 2 ^ 8 from rfl, Nat.testBit_mod_two_pow]
      simp [hi])
  · exact cn_congr (fun i hi => by
      rw [show (256 : Nat) = 2 ^ 8 from rfl, Nat.testBit_div_two_pow, Nat.add_comm])
theorem cn_8 (n : Nat) : cn n.testBit 8 ≤ 8 := cn_le _ _
def ad1 (w : Nat) : Nat := w + w / 2 ^ 8
def ad2 (w : Nat) : Nat := w + w / 2 ^ 16
def ad3 (w : Nat) : Nat := w + w / 2 ^ 32
theorem by8_0 : ∀ k, by8 k 0 = 0
  | 0 => rfl
  | k + 1 => by
    rw [by8, show (0 : Nat) / 256 = 0 from rfl, by8_0 k]
    decide +kernel
/-- the sum of the bytes, as the JDK adds them: of five bytes and of three -/
theorem by8_sumL (n : Nat) (h : n < 2 ^ 40) : ad3 (ad2 (ad1 (by8 8 n))) < 2 ^ 63 ∧ ad2 (ad1 (by8 8 n)) < 2 ^ 63 ∧ ad1 (by8 8 n) < 2 ^ 63 ∧ by8 8 n < 2 ^ 63 ∧ ad3 (ad2 (ad1 (by8 8 n))) % 128 = cn n.testBit 40 := by
  have e0 : cn n.testBit 40 = cn (n % 256).testBit 8 + (cn (n / 256 % 256).testBit 8 + (cn (n / 256 / 256 % 256).testBit 8 + (cn (n / 256 / 256 / 256 % 256).testBit 8 + cn (n / 256 / 256 / 256 / 256 % 256).testBit 8))) := by
    rw [show (40 : Nat) = 8 + (8 + (8 + (8 + (8 + 0)))) from rfl, cn_bits, cn_bits, cn_bits, cn_bits, cn_bits]
    rfl
  have e1 : by8 8 n = cn (n % 256).testBit 8 + 256 * (cn (n / 256 % 256).testBit 8 + 256 * (cn (n / 256 / 256 % 256).testBit 8 + 256 * (cn (n / 256 / 256 / 256 % 256).testBit 8 + 256 * (cn (n / 256 / 256 / 256 / 256 % 256).testBit 8 + 256 * 0)))) := by
    rw [by8, by8, by8, by8, by8, show n / 256 / 256 / 256 / 256 / 256 = 0 by omega, by8_0]
  rw [e0, e1]
  have h0 := cn_8 (n % 256)
  have h1 := cn_8 (n / 256 % 256)
  have h2 := cn_8 (n / 256 / 256 % 256)
  have h3 := cn_8 (n / 256 / 256 / 256 % 256)
  have h4 := cn_8 (n / 256 / 256 / 256 / 256 % 256)
  generalize cn (n % 256).testBit 8 = c0 at *
  generalize cn (n / 256 % 256).testBit 8 = c1 at *
  generalize cn (n / 256 / 256 % 256).testBit 8 = c2 at *
  generalize cn (n / 256 / 256 / 256 % 256).testBit 8 = c3 at *
  generalize cn (n / 256 / 256 / 256 / 256 % 256).testBit 8 = c4 at *
  clear e0 e1 h
  have e4 : ad1 (c0 + 256 * (c1 + 256 * (c2 + 256 * (c3 + 256 * (c4 + 256 * 0))))) = (c0 + c1) + 256 * (c1 + c2) + 65536 * (c2 + c3) + 16777216 * (c3 + c4) + 4294967296 * c4 := by unfold ad1; omega
  rw [e4]
  have e5 : ad2 ((c0 + c1) + 256 * (c1 + c2) + 65536 * (c2 + c3) + 16777216 * (c3 + c4) + 4294967296 * c4) = (c0 + c1 + c2 + c3) + 256 * (c1 + c2 + c3 + c4) + 65536 * (c2 + c3 + c4) + 16777216 * (c3 + c4) + 4294967296 * c4 := by unfold ad2; omega
  rw [e5]
  have e6 : ad3 ((c0 + c1 + c2 + c3) + 256 * (c1 + c2 + c3 + c4) + 65536 * (c2 + c3 + c4) + 16777216 * (c3 + c4) + 4294967296 * c4) = (c0 + c1 + c2 + c3 + c4) + 256 * (c1 + c2 + c3 + c4) + 65536 * (c2 + c3 + c4) + 16777216 * (c3 + c4) + 4294967296 * c4 := by unfold ad3; omega
  rw [e6]
  refine ⟨by omega, by omega, by omega, by omega, by omega⟩
theorem by8_sumI (n : Nat) (h : n < 2 ^ 24) : ad2 (ad1 (by8 4 n)) < 2 ^ 31 ∧ ad1 (by8 4 n) < 2 ^ 31 ∧ by8 4 n < 2 ^ 31 ∧ ad2 (ad1 (by8 4 n)) % 64 = cn n.testBit 24 := by
  have e0 : cn n.testBit 24 = cn (n % 256).testBit 8 + (cn (n / 256 % 256).testBit 8 + cn (n / 256 / 256 % 256).testBit 8) := by
    rw [show (24 : Nat) = 8 + (8 + (8 + 0)) from rfl, cn_bits, cn_bits, cn_bits]
    rfl
  have e1 : by8 4 n = cn (n % 256).testBit 8 + 256 * (cn (n / 256 % 256).testBit 8 + 256 * (cn (n / 256 / 256 % 256).testBit 8 + 256 * 0)) := by
    rw [by8, by8, by8, show n / 256 / 256 / 256 = 0 by omega, by8_0]
  rw [e0, e1]
  have h0 := cn_8 (n % 256)
  have h1 := cn_8 (n / 256 % 256)
  have h2 := cn_8 (n / 256 / 256 % 256)
  generalize cn (n % 256).testBit 8 = c0 at *
  generalize cn (n / 256 % 256).testBit 8 = c1 at *
  generalize cn (n / 256 / 256 % 256).testBit 8 = c2 at *
  clear e0 e1 h
  have e4 : ad1 (c0 + 256 * (c1 + 256 * (c2 + 256 * 0))) = (c0 + c1) + 256 * (c1 + c2) + 65536 * c2 := by unfold ad1; omega
  rw [e4]
  have e5 : ad2 ((c0 + c1) + 256 * (c1 + c2) + 65536 * c2) = (c0 + c1 + c2) + 256 * (c1 + c2) + 65536 * c2 := by unfold ad2; omega
  rw [e5]
  refine ⟨by omega, by omega, by omega, by omega⟩
def su (x : Int64) (k : Int32) : Int64 := (x.toUInt64 >>> (k.toInt64.toUInt64 &&& Int64.toUInt64 63)).toInt64
theorem su_e {n k : Nat} (hn : n < 2 ^ 64) (hk : k < 64) : su (lN n) (nI k) = lN (n / 2 ^ k) := wb_shr hn hk
def bl1 (x : Int64) : Int64 := x - (su x 1 &&& 6148914691236517205)
def bl2 (x : Int64) : Int64 := (x &&& 3689348814741910323) + (su x 2 &&& 3689348814741910323)
def bl3 (x : Int64) : Int64 := (x + su x 4) &&& 1085102592571150095
def bl4 (x : Int64) : Int64 := x + su x 8
def bl5 (x : Int64) : Int64 := x + su x 16
def bl6 (x : Int64) : Int64 := x + su x 32
theorem bl_e (n : Nat) (h : n < 2 ^ 40) : (bl6 (bl5 (bl4 (bl3 (bl2 (bl1 (lN n))))))).toInt32 &&& 127 = nI (cn n.testBit 40) := by
  have q1 : bl1 (lN n) = lN (g1 8 n) := by
    unfold bl1 g1
    rw [show (1 : Int32) = nI 1 from rfl, su_e (by omega) (by decide), show (6148914691236517205 : Int64) = lN (mk8 85 8) by decide +kernel, wb_and (by omega) (by decide +kernel), lN_sub (Nat.le_trans Nat.and_le_left (Nat.div_le_self _ _))]
  have b1 : g1 8 n < 2 ^ 40 := Nat.lt_of_le_of_lt (Nat.sub_le _ _) h
  have q2 : bl2 (lN (g1 8 n)) = lN (g2 8 (g1 8 n)) := by
    unfold bl2 g2
    rw [show (2 : Int32) = nI 2 from rfl, su_e (by omega) (by decide), show (3689348814741910323 : Int64) = lN (mk8 51 8) by decide +kernel, wb_and (by omega) (by decide +kernel), wb_and (by omega) (by decide +kernel), lN_add]
  have b2 : g2 8 (g1 8 n) < 2 ^ 41 := by
    have a1 : g1 8 n &&& mk8 51 8 ≤ g1 8 n := Nat.and_le_left
    have a2 : g1 8 n / 4 &&& mk8 51 8 ≤ g1 8 n / 4 := Nat.and_le_left
    unfold g2; omega
  have q3 : bl3 (lN (g2 8 (g1 8 n))) = lN (by8 8 n) := by
    rw [← (g_by 8 n (by omega)).2]
    unfold bl3 g3
    rw [show (4 : Int32) = nI 4 from rfl, su_e (by omega) (by decide), show (1085102592571150095 : Int64) = lN (mk8 15 8) by decide +kernel, lN_add, wb_and (by omega) (by decide +kernel)]
  obtain ⟨s1, s2, s3, s4, s5⟩ := by8_sumL n h
  have q4 : bl4 (lN (by8 8 n)) = lN (ad1 (by8 8 n)) := by
    unfold bl4 ad1
    rw [show (8 : Int32) = nI 8 from rfl, su_e (by omega) (by decide), lN_add]
  have q5 : bl5 (lN (ad1 (by8 8 n))) = lN (ad2 (ad1 (by8 8 n))) := by
    unfold bl5 ad2
    rw [show (16 : Int32) = nI 16 from rfl, su_e (by omega) (by decide), lN_add]
  have q6 : bl6 (lN (ad2 (ad1 (by8 8 n)))) = lN (ad3 (ad2 (ad1 (by8 8 n)))) := by
    unfold bl6 ad3
    rw [show (32 : Int32) = nI 32 from rfl, su_e (by omega) (by decide), lN_add]
  rw [q1, q2, q3, q4, q5, q6, lN_i, ← s5]
  generalize ad3 (ad2 (ad1 (by8 8 n))) = w
  rw [pk_and (nI w) (m := 127) 7 (by decide)]
  congr 1
  show BitVec.toNat (BitVec.ofNat 32 _) % 2 ^ 7 = _
  rw [BitVec.toNat_ofNat]
  omega
def iu (x k : Int32) : Int32 := (x.toUInt32 >>> (k.toUInt32 &&& Int32.toUInt32 31)).toInt32
theorem iu_e {n k : Nat} (hn : n < 2 ^ 32) (hk : k < 32) : iu (nI n) (nI k) = nI (n / 2 ^ k) := pk_ushrN hn (nI k) k (s_u k hk)
def bi1 (x : Int32) : Int32 := x - (iu x 1 &&& 1431655765)
def bi2 (x : Int32) : Int32 := (x &&& 858993459) + (iu x 2 &&& 858993459)
def bi3 (x : Int32) : Int32 := (x + iu x 4) &&& 252645135
def bi4 (x : Int32) : Int32 := x + iu x 8
def bi5 (x : Int32) : Int32 := x + iu x 16
theorem bi_e (n : Nat) (h : n < 2 ^ 24) : bi5 (bi4 (bi3 (bi2 (bi1 (nI n))))) &&& 63 = nI (cn n.testBit 24) := by
  have q1 : bi1 (nI n) = nI (g1 4 n) := by
    unfold bi1 g1
    rw [show (1 : Int32) = nI 1 from rfl, iu_e (by omega) (by decide), show (1431655765 : Int32) = nI (mk8 85 4) by decide +kernel, nx_and, pk_sub (Nat.le_trans Nat.and_le_left (Nat.div_le_self _ _))]
  have b1 : g1 4 n < 2 ^ 24 := Nat.lt_of_le_of_lt (Nat.sub_le _ _) h
  have q2 : bi2 (nI (g1 4 n)) = nI (g2 4 (g1 4 n)) := by
    unfold bi2 g2
    rw [show (2 : Int32) = nI 2 from rfl, iu_e (by omega) (by decide), show (858993459 : Int32) = nI (mk8 51 4) by decide +kernel, nx_and, nx_and, nI_add]
  have b2 : g2 4 (g1 4 n) < 2 ^ 25 := by
    have a1 : g1 4 n &&& mk8 51 4 ≤ g1 4 n := Nat.and_le_left
    have a2 : g1 4 n / 4 &&& mk8 51 4 ≤ g1 4 n / 4 := Nat.and_le_left
    unfold g2; omega
  have q3 : bi3 (nI (g2 4 (g1 4 n))) = nI (by8 4 n) := by
    rw [← (g_by 4 n (by omega)).2]
    unfold bi3 g3
    rw [show (4 : Int32) = nI 4 from rfl, iu_e (by omega) (by decide), show (252645135 : Int32) = nI (mk8 15 4) by decide +kernel, nI_add, nx_and]
  obtain ⟨s1, s2, s3, s4⟩ := by8_sumI n h
  have q4 : bi4 (nI (by8 4 n)) = nI (ad1 (by8 4 n)) := by
    unfold bi4 ad1
    rw [show (8 : Int32) = nI 8 from rfl, iu_e (by omega) (by decide), nI_add]
  have q5 : bi5 (nI (ad1 (by8 4 n))) = nI (ad2 (ad1 (by8 4 n))) := by
    unfold bi5 ad2
    rw [show (16 : Int32) = nI 16 from rfl, iu_e (by omega) (by decide), nI_add]
  rw [q1, q2, q3, q4, q5, ← s4]
  exact pk_andN (by omega) 6 (by decide)
theorem cn_bts (P : Nat → Bool) {n k : Nat} (h : n ≤ k) : cn (bts P n).testBit k = cn P n := by
  obtain ⟨j, rfl⟩ : ∃ j, k = n + j := ⟨k - n, by omega⟩
  rw [cn_add]
  have e1 : cn (bts P n).testBit n = cn P n := cn_congr (fun i hi => by rw [tb_bts]; simp [hi])
  have e2 : ∀ m, cn (fun i => (bts P n).testBit (n + i)) m = 0 := by
    intro m
    induction m with
    | zero => rfl
    | succ m ih =>
      rw [cn, ih, tb_bts, decide_eq_false (show ¬ n + m < n by omega)]
      rfl
  rw [e1, e2]
  rfl
section BC
variable {G : xG} {d : Nat} {h : xH} {Q : Option Value → xH → Prop}
theorem c_bitL {x : Int64} (P : Nat → Bool) (n : Nat) (hn : n ≤ 40) (hx : x = lN (bts P n)) (q : Q (some (.int (nI (cn P n)))) h) : CW G d jJ13_bitCount_95d88 [.long x] h Q := by
  have hb : bts P n < 2 ^ 40 := Nat.lt_of_lt_of_le (bts_lt P n) (Nat.pow_le_pow_right (by decide) hn)
  have e := bl_e (bts P n) hb
  rw [← hx, cn_bts P hn] at e
  rw [← e] at q
  refine CW_wp fJ13_bitCount_95d88 rfl rfl rfl ?_
  exact q
theorem c_bitI {x : Int32} (P : Nat → Bool) (n : Nat) (hn : n ≤ 24) (hx : x = nI (bts P n)) (q : Q (some (.int (nI (cn P n)))) h) : CW G d jJ6_bitCount_0f7a4 [.int x] h Q := by
  have hb : bts P n < 2 ^ 24 := Nat.lt_of_lt_of_le (bts_lt P n) (Nat.pow_le_pow_right (by decide) hn)
  have e := bi_e (bts P n) hb
  rw [← hx, cn_bts P hn] at e
  rw [← e] at q
  refine CW_wp fJ6_bitCount_0f7a4 rfl rfl rfl ?_
  exact q
end BC
end
section
/-! What the answers of class and model have in common: pure. -/
theorem cn_mono {P P' : Nat → Bool} : ∀ {n : Nat}, (∀ i, i < n → P i = true → P' i = true) → cn P n ≤ cn P' n ∧ (cn P n = cn P' n → ∀ i, i < n → P' i = true → P i = true)
  | 0, _ => ⟨Nat.le_refl _, fun _ i hi => absurd hi (Nat.not_lt_zero _)⟩
  | n + 1, h => by
    obtain ⟨h1, h2⟩ := cn_mono (n := n) (fun i hi => h i (by omega))
    have h3 := h n (Nat.lt_succ_self n)
    rw [cn, cn]
    by_cases c : P n = true
    · rw [if_pos c, if_pos (h3 c)]
      refine ⟨by omega, fun e i hi hp => ?_⟩
      by_cases z : i = n
      · subst z; exact c
      · exact h2 (by omega) i (by omega) hp
    · rw [if_neg c]
      by_cases c2 : P' n = true
      · rw [if_pos c2]
        exact ⟨by omega, fun e => by omega⟩
      · rw [if_neg c2]
        refine ⟨by omega, fun e i hi hp => ?_⟩
        by_cases z : i = n
        · subst z; exact absurd hp c2
        · exact h2 (by omega) i (by omega) hp
theorem cn_all {P : Nat → Bool} : ∀ {n : Nat}, cn P n = n → ∀ i, i < n → P i = true
  | 0, _, i, hi => absurd hi (Nat.not_lt_zero _)
  | n + 1, h, i, hi => by
    have h1 := cn_le P n
    rw [cn] at h
    by_cases c : P n = true
    · rw [if_pos c] at h
      by_cases z : i = n
      · subst z; exact c
      · exact cn_all (n := n) (by omega) i (by omega)
    · rw [if_neg c] at h; omega
theorem cn_pos (P : Nat → Bool) : ∀ n, 0 < cn P n ↔ anyN P n = true
  | 0 => by simp [cn, anyN]
  | n + 1 => by
    rw [cn, anyN, Bool.or_eq_true, ← cn_pos P n]
    by_cases c : P n = true
    · simp [c]
    · simp [c]
theorem rc_stab {N : Nat → Int32} {a k : Nat} (h : ∀ j, j < 10 → rc N a (k + 1) j = true → rc N a k j = true) : ∀ m j, j < 10 → rc N a (k + m) j = true → rc N a k j = true
  | 0, j, _, hr => hr
  | m + 1, j, hj, hr => by
    rcases (rc_s N a (k + m) j).mp hr with h2 | ⟨c, h2, h3, h4⟩
    · exact rc_stab h m j hj h2
    · exact h j hj ((rc_s N a k j).mpr (Or.inr ⟨c, h2, rc_stab h m c h2 h3, h4⟩))
theorem rc_grow (N : Nat → Int32) {a : Nat} (ha : a < 10) : ∀ k, (∃ t, t < k ∧ ∀ j, j < 10 → rc N a (t + 1) j = true → rc N a t j = true) ∨ k + 1 ≤ cn (rc N a k) 10
  | 0 => by
    right
    have : 0 < cn (rc N a 0) 10 := (cn_pos _ _).mpr ((anyN_iff _ _).mpr ⟨a, ha, decide_eq_true rfl⟩)
    omega
  | k + 1 => by
    rcases rc_grow N ha k with ⟨t, ht, h⟩ | h
    · exact Or.inl ⟨t, by omega, h⟩
    · obtain ⟨h1, h2⟩ := cn_mono (P := rc N a k) (P' := rc N a (k + 1)) (n := 10) (fun i _ hi => (rc_s N a k i).mpr (Or.inl hi))
      by_cases e : cn (rc N a k) 10 = cn (rc N a (k + 1)) 10
      · exact Or.inl ⟨k, by omega, h2 e⟩
      · right; omega
theorem rc9 {N : Nat → Int32} {a b m : Nat} (ha : a < 10) (hb : b < 10) (h : rc N a m b = true) : rc N a 9 b = true := by
  rcases rc_grow N ha 9 with ⟨t, ht, h2⟩ | h2
  · have h3 : rc N a (t + m) b = true := rc_mono h _ (by omega)
    exact rc_mono (rc_stab h2 m b hb h3) 9 (by omega)
  · have := cn_le (rc N a 9) 10
    exact cn_all (n := 10) (by omega) b hb
/-- the model's distance, from what the class finds -/
theorem far_some {N : Nat → Int32} {a b k D : Nat} (h : fwS N a b = some k) (hD : ∀ k, k < 99 → (D ≤ k ↔ rc N a k b = true)) : D = k := by
  obtain ⟨h1, h2, h3, h4⟩ := ff_some h
  have h5 := (hD k (by omega)).mpr h3
  by_cases z : D = k
  · exact z
  · have h6 := (hD D (by omega)).mp (Nat.le_refl _)
    rw [h4 D (by omega) (by omega)] at h6
    cases h6
theorem far_none {N : Nat → Int32} {a b D : Nat} (ha : a < 10) (hb : b < 10) (h : fwS N a b = none) (hD : ∀ k, k < 99 → (D ≤ k ↔ rc N a k b = true)) : 99 ≤ D := by
  by_cases z : 99 ≤ D
  · exact z
  · have h6 := rc9 ha hb ((hD D (by omega)).mp (Nat.le_refl _))
    rw [ff_none h 9 (by omega) (by omega)] at h6
    cases h6
theorem rs_add (N : Nat → Int32) (a : Nat) : ∀ (k m : Nat), rs N a k ≤ rs N a (k + m)
  | _, 0 => Nat.le_refl _
  | k, m + 1 => Nat.le_trans (rs_add N a k m) (by show rs N a (k + m) ≤ rs N a (k + m) + _; omega)
theorem hd_mono {N : Nat → Int32} {s D D' : Nat} (h : hdS N s D = true) (h1 : sF N s 5 < D') (h2 : D' ≤ D) : hdS N s D' = true := by
  unfold hdS at h ⊢
  simp only [Bool.and_eq_true, decide_eq_true_eq] at h ⊢
  obtain ⟨⟨⟨a1, a2⟩, a3⟩, a4⟩ := h
  refine ⟨⟨⟨h1, by omega⟩, ?_⟩, ?_⟩
  · have h3 := rs_add N (sF N s 5 + 1) (D' - sF N s 5) (D - D')
    rw [show D' - sF N s 5 + (D - D') = D - sF N s 5 by omega] at h3
    unfold ageS at a3 ⊢
    omega
  · cases hf : foS N s with
    | none => rfl
    | some b =>
      rw [hf] at a4
      simp only [decide_eq_true_eq] at a4 ⊢
      omega
theorem hd_lt {N : Nat → Int32} {s D : Nat} (h : hdS N s D = true) : sF N s 5 < D ∧ D < 100 := by
  unfold hdS at h
  simp only [Bool.and_eq_true, decide_eq_true_eq] at h
  exact ⟨h.1.1.1, h.1.1.2⟩
theorem he_hd {N : Nat → Int32} {p s D : Nat} (h : heS N p s D = true) : hdS N s D = true := by
  unfold heS at h
  simp only [Bool.and_eq_true] at h
  exact h.2.1
theorem he_mono {N : Nat → Int32} {p s D D' : Nat} (h : heS N p s D = true) (h1 : sF N s 5 < D') (h2 : D' ≤ D) : heS N p s D' = true := by
  have h3 := hd_mono (he_hd h) h1 h2
  unfold heS at h ⊢
  simp only [Bool.and_eq_true] at h ⊢
  exact ⟨h.1, h3, h.2.2⟩
theorem ts_out {x : Int32} {n : Nat} (hn : n + 1 < 2 ^ 31) (h : x < 0 ∨ nI (n + 1) ≤ x) : x.toInt < 0 ∨ (n : Int) < x.toInt := by
  rcases h with h | h
  · exact Or.inl (Int32.lt_iff_toInt_lt.mp h)
  · right
    have h2 := Int32.le_iff_toInt_le.mp h
    rw [nI_toInt hn] at h2
    omega
theorem nI_max (a b : Nat) (ha : a < 2 ^ 31) (hb : b < 2 ^ 31) : (if nI a < nI b then nI b else nI a) = nI (max a b) := by
  by_cases h : a < b
  · rw [if_pos (nI_lt h hb), Nat.max_eq_right (by omega)]
  · rw [if_neg (nI_nlt (by omega) ha), Nat.max_eq_left (by omega)]
/-- the words, the loudest of those that are so -/
def wdS (P : Nat → Bool) (f : Nat → Nat) : Nat → Nat
  | 0 => 0
  | n + 1 => if P n = true then wdS P f n ||| 2 ^ f n else wdS P f n
def mxS (P : Nat → Bool) (f : Nat → Nat) : Nat → Nat
  | 0 => 0
  | n + 1 => if P n = true then max (mxS P f n) (f n) else mxS P f n
theorem mxS_le {P : Nat → Bool} {f : Nat → Nat} {k : Nat} : ∀ {n : Nat}, (∀ i, i < n → f i ≤ k) → mxS P f n ≤ k
  | 0, _ => Nat.zero_le _
  | n + 1, h => by
    have h1 := mxS_le (P := P) (n := n) (fun i hi => h i (by omega))
    have h2 := h n (by omega)
    rw [mxS]
    split
    · omega
    · exact h1
/-- the i-th that is so -/
def wiS (P : Nat → Bool) (n i : Nat) : Option Nat := ff (fun s => P s && decide (cn P s = i)) n 0
theorem cn_s1 {P : Nat → Bool} {n : Nat} (h : P n = true) : cn P (n + 1) = cn P n + 1 := by rw [cn, if_pos h]
theorem cn_s0 {P : Nat → Bool} {n : Nat} (h : P n = false) : cn P (n + 1) = cn P n := by rw [cn, if_neg (by simp [h])]; rfl
theorem nI_lit (x : Int32) {n : Nat} (h : x = nI n) (hn : n < 2 ^ 31) : x.toInt = n := by rw [h, nI_toInt hn]
end
section
/-! Questions about SAYINGS and places: the class beside the model. -/
section Q1
variable {G : xG} {M : xM} {Q : Option Value → xH → Prop}
theorem say_f (hw : Wf (M 60)) (hp : PV 1 (M 60) M) {s : Nat} (hs : s < sN (M 60)) (f : Nat) (hf : f < 6) : M (5 + f) s = nI (sF (M 60) s f) := hp.say hw hs hf
theorem c_fewestX {d : Nat} {N : Nat → Int32} (hp : PV 1 N M) {x y : Int32} (a b : Nat) (ha : a < 10) (hb : b < 10) (hx : x = nI a) (hy : y = nI b) (qs : ∀ k, fwS N a b = some k → Q (some (.int (nI k))) (HH M)) (qn : fwS N a b = none → Q (some (.int (-1))) (HH M)) : CW G (d + 2) jX7_fewestBetween [.ref 2, .int x, .int y] (HH M) Q := by
  subst hx hy
  exact c_fewest hp a b ha hb qs qn
theorem st_steps (I : Iv 0 M) (x y : Int32) (q : ∀ r M1, Aft G jX9_steps [.ref 59, .int x, .int y] r M1 → Q (some (.int r)) (HH M1)) : CW G 11 jX8_steps [.ref 0, .int x, .int y] (HH M) Q := by
  have hw := I.1
  have hp := I.2.1
  have hsr := I.2.2.2.2.1
  have h40 := hw.2.1.2
  have hn : M 60 = M 60 := rfl
  refine CW_wp fX8_steps rfl rfl rfl ?_
  refine c_isPlace x (fun a ha ea => ?_) (fun na => ?_)
  · refine c_isPlace y (fun b hb eb => ?_) (fun nb => ?_)
    · refine c_fewestX hp a b ha hb ea eb (fun k hk => ?_) (fun hk => ?_)
      · have hk9 := (ff_some hk).2.1
        refine xif (nI_pos' (show k < 2 ^ 31 by omega)) ?_
        refine q _ _ (fun Q1 q1 => ?_)
        refine CW_wp fX9_steps rfl rfl rfl ?_
        refine m_isPlace_t a ha ea ?_
        refine m_isPlace_t b hb eb ?_
        refine m_farOf hn hw hsr a b ha hb ea eb (fun M' hm D hD hd r hr => ?_)
        have e := far_some hk hd
        refine xlt D 99 hr rfl (by omega) (by decide) (fun c => ?_) (fun c => absurd c (by omega))
        refine m_farOf (hm.n hn) hw hm.2.2 a b ha hb ea eb (fun M'' hm2 D2 hD2 hd2 r2 hr2 => ?_)
        have e2 := far_some hk hd2
        have e3 : r2 = nI k := by rw [hr2, e2]
        subst e3
        exact q1 _ (I.rm (hm.trans hm2))
      · refine c_fin3 ?_
        refine q _ _ (fun Q1 q1 => ?_)
        refine CW_wp fX9_steps rfl rfl rfl ?_
        refine m_isPlace_t a ha ea ?_
        refine m_isPlace_t b hb eb ?_
        refine m_farOf (show fc 3 M 60 = M 60 from rfl) hw (iv_fc (k := 3) I).2.2.2.2.1 a b ha hb ea eb (fun M' hm D hD hd r hr => ?_)
        have e := far_none ha hb hk hd
        refine xlt D 99 hr rfl (by omega) (by decide) (fun c => absurd c (by omega)) (fun c => ?_)
        exact m_fin3 ((iv_fc (k := 3) I).rm hm) q1
    · refine c_fin0 ?_
      refine q _ _ (fun Q1 q1 => ?_)
      refine CW_wp fX9_steps rfl rfl rfl ?_
      refine m_isPlace_t a ha ea ?_
      refine m_isPlace_f nb ?_
      exact m_fin0 (iv_fc I) q1
  · refine c_fin0 ?_
    refine q _ _ (fun Q1 q1 => ?_)
    refine CW_wp fX9_steps rfl rfl rfl ?_
    refine m_isPlace_f na ?_
    exact m_fin0 (iv_fc I) q1
theorem st_sayingOf (I : Iv 0 M) (x y : Int32) (q : ∀ r M1, Aft G jX9_sayingOf [.ref 59, .int x, .int y] r M1 → Q (some (.int r)) (HH M1)) : CW G 11 jX8_sayingOf [.ref 0, .int x, .int y] (HH M) Q := by
  have hw := I.1
  have hp := I.2.1
  have hsr := I.2.2.2.2.1
  have h40 := hw.2.1.2
  have hn : M 60 = M 60 := rfl
  refine CW_wp fX8_sayingOf rfl rfl rfl ?_
  refine c_isSaying hp hw x (fun s hs es => ?_) (fun ns => ?_)
  · rcases n_ix y 8 (by decide) with ⟨w, hw8, ey⟩ | ⟨hy, ny⟩
    · match w, hw8, ey with
      | 0, _, ey =>
        subst ey
        refine xix (n := 40) s es (by omega) (by decide) (fun e => ?_)
        rw [e, show M 5 s = nI (sF (M 60) s 0) from say_f hw hp hs 0 (by decide)]
        refine q _ _ (fun Q1 q1 => ?_)
        refine CW_wp fX9_sayingOf rfl rfl rfl ?_
        refine m_isSaying_t hn hw s hs es ?_
        refine m_within_t 0 0 7 rfl rfl rfl (by decide) (by decide) (by decide) ?_
        refine m_of hn hw s 0 hs (by decide) es rfl (fun r hr => ?_)
        subst hr
        exact q1 _ I
      | 1, _, ey =>
        subst ey
        refine xix (n := 40) s es (by omega) (by decide) (fun e => ?_)
        rw [e, show M 6 s = nI (sF (M 60) s 1) from say_f hw hp hs 1 (by decide)]
        refine q _ _ (fun Q1 q1 => ?_)
        refine CW_wp fX9_sayingOf rfl rfl rfl ?_
        refine m_isSaying_t hn hw s hs es ?_
        refine m_within_t 1 0 7 rfl rfl rfl (by decide) (by decide) (by decide) ?_
        refine m_of hn hw s 1 hs (by decide) es rfl (fun r hr => ?_)
        subst hr
        exact q1 _ I
      | 2, _, ey =>
        subst ey
        refine xix (n := 40) s es (by omega) (by decide) (fun e => ?_)
        rw [e, show M 7 s = nI (sF (M 60) s 2) from say_f hw hp hs 2 (by decide)]
        refine q _ _ (fun Q1 q1 => ?_)
        refine CW_wp fX9_sayingOf rfl rfl rfl ?_
        refine m_isSaying_t hn hw s hs es ?_
        refine m_within_t 2 0 7 rfl rfl rfl (by decide) (by decide) (by decide) ?_
        refine m_of hn hw s 2 hs (by decide) es rfl (fun r hr => ?_)
        subst hr
        exact q1 _ I
      | 3, _, ey =>
        subst ey
        refine xix (n := 40) s es (by omega) (by decide) (fun e => ?_)
        rw [e, show M 8 s = nI (sF (M 60) s 3) from say_f hw hp hs 3 (by decide)]
        refine q _ _ (fun Q1 q1 => ?_)
        refine CW_wp fX9_sayingOf rfl rfl rfl ?_
        refine m_isSaying_t hn hw s hs es ?_
        refine m_within_t 3 0 7 rfl rfl rfl (by decide) (by decide) (by decide) ?_
        refine m_of hn hw s 3 hs (by decide) es rfl (fun r hr => ?_)
        subst hr
        exact q1 _ I
      | 4, _, ey =>
        subst ey
        refine xix (n := 40) s es (by omega) (by decide) (fun e => ?_)
        rw [e, show M 9 s = nI (sF (M 60) s 4) from say_f hw hp hs 4 (by decide)]
        refine q _ _ (fun Q1 q1 => ?_)
        refine CW_wp fX9_sayingOf rfl rfl rfl ?_
        refine m_isSaying_t hn hw s hs es ?_
        refine m_within_t 4 0 7 rfl rfl rfl (by decide) (by decide) (by decide) ?_
        refine m_of hn hw s 4 hs (by decide) es rfl (fun r hr => ?_)
        subst hr
        exact q1 _ I
      | 5, _, ey =>
        subst ey
        refine xix (n := 40) s es (by omega) (by decide) (fun e => ?_)
        rw [e, show M 10 s = nI (sF (M 60) s 5) from say_f hw hp hs 5 (by decide)]
        refine q _ _ (fun Q1 q1 => ?_)
        refine CW_wp fX9_sayingOf rfl rfl rfl ?_
        refine m_isSaying_t hn hw s hs es ?_
        refine m_within_t 5 0 7 rfl rfl rfl (by decide) (by decide) (by decide) ?_
        refine m_of hn hw s 5 hs (by decide) es rfl (fun r hr => ?_)
        subst hr
        exact q1 _ I
      | 6, _, ey =>
        subst ey
        refine c_lastsOf hp hw s hs es (fun r hr => ?_)
        refine q _ _ (fun Q1 q1 => ?_)
        refine CW_wp fX9_sayingOf rfl rfl rfl ?_
        refine m_isSaying_t hn hw s hs es ?_
        refine m_within_t 6 0 7 rfl rfl rfl (by decide) (by decide) (by decide) ?_
        refine m_lasts hn hw s hs es (fun r2 hr2 => ?_)
        rw [← hr] at hr2
        subst hr2
        exact q1 _ I
      | 7, _, ey =>
        subst ey
        refine c_reachOf hp hw s hs es (fun r hr => ?_)
        refine q _ _ (fun Q1 q1 => ?_)
        refine CW_wp fX9_sayingOf rfl rfl rfl ?_
        refine m_isSaying_t hn hw s hs es ?_
        refine m_within_t 7 0 7 rfl rfl rfl (by decide) (by decide) (by decide) ?_
        refine m_reach hn hw s hs es (fun r2 hr2 => ?_)
        rw [← hr] at hr2
        subst hr2
        exact q1 _ I
      | w + 8, hw8, _ => exact absurd hw8 (by omega)
    · have hz : y.toInt < 0 ∨ (7 : Int) < y.toInt := ts_out (n := 7) (by decide) hy
      refine xif hz ?_
      refine c_fin0 ?_
      refine q _ _ (fun Q1 q1 => ?_)
      refine CW_wp fX9_sayingOf rfl rfl rfl ?_
      refine m_isSaying_t (show fc 0 M 60 = M 60 from rfl) hw s hs es ?_
      refine m_within_f 0 7 rfl rfl (by decide) (by decide) (fun k _ hk => ny k (by omega)) ?_
      exact m_fin0 (iv_fc I) q1
  · refine c_fin0 ?_
    refine q _ _ (fun Q1 q1 => ?_)
    refine CW_wp fX9_sayingOf rfl rfl rfl ?_
    refine m_isSaying_f (show fc 0 M 60 = M 60 from rfl) hw ns ?_
    exact m_fin0 (iv_fc I) q1
theorem st_age (I : Iv 0 M) (x y : Int32) (q : ∀ r M1, Aft G jX9_age [.ref 59, .int x, .int y] r M1 → Q (some (.int r)) (HH M1)) : CW G 11 jX8_age [.ref 0, .int x, .int y] (HH M) Q := by
  have hw := I.1
  have hp := I.2.1
  have hsr := I.2.2.2.2.1
  have h40 := hw.2.1.2
  have hn : M 60 = M 60 := rfl
  refine CW_wp fX8_age rfl rfl rfl ?_
  refine c_isSaying hp hw x (fun s hs es => ?_) (fun ns => ?_)
  · refine c_isDay y (fun a ha ea => ?_) (fun na => ?_)
    · have hl := (hw.2.2.2.2.2.2.2.1 s hs).2.2.2.2.2.2
      refine xix (n := 40) s es (by omega) (by decide) (fun e => ?_)
      rw [e, show M 10 s = nI (sF (M 60) s 5) from say_f hw hp hs 5 (by decide)]
      have h0 := hw.1.2
      refine xlt (sF (M 60) s 5) a rfl ea (by omega) (by omega) (fun c => ?_) (fun c => ?_)
      · refine xix (n := 40) s es (by omega) (by decide) (fun e2 => ?_)
        rw [e2, show M 10 s = nI (sF (M 60) s 5) from say_f hw hp hs 5 (by decide)]
        refine c_ageOf hp hw (sF (M 60) s 5) a rfl ea (by omega) (by omega) (fun r hr => ?_)
        refine q _ _ (fun Q1 q1 => ?_)
        refine CW_wp fX9_age rfl rfl rfl ?_
        refine m_isSaying_t hn hw s hs es ?_
        refine m_isDay_t a ha ea ?_
        refine m_of hn hw s 5 hs (by decide) es rfl (fun r1 hr1 => ?_)
        refine xle a (sF (M 60) s 5) ea hr1 (by omega) (by omega) (fun c2 => absurd c2 (by omega)) (fun c2 => ?_)
        refine m_ageOf hn hw s a hs ha (by omega) es ea (fun r2 hr2 => ?_)
        have e3 : r2 = r := hr2.trans hr.symm
        subst e3
        exact q1 _ I
      · refine c_fin4 ?_
        refine q _ _ (fun Q1 q1 => ?_)
        refine CW_wp fX9_age rfl rfl rfl ?_
        refine m_isSaying_t (show fc 4 M 60 = M 60 from rfl) hw s hs es ?_
        refine m_isDay_t a ha ea ?_
        refine m_of (show fc 4 M 60 = M 60 from rfl) hw s 5 hs (by decide) es rfl (fun r1 hr1 => ?_)
        refine xle a (sF (M 60) s 5) ea hr1 (by omega) (by omega) (fun c2 => ?_) (fun c2 => absurd c2 (by omega))
        exact m_fin4 (iv_fc I) q1
    · refine c_fin0 ?_
      refine q _ _ (fun Q1 q1 => ?_)
      refine CW_wp fX9_age rfl rfl rfl ?_
      refine m_isSaying_t (show fc 0 M 60 = M 60 from rfl) hw s hs es ?_
      refine m_isDay_f na ?_
      exact m_fin0 (iv_fc I) q1
  · refine c_fin0 ?_
    refine q _ _ (fun Q1 q1 => ?_)
    refine CW_wp fX9_age rfl rfl rfl ?_
    refine m_isSaying_f (show fc 0 M 60 = M 60 from rfl) hw ns ?_
    exact m_fin0 (iv_fc I) q1
theorem st_over (I : Iv 0 M) (x : Int32) (q : ∀ r M1, Aft G jX9_over [.ref 59, .int x] r M1 → Q (some (.int r)) (HH M1)) : CW G 11 jX8_over [.ref 0, .int x] (HH M) Q := by
  have hw := I.1
  have hp := I.2.1
  have hsr := I.2.2.2.2.1
  have h40 := hw.2.1.2
  have hn : M 60 = M 60 := rfl
  refine CW_wp fX8_over rfl rfl rfl ?_
  refine c_isSaying hp hw x (fun s hs es => ?_) (fun ns => ?_)
  · refine c_firstOver hp hw s hs es (fun k hk => ?_) (fun hk => ?_)
    · have hk2 := foS_lt hk
      refine xif (nI_pos' (show k < 2 ^ 31 by omega)) ?_
      refine q _ _ (fun Q1 q1 => ?_)
      refine CW_wp fX9_over rfl rfl rfl ?_
      refine m_isSaying_t hn hw s hs es ?_
      refine m_overOf hn hw s hs es (fun k2 hk3 => ?_) (fun hk3 => by rw [hk] at hk3; cases hk3)
      have e : k = k2 := by rw [hk] at hk3; exact Option.some.inj hk3
      subst e
      refine xif (nI_pos' (show k < 2 ^ 31 by omega)) ?_
      exact q1 _ I
    · refine c_fin3 ?_
      refine q _ _ (fun Q1 q1 => ?_)
      refine CW_wp fX9_over rfl rfl rfl ?_
      refine m_isSaying_t (show fc 3 M 60 = M 60 from rfl) hw s hs es ?_
      refine m_overOf (show fc 3 M 60 = M 60 from rfl) hw s hs es (fun k2 hk3 => by rw [hk] at hk3; cases hk3) (fun hk3 => ?_)
      exact m_fin3 (iv_fc I) q1
  · refine c_fin0 ?_
    refine q _ _ (fun Q1 q1 => ?_)
    refine CW_wp fX9_over rfl rfl rfl ?_
    refine m_isSaying_f (show fc 0 M 60 = M 60 from rfl) hw ns ?_
    exact m_fin0 (iv_fc I) q1
theorem st_until (I : Iv 0 M) (x : Int32) (q : ∀ r M1, Aft G jX9_until [.ref 59, .int x] r M1 → Q (some (.int r)) (HH M1)) : CW G 11 jX8_until [.ref 0, .int x] (HH M) Q := by
  have hw := I.1
  have hp := I.2.1
  have hsr := I.2.2.2.2.1
  have h40 := hw.2.1.2
  have hn : M 60 = M 60 := rfl
  refine CW_wp fX8_until rfl rfl rfl ?_
  refine c_isSaying hp hw x (fun s hs es => ?_) (fun ns => ?_)
  · refine c_lastDayOf hp hw s hs es (fun L h1 h2 h3 h4 r hr => ?_)
    have hno : ∀ i, L < i → i < 100 → hdS (M 60) s i = false := fun i hi hi2 => by
      rcases h4 with h4 | h4
      · omega
      · cases hz : hdS (M 60) s i with
        | false => rfl
        | true => rw [hd_mono hz (show sF (M 60) s 5 < L + 1 by omega) (by omega)] at h4; cases h4
    by_cases c : L = sF (M 60) s 5
    · rw [if_pos c] at hr
      subst hr
      refine c_fin3 ?_
      refine q _ _ (fun Q1 q1 => ?_)
      refine CW_wp fX9_until rfl rfl rfl ?_
      refine m_isSaying_t (show fc 3 M 60 = M 60 from rfl) hw s hs es ?_
      have key : ∀ k, k ≤ 100 → Ev G 11 jX9_until 18 [some (.ref 59), some (.int x), some (.int (nI k + (-1)))] [] (HH (fc 3 M)) 0 0 Q1 := by
        intro k
        induction k with
        | zero =>
          intro _
          refine Ev_wp fX9_until rfl ?_
          exact m_fin3 (iv_fc I) q1
        | succ k ih =>
          intro hk
          rw [pk_m1]
          refine Ev_wp fX9_until rfl ?_
          refine xelse (nI_pos (by omega)) ?_
          refine m_isHeard (show fc 3 M 60 = M 60 from rfl) hw s k hs (by omega) es rfl (fun c2 => ?_) (fun c2 => ?_)
          · have h5 := hd_lt c2
            rw [hno k (by omega) (by omega)] at c2; cases c2
          · exact ih (by omega)
      exact key 100 (by decide)
    · rw [if_neg c] at hr
      subst hr
      refine xif (nI_pos' (show L < 2 ^ 31 by omega)) ?_
      refine q _ _ (fun Q1 q1 => ?_)
      refine CW_wp fX9_until rfl rfl rfl ?_
      refine m_isSaying_t hn hw s hs es ?_
      have key : ∀ k, k ≤ 100 → L < k → Ev G 11 jX9_until 18 [some (.ref 59), some (.int x), some (.int (nI k + (-1)))] [] (HH M) 0 0 Q1 := by
        intro k
        induction k with
        | zero => intro _ h; omega
        | succ k ih =>
          intro hk hLk
          rw [pk_m1]
          refine Ev_wp fX9_until rfl ?_
          refine xelse (nI_pos (by omega)) ?_
          refine m_isHeard hn hw s k hs (by omega) es rfl (fun c2 => ?_) (fun c2 => ?_)
          · have e : k = L := by
              by_cases z : L < k
              · rw [hno k z (by omega)] at c2; cases c2
              · omega
            subst e
            exact q1 _ I
          · refine ih (by omega) ?_
            by_cases z : k = L
            · subst z
              rw [h3 k (by omega) (Nat.le_refl _)] at c2; cases c2
            · omega
      exact key 100 (by decide) (by omega)
  · refine c_fin0 ?_
    refine q _ _ (fun Q1 q1 => ?_)
    refine CW_wp fX9_until rfl rfl rfl ?_
    refine m_isSaying_f (show fc 0 M 60 = M 60 from rfl) hw ns ?_
    exact m_fin0 (iv_fc I) q1
theorem st_reaches (I : Iv 0 M) (x y : Int32) (q : ∀ r M1, Aft G jX9_reaches [.ref 59, .int x, .int y] r M1 → Q (some (.int r)) (HH M1)) : CW G 11 jX8_reaches [.ref 0, .int x, .int y] (HH M) Q := by
  have hw := I.1
  have hp := I.2.1
  have hsr := I.2.2.2.2.1
  have h40 := hw.2.1.2
  have hn : M 60 = M 60 := rfl
  refine CW_wp fX8_reaches rfl rfl rfl ?_
  refine c_isSaying hp hw x (fun s hs es => ?_) (fun ns => ?_)
  · refine c_isDay y (fun a ha ea => ?_) (fun na => ?_)
    · refine c_isHeard hp hw s a hs (by omega) es ea (fun c => ?_) (fun c => ?_)
      · refine c_around hp hw s hs es (fun r hr => ?_)
        refine q _ _ (fun Q1 q1 => ?_)
        refine CW_wp fX9_reaches rfl rfl rfl ?_
        refine m_isSaying_t hn hw s hs es ?_
        refine m_isDay_t a ha ea ?_
        refine m_isHeard hn hw s a hs ha es ea (fun c2 => ?_) (fun c2 => by rw [c] at c2; cases c2)
        refine m_reachesOf hn hw hsr s hs es (fun M' hm r2 hr2 => ?_)
        have e3 : r2 = r := hr2.trans hr.symm
        subst e3
        exact q1 _ (I.rm hm)
      · refine q _ _ (fun Q1 q1 => ?_)
        refine CW_wp fX9_reaches rfl rfl rfl ?_
        refine m_isSaying_t hn hw s hs es ?_
        refine m_isDay_t a ha ea ?_
        refine m_isHeard hn hw s a hs ha es ea (fun c2 => by rw [c] at c2; cases c2) (fun c2 => ?_)
        exact q1 _ I
    · refine c_fin0 ?_
      refine q _ _ (fun Q1 q1 => ?_)
      refine CW_wp fX9_reaches rfl rfl rfl ?_
      refine m_isSaying_t (show fc 0 M 60 = M 60 from rfl) hw s hs es ?_
      refine m_isDay_f na ?_
      exact m_fin0 (iv_fc I) q1
  · refine c_fin0 ?_
    refine q _ _ (fun Q1 q1 => ?_)
    refine CW_wp fX9_reaches rfl rfl rfl ?_
    refine m_isSaying_f (show fc 0 M 60 = M 60 from rfl) hw ns ?_
    exact m_fin0 (iv_fc I) q1
theorem st_drowns (I : Iv 0 M) (x : Int32) (q : ∀ r M1, Aft G jX9_drowns [.ref 59, .int x] r M1 → Q (some (.int r)) (HH M1)) : CW G 11 jX8_drowns [.ref 0, .int x] (HH M) Q := by
  have hw := I.1
  have hp := I.2.1
  have hsr := I.2.2.2.2.1
  have h40 := hw.2.1.2
  have hn : M 60 = M 60 := rfl
  refine CW_wp fX8_drowns rfl rfl rfl ?_
  refine c_isSaying hp hw x (fun s hs es => ?_) (fun ns => ?_)
  · have wa := hw.2.2.2.2.2.2.2.1 s hs
    refine xix (n := 40) s es (by omega) (by decide) (fun e => ?_)
    rw [e, show M 5 s = nI (sF (M 60) s 0) from say_f hw hp hs 0 (by decide)]
    refine c_canYield (HH M) (sF (M 60) s 0) 0 wa.1 (by decide) rfl rfl (fun c => ?_) (fun c => ?_)
    · refine xix (n := 40) s es (by omega) (by decide) (fun e => ?_)
      rw [e, show M 7 s = nI (sF (M 60) s 2) from say_f hw hp hs 2 (by decide)]
      refine q _ _ (fun Q1 q1 => ?_)
      refine CW_wp fX9_drowns rfl rfl rfl ?_
      refine m_isSaying_t hn hw s hs es ?_
      refine m_of hn hw s 0 hs (by decide) es rfl (fun r1 hr1 => ?_)
      refine xeq (sF (M 60) s 0) 5 hr1 rfl (by omega) (by decide) (fun z => by simp [yieldK, z] at c) (fun z => ?_)
      refine m_of hn hw s 2 hs (by decide) es rfl (fun r2 hr2 => ?_)
      subst hr2
      exact q1 _ I
    · refine c_fin3 ?_
      refine q _ _ (fun Q1 q1 => ?_)
      refine CW_wp fX9_drowns rfl rfl rfl ?_
      refine m_isSaying_t (show fc 3 M 60 = M 60 from rfl) hw s hs es ?_
      refine m_of (show fc 3 M 60 = M 60 from rfl) hw s 0 hs (by decide) es rfl (fun r1 hr1 => ?_)
      refine xeq (sF (M 60) s 0) 5 hr1 rfl (by omega) (by decide) (fun z => ?_) (fun z => by simp [yieldK, z] at c)
      exact m_fin3 (iv_fc I) q1
  · refine c_fin0 ?_
    refine q _ _ (fun Q1 q1 => ?_)
    refine CW_wp fX9_drowns rfl rfl rfl ?_
    refine m_isSaying_f (show fc 0 M 60 = M 60 from rfl) hw ns ?_
    exact m_fin0 (iv_fc I) q1
end Q1
end
section
/-! What is heard: the class beside the model. -/
theorem ff_no {P : Nat → Bool} : ∀ {k i : Nat}, (∀ t, i ≤ t → P t = false) → ff P k i = none
  | 0, _, _ => rfl
  | k + 1, i, h => by
    rw [ff, if_neg (by simp [h i (Nat.le_refl _)])]
    exact ff_no (fun t ht => h t (by omega))
/-- so, and told -/
def cutS (P : Nat → Bool) (n : Nat) : Nat → Bool := fun s => decide (s < n) && P s
theorem cut_lt {P : Nat → Bool} {n s : Nat} (h : s < n) : cutS P n s = P s := by simp [cutS, h]
theorem cut_ge {P : Nat → Bool} {n s : Nat} (h : n ≤ s) : cutS P n s = false := by simp [cutS, show ¬ s < n by omega]
theorem cn_cut (P : Nat → Bool) {n s : Nat} (h : s ≤ n) : cn (cutS P n) s = cn P s := cn_congr (fun i hi => cut_lt (by omega))
theorem wd_cut (P : Nat → Bool) (f : Nat → Nat) (n : Nat) : ∀ k, wdS (cutS P n) f k = wdS P f (min k n)
  | 0 => by simp [wdS]
  | k + 1 => by
    rw [wdS, wd_cut P f n k]
    by_cases c : k < n
    · rw [cut_lt c, show min (k + 1) n = min k n + 1 by omega, wdS, show min k n = k by omega]
    · rw [cut_ge (by omega), if_neg (by simp), show min (k + 1) n = min k n by omega]
theorem mx_cut (P : Nat → Bool) (f : Nat → Nat) (n : Nat) : ∀ k, mxS (cutS P n) f k = mxS P f (min k n)
  | 0 => by simp [mxS]
  | k + 1 => by
    rw [mxS, mx_cut P f n k]
    by_cases c : k < n
    · rw [cut_lt c, show min (k + 1) n = min k n + 1 by omega, mxS, show min k n = k by omega]
    · rw [cut_ge (by omega), if_neg (by simp), show min (k + 1) n = min k n by omega]
/-- the i-th of those that are so -/
def wS (P : Nat → Bool) (n i : Nat) : Option Nat := ff (fun s => cutS P n s && decide (cn (cutS P n) s = i)) 40 0
section Q2
variable {G : xG} {M : xM} {Q : Option Value → xH → Prop}
theorem isIn_cut {d : Nat} {h : xH} {y : Int64} {x : Int32} (P : Nat → Bool) (n i : Nat) (hn : n ≤ 40) (hy : y = lN (bts P n)) (hx : x = nI i) (hi : i < 62) (q1 : cutS P n i = true → Q (some (.int 1)) h) (q0 : cutS P n i = false → Q (some (.int 0)) h) : CW G d jX8_isIn [.long y, .int x] h Q :=
  c_isIn (bts P n) i hy (bts62 P (by omega)) hx hi (fun c => q1 (by rw [tb_bts] at c; exact c)) (fun c => q0 (by rw [tb_bts] at c; exact c))
theorem c_whichL (P : Nat → Bool) (n i : Nat) (hn : n ≤ 40) {r : Int64} (hr : r = lN (bts P n)) (qs : ∀ w, wS P n i = some w → Q (some (.int (nI w))) (HH M)) (qn : wS P n i = none → Q (some (.int (nF 3))) (HH (fc 3 M))) (hi : i < 40) : Ev G 11 jX8_which 48 [some (.ref 0), none, none, none, some (.long r), none, some (.int (nI i)), some (.int (nI 0))] [] (HH M) 0 0 Q := by
  refine dn (E := fun s => cn (cutS P n) s ≤ i → ff (fun s => cutS P n s && decide (cn (cutS P n) s = i)) (40 - s) s = wS P n i → Ev G 11 jX8_which 48 [some (.ref 0), none, none, none, some (.long r), none, some (.int (nI (i - cn (cutS P n) s))), some (.int (nI s))] [] (HH M) 0 0 Q) (Nat.zero_le 40) (fun _ hf => ?_) (fun s _ h2 ih hc hf => ?_) (Nat.zero_le _) rfl
  · refine Ev_wp fX8_which rfl ?_
    refine c_fin3 ?_
    exact qn hf.symm
  · refine Ev_wp fX8_which rfl ?_
    refine xelse (nI_ge (b := 40) h2 (by decide)) ?_
    rw [ff_step _ h2] at hf
    rw [nI_succ] at ih
    refine isIn_cut P n s hn hr rfl (by omega) (fun c => ?_) (fun c => ?_)
    · refine xeq (i - cn (cutS P n) s) 0 rfl rfl (by omega) (by decide) (fun c2 => ?_) (fun c2 => ?_)
      · rw [if_pos (by simp [c, show cn (cutS P n) s = i by omega])] at hf
        exact qs s hf.symm
      · rw [if_neg (by simp [show ¬ cn (cutS P n) s = i by omega])] at hf
        have h3 := ih (by rw [cn_s1 c]; omega) hf
        rw [cn_s1 c, show i - (cn (cutS P n) s + 1) = i - cn (cutS P n) s - 1 by omega] at h3
        rw [show nI (i - cn (cutS P n) s - 1) = nI (i - cn (cutS P n) s) + (-1) by
          rw [← pk_m1, show i - cn (cutS P n) s - 1 + 1 = i - cn (cutS P n) s by omega]] at h3
        exact h3
    · rw [if_neg (by simp [c])] at hf
      have h3 := ih (by rw [cn_s0 c]; exact hc) hf
      rw [cn_s0 c] at h3
      exact h3
theorem m_whichL {N : Nat → Int32} (hw : Wf N) {M0 : xM} (h0 : SR N M0) (hn0 : M0 60 = N) {x y z : Int32} (a D t i : Nat) (ha : a < 10) (hD : D < 100) (ht : t < 24) (hi : i < 40) (hx : x = nI a) (w1 : y / 100 = nI D) (w2 : y - y / 100 * 100 = nI t) (hz : z = nI i) (qs : ∀ w, wS (htS N a D t) (sN N) i = some w → ∀ M', Rm N M0 M' → Q (some (.int (nI w))) (HH M')) (qn : wS (htS N a D t) (sN N) i = none → ∀ M', Rm N M0 M' → Iv 4 M' ∧ ∀ M2, Iv 0 M2 → Q (some (.int (nF 3))) (HH M2)) : Ev G 11 jX9_which 37 [some (.ref 59), some (.int x), some (.int y), some (.int z), some (.int (-1)), some (.int (nI 0))] [] (HH M0) 0 0 Q := by
  have h40 := hw.2.1.2
  have hge : ∀ M', Rm N M0 M' → M' 60 1 ≤ nI (sN N) := fun M' hm => by rw [hm.n hn0, hw.2.1.1]; exact Int32.le_refl _
  have hlt : ∀ M', Rm N M0 M' → ∀ i, i < sN N → ¬ M' 60 1 ≤ nI i := fun M' hm i hi => by rw [hm.n hn0, hw.2.1.1]; exact nI_ge hi (by omega)
  refine dn (E := fun s => ∀ M', Rm N M0 M' → ∀ v, v + 1 = nI (cn (cutS (htS N a D t) (sN N)) s) → cn (cutS (htS N a D t) (sN N)) s ≤ i → ff (fun s => cutS (htS N a D t) (sN N) s && decide (cn (cutS (htS N a D t) (sN N)) s = i)) (40 - s) s = wS (htS N a D t) (sN N) i → Ev G 11 jX9_which 37 [some (.ref 59), some (.int x), some (.int y), some (.int z), some (.int v), some (.int (nI s))] [] (HH M') 0 0 Q) (Nat.zero_le (sN N)) (fun M' hm v hv _ hf => ?_) (fun s _ h2 ih M' hm v hv hc hf => ?_) M0 (Rm.refl h0) (-1) (show (-1 : Int32) + 1 = nI 0 by decide) (Nat.zero_le _) rfl
  · refine Ev_wp fX9_which rfl ?_
    refine xif (hge M' hm) ?_
    have hz2 := qn (by
      rw [← hf]
      exact ff_no (fun t ht => by rw [cut_ge ht]; rfl)) M' hm
    exact m_fin3 hz2.1 hz2.2
  · refine Ev_wp fX9_which rfl ?_
    refine xelse (hlt M' hm s h2) ?_
    rw [ff_step _ (by omega)] at hf
    rw [nI_succ] at ih
    refine m_isHeardAt (hm.n hn0) hw hm.2.2 s a D t h2 ha hD ht rfl hx w1 w2 (fun M'' hm2 c => ?_) (fun M'' hm2 c => ?_)
    · have c' : cutS (htS N a D t) (sN N) s = true := by rw [cut_lt h2]; exact c
      refine xeq (cn (cutS (htS N a D t) (sN N)) s) i hv hz (by omega) (by omega) (fun c2 => ?_) (fun c2 => ?_)
      · rw [if_pos (by simp [c', c2])] at hf
        exact qs s hf.symm M'' (hm.trans hm2)
      · rw [if_neg (by simp [c2])] at hf
        exact ih M'' (hm.trans hm2) (v + 1) (by rw [hv, cn_s1 c', nI_succ]) (by rw [cn_s1 c']; omega) hf
    · have c' : cutS (htS N a D t) (sN N) s = false := by rw [cut_lt h2]; exact c
      have hne : ¬ v + 0 = z := fun h => by
        rw [Int32.add_zero] at h
        rw [h, hz, ← nI_succ, nI_eq (by omega) (by omega)] at hv
        omega
      refine xelse hne ?_
      rw [if_neg (by simp [c'])] at hf
      exact ih M'' (hm.trans hm2) (v + 0) (by rw [Int32.add_zero, hv, cn_s0 c']) (by rw [cn_s0 c']; exact hc) hf
theorem st_heard (I : Iv 0 M) (x y : Int32) (q : ∀ r M1, Aft G jX9_heard [.ref 59, .int x, .int y] r M1 → Q (some (.int r)) (HH M1)) : CW G 11 jX8_heard [.ref 0, .int x, .int y] (HH M) Q := by
  have hw := I.1
  have hp := I.2.1
  have hsr := I.2.2.2.2.1
  have h40 := hw.2.1.2
  have hn : M 60 = M 60 := rfl
  refine CW_wp fX8_heard rfl rfl rfl ?_
  refine c_isPlace x (fun a ha ea => ?_) (fun na => ?_)
  · refine c_isWhen y (fun D t hD ht ew => ?_) (fun nw => ?_)
    · have w1 : y / 100 = nI D := by rw [ew]; exact (when_div D t hD ht).1
      have w2 : y - y / 100 * 100 = nI t := by rw [ew]; exact (when_div D t hD ht).2

      refine c_heardSet hp hw a D t ha hD ht ea ew (fun r hr => ?_)
      refine c_bitL (htS (M 60) a D t) (sN (M 60)) h40 hr ?_
      refine q _ _ (fun Q1 q1 => ?_)
      refine CW_wp fX9_heard rfl rfl rfl ?_
      refine m_isPlace_t a ha ea ?_
      refine m_isWhen_t D t hD ht ew ?_
      refine m_heardAt hn hw hsr a D t ha hD ht ea w1 w2 (fun M' hm r2 hr2 => ?_)
      subst hr2
      exact q1 _ (I.rm hm)
    · refine c_fin0 ?_
      refine q _ _ (fun Q1 q1 => ?_)
      refine CW_wp fX9_heard rfl rfl rfl ?_
      refine m_isPlace_t a ha ea ?_
      refine m_isWhen_f nw ?_
      exact m_fin0 (iv_fc I) q1
  · refine c_fin0 ?_
    refine q _ _ (fun Q1 q1 => ?_)
    refine CW_wp fX9_heard rfl rfl rfl ?_
    refine m_isPlace_f na ?_
    exact m_fin0 (iv_fc I) q1
theorem st_which (I : Iv 0 M) (x y z : Int32) (q : ∀ r M1, Aft G jX9_which [.ref 59, .int x, .int y, .int z] r M1 → Q (some (.int r)) (HH M1)) : CW G 11 jX8_which [.ref 0, .int x, .int y, .int z] (HH M) Q := by
  have hw := I.1
  have hp := I.2.1
  have hsr := I.2.2.2.2.1
  have h40 := hw.2.1.2
  have hn : M 60 = M 60 := rfl
  refine CW_wp fX8_which rfl rfl rfl ?_
  refine c_isPlace x (fun a ha ea => ?_) (fun na => ?_)
  · refine c_isWhen y (fun D t hD ht ew => ?_) (fun nw => ?_)
    · have w1 : y / 100 = nI D := by rw [ew]; exact (when_div D t hD ht).1
      have w2 : y - y / 100 * 100 = nI t := by rw [ew]; exact (when_div D t hD ht).2

      rcases n_ix z 40 (by decide) with ⟨i, hi, ez⟩ | ⟨hz, nz⟩
      · refine xelse (by rw [ez]; exact nI_pos (by omega)) ?_
        refine xif (by rw [ez]; exact nI_lt (b := 40) hi (by decide)) ?_
        refine c_heardSet hp hw a D t ha hD ht ea ew (fun r hr => ?_)
        rw [ez]
        refine c_whichL (htS (M 60) a D t) (sN (M 60)) i h40 hr (fun w hw2 => ?_) (fun hw2 => ?_) hi
        · skip
          refine q _ _ (fun Q1 q1 => ?_)
          refine CW_wp fX9_which rfl rfl rfl ?_
          refine m_isPlace_t a ha ea ?_
          refine m_isWhen_t D t hD ht ew ?_
          refine m_within_t i 0 39 ez rfl rfl (Nat.zero_le _) (by omega) (by decide) ?_
          exact m_whichL hw hsr hn a D t i ha hD ht hi ea w1 w2 ez (fun w' h' M' hm => by
            have e : w = w' := by rw [hw2] at h'; exact Option.some.inj h'
            subst e
            exact q1 _ (I.rm hm)) (fun h' => by rw [hw2] at h'; cases h')
        · refine q _ _ (fun Q1 q1 => ?_)
          refine CW_wp fX9_which rfl rfl rfl ?_
          refine m_isPlace_t a ha ea ?_
          refine m_isWhen_t D t hD ht ew ?_
          refine m_within_t i 0 39 ez rfl rfl (Nat.zero_le _) (by omega) (by decide) ?_
          exact m_whichL hw (iv_fc (k := 3) I).2.2.2.2.1 (show fc 3 M 60 = M 60 from rfl) a D t i ha hD ht hi ea w1 w2 ez (fun w' h' => by rw [hw2] at h'; cases h') (fun _ M' hm => ⟨(iv_fc (k := 3) I).rm hm, q1⟩)
      · refine xite (fun c => ?_) (fun c => ?_)
        · refine c_fin0 ?_
          refine q _ _ (fun Q1 q1 => ?_)
          refine CW_wp fX9_which rfl rfl rfl ?_
          refine m_isPlace_t a ha ea ?_
          refine m_isWhen_t D t hD ht ew ?_
          refine m_within_f 0 39 rfl rfl (by decide) (by decide) (fun k _ hk => nz k (by omega)) ?_
          exact m_fin0 (iv_fc I) q1
        · refine xelse (by exact Int32.not_lt.mpr (hz.resolve_left c)) ?_
          refine c_fin0 ?_
          refine q _ _ (fun Q1 q1 => ?_)
          refine CW_wp fX9_which rfl rfl rfl ?_
          refine m_isPlace_t a ha ea ?_
          refine m_isWhen_t D t hD ht ew ?_
          refine m_within_f 0 39 rfl rfl (by decide) (by decide) (fun k _ hk => nz k (by omega)) ?_
          exact m_fin0 (iv_fc I) q1
    · refine c_fin0 ?_
      refine q _ _ (fun Q1 q1 => ?_)
      refine CW_wp fX9_which rfl rfl rfl ?_
      refine m_isPlace_t a ha ea ?_
      refine m_isWhen_f nw ?_
      exact m_fin0 (iv_fc I) q1
  · refine c_fin0 ?_
    refine q _ _ (fun Q1 q1 => ?_)
    refine CW_wp fX9_which rfl rfl rfl ?_
    refine m_isPlace_f na ?_
    exact m_fin0 (iv_fc I) q1
theorem st_words (I : Iv 0 M) (x y : Int32) (q : ∀ r M1, Aft G jX9_words [.ref 59, .int x, .int y] r M1 → Q (some (.int r)) (HH M1)) : CW G 11 jX8_words [.ref 0, .int x, .int y] (HH M) Q := by
  have hw := I.1
  have hp := I.2.1
  have hsr := I.2.2.2.2.1
  have h40 := hw.2.1.2
  have hn : M 60 = M 60 := rfl
  refine CW_wp fX8_words rfl rfl rfl ?_
  refine c_isPlace x (fun a ha ea => ?_) (fun na => ?_)
  · refine c_isWhen y (fun D t hD ht ew => ?_) (fun nw => ?_)
    · have w1 : y / 100 = nI D := by rw [ew]; exact (when_div D t hD ht).1
      have w2 : y - y / 100 * 100 = nI t := by rw [ew]; exact (when_div D t hD ht).2
      have hge : ∀ M', Rm (M 60) M M' → M' 60 1 ≤ nI (sN (M 60)) := fun M' hm => by rw [hm.n hn, hw.2.1.1]; exact Int32.le_refl _
      have hlt : ∀ M', Rm (M 60) M M' → ∀ i, i < sN (M 60) → ¬ M' 60 1 ≤ nI i := fun M' hm i hi => by rw [hm.n hn, hw.2.1.1]; exact nI_ge hi (by omega)

      refine c_heardSet hp hw a D t ha hD ht ea ew (fun r hr => ?_)
      have key : Ev G 11 jX8_words 37 [some (.ref 0), none, none, some (.long r), none, some (.int (nI (wdS (cutS (htS (M 60) a D t) (sN (M 60))) (fun s => sF (M 60) s 1) 0))), some (.int (nI 0))] [] (HH M) 0 0 Q := by
        refine dn (E := fun s => Ev G 11 jX8_words 37 [some (.ref 0), none, none, some (.long r), none, some (.int (nI (wdS (cutS (htS (M 60) a D t) (sN (M 60))) (fun s => sF (M 60) s 1) s))), some (.int (nI s))] [] (HH M) 0 0 Q) (Nat.zero_le 40) ?_ (fun s _ h2 ih => ?_)
        · refine Ev_wp fX8_words rfl ?_
          rw [wd_cut, show min 40 (sN (M 60)) = sN (M 60) by omega]
          refine q _ _ (fun Q1 q1 => ?_)
          refine CW_wp fX9_words rfl rfl rfl ?_
          refine m_isPlace_t a ha ea ?_
          refine m_isWhen_t D t hD ht ew ?_
          refine dn (E := fun s => ∀ M', Rm (M 60) M M' → Ev G 11 jX9_words 26 [some (.ref 59), some (.int x), some (.int y), some (.int (nI (wdS (htS (M 60) a D t) (fun s => sF (M 60) s 1) s))), some (.int (nI s))] [] (HH M') 0 0 Q1) (Nat.zero_le (sN (M 60))) (fun M' hm => ?_) (fun s _ h2 ih M' hm => ?_) M (Rm.refl hsr)
          · refine Ev_wp fX9_words rfl ?_
            refine xif (hge M' hm) ?_
            exact q1 _ (I.rm hm)
          · refine Ev_wp fX9_words rfl ?_
            refine xelse (hlt M' hm s h2) ?_
            rw [nI_succ] at ih
            have ws := (hw.2.2.2.2.2.2.2.1 s h2).2.1
            refine m_isHeardAt (hm.n hn) hw hm.2.2 s a D t h2 ha hD ht rfl ea w1 w2 (fun M'' hm2 c => ?_) (fun M'' hm2 c => ?_)
            · refine m_of (hm2.n (hm.n hn)) hw s 1 h2 (by decide) rfl rfl (fun r1 hr1 => ?_)
              have h3 := ih M'' (hm.trans hm2)
              rw [wdS, if_pos c, ← nx_or, ← ish hr1 (by omega)] at h3
              exact h3
            · have h3 := ih M'' (hm.trans hm2)
              rw [wdS, if_neg (by simp [c]), ← Nat.or_zero (wdS _ _ _), ← nx_or] at h3
              exact h3
        · refine Ev_wp fX8_words rfl ?_
          refine xelse (nI_ge (b := 40) h2 (by decide)) ?_
          rw [nI_succ, wdS] at ih
          refine isIn_cut (htS (M 60) a D t) (sN (M 60)) s h40 hr rfl (by omega) (fun c => ?_) (fun c => ?_)
          · have hs : s < sN (M 60) := by
              simp [cutS] at c
              exact c.1
            have ws := (hw.2.2.2.2.2.2.2.1 s hs).2.1
            refine xix (n := 40) s rfl h2 (by decide) (fun e => ?_)
            rw [e, show M 6 s = nI (sF (M 60) s 1) from hp.say hw hs (show 1 < 6 by decide)]
            rw [if_pos c, ← nx_or, ← nx_shl _ (by omega)] at ih
            exact ih
          · rw [if_neg (by simp [c])] at ih
            exact ih
      exact key
    · refine c_fin0 ?_
      refine q _ _ (fun Q1 q1 => ?_)
      refine CW_wp fX9_words rfl rfl rfl ?_
      refine m_isPlace_t a ha ea ?_
      refine m_isWhen_f nw ?_
      exact m_fin0 (iv_fc I) q1
  · refine c_fin0 ?_
    refine q _ _ (fun Q1 q1 => ?_)
    refine CW_wp fX9_words rfl rfl rfl ?_
    refine m_isPlace_f na ?_
    exact m_fin0 (iv_fc I) q1
theorem st_plain (I : Iv 0 M) (x y : Int32) (q : ∀ r M1, Aft G jX9_plain [.ref 59, .int x, .int y] r M1 → Q (some (.int r)) (HH M1)) : CW G 11 jX8_plain [.ref 0, .int x, .int y] (HH M) Q := by
  have hw := I.1
  have hp := I.2.1
  have hsr := I.2.2.2.2.1
  have h40 := hw.2.1.2
  have hn : M 60 = M 60 := rfl
  refine CW_wp fX8_plain rfl rfl rfl ?_
  refine c_isPlace x (fun a ha ea => ?_) (fun na => ?_)
  · refine c_isWhen y (fun D t hD ht ew => ?_) (fun nw => ?_)
    · have w1 : y / 100 = nI D := by rw [ew]; exact (when_div D t hD ht).1
      have w2 : y - y / 100 * 100 = nI t := by rw [ew]; exact (when_div D t hD ht).2
      have hge : ∀ M', Rm (M 60) M M' → M' 60 1 ≤ nI (sN (M 60)) := fun M' hm => by rw [hm.n hn, hw.2.1.1]; exact Int32.le_refl _
      have hlt : ∀ M', Rm (M 60) M M' → ∀ i, i < sN (M 60) → ¬ M' 60 1 ≤ nI i := fun M' hm i hi => by rw [hm.n hn, hw.2.1.1]; exact nI_ge hi (by omega)

      have hle : ∀ s, s < sN (M 60) → sF (M 60) s 2 ≤ 9 := fun s hs => (hw.2.2.2.2.2.2.2.1 s hs).2.2.2.1
      have hb9 : ∀ n, n ≤ sN (M 60) → mxS (htS (M 60) a D t) (fun s => sF (M 60) s 2) n ≤ 9 := fun n hn2 => mxS_le (fun i hi => hle i (by omega))
      have hml : ∀ M0, SR (M 60) M0 → M0 60 = M 60 → ∀ Q1 : Option Value → xH → Prop, (∀ M', Rm (M 60) M0 M' → ∀ v, v = nI (mxS (htS (M 60) a D t) (fun s => sF (M 60) s 2) (sN (M 60))) → (if v = 0 then (Iv 4 M' ∧ ∀ M2, Iv 0 M2 → Q1 (some (.int (nF 3))) (HH M2)) else Q1 (some (.int v)) (HH M'))) → Ev G 11 jX9_plain 26 [some (.ref 59), some (.int x), some (.int y), some (.int (nI 0)), some (.int (nI 0))] [] (HH M0) 0 0 Q1 := fun M0 h0 hn0 Q1 qq => by
        have hge : ∀ M', Rm (M 60) M0 M' → M' 60 1 ≤ nI (sN (M 60)) := fun M' hm => by rw [hm.n hn0, hw.2.1.1]; exact Int32.le_refl _
        have hlt : ∀ M', Rm (M 60) M0 M' → ∀ i, i < sN (M 60) → ¬ M' 60 1 ≤ nI i := fun M' hm i hi => by rw [hm.n hn0, hw.2.1.1]; exact nI_ge hi (by omega)
        refine dn (E := fun s => ∀ M', Rm (M 60) M0 M' → Ev G 11 jX9_plain 26 [some (.ref 59), some (.int x), some (.int y), some (.int (nI (mxS (htS (M 60) a D t) (fun s => sF (M 60) s 2) s))), some (.int (nI s))] [] (HH M') 0 0 Q1) (Nat.zero_le (sN (M 60))) (fun M' hm => ?_) (fun s _ h2 ih M' hm => ?_) M0 (Rm.refl h0)
        · refine Ev_wp fX9_plain rfl ?_
          refine xif (hge M' hm) ?_
          have h3 := qq M' hm _ rfl
          refine xite (fun c => ?_) (fun c => ?_)
          · rw [if_pos c] at h3
            exact m_fin3 h3.1 h3.2
          · rw [if_neg c] at h3
            exact h3
        · refine Ev_wp fX9_plain rfl ?_
          refine xelse (hlt M' hm s h2) ?_
          rw [nI_succ] at ih
          refine m_isHeardAt (hm.n hn0) hw hm.2.2 s a D t h2 ha hD ht rfl ea w1 w2 (fun M'' hm2 c => ?_) (fun M'' hm2 c => ?_)
          · refine m_of (hm2.n (hm.n hn0)) hw s 2 h2 (by decide) rfl rfl (fun r1 hr1 => ?_)
            have h3 := ih M'' (hm.trans hm2)
            have := hb9 s (by omega)
            have := hle s h2
            rw [mxS, if_pos c, ← nI_max _ _ (by omega) (by omega), ← hr1] at h3
            exact h3
          · have h3 := ih M'' (hm.trans hm2)
            rw [mxS, if_neg (by simp [c])] at h3
            exact h3
      refine c_heardSet hp hw a D t ha hD ht ea ew (fun r hr => ?_)
      refine dn (E := fun s => Ev G 11 jX8_plain 37 [some (.ref 0), none, none, some (.long r), none, some (.int (nI (mxS (cutS (htS (M 60) a D t) (sN (M 60))) (fun s => sF (M 60) s 2) s))), some (.int (nI s))] [] (HH M) 0 0 Q) (Nat.zero_le 40) ?_ (fun s _ h2 ih => ?_)
      · refine Ev_wp fX8_plain rfl ?_
        have h9 := hb9 (sN (M 60)) (Nat.le_refl _)
        rw [mx_cut, show min 40 (sN (M 60)) = sN (M 60) by omega]
        refine xeq (mxS (htS (M 60) a D t) (fun s => sF (M 60) s 2) (sN (M 60))) 0 rfl rfl (by omega) (by decide) (fun c => ?_) (fun c => ?_)
        · refine c_fin3 ?_
          refine q _ _ (fun Q1 q1 => ?_)
          refine CW_wp fX9_plain rfl rfl rfl ?_
          refine m_isPlace_t a ha ea ?_
          refine m_isWhen_t D t hD ht ew ?_
          refine hml _ (iv_fc (k := 3) I).2.2.2.2.1 rfl Q1 (fun M' hm v hv => ?_)
          rw [if_pos (by rw [hv, c]; rfl)]
          exact ⟨(iv_fc (k := 3) I).rm hm, q1⟩
        · refine q _ _ (fun Q1 q1 => ?_)
          refine CW_wp fX9_plain rfl rfl rfl ?_
          refine m_isPlace_t a ha ea ?_
          refine m_isWhen_t D t hD ht ew ?_
          refine hml _ hsr rfl Q1 (fun M' hm v hv => ?_)
          rw [if_neg (by rw [hv]; exact nI_ne0 (by omega) (by omega)), hv]
          exact q1 _ (I.rm hm)
      · refine Ev_wp fX8_plain rfl ?_
        refine xelse (nI_ge (b := 40) h2 (by decide)) ?_
        rw [nI_succ, mxS] at ih
        refine isIn_cut (htS (M 60) a D t) (sN (M 60)) s h40 hr rfl (by omega) (fun c => ?_) (fun c => ?_)
        · have hs : s < sN (M 60) := by
            simp [cutS] at c
            exact c.1
          refine xix (n := 40) s rfl h2 (by decide) (fun e => ?_)
          have h5 := hle s hs
          have h6 := hb9 (min s (sN (M 60))) (by omega)
          rw [← mx_cut] at h6
          rw [if_pos c, ← nI_max _ _ (by omega) (by omega)] at ih
          rw [e, show M 7 s = nI (sF (M 60) s 2) from hp.say hw hs (show 2 < 6 by decide)]
          exact ih
        · rw [if_neg (by simp [c])] at ih
          exact ih
    · refine c_fin0 ?_
      refine q _ _ (fun Q1 q1 => ?_)
      refine CW_wp fX9_plain rfl rfl rfl ?_
      refine m_isPlace_t a ha ea ?_
      refine m_isWhen_f nw ?_
      exact m_fin0 (iv_fc I) q1
  · refine c_fin0 ?_
    refine q _ _ (fun Q1 q1 => ?_)
    refine CW_wp fX9_plain rfl rfl rfl ?_
    refine m_isPlace_f na ?_
    exact m_fin0 (iv_fc I) q1
end Q2
end
section
/-! Hours, people: the class beside the model. -/
theorem b1023 : ∀ i, i < 32 → (1023 : Nat).testBit i = decide (i < 10) := by decide +kernel
theorem cn_z (P : Nat → Bool) (n : Nat) : cn P n = 0 ↔ anyN P n = false := by
  have := cn_pos P n
  cases h : anyN P n with
  | false => rw [h] at this; simp at this; simp [this]
  | true => rw [h] at this; simp at this; simp; omega
section Q3
variable {G : xG} {M : xM} {Q : Option Value → xH → Prop}
theorem st_alone (I : Iv 0 M) (y : Int32) (q : ∀ r M1, Aft G jX9_alone [.ref 59, .int y] r M1 → Q (some (.int r)) (HH M1)) : CW G 11 jX8_alone [.ref 0, .int y] (HH M) Q := by
  have hw := I.1
  have hp := I.2.1
  have hsr := I.2.2.2.2.1
  have h40 := hw.2.1.2
  have hn : M 60 = M 60 := rfl
  refine CW_wp fX8_alone rfl rfl rfl ?_
  refine c_isWhen y (fun D t hD ht ew => ?_) (fun nw => ?_)
  · have w1 : y / 100 = nI D := by rw [ew]; exact (when_div D t hD ht).1
    have w2 : y - y / 100 * 100 = nI t := by rw [ew]; exact (when_div D t hD ht).2
    refine c_loudPlaces hp hw D t hD ht ew (fun r hr => ?_)
    refine c_hourOf _ ?_
    refine c_placesTaken hp hw t ht w2 (fun r2 hr2 => ?_)
    have e : 1023 &&& ((r ||| r2) ^^^ (-1)) = nI (bts (fun p => !(anyN (htS (M 60) p D t) (sN (M 60))) && !(tkS (M 60) t p)) 10) := by
      rw [hr, hr2, nx_or, show (1023 : Int32) = nI 1023 from rfl]
      refine nx_andn (by decide) _ (fun i hi => ?_)
      rw [Nat.testBit_or, tb_bts, tb_bts, b1023 i hi]
      cases decide (i < 10) <;> simp
    refine q _ _ (fun Q1 q1 => ?_)
    refine CW_wp fX9_alone rfl rfl rfl ?_
    refine m_isWhen_t D t hD ht ew ?_
    rw [e] at q1
    refine dn (E := fun p => ∀ M', Rm (M 60) M M' → Ev G 11 jX9_alone 18 [some (.ref 59), some (.int y), some (.int (nI (bts (fun p => !(anyN (htS (M 60) p D t) (sN (M 60))) && !(tkS (M 60) t p)) p))), some (.int (nI p))] [] (HH M') 0 0 Q1) (Nat.zero_le 10) (fun M' hm => ?_) (fun p _ h2 ih M' hm => ?_) M (Rm.refl hsr)
    · refine Ev_wp fX9_alone rfl ?_
      exact q1 _ (I.rm hm)
    · refine Ev_wp fX9_alone rfl ?_
      refine xelse (nI_ge (b := 10) h2 (by decide)) ?_
      rw [nI_succ, bts] at ih
      refine m_heardAt (hm.n hn) hw hm.2.2 p D t h2 hD ht rfl w1 w2 (fun M'' hm2 v hv => ?_)
      have h3 := ih M'' (hm.trans hm2)
      have hb := cn_le (htS (M 60) p D t) (sN (M 60))
      refine xeq (cn (htS (M 60) p D t) (sN (M 60))) 0 hv rfl (by omega) (by decide) (fun c => ?_) (fun c => ?_)
      · refine m_manyAt (hm2.n (hm.n hn)) t ht w2 ?_
        have hb2 := cn_le (fun k => decide (wh (M 60) k t = nI p)) 6
        refine xeq (cn (fun k => decide (wh (M 60) k t = nI p)) 6) 0 rfl rfl (by omega) (by decide) (fun c2 => ?_) (fun c2 => ?_)
        · rw [if_pos (by rw [(cn_z _ _).mp c, show tkS (M 60) t p = false from (cn_z _ _).mp c2]; rfl), ← nx_or, ← nx_shl p (by omega)] at h3
          exact h3
        · have c3 : tkS (M 60) t p = true := by
            cases hz : tkS (M 60) t p with
            | false => exact absurd ((cn_z _ _).mpr hz) c2
            | true => rfl
          rw [if_neg (by rw [c3]; simp), ← nx_or] at h3
          exact h3
      · have c3 : anyN (htS (M 60) p D t) (sN (M 60)) = true := by
          cases hz : anyN (htS (M 60) p D t) (sN (M 60)) with
          | false => exact absurd ((cn_z _ _).mpr hz) c
          | true => rfl
        rw [if_neg (by rw [c3]; simp), ← nx_or] at h3
        exact h3
  · refine c_fin0 ?_
    refine q _ _ (fun Q1 q1 => ?_)
    refine CW_wp fX9_alone rfl rfl rfl ?_
    refine m_isWhen_f nw ?_
    exact m_fin0 (iv_fc I) q1
theorem st_full (I : Iv 0 M) (x y : Int32) (q : ∀ r M1, Aft G jX9_full [.ref 59, .int x, .int y] r M1 → Q (some (.int r)) (HH M1)) : CW G 11 jX8_full [.ref 0, .int x, .int y] (HH M) Q := by
  have hw := I.1
  have hp := I.2.1
  have hsr := I.2.2.2.2.1
  have h40 := hw.2.1.2
  have hn : M 60 = M 60 := rfl
  refine CW_wp fX8_full rfl rfl rfl ?_
  refine c_isPlace x (fun a ha ea => ?_) (fun na => ?_)
  · refine c_isDay y (fun D hD eD => ?_) (fun nD => ?_)
    · have e1 : M 4 0 = nI (sN (M 60)) := hp.2.1.trans hw.2.1.1

      have hcn : cn (fun h => anyN (htS (M 60) a D h) (sN (M 60))) 24 = cn (fun h => decide (0 < cn (htS (M 60) a D h) (sN (M 60)))) 24 := cn_congr (fun h _ => by
        cases hz : anyN (htS (M 60) a D h) (sN (M 60)) with
        | false => rw [(cn_z _ _).mpr hz]; rfl
        | true => exact (decide_eq_true ((cn_pos _ _).mpr hz)).symm)
      have key : Ev G 11 jX8_full 26 [some (.ref 0), some (.int x), some (.int y), some (.int (nI (bts (fun h => anyN (htS (M 60) a D h) 0) 24))), some (.int (nI 0))] [] (HH M) 0 0 Q := by
        refine dn (E := fun s => Ev G 11 jX8_full 26 [some (.ref 0), some (.int x), some (.int y), some (.int (nI (bts (fun h => anyN (htS (M 60) a D h) s) 24))), some (.int (nI s))] [] (HH M) 0 0 Q) (Nat.zero_le (sN (M 60))) ?_ (fun s _ h2 ih => ?_)
        · refine Ev_wp fX8_full rfl ?_
          refine xif (by rw [e1]; exact Int32.le_refl _) ?_
          refine c_bitI (fun h => anyN (htS (M 60) a D h) (sN (M 60))) 24 (by decide) rfl ?_
          rw [hcn]
          refine q _ _ (fun Q1 q1 => ?_)
          refine CW_wp fX9_full rfl rfl rfl ?_
          refine m_isPlace_t a ha ea ?_
          refine m_isDay_t D hD eD ?_
          refine dn (E := fun h => ∀ M', Rm (M 60) M M' → Ev G 11 jX9_full 26 [some (.ref 59), some (.int x), some (.int y), some (.int (nI (cn (fun h => decide (0 < cn (htS (M 60) a D h) (sN (M 60)))) h))), some (.int (nI h))] [] (HH M') 0 0 Q1) (Nat.zero_le 24) (fun M' hm => ?_) (fun h _ h2 ih M' hm => ?_) M (Rm.refl hsr)
          · refine Ev_wp fX9_full rfl ?_
            exact q1 _ (I.rm hm)
          · refine Ev_wp fX9_full rfl ?_
            refine xelse (nI_ge (b := 24) h2 (by decide)) ?_
            rw [nI_succ, cn] at ih
            refine m_heardAt (hm.n hn) hw hm.2.2 a D h ha hD h2 ea eD rfl (fun M'' hm2 v hv => ?_)
            have h3 := ih M'' (hm.trans hm2)
            have hb := cn_le (htS (M 60) a D h) (sN (M 60))
            refine xle (cn (htS (M 60) a D h) (sN (M 60))) 0 hv rfl (by omega) (by decide) (fun c => ?_) (fun c => ?_)
            · rw [if_neg (by simp; omega), ← nI_add] at h3
              exact h3
            · rw [if_pos (decide_eq_true c), nI_succ] at h3
              exact h3
        · refine Ev_wp fX8_full rfl ?_
          refine xelse (by rw [e1]; exact nI_ge h2 (by omega)) ?_
          rw [nI_succ] at ih
          have wa := hw.2.2.2.2.2.2.2.1 s h2
          refine c_isHeardAt hp hw s a D h2 ha (by omega) rfl ea eD (fun c => ?_) (fun c => ?_)
          · refine xix (n := 40) s rfl (by omega) (by decide) (fun e => ?_)
            rw [e, show M 9 s = nI (sF (M 60) s 4) from hp.say hw h2 (show 4 < 6 by decide)]
            have e4 : nI (bts (fun h => anyN (htS (M 60) a D h) s) 24) ||| (1 : Int32) <<< (nI (sF (M 60) s 4) &&& 31) = nI (bts (fun h => anyN (htS (M 60) a D h) (s + 1)) 24) := by
              rw [nx_shl _ (by omega), nx_or, bts_one (sF (M 60) s 4) 24 wa.2.2.2.2.2.1, bts_or]
              congr 1
              exact bts_congr (fun h _ => by rw [anyN_s]; simp [htS, c])
            rw [← e4] at ih
            exact ih
          · rw [show bts (fun h => anyN (htS (M 60) a D h) (s + 1)) 24 = bts (fun h => anyN (htS (M 60) a D h) s) 24 from bts_congr (fun h _ => by rw [anyN_s]; simp [htS, c])] at ih
            exact ih
      rw [show bts (fun h => anyN (htS (M 60) a D h) 0) 24 = 0 from bts_0 24] at key
      exact key
    · refine c_fin0 ?_
      refine q _ _ (fun Q1 q1 => ?_)
      refine CW_wp fX9_full rfl rfl rfl ?_
      refine m_isPlace_t a ha ea ?_
      refine m_isDay_f nD ?_
      exact m_fin0 (iv_fc I) q1
  · refine c_fin0 ?_
    refine q _ _ (fun Q1 q1 => ?_)
    refine CW_wp fX9_full rfl rfl rfl ?_
    refine m_isPlace_f na ?_
    exact m_fin0 (iv_fc I) q1
theorem st_where (I : Iv 0 M) (x y : Int32) (q : ∀ r M1, Aft G jX9_where [.ref 59, .int x, .int y] r M1 → Q (some (.int r)) (HH M1)) : CW G 11 jX8_where [.ref 0, .int x, .int y] (HH M) Q := by
  have hw := I.1
  have hp := I.2.1
  have hsr := I.2.2.2.2.1
  have h40 := hw.2.1.2
  have hn : M 60 = M 60 := rfl
  refine CW_wp fX8_where rfl rfl rfl ?_
  refine c_isPerson x (fun a ha ea => ?_) (fun na => ?_)
  · refine c_isHour y (fun b hb eb => ?_) (fun nb => ?_)
    · refine c_placeOf hp a b ha hb ea eb ?_
      refine q _ _ (fun Q1 q1 => ?_)
      refine CW_wp fX9_where rfl rfl rfl ?_
      refine m_isPerson_t a ha ea ?_
      refine m_isHour_t b hb eb ?_
      refine m_whereIs hn a b ha hb ea eb ?_
      exact q1 _ I
    · refine c_fin0 ?_
      refine q _ _ (fun Q1 q1 => ?_)
      refine CW_wp fX9_where rfl rfl rfl ?_
      refine m_isPerson_t a ha ea ?_
      refine m_isHour_f nb ?_
      exact m_fin0 (iv_fc I) q1
  · refine c_fin0 ?_
    refine q _ _ (fun Q1 q1 => ?_)
    refine CW_wp fX9_where rfl rfl rfl ?_
    refine m_isPerson_f na ?_
    exact m_fin0 (iv_fc I) q1
theorem st_hears (I : Iv 0 M) (x y : Int32) (q : ∀ r M1, Aft G jX9_hears [.ref 59, .int x, .int y] r M1 → Q (some (.int r)) (HH M1)) : CW G 11 jX8_hears [.ref 0, .int x, .int y] (HH M) Q := by
  have hw := I.1
  have hp := I.2.1
  have hsr := I.2.2.2.2.1
  have h40 := hw.2.1.2
  have hn : M 60 = M 60 := rfl
  refine CW_wp fX8_hears rfl rfl rfl ?_
  refine c_isPerson x (fun a ha ea => ?_) (fun na => ?_)
  · refine c_isDay y (fun D hD eD => ?_) (fun nD => ?_)
    · have e1 : M 4 0 = nI (sN (M 60)) := hp.2.1.trans hw.2.1.1
      have hge : ∀ M', Rm (M 60) M M' → M' 60 1 ≤ nI (sN (M 60)) := fun M' hm => by rw [hm.n hn, hw.2.1.1]; exact Int32.le_refl _
      have hlt : ∀ M', Rm (M 60) M M' → ∀ i, i < sN (M 60) → ¬ M' 60 1 ≤ nI i := fun M' hm i hi => by rw [hm.n hn, hw.2.1.1]; exact nI_ge hi (by omega)

      refine dn (E := fun s => Ev G 11 jX8_hears 26 [some (.ref 0), some (.int x), some (.int y), some (.int (nI (cn (fun s => heS (M 60) a s D) s))), some (.int (nI s))] [] (HH M) 0 0 Q) (Nat.zero_le (sN (M 60))) ?_ (fun s _ h2 ih => ?_)
      · refine Ev_wp fX8_hears rfl ?_
        refine xif (by rw [e1]; exact Int32.le_refl _) ?_
        refine q _ _ (fun Q1 q1 => ?_)
        refine CW_wp fX9_hears rfl rfl rfl ?_
        refine m_isPerson_t a ha ea ?_
        refine m_isDay_t D hD eD ?_
        refine dn (E := fun s => ∀ M', Rm (M 60) M M' → Ev G 11 jX9_hears 26 [some (.ref 59), some (.int x), some (.int y), some (.int (nI (cn (fun s => heS (M 60) a s D) s))), some (.int (nI s))] [] (HH M') 0 0 Q1) (Nat.zero_le (sN (M 60))) (fun M' hm => ?_) (fun s _ h2 ih M' hm => ?_) M (Rm.refl hsr)
        · refine Ev_wp fX9_hears rfl ?_
          refine xif (hge M' hm) ?_
          exact q1 _ (I.rm hm)
        · refine Ev_wp fX9_hears rfl ?_
          refine xelse (hlt M' hm s h2) ?_
          rw [nI_succ, cn] at ih
          refine m_hearsIt (hm.n hn) hw hm.2.2 a s D h2 ha hD ea rfl eD (fun M'' hm2 c => ?_) (fun M'' hm2 c => ?_)
          · have h3 := ih M'' (hm.trans hm2)
            rw [if_pos c, nI_succ] at h3
            exact h3
          · have h3 := ih M'' (hm.trans hm2)
            rw [if_neg (by simp [c]), ← nI_add] at h3
            exact h3
      · refine Ev_wp fX8_hears rfl ?_
        refine xelse (by rw [e1]; exact nI_ge h2 (by omega)) ?_
        rw [nI_succ, cn] at ih
        refine c_doesHear hp hw a s D h2 ha (by omega) ea rfl eD (fun c => ?_) (fun c => ?_)
        · rw [if_pos c, nI_succ] at ih
          exact ih
        · rw [if_neg (by simp [c])] at ih
          exact ih
    · refine c_fin0 ?_
      refine q _ _ (fun Q1 q1 => ?_)
      refine CW_wp fX9_hears rfl rfl rfl ?_
      refine m_isPerson_t a ha ea ?_
      refine m_isDay_f nD ?_
      exact m_fin0 (iv_fc I) q1
  · refine c_fin0 ?_
    refine q _ _ (fun Q1 q1 => ?_)
    refine CW_wp fX9_hears rfl rfl rfl ?_
    refine m_isPerson_f na ?_
    exact m_fin0 (iv_fc I) q1
theorem he_no {N : Nat → Int32} {p s T : Nat} (hT : sF N s 5 ≤ T) (h : heS N p s (T + 1) = false) : ∀ d, T < d → heS N p s d = false := fun d hd => by
  cases hz : heS N p s d with
  | false => rfl
  | true => rw [he_mono hz (show sF N s 5 < T + 1 by omega) (by omega)] at h; cases h
theorem st_first (I : Iv 0 M) (x y : Int32) (q : ∀ r M1, Aft G jX9_first [.ref 59, .int x, .int y] r M1 → Q (some (.int r)) (HH M1)) : CW G 11 jX8_first [.ref 0, .int x, .int y] (HH M) Q := by
  have hw := I.1
  have hp := I.2.1
  have hsr := I.2.2.2.2.1
  have h40 := hw.2.1.2
  have hn : M 60 = M 60 := rfl
  refine CW_wp fX8_first rfl rfl rfl ?_
  refine c_isPerson x (fun a ha ea => ?_) (fun na => ?_)
  · refine c_isWord y (fun u hu eu => ?_) (fun nu => ?_)
    · have e1 : M 4 0 = nI (sN (M 60)) := hp.2.1.trans hw.2.1.1

      have hT := hw.1.2
      have e5 : M 1 5 = nI (vN (M 60) 0) := hp.1.trans hw.1.1
      have key : ff (fun s => decide (sF (M 60) s 1 = u) && heS (M 60) a s (vN (M 60) 0 + 1)) (sN (M 60) - 0) 0 = ff (fun s => decide (sF (M 60) s 1 = u) && heS (M 60) a s (vN (M 60) 0 + 1)) (sN (M 60)) 0 → ∀ v, v = nI (vN (M 60) 0 + 1) → Ev G 11 jX8_first 34 [some (.ref 0), some (.int x), some (.int y), some (.int v), some (.int (nI 0))] [] (HH M) 0 0 Q := by
        refine dn (E := fun s => ff (fun s => decide (sF (M 60) s 1 = u) && heS (M 60) a s (vN (M 60) 0 + 1)) (sN (M 60) - s) s = ff (fun s => decide (sF (M 60) s 1 = u) && heS (M 60) a s (vN (M 60) 0 + 1)) (sN (M 60)) 0 → ∀ v, v = nI (vN (M 60) 0 + 1) → Ev G 11 jX8_first 34 [some (.ref 0), some (.int x), some (.int y), some (.int v), some (.int (nI s))] [] (HH M) 0 0 Q) (Nat.zero_le (sN (M 60))) (fun hf v hv => ?_) (fun s _ h2 ih hf v hv => ?_)
        · refine Ev_wp fX8_first rfl ?_
          refine xif (by rw [e1]; exact Int32.le_refl _) ?_
          rw [ff_end _ (Nat.le_refl _)] at hf
          refine c_fin3 ?_
          refine q _ _ (fun Q1 q1 => ?_)
          refine CW_wp fX9_first rfl rfl rfl ?_
          refine m_isPerson_t a ha ea ?_
          refine m_within_t u 0 15 eu rfl rfl (Nat.zero_le _) (by omega) (by decide) ?_
          have hn3 : fc 3 M 60 = M 60 := rfl
          have e0 : fc 3 M 60 0 = nI (vN (M 60) 0) := hw.1.1
          have hno : ∀ s, s < sN (M 60) → ∀ d, vN (M 60) 0 < d → ¬ (sF (M 60) s 1 = u ∧ heS (M 60) a s d = true) := fun s hs d hd h => by
            have h3 := ff_none hf.symm s (Nat.zero_le _) (by omega)
            simp only [h.1, decide_true, Bool.true_and] at h3
            have h4 := he_no ((hw.2.2.2.2.2.2.2.1 s hs).2.2.2.2.2.2) h3 d hd
            rw [h.2] at h4; cases h4
          have k2 : ∀ d, d ≤ 100 → vN (M 60) 0 < d → ∀ M', Rm (M 60) (fc 3 M) M' → Ev G 11 jX9_first 33 [some (.ref 59), some (.int x), some (.int y), some (.int (nI d)), none] [] (HH M') 0 0 Q1 := by
            intro d hd hdT
            refine dn (E := fun d => vN (M 60) 0 < d → ∀ M', Rm (M 60) (fc 3 M) M' → Ev G 11 jX9_first 33 [some (.ref 59), some (.int x), some (.int y), some (.int (nI d)), none] [] (HH M') 0 0 Q1) hd (fun _ M' hm => ?_) (fun d _ hd2 ih hdT M' hm => ?_) hdT
            · refine Ev_wp fX9_first rfl ?_
              exact m_fin3 ((iv_fc (k := 3) I).rm hm) q1
            · refine Ev_wp fX9_first rfl ?_
              refine xelse (nI_ge (b := 100) hd2 (by decide)) ?_
              rw [nI_succ] at ih
              refine dn (E := fun s => ∀ M'', Rm (M 60) (fc 3 M) M'' → Ev G 11 jX9_first 42 [some (.ref 59), some (.int x), some (.int y), some (.int (nI d)), some (.int (nI s))] [] (HH M'') 0 0 Q1) (Nat.zero_le (sN (M 60))) (fun M'' hm2 => ?_) (fun s _ h2 ih2 M'' hm2 => ?_) M' hm
              · refine Ev_wp fX9_first rfl ?_
                refine xif (show M'' 60 1 ≤ nI (sN (M 60)) by rw [hm2.n hn3, hw.2.1.1]; exact Int32.le_refl _) ?_
                exact ih (by omega) M'' hm2
              · refine Ev_wp fX9_first rfl ?_
                refine xelse (show ¬ M'' 60 1 ≤ nI s by rw [hm2.n hn3, hw.2.1.1]; exact nI_ge h2 (by omega)) ?_
                rw [nI_succ] at ih2
                refine m_of (hm2.n hn3) hw s 1 h2 (by decide) rfl rfl (fun r1 hr1 => ?_)
                have ws := (hw.2.2.2.2.2.2.2.1 s h2).2.1
                refine xeq (sF (M 60) s 1) u hr1 eu (by omega) (by omega) (fun c => ?_) (fun c => ?_)
                · refine m_hearsIt (hm2.n hn3) hw hm2.2.2 a s d h2 ha hd2 ea rfl rfl (fun M3 hm3 c2 => absurd ⟨c, c2⟩ (hno s h2 d hdT)) (fun M3 hm3 c2 => ?_)
                  exact ih2 M3 (hm2.trans hm3)
                · exact ih2 M'' hm2
          have k3 := k2 (vN (M 60) 0 + 1) (by omega) (by omega) (fc 3 M) (Rm.refl (iv_fc (k := 3) I).2.2.2.2.1)
          rw [nI_succ, ← e0] at k3
          exact k3
        · refine Ev_wp fX8_first rfl ?_
          refine xelse (by rw [e1]; exact nI_ge h2 (by omega)) ?_
          rw [nI_succ s] at ih
          have ws := (hw.2.2.2.2.2.2.2.1 s h2).2.1
          rw [ff_step _ h2] at hf
          refine xix (n := 40) s rfl (by omega) (by decide) (fun e => ?_)
          rw [e, show M 6 s = nI (sF (M 60) s 1) from hp.say hw h2 (show 1 < 6 by decide)]
          refine xeq (sF (M 60) s 1) u rfl eu (by omega) (by omega) (fun c => ?_) (fun c => ?_)
          · refine c_doesHear hp hw a s (vN (M 60) 0 + 1) h2 ha (by omega) ea rfl hv (fun c2 => ?_) (fun c2 => ?_)
            · rw [if_pos (by simp [c, c2])] at hf
              have hD1 := (hd_lt (he_hd c2)).2
              rw [hv]
              refine q _ _ (fun Q1 q1 => ?_)
              refine CW_wp fX9_first rfl rfl rfl ?_
              refine m_isPerson_t a ha ea ?_
              refine m_within_t u 0 15 eu rfl rfl (Nat.zero_le _) (by omega) (by decide) ?_
              have e0 : M 60 0 = nI (vN (M 60) 0) := hw.1.1
              have k2 : ff (fun s => decide (sF (M 60) s 1 = u) && heS (M 60) a s (vN (M 60) 0 + 1)) (sN (M 60) - 0) 0 = ff (fun s => decide (sF (M 60) s 1 = u) && heS (M 60) a s (vN (M 60) 0 + 1)) (sN (M 60)) 0 → ∀ M', Rm (M 60) M M' → Ev G 11 jX9_first 42 [some (.ref 59), some (.int x), some (.int y), some (.int (nI (vN (M 60) 0 + 1))), some (.int (nI 0))] [] (HH M') 0 0 Q1 := by
                refine dn (E := fun s => ff (fun s => decide (sF (M 60) s 1 = u) && heS (M 60) a s (vN (M 60) 0 + 1)) (sN (M 60) - s) s = ff (fun s => decide (sF (M 60) s 1 = u) && heS (M 60) a s (vN (M 60) 0 + 1)) (sN (M 60)) 0 → ∀ M', Rm (M 60) M M' → Ev G 11 jX9_first 42 [some (.ref 59), some (.int x), some (.int y), some (.int (nI (vN (M 60) 0 + 1))), some (.int (nI s))] [] (HH M') 0 0 Q1) (Nat.zero_le (sN (M 60))) (fun hf2 M' hm => ?_) (fun s' _ h2' ih2 hf2 M' hm => ?_)
                · rw [ff_end _ (Nat.le_refl _), ← hf] at hf2; cases hf2
                · refine Ev_wp fX9_first rfl ?_
                  refine xelse (show ¬ M' 60 1 ≤ nI s' by rw [hm.n hn, hw.2.1.1]; exact nI_ge h2' (by omega)) ?_
                  rw [nI_succ s'] at ih2
                  rw [ff_step _ h2'] at hf2
                  refine m_of (hm.n hn) hw s' 1 h2' (by decide) rfl rfl (fun r1 hr1 => ?_)
                  have ws' := (hw.2.2.2.2.2.2.2.1 s' h2').2.1
                  refine xeq (sF (M 60) s' 1) u hr1 eu (by omega) (by omega) (fun c' => ?_) (fun c' => ?_)
                  · refine m_hearsIt (hm.n hn) hw hm.2.2 a s' (vN (M 60) 0 + 1) h2' ha hD1 ea rfl rfl (fun M3 hm3 c2' => ?_) (fun M3 hm3 c2' => ?_)
                    · exact q1 _ (I.rm (hm.trans hm3))
                    · rw [if_neg (by simp [c2'])] at hf2
                      exact ih2 hf2 M3 (hm.trans hm3)
                  · rw [if_neg (by simp [c'])] at hf2
                    exact ih2 hf2 M' hm
              have k3 : ∀ v, v = nI (vN (M 60) 0 + 1) → Ev G 11 jX9_first 33 [some (.ref 59), some (.int x), some (.int y), some (.int v), none] [] (HH M) 0 0 Q1 := fun v hv => by
                subst hv
                refine Ev_wp fX9_first rfl ?_
                refine xelse (nI_ge (b := 100) hD1 (by decide)) ?_
                exact k2 rfl M (Rm.refl hsr)
              exact k3 (M 60 0 + 1) (by rw [nI_succ, ← e0])
            · rw [if_neg (by simp [c2])] at hf
              exact ih hf v hv
          · rw [if_neg (by simp [c])] at hf
            exact ih hf v hv
      exact key rfl _ (by rw [nI_succ, ← e5])
    · refine c_fin0 ?_
      refine q _ _ (fun Q1 q1 => ?_)
      refine CW_wp fX9_first rfl rfl rfl ?_
      refine m_isPerson_t a ha ea ?_
      refine m_within_f 0 15 rfl rfl (by decide) (by decide) (fun k _ hk => nu k (by omega)) ?_
      exact m_fin0 (iv_fc I) q1
  · refine c_fin0 ?_
    refine q _ _ (fun Q1 q1 => ?_)
    refine CW_wp fX9_first rfl rfl rfl ?_
    refine m_isPerson_f na ?_
    exact m_fin0 (iv_fc I) q1
theorem st_who (I : Iv 0 M) (x : Int32) (q : ∀ r M1, Aft G jX9_who [.ref 59, .int x] r M1 → Q (some (.int r)) (HH M1)) : CW G 11 jX8_who [.ref 0, .int x] (HH M) Q := by
  have hw := I.1
  have hp := I.2.1
  have hsr := I.2.2.2.2.1
  have h40 := hw.2.1.2
  have hn : M 60 = M 60 := rfl
  refine CW_wp fX8_who rfl rfl rfl ?_
  refine c_isSaying hp hw x (fun s hs es => ?_) (fun ns => ?_)
  · have hl := (hw.2.2.2.2.2.2.2.1 s hs).2.2.2.2.2.2
    have hT := hw.1.2
    refine xix (n := 40) s es (by omega) (by decide) (fun e => ?_)
    rw [e, show M 10 s = nI (sF (M 60) s 5) from hp.say hw hs (show 5 < 6 by decide)]
    have key : ∀ v, v = nI (sF (M 60) s 5 + 1) → Ev G 11 jX8_who 35 [some (.ref 0), some (.int x), some (.int v), some (.int (nI (bts (fun p => heS (M 60) p s (sF (M 60) s 5 + 1)) 0))), some (.int (nI 0))] [] (HH M) 0 0 Q := fun v hv => by
      refine dn (E := fun p => Ev G 11 jX8_who 35 [some (.ref 0), some (.int x), some (.int v), some (.int (nI (bts (fun p => heS (M 60) p s (sF (M 60) s 5 + 1)) p))), some (.int (nI p))] [] (HH M) 0 0 Q) (Nat.zero_le 6) ?_ (fun p _ h2 ih => ?_)
      · refine Ev_wp fX8_who rfl ?_
        refine q _ _ (fun Q1 q1 => ?_)
        refine CW_wp fX9_who rfl rfl rfl ?_
        refine m_isSaying_t hn hw s hs es ?_
        refine dn (E := fun p => ∀ M', Rm (M 60) M M' → Ev G 11 jX9_who 19 [some (.ref 59), some (.int x), some (.int (nI (bts (fun p => heS (M 60) p s (sF (M 60) s 5 + 1)) p))), some (.int (nI p)), none, none] [] (HH M') 0 0 Q1) (Nat.zero_le 6) (fun M' hm => ?_) (fun p _ h2 ih M' hm => ?_) M (Rm.refl hsr)
        · refine Ev_wp fX9_who rfl ?_
          exact q1 _ (I.rm hm)
        · refine Ev_wp fX9_who rfl ?_
          refine xelse (nI_ge (b := 6) h2 (by decide)) ?_
          refine m_of (hm.n hn) hw s 5 hs (by decide) es rfl (fun r1 hr1 => ?_)
          rw [nI_succ p, bts] at ih
          have fin : ∀ M'', Rm (M 60) M M'' → ∀ h d : Int32, (heS (M 60) p s (sF (M 60) s 5 + 1) = true ∧ h = 1 ∨ heS (M 60) p s (sF (M 60) s 5 + 1) = false ∧ h = 0) → (heS (M 60) p s (sF (M 60) s 5 + 1) = true ∨ 100 ≤ d) → Ev G 11 jX9_who 38 [some (.ref 59), some (.int x), some (.int (nI (bts (fun p => heS (M 60) p s (sF (M 60) s 5 + 1)) p))), some (.int (nI p)), some (.int h), some (.int d)] [] (HH M'') 0 0 Q1 := fun M'' hm2 h d hh hd => by
            have h3 := ih M'' hm2
            refine Ev_wp fX9_who rfl ?_
            rcases hh with ⟨c, rfl⟩ | ⟨c, rfl⟩
            · rw [if_pos c, ← nx_or, ← nx_shl p (by omega)] at h3
              refine xite (fun _ => ?_) (fun _ => ?_)
              · exact h3
              · exact h3
            · rw [if_neg (by simp [c]), ← nx_or] at h3
              refine xif (hd.resolve_left (by simp [c])) ?_
              exact h3
          have lp : ∀ d, d ≤ 100 → sF (M 60) s 5 < d → ((d = sF (M 60) s 5 + 1) ∨ heS (M 60) p s (sF (M 60) s 5 + 1) = false) → ∀ M'', Rm (M 60) M M'' → Ev G 11 jX9_who 38 [some (.ref 59), some (.int x), some (.int (nI (bts (fun p => heS (M 60) p s (sF (M 60) s 5 + 1)) p))), some (.int (nI p)), some (.int 0), some (.int (nI d))] [] (HH M'') 0 0 Q1 := fun d hd hdl hor => by
            refine dn (E := fun d => sF (M 60) s 5 < d → ((d = sF (M 60) s 5 + 1) ∨ heS (M 60) p s (sF (M 60) s 5 + 1) = false) → ∀ M'', Rm (M 60) M M'' → Ev G 11 jX9_who 38 [some (.ref 59), some (.int x), some (.int (nI (bts (fun p => heS (M 60) p s (sF (M 60) s 5 + 1)) p))), some (.int (nI p)), some (.int 0), some (.int (nI d))] [] (HH M'') 0 0 Q1) hd (fun hdl hor M'' hm2 => ?_) (fun d _ hd2 ih2 hdl hor M'' hm2 => ?_) hdl hor
            · refine fin M'' hm2 0 _ (Or.inr ⟨?_, rfl⟩) (Or.inr (Int32.le_refl _))
              rcases hor with z | z
              · cases hz : heS (M 60) p s (sF (M 60) s 5 + 1) with
                | false => rfl
                | true => have := (hd_lt (he_hd hz)).2; omega
              · exact z
            · refine Ev_wp fX9_who rfl ?_
              refine xelse (nI_ge (b := 100) hd2 (by decide)) ?_
              rw [nI_succ d] at ih2
              refine m_hearsIt (hm2.n hn) hw hm2.2.2 p s d hs h2 hd2 rfl es rfl (fun M3 hm3 c2 => ?_) (fun M3 hm3 c2 => ?_)
              · refine fin M3 (hm2.trans hm3) 1 _ (Or.inl ⟨?_, rfl⟩) (Or.inl ?_)
                · exact he_mono c2 (by omega) (by omega)
                · exact he_mono c2 (by omega) (by omega)
              · refine ih2 (by omega) (Or.inr ?_) M3 (hm2.trans hm3)
                rcases hor with z | z
                · rw [← z]; exact c2
                · exact z
          have k4 := lp (sF (M 60) s 5 + 1) (by omega) (by omega) (Or.inl rfl) M' hm
          rw [nI_succ, ← hr1] at k4
          exact k4
      · refine Ev_wp fX8_who rfl ?_
        refine xelse (nI_ge (b := 6) h2 (by decide)) ?_
        rw [nI_succ p, bts] at ih
        refine c_doesHear hp hw p s (sF (M 60) s 5 + 1) hs h2 (by omega) rfl es hv (fun c => ?_) (fun c => ?_)
        · rw [if_pos c, ← nx_or, ← nx_shl p (by omega)] at ih
          exact ih
        · rw [if_neg (by simp [c]), Nat.or_zero] at ih
          exact ih
    exact key _ (by rw [nI_succ])
  · refine c_fin0 ?_
    refine q _ _ (fun Q1 q1 => ?_)
    refine CW_wp fX9_who rfl rfl rfl ?_
    refine m_isSaying_f (show fc 0 M 60 = M 60 from rfl) hw ns ?_
    exact m_fin0 (iv_fc I) q1
theorem st_said (I : Iv 0 M) (x : Int32) (q : ∀ r M1, Aft G jX9_said [.ref 59, .int x] r M1 → Q (some (.int r)) (HH M1)) : CW G 11 jX8_said [.ref 0, .int x] (HH M) Q := by
  have hw := I.1
  have hp := I.2.1
  have hsr := I.2.2.2.2.1
  have h40 := hw.2.1.2
  have hn : M 60 = M 60 := rfl
  refine CW_wp fX8_said rfl rfl rfl ?_
  refine c_isSaying hp hw x (fun s hs es => ?_) (fun ns => ?_)
  · have wa := hw.2.2.2.2.2.2.2.1 s hs
    refine xix (n := 40) s es (by omega) (by decide) (fun e => ?_)
    rw [e, show M 9 s = nI (sF (M 60) s 4) from hp.say hw hs (show 4 < 6 by decide)]
    have e8 : M 8 s = nI (sF (M 60) s 3) := hp.say hw hs (show 3 < 6 by decide)
    refine dn (E := fun p => Ev G 11 jX8_said 33 [some (.ref 0), some (.int x), some (.int (nI (sF (M 60) s 4))), some (.int (nI (bts (fun p => decide (wh (M 60) p (sF (M 60) s 4) = nI (sF (M 60) s 3))) p))), some (.int (nI p))] [] (HH M) 0 0 Q) (Nat.zero_le 6) ?_ (fun p _ h2 ih => ?_)
    · refine Ev_wp fX8_said rfl ?_
      refine q _ _ (fun Q1 q1 => ?_)
      refine CW_wp fX9_said rfl rfl rfl ?_
      refine m_isSaying_t hn hw s hs es ?_
      refine dn (E := fun p => Ev G 11 jX9_said 19 [some (.ref 59), some (.int x), some (.int (nI (bts (fun p => decide (wh (M 60) p (sF (M 60) s 4) = nI (sF (M 60) s 3))) p))), some (.int (nI p))] [] (HH M) 0 0 Q1) (Nat.zero_le 6) ?_ (fun p _ h2 ih => ?_)
      · refine Ev_wp fX9_said rfl ?_
        exact q1 _ I
      · refine Ev_wp fX9_said rfl ?_
        refine xelse (nI_ge (b := 6) h2 (by decide)) ?_
        rw [nI_succ p, bts] at ih
        refine m_of hn hw s 4 hs (by decide) es rfl (fun r1 hr1 => ?_)
        refine m_whereIs hn p (sF (M 60) s 4) h2 wa.2.2.2.2.2.1 rfl hr1 ?_
        refine m_of hn hw s 3 hs (by decide) es rfl (fun r2 hr2 => ?_)
        subst hr2
        refine xite (fun c => ?_) (fun c => ?_)
        · rw [if_pos (decide_eq_true c), ← nx_or, ← nx_shl p (by omega)] at ih
          exact ih
        · rw [if_neg (by simp [c]), ← nx_or] at ih
          exact ih
    · refine Ev_wp fX8_said rfl ?_
      refine xelse (nI_ge (b := 6) h2 (by decide)) ?_
      rw [nI_succ p, bts] at ih
      refine c_placeOf hp p (sF (M 60) s 4) h2 wa.2.2.2.2.2.1 rfl rfl ?_
      refine xix (n := 40) s es (by omega) (by decide) (fun e => ?_)
      rw [e, e8]
      refine xite (fun c => ?_) (fun c => ?_)
      · rw [if_pos (decide_eq_true c), ← nx_or, ← nx_shl p (by omega)] at ih
        exact ih
      · rw [if_neg (by simp [c]), Nat.or_zero] at ih
        exact ih
  · refine c_fin0 ?_
    refine q _ _ (fun Q1 q1 => ?_)
    refine CW_wp fX9_said rfl rfl rfl ?_
    refine m_isSaying_f (show fc 0 M 60 = M 60 from rfl) hw ns ?_
    exact m_fin0 (iv_fc I) q1
end Q3
end
section
/-! tell, needs, step, crowd, count, status, as: the class beside the model. -/
section Q4
variable {G : xG} {M : xM} {Q : Option Value → xH → Prop}
def tlS (N : Nat → Int32) (a b : Nat) (h : Nat) : Bool := decide (wh N a h ≠ -1) && decide (wh N a h ≠ wh N b h)
theorem nm1 {p : Nat} (h : p < 2 ^ 31) : nI p ≠ -1 := fun z => absurd (z ▸ nI_pos' h) (by decide)
/-- the model finds none at an HOUR where LOUD can't part the two -/
theorem m_tellH {N : Nat → Int32} (hw : Wf N) {M0 : xM} (hn0 : M0 60 = N) {x y lv : Int32} (a b l h : Nat) (ha : a < 6) (hb : b < 6) (hl : l ≤ 9) (hh : h < 24) (hx : x = nI a) (hy : y = nI b) (hlv : lv = nI l) (hno : tlS N a b h = false) (q : ∀ M', Rm N M0 M' → Ev G 11 jX9_tell 37 [some (.ref 59), some (.int x), some (.int y), some (.int lv), some (.int (nI (h + 1))), none] [] (HH M') 0 0 Q) : ∀ M', Rm N M0 M' → Ev G 11 jX9_tell 47 [some (.ref 59), some (.int x), some (.int y), some (.int lv), some (.int (nI h)), some (.int (nI 0))] [] (HH M') 0 0 Q := by
  refine dn (E := fun p => ∀ M', Rm N M0 M' → Ev G 11 jX9_tell 47 [some (.ref 59), some (.int x), some (.int y), some (.int lv), some (.int (nI h)), some (.int (nI p))] [] (HH M') 0 0 Q) (Nat.zero_le 10) (fun M' hm => ?_) (fun p _ h2 ih M' hm => ?_)
  · refine Ev_wp fX9_tell rfl ?_
    have h3 := q M' hm
    rw [nI_succ] at h3
    exact h3
  · refine Ev_wp fX9_tell rfl ?_
    refine xelse (nI_ge (b := 10) h2 (by decide)) ?_
    rw [nI_succ p] at ih
    refine m_isNear (hm.n hn0) hw hm.2.2 a p l h ha h2 hl hh hx rfl hlv rfl (fun M2 hm2 c hc e1 e2 => ?_) (fun M2 hm2 _ => ih M2 (hm.trans hm2))
    refine m_isNear (hm2.n (hm.n hn0)) hw hm2.2.2 b p l h hb h2 hl hh hy rfl hlv rfl (fun M3 hm3 _ _ _ _ => ih M3 ((hm.trans hm2).trans hm3)) (fun M3 hm3 hz => ?_)
    have e3 : wh N a h = wh N b h := by
      by_cases z : wh N a h = wh N b h
      · exact z
      · simp [tlS, z] at hno
        exact absurd (e1 ▸ hno) (nm1 (by omega))
    rcases hz with hz | ⟨d, hd, hz, hz2⟩
    · rw [← e3, e1] at hz
      exact absurd hz (nm1 (by omega))
    · rw [← e3, e1, nI_eq (by omega) (by omega)] at hz
      subst hz
      rw [e2] at hz2; cases hz2
theorem st_tell (I : Iv 0 M) (x y : Int32) (q : ∀ r M1, Aft G jX9_tell [.ref 59, .int x, .int y] r M1 → Q (some (.int r)) (HH M1)) : CW G 11 jX8_tell [.ref 0, .int x, .int y] (HH M) Q := by
  have hw := I.1
  have hp := I.2.1
  have hsr := I.2.2.2.2.1
  have h40 := hw.2.1.2
  have hn : M 60 = M 60 := rfl
  refine CW_wp fX8_tell rfl rfl rfl ?_
  refine c_isPerson x (fun a ha ea => ?_) (fun na => ?_)
  · refine c_isPerson y (fun b hb eb => ?_) (fun nb => ?_)
    · refine xite (fun c => ?_) (fun c => ?_)
      · refine c_fin0 ?_
        refine q _ _ (fun Q1 q1 => ?_)
        refine CW_wp fX9_tell rfl rfl rfl ?_
        refine m_isPerson_t a ha ea ?_
        refine m_isPerson_t b hb eb ?_
        refine xif c ?_
        exact m_fin0 (iv_fc I) q1
      refine dn (E := fun h => ff (tlS (M 60) a b) (24 - h) h = ff (tlS (M 60) a b) 24 0 → (∀ i, i < h → tlS (M 60) a b i = false) → Ev G 11 jX8_tell 28 [some (.ref 0), some (.int x), some (.int y), some (.int (nI h)), none] [] (HH M) 0 0 Q) (Nat.zero_le 24) (fun _ hno => ?_) (fun h _ h2 ih hf hno => ?_) rfl (fun i hi => absurd hi (Nat.not_lt_zero _))
      · refine Ev_wp fX8_tell rfl ?_
        refine c_fin3 ?_
        refine q _ _ (fun Q1 q1 => ?_)
        refine CW_wp fX9_tell rfl rfl rfl ?_
        refine m_isPerson_t a ha ea ?_
        refine m_isPerson_t b hb eb ?_
        refine xelse c ?_
        refine dn (E := fun l => ∀ M', Rm (M 60) (fc 3 M) M' → Ev G 11 jX9_tell 28 [some (.ref 59), some (.int x), some (.int y), some (.int (nI l)), none, none] [] (HH M') 0 0 Q1) (show 1 ≤ 10 by decide) (fun M' hm => ?_) (fun l _ hl2 ih M' hm => ?_) (fc 3 M) (Rm.refl (iv_fc (k := 3) I).2.2.2.2.1)
        · refine Ev_wp fX9_tell rfl ?_
          exact m_fin3 ((iv_fc (k := 3) I).rm hm) q1
        · refine Ev_wp fX9_tell rfl ?_
          refine xelse (nI_nlt (b := l) (a := 9) (by omega) (by decide)) ?_
          rw [nI_succ l] at ih
          refine dn (E := fun h => ∀ M', Rm (M 60) (fc 3 M) M' → Ev G 11 jX9_tell 37 [some (.ref 59), some (.int x), some (.int y), some (.int (nI l)), some (.int (nI h)), none] [] (HH M') 0 0 Q1) (Nat.zero_le 24) (fun M' hm => ?_) (fun h _ hh2 ih2 M' hm => ?_) M' hm
          · refine Ev_wp fX9_tell rfl ?_
            exact ih M' hm
          · refine Ev_wp fX9_tell rfl ?_
            refine xelse (nI_ge (b := 24) hh2 (by decide)) ?_
            exact m_tellH hw (show fc 3 M 60 = M 60 from rfl) a b l h ha hb (by omega) hh2 ea eb rfl (hno h hh2) ih2 M' hm
      · refine Ev_wp fX8_tell rfl ?_
        refine xelse (nI_ge (b := 24) h2 (by decide)) ?_
        rw [nI_succ h] at ih
        rw [ff_step _ h2] at hf
        have ih' : tlS (M 60) a b h = false → Ev G 11 jX8_tell 28 [some (.ref 0), some (.int x), some (.int y), some (.int (nI h + 1)), none] [] (HH M) 0 0 Q := fun z => by
          rw [if_neg (by simp [z])] at hf
          exact ih hf (fun i hi => by
            by_cases e : i = h
            · subst e; exact z
            · exact hno i (by omega))
        refine c_placeOf hp a h ha h2 ea rfl ?_
        refine xite (fun c2 => ih' (by simp [tlS, c2])) (fun c2 => ?_)
        refine c_placeOf hp b h hb h2 eb rfl ?_
        refine xite (fun c3 => ih' (by simp [tlS, c3])) (fun c3 => ?_)
        rcases wh_c hw ha h2 with e | ⟨p, hp10, e⟩
        · exact absurd e c2
        have hans : 10000 + 100 * nI h + wh (M 60) a h = nI (10000 + 100 * h + p) := ia (ia rfl (im rfl rfl)) e
        refine q _ _ (fun Q1 q1 => ?_)
        refine CW_wp fX9_tell rfl rfl rfl ?_
        refine m_isPerson_t a ha ea ?_
        refine m_isPerson_t b hb eb ?_
        refine xelse c ?_
        have kp : ∀ M', Rm (M 60) M M' → Ev G 11 jX9_tell 47 [some (.ref 59), some (.int x), some (.int y), some (.int (nI 1)), some (.int (nI h)), some (.int (nI 0))] [] (HH M') 0 0 Q1 := by
          refine dn (E := fun k => ∀ M', Rm (M 60) M M' → Ev G 11 jX9_tell 47 [some (.ref 59), some (.int x), some (.int y), some (.int (nI 1)), some (.int (nI h)), some (.int (nI k))] [] (HH M') 0 0 Q1) (Nat.zero_le p) (fun M' hm => ?_) (fun k _ hk2 ih3 M' hm => ?_)
          · refine Ev_wp fX9_tell rfl ?_
            refine xelse (nI_ge (b := 10) hp10 (by decide)) ?_
            refine m_isNear (hm.n hn) hw hm.2.2 a p 1 h ha hp10 (by decide) h2 ea rfl rfl rfl (fun M2 hm2 d hd e1 e2 => ?_) (fun M2 hm2 hz => ?_)
            · refine m_isNear (hm2.n (hm.n hn)) hw hm2.2.2 b p 1 h hb hp10 (by decide) h2 eb rfl rfl rfl (fun M3 hm3 d3 hd3 e3 e4 => ?_) (fun M3 hm3 hz => ?_)
              · have e5 : p = d3 := of_decide_eq_true e4
                subst e5
                rw [e, ← e3] at c3
                exact absurd rfl c3
              · have e6 : 10000 * nI 1 + 100 * nI h + nI p = nI (10000 + 100 * h + p) := ia (ia rfl (im rfl rfl)) rfl
                rw [hans, ← e6] at q1
                exact q1 _ (I.rm ((hm.trans hm2).trans hm3))
            · rcases hz with hz | ⟨d, hd, hz, hz2⟩
              · exact absurd hz c2
              · rw [e, nI_eq (by omega) (by omega)] at hz
                subst hz
                rw [show (1 : Nat) / 3 = 0 from rfl, rc_0] at hz2
                simp at hz2
          · refine Ev_wp fX9_tell rfl ?_
            refine xelse (nI_ge (b := 10) (by omega) (by decide)) ?_
            rw [nI_succ k] at ih3
            refine m_isNear (hm.n hn) hw hm.2.2 a k 1 h ha (by omega) (by decide) h2 ea rfl rfl rfl (fun M2 hm2 d hd e1 e2 => ?_) (fun M2 hm2 hz => ih3 M2 (hm.trans hm2))
            have e5 : k = d := of_decide_eq_true e2
            rw [e, nI_eq (by omega) (by omega)] at e1
            omega
        have k1 : ∀ M', Rm (M 60) M M' → Ev G 11 jX9_tell 37 [some (.ref 59), some (.int x), some (.int y), some (.int (nI 1)), some (.int (nI 0)), none] [] (HH M') 0 0 Q1 := by
          refine dn (E := fun k => ∀ M', Rm (M 60) M M' → Ev G 11 jX9_tell 37 [some (.ref 59), some (.int x), some (.int y), some (.int (nI 1)), some (.int (nI k)), none] [] (HH M') 0 0 Q1) (Nat.zero_le h) (fun M' hm => ?_) (fun k _ hk2 ih3 M' hm => ?_)
          · refine Ev_wp fX9_tell rfl ?_
            refine xelse (nI_ge (b := 24) h2 (by decide)) ?_
            exact kp M' hm
          · refine Ev_wp fX9_tell rfl ?_
            refine xelse (nI_ge (b := 24) (by omega) (by decide)) ?_
            exact m_tellH hw hn a b 1 k ha hb (by decide) (by omega) ea eb rfl (hno k hk2) ih3 M' hm
        have k0 : Ev G 11 jX9_tell 28 [some (.ref 59), some (.int x), some (.int y), some (.int (nI 1)), none, none] [] (HH M) 0 0 Q1 := by
          refine Ev_wp fX9_tell rfl ?_
          exact k1 M (Rm.refl hsr)
        exact k0
    · refine c_fin0 ?_
      refine q _ _ (fun Q1 q1 => ?_)
      refine CW_wp fX9_tell rfl rfl rfl ?_
      refine m_isPerson_t a ha ea ?_
      refine m_isPerson_f nb ?_
      exact m_fin0 (iv_fc I) q1
  · refine c_fin0 ?_
    refine q _ _ (fun Q1 q1 => ?_)
    refine CW_wp fX9_tell rfl rfl rfl ?_
    refine m_isPerson_f na ?_
    exact m_fin0 (iv_fc I) q1
theorem st_step (I : Iv 0 M) (x : Int32) (q : ∀ r M1, Aft G jX9_step [.ref 59, .int x] r M1 → Q (some (.int r)) (HH M1)) : CW G 11 jX8_step [.ref 0, .int x] (HH M) Q := by
  have hw := I.1
  have hp := I.2.1
  have hsr := I.2.2.2.2.1
  have h40 := hw.2.1.2
  have hn : M 60 = M 60 := rfl
  refine CW_wp fX8_step rfl rfl rfl ?_
  obtain ⟨L, hL, l1, l2, l3⟩ := I.2.2.2.2.2.1
  rcases n_ix x 24 (by decide) with ⟨i, hi, ex⟩ | ⟨hx, nx⟩
  · refine xelse (by rw [ex]; exact nI_pos (by omega)) ?_
    refine xif (by rw [ex]; exact nI_lt (b := 24) hi (by decide)) ?_
    refine xle L i l1 ex (by omega) (by omega) (fun c => ?_) (fun c => ?_)
    · refine c_fin3 ?_
      refine q _ _ (fun Q1 q1 => ?_)
      refine CW_wp fX9_step rfl rfl rfl ?_
      refine m_isHour_t i hi ex ?_
      refine xif (show fc 3 M 59 8 ≤ x from by rw [show fc 3 M 59 8 = nI L from l2, ex]; exact nI_le c (by omega)) ?_
      exact m_fin3 (iv_fc I) q1
    · refine xix (n := 24) i ex hi (by decide) (fun e => ?_)
      rw [e]
      refine q _ _ (fun Q1 q1 => ?_)
      refine CW_wp fX9_step rfl rfl rfl ?_
      refine m_isHour_t i hi ex ?_
      refine xelse (show ¬ M 59 8 ≤ x from by rw [l2, ex]; exact nI_ge c (by omega)) ?_
      refine xix (n := 24) i ex hi (by decide) (fun e => ?_)
      rw [e, ← l3 i c]
      exact q1 _ I
  · refine xite (fun c => ?_) (fun c => ?_)
    · refine c_fin0 ?_
      refine q _ _ (fun Q1 q1 => ?_)
      refine CW_wp fX9_step rfl rfl rfl ?_
      refine m_isHour_f nx ?_
      exact m_fin0 (iv_fc I) q1
    · refine xelse (by exact Int32.not_lt.mpr (hx.resolve_left c)) ?_
      refine c_fin0 ?_
      refine q _ _ (fun Q1 q1 => ?_)
      refine CW_wp fX9_step rfl rfl rfl ?_
      refine m_isHour_f nx ?_
      exact m_fin0 (iv_fc I) q1
/-- THE CROWD, of the first k of 240: how many, and where -/
def crC (N : Nat → Int32) (k : Nat) : Nat := cn (fun p => decide (wh N p (k / 10) = nI (k % 10))) 6
def crM (N : Nat → Int32) : Nat → Nat
  | 0 => 0
  | k + 1 => if crM N k < crC N k then crC N k else crM N k
def crT (N : Nat → Int32) : Nat → Nat
  | 0 => 0
  | k + 1 => if crM N k < crC N k then 100 * (k / 10) + k % 10 else crT N k
theorem crM_le (N : Nat → Int32) : ∀ k, crM N k ≤ 6
  | 0 => Nat.zero_le _
  | k + 1 => by
    have h1 := crM_le N k
    have h2 : crC N k ≤ 6 := cn_le _ _
    rw [crM]
    split <;> omega
theorem crT_le (N : Nat → Int32) : ∀ k, crT N k ≤ 100 * k
  | 0 => Nat.zero_le _
  | k + 1 => by
    have h1 := crT_le N k
    rw [crT]
    split <;> omega
def crB (N : Nat → Int32) (k : Nat) : Int32 := if crM N k = 0 then -1 else nI (crT N k)
theorem cr_0 {N : Nat → Int32} {k : Nat} (c : crC N k ≤ crM N k) : crM N (k + 1) = crM N k ∧ crT N (k + 1) = crT N k ∧ crB N (k + 1) = crB N k := by
  have h1 : crM N (k + 1) = crM N k := by rw [crM, if_neg (by omega)]
  have h2 : crT N (k + 1) = crT N k := by rw [crT, if_neg (by omega)]
  exact ⟨h1, h2, by rw [crB, crB, h1, h2]⟩
theorem cr_1 {N : Nat → Int32} {k : Nat} (c : crM N k < crC N k) : crM N (k + 1) = crC N k ∧ crT N (k + 1) = 100 * (k / 10) + k % 10 ∧ crB N (k + 1) = nI (100 * (k / 10) + k % 10) := by
  have h1 : crM N (k + 1) = crC N k := by rw [crM, if_pos c]
  have h2 : crT N (k + 1) = 100 * (k / 10) + k % 10 := by rw [crT, if_pos c]
  exact ⟨h1, h2, by rw [crB, h1, h2, if_neg (by omega)]⟩
theorem st_crowd (I : Iv 0 M) (q : ∀ r M1, Aft G jX9_crowd [.ref 59] r M1 → Q (some (.int r)) (HH M1)) : CW G 11 jX8_crowd [.ref 0] (HH M) Q := by
  have hw := I.1
  have hp := I.2.1
  have hsr := I.2.2.2.2.1
  have h40 := hw.2.1.2
  have hn : M 60 = M 60 := rfl
  refine CW_wp fX8_crowd rfl rfl rfl ?_
  have hin : ∀ h, h < 24 → (Ev G 11 jX8_crowd 6 [some (.ref 0), some (.int (nI (crM (M 60) (10 * (h + 1))))), some (.int (nI (crT (M 60) (10 * (h + 1))))), some (.int (nI (h + 1))), none, none] [] (HH M) 0 0 Q) → Ev G 11 jX8_crowd 15 [some (.ref 0), some (.int (nI (crM (M 60) (10 * h)))), some (.int (nI (crT (M 60) (10 * h)))), some (.int (nI h)), some (.int (nI 0)), none] [] (HH M) 0 0 Q := fun h hh hq => by
    refine dn (E := fun p => Ev G 11 jX8_crowd 15 [some (.ref 0), some (.int (nI (crM (M 60) (10 * h + p)))), some (.int (nI (crT (M 60) (10 * h + p)))), some (.int (nI h)), some (.int (nI p)), none] [] (HH M) 0 0 Q) (Nat.zero_le 10) ?_ (fun p _ h2 ih => ?_)
    · refine Ev_wp fX8_crowd rfl ?_
      rw [nI_succ] at hq
      exact hq
    · refine Ev_wp fX8_crowd rfl ?_
      refine xelse (nI_ge (b := 10) h2 (by decide)) ?_
      refine c_numberAt hp h hh rfl (fun r hr => ?_)
      have b1 := crM_le (M 60) (10 * h + p)
      have b2 : crC (M 60) (10 * h + p) ≤ 6 := cn_le _ _
      have e : crC (M 60) (10 * h + p) = cn (fun k => decide (wh (M 60) k h = nI p)) 6 := by
        unfold crC
        rw [show (10 * h + p) / 10 = h by omega, show (10 * h + p) % 10 = p by omega]
      rw [← e] at hr
      rw [nI_succ p, ← Nat.add_assoc] at ih
      refine xle (crC (M 60) (10 * h + p)) (crM (M 60) (10 * h + p)) hr rfl (by omega) (by omega) (fun c => ?_) (fun c => ?_)
      · obtain ⟨z1, z2, -⟩ := cr_0 c
        rw [z1, z2] at ih
        exact ih
      · obtain ⟨z1, z2, -⟩ := cr_1 c
        rw [z1, z2, show (10 * h + p) / 10 = h by omega, show (10 * h + p) % 10 = p by omega, ← nI_add, ← pk_mul, ← hr] at ih
        exact ih
  refine dn (E := fun h => Ev G 11 jX8_crowd 6 [some (.ref 0), some (.int (nI (crM (M 60) (10 * h)))), some (.int (nI (crT (M 60) (10 * h)))), some (.int (nI h)), none, none] [] (HH M) 0 0 Q) (Nat.zero_le 24) ?_ (fun h _ hh ih => ?_)
  · refine Ev_wp fX8_crowd rfl ?_
    have b1 := crM_le (M 60) (10 * 24)
    have hmod : ∀ (M0 : xM), M0 60 = M 60 → ∀ Q1 : Option Value → xH → Prop, (crM (M 60) (10 * 24) = 0 → Iv 4 M0 ∧ ∀ M2, Iv 0 M2 → Q1 (some (.int (nF 3))) (HH M2)) → (crM (M 60) (10 * 24) ≠ 0 → Q1 (some (.int (nI (crT (M 60) (10 * 24))))) (HH M0)) → Ev G 11 jX9_crowd 6 [some (.ref 59), some (.int (crB (M 60) (10 * 0))), some (.int (nI (crM (M 60) (10 * 0)))), some (.int (nI 0)), none] [] (HH M0) 0 0 Q1 := fun M0 hn0 Q1 qq qq2 => by
      have hin2 : ∀ h, h < 24 → (Ev G 11 jX9_crowd 6 [some (.ref 59), some (.int (crB (M 60) (10 * (h + 1)))), some (.int (nI (crM (M 60) (10 * (h + 1))))), some (.int (nI (h + 1))), none] [] (HH M0) 0 0 Q1) → Ev G 11 jX9_crowd 15 [some (.ref 59), some (.int (crB (M 60) (10 * h))), some (.int (nI (crM (M 60) (10 * h)))), some (.int (nI h)), some (.int (nI 0))] [] (HH M0) 0 0 Q1 := fun h hh hq => by
        refine dn (E := fun p => Ev G 11 jX9_crowd 15 [some (.ref 59), some (.int (crB (M 60) (10 * h + p))), some (.int (nI (crM (M 60) (10 * h + p)))), some (.int (nI h)), some (.int (nI p))] [] (HH M0) 0 0 Q1) (Nat.zero_le 10) ?_ (fun p _ h2 ih => ?_)
        · refine Ev_wp fX9_crowd rfl ?_
          rw [nI_succ] at hq
          exact hq
        · refine Ev_wp fX9_crowd rfl ?_
          refine xelse (nI_ge (b := 10) h2 (by decide)) ?_
          refine m_manyAt hn0 h hh rfl ?_
          have b1 := crM_le (M 60) (10 * h + p)
          have b2 : crC (M 60) (10 * h + p) ≤ 6 := cn_le _ _
          have e : crC (M 60) (10 * h + p) = cn (fun k => decide (wh (M 60) k h = nI p)) 6 := by
            unfold crC
            rw [show (10 * h + p) / 10 = h by omega, show (10 * h + p) % 10 = p by omega]
          rw [← e]
          rw [nI_succ p, ← Nat.add_assoc] at ih
          refine xle (crC (M 60) (10 * h + p)) (crM (M 60) (10 * h + p)) rfl rfl (by omega) (by omega) (fun c => ?_) (fun c => ?_)
          · obtain ⟨z1, -, z2⟩ := cr_0 c
            rw [z1, z2] at ih
            exact ih
          · refine m_manyAt hn0 h hh rfl ?_
            rw [← e]
            obtain ⟨z1, -, z2⟩ := cr_1 c
            rw [z1, z2, show (10 * h + p) / 10 = h by omega, show (10 * h + p) % 10 = p by omega, ← nI_add, ← pk_mul] at ih
            exact ih
      refine dn (E := fun h => Ev G 11 jX9_crowd 6 [some (.ref 59), some (.int (crB (M 60) (10 * h))), some (.int (nI (crM (M 60) (10 * h)))), some (.int (nI h)), none] [] (HH M0) 0 0 Q1) (Nat.zero_le 24) ?_ (fun h _ hh ih => ?_)
      · have b2 := crT_le (M 60) (10 * 24)
        by_cases c : crM (M 60) (10 * 24) = 0
        · rw [show crB (M 60) (10 * 24) = -1 from if_pos c]
          refine Ev_wp fX9_crowd rfl ?_
          exact m_fin3 (qq c).1 (qq c).2
        · rw [show crB (M 60) (10 * 24) = nI (crT (M 60) (10 * 24)) from if_neg c]
          refine Ev_wp fX9_crowd rfl ?_
          refine xif (nI_pos' (by omega)) ?_
          exact qq2 c
      · refine Ev_wp fX9_crowd rfl ?_
        refine xelse (nI_ge (b := 24) hh (by decide)) ?_
        exact hin2 h hh ih
    refine xeq (crM (M 60) (10 * 24)) 0 rfl rfl (by omega) (by decide) (fun c => ?_) (fun c => ?_)
    · refine c_fin3 ?_
      refine q _ _ (fun Q1 q1 => ?_)
      refine CW_wp fX9_crowd rfl rfl rfl ?_
      exact hmod (fc 3 M) rfl Q1 (fun _ => ⟨iv_fc I, q1⟩) (fun z => absurd c z)
    · refine q _ _ (fun Q1 q1 => ?_)
      refine CW_wp fX9_crowd rfl rfl rfl ?_
      exact hmod M rfl Q1 (fun z => absurd z c) (fun _ => q1 _ I)
  · refine Ev_wp fX8_crowd rfl ?_
    refine xelse (nI_ge (b := 24) hh (by decide)) ?_
    exact hin h hh ih
end Q4
end
