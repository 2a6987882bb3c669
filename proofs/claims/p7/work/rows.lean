section
-- ===== PART A: goes FIRST, ahead of the names: the tables' words, and 'selects' of the private methods out of them =====
/-- a private method of a class that the tables say can be made, by its rows of tables_1 -/
def lw_okq (q : MethodName × Nat) : Prop := (q.1.cls ≠ "java/lang/invoke/MethodHandle" ∧ q.1.cls ≠ "java/lang/invoke/VarHandle") ∧ Cond.instantiable q.1.cls q.2 ∈ tables_1 ∧ Cond.privateMethod q.1 ∈ tables_1 ∧ Cond.instanceMethod q.1 ∈ tables_1
theorem lw_p0 : lw_okq (⟨"SealProbe$Terms", "put", "(III)I"⟩, 12) := ⟨⟨by decide +kernel, by decide +kernel⟩, List.mem_of_getElem? (i := 25) (by decide +kernel), List.mem_of_getElem? (i := 550) (by decide +kernel), List.mem_of_getElem? (i := 551) (by decide +kernel)⟩
theorem lw_p1 : lw_okq (⟨"SealProbe", "compound", "(III)I"⟩, 4) := ⟨⟨by decide +kernel, by decide +kernel⟩, List.mem_of_getElem? (i := 17) (by decide +kernel), List.mem_of_getElem? (i := 572) (by decide +kernel), List.mem_of_getElem? (i := 573) (by decide +kernel)⟩
theorem lw_p2 : lw_okq (⟨"SealProbe$Bench", "listVariables", "(I)I"⟩, 14) := ⟨⟨by decide +kernel, by decide +kernel⟩, List.mem_of_getElem? (i := 116) (by decide +kernel), List.mem_of_getElem? (i := 653) (by decide +kernel), List.mem_of_getElem? (i := 654) (by decide +kernel)⟩
theorem lw_p3 : lw_okq (⟨"SealProbe$Bench", "bindIn", "(LSealProbe$Role;LSealProbe$Event;)V"⟩, 14) := ⟨⟨by decide +kernel, by decide +kernel⟩, List.mem_of_getElem? (i := 116) (by decide +kernel), List.mem_of_getElem? (i := 670) (by decide +kernel), List.mem_of_getElem? (i := 671) (by decide +kernel)⟩
theorem lw_p4 : lw_okq (⟨"SealProbe$Event", "markParts", "(LSealProbe$Terms;[I)V"⟩, 8) := ⟨⟨by decide +kernel, by decide +kernel⟩, List.mem_of_getElem? (i := 132) (by decide +kernel), List.mem_of_getElem? (i := 678) (by decide +kernel), List.mem_of_getElem? (i := 679) (by decide +kernel)⟩
theorem lw_p5 : lw_okq (⟨"SealProbe$Event", "levelOf", "(LSealProbe$Terms;[II)I"⟩, 8) := ⟨⟨by decide +kernel, by decide +kernel⟩, List.mem_of_getElem? (i := 132) (by decide +kernel), List.mem_of_getElem? (i := 691) (by decide +kernel), List.mem_of_getElem? (i := 692) (by decide +kernel)⟩
theorem lw_p6 : lw_okq (⟨"SealProbe$Run", "gather", "()V"⟩, 10) := ⟨⟨by decide +kernel, by decide +kernel⟩, List.mem_of_getElem? (i := 309) (by decide +kernel), List.mem_of_getElem? (i := 806) (by decide +kernel), List.mem_of_getElem? (i := 807) (by decide +kernel)⟩
theorem lw_p7 : lw_okq (⟨"SealProbe$Knowledge", "has", "(I)Z"⟩, 14) := ⟨⟨by decide +kernel, by decide +kernel⟩, List.mem_of_getElem? (i := 315) (by decide +kernel), List.mem_of_getElem? (i := 823) (by decide +kernel), List.mem_of_getElem? (i := 824) (by decide +kernel)⟩
theorem lw_p8 : lw_okq (⟨"SealProbe$Run", "eventOf", "(II)LSealProbe$Event;"⟩, 10) := ⟨⟨by decide +kernel, by decide +kernel⟩, List.mem_of_getElem? (i := 309) (by decide +kernel), List.mem_of_getElem? (i := 829) (by decide +kernel), List.mem_of_getElem? (i := 830) (by decide +kernel)⟩
theorem lw_p9 : lw_okq (⟨"SealProbe$Knowledge", "groundOf", "(I[III)I"⟩, 14) := ⟨⟨by decide +kernel, by decide +kernel⟩, List.mem_of_getElem? (i := 315) (by decide +kernel), List.mem_of_getElem? (i := 833) (by decide +kernel), List.mem_of_getElem? (i := 834) (by decide +kernel)⟩
theorem lw_p10 : lw_okq (⟨"SealProbe$Knowledge", "findOrPut", "(III)I"⟩, 14) := ⟨⟨by decide +kernel, by decide +kernel⟩, List.mem_of_getElem? (i := 315) (by decide +kernel), List.mem_of_getElem? (i := 838) (by decide +kernel), List.mem_of_getElem? (i := 839) (by decide +kernel)⟩
theorem lw_p11 : lw_okq (⟨"SealProbe$Knowledge", "takeApartAt", "(I)Z"⟩, 14) := ⟨⟨by decide +kernel, by decide +kernel⟩, List.mem_of_getElem? (i := 315) (by decide +kernel), List.mem_of_getElem? (i := 852) (by decide +kernel), List.mem_of_getElem? (i := 853) (by decide +kernel)⟩
theorem lw_p12 : lw_okq (⟨"SealProbe$Knowledge", "canMake", "(II)Z"⟩, 14) := ⟨⟨by decide +kernel, by decide +kernel⟩, List.mem_of_getElem? (i := 315) (by decide +kernel), List.mem_of_getElem? (i := 857) (by decide +kernel), List.mem_of_getElem? (i := 858) (by decide +kernel)⟩
theorem lw_p13 : lw_okq (⟨"SealProbe$Run", "matches", "(III)Z"⟩, 10) := ⟨⟨by decide +kernel, by decide +kernel⟩, List.mem_of_getElem? (i := 309) (by decide +kernel), List.mem_of_getElem? (i := 874) (by decide +kernel), List.mem_of_getElem? (i := 875) (by decide +kernel)⟩
theorem lw_p14 : lw_okq (⟨"SealProbe$Run", "mayStand", "(II)Z"⟩, 10) := ⟨⟨by decide +kernel, by decide +kernel⟩, List.mem_of_getElem? (i := 309) (by decide +kernel), List.mem_of_getElem? (i := 879) (by decide +kernel), List.mem_of_getElem? (i := 880) (by decide +kernel)⟩
theorem lw_p15 : lw_okq (⟨"SealProbe", "numbered", "(LSealProbe$Knowledge;I)I"⟩, 4) := ⟨⟨by decide +kernel, by decide +kernel⟩, List.mem_of_getElem? (i := 17) (by decide +kernel), List.mem_of_getElem? (i := 892) (by decide +kernel), List.mem_of_getElem? (i := 893) (by decide +kernel)⟩
def lw_privs_1 : List (MethodName × Nat) := [(⟨"SealProbe$Terms", "put", "(III)I"⟩, 12), (⟨"SealProbe", "compound", "(III)I"⟩, 4), (⟨"SealProbe$Bench", "listVariables", "(I)I"⟩, 14), (⟨"SealProbe$Bench", "bindIn", "(LSealProbe$Role;LSealProbe$Event;)V"⟩, 14), (⟨"SealProbe$Event", "markParts", "(LSealProbe$Terms;[I)V"⟩, 8), (⟨"SealProbe$Event", "levelOf", "(LSealProbe$Terms;[II)I"⟩, 8), (⟨"SealProbe$Run", "gather", "()V"⟩, 10), (⟨"SealProbe$Knowledge", "has", "(I)Z"⟩, 14), (⟨"SealProbe$Run", "eventOf", "(II)LSealProbe$Event;"⟩, 10), (⟨"SealProbe$Knowledge", "groundOf", "(I[III)I"⟩, 14), (⟨"SealProbe$Knowledge", "findOrPut", "(III)I"⟩, 14), (⟨"SealProbe$Knowledge", "takeApartAt", "(I)Z"⟩, 14), (⟨"SealProbe$Knowledge", "canMake", "(II)Z"⟩, 14), (⟨"SealProbe$Run", "matches", "(III)Z"⟩, 10), (⟨"SealProbe$Run", "mayStand", "(II)Z"⟩, 10), (⟨"SealProbe", "numbered", "(LSealProbe$Knowledge;I)I"⟩, 4)]
theorem lw_r1 : ∀ q ∈ lw_privs_1, lw_okq q := List.forall_mem_cons.mpr ⟨lw_p0, List.forall_mem_cons.mpr ⟨lw_p1, List.forall_mem_cons.mpr ⟨lw_p2, List.forall_mem_cons.mpr ⟨lw_p3, List.forall_mem_cons.mpr ⟨lw_p4, List.forall_mem_cons.mpr ⟨lw_p5, List.forall_mem_cons.mpr ⟨lw_p6, List.forall_mem_cons.mpr ⟨lw_p7, List.forall_mem_cons.mpr ⟨lw_p8, List.forall_mem_cons.mpr ⟨lw_p9, List.forall_mem_cons.mpr ⟨lw_p10, List.forall_mem_cons.mpr ⟨lw_p11, List.forall_mem_cons.mpr ⟨lw_p12, List.forall_mem_cons.mpr ⟨lw_p13, List.forall_mem_cons.mpr ⟨lw_p14, List.forall_mem_cons.mpr ⟨lw_p15, fun _ h => absurd h List.not_mem_nil⟩⟩⟩⟩⟩⟩⟩⟩⟩⟩⟩⟩⟩⟩⟩⟩
theorem lw_p16 : lw_okq (⟨"SealProbe$Knowledge", "want", "(I)V"⟩, 14) := ⟨⟨by decide +kernel, by decide +kernel⟩, List.mem_of_getElem? (i := 315) (by decide +kernel), List.mem_of_getElem? (i := 900) (by decide +kernel), List.mem_of_getElem? (i := 901) (by decide +kernel)⟩
theorem lw_p17 : lw_okq (⟨"SealProbe$Knowledge", "isUnnumbered", "(I)Z"⟩, 14) := ⟨⟨by decide +kernel, by decide +kernel⟩, List.mem_of_getElem? (i := 315) (by decide +kernel), List.mem_of_getElem? (i := 904) (by decide +kernel), List.mem_of_getElem? (i := 905) (by decide +kernel)⟩
theorem lw_p18 : lw_okq (⟨"SealProbe$Knowledge", "giveNumber", "(II)I"⟩, 14) := ⟨⟨by decide +kernel, by decide +kernel⟩, List.mem_of_getElem? (i := 315) (by decide +kernel), List.mem_of_getElem? (i := 908) (by decide +kernel), List.mem_of_getElem? (i := 909) (by decide +kernel)⟩
theorem lw_p19 : lw_okq (⟨"SealProbe$Bench", "leaks", "(LSealProbe$Claim;[IILSealProbe$Knowledge;)Z"⟩, 14) := ⟨⟨by decide +kernel, by decide +kernel⟩, List.mem_of_getElem? (i := 116) (by decide +kernel), List.mem_of_getElem? (i := 935) (by decide +kernel), List.mem_of_getElem? (i := 936) (by decide +kernel)⟩
theorem lw_p20 : lw_okq (⟨"SealProbe$Bench", "canPartner", "(LSealProbe$Claim;[IIII)Z"⟩, 14) := ⟨⟨by decide +kernel, by decide +kernel⟩, List.mem_of_getElem? (i := 116) (by decide +kernel), List.mem_of_getElem? (i := 941) (by decide +kernel), List.mem_of_getElem? (i := 942) (by decide +kernel)⟩
theorem lw_p21 : lw_okq (⟨"SealProbe$Bench", "isPartner", "(LSealProbe$Claim;[IIII)Z"⟩, 14) := ⟨⟨by decide +kernel, by decide +kernel⟩, List.mem_of_getElem? (i := 116) (by decide +kernel), List.mem_of_getElem? (i := 949) (by decide +kernel), List.mem_of_getElem? (i := 950) (by decide +kernel)⟩
theorem lw_p22 : lw_okq (⟨"SealProbe$Chooser", "addOption", "(II)V"⟩, 9) := ⟨⟨by decide +kernel, by decide +kernel⟩, List.mem_of_getElem? (i := 443) (by decide +kernel), List.mem_of_getElem? (i := 975) (by decide +kernel), List.mem_of_getElem? (i := 976) (by decide +kernel)⟩
theorem lw_p23 : lw_okq (⟨"SealProbe$Search", "reach", "(IILSealProbe$Knowledge;)V"⟩, 13) := ⟨⟨by decide +kernel, by decide +kernel⟩, List.mem_of_getElem? (i := 404) (by decide +kernel), List.mem_of_getElem? (i := 991) (by decide +kernel), List.mem_of_getElem? (i := 992) (by decide +kernel)⟩
theorem lw_p24 : lw_okq (⟨"SealProbe$Search", "tracePath", "(I)V"⟩, 13) := ⟨⟨by decide +kernel, by decide +kernel⟩, List.mem_of_getElem? (i := 404) (by decide +kernel), List.mem_of_getElem? (i := 1008) (by decide +kernel), List.mem_of_getElem? (i := 1009) (by decide +kernel)⟩
theorem lw_p25 : lw_okq (⟨"SealProbe$Search", "tryWays", "(IILSealProbe$Event;)V"⟩, 13) := ⟨⟨by decide +kernel, by decide +kernel⟩, List.mem_of_getElem? (i := 404) (by decide +kernel), List.mem_of_getElem? (i := 1021) (by decide +kernel), List.mem_of_getElem? (i := 1022) (by decide +kernel)⟩
theorem lw_p26 : lw_okq (⟨"SealProbe$Chooser", "choose", "(LSealProbe$Event;II)V"⟩, 9) := ⟨⟨by decide +kernel, by decide +kernel⟩, List.mem_of_getElem? (i := 443) (by decide +kernel), List.mem_of_getElem? (i := 1033) (by decide +kernel), List.mem_of_getElem? (i := 1034) (by decide +kernel)⟩
theorem lw_p27 : lw_okq (⟨"SealProbe$Chooser", "valueOf", "(I)I"⟩, 9) := ⟨⟨by decide +kernel, by decide +kernel⟩, List.mem_of_getElem? (i := 443) (by decide +kernel), List.mem_of_getElem? (i := 1045) (by decide +kernel), List.mem_of_getElem? (i := 1046) (by decide +kernel)⟩
theorem lw_p28 : lw_okq (⟨"SealProbe$Chooser", "canCompose", "(I)Z"⟩, 9) := ⟨⟨by decide +kernel, by decide +kernel⟩, List.mem_of_getElem? (i := 443) (by decide +kernel), List.mem_of_getElem? (i := 1051) (by decide +kernel), List.mem_of_getElem? (i := 1052) (by decide +kernel)⟩
theorem lw_p29 : lw_okq (⟨"SealProbe$States", "isSame", "([III)Z"⟩, 6) := ⟨⟨by decide +kernel, by decide +kernel⟩, List.mem_of_getElem? (i := 410) (by decide +kernel), List.mem_of_getElem? (i := 1060) (by decide +kernel), List.mem_of_getElem? (i := 1061) (by decide +kernel)⟩
theorem lw_p30 : lw_okq (⟨"SealProbeModel", "emptyTable", "()V"⟩, 79) := ⟨⟨by decide +kernel, by decide +kernel⟩, List.mem_of_getElem? (i := 1114) (by decide +kernel), List.mem_of_getElem? (i := 1120) (by decide +kernel), List.mem_of_getElem? (i := 1121) (by decide +kernel)⟩
theorem lw_p31 : lw_okq (⟨"SealProbeModel", "last", "(III)I"⟩, 79) := ⟨⟨by decide +kernel, by decide +kernel⟩, List.mem_of_getElem? (i := 1114) (by decide +kernel), List.mem_of_getElem? (i := 1366) (by decide +kernel), List.mem_of_getElem? (i := 1367) (by decide +kernel)⟩
def lw_privs_2 : List (MethodName × Nat) := [(⟨"SealProbe$Knowledge", "want", "(I)V"⟩, 14), (⟨"SealProbe$Knowledge", "isUnnumbered", "(I)Z"⟩, 14), (⟨"SealProbe$Knowledge", "giveNumber", "(II)I"⟩, 14), (⟨"SealProbe$Bench", "leaks", "(LSealProbe$Claim;[IILSealProbe$Knowledge;)Z"⟩, 14), (⟨"SealProbe$Bench", "canPartner", "(LSealProbe$Claim;[IIII)Z"⟩, 14), (⟨"SealProbe$Bench", "isPartner", "(LSealProbe$Claim;[IIII)Z"⟩, 14), (⟨"SealProbe$Chooser", "addOption", "(II)V"⟩, 9), (⟨"SealProbe$Search", "reach", "(IILSealProbe$Knowledge;)V"⟩, 13), (⟨"SealProbe$Search", "tracePath", "(I)V"⟩, 13), (⟨"SealProbe$Search", "tryWays", "(IILSealProbe$Event;)V"⟩, 13), (⟨"SealProbe$Chooser", "choose", "(LSealProbe$Event;II)V"⟩, 9), (⟨"SealProbe$Chooser", "valueOf", "(I)I"⟩, 9), (⟨"SealProbe$Chooser", "canCompose", "(I)Z"⟩, 9), (⟨"SealProbe$States", "isSame", "([III)Z"⟩, 6), (⟨"SealProbeModel", "emptyTable", "()V"⟩, 79), (⟨"SealProbeModel", "last", "(III)I"⟩, 79)]
theorem lw_r2 : ∀ q ∈ lw_privs_2, lw_okq q := List.forall_mem_cons.mpr ⟨lw_p16, List.forall_mem_cons.mpr ⟨lw_p17, List.forall_mem_cons.mpr ⟨lw_p18, List.forall_mem_cons.mpr ⟨lw_p19, List.forall_mem_cons.mpr ⟨lw_p20, List.forall_mem_cons.mpr ⟨lw_p21, List.forall_mem_cons.mpr ⟨lw_p22, List.forall_mem_cons.mpr ⟨lw_p23, List.forall_mem_cons.mpr ⟨lw_p24, List.forall_mem_cons.mpr ⟨lw_p25, List.forall_mem_cons.mpr ⟨lw_p26, List.forall_mem_cons.mpr ⟨lw_p27, List.forall_mem_cons.mpr ⟨lw_p28, List.forall_mem_cons.mpr ⟨lw_p29, List.forall_mem_cons.mpr ⟨lw_p30, List.forall_mem_cons.mpr ⟨lw_p31, fun _ h => absurd h List.not_mem_nil⟩⟩⟩⟩⟩⟩⟩⟩⟩⟩⟩⟩⟩⟩⟩⟩
theorem lw_p32 : lw_okq (⟨"SealProbeModel", "release", "(I)V"⟩, 79) := ⟨⟨by decide +kernel, by decide +kernel⟩, List.mem_of_getElem? (i := 1114) (by decide +kernel), List.mem_of_getElem? (i := 1370) (by decide +kernel), List.mem_of_getElem? (i := 1371) (by decide +kernel)⟩
theorem lw_p33 : lw_okq (⟨"SealProbeModel", "lay", "(IIII)V"⟩, 79) := ⟨⟨by decide +kernel, by decide +kernel⟩, List.mem_of_getElem? (i := 1114) (by decide +kernel), List.mem_of_getElem? (i := 1377) (by decide +kernel), List.mem_of_getElem? (i := 1378) (by decide +kernel)⟩
theorem lw_p34 : lw_okq (⟨"SealProbeModel", "sizeOf", "(III)I"⟩, 79) := ⟨⟨by decide +kernel, by decide +kernel⟩, List.mem_of_getElem? (i := 1114) (by decide +kernel), List.mem_of_getElem? (i := 1381) (by decide +kernel), List.mem_of_getElem? (i := 1382) (by decide +kernel)⟩
theorem lw_p35 : lw_okq (⟨"SealProbeModel", "isTerm", "(I)Z"⟩, 79) := ⟨⟨by decide +kernel, by decide +kernel⟩, List.mem_of_getElem? (i := 1114) (by decide +kernel), List.mem_of_getElem? (i := 1397) (by decide +kernel), List.mem_of_getElem? (i := 1398) (by decide +kernel)⟩
theorem lw_p36 : lw_okq (⟨"SealProbeModel", "oldOrNew", "(III)I"⟩, 79) := ⟨⟨by decide +kernel, by decide +kernel⟩, List.mem_of_getElem? (i := 1114) (by decide +kernel), List.mem_of_getElem? (i := 1401) (by decide +kernel), List.mem_of_getElem? (i := 1402) (by decide +kernel)⟩
theorem lw_p37 : lw_okq (⟨"SealProbeModel", "find", "(III)I"⟩, 79) := ⟨⟨by decide +kernel, by decide +kernel⟩, List.mem_of_getElem? (i := 1114) (by decide +kernel), List.mem_of_getElem? (i := 1405) (by decide +kernel), List.mem_of_getElem? (i := 1406) (by decide +kernel)⟩
theorem lw_p38 : lw_okq (⟨"SealProbeModel", "isRole", "(I)Z"⟩, 79) := ⟨⟨by decide +kernel, by decide +kernel⟩, List.mem_of_getElem? (i := 1114) (by decide +kernel), List.mem_of_getElem? (i := 1427) (by decide +kernel), List.mem_of_getElem? (i := 1428) (by decide +kernel)⟩
theorem lw_p39 : lw_okq (⟨"SealProbeModel", "findVariables", "(I)V"⟩, 79) := ⟨⟨by decide +kernel, by decide +kernel⟩, List.mem_of_getElem? (i := 1114) (by decide +kernel), List.mem_of_getElem? (i := 1436) (by decide +kernel), List.mem_of_getElem? (i := 1437) (by decide +kernel)⟩
theorem lw_p40 : lw_okq (⟨"SealProbeModel", "isReceived", "(II)Z"⟩, 79) := ⟨⟨by decide +kernel, by decide +kernel⟩, List.mem_of_getElem? (i := 1114) (by decide +kernel), List.mem_of_getElem? (i := 1440) (by decide +kernel), List.mem_of_getElem? (i := 1441) (by decide +kernel)⟩
theorem lw_p41 : lw_okq (⟨"SealProbeModel", "forget", "()V"⟩, 79) := ⟨⟨by decide +kernel, by decide +kernel⟩, List.mem_of_getElem? (i := 1114) (by decide +kernel), List.mem_of_getElem? (i := 1448) (by decide +kernel), List.mem_of_getElem? (i := 1449) (by decide +kernel)⟩
theorem lw_p42 : lw_okq (⟨"SealProbeModel", "howManyAs", "(II)I"⟩, 79) := ⟨⟨by decide +kernel, by decide +kernel⟩, List.mem_of_getElem? (i := 1114) (by decide +kernel), List.mem_of_getElem? (i := 1456) (by decide +kernel), List.mem_of_getElem? (i := 1457) (by decide +kernel)⟩
theorem lw_p43 : lw_okq (⟨"SealProbeModel", "claim", "(ZIII)I"⟩, 79) := ⟨⟨by decide +kernel, by decide +kernel⟩, List.mem_of_getElem? (i := 1114) (by decide +kernel), List.mem_of_getElem? (i := 1464) (by decide +kernel), List.mem_of_getElem? (i := 1465) (by decide +kernel)⟩
theorem lw_p44 : lw_okq (⟨"SealProbeModel", "begins", "()V"⟩, 79) := ⟨⟨by decide +kernel, by decide +kernel⟩, List.mem_of_getElem? (i := 1114) (by decide +kernel), List.mem_of_getElem? (i := 1480) (by decide +kernel), List.mem_of_getElem? (i := 1481) (by decide +kernel)⟩
theorem lw_p45 : lw_okq (⟨"SealProbeModel", "isSession", "(I)Z"⟩, 79) := ⟨⟨by decide +kernel, by decide +kernel⟩, List.mem_of_getElem? (i := 1114) (by decide +kernel), List.mem_of_getElem? (i := 1492) (by decide +kernel), List.mem_of_getElem? (i := 1493) (by decide +kernel)⟩
theorem lw_p46 : lw_okq (⟨"SealProbeModel", "nextEvent", "(I)I"⟩, 79) := ⟨⟨by decide +kernel, by decide +kernel⟩, List.mem_of_getElem? (i := 1114) (by decide +kernel), List.mem_of_getElem? (i := 1496) (by decide +kernel), List.mem_of_getElem? (i := 1497) (by decide +kernel)⟩
theorem lw_p47 : lw_okq (⟨"SealProbeModel", "does", "(II)V"⟩, 79) := ⟨⟨by decide +kernel, by decide +kernel⟩, List.mem_of_getElem? (i := 1114) (by decide +kernel), List.mem_of_getElem? (i := 1500) (by decide +kernel), List.mem_of_getElem? (i := 1501) (by decide +kernel)⟩
def lw_privs_3 : List (MethodName × Nat) := [(⟨"SealProbeModel", "release", "(I)V"⟩, 79), (⟨"SealProbeModel", "lay", "(IIII)V"⟩, 79), (⟨"SealProbeModel", "sizeOf", "(III)I"⟩, 79), (⟨"SealProbeModel", "isTerm", "(I)Z"⟩, 79), (⟨"SealProbeModel", "oldOrNew", "(III)I"⟩, 79), (⟨"SealProbeModel", "find", "(III)I"⟩, 79), (⟨"SealProbeModel", "isRole", "(I)Z"⟩, 79), (⟨"SealProbeModel", "findVariables", "(I)V"⟩, 79), (⟨"SealProbeModel", "isReceived", "(II)Z"⟩, 79), (⟨"SealProbeModel", "forget", "()V"⟩, 79), (⟨"SealProbeModel", "howManyAs", "(II)I"⟩, 79), (⟨"SealProbeModel", "claim", "(ZIII)I"⟩, 79), (⟨"SealProbeModel", "begins", "()V"⟩, 79), (⟨"SealProbeModel", "isSession", "(I)Z"⟩, 79), (⟨"SealProbeModel", "nextEvent", "(I)I"⟩, 79), (⟨"SealProbeModel", "does", "(II)V"⟩, 79)]
theorem lw_r3 : ∀ q ∈ lw_privs_3, lw_okq q := List.forall_mem_cons.mpr ⟨lw_p32, List.forall_mem_cons.mpr ⟨lw_p33, List.forall_mem_cons.mpr ⟨lw_p34, List.forall_mem_cons.mpr ⟨lw_p35, List.forall_mem_cons.mpr ⟨lw_p36, List.forall_mem_cons.mpr ⟨lw_p37, List.forall_mem_cons.mpr ⟨lw_p38, List.forall_mem_cons.mpr ⟨lw_p39, List.forall_mem_cons.mpr ⟨lw_p40, List.forall_mem_cons.mpr ⟨lw_p41, List.forall_mem_cons.mpr ⟨lw_p42, List.forall_mem_cons.mpr ⟨lw_p43, List.forall_mem_cons.mpr ⟨lw_p44, List.forall_mem_cons.mpr ⟨lw_p45, List.forall_mem_cons.mpr ⟨lw_p46, List.forall_mem_cons.mpr ⟨lw_p47, fun _ h => absurd h List.not_mem_nil⟩⟩⟩⟩⟩⟩⟩⟩⟩⟩⟩⟩⟩⟩⟩⟩
theorem lw_p48 : lw_okq (⟨"SealProbeModel", "runRow", "()V"⟩, 79) := ⟨⟨by decide +kernel, by decide +kernel⟩, List.mem_of_getElem? (i := 1114) (by decide +kernel), List.mem_of_getElem? (i := 1504) (by decide +kernel), List.mem_of_getElem? (i := 1505) (by decide +kernel)⟩
theorem lw_p49 : lw_okq (⟨"SealProbeModel", "beginRow", "()V"⟩, 79) := ⟨⟨by decide +kernel, by decide +kernel⟩, List.mem_of_getElem? (i := 1114) (by decide +kernel), List.mem_of_getElem? (i := 1508) (by decide +kernel), List.mem_of_getElem? (i := 1509) (by decide +kernel)⟩
theorem lw_p50 : lw_okq (⟨"SealProbeModel", "comes", "(III)V"⟩, 79) := ⟨⟨by decide +kernel, by decide +kernel⟩, List.mem_of_getElem? (i := 1114) (by decide +kernel), List.mem_of_getElem? (i := 1512) (by decide +kernel), List.mem_of_getElem? (i := 1513) (by decide +kernel)⟩
theorem lw_p51 : lw_okq (⟨"SealProbeModel", "standsFor", "(II)I"⟩, 79) := ⟨⟨by decide +kernel, by decide +kernel⟩, List.mem_of_getElem? (i := 1114) (by decide +kernel), List.mem_of_getElem? (i := 1516) (by decide +kernel), List.mem_of_getElem? (i := 1517) (by decide +kernel)⟩
theorem lw_p52 : lw_okq (⟨"SealProbeModel", "one", "(II)I"⟩, 79) := ⟨⟨by decide +kernel, by decide +kernel⟩, List.mem_of_getElem? (i := 1114) (by decide +kernel), List.mem_of_getElem? (i := 1520) (by decide +kernel), List.mem_of_getElem? (i := 1521) (by decide +kernel)⟩
theorem lw_p53 : lw_okq (⟨"SealProbeModel", "made", "(III)I"⟩, 79) := ⟨⟨by decide +kernel, by decide +kernel⟩, List.mem_of_getElem? (i := 1114) (by decide +kernel), List.mem_of_getElem? (i := 1524) (by decide +kernel), List.mem_of_getElem? (i := 1525) (by decide +kernel)⟩
theorem lw_p54 : lw_okq (⟨"SealProbeModel", "endRow", "()V"⟩, 79) := ⟨⟨by decide +kernel, by decide +kernel⟩, List.mem_of_getElem? (i := 1114) (by decide +kernel), List.mem_of_getElem? (i := 1528) (by decide +kernel), List.mem_of_getElem? (i := 1529) (by decide +kernel)⟩
theorem lw_p55 : lw_okq (⟨"SealProbeModel", "takeApart", "(I)V"⟩, 79) := ⟨⟨by decide +kernel, by decide +kernel⟩, List.mem_of_getElem? (i := 1114) (by decide +kernel), List.mem_of_getElem? (i := 1532) (by decide +kernel), List.mem_of_getElem? (i := 1533) (by decide +kernel)⟩
theorem lw_p56 : lw_okq (⟨"SealProbeModel", "canMake", "(I)Z"⟩, 79) := ⟨⟨by decide +kernel, by decide +kernel⟩, List.mem_of_getElem? (i := 1114) (by decide +kernel), List.mem_of_getElem? (i := 1536) (by decide +kernel), List.mem_of_getElem? (i := 1537) (by decide +kernel)⟩
theorem lw_p57 : lw_okq (⟨"SealProbeModel", "isMade", "(I)Z"⟩, 79) := ⟨⟨by decide +kernel, by decide +kernel⟩, List.mem_of_getElem? (i := 1114) (by decide +kernel), List.mem_of_getElem? (i := 1540) (by decide +kernel), List.mem_of_getElem? (i := 1541) (by decide +kernel)⟩
theorem lw_p58 : lw_okq (⟨"SealProbeModel", "hasPrivate", "(I)Z"⟩, 79) := ⟨⟨by decide +kernel, by decide +kernel⟩, List.mem_of_getElem? (i := 1114) (by decide +kernel), List.mem_of_getElem? (i := 1544) (by decide +kernel), List.mem_of_getElem? (i := 1545) (by decide +kernel)⟩
theorem lw_p59 : lw_okq (⟨"SealProbeModel", "bindsTo", "(III)I"⟩, 79) := ⟨⟨by decide +kernel, by decide +kernel⟩, List.mem_of_getElem? (i := 1114) (by decide +kernel), List.mem_of_getElem? (i := 1552) (by decide +kernel), List.mem_of_getElem? (i := 1553) (by decide +kernel)⟩
theorem lw_p60 : lw_okq (⟨"SealProbeModel", "lasting", "(I)I"⟩, 79) := ⟨⟨by decide +kernel, by decide +kernel⟩, List.mem_of_getElem? (i := 1114) (by decide +kernel), List.mem_of_getElem? (i := 1565) (by decide +kernel), List.mem_of_getElem? (i := 1566) (by decide +kernel)⟩
theorem lw_p61 : lw_okq (⟨"SealProbeModel", "findOrder", "(I)V"⟩, 79) := ⟨⟨by decide +kernel, by decide +kernel⟩, List.mem_of_getElem? (i := 1114) (by decide +kernel), List.mem_of_getElem? (i := 1569) (by decide +kernel), List.mem_of_getElem? (i := 1570) (by decide +kernel)⟩
theorem lw_p62 : lw_okq (⟨"SealProbeModel", "isOpen", "(I)Z"⟩, 79) := ⟨⟨by decide +kernel, by decide +kernel⟩, List.mem_of_getElem? (i := 1114) (by decide +kernel), List.mem_of_getElem? (i := 1573) (by decide +kernel), List.mem_of_getElem? (i := 1574) (by decide +kernel)⟩
theorem lw_p63 : lw_okq (⟨"SealProbeModel", "inOrder", "(I)I"⟩, 79) := ⟨⟨by decide +kernel, by decide +kernel⟩, List.mem_of_getElem? (i := 1114) (by decide +kernel), List.mem_of_getElem? (i := 1577) (by decide +kernel), List.mem_of_getElem? (i := 1578) (by decide +kernel)⟩
def lw_privs_4 : List (MethodName × Nat) := [(⟨"SealProbeModel", "runRow", "()V"⟩, 79), (⟨"SealProbeModel", "beginRow", "()V"⟩, 79), (⟨"SealProbeModel", "comes", "(III)V"⟩, 79), (⟨"SealProbeModel", "standsFor", "(II)I"⟩, 79), (⟨"SealProbeModel", "one", "(II)I"⟩, 79), (⟨"SealProbeModel", "made", "(III)I"⟩, 79), (⟨"SealProbeModel", "endRow", "()V"⟩, 79), (⟨"SealProbeModel", "takeApart", "(I)V"⟩, 79), (⟨"SealProbeModel", "canMake", "(I)Z"⟩, 79), (⟨"SealProbeModel", "isMade", "(I)Z"⟩, 79), (⟨"SealProbeModel", "hasPrivate", "(I)Z"⟩, 79), (⟨"SealProbeModel", "bindsTo", "(III)I"⟩, 79), (⟨"SealProbeModel", "lasting", "(I)I"⟩, 79), (⟨"SealProbeModel", "findOrder", "(I)V"⟩, 79), (⟨"SealProbeModel", "isOpen", "(I)Z"⟩, 79), (⟨"SealProbeModel", "inOrder", "(I)I"⟩, 79)]
theorem lw_r4 : ∀ q ∈ lw_privs_4, lw_okq q := List.forall_mem_cons.mpr ⟨lw_p48, List.forall_mem_cons.mpr ⟨lw_p49, List.forall_mem_cons.mpr ⟨lw_p50, List.forall_mem_cons.mpr ⟨lw_p51, List.forall_mem_cons.mpr ⟨lw_p52, List.forall_mem_cons.mpr ⟨lw_p53, List.forall_mem_cons.mpr ⟨lw_p54, List.forall_mem_cons.mpr ⟨lw_p55, List.forall_mem_cons.mpr ⟨lw_p56, List.forall_mem_cons.mpr ⟨lw_p57, List.forall_mem_cons.mpr ⟨lw_p58, List.forall_mem_cons.mpr ⟨lw_p59, List.forall_mem_cons.mpr ⟨lw_p60, List.forall_mem_cons.mpr ⟨lw_p61, List.forall_mem_cons.mpr ⟨lw_p62, List.forall_mem_cons.mpr ⟨lw_p63, fun _ h => absurd h List.not_mem_nil⟩⟩⟩⟩⟩⟩⟩⟩⟩⟩⟩⟩⟩⟩⟩⟩
theorem lw_p64 : lw_okq (⟨"SealProbeModel", "lastOf", "(II)I"⟩, 79) := ⟨⟨by decide +kernel, by decide +kernel⟩, List.mem_of_getElem? (i := 1114) (by decide +kernel), List.mem_of_getElem? (i := 1581) (by decide +kernel), List.mem_of_getElem? (i := 1582) (by decide +kernel)⟩
theorem lw_p65 : lw_okq (⟨"SealProbeModel", "isBroken", "(I)Z"⟩, 79) := ⟨⟨by decide +kernel, by decide +kernel⟩, List.mem_of_getElem? (i := 1114) (by decide +kernel), List.mem_of_getElem? (i := 1597) (by decide +kernel), List.mem_of_getElem? (i := 1598) (by decide +kernel)⟩
theorem lw_p66 : lw_okq (⟨"SealProbeModel", "isLost", "(I)Z"⟩, 79) := ⟨⟨by decide +kernel, by decide +kernel⟩, List.mem_of_getElem? (i := 1114) (by decide +kernel), List.mem_of_getElem? (i := 1601) (by decide +kernel), List.mem_of_getElem? (i := 1602) (by decide +kernel)⟩
theorem lw_p67 : lw_okq (⟨"SealProbeModel", "isHonest", "(I)Z"⟩, 79) := ⟨⟨by decide +kernel, by decide +kernel⟩, List.mem_of_getElem? (i := 1114) (by decide +kernel), List.mem_of_getElem? (i := 1605) (by decide +kernel), List.mem_of_getElem? (i := 1606) (by decide +kernel)⟩
theorem lw_p68 : lw_okq (⟨"SealProbeModel", "isApart", "(I)Z"⟩, 79) := ⟨⟨by decide +kernel, by decide +kernel⟩, List.mem_of_getElem? (i := 1114) (by decide +kernel), List.mem_of_getElem? (i := 1609) (by decide +kernel), List.mem_of_getElem? (i := 1610) (by decide +kernel)⟩
theorem lw_p69 : lw_okq (⟨"SealProbeModel", "fits", "(III)Z"⟩, 79) := ⟨⟨by decide +kernel, by decide +kernel⟩, List.mem_of_getElem? (i := 1114) (by decide +kernel), List.mem_of_getElem? (i := 1613) (by decide +kernel), List.mem_of_getElem? (i := 1614) (by decide +kernel)⟩
theorem lw_p70 : lw_okq (⟨"SealProbeModel", "comesToBe", "(II)I"⟩, 79) := ⟨⟨by decide +kernel, by decide +kernel⟩, List.mem_of_getElem? (i := 1114) (by decide +kernel), List.mem_of_getElem? (i := 1625) (by decide +kernel), List.mem_of_getElem? (i := 1626) (by decide +kernel)⟩
theorem lw_p71 : lw_okq (⟨"SealProbeModel", "isThere", "()Z"⟩, 79) := ⟨⟨by decide +kernel, by decide +kernel⟩, List.mem_of_getElem? (i := 1114) (by decide +kernel), List.mem_of_getElem? (i := 1629) (by decide +kernel), List.mem_of_getElem? (i := 1630) (by decide +kernel)⟩
theorem lw_p72 : lw_okq (⟨"SealProbeModel", "stateRow", "()V"⟩, 79) := ⟨⟨by decide +kernel, by decide +kernel⟩, List.mem_of_getElem? (i := 1114) (by decide +kernel), List.mem_of_getElem? (i := 1633) (by decide +kernel), List.mem_of_getElem? (i := 1634) (by decide +kernel)⟩
theorem lw_p73 : lw_okq (⟨"SealProbeModel", "goesOn", "(I)I"⟩, 79) := ⟨⟨by decide +kernel, by decide +kernel⟩, List.mem_of_getElem? (i := 1114) (by decide +kernel), List.mem_of_getElem? (i := 1637) (by decide +kernel), List.mem_of_getElem? (i := 1638) (by decide +kernel)⟩
theorem lw_p74 : lw_okq (⟨"SealProbeModel", "takeState", "(I)V"⟩, 79) := ⟨⟨by decide +kernel, by decide +kernel⟩, List.mem_of_getElem? (i := 1114) (by decide +kernel), List.mem_of_getElem? (i := 1641) (by decide +kernel), List.mem_of_getElem? (i := 1642) (by decide +kernel)⟩
theorem lw_p75 : lw_okq (⟨"SealProbeModel", "receives", "(III)I"⟩, 79) := ⟨⟨by decide +kernel, by decide +kernel⟩, List.mem_of_getElem? (i := 1114) (by decide +kernel), List.mem_of_getElem? (i := 1645) (by decide +kernel), List.mem_of_getElem? (i := 1646) (by decide +kernel)⟩
theorem lw_p76 : lw_okq (⟨"SealProbeModel", "howMany", "(I)I"⟩, 79) := ⟨⟨by decide +kernel, by decide +kernel⟩, List.mem_of_getElem? (i := 1114) (by decide +kernel), List.mem_of_getElem? (i := 1649) (by decide +kernel), List.mem_of_getElem? (i := 1650) (by decide +kernel)⟩
theorem lw_p77 : lw_okq (⟨"SealProbeModel", "isOfSort", "(II)Z"⟩, 79) := ⟨⟨by decide +kernel, by decide +kernel⟩, List.mem_of_getElem? (i := 1114) (by decide +kernel), List.mem_of_getElem? (i := 1653) (by decide +kernel), List.mem_of_getElem? (i := 1654) (by decide +kernel)⟩
theorem lw_p78 : lw_okq (⟨"SealProbeModel", "nextOf", "(II)I"⟩, 79) := ⟨⟨by decide +kernel, by decide +kernel⟩, List.mem_of_getElem? (i := 1114) (by decide +kernel), List.mem_of_getElem? (i := 1659) (by decide +kernel), List.mem_of_getElem? (i := 1660) (by decide +kernel)⟩
theorem lw_p79 : lw_okq (⟨"SealProbeModel", "noteAttack", "()V"⟩, 79) := ⟨⟨by decide +kernel, by decide +kernel⟩, List.mem_of_getElem? (i := 1114) (by decide +kernel), List.mem_of_getElem? (i := 1663) (by decide +kernel), List.mem_of_getElem? (i := 1664) (by decide +kernel)⟩
def lw_privs_5 : List (MethodName × Nat) := [(⟨"SealProbeModel", "lastOf", "(II)I"⟩, 79), (⟨"SealProbeModel", "isBroken", "(I)Z"⟩, 79), (⟨"SealProbeModel", "isLost", "(I)Z"⟩, 79), (⟨"SealProbeModel", "isHonest", "(I)Z"⟩, 79), (⟨"SealProbeModel", "isApart", "(I)Z"⟩, 79), (⟨"SealProbeModel", "fits", "(III)Z"⟩, 79), (⟨"SealProbeModel", "comesToBe", "(II)I"⟩, 79), (⟨"SealProbeModel", "isThere", "()Z"⟩, 79), (⟨"SealProbeModel", "stateRow", "()V"⟩, 79), (⟨"SealProbeModel", "goesOn", "(I)I"⟩, 79), (⟨"SealProbeModel", "takeState", "(I)V"⟩, 79), (⟨"SealProbeModel", "receives", "(III)I"⟩, 79), (⟨"SealProbeModel", "howMany", "(I)I"⟩, 79), (⟨"SealProbeModel", "isOfSort", "(II)Z"⟩, 79), (⟨"SealProbeModel", "nextOf", "(II)I"⟩, 79), (⟨"SealProbeModel", "noteAttack", "()V"⟩, 79)]
theorem lw_r5 : ∀ q ∈ lw_privs_5, lw_okq q := List.forall_mem_cons.mpr ⟨lw_p64, List.forall_mem_cons.mpr ⟨lw_p65, List.forall_mem_cons.mpr ⟨lw_p66, List.forall_mem_cons.mpr ⟨lw_p67, List.forall_mem_cons.mpr ⟨lw_p68, List.forall_mem_cons.mpr ⟨lw_p69, List.forall_mem_cons.mpr ⟨lw_p70, List.forall_mem_cons.mpr ⟨lw_p71, List.forall_mem_cons.mpr ⟨lw_p72, List.forall_mem_cons.mpr ⟨lw_p73, List.forall_mem_cons.mpr ⟨lw_p74, List.forall_mem_cons.mpr ⟨lw_p75, List.forall_mem_cons.mpr ⟨lw_p76, List.forall_mem_cons.mpr ⟨lw_p77, List.forall_mem_cons.mpr ⟨lw_p78, List.forall_mem_cons.mpr ⟨lw_p79, fun _ h => absurd h List.not_mem_nil⟩⟩⟩⟩⟩⟩⟩⟩⟩⟩⟩⟩⟩⟩⟩⟩
def lw_privs : List (MethodName × Nat) := lw_privs_1 ++ (lw_privs_2 ++ (lw_privs_3 ++ (lw_privs_4 ++ (lw_privs_5))))
def lw_tbl : List Cond := k2_sels lw_privs ++ tables_1
theorem lw_privs_ok : ∀ q ∈ lw_privs, lw_okq q := by
  show ∀ q ∈ lw_privs_1 ++ (lw_privs_2 ++ (lw_privs_3 ++ (lw_privs_4 ++ (lw_privs_5)))), lw_okq q
  exact List.forall_mem_append.mpr ⟨lw_r1, List.forall_mem_append.mpr ⟨lw_r2, List.forall_mem_append.mpr ⟨lw_r3, List.forall_mem_append.mpr ⟨lw_r4, lw_r5⟩⟩⟩⟩
end
section
def RX0 : String := "SealProbe$Bench"
def TX0 : u_T := fun k => match k with
  | 0 => ("SealProbe$Bench", "terms", "LSealProbe$Terms;", true)
  | 1 => ("SealProbe$Bench", "roles", "[LSealProbe$Role;", true)
  | 2 => ("SealProbe$Bench", "roleCount", "I", false)
  | 3 => ("SealProbe$Bench", "sessionRole", "[I", true)
  | 4 => ("SealProbe$Bench", "sessionHonest", "[Z", true)
  | 5 => ("SealProbe$Bench", "opening", "[I", true)
  | 6 => ("SealProbe$Bench", "sessionCount", "I", false)
  | 7 => ("SealProbe$Bench", "claims", "[LSealProbe$Claim;", true)
  | 8 => ("SealProbe$Bench", "claimCount", "I", false)
  | 9 => ("SealProbe$Bench", "known", "[I", true)
  | 10 => ("SealProbe$Bench", "knownCount", "I", false)
  | 11 => ("SealProbe$Bench", "stack", "[I", true)
  | 12 => ("SealProbe$Bench", "variables", "[I", true)
  | _ => ("SealProbe$Bench", "level", "[I", true)
def tyX0 : Nat → FieldType := fun k => match k with
  | 0 => .object "SealProbe$Terms"
  | 1 => .array (.object "SealProbe$Role")
  | 2 => .int
  | 3 => .array .int
  | 4 => .array .boolean
  | 5 => .array .int
  | 6 => .int
  | 7 => .array (.object "SealProbe$Claim")
  | 8 => .int
  | 9 => .array .int
  | 10 => .int
  | 11 => .array .int
  | 12 => .array .int
  | _ => .array .int
abbrev wsX00 : List Cond := u_ws RX0 TX0 14
theorem nmX0 : ∀ a, a < 14 → ∀ b, b < 14 → a ≠ b → (TX0 a).2.1 ≠ (TX0 b).2.1 := by decide +kernel
theorem tyX0_ok : ∀ k, k < 14 → parseFieldDescriptor (TX0 k).2.2.1 = some (tyX0 k) := by decide +kernel
abbrev cX0_init : ByteArray := prog_2_method_1_code
def yX0_init : MethodName := ⟨RX0, "<init>", "(LSealProbe$Terms;)V"⟩
abbrev cX0_empty : ByteArray := prog_2_method_2_code
def yX0_empty : MethodName := ⟨RX0, "empty", "()V"⟩
abbrev cX0_hasRole : ByteArray := prog_2_method_3_code
def yX0_hasRole : MethodName := ⟨RX0, "hasRole", "(I)Z"⟩
abbrev cX0_hasSession : ByteArray := prog_2_method_4_code
def yX0_hasSession : MethodName := ⟨RX0, "hasSession", "(I)Z"⟩
abbrev cX0_hasClaim : ByteArray := prog_2_method_5_code
def yX0_hasClaim : MethodName := ⟨RX0, "hasClaim", "(I)Z"⟩
abbrev cX0_hasVariable : ByteArray := prog_2_method_6_code
def yX0_hasVariable : MethodName := ⟨RX0, "hasVariable", "(II)Z"⟩
abbrev cX0_newRole : ByteArray := prog_2_method_7_code
def yX0_newRole : MethodName := ⟨RX0, "newRole", "()I"⟩
abbrev cX0_mayBeEvent : ByteArray := prog_2_method_8_code
def yX0_mayBeEvent : MethodName := ⟨RX0, "mayBeEvent", "(IZI)Z"⟩
abbrev cX0_newEvent : ByteArray := prog_2_method_9_code
def yX0_newEvent : MethodName := ⟨RX0, "newEvent", "(LSealProbe$Role;ZI)I"⟩
abbrev cX0_bindIn : ByteArray := prog_2_method_10_code
def yX0_bindIn : MethodName := ⟨RX0, "bindIn", "(LSealProbe$Role;LSealProbe$Event;)V"⟩
abbrev cX0_listVariables : ByteArray := prog_2_method_11_code
def yX0_listVariables : MethodName := ⟨RX0, "listVariables", "(I)I"⟩
abbrev cX0_isKnown : ByteArray := prog_2_method_12_code
def yX0_isKnown : MethodName := ⟨RX0, "isKnown", "(I)Z"⟩
abbrev cX0_learn : ByteArray := prog_2_method_13_code
def yX0_learn : MethodName := ⟨RX0, "learn", "(I)I"⟩
abbrev cX0_newSession : ByteArray := prog_2_method_14_code
def yX0_newSession : MethodName := ⟨RX0, "newSession", "(IIII)I"⟩
abbrev cX0_newClaim : ByteArray := prog_2_method_15_code
def yX0_newClaim : MethodName := ⟨RX0, "newClaim", "(ZIII)I"⟩
abbrev cX0_doneBy : ByteArray := prog_2_method_16_code
def yX0_doneBy : MethodName := ⟨RX0, "doneBy", "([III)I"⟩
abbrev cX0_valueOf : ByteArray := prog_2_method_17_code
def yX0_valueOf : MethodName := ⟨RX0, "valueOf", "([IIII)I"⟩
abbrev cX0_due : ByteArray := prog_2_method_18_code
def yX0_due : MethodName := ⟨RX0, "due", "([III)LSealProbe$Event;"⟩
abbrev cX0_hasDoneAll : ByteArray := prog_2_method_19_code
def yX0_hasDoneAll : MethodName := ⟨RX0, "hasDoneAll", "([III)Z"⟩
abbrev cX0_allHaveDoneAll : ByteArray := prog_2_method_20_code
def yX0_allHaveDoneAll : MethodName := ⟨RX0, "allHaveDoneAll", "([II)Z"⟩
abbrev cX0_beginKnowledge : ByteArray := prog_2_method_21_code
def yX0_beginKnowledge : MethodName := ⟨RX0, "beginKnowledge", "(LSealProbe$Knowledge;)V"⟩
abbrev cX0_fillKnowledge : ByteArray := prog_2_method_22_code
def yX0_fillKnowledge : MethodName := ⟨RX0, "fillKnowledge", "(LSealProbe$Knowledge;[II)V"⟩
abbrev cX0_hasSecrets : ByteArray := prog_2_method_23_code
def yX0_hasSecrets : MethodName := ⟨RX0, "hasSecrets", "()Z"⟩
abbrev cX0_breaks : ByteArray := prog_2_method_24_code
def yX0_breaks : MethodName := ⟨RX0, "breaks", "(I[IILSealProbe$Knowledge;)Z"⟩
abbrev cX0_leaks : ByteArray := prog_2_method_25_code
def yX0_leaks : MethodName := ⟨RX0, "leaks", "(LSealProbe$Claim;[IILSealProbe$Knowledge;)Z"⟩
abbrev cX0_canPartner : ByteArray := prog_2_method_26_code
def yX0_canPartner : MethodName := ⟨RX0, "canPartner", "(LSealProbe$Claim;[IIII)Z"⟩
abbrev cX0_isPartner : ByteArray := prog_2_method_27_code
def yX0_isPartner : MethodName := ⟨RX0, "isPartner", "(LSealProbe$Claim;[IIII)Z"⟩
def RX1 : String := "SealProbe$Chooser"
def TX1 : u_T := fun k => match k with
  | 0 => ("SealProbe$Chooser", "terms", "LSealProbe$Terms;", true)
  | 1 => ("SealProbe$Chooser", "intruder", "LSealProbe$Knowledge;", true)
  | 2 => ("SealProbe$Chooser", "draft", "[I", true)
  | 3 => ("SealProbe$Chooser", "values", "I", false)
  | 4 => ("SealProbe$Chooser", "options", "[[I", true)
  | 5 => ("SealProbe$Chooser", "optionCount", "[I", true)
  | 6 => ("SealProbe$Chooser", "choice", "[I", true)
  | 7 => ("SealProbe$Chooser", "is", "[I", true)
  | _ => ("SealProbe$Chooser", "can", "[Z", true)
def tyX1 : Nat → FieldType := fun k => match k with
  | 0 => .object "SealProbe$Terms"
  | 1 => .object "SealProbe$Knowledge"
  | 2 => .array .int
  | 3 => .int
  | 4 => .array (.array .int)
  | 5 => .array .int
  | 6 => .array .int
  | 7 => .array .int
  | _ => .array .boolean
abbrev wsX10 : List Cond := u_ws RX1 TX1 9
theorem nmX1 : ∀ a, a < 9 → ∀ b, b < 9 → a ≠ b → (TX1 a).2.1 ≠ (TX1 b).2.1 := by decide +kernel
theorem tyX1_ok : ∀ k, k < 9 → parseFieldDescriptor (TX1 k).2.2.1 = some (tyX1 k) := by decide +kernel
abbrev cX1_init : ByteArray := prog_3_method_1_code
def yX1_init : MethodName := ⟨RX1, "<init>", "(LSealProbe$Knowledge;[I)V"⟩
abbrev cX1_listOptions : ByteArray := prog_3_method_2_code
def yX1_listOptions : MethodName := ⟨RX1, "listOptions", "()V"⟩
abbrev cX1_addOption : ByteArray := prog_3_method_3_code
def yX1_addOption : MethodName := ⟨RX1, "addOption", "(II)V"⟩
abbrev cX1_waysOf : ByteArray := prog_3_method_4_code
def yX1_waysOf : MethodName := ⟨RX1, "waysOf", "(LSealProbe$Event;)J"⟩
abbrev cX1_first : ByteArray := prog_3_method_5_code
def yX1_first : MethodName := ⟨RX1, "first", "(LSealProbe$Event;I)I"⟩
abbrev cX1_next : ByteArray := prog_3_method_6_code
def yX1_next : MethodName := ⟨RX1, "next", "(LSealProbe$Event;)I"⟩
abbrev cX1_choose : ByteArray := prog_3_method_7_code
def yX1_choose : MethodName := ⟨RX1, "choose", "(LSealProbe$Event;II)V"⟩
abbrev cX1_weigh : ByteArray := prog_3_method_8_code
def yX1_weigh : MethodName := ⟨RX1, "weigh", "(LSealProbe$Event;I)Z"⟩
abbrev cX1_valueOf : ByteArray := prog_3_method_9_code
def yX1_valueOf : MethodName := ⟨RX1, "valueOf", "(I)I"⟩
abbrev cX1_canCompose : ByteArray := prog_3_method_10_code
def yX1_canCompose : MethodName := ⟨RX1, "canCompose", "(I)Z"⟩
def RX2 : String := "SealProbe$Claim"
def TX2 : u_T := fun k => match k with
  | 0 => ("SealProbe$Claim", "secret", "Z", false)
  | 1 => ("SealProbe$Claim", "roleB", "I", false)
  | 2 => ("SealProbe$Claim", "roleA", "I", false)
  | 3 => ("SealProbe$Claim", "number", "I", false)
  | 4 => ("SealProbe$Claim", "ofB", "[I", true)
  | 5 => ("SealProbe$Claim", "ofA", "[I", true)
  | _ => ("SealProbe$Claim", "joined", "I", false)
def tyX2 : Nat → FieldType := fun k => match k with
  | 0 => .boolean
  | 1 => .int
  | 2 => .int
  | 3 => .int
  | 4 => .array .int
  | 5 => .array .int
  | _ => .int
abbrev wsX20 : List Cond := u_ws RX2 TX2 7
theorem nmX2 : ∀ a, a < 7 → ∀ b, b < 7 → a ≠ b → (TX2 a).2.1 ≠ (TX2 b).2.1 := by decide +kernel
theorem tyX2_ok : ∀ k, k < 7 → parseFieldDescriptor (TX2 k).2.2.1 = some (tyX2 k) := by decide +kernel
abbrev cX2_init : ByteArray := prog_4_method_1_code
def yX2_init : MethodName := ⟨RX2, "<init>", "()V"⟩
abbrev cX2_tie : ByteArray := prog_4_method_2_code
def yX2_tie : MethodName := ⟨RX2, "tie", "(II)I"⟩
def RX3 : String := "SealProbe$Event"
def TX3 : u_T := fun k => match k with
  | 0 => ("SealProbe$Event", "sends", "Z", false)
  | 1 => ("SealProbe$Event", "term", "I", false)
  | 2 => ("SealProbe$Event", "binds", "[I", true)
  | 3 => ("SealProbe$Event", "bindSort", "[I", true)
  | 4 => ("SealProbe$Event", "bindCount", "I", false)
  | 5 => ("SealProbe$Event", "parts", "[I", true)
  | 6 => ("SealProbe$Event", "partsFrom", "[I", true)
  | _ => ("SealProbe$Event", "partCount", "I", false)
def tyX3 : Nat → FieldType := fun k => match k with
  | 0 => .boolean
  | 1 => .int
  | 2 => .array .int
  | 3 => .array .int
  | 4 => .int
  | 5 => .array .int
  | 6 => .array .int
  | _ => .int
abbrev wsX30 : List Cond := u_ws RX3 TX3 8
theorem nmX3 : ∀ a, a < 8 → ∀ b, b < 8 → a ≠ b → (TX3 a).2.1 ≠ (TX3 b).2.1 := by decide +kernel
theorem tyX3_ok : ∀ k, k < 8 → parseFieldDescriptor (TX3 k).2.2.1 = some (tyX3 k) := by decide +kernel
abbrev cX3_init : ByteArray := prog_5_method_1_code
def yX3_init : MethodName := ⟨RX3, "<init>", "()V"⟩
abbrev cX3_plan : ByteArray := prog_5_method_2_code
def yX3_plan : MethodName := ⟨RX3, "plan", "(LSealProbe$Terms;[I)V"⟩
abbrev cX3_markParts : ByteArray := prog_5_method_3_code
def yX3_markParts : MethodName := ⟨RX3, "markParts", "(LSealProbe$Terms;[I)V"⟩
abbrev cX3_levelOf : ByteArray := prog_5_method_4_code
def yX3_levelOf : MethodName := ⟨RX3, "levelOf", "(LSealProbe$Terms;[II)I"⟩
def RX4 : String := "SealProbe$Knowledge"
def TX4 : u_T := fun k => match k with
  | 0 => ("SealProbe$Knowledge", "terms", "LSealProbe$Terms;", true)
  | 1 => ("SealProbe$Knowledge", "stretch", "I", true)
  | 2 => ("SealProbe$Knowledge", "head", "[I", true)
  | 3 => ("SealProbe$Knowledge", "unnumbered", "I", false)
  | 4 => ("SealProbe$Knowledge", "row", "[I", true)
  | 5 => ("SealProbe$Knowledge", "how", "[I", true)
  | 6 => ("SealProbe$Knowledge", "from", "[I", true)
  | 7 => ("SealProbe$Knowledge", "length", "I", false)
  | 8 => ("SealProbe$Knowledge", "inRow", "[I", true)
  | 9 => ("SealProbe$Knowledge", "makeable", "[I", true)
  | 10 => ("SealProbe$Knowledge", "privateOf", "[I", true)
  | 11 => ("SealProbe$Knowledge", "wanted", "[I", true)
  | 12 => ("SealProbe$Knowledge", "starts", "I", false)
  | _ => ("SealProbe$Knowledge", "whole", "Z", false)
def tyX4 : Nat → FieldType := fun k => match k with
  | 0 => .object "SealProbe$Terms"
  | 1 => .int
  | 2 => .array .int
  | 3 => .int
  | 4 => .array .int
  | 5 => .array .int
  | 6 => .array .int
  | 7 => .int
  | 8 => .array .int
  | 9 => .array .int
  | 10 => .array .int
  | 11 => .array .int
  | 12 => .int
  | _ => .boolean
abbrev wsX40 : List Cond := u_ws RX4 TX4 14
theorem nmX4 : ∀ a, a < 14 → ∀ b, b < 14 → a ≠ b → (TX4 a).2.1 ≠ (TX4 b).2.1 := by decide +kernel
theorem tyX4_ok : ∀ k, k < 14 → parseFieldDescriptor (TX4 k).2.2.1 = some (tyX4 k) := by decide +kernel
abbrev cX4_init : ByteArray := prog_6_method_1_code
def yX4_init : MethodName := ⟨RX4, "<init>", "(LSealProbe$Terms;I)V"⟩
abbrev cX4_start : ByteArray := prog_6_method_2_code
def yX4_start : MethodName := ⟨RX4, "start", "()V"⟩
abbrev cX4_isUnnumbered : ByteArray := prog_6_method_3_code
def yX4_isUnnumbered : MethodName := ⟨RX4, "isUnnumbered", "(I)Z"⟩
abbrev cX4_has : ByteArray := prog_6_method_4_code
def yX4_has : MethodName := ⟨RX4, "has", "(I)Z"⟩
abbrev cX4_find : ByteArray := prog_6_method_5_code
def yX4_find : MethodName := ⟨RX4, "find", "(III)I"⟩
abbrev cX4_findOrPut : ByteArray := prog_6_method_6_code
def yX4_findOrPut : MethodName := ⟨RX4, "findOrPut", "(III)I"⟩
abbrev cX4_groundOf : ByteArray := prog_6_method_7_code
def yX4_groundOf : MethodName := ⟨RX4, "groundOf", "(I[III)I"⟩
abbrev cX4_add : ByteArray := prog_6_method_8_code
def yX4_add : MethodName := ⟨RX4, "add", "(III)Z"⟩
abbrev cX4_takeApart : ByteArray := prog_6_method_9_code
def yX4_takeApart : MethodName := ⟨RX4, "takeApart", "()V"⟩
abbrev cX4_takeApartAt : ByteArray := prog_6_method_10_code
def yX4_takeApartAt : MethodName := ⟨RX4, "takeApartAt", "(I)Z"⟩
abbrev cX4_hasPrivateOf : ByteArray := prog_6_method_11_code
def yX4_hasPrivateOf : MethodName := ⟨RX4, "hasPrivateOf", "(I)Z"⟩
abbrev cX4_canMake : ByteArray := prog_6_method_12_code
def yX4_canMake : MethodName := ⟨RX4, "canMake", "(II)Z"⟩
abbrev cX4_missingFor : ByteArray := prog_6_method_13_code
def yX4_missingFor : MethodName := ⟨RX4, "missingFor", "(I)I"⟩
abbrev cX4_want : ByteArray := prog_6_method_14_code
def yX4_want : MethodName := ⟨RX4, "want", "(I)V"⟩
abbrev cX4_giveNumber : ByteArray := prog_6_method_15_code
def yX4_giveNumber : MethodName := ⟨RX4, "giveNumber", "(II)I"⟩
def RX5 : String := "SealProbe$Role"
def TX5 : u_T := fun k => match k with
  | 0 => ("SealProbe$Role", "as", "[I", true)
  | 1 => ("SealProbe$Role", "sort", "[I", true)
  | 2 => ("SealProbe$Role", "received", "[Z", true)
  | 3 => ("SealProbe$Role", "variableCount", "I", false)
  | 4 => ("SealProbe$Role", "events", "[LSealProbe$Event;", true)
  | 5 => ("SealProbe$Role", "eventCount", "I", false)
  | _ => ("SealProbe$Role", "closed", "Z", false)
def tyX5 : Nat → FieldType := fun k => match k with
  | 0 => .array .int
  | 1 => .array .int
  | 2 => .array .boolean
  | 3 => .int
  | 4 => .array (.object "SealProbe$Event")
  | 5 => .int
  | _ => .boolean
abbrev wsX50 : List Cond := u_ws RX5 TX5 7
theorem nmX5 : ∀ a, a < 7 → ∀ b, b < 7 → a ≠ b → (TX5 a).2.1 ≠ (TX5 b).2.1 := by decide +kernel
theorem tyX5_ok : ∀ k, k < 7 → parseFieldDescriptor (TX5 k).2.2.1 = some (tyX5 k) := by decide +kernel
abbrev cX5_init : ByteArray := prog_7_method_1_code
def yX5_init : MethodName := ⟨RX5, "<init>", "()V"⟩
abbrev cX5_empty : ByteArray := prog_7_method_2_code
def yX5_empty : MethodName := ⟨RX5, "empty", "()V"⟩
abbrev cX5_tell : ByteArray := prog_7_method_3_code
def yX5_tell : MethodName := ⟨RX5, "tell", "(II)V"⟩
abbrev cX5_has : ByteArray := prog_7_method_4_code
def yX5_has : MethodName := ⟨RX5, "has", "(I)Z"⟩
abbrev cX5_waitsFor : ByteArray := prog_7_method_5_code
def yX5_waitsFor : MethodName := ⟨RX5, "waitsFor", "(I)Z"⟩
abbrev cX5_countOf : ByteArray := prog_7_method_6_code
def yX5_countOf : MethodName := ⟨RX5, "countOf", "(I)I"⟩
def RX6 : String := "SealProbe$Run"
def TX6 : u_T := fun k => match k with
  | 0 => ("SealProbe$Run", "bench", "LSealProbe$Bench;", true)
  | 1 => ("SealProbe$Run", "terms", "LSealProbe$Terms;", true)
  | 2 => ("SealProbe$Run", "knowledge", "LSealProbe$Knowledge;", true)
  | 3 => ("SealProbe$Run", "at", "[I", true)
  | 4 => ("SealProbe$Run", "movers", "[I", true)
  | 5 => ("SealProbe$Run", "turns", "[I", true)
  | 6 => ("SealProbe$Run", "trial", "[I", true)
  | 7 => ("SealProbe$Run", "count", "I", false)
  | 8 => ("SealProbe$Run", "on", "Z", false)
  | _ => ("SealProbe$Run", "gatheredFor", "I", false)
def tyX6 : Nat → FieldType := fun k => match k with
  | 0 => .object "SealProbe$Bench"
  | 1 => .object "SealProbe$Terms"
  | 2 => .object "SealProbe$Knowledge"
  | 3 => .array .int
  | 4 => .array .int
  | 5 => .array .int
  | 6 => .array .int
  | 7 => .int
  | 8 => .boolean
  | _ => .int
abbrev wsX60 : List Cond := u_ws RX6 TX6 10
theorem nmX6 : ∀ a, a < 10 → ∀ b, b < 10 → a ≠ b → (TX6 a).2.1 ≠ (TX6 b).2.1 := by decide +kernel
theorem tyX6_ok : ∀ k, k < 10 → parseFieldDescriptor (TX6 k).2.2.1 = some (tyX6 k) := by decide +kernel
abbrev cX6_init : ByteArray := prog_8_method_1_code
def yX6_init : MethodName := ⟨RX6, "<init>", "(LSealProbe$Bench;)V"⟩
abbrev cX6_start : ByteArray := prog_8_method_2_code
def yX6_start : MethodName := ⟨RX6, "start", "()V"⟩
abbrev cX6_intruder : ByteArray := prog_8_method_3_code
def yX6_intruder : MethodName := ⟨RX6, "intruder", "()LSealProbe$Knowledge;"⟩
abbrev cX6_gather : ByteArray := prog_8_method_4_code
def yX6_gather : MethodName := ⟨RX6, "gather", "()V"⟩
abbrev cX6_eventOf : ByteArray := prog_8_method_5_code
def yX6_eventOf : MethodName := ⟨RX6, "eventOf", "(II)LSealProbe$Event;"⟩
abbrev cX6_step : ByteArray := prog_8_method_6_code
def yX6_step : MethodName := ⟨RX6, "step", "(I)V"⟩
abbrev cX6_takeBack : ByteArray := prog_8_method_7_code
def yX6_takeBack : MethodName := ⟨RX6, "takeBack", "()I"⟩
abbrev cX6_follow : ByteArray := prog_8_method_8_code
def yX6_follow : MethodName := ⟨RX6, "follow", "(I[II)V"⟩
abbrev cX6_accepts : ByteArray := prog_8_method_9_code
def yX6_accepts : MethodName := ⟨RX6, "accepts", "(ILSealProbe$Event;I)Z"⟩
abbrev cX6_matches : ByteArray := prog_8_method_10_code
def yX6_matches : MethodName := ⟨RX6, "matches", "(III)Z"⟩
abbrev cX6_mayStand : ByteArray := prog_8_method_11_code
def yX6_mayStand : MethodName := ⟨RX6, "mayStand", "(II)Z"⟩
def RX7 : String := "SealProbe$Search"
def TX7 : u_T := fun k => match k with
  | 0 => ("SealProbe$Search", "bench", "LSealProbe$Bench;", true)
  | 1 => ("SealProbe$Search", "states", "LSealProbe$States;", true)
  | 2 => ("SealProbe$Search", "here", "LSealProbe$Knowledge;", true)
  | 3 => ("SealProbe$Search", "there", "LSealProbe$Knowledge;", true)
  | 4 => ("SealProbe$Search", "draft", "[I", true)
  | 5 => ("SealProbe$Search", "chooser", "LSealProbe$Chooser;", true)
  | 6 => ("SealProbe$Search", "width", "I", false)
  | 7 => ("SealProbe$Search", "secrets", "Z", false)
  | 8 => ("SealProbe$Search", "path", "[I", true)
  | 9 => ("SealProbe$Search", "length", "I", false)
  | 10 => ("SealProbe$Search", "ways", "I", false)
  | 11 => ("SealProbe$Search", "finished", "I", false)
  | _ => ("SealProbe$Search", "answer", "I", false)
def tyX7 : Nat → FieldType := fun k => match k with
  | 0 => .object "SealProbe$Bench"
  | 1 => .object "SealProbe$States"
  | 2 => .object "SealProbe$Knowledge"
  | 3 => .object "SealProbe$Knowledge"
  | 4 => .array .int
  | 5 => .object "SealProbe$Chooser"
  | 6 => .int
  | 7 => .boolean
  | 8 => .array .int
  | 9 => .int
  | 10 => .int
  | 11 => .int
  | _ => .int
abbrev wsX70 : List Cond := u_ws RX7 TX7 13
theorem nmX7 : ∀ a, a < 13 → ∀ b, b < 13 → a ≠ b → (TX7 a).2.1 ≠ (TX7 b).2.1 := by decide +kernel
theorem tyX7_ok : ∀ k, k < 13 → parseFieldDescriptor (TX7 k).2.2.1 = some (tyX7 k) := by decide +kernel
abbrev cX7_init : ByteArray := prog_9_method_1_code
def yX7_init : MethodName := ⟨RX7, "<init>", "(LSealProbe$Bench;)V"⟩
abbrev cX7_hasAttack : ByteArray := prog_9_method_2_code
def yX7_hasAttack : MethodName := ⟨RX7, "hasAttack", "()Z"⟩
abbrev cX7_attackBase : ByteArray := prog_9_method_3_code
def yX7_attackBase : MethodName := ⟨RX7, "attackBase", "()I"⟩
abbrev cX7_forget : ByteArray := prog_9_method_4_code
def yX7_forget : MethodName := ⟨RX7, "forget", "()V"⟩
abbrev cX7_start : ByteArray := prog_9_method_5_code
def yX7_start : MethodName := ⟨RX7, "start", "()V"⟩
abbrev cX7_goesOn : ByteArray := prog_9_method_6_code
def yX7_goesOn : MethodName := ⟨RX7, "goesOn", "(I)Z"⟩
abbrev cX7_goThrough : ByteArray := prog_9_method_7_code
def yX7_goThrough : MethodName := ⟨RX7, "goThrough", "(I)V"⟩
abbrev cX7_tryWays : ByteArray := prog_9_method_8_code
def yX7_tryWays : MethodName := ⟨RX7, "tryWays", "(IILSealProbe$Event;)V"⟩
abbrev cX7_reach : ByteArray := prog_9_method_9_code
def yX7_reach : MethodName := ⟨RX7, "reach", "(IILSealProbe$Knowledge;)V"⟩
abbrev cX7_tracePath : ByteArray := prog_9_method_10_code
def yX7_tracePath : MethodName := ⟨RX7, "tracePath", "(I)V"⟩
def RX8 : String := "SealProbe$States"
def TX8 : u_T := fun k => match k with
  | 0 => ("SealProbe$States", "at", "[I", true)
  | 1 => ("SealProbe$States", "parent", "[I", true)
  | 2 => ("SealProbe$States", "mover", "[I", true)
  | 3 => ("SealProbe$States", "next", "[I", true)
  | 4 => ("SealProbe$States", "head", "[I", true)
  | _ => ("SealProbe$States", "count", "I", false)
def tyX8 : Nat → FieldType := fun k => match k with
  | 0 => .array .int
  | 1 => .array .int
  | 2 => .array .int
  | 3 => .array .int
  | 4 => .array .int
  | _ => .int
abbrev wsX80 : List Cond := u_ws RX8 TX8 6
theorem nmX8 : ∀ a, a < 6 → ∀ b, b < 6 → a ≠ b → (TX8 a).2.1 ≠ (TX8 b).2.1 := by decide +kernel
theorem tyX8_ok : ∀ k, k < 6 → parseFieldDescriptor (TX8 k).2.2.1 = some (tyX8 k) := by decide +kernel
abbrev cX8_init : ByteArray := prog_10_method_1_code
def yX8_init : MethodName := ⟨RX8, "<init>", "()V"⟩
abbrev cX8_empty : ByteArray := prog_10_method_2_code
def yX8_empty : MethodName := ⟨RX8, "empty", "()V"⟩
abbrev cX8_slotOf : ByteArray := prog_10_method_3_code
def yX8_slotOf : MethodName := ⟨RX8, "slotOf", "([II)I"⟩
abbrev cX8_has : ByteArray := prog_10_method_4_code
def yX8_has : MethodName := ⟨RX8, "has", "([II)Z"⟩
abbrev cX8_isSame : ByteArray := prog_10_method_5_code
def yX8_isSame : MethodName := ⟨RX8, "isSame", "([III)Z"⟩
abbrev cX8_add : ByteArray := prog_10_method_6_code
def yX8_add : MethodName := ⟨RX8, "add", "([IIII)V"⟩
def RX9 : String := "SealProbe$Terms"
def TX9 : u_T := fun k => match k with
  | 0 => ("SealProbe$Terms", "kind", "[I", true)
  | 1 => ("SealProbe$Terms", "first", "[I", true)
  | 2 => ("SealProbe$Terms", "second", "[I", true)
  | 3 => ("SealProbe$Terms", "size", "[I", true)
  | 4 => ("SealProbe$Terms", "next", "[I", true)
  | 5 => ("SealProbe$Terms", "head", "[I", true)
  | 6 => ("SealProbe$Terms", "ground", "[Z", true)
  | 7 => ("SealProbe$Terms", "honest", "[Z", true)
  | 8 => ("SealProbe$Terms", "role", "[I", true)
  | 9 => ("SealProbe$Terms", "sort", "[I", true)
  | 10 => ("SealProbe$Terms", "place", "[I", true)
  | _ => ("SealProbe$Terms", "count", "I", false)
def tyX9 : Nat → FieldType := fun k => match k with
  | 0 => .array .int
  | 1 => .array .int
  | 2 => .array .int
  | 3 => .array .int
  | 4 => .array .int
  | 5 => .array .int
  | 6 => .array .boolean
  | 7 => .array .boolean
  | 8 => .array .int
  | 9 => .array .int
  | 10 => .array .int
  | _ => .int
abbrev wsX90 : List Cond := u_ws RX9 TX9 12
theorem nmX9 : ∀ a, a < 12 → ∀ b, b < 12 → a ≠ b → (TX9 a).2.1 ≠ (TX9 b).2.1 := by decide +kernel
theorem tyX9_ok : ∀ k, k < 12 → parseFieldDescriptor (TX9 k).2.2.1 = some (tyX9 k) := by decide +kernel
abbrev cX9_init : ByteArray := prog_11_method_1_code
def yX9_init : MethodName := ⟨RX9, "<init>", "()V"⟩
abbrev cX9_empty : ByteArray := prog_11_method_2_code
def yX9_empty : MethodName := ⟨RX9, "empty", "()V"⟩
abbrev cX9_slotOf : ByteArray := prog_11_method_3_code
def yX9_slotOf : MethodName := ⟨RX9, "slotOf", "(III)I"⟩
abbrev cX9_has : ByteArray := prog_11_method_4_code
def yX9_has : MethodName := ⟨RX9, "has", "(I)Z"⟩
abbrev cX9_isFull : ByteArray := prog_11_method_5_code
def yX9_isFull : MethodName := ⟨RX9, "isFull", "()Z"⟩
abbrev cX9_isAgent : ByteArray := prog_11_method_6_code
def yX9_isAgent : MethodName := ⟨RX9, "isAgent", "(I)Z"⟩
abbrev cX9_isHonest : ByteArray := prog_11_method_7_code
def yX9_isHonest : MethodName := ⟨RX9, "isHonest", "(I)Z"⟩
abbrev cX9_mayBeAgent : ByteArray := prog_11_method_8_code
def yX9_mayBeAgent : MethodName := ⟨RX9, "mayBeAgent", "(I)Z"⟩
abbrev cX9_isOpen : ByteArray := prog_11_method_9_code
def yX9_isOpen : MethodName := ⟨RX9, "isOpen", "(I)Z"⟩
abbrev cX9_sizeOf : ByteArray := prog_11_method_10_code
def yX9_sizeOf : MethodName := ⟨RX9, "sizeOf", "(I)I"⟩
abbrev cX9_find : ByteArray := prog_11_method_11_code
def yX9_find : MethodName := ⟨RX9, "find", "(III)I"⟩
abbrev cX9_findFrom : ByteArray := prog_11_method_12_code
def yX9_findFrom : MethodName := ⟨RX9, "findFrom", "(IIII)I"⟩
abbrev cX9_newAtom : ByteArray := prog_11_method_13_code
def yX9_newAtom : MethodName := ⟨RX9, "newAtom", "(IZ)I"⟩
abbrev cX9_newVariable : ByteArray := prog_11_method_14_code
def yX9_newVariable : MethodName := ⟨RX9, "newVariable", "(III)I"⟩
abbrev cX9_newCompound : ByteArray := prog_11_method_15_code
def yX9_newCompound : MethodName := ⟨RX9, "newCompound", "(III)I"⟩
abbrev cX9_put : ByteArray := prog_11_method_16_code
def yX9_put : MethodName := ⟨RX9, "put", "(III)I"⟩
def RX10 : String := "SealProbe"
def TX10 : u_T := fun k => match k with
  | 0 => ("SealProbe", "bench", "LSealProbe$Bench;", true)
  | 1 => ("SealProbe", "terms", "LSealProbe$Terms;", true)
  | 2 => ("SealProbe", "run", "LSealProbe$Run;", true)
  | _ => ("SealProbe", "search", "LSealProbe$Search;", true)
def tyX10 : Nat → FieldType := fun k => match k with
  | 0 => .object "SealProbe$Bench"
  | 1 => .object "SealProbe$Terms"
  | 2 => .object "SealProbe$Run"
  | _ => .object "SealProbe$Search"
abbrev wsX100 : List Cond := u_ws RX10 TX10 4
theorem nmX10 : ∀ a, a < 4 → ∀ b, b < 4 → a ≠ b → (TX10 a).2.1 ≠ (TX10 b).2.1 := by decide +kernel
theorem tyX10_ok : ∀ k, k < 4 → parseFieldDescriptor (TX10 k).2.2.1 = some (tyX10 k) := by decide +kernel
abbrev cX10_init : ByteArray := prog_1_method_1_code
def yX10_init : MethodName := ⟨RX10, "<init>", "()V"⟩
abbrev cX10_agent : ByteArray := prog_1_method_2_code
def yX10_agent : MethodName := ⟨RX10, "agent", "(Z)I"⟩
abbrev cX10_atom : ByteArray := prog_1_method_3_code
def yX10_atom : MethodName := ⟨RX10, "atom", "(I)I"⟩
abbrev cX10_term : ByteArray := prog_1_method_4_code
def yX10_term : MethodName := ⟨RX10, "term", "(III)I"⟩
abbrev cX10_of : ByteArray := prog_1_method_5_code
def yX10_of : MethodName := ⟨RX10, "of", "(III)I"⟩
abbrev cX10_about : ByteArray := prog_1_method_6_code
def yX10_about : MethodName := ⟨RX10, "about", "(II)I"⟩
abbrev cX10_role : ByteArray := prog_1_method_7_code
def yX10_role : MethodName := ⟨RX10, "role", "()I"⟩
abbrev cX10_variable : ByteArray := prog_1_method_8_code
def yX10_variable : MethodName := ⟨RX10, "variable", "(III)I"⟩
abbrev cX10_event : ByteArray := prog_1_method_9_code
def yX10_event : MethodName := ⟨RX10, "event", "(IZI)I"⟩
abbrev cX10_know : ByteArray := prog_1_method_10_code
def yX10_know : MethodName := ⟨RX10, "know", "(I)I"⟩
abbrev cX10_session : ByteArray := prog_1_method_11_code
def yX10_session : MethodName := ⟨RX10, "session", "(IIII)I"⟩
abbrev cX10_secret : ByteArray := prog_1_method_12_code
def yX10_secret : MethodName := ⟨RX10, "secret", "(II)I"⟩
abbrev cX10_agree : ByteArray := prog_1_method_13_code
def yX10_agree : MethodName := ⟨RX10, "agree", "(III)I"⟩
abbrev cX10_join : ByteArray := prog_1_method_14_code
def yX10_join : MethodName := ⟨RX10, "join", "(III)I"⟩
abbrev cX10_begin : ByteArray := prog_1_method_15_code
def yX10_begin : MethodName := ⟨RX10, "begin", "()I"⟩
abbrev cX10_end : ByteArray := prog_1_method_16_code
def yX10_end : MethodName := ⟨RX10, "end", "()I"⟩
abbrev cX10_send : ByteArray := prog_1_method_17_code
def yX10_send : MethodName := ⟨RX10, "send", "(I)I"⟩
abbrev cX10_receive : ByteArray := prog_1_method_18_code
def yX10_receive : MethodName := ⟨RX10, "receive", "(II)I"⟩
abbrev cX10_makes : ByteArray := prog_1_method_19_code
def yX10_makes : MethodName := ⟨RX10, "makes", "(I)I"⟩
abbrev cX10_row : ByteArray := prog_1_method_20_code
def yX10_row : MethodName := ⟨RX10, "row", "(II)I"⟩
abbrev cX10_stands : ByteArray := prog_1_method_21_code
def yX10_stands : MethodName := ⟨RX10, "stands", "(II)I"⟩
abbrev cX10_done : ByteArray := prog_1_method_22_code
def yX10_done : MethodName := ⟨RX10, "done", "(I)I"⟩
abbrev cX10_broken : ByteArray := prog_1_method_23_code
def yX10_broken : MethodName := ⟨RX10, "broken", "(I)I"⟩
abbrev cX10_undo : ByteArray := prog_1_method_24_code
def yX10_undo : MethodName := ⟨RX10, "undo", "()I"⟩
abbrev cX10_search : ByteArray := prog_1_method_25_code
def yX10_search : MethodName := ⟨RX10, "search", "()I"⟩
abbrev cX10_found : ByteArray := prog_1_method_26_code
def yX10_found : MethodName := ⟨RX10, "found", "(I)I"⟩
abbrev cX10_attack : ByteArray := prog_1_method_27_code
def yX10_attack : MethodName := ⟨RX10, "attack", "(I)I"⟩
abbrev cX10_play : ByteArray := prog_1_method_28_code
def yX10_play : MethodName := ⟨RX10, "play", "(I)I"⟩
abbrev cX10_told : ByteArray := prog_1_method_29_code
def yX10_told : MethodName := ⟨RX10, "told", "(I)I"⟩
abbrev cX10_ofRole : ByteArray := prog_1_method_30_code
def yX10_ofRole : MethodName := ⟨RX10, "ofRole", "(II)I"⟩
abbrev cX10_clear : ByteArray := prog_1_method_31_code
def yX10_clear : MethodName := ⟨RX10, "clear", "()I"⟩
abbrev cX10_asNumber : ByteArray := prog_1_method_32_code
def yX10_asNumber : MethodName := ⟨RX10, "asNumber", "(Z)I"⟩
abbrev cX10_orNone : ByteArray := prog_1_method_33_code
def yX10_orNone : MethodName := ⟨RX10, "orNone", "(I)I"⟩
abbrev cX10_maySort : ByteArray := prog_1_method_34_code
def yX10_maySort : MethodName := ⟨RX10, "maySort", "(II)Z"⟩
abbrev cX10_compound : ByteArray := prog_1_method_35_code
def yX10_compound : MethodName := ⟨RX10, "compound", "(III)I"⟩
abbrev cX10_numbered : ByteArray := prog_1_method_36_code
def yX10_numbered : MethodName := ⟨RX10, "numbered", "(LSealProbe$Knowledge;I)I"⟩
def RX11 : String := "SealProbeModel"
def TX11 : u_T := fun k => match k with
  | 0 => ("SealProbeModel", "kind", "[I", true)
  | 1 => ("SealProbeModel", "first", "[I", true)
  | 2 => ("SealProbeModel", "second", "[I", true)
  | 3 => ("SealProbeModel", "size", "[I", true)
  | 4 => ("SealProbeModel", "ground", "[Z", true)
  | 5 => ("SealProbeModel", "honest", "[Z", true)
  | 6 => ("SealProbeModel", "ofRole", "[I", true)
  | 7 => ("SealProbeModel", "sort", "[I", true)
  | 8 => ("SealProbeModel", "ofNumber", "[I", true)
  | 9 => ("SealProbeModel", "terms", "I", false)
  | 10 => ("SealProbeModel", "behind", "I", false)
  | 11 => ("SealProbeModel", "head", "[I", true)
  | 12 => ("SealProbeModel", "next", "[I", true)
  | 13 => ("SealProbeModel", "roles", "I", false)
  | 14 => ("SealProbeModel", "variables", "[I", true)
  | 15 => ("SealProbeModel", "variable", "[I", true)
  | 16 => ("SealProbeModel", "toldAs", "[I", true)
  | 17 => ("SealProbeModel", "events", "[I", true)
  | 18 => ("SealProbeModel", "eventTerm", "[I", true)
  | 19 => ("SealProbeModel", "sending", "[Z", true)
  | 20 => ("SealProbeModel", "closed", "[Z", true)
  | 21 => ("SealProbeModel", "standing", "[I", true)
  | 22 => ("SealProbeModel", "stand", "I", false)
  | 23 => ("SealProbeModel", "waits", "[I", true)
  | 24 => ("SealProbeModel", "asked", "[I", true)
  | 25 => ("SealProbeModel", "known", "[I", true)
  | 26 => ("SealProbeModel", "knows", "I", false)
  | 27 => ("SealProbeModel", "sessions", "I", false)
  | 28 => ("SealProbeModel", "sessionRole", "[I", true)
  | 29 => ("SealProbeModel", "atFirst", "[I", true)
  | 30 => ("SealProbeModel", "claims", "I", false)
  | 31 => ("SealProbeModel", "isSecret", "[Z", true)
  | 32 => ("SealProbeModel", "claimB", "[I", true)
  | 33 => ("SealProbeModel", "claimA", "[I", true)
  | 34 => ("SealProbeModel", "claimN", "[I", true)
  | 35 => ("SealProbeModel", "joins", "[I", true)
  | 36 => ("SealProbeModel", "joinB", "[I", true)
  | 37 => ("SealProbeModel", "joinA", "[I", true)
  | 38 => ("SealProbeModel", "doing", "[I", true)
  | 39 => ("SealProbeModel", "value", "[I", true)
  | 40 => ("SealProbeModel", "needed", "[Z", true)
  | 41 => ("SealProbeModel", "instead", "[I", true)
  | 42 => ("SealProbeModel", "row", "[I", true)
  | 43 => ("SealProbeModel", "how", "[I", true)
  | 44 => ("SealProbeModel", "from", "[I", true)
  | 45 => ("SealProbeModel", "inRow", "[Z", true)
  | 46 => ("SealProbeModel", "rows", "I", false)
  | 47 => ("SealProbeModel", "rowIsThere", "Z", false)
  | 48 => ("SealProbeModel", "makes", "[Z", true)
  | 49 => ("SealProbeModel", "judged", "I", false)
  | 50 => ("SealProbeModel", "judgedRows", "I", false)
  | 51 => ("SealProbeModel", "want", "[I", true)
  | 52 => ("SealProbeModel", "runs", "Z", false)
  | 53 => ("SealProbeModel", "didSession", "[I", true)
  | 54 => ("SealProbeModel", "didBind", "[I", true)
  | 55 => ("SealProbeModel", "did", "I", false)
  | 56 => ("SealProbeModel", "sent", "[I", true)
  | 57 => ("SealProbeModel", "waitsFor", "[I", true)
  | 58 => ("SealProbeModel", "stood", "[I", true)
  | 59 => ("SealProbeModel", "order", "[I", true)
  | 60 => ("SealProbeModel", "isOrdered", "[Z", true)
  | 61 => ("SealProbeModel", "ordered", "I", false)
  | 62 => ("SealProbeModel", "newKind", "[I", true)
  | 63 => ("SealProbeModel", "newFirst", "[I", true)
  | 64 => ("SealProbeModel", "newSecond", "[I", true)
  | 65 => ("SealProbeModel", "stateDone", "[I", true)
  | 66 => ("SealProbeModel", "stateValue", "[I", true)
  | 67 => ("SealProbeModel", "parent", "[I", true)
  | 68 => ("SealProbeModel", "mover", "[I", true)
  | 69 => ("SealProbeModel", "states", "I", false)
  | 70 => ("SealProbeModel", "ways", "I", false)
  | 71 => ("SealProbeModel", "ended", "I", false)
  | 72 => ("SealProbeModel", "attackEvents", "I", false)
  | 73 => ("SealProbeModel", "attackSession", "[I", true)
  | 74 => ("SealProbeModel", "attackState", "[I", true)
  | 75 => ("SealProbeModel", "keptDone", "[I", true)
  | 76 => ("SealProbeModel", "keptValue", "[I", true)
  | 77 => ("SealProbeModel", "open", "[I", true)
  | _ => ("SealProbeModel", "chosen", "[I", true)
def tyX11 : Nat → FieldType := fun k => match k with
  | 0 => .array .int
  | 1 => .array .int
  | 2 => .array .int
  | 3 => .array .int
  | 4 => .array .boolean
  | 5 => .array .boolean
  | 6 => .array .int
  | 7 => .array .int
  | 8 => .array .int
  | 9 => .int
  | 10 => .int
  | 11 => .array .int
  | 12 => .array .int
  | 13 => .int
  | 14 => .array .int
  | 15 => .array .int
  | 16 => .array .int
  | 17 => .array .int
  | 18 => .array .int
  | 19 => .array .boolean
  | 20 => .array .boolean
  | 21 => .array .int
  | 22 => .int
  | 23 => .array .int
  | 24 => .array .int
  | 25 => .array .int
  | 26 => .int
  | 27 => .int
  | 28 => .array .int
  | 29 => .array .int
  | 30 => .int
  | 31 => .array .boolean
  | 32 => .array .int
  | 33 => .array .int
  | 34 => .array .int
  | 35 => .array .int
  | 36 => .array .int
  | 37 => .array .int
  | 38 => .array .int
  | 39 => .array .int
  | 40 => .array .boolean
  | 41 => .array .int
  | 42 => .array .int
  | 43 => .array .int
  | 44 => .array .int
  | 45 => .array .boolean
  | 46 => .int
  | 47 => .boolean
  | 48 => .array .boolean
  | 49 => .int
  | 50 => .int
  | 51 => .array .int
  | 52 => .boolean
  | 53 => .array .int
  | 54 => .array .int
  | 55 => .int
  | 56 => .array .int
  | 57 => .array .int
  | 58 => .array .int
  | 59 => .array .int
  | 60 => .array .boolean
  | 61 => .int
  | 62 => .array .int
  | 63 => .array .int
  | 64 => .array .int
  | 65 => .array .int
  | 66 => .array .int
  | 67 => .array .int
  | 68 => .array .int
  | 69 => .int
  | 70 => .int
  | 71 => .int
  | 72 => .int
  | 73 => .array .int
  | 74 => .array .int
  | 75 => .array .int
  | 76 => .array .int
  | 77 => .array .int
  | _ => .array .int
abbrev wsX110 : List Cond := u_ws RX11 TX11 79
theorem nmX11 : ∀ a, a < 79 → ∀ b, b < 79 → a ≠ b → (TX11 a).2.1 ≠ (TX11 b).2.1 := by decide +kernel
theorem tyX11_ok : ∀ k, k < 79 → parseFieldDescriptor (TX11 k).2.2.1 = some (tyX11 k) := by decide +kernel
abbrev cX11_init : ByteArray := prog_13_method_1_code
def yX11_init : MethodName := ⟨RX11, "<init>", "()V"⟩
abbrev cX11_in : ByteArray := prog_13_method_3_code
def yX11_in : MethodName := ⟨RX11, "in", "(JJJ)Z"⟩
abbrev cX11_emptyTable : ByteArray := prog_13_method_4_code
def yX11_emptyTable : MethodName := ⟨RX11, "emptyTable", "()V"⟩
abbrev cX11_placeOf : ByteArray := prog_13_method_5_code
def yX11_placeOf : MethodName := ⟨RX11, "placeOf", "(III)I"⟩
abbrev cX11_find : ByteArray := prog_13_method_6_code
def yX11_find : MethodName := ⟨RX11, "find", "(III)I"⟩
abbrev cX11_lay : ByteArray := prog_13_method_7_code
def yX11_lay : MethodName := ⟨RX11, "lay", "(IIII)V"⟩
abbrev cX11_sizeOf : ByteArray := prog_13_method_8_code
def yX11_sizeOf : MethodName := ⟨RX11, "sizeOf", "(III)I"⟩
abbrev cX11_release : ByteArray := prog_13_method_9_code
def yX11_release : MethodName := ⟨RX11, "release", "(I)V"⟩
abbrev cX11_last : ByteArray := prog_13_method_10_code
def yX11_last : MethodName := ⟨RX11, "last", "(III)I"⟩
abbrev cX11_made : ByteArray := prog_13_method_11_code
def yX11_made : MethodName := ⟨RX11, "made", "(III)I"⟩
abbrev cX11_isTerm : ByteArray := prog_13_method_12_code
def yX11_isTerm : MethodName := ⟨RX11, "isTerm", "(I)Z"⟩
abbrev cX11_agent : ByteArray := prog_13_method_13_code
def yX11_agent : MethodName := ⟨RX11, "agent", "(Z)I"⟩
abbrev cX11_atom : ByteArray := prog_13_method_14_code
def yX11_atom : MethodName := ⟨RX11, "atom", "(I)I"⟩
abbrev cX11_oldOrNew : ByteArray := prog_13_method_15_code
def yX11_oldOrNew : MethodName := ⟨RX11, "oldOrNew", "(III)I"⟩
abbrev cX11_term : ByteArray := prog_13_method_16_code
def yX11_term : MethodName := ⟨RX11, "term", "(III)I"⟩
abbrev cX11_of : ByteArray := prog_13_method_17_code
def yX11_of : MethodName := ⟨RX11, "of", "(III)I"⟩
abbrev cX11_about : ByteArray := prog_13_method_18_code
def yX11_about : MethodName := ⟨RX11, "about", "(II)I"⟩
abbrev cX11_isRole : ByteArray := prog_13_method_19_code
def yX11_isRole : MethodName := ⟨RX11, "isRole", "(I)Z"⟩
abbrev cX11_role : ByteArray := prog_13_method_20_code
def yX11_role : MethodName := ⟨RX11, "role", "()I"⟩
abbrev cX11_variable : ByteArray := prog_13_method_21_code
def yX11_variable : MethodName := ⟨RX11, "variable", "(III)I"⟩
abbrev cX11_findVariables : ByteArray := prog_13_method_22_code
def yX11_findVariables : MethodName := ⟨RX11, "findVariables", "(I)V"⟩
abbrev cX11_isReceived : ByteArray := prog_13_method_23_code
def yX11_isReceived : MethodName := ⟨RX11, "isReceived", "(II)Z"⟩
abbrev cX11_event : ByteArray := prog_13_method_24_code
def yX11_event : MethodName := ⟨RX11, "event", "(IZI)I"⟩
abbrev cX11_know : ByteArray := prog_13_method_25_code
def yX11_know : MethodName := ⟨RX11, "know", "(I)I"⟩
abbrev cX11_isSession : ByteArray := prog_13_method_26_code
def yX11_isSession : MethodName := ⟨RX11, "isSession", "(I)Z"⟩
abbrev cX11_howManyAs : ByteArray := prog_13_method_27_code
def yX11_howManyAs : MethodName := ⟨RX11, "howManyAs", "(II)I"⟩
abbrev cX11_session : ByteArray := prog_13_method_28_code
def yX11_session : MethodName := ⟨RX11, "session", "(IIII)I"⟩
abbrev cX11_claim : ByteArray := prog_13_method_29_code
def yX11_claim : MethodName := ⟨RX11, "claim", "(ZIII)I"⟩
abbrev cX11_secret : ByteArray := prog_13_method_30_code
def yX11_secret : MethodName := ⟨RX11, "secret", "(II)I"⟩
abbrev cX11_agree : ByteArray := prog_13_method_31_code
def yX11_agree : MethodName := ⟨RX11, "agree", "(III)I"⟩
abbrev cX11_join : ByteArray := prog_13_method_32_code
def yX11_join : MethodName := ⟨RX11, "join", "(III)I"⟩
abbrev cX11_begins : ByteArray := prog_13_method_33_code
def yX11_begins : MethodName := ⟨RX11, "begins", "()V"⟩
abbrev cX11_standsFor : ByteArray := prog_13_method_34_code
def yX11_standsFor : MethodName := ⟨RX11, "standsFor", "(II)I"⟩
abbrev cX11_one : ByteArray := prog_13_method_35_code
def yX11_one : MethodName := ⟨RX11, "one", "(II)I"⟩
abbrev cX11_comes : ByteArray := prog_13_method_36_code
def yX11_comes : MethodName := ⟨RX11, "comes", "(III)V"⟩
abbrev cX11_beginRow : ByteArray := prog_13_method_37_code
def yX11_beginRow : MethodName := ⟨RX11, "beginRow", "()V"⟩
abbrev cX11_hasPrivate : ByteArray := prog_13_method_38_code
def yX11_hasPrivate : MethodName := ⟨RX11, "hasPrivate", "(I)Z"⟩
abbrev cX11_isMade : ByteArray := prog_13_method_39_code
def yX11_isMade : MethodName := ⟨RX11, "isMade", "(I)Z"⟩
abbrev cX11_canMake : ByteArray := prog_13_method_40_code
def yX11_canMake : MethodName := ⟨RX11, "canMake", "(I)Z"⟩
abbrev cX11_endRow : ByteArray := prog_13_method_41_code
def yX11_endRow : MethodName := ⟨RX11, "endRow", "()V"⟩
abbrev cX11_takeApart : ByteArray := prog_13_method_42_code
def yX11_takeApart : MethodName := ⟨RX11, "takeApart", "(I)V"⟩
abbrev cX11_isHonest : ByteArray := prog_13_method_43_code
def yX11_isHonest : MethodName := ⟨RX11, "isHonest", "(I)Z"⟩
abbrev cX11_isLost : ByteArray := prog_13_method_44_code
def yX11_isLost : MethodName := ⟨RX11, "isLost", "(I)Z"⟩
abbrev cX11_fits : ByteArray := prog_13_method_45_code
def yX11_fits : MethodName := ⟨RX11, "fits", "(III)Z"⟩
abbrev cX11_isApart : ByteArray := prog_13_method_46_code
def yX11_isApart : MethodName := ⟨RX11, "isApart", "(I)Z"⟩
abbrev cX11_isBroken : ByteArray := prog_13_method_47_code
def yX11_isBroken : MethodName := ⟨RX11, "isBroken", "(I)Z"⟩
abbrev cX11_runRow : ByteArray := prog_13_method_48_code
def yX11_runRow : MethodName := ⟨RX11, "runRow", "()V"⟩
abbrev cX11_begin : ByteArray := prog_13_method_49_code
def yX11_begin : MethodName := ⟨RX11, "begin", "()I"⟩
abbrev cX11_end : ByteArray := prog_13_method_50_code
def yX11_end : MethodName := ⟨RX11, "end", "()I"⟩
abbrev cX11_nextEvent : ByteArray := prog_13_method_51_code
def yX11_nextEvent : MethodName := ⟨RX11, "nextEvent", "(I)I"⟩
abbrev cX11_does : ByteArray := prog_13_method_52_code
def yX11_does : MethodName := ⟨RX11, "does", "(II)V"⟩
abbrev cX11_send : ByteArray := prog_13_method_53_code
def yX11_send : MethodName := ⟨RX11, "send", "(I)I"⟩
abbrev cX11_bindsTo : ByteArray := prog_13_method_54_code
def yX11_bindsTo : MethodName := ⟨RX11, "bindsTo", "(III)I"⟩
abbrev cX11_receive : ByteArray := prog_13_method_55_code
def yX11_receive : MethodName := ⟨RX11, "receive", "(II)I"⟩
abbrev cX11_makes : ByteArray := prog_13_method_56_code
def yX11_makes : MethodName := ⟨RX11, "makes", "(I)I"⟩
abbrev cX11_findOrder : ByteArray := prog_13_method_57_code
def yX11_findOrder : MethodName := ⟨RX11, "findOrder", "(I)V"⟩
abbrev cX11_isOpen : ByteArray := prog_13_method_58_code
def yX11_isOpen : MethodName := ⟨RX11, "isOpen", "(I)Z"⟩
abbrev cX11_inOrder : ByteArray := prog_13_method_59_code
def yX11_inOrder : MethodName := ⟨RX11, "inOrder", "(I)I"⟩
abbrev cX11_lastOf : ByteArray := prog_13_method_60_code
def yX11_lastOf : MethodName := ⟨RX11, "lastOf", "(II)I"⟩
abbrev cX11_lasting : ByteArray := prog_13_method_61_code
def yX11_lasting : MethodName := ⟨RX11, "lasting", "(I)I"⟩
abbrev cX11_row : ByteArray := prog_13_method_62_code
def yX11_row : MethodName := ⟨RX11, "row", "(II)I"⟩
abbrev cX11_stands : ByteArray := prog_13_method_63_code
def yX11_stands : MethodName := ⟨RX11, "stands", "(II)I"⟩
abbrev cX11_done : ByteArray := prog_13_method_64_code
def yX11_done : MethodName := ⟨RX11, "done", "(I)I"⟩
abbrev cX11_broken : ByteArray := prog_13_method_65_code
def yX11_broken : MethodName := ⟨RX11, "broken", "(I)I"⟩
abbrev cX11_undo : ByteArray := prog_13_method_66_code
def yX11_undo : MethodName := ⟨RX11, "undo", "()I"⟩
abbrev cX11_forget : ByteArray := prog_13_method_67_code
def yX11_forget : MethodName := ⟨RX11, "forget", "()V"⟩
abbrev cX11_takeState : ByteArray := prog_13_method_68_code
def yX11_takeState : MethodName := ⟨RX11, "takeState", "(I)V"⟩
abbrev cX11_stateRow : ByteArray := prog_13_method_69_code
def yX11_stateRow : MethodName := ⟨RX11, "stateRow", "()V"⟩
abbrev cX11_isThere : ByteArray := prog_13_method_70_code
def yX11_isThere : MethodName := ⟨RX11, "isThere", "()Z"⟩
abbrev cX11_comesToBe : ByteArray := prog_13_method_71_code
def yX11_comesToBe : MethodName := ⟨RX11, "comesToBe", "(II)I"⟩
abbrev cX11_isOfSort : ByteArray := prog_13_method_72_code
def yX11_isOfSort : MethodName := ⟨RX11, "isOfSort", "(II)Z"⟩
abbrev cX11_nextOf : ByteArray := prog_13_method_73_code
def yX11_nextOf : MethodName := ⟨RX11, "nextOf", "(II)I"⟩
abbrev cX11_howMany : ByteArray := prog_13_method_74_code
def yX11_howMany : MethodName := ⟨RX11, "howMany", "(I)I"⟩
abbrev cX11_receives : ByteArray := prog_13_method_75_code
def yX11_receives : MethodName := ⟨RX11, "receives", "(III)I"⟩
abbrev cX11_goesOn : ByteArray := prog_13_method_76_code
def yX11_goesOn : MethodName := ⟨RX11, "goesOn", "(I)I"⟩
abbrev cX11_noteAttack : ByteArray := prog_13_method_77_code
def yX11_noteAttack : MethodName := ⟨RX11, "noteAttack", "()V"⟩
abbrev cX11_search : ByteArray := prog_13_method_78_code
def yX11_search : MethodName := ⟨RX11, "search", "()I"⟩
abbrev cX11_found : ByteArray := prog_13_method_79_code
def yX11_found : MethodName := ⟨RX11, "found", "(I)I"⟩
abbrev cX11_attack : ByteArray := prog_13_method_80_code
def yX11_attack : MethodName := ⟨RX11, "attack", "(I)I"⟩
abbrev cX11_play : ByteArray := prog_13_method_81_code
def yX11_play : MethodName := ⟨RX11, "play", "(I)I"⟩
abbrev cX11_told : ByteArray := prog_13_method_82_code
def yX11_told : MethodName := ⟨RX11, "told", "(I)I"⟩
abbrev cX11_ofRole : ByteArray := prog_13_method_83_code
def yX11_ofRole : MethodName := ⟨RX11, "ofRole", "(II)I"⟩
abbrev cX11_clear : ByteArray := prog_13_method_84_code
def yX11_clear : MethodName := ⟨RX11, "clear", "()I"⟩
def RJ9 : String := "java/lang/Math"
abbrev cJ9_floorMod_7cf53 : ByteArray := prog_14_method_50_code
def yJ9_floorMod_7cf53 : MethodName := ⟨RJ9, "floorMod", "(II)I"⟩
abbrev cJ9_max_7cf53 : ByteArray := prog_14_method_65_code
def yJ9_max_7cf53 : MethodName := ⟨RJ9, "max", "(II)I"⟩
abbrev cJ9_min_7cf53 : ByteArray := prog_14_method_69_code
def yJ9_min_7cf53 : MethodName := ⟨RJ9, "min", "(II)I"⟩
def RJ10 : String := "java/lang/System"
def RJ7 : String := "java/util/Arrays"
abbrev cJ7_fill_53178 : ByteArray := prog_16_method_103_code
def yJ7_fill_53178 : MethodName := ⟨RJ7, "fill", "([II)V"⟩
def RL : String := "SealProbeLaw"
abbrev cL_law : ByteArray := code
def yL_law : MethodName := ⟨RL, "law", "([I)Z"⟩
abbrev vwCl : List vw_C := [(RX0, TX0, 14), (RX1, TX1, 9), (RX2, TX2, 7), (RX3, TX3, 8), (RX4, TX4, 14), (RX5, TX5, 7), (RX6, TX6, 10), (RX7, TX7, 13), (RX8, TX8, 6), (RX9, TX9, 12), (RX10, TX10, 4), (RX11, TX11, 79)]
end
section
/-! the tables of the interpreter, printed by program (wip/gen_tables.py) -/
abbrev jmE : Type := MethodName × ByteArray × Nat × Option FieldType × Nat × Bool × List (Nat × Instr × Nat)
set_option maxRecDepth 100000 in
def jt_0_0 : List (Nat × Instr × Nat) := [(0, .new 7, 3), (3, .dup, 1), (4, .invokespecial 9, 3), (7, .astore_n 1, 1), (8, .new 10, 3), (11, .dup, 1), (12, .invokespecial 12, 3), (15, .astore_n 2, 1), (16, .iconst 0, 1), (17, .istore_n 3, 1), (18, .iload_n 3, 1), (19, .aload_n 0, 1), (20, .arraylength, 1), (21, .iconst 5, 1), (22, .isub, 1), (23, .if_icmp .gt 1023, 3), (26, .aload_n 0, 1), (27, .iload_n 3, 1), (28, .iaload, 1), (29, .bipush 31, 2), (31, .iand, 1), (32, .tableswitch 1008 0 29 #[136, 175, 198, 241, 284, 317, 330, 373, 432, 455, 508, 541, 584, 627, 640, 653, 676, 709, 732, 765, 798, 821, 844, 857, 870, 893, 916, 939, 962, 995], 136), (168, .aload_n 1, 1), (169, .aload_n 0, 1), (170, .iload_n 3, 1), (171, .iconst 1, 1), (172, .iadd, 1), (173, .iaload, 1), (174, .ifCond .eq 7, 3), (177, .iconst 1, 1), (178, .goto 4, 3), (181, .iconst 0, 1), (182, .invokevirtual 13, 3), (185, .pop, 1), (186, .aload_n 2, 1), (187, .aload_n 0, 1), (188, .iload_n 3, 1), (189, .iconst 1, 1), (190, .iadd, 1), (191, .iaload, 1)]
def jt_0_1 : List (Nat × Instr × Nat) := [(192, .ifCond .eq 7, 3), (195, .iconst 1, 1), (196, .goto 4, 3), (199, .iconst 0, 1), (200, .invokevirtual 17, 3), (203, .pop, 1), (204, .goto 836, 3), (207, .aload_n 1, 1), (208, .aload_n 0, 1), (209, .iload_n 3, 1), (210, .iconst 1, 1), (211, .iadd, 1), (212, .iaload, 1), (213, .invokevirtual 18, 3), (216, .pop, 1), (217, .aload_n 2, 1), (218, .aload_n 0, 1), (219, .iload_n 3, 1), (220, .iconst 1, 1), (221, .iadd, 1), (222, .iaload, 1), (223, .invokevirtual 22, 3), (226, .pop, 1), (227, .goto 813, 3), (230, .aload_n 1, 1), (231, .aload_n 0, 1), (232, .iload_n 3, 1), (233, .iconst 1, 1), (234, .iadd, 1), (235, .iaload, 1), (236, .aload_n 0, 1), (237, .iload_n 3, 1), (238, .iconst 2, 1), (239, .iadd, 1), (240, .iaload, 1), (241, .aload_n 0, 1), (242, .iload_n 3, 1), (243, .iconst 3, 1), (244, .iadd, 1), (245, .iaload, 1)]
def jt_0_2 : List (Nat × Instr × Nat) := [(246, .invokevirtual 23, 3), (249, .pop, 1), (250, .aload_n 2, 1), (251, .aload_n 0, 1), (252, .iload_n 3, 1), (253, .iconst 1, 1), (254, .iadd, 1), (255, .iaload, 1), (256, .aload_n 0, 1), (257, .iload_n 3, 1), (258, .iconst 2, 1), (259, .iadd, 1), (260, .iaload, 1), (261, .aload_n 0, 1), (262, .iload_n 3, 1), (263, .iconst 3, 1), (264, .iadd, 1), (265, .iaload, 1), (266, .invokevirtual 27, 3), (269, .pop, 1), (270, .goto 770, 3), (273, .aload_n 1, 1), (274, .aload_n 0, 1), (275, .iload_n 3, 1), (276, .iconst 1, 1), (277, .iadd, 1), (278, .iaload, 1), (279, .aload_n 0, 1), (280, .iload_n 3, 1), (281, .iconst 2, 1), (282, .iadd, 1), (283, .iaload, 1), (284, .aload_n 0, 1), (285, .iload_n 3, 1), (286, .iconst 3, 1), (287, .iadd, 1), (288, .iaload, 1), (289, .invokevirtual 28, 3), (292, .pop, 1), (293, .aload_n 2, 1)]
def jt_0_3 : List (Nat × Instr × Nat) := [(294, .aload_n 0, 1), (295, .iload_n 3, 1), (296, .iconst 1, 1), (297, .iadd, 1), (298, .iaload, 1), (299, .aload_n 0, 1), (300, .iload_n 3, 1), (301, .iconst 2, 1), (302, .iadd, 1), (303, .iaload, 1), (304, .aload_n 0, 1), (305, .iload_n 3, 1), (306, .iconst 3, 1), (307, .iadd, 1), (308, .iaload, 1), (309, .invokevirtual 31, 3), (312, .pop, 1), (313, .goto 727, 3), (316, .aload_n 1, 1), (317, .aload_n 0, 1), (318, .iload_n 3, 1), (319, .iconst 1, 1), (320, .iadd, 1), (321, .iaload, 1), (322, .aload_n 0, 1), (323, .iload_n 3, 1), (324, .iconst 2, 1), (325, .iadd, 1), (326, .iaload, 1), (327, .invokevirtual 32, 3), (330, .pop, 1), (331, .aload_n 2, 1), (332, .aload_n 0, 1), (333, .iload_n 3, 1), (334, .iconst 1, 1), (335, .iadd, 1), (336, .iaload, 1), (337, .aload_n 0, 1), (338, .iload_n 3, 1), (339, .iconst 2, 1)]
def jt_0_4 : List (Nat × Instr × Nat) := [(340, .iadd, 1), (341, .iaload, 1), (342, .invokevirtual 36, 3), (345, .pop, 1), (346, .goto 694, 3), (349, .aload_n 1, 1), (350, .invokevirtual 37, 3), (353, .aload_n 2, 1), (354, .invokevirtual 41, 3), (357, .if_icmp .eq 683, 3), (360, .iconst 0, 1), (361, .ireturn, 1), (362, .aload_n 1, 1), (363, .aload_n 0, 1), (364, .iload_n 3, 1), (365, .iconst 1, 1), (366, .iadd, 1), (367, .iaload, 1), (368, .aload_n 0, 1), (369, .iload_n 3, 1), (370, .iconst 2, 1), (371, .iadd, 1), (372, .iaload, 1), (373, .aload_n 0, 1), (374, .iload_n 3, 1), (375, .iconst 3, 1), (376, .iadd, 1), (377, .iaload, 1), (378, .invokevirtual 42, 3), (381, .pop, 1), (382, .aload_n 2, 1), (383, .aload_n 0, 1), (384, .iload_n 3, 1), (385, .iconst 1, 1), (386, .iadd, 1), (387, .iaload, 1), (388, .aload_n 0, 1), (389, .iload_n 3, 1), (390, .iconst 2, 1), (391, .iadd, 1)]
def jt_0_5 : List (Nat × Instr × Nat) := [(392, .iaload, 1), (393, .aload_n 0, 1), (394, .iload_n 3, 1), (395, .iconst 3, 1), (396, .iadd, 1), (397, .iaload, 1), (398, .invokevirtual 45, 3), (401, .pop, 1), (402, .goto 638, 3), (405, .aload_n 1, 1), (406, .aload_n 0, 1), (407, .iload_n 3, 1), (408, .iconst 1, 1), (409, .iadd, 1), (410, .iaload, 1), (411, .aload_n 0, 1), (412, .iload_n 3, 1), (413, .iconst 2, 1), (414, .iadd, 1), (415, .iaload, 1), (416, .ifCond .eq 7, 3), (419, .iconst 1, 1), (420, .goto 4, 3), (423, .iconst 0, 1), (424, .aload_n 0, 1), (425, .iload_n 3, 1), (426, .iconst 3, 1), (427, .iadd, 1), (428, .iaload, 1), (429, .invokevirtual 46, 3), (432, .pop, 1), (433, .aload_n 2, 1), (434, .aload_n 0, 1), (435, .iload_n 3, 1), (436, .iconst 1, 1), (437, .iadd, 1), (438, .iaload, 1), (439, .aload_n 0, 1), (440, .iload_n 3, 1), (441, .iconst 2, 1)]
def jt_0_6 : List (Nat × Instr × Nat) := [(442, .iadd, 1), (443, .iaload, 1), (444, .ifCond .eq 7, 3), (447, .iconst 1, 1), (448, .goto 4, 3), (451, .iconst 0, 1), (452, .aload_n 0, 1), (453, .iload_n 3, 1), (454, .iconst 3, 1), (455, .iadd, 1), (456, .iaload, 1), (457, .invokevirtual 50, 3), (460, .pop, 1), (461, .goto 579, 3), (464, .aload_n 1, 1), (465, .aload_n 0, 1), (466, .iload_n 3, 1), (467, .iconst 1, 1), (468, .iadd, 1), (469, .iaload, 1), (470, .invokevirtual 51, 3), (473, .pop, 1), (474, .aload_n 2, 1), (475, .aload_n 0, 1), (476, .iload_n 3, 1), (477, .iconst 1, 1), (478, .iadd, 1), (479, .iaload, 1), (480, .invokevirtual 54, 3), (483, .pop, 1), (484, .goto 556, 3), (487, .aload_n 1, 1), (488, .aload_n 0, 1), (489, .iload_n 3, 1), (490, .iconst 1, 1), (491, .iadd, 1), (492, .iaload, 1), (493, .aload_n 0, 1), (494, .iload_n 3, 1), (495, .iconst 2, 1)]
def jt_0_7 : List (Nat × Instr × Nat) := [(496, .iadd, 1), (497, .iaload, 1), (498, .aload_n 0, 1), (499, .iload_n 3, 1), (500, .iconst 3, 1), (501, .iadd, 1), (502, .iaload, 1), (503, .aload_n 0, 1), (504, .iload_n 3, 1), (505, .iconst 4, 1), (506, .iadd, 1), (507, .iaload, 1), (508, .invokevirtual 55, 3), (511, .pop, 1), (512, .aload_n 2, 1), (513, .aload_n 0, 1), (514, .iload_n 3, 1), (515, .iconst 1, 1), (516, .iadd, 1), (517, .iaload, 1), (518, .aload_n 0, 1), (519, .iload_n 3, 1), (520, .iconst 2, 1), (521, .iadd, 1), (522, .iaload, 1), (523, .aload_n 0, 1), (524, .iload_n 3, 1), (525, .iconst 3, 1), (526, .iadd, 1), (527, .iaload, 1), (528, .aload_n 0, 1), (529, .iload_n 3, 1), (530, .iconst 4, 1), (531, .iadd, 1), (532, .iaload, 1), (533, .invokevirtual 59, 3), (536, .pop, 1), (537, .goto 503, 3), (540, .aload_n 1, 1), (541, .aload_n 0, 1)]
def jt_0_8 : List (Nat × Instr × Nat) := [(542, .iload_n 3, 1), (543, .iconst 1, 1), (544, .iadd, 1), (545, .iaload, 1), (546, .aload_n 0, 1), (547, .iload_n 3, 1), (548, .iconst 2, 1), (549, .iadd, 1), (550, .iaload, 1), (551, .invokevirtual 60, 3), (554, .pop, 1), (555, .aload_n 2, 1), (556, .aload_n 0, 1), (557, .iload_n 3, 1), (558, .iconst 1, 1), (559, .iadd, 1), (560, .iaload, 1), (561, .aload_n 0, 1), (562, .iload_n 3, 1), (563, .iconst 2, 1), (564, .iadd, 1), (565, .iaload, 1), (566, .invokevirtual 63, 3), (569, .pop, 1), (570, .goto 470, 3), (573, .aload_n 1, 1), (574, .aload_n 0, 1), (575, .iload_n 3, 1), (576, .iconst 1, 1), (577, .iadd, 1), (578, .iaload, 1), (579, .aload_n 0, 1), (580, .iload_n 3, 1), (581, .iconst 2, 1), (582, .iadd, 1), (583, .iaload, 1), (584, .aload_n 0, 1), (585, .iload_n 3, 1), (586, .iconst 3, 1), (587, .iadd, 1)]
def jt_0_9 : List (Nat × Instr × Nat) := [(588, .iaload, 1), (589, .invokevirtual 64, 3), (592, .pop, 1), (593, .aload_n 2, 1), (594, .aload_n 0, 1), (595, .iload_n 3, 1), (596, .iconst 1, 1), (597, .iadd, 1), (598, .iaload, 1), (599, .aload_n 0, 1), (600, .iload_n 3, 1), (601, .iconst 2, 1), (602, .iadd, 1), (603, .iaload, 1), (604, .aload_n 0, 1), (605, .iload_n 3, 1), (606, .iconst 3, 1), (607, .iadd, 1), (608, .iaload, 1), (609, .invokevirtual 67, 3), (612, .pop, 1), (613, .goto 427, 3), (616, .aload_n 1, 1), (617, .aload_n 0, 1), (618, .iload_n 3, 1), (619, .iconst 1, 1), (620, .iadd, 1), (621, .iaload, 1), (622, .aload_n 0, 1), (623, .iload_n 3, 1), (624, .iconst 2, 1), (625, .iadd, 1), (626, .iaload, 1), (627, .aload_n 0, 1), (628, .iload_n 3, 1), (629, .iconst 3, 1), (630, .iadd, 1), (631, .iaload, 1), (632, .invokevirtual 68, 3), (635, .pop, 1)]
def jt_0_10 : List (Nat × Instr × Nat) := [(636, .aload_n 2, 1), (637, .aload_n 0, 1), (638, .iload_n 3, 1), (639, .iconst 1, 1), (640, .iadd, 1), (641, .iaload, 1), (642, .aload_n 0, 1), (643, .iload_n 3, 1), (644, .iconst 2, 1), (645, .iadd, 1), (646, .iaload, 1), (647, .aload_n 0, 1), (648, .iload_n 3, 1), (649, .iconst 3, 1), (650, .iadd, 1), (651, .iaload, 1), (652, .invokevirtual 71, 3), (655, .pop, 1), (656, .goto 384, 3), (659, .aload_n 1, 1), (660, .invokevirtual 72, 3), (663, .pop, 1), (664, .aload_n 2, 1), (665, .invokevirtual 75, 3), (668, .pop, 1), (669, .goto 371, 3), (672, .aload_n 1, 1), (673, .invokevirtual 76, 3), (676, .pop, 1), (677, .aload_n 2, 1), (678, .invokevirtual 79, 3), (681, .pop, 1), (682, .goto 358, 3), (685, .aload_n 1, 1), (686, .aload_n 0, 1), (687, .iload_n 3, 1), (688, .iconst 1, 1), (689, .iadd, 1), (690, .iaload, 1), (691, .invokevirtual 80, 3)]
def jt_0_11 : List (Nat × Instr × Nat) := [(694, .pop, 1), (695, .aload_n 2, 1), (696, .aload_n 0, 1), (697, .iload_n 3, 1), (698, .iconst 1, 1), (699, .iadd, 1), (700, .iaload, 1), (701, .invokevirtual 83, 3), (704, .pop, 1), (705, .goto 335, 3), (708, .aload_n 1, 1), (709, .aload_n 0, 1), (710, .iload_n 3, 1), (711, .iconst 1, 1), (712, .iadd, 1), (713, .iaload, 1), (714, .aload_n 0, 1), (715, .iload_n 3, 1), (716, .iconst 2, 1), (717, .iadd, 1), (718, .iaload, 1), (719, .invokevirtual 84, 3), (722, .pop, 1), (723, .aload_n 2, 1), (724, .aload_n 0, 1), (725, .iload_n 3, 1), (726, .iconst 1, 1), (727, .iadd, 1), (728, .iaload, 1), (729, .aload_n 0, 1), (730, .iload_n 3, 1), (731, .iconst 2, 1), (732, .iadd, 1), (733, .iaload, 1), (734, .invokevirtual 87, 3), (737, .pop, 1), (738, .goto 302, 3), (741, .aload_n 1, 1), (742, .aload_n 0, 1), (743, .iload_n 3, 1)]
def jt_0_12 : List (Nat × Instr × Nat) := [(744, .iconst 1, 1), (745, .iadd, 1), (746, .iaload, 1), (747, .invokevirtual 88, 3), (750, .pop, 1), (751, .aload_n 2, 1), (752, .aload_n 0, 1), (753, .iload_n 3, 1), (754, .iconst 1, 1), (755, .iadd, 1), (756, .iaload, 1), (757, .invokevirtual 91, 3), (760, .pop, 1), (761, .goto 279, 3), (764, .aload_n 1, 1), (765, .aload_n 0, 1), (766, .iload_n 3, 1), (767, .iconst 1, 1), (768, .iadd, 1), (769, .iaload, 1), (770, .aload_n 0, 1), (771, .iload_n 3, 1), (772, .iconst 2, 1), (773, .iadd, 1), (774, .iaload, 1), (775, .invokevirtual 92, 3), (778, .pop, 1), (779, .aload_n 2, 1), (780, .aload_n 0, 1), (781, .iload_n 3, 1), (782, .iconst 1, 1), (783, .iadd, 1), (784, .iaload, 1), (785, .aload_n 0, 1), (786, .iload_n 3, 1), (787, .iconst 2, 1), (788, .iadd, 1), (789, .iaload, 1), (790, .invokevirtual 95, 3), (793, .pop, 1)]
def jt_0_13 : List (Nat × Instr × Nat) := [(794, .goto 246, 3), (797, .aload_n 1, 1), (798, .aload_n 0, 1), (799, .iload_n 3, 1), (800, .iconst 1, 1), (801, .iadd, 1), (802, .iaload, 1), (803, .aload_n 0, 1), (804, .iload_n 3, 1), (805, .iconst 2, 1), (806, .iadd, 1), (807, .iaload, 1), (808, .invokevirtual 96, 3), (811, .pop, 1), (812, .aload_n 2, 1), (813, .aload_n 0, 1), (814, .iload_n 3, 1), (815, .iconst 1, 1), (816, .iadd, 1), (817, .iaload, 1), (818, .aload_n 0, 1), (819, .iload_n 3, 1), (820, .iconst 2, 1), (821, .iadd, 1), (822, .iaload, 1), (823, .invokevirtual 99, 3), (826, .pop, 1), (827, .goto 213, 3), (830, .aload_n 1, 1), (831, .aload_n 0, 1), (832, .iload_n 3, 1), (833, .iconst 1, 1), (834, .iadd, 1), (835, .iaload, 1), (836, .invokevirtual 100, 3), (839, .pop, 1), (840, .aload_n 2, 1), (841, .aload_n 0, 1), (842, .iload_n 3, 1), (843, .iconst 1, 1)]
def jt_0_14 : List (Nat × Instr × Nat) := [(844, .iadd, 1), (845, .iaload, 1), (846, .invokevirtual 103, 3), (849, .pop, 1), (850, .goto 190, 3), (853, .aload_n 1, 1), (854, .aload_n 0, 1), (855, .iload_n 3, 1), (856, .iconst 1, 1), (857, .iadd, 1), (858, .iaload, 1), (859, .invokevirtual 104, 3), (862, .pop, 1), (863, .aload_n 2, 1), (864, .aload_n 0, 1), (865, .iload_n 3, 1), (866, .iconst 1, 1), (867, .iadd, 1), (868, .iaload, 1), (869, .invokevirtual 107, 3), (872, .pop, 1), (873, .goto 167, 3), (876, .aload_n 1, 1), (877, .invokevirtual 108, 3), (880, .pop, 1), (881, .aload_n 2, 1), (882, .invokevirtual 111, 3), (885, .pop, 1), (886, .goto 154, 3), (889, .aload_n 1, 1), (890, .invokevirtual 112, 3), (893, .pop, 1), (894, .aload_n 2, 1), (895, .invokevirtual 115, 3), (898, .pop, 1), (899, .goto 141, 3), (902, .aload_n 1, 1), (903, .aload_n 0, 1), (904, .iload_n 3, 1), (905, .iconst 1, 1)]
def jt_0_15 : List (Nat × Instr × Nat) := [(906, .iadd, 1), (907, .iaload, 1), (908, .invokevirtual 116, 3), (911, .pop, 1), (912, .aload_n 2, 1), (913, .aload_n 0, 1), (914, .iload_n 3, 1), (915, .iconst 1, 1), (916, .iadd, 1), (917, .iaload, 1), (918, .invokevirtual 119, 3), (921, .pop, 1), (922, .goto 118, 3), (925, .aload_n 1, 1), (926, .aload_n 0, 1), (927, .iload_n 3, 1), (928, .iconst 1, 1), (929, .iadd, 1), (930, .iaload, 1), (931, .invokevirtual 120, 3), (934, .pop, 1), (935, .aload_n 2, 1), (936, .aload_n 0, 1), (937, .iload_n 3, 1), (938, .iconst 1, 1), (939, .iadd, 1), (940, .iaload, 1), (941, .invokevirtual 123, 3), (944, .pop, 1), (945, .goto 95, 3), (948, .aload_n 1, 1), (949, .aload_n 0, 1), (950, .iload_n 3, 1), (951, .iconst 1, 1), (952, .iadd, 1), (953, .iaload, 1), (954, .invokevirtual 124, 3), (957, .pop, 1), (958, .aload_n 2, 1), (959, .aload_n 0, 1)]
def jt_0_16 : List (Nat × Instr × Nat) := [(960, .iload_n 3, 1), (961, .iconst 1, 1), (962, .iadd, 1), (963, .iaload, 1), (964, .invokevirtual 127, 3), (967, .pop, 1), (968, .goto 72, 3), (971, .aload_n 1, 1), (972, .aload_n 0, 1), (973, .iload_n 3, 1), (974, .iconst 1, 1), (975, .iadd, 1), (976, .iaload, 1), (977, .invokevirtual 128, 3), (980, .pop, 1), (981, .aload_n 2, 1), (982, .aload_n 0, 1), (983, .iload_n 3, 1), (984, .iconst 1, 1), (985, .iadd, 1), (986, .iaload, 1), (987, .invokevirtual 131, 3), (990, .pop, 1), (991, .goto 49, 3), (994, .aload_n 1, 1), (995, .aload_n 0, 1), (996, .iload_n 3, 1), (997, .iconst 1, 1), (998, .iadd, 1), (999, .iaload, 1), (1000, .aload_n 0, 1), (1001, .iload_n 3, 1), (1002, .iconst 2, 1), (1003, .iadd, 1), (1004, .iaload, 1), (1005, .invokevirtual 132, 3), (1008, .pop, 1), (1009, .aload_n 2, 1), (1010, .aload_n 0, 1), (1011, .iload_n 3, 1)]
def jt_0_17 : List (Nat × Instr × Nat) := [(1012, .iconst 1, 1), (1013, .iadd, 1), (1014, .iaload, 1), (1015, .aload_n 0, 1), (1016, .iload_n 3, 1), (1017, .iconst 2, 1), (1018, .iadd, 1), (1019, .iaload, 1), (1020, .invokevirtual 135, 3), (1023, .pop, 1), (1024, .goto 16, 3), (1027, .aload_n 1, 1), (1028, .invokevirtual 136, 3), (1031, .pop, 1), (1032, .aload_n 2, 1), (1033, .invokevirtual 139, 3), (1036, .pop, 1), (1037, .goto 3, 3), (1040, .iinc 3 5, 3), (1043, .goto (-1025), 3), (1046, .iconst 1, 1), (1047, .ireturn, 1)]
def jt_0 : List (Nat × Instr × Nat) := jt_0_0 ++ (jt_0_1 ++ (jt_0_2 ++ (jt_0_3 ++ (jt_0_4 ++ (jt_0_5 ++ (jt_0_6 ++ (jt_0_7 ++ (jt_0_8 ++ (jt_0_9 ++ (jt_0_10 ++ (jt_0_11 ++ (jt_0_12 ++ (jt_0_13 ++ (jt_0_14 ++ (jt_0_15 ++ (jt_0_16 ++ (jt_0_17)))))))))))))))))
def jq_0 : jmE := (yL_law, cL_law, maxLocals, ret, 12, false, jt_0)
set_option maxRecDepth 100000 in
def jt_1_0 : List (Nat × Instr × Nat) := [(0, .aload_n 0, 1), (1, .invokespecial 3, 3), (4, .aload_n 0, 1), (5, .iconst 4, 1), (6, .anewarray 9, 3), (9, .putfield 11, 3), (12, .aload_n 0, 1), (13, .iconst 4, 1), (14, .newarray .int, 2), (16, .putfield 17, 3), (19, .aload_n 0, 1), (20, .iconst 4, 1), (21, .newarray .boolean, 2), (23, .putfield 21, 3), (26, .aload_n 0, 1), (27, .bipush 28, 2), (29, .newarray .int, 2), (31, .putfield 25, 3), (34, .aload_n 0, 1), (35, .bipush 6, 2), (37, .anewarray 28, 3), (40, .putfield 30, 3), (43, .aload_n 0, 1), (44, .bipush 20, 2), (46, .newarray .int, 2), (48, .putfield 34, 3), (51, .aload_n 0, 1), (52, .bipush 48, 2), (54, .newarray .int, 2), (56, .putfield 37, 3), (59, .aload_n 0, 1), (60, .bipush 24, 2), (62, .newarray .int, 2), (64, .putfield 40, 3), (67, .aload_n 0, 1), (68, .sipush 200, 3), (71, .newarray .int, 2), (73, .putfield 43, 3), (76, .aload_n 0, 1), (77, .aload_n 1, 1)]
def jt_1_1 : List (Nat × Instr × Nat) := [(78, .putfield 46, 3), (81, .iconst 0, 1), (82, .istore_n 2, 1), (83, .iload_n 2, 1), (84, .iconst 4, 1), (85, .if_icmp .ge 22, 3), (88, .aload_n 0, 1), (89, .getfield 11, 3), (92, .iload_n 2, 1), (93, .new 9, 3), (96, .dup, 1), (97, .invokespecial 50, 3), (100, .aastore, 1), (101, .iinc 2 1, 3), (104, .goto (-21), 3), (107, .iconst 0, 1), (108, .istore_n 2, 1), (109, .iload_n 2, 1), (110, .bipush 6, 2), (112, .if_icmp .ge 22, 3), (115, .aload_n 0, 1), (116, .getfield 30, 3), (119, .iload_n 2, 1), (120, .new 28, 3), (123, .dup, 1), (124, .invokespecial 51, 3), (127, .aastore, 1), (128, .iinc 2 1, 3), (131, .goto (-22), 3), (134, .return_, 1)]
def jt_1 : List (Nat × Instr × Nat) := jt_1_0 ++ (jt_1_1)
def jq_1 : jmE := (yX0_init, cX0_init, 3, (Option.none : Option Jvm.ClassFile.FieldType), 0, true, jt_1)
set_option maxRecDepth 100000 in
def jt_2 : List (Nat × Instr × Nat) := [(0, .aload_n 0, 1), (1, .iconst 0, 1), (2, .putfield 52, 3), (5, .aload_n 0, 1), (6, .iconst 0, 1), (7, .putfield 56, 3), (10, .aload_n 0, 1), (11, .iconst 0, 1), (12, .putfield 59, 3), (15, .aload_n 0, 1), (16, .iconst 0, 1), (17, .putfield 62, 3), (20, .return_, 1)]
def jq_2 : jmE := (yX0_empty, cX0_empty, 1, (Option.none : Option Jvm.ClassFile.FieldType), 0, false, jt_2)
set_option maxRecDepth 100000 in
def jt_3 : List (Nat × Instr × Nat) := [(0, .iload_n 1, 1), (1, .ifCond .lt 15, 3), (4, .iload_n 1, 1), (5, .aload_n 0, 1), (6, .getfield 52, 3), (9, .if_icmp .ge 7, 3), (12, .iconst 1, 1), (13, .goto 4, 3), (16, .iconst 0, 1), (17, .ireturn, 1)]
def jq_3 : jmE := (yX0_hasRole, cX0_hasRole, 2, (Option.some Jvm.ClassFile.FieldType.boolean), 0, false, jt_3)
set_option maxRecDepth 100000 in
def jt_4 : List (Nat × Instr × Nat) := [(0, .iload_n 1, 1), (1, .ifCond .lt 15, 3), (4, .iload_n 1, 1), (5, .aload_n 0, 1), (6, .getfield 56, 3), (9, .if_icmp .ge 7, 3), (12, .iconst 1, 1), (13, .goto 4, 3), (16, .iconst 0, 1), (17, .ireturn, 1)]
def jq_4 : jmE := (yX0_hasSession, cX0_hasSession, 2, (Option.some Jvm.ClassFile.FieldType.boolean), 0, false, jt_4)
set_option maxRecDepth 100000 in
def jt_5 : List (Nat × Instr × Nat) := [(0, .iload_n 1, 1), (1, .ifCond .lt 15, 3), (4, .iload_n 1, 1), (5, .aload_n 0, 1), (6, .getfield 59, 3), (9, .if_icmp .ge 7, 3), (12, .iconst 1, 1), (13, .goto 4, 3), (16, .iconst 0, 1), (17, .ireturn, 1)]
def jq_5 : jmE := (yX0_hasClaim, cX0_hasClaim, 2, (Option.some Jvm.ClassFile.FieldType.boolean), 0, false, jt_5)
set_option maxRecDepth 100000 in
def jt_6 : List (Nat × Instr × Nat) := [(0, .aload_n 0, 1), (1, .iload_n 1, 1), (2, .invokevirtual 65, 3), (5, .ifCond .eq 20, 3), (8, .aload_n 0, 1), (9, .getfield 11, 3), (12, .iload_n 1, 1), (13, .aaload, 1), (14, .iload_n 2, 1), (15, .invokevirtual 69, 3), (18, .ifCond .eq 7, 3), (21, .iconst 1, 1), (22, .goto 4, 3), (25, .iconst 0, 1), (26, .ireturn, 1)]
def jq_6 : jmE := (yX0_hasVariable, cX0_hasVariable, 3, (Option.some Jvm.ClassFile.FieldType.boolean), 0, false, jt_6)
set_option maxRecDepth 100000 in
def jt_7 : List (Nat × Instr × Nat) := [(0, .aload_n 0, 1), (1, .getfield 52, 3), (4, .iconst 4, 1), (5, .if_icmp .lt 6, 3), (8, .bipush (-4), 2), (10, .ireturn, 1), (11, .aload_n 0, 1), (12, .getfield 11, 3), (15, .aload_n 0, 1), (16, .getfield 52, 3), (19, .aaload, 1), (20, .invokevirtual 72, 3), (23, .aload_n 0, 1), (24, .dup, 1), (25, .getfield 52, 3), (28, .iconst 1, 1), (29, .iadd, 1), (30, .putfield 52, 3), (33, .aload_n 0, 1), (34, .getfield 52, 3), (37, .iconst 1, 1), (38, .isub, 1), (39, .ireturn, 1)]
def jq_7 : jmE := (yX0_newRole, cX0_newRole, 1, (Option.some Jvm.ClassFile.FieldType.int), 0, false, jt_7)
set_option maxRecDepth 100000 in
def jt_8 : List (Nat × Instr × Nat) := [(0, .aload_n 0, 1), (1, .iload_n 3, 1), (2, .invokevirtual 75, 3), (5, .istore 4, 2), (7, .iconst 0, 1), (8, .istore 5, 2), (10, .iload 5, 2), (12, .iload 4, 2), (14, .if_icmp .ge 62, 3), (17, .aload_n 0, 1), (18, .getfield 40, 3), (21, .iload 5, 2), (23, .iaload, 1), (24, .istore 6, 2), (26, .aload_n 0, 1), (27, .getfield 46, 3), (30, .getfield 79, 3), (33, .iload 6, 2), (35, .iaload, 1), (36, .iload_n 1, 1), (37, .if_icmp .eq 5, 3), (40, .iconst 0, 1), (41, .ireturn, 1), (42, .iload_n 2, 1), (43, .ifCond .eq 27, 3), (46, .aload_n 0, 1), (47, .getfield 11, 3), (50, .iload_n 1, 1), (51, .aaload, 1), (52, .aload_n 0, 1), (53, .getfield 46, 3), (56, .getfield 84, 3), (59, .iload 6, 2), (61, .iaload, 1), (62, .invokevirtual 87, 3), (65, .ifCond .eq 5, 3), (68, .iconst 0, 1), (69, .ireturn, 1), (70, .iinc 5 1, 3), (73, .goto (-63), 3), (76, .iconst 1, 1), (77, .ireturn, 1)]
def jq_8 : jmE := (yX0_mayBeEvent, cX0_mayBeEvent, 7, (Option.some Jvm.ClassFile.FieldType.boolean), 0, false, jt_8)
set_option maxRecDepth 100000 in
def jt_9 : List (Nat × Instr × Nat) := [(0, .aload_n 1, 1), (1, .getfield 90, 3), (4, .bipush 6, 2), (6, .if_icmp .lt 6, 3), (9, .bipush (-4), 2), (11, .ireturn, 1), (12, .aload_n 1, 1), (13, .getfield 93, 3), (16, .aload_n 1, 1), (17, .getfield 90, 3), (20, .aaload, 1), (21, .astore 4, 2), (23, .aload 4, 2), (25, .iload_n 2, 1), (26, .putfield 97, 3), (29, .aload 4, 2), (31, .iload_n 3, 1), (32, .putfield 103, 3), (35, .aload 4, 2), (37, .iconst 0, 1), (38, .putfield 106, 3), (41, .aload 4, 2), (43, .iconst 0, 1), (44, .putfield 109, 3), (47, .iload_n 2, 1), (48, .ifCond .ne 23, 3), (51, .aload_n 0, 1), (52, .aload_n 1, 1), (53, .aload 4, 2), (55, .invokevirtual 112, 3), (58, .aload 4, 2), (60, .aload_n 0, 1), (61, .getfield 46, 3), (64, .aload_n 0, 1), (65, .getfield 43, 3), (68, .invokevirtual 116, 3), (71, .aload_n 1, 1), (72, .dup, 1), (73, .getfield 90, 3), (76, .iconst 1, 1), (77, .iadd, 1), (78, .putfield 90, 3), (81, .aload_n 1, 1), (82, .getfield 90, 3), (85, .ireturn, 1)]
def jq_9 : jmE := (yX0_newEvent, cX0_newEvent, 5, (Option.some Jvm.ClassFile.FieldType.int), 0, false, jt_9)
set_option maxRecDepth 100000 in
def jt_10 : List (Nat × Instr × Nat) := [(0, .aload_n 0, 1), (1, .aload_n 2, 1), (2, .getfield 103, 3), (5, .invokevirtual 75, 3), (8, .istore_n 3, 1), (9, .iconst 0, 1), (10, .istore 4, 2), (12, .iload 4, 2), (14, .iload_n 3, 1), (15, .if_icmp .ge 89, 3), (18, .aload_n 0, 1), (19, .getfield 46, 3), (22, .getfield 84, 3), (25, .aload_n 0, 1), (26, .getfield 40, 3), (29, .iload 4, 2), (31, .iaload, 1), (32, .iaload, 1), (33, .istore 5, 2), (35, .aload_n 1, 1), (36, .iload 5, 2), (38, .invokevirtual 87, 3), (41, .ifCond .eq 57, 3), (44, .aload_n 2, 1), (45, .getfield 106, 3), (48, .bipush 6, 2), (50, .if_icmp .ge 48, 3), (53, .aload_n 1, 1), (54, .getfield 120, 3), (57, .iload 5, 2), (59, .iconst 1, 1), (60, .bastore, 1), (61, .aload_n 2, 1), (62, .getfield 123, 3), (65, .aload_n 2, 1), (66, .getfield 106, 3), (69, .iload 5, 2), (71, .iastore, 1), (72, .aload_n 2, 1), (73, .getfield 126, 3), (76, .aload_n 2, 1), (77, .getfield 106, 3), (80, .aload_n 1, 1), (81, .getfield 129, 3), (84, .iload 5, 2), (86, .iaload, 1), (87, .iastore, 1), (88, .aload_n 2, 1), (89, .dup, 1), (90, .getfield 106, 3), (93, .iconst 1, 1), (94, .iadd, 1), (95, .putfield 106, 3), (98, .iinc 4 1, 3), (101, .goto (-89), 3), (104, .return_, 1)]
def jq_10 : jmE := (yX0_bindIn, cX0_bindIn, 6, (Option.none : Option Jvm.ClassFile.FieldType), 0, false, jt_10)
set_option maxRecDepth 100000 in
def jt_11_0 : List (Nat × Instr × Nat) := [(0, .iconst 0, 1), (1, .istore_n 2, 1), (2, .iconst 1, 1), (3, .istore_n 3, 1), (4, .aload_n 0, 1), (5, .getfield 37, 3), (8, .iconst 0, 1), (9, .iload_n 1, 1), (10, .iastore, 1), (11, .iconst 0, 1), (12, .istore 4, 2), (14, .iload 4, 2), (16, .bipush 24, 2), (18, .if_icmp .ge 127, 3), (21, .iload_n 3, 1), (22, .ifCond .le 123, 3), (25, .iinc 3 (-1), 3), (28, .aload_n 0, 1), (29, .getfield 37, 3), (32, .iload_n 3, 1), (33, .iaload, 1), (34, .istore 5, 2), (36, .aload_n 0, 1), (37, .getfield 46, 3), (40, .getfield 132, 3), (43, .iload 5, 2), (45, .iaload, 1), (46, .iconst 3, 1), (47, .if_icmp .ne 14, 3), (50, .aload_n 0, 1), (51, .getfield 40, 3), (54, .iload_n 2, 1), (55, .iload 5, 2), (57, .iastore, 1), (58, .iinc 2 1, 3), (61, .aload_n 0, 1), (62, .getfield 46, 3), (65, .aload_n 0, 1), (66, .getfield 46, 3), (69, .getfield 135, 3)]
def jt_11_1 : List (Nat × Instr × Nat) := [(72, .iload 5, 2), (74, .iaload, 1), (75, .invokevirtual 138, 3), (78, .ifCond .eq 22, 3), (81, .aload_n 0, 1), (82, .getfield 37, 3), (85, .iload_n 3, 1), (86, .aload_n 0, 1), (87, .getfield 46, 3), (90, .getfield 135, 3), (93, .iload 5, 2), (95, .iaload, 1), (96, .iastore, 1), (97, .iinc 3 1, 3), (100, .aload_n 0, 1), (101, .getfield 46, 3), (104, .aload_n 0, 1), (105, .getfield 46, 3), (108, .getfield 139, 3), (111, .iload 5, 2), (113, .iaload, 1), (114, .invokevirtual 138, 3), (117, .ifCond .eq 22, 3), (120, .aload_n 0, 1), (121, .getfield 37, 3), (124, .iload_n 3, 1), (125, .aload_n 0, 1), (126, .getfield 46, 3), (129, .getfield 139, 3), (132, .iload 5, 2), (134, .iaload, 1), (135, .iastore, 1), (136, .iinc 3 1, 3), (139, .iinc 4 1, 3), (142, .goto (-128), 3), (145, .iload_n 2, 1), (146, .ireturn, 1)]
def jt_11 : List (Nat × Instr × Nat) := jt_11_0 ++ (jt_11_1)
def jq_11 : jmE := (yX0_listVariables, cX0_listVariables, 6, (Option.some Jvm.ClassFile.FieldType.int), 0, false, jt_11)
set_option maxRecDepth 100000 in
def jt_12 : List (Nat × Instr × Nat) := [(0, .iconst 0, 1), (1, .istore_n 2, 1), (2, .iload_n 2, 1), (3, .aload_n 0, 1), (4, .getfield 62, 3), (7, .if_icmp .ge 21, 3), (10, .aload_n 0, 1), (11, .getfield 34, 3), (14, .iload_n 2, 1), (15, .iaload, 1), (16, .iload_n 1, 1), (17, .if_icmp .ne 5, 3), (20, .iconst 1, 1), (21, .ireturn, 1), (22, .iinc 2 1, 3), (25, .goto (-23), 3), (28, .iconst 0, 1), (29, .ireturn, 1)]
def jq_12 : jmE := (yX0_isKnown, cX0_isKnown, 3, (Option.some Jvm.ClassFile.FieldType.boolean), 0, false, jt_12)
set_option maxRecDepth 100000 in
def jt_13 : List (Nat × Instr × Nat) := [(0, .aload_n 0, 1), (1, .getfield 62, 3), (4, .bipush 20, 2), (6, .if_icmp .ge 23, 3), (9, .aload_n 0, 1), (10, .getfield 34, 3), (13, .aload_n 0, 1), (14, .getfield 62, 3), (17, .iload_n 1, 1), (18, .iastore, 1), (19, .aload_n 0, 1), (20, .dup, 1), (21, .getfield 62, 3), (24, .iconst 1, 1), (25, .iadd, 1), (26, .putfield 62, 3), (29, .aload_n 0, 1), (30, .getfield 62, 3), (33, .ireturn, 1)]
def jq_13 : jmE := (yX0_learn, cX0_learn, 2, (Option.some Jvm.ClassFile.FieldType.int), 0, false, jt_13)
set_option maxRecDepth 100000 in
def jt_14_0 : List (Nat × Instr × Nat) := [(0, .aload_n 0, 1), (1, .getfield 56, 3), (4, .iconst 4, 1), (5, .if_icmp .ge 11, 3), (8, .aload_n 0, 1), (9, .iload_n 1, 1), (10, .invokevirtual 65, 3), (13, .ifCond .ne 6, 3), (16, .bipush (-4), 2), (18, .ireturn, 1), (19, .aload_n 0, 1), (20, .getfield 11, 3), (23, .iload_n 1, 1), (24, .aaload, 1), (25, .astore 5, 2), (27, .aload_n 0, 1), (28, .getfield 56, 3), (31, .bipush 7, 2), (33, .imul, 1), (34, .istore 6, 2), (36, .iconst 0, 1), (37, .istore 7, 2), (39, .iconst 1, 1), (40, .istore 8, 2), (42, .aload_n 0, 1), (43, .getfield 25, 3), (46, .iload 6, 2), (48, .iconst 0, 1), (49, .iastore, 1), (50, .iconst 0, 1), (51, .istore 9, 2), (53, .iload 9, 2), (55, .bipush 6, 2), (57, .if_icmp .ge 140, 3), (60, .iconst (-1), 1), (61, .istore 10, 2), (63, .aload 5, 2), (65, .iload 9, 2), (67, .invokevirtual 69, 3), (70, .ifCond .eq 67, 3)]
def jt_14_1 : List (Nat × Instr × Nat) := [(73, .aload 5, 2), (75, .getfield 142, 3), (78, .iload 9, 2), (80, .iaload, 1), (81, .ifCond .ne 56, 3), (84, .iload 7, 2), (86, .ifCond .ne 7, 3), (89, .iload_n 2, 1), (90, .goto 15, 3), (93, .iload 7, 2), (95, .iconst 1, 1), (96, .if_icmp .ne 7, 3), (99, .iload_n 3, 1), (100, .goto 5, 3), (103, .iload 4, 2), (105, .istore 10, 2), (107, .iload 8, 2), (109, .ifCond .eq 19, 3), (112, .aload_n 0, 1), (113, .getfield 46, 3), (116, .iload 10, 2), (118, .invokevirtual 145, 3), (121, .ifCond .eq 7, 3), (124, .iconst 1, 1), (125, .goto 4, 3), (128, .iconst 0, 1), (129, .istore 8, 2), (131, .iinc 7 1, 3), (134, .goto 43, 3), (137, .aload 5, 2), (139, .iload 9, 2), (141, .invokevirtual 69, 3), (144, .ifCond .eq 33, 3), (147, .aload 5, 2), (149, .getfield 142, 3), (152, .iload 9, 2), (154, .iaload, 1), (155, .iconst 1, 1), (156, .if_icmp .ne 21, 3), (159, .aload_n 0, 1)]
def jt_14_2 : List (Nat × Instr × Nat) := [(160, .getfield 46, 3), (163, .aload 5, 2), (165, .getfield 129, 3), (168, .iload 9, 2), (170, .iaload, 1), (171, .iconst 0, 1), (172, .invokevirtual 148, 3), (175, .istore 10, 2), (177, .aload_n 0, 1), (178, .getfield 25, 3), (181, .iload 6, 2), (183, .iconst 1, 1), (184, .iadd, 1), (185, .iload 9, 2), (187, .iadd, 1), (188, .iload 10, 2), (190, .iastore, 1), (191, .iinc 9 1, 3), (194, .goto (-141), 3), (197, .aload 5, 2), (199, .iconst 1, 1), (200, .putfield 152, 3), (203, .aload_n 0, 1), (204, .getfield 17, 3), (207, .aload_n 0, 1), (208, .getfield 56, 3), (211, .iload_n 1, 1), (212, .iastore, 1), (213, .aload_n 0, 1), (214, .getfield 21, 3), (217, .aload_n 0, 1), (218, .getfield 56, 3), (221, .iload 8, 2), (223, .bastore, 1), (224, .aload_n 0, 1), (225, .dup, 1), (226, .getfield 56, 3), (229, .iconst 1, 1), (230, .iadd, 1), (231, .putfield 56, 3)]
def jt_14_3 : List (Nat × Instr × Nat) := [(234, .aload_n 0, 1), (235, .getfield 56, 3), (238, .iconst 1, 1), (239, .isub, 1), (240, .ireturn, 1)]
def jt_14 : List (Nat × Instr × Nat) := jt_14_0 ++ (jt_14_1 ++ (jt_14_2 ++ (jt_14_3)))
def jq_14 : jmE := (yX0_newSession, cX0_newSession, 11, (Option.some Jvm.ClassFile.FieldType.int), 0, false, jt_14)
set_option maxRecDepth 100000 in
def jt_15 : List (Nat × Instr × Nat) := [(0, .aload_n 0, 1), (1, .getfield 59, 3), (4, .bipush 6, 2), (6, .if_icmp .lt 6, 3), (9, .bipush (-4), 2), (11, .ireturn, 1), (12, .aload_n 0, 1), (13, .getfield 30, 3), (16, .aload_n 0, 1), (17, .getfield 59, 3), (20, .aaload, 1), (21, .astore 5, 2), (23, .aload 5, 2), (25, .iload_n 1, 1), (26, .putfield 155, 3), (29, .aload 5, 2), (31, .iload_n 2, 1), (32, .putfield 158, 3), (35, .aload 5, 2), (37, .iload_n 3, 1), (38, .putfield 161, 3), (41, .aload 5, 2), (43, .iload 4, 2), (45, .putfield 164, 3), (48, .aload 5, 2), (50, .iconst 0, 1), (51, .putfield 167, 3), (54, .aload_n 0, 1), (55, .dup, 1), (56, .getfield 59, 3), (59, .iconst 1, 1), (60, .iadd, 1), (61, .putfield 59, 3), (64, .aload_n 0, 1), (65, .getfield 59, 3), (68, .iconst 1, 1), (69, .isub, 1), (70, .ireturn, 1)]
def jq_15 : jmE := (yX0_newClaim, cX0_newClaim, 6, (Option.some Jvm.ClassFile.FieldType.int), 0, false, jt_15)
set_option maxRecDepth 100000 in
def jt_16 : List (Nat × Instr × Nat) := [(0, .aload_n 1, 1), (1, .iload_n 2, 1), (2, .iload_n 3, 1), (3, .bipush 7, 2), (5, .imul, 1), (6, .iadd, 1), (7, .iaload, 1), (8, .ireturn, 1)]
def jq_16 : jmE := (yX0_doneBy, cX0_doneBy, 4, (Option.some Jvm.ClassFile.FieldType.int), 0, false, jt_16)
set_option maxRecDepth 100000 in
def jt_17 : List (Nat × Instr × Nat) := [(0, .aload_n 1, 1), (1, .iload_n 2, 1), (2, .iload_n 3, 1), (3, .bipush 7, 2), (5, .imul, 1), (6, .iadd, 1), (7, .iconst 1, 1), (8, .iadd, 1), (9, .iload 4, 2), (11, .iadd, 1), (12, .iaload, 1), (13, .ireturn, 1)]
def jq_17 : jmE := (yX0_valueOf, cX0_valueOf, 5, (Option.some Jvm.ClassFile.FieldType.int), 0, false, jt_17)
set_option maxRecDepth 100000 in
def jt_18 : List (Nat × Instr × Nat) := [(0, .aload_n 0, 1), (1, .getfield 11, 3), (4, .aload_n 0, 1), (5, .getfield 17, 3), (8, .iload_n 3, 1), (9, .iaload, 1), (10, .aaload, 1), (11, .astore 4, 2), (13, .aload_n 0, 1), (14, .aload_n 1, 1), (15, .iload_n 2, 1), (16, .iload_n 3, 1), (17, .invokevirtual 170, 3), (20, .istore 5, 2), (22, .iload 5, 2), (24, .ifCond .lt 24, 3), (27, .iload 5, 2), (29, .aload 4, 2), (31, .getfield 90, 3), (34, .if_icmp .ge 14, 3), (37, .aload 4, 2), (39, .getfield 93, 3), (42, .iload 5, 2), (44, .aaload, 1), (45, .goto 4, 3), (48, .aconst_null, 1), (49, .areturn, 1)]
def jq_18 : jmE := (yX0_due, cX0_due, 6, (Option.some (Jvm.ClassFile.FieldType.object "SealProbe$Event")), 0, false, jt_18)
set_option maxRecDepth 100000 in
def jt_19 : List (Nat × Instr × Nat) := [(0, .aload_n 0, 1), (1, .aload_n 1, 1), (2, .iload_n 2, 1), (3, .iload_n 3, 1), (4, .invokevirtual 170, 3), (7, .aload_n 0, 1), (8, .getfield 11, 3), (11, .aload_n 0, 1), (12, .getfield 17, 3), (15, .iload_n 3, 1), (16, .iaload, 1), (17, .aaload, 1), (18, .getfield 90, 3), (21, .if_icmp .lt 7, 3), (24, .iconst 1, 1), (25, .goto 4, 3), (28, .iconst 0, 1), (29, .ireturn, 1)]
def jq_19 : jmE := (yX0_hasDoneAll, cX0_hasDoneAll, 4, (Option.some Jvm.ClassFile.FieldType.boolean), 0, false, jt_19)
set_option maxRecDepth 100000 in
def jt_20 : List (Nat × Instr × Nat) := [(0, .iconst 0, 1), (1, .istore_n 3, 1), (2, .iload_n 3, 1), (3, .aload_n 0, 1), (4, .getfield 56, 3), (7, .if_icmp .ge 21, 3), (10, .aload_n 0, 1), (11, .aload_n 1, 1), (12, .iload_n 2, 1), (13, .iload_n 3, 1), (14, .invokevirtual 174, 3), (17, .ifCond .ne 5, 3), (20, .iconst 0, 1), (21, .ireturn, 1), (22, .iinc 3 1, 3), (25, .goto (-23), 3), (28, .iconst 1, 1), (29, .ireturn, 1)]
def jq_20 : jmE := (yX0_allHaveDoneAll, cX0_allHaveDoneAll, 4, (Option.some Jvm.ClassFile.FieldType.boolean), 0, false, jt_20)
set_option maxRecDepth 100000 in
def jt_21 : List (Nat × Instr × Nat) := [(0, .aload_n 1, 1), (1, .invokevirtual 178, 3), (4, .iconst 0, 1), (5, .istore_n 2, 1), (6, .iload_n 2, 1), (7, .aload_n 0, 1), (8, .getfield 62, 3), (11, .if_icmp .ge 22, 3), (14, .aload_n 1, 1), (15, .aload_n 0, 1), (16, .getfield 34, 3), (19, .iload_n 2, 1), (20, .iaload, 1), (21, .iconst 0, 1), (22, .iconst (-1), 1), (23, .invokevirtual 183, 3), (26, .pop, 1), (27, .iinc 2 1, 3), (30, .goto (-24), 3), (33, .return_, 1)]
def jq_21 : jmE := (yX0_beginKnowledge, cX0_beginKnowledge, 3, (Option.none : Option Jvm.ClassFile.FieldType), 0, false, jt_21)
set_option maxRecDepth 100000 in
def jt_22_0 : List (Nat × Instr × Nat) := [(0, .aload_n 0, 1), (1, .aload_n 1, 1), (2, .invokevirtual 187, 3), (5, .iconst 0, 1), (6, .istore 4, 2), (8, .iload 4, 2), (10, .aload_n 0, 1), (11, .getfield 56, 3), (14, .if_icmp .ge 110, 3), (17, .aload_n 0, 1), (18, .getfield 11, 3), (21, .aload_n 0, 1), (22, .getfield 17, 3), (25, .iload 4, 2), (27, .iaload, 1), (28, .aaload, 1), (29, .astore 5, 2), (31, .aload_n 0, 1), (32, .aload_n 2, 1), (33, .iload_n 3, 1), (34, .iload 4, 2), (36, .invokevirtual 170, 3), (39, .istore 6, 2), (41, .iconst 0, 1), (42, .istore 7, 2), (44, .iload 7, 2), (46, .iload 6, 2), (48, .if_icmp .ge 70, 3), (51, .iload 7, 2), (53, .aload 5, 2), (55, .getfield 90, 3), (58, .if_icmp .ge 60, 3), (61, .aload 5, 2), (63, .getfield 93, 3), (66, .iload 7, 2), (68, .aaload, 1), (69, .getfield 97, 3), (72, .ifCond .eq 40, 3), (75, .aload_n 1, 1), (76, .aload 5, 2)]
def jt_22_1 : List (Nat × Instr × Nat) := [(78, .getfield 93, 3), (81, .iload 7, 2), (83, .aaload, 1), (84, .getfield 103, 3), (87, .aload_n 2, 1), (88, .iload_n 3, 1), (89, .iload 4, 2), (91, .bipush 7, 2), (93, .imul, 1), (94, .iadd, 1), (95, .iconst 1, 1), (96, .iadd, 1), (97, .iconst 0, 1), (98, .invokevirtual 191, 3), (101, .istore 8, 2), (103, .aload_n 1, 1), (104, .iload 8, 2), (106, .iconst 1, 1), (107, .iconst (-1), 1), (108, .invokevirtual 183, 3), (111, .pop, 1), (112, .iinc 7 1, 3), (115, .goto (-71), 3), (118, .iinc 4 1, 3), (121, .goto (-113), 3), (124, .aload_n 1, 1), (125, .invokevirtual 195, 3), (128, .return_, 1)]
def jt_22 : List (Nat × Instr × Nat) := jt_22_0 ++ (jt_22_1)
def jq_22 : jmE := (yX0_fillKnowledge, cX0_fillKnowledge, 9, (Option.none : Option Jvm.ClassFile.FieldType), 0, false, jt_22)
set_option maxRecDepth 100000 in
def jt_23 : List (Nat × Instr × Nat) := [(0, .iconst 0, 1), (1, .istore_n 1, 1), (2, .iload_n 1, 1), (3, .aload_n 0, 1), (4, .getfield 59, 3), (7, .if_icmp .ge 23, 3), (10, .aload_n 0, 1), (11, .getfield 30, 3), (14, .iload_n 1, 1), (15, .aaload, 1), (16, .getfield 155, 3), (19, .ifCond .eq 5, 3), (22, .iconst 1, 1), (23, .ireturn, 1), (24, .iinc 1 1, 3), (27, .goto (-25), 3), (30, .iconst 0, 1), (31, .ireturn, 1)]
def jq_23 : jmE := (yX0_hasSecrets, cX0_hasSecrets, 2, (Option.some Jvm.ClassFile.FieldType.boolean), 0, false, jt_23)
set_option maxRecDepth 100000 in
def jt_24 : List (Nat × Instr × Nat) := [(0, .aload_n 0, 1), (1, .getfield 30, 3), (4, .iload_n 1, 1), (5, .aaload, 1), (6, .astore 5, 2), (8, .aload 5, 2), (10, .getfield 155, 3), (13, .ifCond .eq 16, 3), (16, .aload_n 0, 1), (17, .aload 5, 2), (19, .aload_n 2, 1), (20, .iload_n 3, 1), (21, .aload 4, 2), (23, .invokevirtual 198, 3), (26, .goto 21, 3), (29, .aload_n 0, 1), (30, .aload 5, 2), (32, .aload_n 2, 1), (33, .iload_n 3, 1), (34, .iconst 0, 1), (35, .iconst 0, 1), (36, .invokevirtual 202, 3), (39, .ifCond .ne 7, 3), (42, .iconst 1, 1), (43, .goto 4, 3), (46, .iconst 0, 1), (47, .ireturn, 1)]
def jq_24 : jmE := (yX0_breaks, cX0_breaks, 6, (Option.some Jvm.ClassFile.FieldType.boolean), 0, false, jt_24)
set_option maxRecDepth 100000 in
def jt_25 : List (Nat × Instr × Nat) := [(0, .iconst 0, 1), (1, .istore 5, 2), (3, .iload 5, 2), (5, .aload_n 0, 1), (6, .getfield 56, 3), (9, .if_icmp .ge 56, 3), (12, .aload_n 0, 1), (13, .getfield 17, 3), (16, .iload 5, 2), (18, .iaload, 1), (19, .aload_n 1, 1), (20, .getfield 158, 3), (23, .if_icmp .ne 36, 3), (26, .aload_n 0, 1), (27, .getfield 21, 3), (30, .iload 5, 2), (32, .baload, 1), (33, .ifCond .eq 26, 3), (36, .aload 4, 2), (38, .aload_n 0, 1), (39, .aload_n 2, 1), (40, .iload_n 3, 1), (41, .iload 5, 2), (43, .aload_n 1, 1), (44, .getfield 164, 3), (47, .invokevirtual 206, 3), (50, .iconst 0, 1), (51, .invokevirtual 210, 3), (54, .ifCond .eq 5, 3), (57, .iconst 1, 1), (58, .ireturn, 1), (59, .iinc 5 1, 3), (62, .goto (-59), 3), (65, .iconst 0, 1), (66, .ireturn, 1)]
def jq_25 : jmE := (yX0_leaks, cX0_leaks, 6, (Option.some Jvm.ClassFile.FieldType.boolean), 0, false, jt_25)
set_option maxRecDepth 100000 in
def jt_26_0 : List (Nat × Instr × Nat) := [(0, .iload 4, 2), (2, .aload_n 0, 1), (3, .getfield 56, 3), (6, .if_icmp .lt 5, 3), (9, .iconst 1, 1), (10, .ireturn, 1), (11, .aload_n 0, 1), (12, .getfield 17, 3), (15, .iload 4, 2), (17, .iaload, 1), (18, .aload_n 1, 1), (19, .getfield 158, 3), (22, .if_icmp .ne 24, 3), (25, .aload_n 0, 1), (26, .getfield 21, 3), (29, .iload 4, 2), (31, .baload, 1), (32, .ifCond .eq 14, 3), (35, .aload_n 0, 1), (36, .aload_n 2, 1), (37, .iload_n 3, 1), (38, .iload 4, 2), (40, .invokevirtual 174, 3), (43, .ifCond .ne 17, 3), (46, .aload_n 0, 1), (47, .aload_n 1, 1), (48, .aload_n 2, 1), (49, .iload_n 3, 1), (50, .iload 4, 2), (52, .iconst 1, 1), (53, .iadd, 1), (54, .iload 5, 2), (56, .invokevirtual 202, 3), (59, .ireturn, 1), (60, .iconst 0, 1), (61, .istore 6, 2), (63, .iload 6, 2), (65, .aload_n 0, 1), (66, .getfield 56, 3), (69, .if_icmp .ge 75, 3)]
def jt_26_1 : List (Nat × Instr × Nat) := [(72, .iload 6, 2), (74, .iload 4, 2), (76, .if_icmp .eq 17, 3), (79, .iload 5, 2), (81, .iconst 1, 1), (82, .iload 6, 2), (84, .ishl, 1), (85, .iand, 1), (86, .ifCond .ne 7, 3), (89, .iconst 1, 1), (90, .goto 4, 3), (93, .iconst 0, 1), (94, .istore 7, 2), (96, .iload 7, 2), (98, .ifCond .eq 40, 3), (101, .aload_n 0, 1), (102, .aload_n 1, 1), (103, .aload_n 2, 1), (104, .iload_n 3, 1), (105, .iload 4, 2), (107, .iload 6, 2), (109, .invokevirtual 214, 3), (112, .ifCond .eq 26, 3), (115, .aload_n 0, 1), (116, .aload_n 1, 1), (117, .aload_n 2, 1), (118, .iload_n 3, 1), (119, .iload 4, 2), (121, .iconst 1, 1), (122, .iadd, 1), (123, .iload 5, 2), (125, .iconst 1, 1), (126, .iload 6, 2), (128, .ishl, 1), (129, .ior, 1), (130, .invokevirtual 202, 3), (133, .ifCond .eq 5, 3), (136, .iconst 1, 1), (137, .ireturn, 1), (138, .iinc 6 1, 3)]
def jt_26_2 : List (Nat × Instr × Nat) := [(141, .goto (-78), 3), (144, .iconst 0, 1), (145, .ireturn, 1)]
def jt_26 : List (Nat × Instr × Nat) := jt_26_0 ++ (jt_26_1 ++ (jt_26_2))
def jq_26 : jmE := (yX0_canPartner, cX0_canPartner, 8, (Option.some Jvm.ClassFile.FieldType.boolean), 0, false, jt_26)
set_option maxRecDepth 100000 in
def jt_27 : List (Nat × Instr × Nat) := [(0, .aload_n 0, 1), (1, .getfield 17, 3), (4, .iload 5, 2), (6, .iaload, 1), (7, .aload_n 1, 1), (8, .getfield 161, 3), (11, .if_icmp .ne 18, 3), (14, .aload_n 0, 1), (15, .aload_n 2, 1), (16, .iload_n 3, 1), (17, .iload 5, 2), (19, .invokevirtual 170, 3), (22, .aload_n 1, 1), (23, .getfield 164, 3), (26, .if_icmp .ge 5, 3), (29, .iconst 0, 1), (30, .ireturn, 1), (31, .iconst 0, 1), (32, .istore 6, 2), (34, .iload 6, 2), (36, .aload_n 1, 1), (37, .getfield 167, 3), (40, .if_icmp .ge 54, 3), (43, .aload_n 0, 1), (44, .aload_n 2, 1), (45, .iload_n 3, 1), (46, .iload 4, 2), (48, .aload_n 1, 1), (49, .getfield 217, 3), (52, .iload 6, 2), (54, .iaload, 1), (55, .invokevirtual 206, 3), (58, .istore 7, 2), (60, .iload 7, 2), (62, .iconst (-1), 1), (63, .if_icmp .eq 23, 3), (66, .iload 7, 2), (68, .aload_n 0, 1), (69, .aload_n 2, 1), (70, .iload_n 3, 1), (71, .iload 5, 2), (73, .aload_n 1, 1), (74, .getfield 220, 3), (77, .iload 6, 2), (79, .iaload, 1), (80, .invokevirtual 206, 3), (83, .if_icmp .eq 5, 3), (86, .iconst 0, 1), (87, .ireturn, 1), (88, .iinc 6 1, 3), (91, .goto (-57), 3), (94, .iconst 1, 1), (95, .ireturn, 1)]
def jq_27 : jmE := (yX0_isPartner, cX0_isPartner, 8, (Option.some Jvm.ClassFile.FieldType.boolean), 0, false, jt_27)
set_option maxRecDepth 100000 in
def jt_28 : List (Nat × Instr × Nat) := [(0, .aload_n 0, 1), (1, .invokespecial 3, 3), (4, .aload_n 0, 1), (5, .iconst 4, 1), (6, .sipush 200, 3), (9, .multianewarray 9 2, 4), (13, .putfield 11, 3), (16, .aload_n 0, 1), (17, .iconst 4, 1), (18, .newarray .int, 2), (20, .putfield 16, 3), (23, .aload_n 0, 1), (24, .bipush 6, 2), (26, .newarray .int, 2), (28, .putfield 20, 3), (31, .aload_n 0, 1), (32, .sipush 200, 3), (35, .newarray .int, 2), (37, .putfield 23, 3), (40, .aload_n 0, 1), (41, .sipush 200, 3), (44, .newarray .boolean, 2), (46, .putfield 26, 3), (49, .aload_n 0, 1), (50, .aload_n 1, 1), (51, .putfield 30, 3), (54, .aload_n 0, 1), (55, .aload_n 2, 1), (56, .putfield 34, 3), (59, .aload_n 0, 1), (60, .aload_n 1, 1), (61, .getfield 37, 3), (64, .putfield 43, 3), (67, .return_, 1)]
def jq_28 : jmE := (yX1_init, cX1_init, 3, (Option.none : Option Jvm.ClassFile.FieldType), 1, true, jt_28)
set_option maxRecDepth 100000 in
def jt_29 : List (Nat × Instr × Nat) := [(0, .aload_n 0, 1), (1, .getfield 16, 3), (4, .iconst 0, 1), (5, .invokestatic 44, 3), (8, .iconst 0, 1), (9, .istore_n 1, 1), (10, .iload_n 1, 1), (11, .aload_n 0, 1), (12, .getfield 43, 3), (15, .getfield 50, 3), (18, .if_icmp .ge 54, 3), (21, .aload_n 0, 1), (22, .getfield 43, 3), (25, .getfield 56, 3), (28, .iload_n 1, 1), (29, .baload, 1), (30, .ifCond .eq 36, 3), (33, .aload_n 0, 1), (34, .iconst 3, 1), (35, .iload_n 1, 1), (36, .invokevirtual 59, 3), (39, .aload_n 0, 1), (40, .getfield 43, 3), (43, .getfield 63, 3), (46, .iload_n 1, 1), (47, .iaload, 1), (48, .iconst 3, 1), (49, .if_icmp .ge 17, 3), (52, .aload_n 0, 1), (53, .aload_n 0, 1), (54, .getfield 43, 3), (57, .getfield 63, 3), (60, .iload_n 1, 1), (61, .iaload, 1), (62, .iload_n 1, 1), (63, .invokevirtual 59, 3), (66, .iinc 1 1, 3), (69, .goto (-59), 3), (72, .return_, 1)]
def jq_29 : jmE := (yX1_listOptions, cX1_listOptions, 2, (Option.none : Option Jvm.ClassFile.FieldType), 1, false, jt_29)
set_option maxRecDepth 100000 in
def jt_30 : List (Nat × Instr × Nat) := [(0, .aload_n 0, 1), (1, .getfield 16, 3), (4, .iload_n 1, 1), (5, .iaload, 1), (6, .sipush 200, 3), (9, .if_icmp .ge 27, 3), (12, .aload_n 0, 1), (13, .getfield 11, 3), (16, .iload_n 1, 1), (17, .aaload, 1), (18, .aload_n 0, 1), (19, .getfield 16, 3), (22, .iload_n 1, 1), (23, .iaload, 1), (24, .iload_n 2, 1), (25, .iastore, 1), (26, .aload_n 0, 1), (27, .getfield 16, 3), (30, .iload_n 1, 1), (31, .dup2, 1), (32, .iaload, 1), (33, .iconst 1, 1), (34, .iadd, 1), (35, .iastore, 1), (36, .return_, 1)]
def jq_30 : jmE := (yX1_addOption, cX1_addOption, 3, (Option.none : Option Jvm.ClassFile.FieldType), 1, false, jt_30)
set_option maxRecDepth 100000 in
def jt_31 : List (Nat × Instr × Nat) := [(0, .lconst 1, 1), (1, .lstore_n 2, 1), (2, .iconst 0, 1), (3, .istore 4, 2), (5, .iload 4, 2), (7, .aload_n 1, 1), (8, .getfield 66, 3), (11, .if_icmp .ge 25, 3), (14, .lload_n 2, 1), (15, .aload_n 0, 1), (16, .getfield 16, 3), (19, .aload_n 1, 1), (20, .getfield 71, 3), (23, .iload 4, 2), (25, .iaload, 1), (26, .iaload, 1), (27, .i2l, 1), (28, .lmul, 1), (29, .lstore_n 2, 1), (30, .iinc 4 1, 3), (33, .goto (-28), 3), (36, .lload_n 2, 1), (37, .lreturn, 1)]
def jq_31 : jmE := (yX1_waysOf, cX1_waysOf, 5, (Option.some Jvm.ClassFile.FieldType.long), 1, false, jt_31)
set_option maxRecDepth 100000 in
def jt_32 : List (Nat × Instr × Nat) := [(0, .aload_n 0, 1), (1, .iload_n 2, 1), (2, .bipush 7, 2), (4, .imul, 1), (5, .iconst 1, 1), (6, .iadd, 1), (7, .putfield 74, 3), (10, .iconst 0, 1), (11, .istore_n 3, 1), (12, .iload_n 3, 1), (13, .aload_n 1, 1), (14, .getfield 66, 3), (17, .if_icmp .ge 16, 3), (20, .aload_n 0, 1), (21, .aload_n 1, 1), (22, .iload_n 3, 1), (23, .iconst 0, 1), (24, .invokevirtual 77, 3), (27, .iinc 3 1, 3), (30, .goto (-18), 3), (33, .iconst 0, 1), (34, .ireturn, 1)]
def jq_32 : jmE := (yX1_first, cX1_first, 4, (Option.some Jvm.ClassFile.FieldType.int), 1, false, jt_32)
set_option maxRecDepth 100000 in
def jt_33 : List (Nat × Instr × Nat) := [(0, .aload_n 1, 1), (1, .getfield 66, 3), (4, .iconst 1, 1), (5, .isub, 1), (6, .istore_n 2, 1), (7, .iload_n 2, 1), (8, .ifCond .lt 61, 3), (11, .aload_n 0, 1), (12, .getfield 20, 3), (15, .iload_n 2, 1), (16, .iaload, 1), (17, .iconst 1, 1), (18, .iadd, 1), (19, .aload_n 0, 1), (20, .getfield 16, 3), (23, .aload_n 1, 1), (24, .getfield 71, 3), (27, .iload_n 2, 1), (28, .iaload, 1), (29, .iaload, 1), (30, .if_icmp .ge 26, 3), (33, .aload_n 0, 1), (34, .aload_n 1, 1), (35, .iload_n 2, 1), (36, .aload_n 0, 1), (37, .getfield 20, 3), (40, .iload_n 2, 1), (41, .iaload, 1), (42, .iconst 1, 1), (43, .iadd, 1), (44, .invokevirtual 77, 3), (47, .aload_n 1, 1), (48, .getfield 81, 3), (51, .iload_n 2, 1), (52, .iconst 1, 1), (53, .iadd, 1), (54, .iaload, 1), (55, .ireturn, 1), (56, .aload_n 0, 1), (57, .aload_n 1, 1), (58, .iload_n 2, 1), (59, .iconst 0, 1), (60, .invokevirtual 77, 3), (63, .iinc 2 (-1), 3), (66, .goto (-59), 3), (69, .iconst 0, 1), (70, .ireturn, 1)]
def jq_33 : jmE := (yX1_next, cX1_next, 3, (Option.some Jvm.ClassFile.FieldType.int), 1, false, jt_33)
set_option maxRecDepth 100000 in
def jt_34 : List (Nat × Instr × Nat) := [(0, .aload_n 0, 1), (1, .getfield 20, 3), (4, .iload_n 2, 1), (5, .iload_n 3, 1), (6, .iastore, 1), (7, .aload_n 0, 1), (8, .getfield 34, 3), (11, .aload_n 0, 1), (12, .getfield 74, 3), (15, .aload_n 1, 1), (16, .getfield 84, 3), (19, .iload_n 2, 1), (20, .iaload, 1), (21, .iadd, 1), (22, .aload_n 0, 1), (23, .getfield 11, 3), (26, .aload_n 1, 1), (27, .getfield 71, 3), (30, .iload_n 2, 1), (31, .iaload, 1), (32, .aaload, 1), (33, .iload_n 3, 1), (34, .iaload, 1), (35, .iastore, 1), (36, .return_, 1)]
def jq_34 : jmE := (yX1_choose, cX1_choose, 4, (Option.none : Option Jvm.ClassFile.FieldType), 1, false, jt_34)
set_option maxRecDepth 100000 in
def jt_35 : List (Nat × Instr × Nat) := [(0, .iload_n 2, 1), (1, .istore_n 3, 1), (2, .iload_n 3, 1), (3, .aload_n 1, 1), (4, .getfield 87, 3), (7, .if_icmp .ge 72, 3), (10, .aload_n 1, 1), (11, .getfield 90, 3), (14, .iload_n 3, 1), (15, .iaload, 1), (16, .istore 4, 2), (18, .aload_n 0, 1), (19, .getfield 23, 3), (22, .iload 4, 2), (24, .aload_n 0, 1), (25, .iload 4, 2), (27, .invokevirtual 93, 3), (30, .iastore, 1), (31, .aload_n 0, 1), (32, .getfield 26, 3), (35, .iload 4, 2), (37, .aload_n 0, 1), (38, .getfield 23, 3), (41, .iload 4, 2), (43, .iaload, 1), (44, .iconst (-1), 1), (45, .if_icmp .eq 21, 3), (48, .aload_n 0, 1), (49, .getfield 30, 3), (52, .aload_n 0, 1), (53, .getfield 23, 3), (56, .iload 4, 2), (58, .iaload, 1), (59, .iconst 0, 1), (60, .invokevirtual 97, 3), (63, .goto 9, 3), (66, .aload_n 0, 1), (67, .iload 4, 2), (69, .invokevirtual 101, 3), (72, .bastore, 1), (73, .iinc 3 1, 3), (76, .goto (-74), 3), (79, .aload_n 0, 1), (80, .getfield 26, 3), (83, .aload_n 1, 1), (84, .getfield 105, 3), (87, .baload, 1), (88, .ireturn, 1)]
def jq_35 : jmE := (yX1_weigh, cX1_weigh, 5, (Option.some Jvm.ClassFile.FieldType.boolean), 1, false, jt_35)
set_option maxRecDepth 100000 in
def jt_36_0 : List (Nat × Instr × Nat) := [(0, .aload_n 0, 1), (1, .getfield 43, 3), (4, .getfield 56, 3), (7, .iload_n 1, 1), (8, .baload, 1), (9, .ifCond .eq 5, 3), (12, .iload_n 1, 1), (13, .ireturn, 1), (14, .aload_n 0, 1), (15, .getfield 43, 3), (18, .getfield 63, 3), (21, .iload_n 1, 1), (22, .iaload, 1), (23, .iconst 3, 1), (24, .if_icmp .ne 23, 3), (27, .aload_n 0, 1), (28, .getfield 34, 3), (31, .aload_n 0, 1), (32, .getfield 74, 3), (35, .aload_n 0, 1), (36, .getfield 43, 3), (39, .getfield 108, 3), (42, .iload_n 1, 1), (43, .iaload, 1), (44, .iadd, 1), (45, .iaload, 1), (46, .ireturn, 1), (47, .aload_n 0, 1), (48, .getfield 23, 3), (51, .aload_n 0, 1), (52, .getfield 43, 3), (55, .getfield 111, 3), (58, .iload_n 1, 1), (59, .iaload, 1), (60, .iaload, 1), (61, .istore_n 2, 1), (62, .aload_n 0, 1), (63, .getfield 43, 3), (66, .getfield 114, 3), (69, .iload_n 1, 1)]
def jt_36_1 : List (Nat × Instr × Nat) := [(70, .iaload, 1), (71, .istore_n 3, 1), (72, .iload_n 3, 1), (73, .iconst (-1), 1), (74, .if_icmp .ne 7, 3), (77, .iconst (-1), 1), (78, .goto 9, 3), (81, .aload_n 0, 1), (82, .getfield 23, 3), (85, .iload_n 3, 1), (86, .iaload, 1), (87, .istore 4, 2), (89, .iload_n 2, 1), (90, .iconst (-1), 1), (91, .if_icmp .eq 18, 3), (94, .iload 4, 2), (96, .iconst (-1), 1), (97, .if_icmp .ne 8, 3), (100, .iload_n 3, 1), (101, .iconst (-1), 1), (102, .if_icmp .ne 7, 3), (105, .iconst 1, 1), (106, .goto 4, 3), (109, .iconst 0, 1), (110, .istore 5, 2), (112, .iload 5, 2), (114, .ifCond .eq 25, 3), (117, .aload_n 0, 1), (118, .getfield 30, 3), (121, .aload_n 0, 1), (122, .getfield 43, 3), (125, .getfield 63, 3), (128, .iload_n 1, 1), (129, .iaload, 1), (130, .iload_n 2, 1), (131, .iload 4, 2), (133, .invokevirtual 117, 3), (136, .goto 4, 3), (139, .iconst (-1), 1), (140, .ireturn, 1)]
def jt_36 : List (Nat × Instr × Nat) := jt_36_0 ++ (jt_36_1)
def jq_36 : jmE := (yX1_valueOf, cX1_valueOf, 6, (Option.some Jvm.ClassFile.FieldType.int), 1, false, jt_36)
set_option maxRecDepth 100000 in
def jt_37_0 : List (Nat × Instr × Nat) := [(0, .aload_n 0, 1), (1, .getfield 43, 3), (4, .getfield 111, 3), (7, .iload_n 1, 1), (8, .iaload, 1), (9, .istore_n 2, 1), (10, .aload_n 0, 1), (11, .getfield 43, 3), (14, .getfield 114, 3), (17, .iload_n 1, 1), (18, .iaload, 1), (19, .istore_n 3, 1), (20, .aload_n 0, 1), (21, .getfield 43, 3), (24, .getfield 63, 3), (27, .iload_n 1, 1), (28, .iaload, 1), (29, .tableswitch 115 4 9 #[39, 39, 63, 70, 84, 63], 39), (68, .aload_n 0, 1), (69, .getfield 26, 3), (72, .iload_n 2, 1), (73, .baload, 1), (74, .ifCond .eq 16, 3), (77, .aload_n 0, 1), (78, .getfield 26, 3), (81, .iload_n 3, 1), (82, .baload, 1), (83, .ifCond .eq 7, 3), (86, .iconst 1, 1), (87, .goto 4, 3), (90, .iconst 0, 1), (91, .ireturn, 1), (92, .aload_n 0, 1), (93, .getfield 26, 3), (96, .iload_n 2, 1), (97, .baload, 1), (98, .ireturn, 1), (99, .aload_n 0, 1), (100, .getfield 30, 3), (103, .aload_n 0, 1)]
def jt_37_1 : List (Nat × Instr × Nat) := [(104, .getfield 23, 3), (107, .iload_n 2, 1), (108, .iaload, 1), (109, .invokevirtual 121, 3), (112, .ireturn, 1), (113, .aload_n 0, 1), (114, .getfield 26, 3), (117, .iload_n 2, 1), (118, .baload, 1), (119, .ifCond .eq 23, 3), (122, .aload_n 0, 1), (123, .getfield 30, 3), (126, .aload_n 0, 1), (127, .getfield 23, 3), (130, .iload_n 3, 1), (131, .iaload, 1), (132, .invokevirtual 121, 3), (135, .ifCond .eq 7, 3), (138, .iconst 1, 1), (139, .goto 4, 3), (142, .iconst 0, 1), (143, .ireturn, 1), (144, .iconst 0, 1), (145, .ireturn, 1)]
def jt_37 : List (Nat × Instr × Nat) := jt_37_0 ++ (jt_37_1)
def jq_37 : jmE := (yX1_canCompose, cX1_canCompose, 4, (Option.some Jvm.ClassFile.FieldType.boolean), 1, false, jt_37)
set_option maxRecDepth 100000 in
def jt_38 : List (Nat × Instr × Nat) := [(0, .aload_n 0, 1), (1, .invokespecial 3, 3), (4, .aload_n 0, 1), (5, .iconst 4, 1), (6, .newarray .int, 2), (8, .putfield 9, 3), (11, .aload_n 0, 1), (12, .iconst 4, 1), (13, .newarray .int, 2), (15, .putfield 15, 3), (18, .return_, 1)]
def jq_38 : jmE := (yX2_init, cX2_init, 1, (Option.none : Option Jvm.ClassFile.FieldType), 2, true, jt_38)
set_option maxRecDepth 100000 in
def jt_39 : List (Nat × Instr × Nat) := [(0, .aload_n 0, 1), (1, .getfield 18, 3), (4, .iconst 4, 1), (5, .if_icmp .ge 33, 3), (8, .aload_n 0, 1), (9, .getfield 9, 3), (12, .aload_n 0, 1), (13, .getfield 18, 3), (16, .iload_n 1, 1), (17, .iastore, 1), (18, .aload_n 0, 1), (19, .getfield 15, 3), (22, .aload_n 0, 1), (23, .getfield 18, 3), (26, .iload_n 2, 1), (27, .iastore, 1), (28, .aload_n 0, 1), (29, .dup, 1), (30, .getfield 18, 3), (33, .iconst 1, 1), (34, .iadd, 1), (35, .putfield 18, 3), (38, .aload_n 0, 1), (39, .getfield 18, 3), (42, .ireturn, 1)]
def jq_39 : jmE := (yX2_tie, cX2_tie, 3, (Option.some Jvm.ClassFile.FieldType.int), 2, false, jt_39)
set_option maxRecDepth 100000 in
def jt_40 : List (Nat × Instr × Nat) := [(0, .aload_n 0, 1), (1, .invokespecial 3, 3), (4, .aload_n 0, 1), (5, .bipush 6, 2), (7, .newarray .int, 2), (9, .putfield 9, 3), (12, .aload_n 0, 1), (13, .bipush 6, 2), (15, .newarray .int, 2), (17, .putfield 15, 3), (20, .aload_n 0, 1), (21, .bipush 24, 2), (23, .newarray .int, 2), (25, .putfield 18, 3), (28, .aload_n 0, 1), (29, .bipush 7, 2), (31, .newarray .int, 2), (33, .putfield 21, 3), (36, .return_, 1)]
def jq_40 : jmE := (yX3_init, cX3_init, 1, (Option.none : Option Jvm.ClassFile.FieldType), 3, true, jt_40)
set_option maxRecDepth 100000 in
def jt_41_0 : List (Nat × Instr × Nat) := [(0, .aload_n 0, 1), (1, .aload_n 1, 1), (2, .aload_n 2, 1), (3, .invokevirtual 24, 3), (6, .iconst 0, 1), (7, .istore_n 3, 1), (8, .iload_n 3, 1), (9, .aload_n 0, 1), (10, .getfield 28, 3), (13, .if_icmp .gt 34, 3), (16, .iload_n 3, 1), (17, .aload_n 1, 1), (18, .getfield 32, 3), (21, .if_icmp .ge 26, 3), (24, .aload_n 2, 1), (25, .iload_n 3, 1), (26, .iaload, 1), (27, .iconst (-1), 1), (28, .if_icmp .eq 13, 3), (31, .aload_n 2, 1), (32, .iload_n 3, 1), (33, .aload_n 0, 1), (34, .aload_n 1, 1), (35, .aload_n 2, 1), (36, .iload_n 3, 1), (37, .invokevirtual 37, 3), (40, .iastore, 1), (41, .iinc 3 1, 3), (44, .goto (-36), 3), (47, .aload_n 0, 1), (48, .iconst 0, 1), (49, .putfield 41, 3), (52, .iconst 0, 1), (53, .istore_n 3, 1), (54, .iload_n 3, 1), (55, .aload_n 0, 1), (56, .getfield 44, 3), (59, .if_icmp .gt 84, 3), (62, .aload_n 0, 1), (63, .getfield 21, 3)]
def jt_41_1 : List (Nat × Instr × Nat) := [(66, .iload_n 3, 1), (67, .aload_n 0, 1), (68, .getfield 41, 3), (71, .iastore, 1), (72, .iconst 0, 1), (73, .istore 4, 2), (75, .iload 4, 2), (77, .aload_n 0, 1), (78, .getfield 28, 3), (81, .if_icmp .gt 56, 3), (84, .iload 4, 2), (86, .aload_n 1, 1), (87, .getfield 32, 3), (90, .if_icmp .ge 47, 3), (93, .aload_n 0, 1), (94, .getfield 41, 3), (97, .bipush 24, 2), (99, .if_icmp .ge 38, 3), (102, .aload_n 2, 1), (103, .iload 4, 2), (105, .iaload, 1), (106, .iload_n 3, 1), (107, .if_icmp .ne 24, 3), (110, .aload_n 0, 1), (111, .getfield 18, 3), (114, .aload_n 0, 1), (115, .getfield 41, 3), (118, .iload 4, 2), (120, .iastore, 1), (121, .aload_n 0, 1), (122, .dup, 1), (123, .getfield 41, 3), (126, .iconst 1, 1), (127, .iadd, 1), (128, .putfield 41, 3), (131, .iinc 4 1, 3), (134, .goto (-59), 3), (137, .iinc 3 1, 3), (140, .goto (-86), 3), (143, .return_, 1)]
def jt_41 : List (Nat × Instr × Nat) := jt_41_0 ++ (jt_41_1)
def jq_41 : jmE := (yX3_plan, cX3_plan, 5, (Option.none : Option Jvm.ClassFile.FieldType), 3, false, jt_41)
set_option maxRecDepth 100000 in
def jt_42 : List (Nat × Instr × Nat) := [(0, .aload_n 2, 1), (1, .iconst (-1), 1), (2, .invokestatic 47, 3), (5, .aload_n 0, 1), (6, .getfield 28, 3), (9, .aload_n 1, 1), (10, .getfield 32, 3), (13, .iconst 1, 1), (14, .isub, 1), (15, .invokestatic 53, 3), (18, .istore_n 3, 1), (19, .iload_n 3, 1), (20, .ifCond .lt 70, 3), (23, .iload_n 3, 1), (24, .aload_n 0, 1), (25, .getfield 28, 3), (28, .if_icmp .ne 7, 3), (31, .aload_n 2, 1), (32, .iload_n 3, 1), (33, .iconst 0, 1), (34, .iastore, 1), (35, .aload_n 2, 1), (36, .iload_n 3, 1), (37, .iaload, 1), (38, .iconst (-1), 1), (39, .if_icmp .eq 45, 3), (42, .aload_n 1, 1), (43, .iload_n 3, 1), (44, .invokevirtual 59, 3), (47, .ifCond .ne 6, 3), (50, .goto 34, 3), (53, .aload_n 2, 1), (54, .aload_n 1, 1), (55, .getfield 63, 3), (58, .iload_n 3, 1), (59, .iaload, 1), (60, .iconst 0, 1), (61, .iastore, 1), (62, .aload_n 1, 1), (63, .aload_n 1, 1), (64, .getfield 66, 3), (67, .iload_n 3, 1), (68, .iaload, 1), (69, .invokevirtual 69, 3), (72, .ifCond .eq 12, 3), (75, .aload_n 2, 1), (76, .aload_n 1, 1), (77, .getfield 66, 3), (80, .iload_n 3, 1), (81, .iaload, 1), (82, .iconst 0, 1), (83, .iastore, 1), (84, .iinc 3 (-1), 3), (87, .goto (-68), 3), (90, .return_, 1)]
def jq_42 : jmE := (yX3_markParts, cX3_markParts, 4, (Option.none : Option Jvm.ClassFile.FieldType), 3, false, jt_42)
set_option maxRecDepth 100000 in
def jt_43 : List (Nat × Instr × Nat) := [(0, .aload_n 1, 1), (1, .iload_n 3, 1), (2, .invokevirtual 59, 3), (5, .ifCond .eq 40, 3), (8, .aload_n 1, 1), (9, .getfield 66, 3), (12, .iload_n 3, 1), (13, .iaload, 1), (14, .istore 4, 2), (16, .aload_n 2, 1), (17, .aload_n 1, 1), (18, .getfield 63, 3), (21, .iload_n 3, 1), (22, .iaload, 1), (23, .iaload, 1), (24, .aload_n 1, 1), (25, .iload 4, 2), (27, .invokevirtual 69, 3), (30, .ifCond .eq 10, 3), (33, .aload_n 2, 1), (34, .iload 4, 2), (36, .iaload, 1), (37, .goto 4, 3), (40, .iconst 0, 1), (41, .invokestatic 72, 3), (44, .ireturn, 1), (45, .iconst 0, 1), (46, .istore 4, 2), (48, .iload 4, 2), (50, .aload_n 0, 1), (51, .getfield 44, 3), (54, .if_icmp .ge 40, 3), (57, .aload_n 1, 1), (58, .getfield 75, 3), (61, .iload_n 3, 1), (62, .iaload, 1), (63, .iconst 3, 1), (64, .if_icmp .ne 24, 3), (67, .aload_n 0, 1), (68, .getfield 9, 3), (71, .iload 4, 2), (73, .iaload, 1), (74, .aload_n 1, 1), (75, .getfield 78, 3), (78, .iload_n 3, 1), (79, .iaload, 1), (80, .if_icmp .ne 8, 3), (83, .iload 4, 2), (85, .iconst 1, 1), (86, .iadd, 1), (87, .ireturn, 1), (88, .iinc 4 1, 3), (91, .goto (-43), 3), (94, .iconst 0, 1), (95, .ireturn, 1)]
def jq_43 : jmE := (yX3_levelOf, cX3_levelOf, 5, (Option.some Jvm.ClassFile.FieldType.int), 3, false, jt_43)
set_option maxRecDepth 100000 in
def jt_44 : List (Nat × Instr × Nat) := [(0, .aload_n 0, 1), (1, .invokespecial 3, 3), (4, .aload_n 0, 1), (5, .sipush 256, 3), (8, .newarray .int, 2), (10, .putfield 9, 3), (13, .aload_n 0, 1), (14, .sipush 776, 3), (17, .newarray .int, 2), (19, .putfield 15, 3), (22, .aload_n 0, 1), (23, .sipush 776, 3), (26, .newarray .int, 2), (28, .putfield 18, 3), (31, .aload_n 0, 1), (32, .sipush 776, 3), (35, .newarray .int, 2), (37, .putfield 21, 3), (40, .aload_n 0, 1), (41, .sipush 1928, 3), (44, .newarray .int, 2), (46, .putfield 24, 3), (49, .aload_n 0, 1), (50, .sipush 1928, 3), (53, .newarray .int, 2), (55, .putfield 27, 3), (58, .aload_n 0, 1), (59, .sipush 200, 3), (62, .newarray .int, 2), (64, .putfield 30, 3), (67, .aload_n 0, 1), (68, .sipush 576, 3), (71, .newarray .int, 2), (73, .putfield 33, 3), (76, .aload_n 0, 1), (77, .aload_n 1, 1), (78, .putfield 36, 3), (81, .aload_n 0, 1), (82, .sipush 200, 3), (85, .iload_n 2, 1), (86, .sipush 576, 3), (89, .imul, 1), (90, .iadd, 1), (91, .putfield 40, 3), (94, .aload_n 0, 1), (95, .getfield 9, 3), (98, .iconst (-1), 1), (99, .invokestatic 44, 3), (102, .return_, 1)]
def jq_44 : jmE := (yX4_init, cX4_init, 3, (Option.none : Option Jvm.ClassFile.FieldType), 4, true, jt_44)
set_option maxRecDepth 100000 in
def jt_45 : List (Nat × Instr × Nat) := [(0, .aload_n 0, 1), (1, .getfield 40, 3), (4, .istore_n 1, 1), (5, .iload_n 1, 1), (6, .aload_n 0, 1), (7, .getfield 40, 3), (10, .aload_n 0, 1), (11, .getfield 50, 3), (14, .iadd, 1), (15, .if_icmp .ge 45, 3), (18, .aload_n 0, 1), (19, .getfield 9, 3), (22, .aload_n 0, 1), (23, .getfield 36, 3), (26, .getfield 53, 3), (29, .iload_n 1, 1), (30, .iaload, 1), (31, .aload_n 0, 1), (32, .getfield 36, 3), (35, .getfield 58, 3), (38, .iload_n 1, 1), (39, .iaload, 1), (40, .aload_n 0, 1), (41, .getfield 36, 3), (44, .getfield 61, 3), (47, .iload_n 1, 1), (48, .iaload, 1), (49, .invokestatic 64, 3), (52, .iconst (-1), 1), (53, .iastore, 1), (54, .iinc 1 1, 3), (57, .goto (-52), 3), (60, .aload_n 0, 1), (61, .iconst 0, 1), (62, .putfield 50, 3), (65, .aload_n 0, 1), (66, .iconst 0, 1), (67, .putfield 68, 3), (70, .aload_n 0, 1), (71, .dup, 1), (72, .getfield 71, 3), (75, .iconst 1, 1), (76, .iadd, 1), (77, .putfield 71, 3), (80, .aload_n 0, 1), (81, .iconst 0, 1), (82, .putfield 74, 3), (85, .return_, 1)]
def jq_45 : jmE := (yX4_start, cX4_start, 2, (Option.none : Option Jvm.ClassFile.FieldType), 4, false, jt_45)
set_option maxRecDepth 100000 in
def jt_46 : List (Nat × Instr × Nat) := [(0, .iload_n 1, 1), (1, .aload_n 0, 1), (2, .getfield 40, 3), (5, .if_icmp .lt 20, 3), (8, .iload_n 1, 1), (9, .aload_n 0, 1), (10, .getfield 40, 3), (13, .aload_n 0, 1), (14, .getfield 50, 3), (17, .iadd, 1), (18, .if_icmp .ge 7, 3), (21, .iconst 1, 1), (22, .goto 4, 3), (25, .iconst 0, 1), (26, .ireturn, 1)]
def jq_46 : jmE := (yX4_isUnnumbered, cX4_isUnnumbered, 2, (Option.some Jvm.ClassFile.FieldType.boolean), 4, false, jt_46)
set_option maxRecDepth 100000 in
def jt_47 : List (Nat × Instr × Nat) := [(0, .iload_n 1, 1), (1, .ifCond .lt 14, 3), (4, .iload_n 1, 1), (5, .aload_n 0, 1), (6, .getfield 36, 3), (9, .getfield 78, 3), (12, .if_icmp .lt 24, 3), (15, .iload_n 1, 1), (16, .aload_n 0, 1), (17, .getfield 40, 3), (20, .if_icmp .lt 20, 3), (23, .iload_n 1, 1), (24, .aload_n 0, 1), (25, .getfield 40, 3), (28, .aload_n 0, 1), (29, .getfield 50, 3), (32, .iadd, 1), (33, .if_icmp .ge 7, 3), (36, .iconst 1, 1), (37, .goto 4, 3), (40, .iconst 0, 1), (41, .ireturn, 1)]
def jq_47 : jmE := (yX4_has, cX4_has, 2, (Option.some Jvm.ClassFile.FieldType.boolean), 4, false, jt_47)
set_option maxRecDepth 100000 in
def jt_48 : List (Nat × Instr × Nat) := [(0, .iload_n 1, 1), (1, .iload_n 2, 1), (2, .iload_n 3, 1), (3, .invokestatic 64, 3), (6, .istore 4, 2), (8, .aload_n 0, 1), (9, .getfield 36, 3), (12, .aload_n 0, 1), (13, .getfield 36, 3), (16, .getfield 81, 3), (19, .iload 4, 2), (21, .iaload, 1), (22, .iload_n 1, 1), (23, .iload_n 2, 1), (24, .iload_n 3, 1), (25, .invokevirtual 82, 3), (28, .istore 5, 2), (30, .iload 5, 2), (32, .iconst (-1), 1), (33, .if_icmp .eq 8, 3), (36, .iload 5, 2), (38, .goto 20, 3), (41, .aload_n 0, 1), (42, .getfield 36, 3), (45, .aload_n 0, 1), (46, .getfield 9, 3), (49, .iload 4, 2), (51, .iaload, 1), (52, .iload_n 1, 1), (53, .iload_n 2, 1), (54, .iload_n 3, 1), (55, .invokevirtual 82, 3), (58, .ireturn, 1)]
def jq_48 : jmE := (yX4_find, cX4_find, 6, (Option.some Jvm.ClassFile.FieldType.int), 4, false, jt_48)
set_option maxRecDepth 100000 in
def jt_49_0 : List (Nat × Instr × Nat) := [(0, .aload_n 0, 1), (1, .iload_n 1, 1), (2, .iload_n 2, 1), (3, .iload_n 3, 1), (4, .invokevirtual 86, 3), (7, .istore 4, 2), (9, .iload 4, 2), (11, .iconst (-1), 1), (12, .if_icmp .ne 21, 3), (15, .aload_n 0, 1), (16, .getfield 50, 3), (19, .sipush 576, 3), (22, .if_icmp .ge 11, 3), (25, .aload_n 0, 1), (26, .iload_n 2, 1), (27, .invokevirtual 89, 3), (30, .ifCond .ne 6, 3), (33, .iload 4, 2), (35, .ireturn, 1), (36, .aload_n 0, 1), (37, .getfield 40, 3), (40, .aload_n 0, 1), (41, .getfield 50, 3), (44, .iadd, 1), (45, .istore 5, 2), (47, .iload_n 1, 1), (48, .iload_n 2, 1), (49, .iload_n 3, 1), (50, .invokestatic 64, 3), (53, .istore 6, 2), (55, .aload_n 0, 1), (56, .getfield 36, 3), (59, .getfield 53, 3), (62, .iload 5, 2), (64, .iload_n 1, 1), (65, .iastore, 1), (66, .aload_n 0, 1), (67, .getfield 36, 3), (70, .getfield 58, 3), (73, .iload 5, 2)]
def jt_49_1 : List (Nat × Instr × Nat) := [(75, .iload_n 2, 1), (76, .iastore, 1), (77, .aload_n 0, 1), (78, .getfield 36, 3), (81, .getfield 61, 3), (84, .iload 5, 2), (86, .iload_n 3, 1), (87, .iastore, 1), (88, .aload_n 0, 1), (89, .getfield 36, 3), (92, .getfield 93, 3), (95, .iload 5, 2), (97, .iconst 1, 1), (98, .aload_n 0, 1), (99, .getfield 36, 3), (102, .getfield 93, 3), (105, .iload_n 2, 1), (106, .iaload, 1), (107, .iadd, 1), (108, .aload_n 0, 1), (109, .iload_n 3, 1), (110, .invokevirtual 89, 3), (113, .ifCond .eq 15, 3), (116, .aload_n 0, 1), (117, .getfield 36, 3), (120, .getfield 93, 3), (123, .iload_n 3, 1), (124, .iaload, 1), (125, .goto 4, 3), (128, .iconst 0, 1), (129, .iadd, 1), (130, .iastore, 1), (131, .aload_n 0, 1), (132, .getfield 36, 3), (135, .getfield 96, 3), (138, .iload 5, 2), (140, .aload_n 0, 1), (141, .getfield 9, 3), (144, .iload 6, 2), (146, .iaload, 1)]
def jt_49_2 : List (Nat × Instr × Nat) := [(147, .iastore, 1), (148, .aload_n 0, 1), (149, .getfield 9, 3), (152, .iload 6, 2), (154, .iload 5, 2), (156, .iastore, 1), (157, .aload_n 0, 1), (158, .dup, 1), (159, .getfield 50, 3), (162, .iconst 1, 1), (163, .iadd, 1), (164, .putfield 50, 3), (167, .iload 5, 2), (169, .ireturn, 1)]
def jt_49 : List (Nat × Instr × Nat) := jt_49_0 ++ (jt_49_1 ++ (jt_49_2))
def jq_49 : jmE := (yX4_findOrPut, cX4_findOrPut, 7, (Option.some Jvm.ClassFile.FieldType.int), 4, false, jt_49)
set_option maxRecDepth 100000 in
def jt_50_0 : List (Nat × Instr × Nat) := [(0, .aload_n 0, 1), (1, .getfield 36, 3), (4, .iload_n 1, 1), (5, .invokevirtual 99, 3), (8, .ifCond .eq 10, 3), (11, .iload 4, 2), (13, .bipush 48, 2), (15, .if_icmp .le 5, 3), (18, .iconst (-1), 1), (19, .ireturn, 1), (20, .aload_n 0, 1), (21, .getfield 36, 3), (24, .getfield 100, 3), (27, .iload_n 1, 1), (28, .baload, 1), (29, .ifCond .eq 5, 3), (32, .iload_n 1, 1), (33, .ireturn, 1), (34, .aload_n 0, 1), (35, .getfield 36, 3), (38, .getfield 53, 3), (41, .iload_n 1, 1), (42, .iaload, 1), (43, .iconst 3, 1), (44, .if_icmp .ne 17, 3), (47, .aload_n 2, 1), (48, .iload_n 3, 1), (49, .aload_n 0, 1), (50, .getfield 36, 3), (53, .getfield 104, 3), (56, .iload_n 1, 1), (57, .iaload, 1), (58, .iadd, 1), (59, .iaload, 1), (60, .ireturn, 1), (61, .aload_n 0, 1), (62, .aload_n 0, 1), (63, .getfield 36, 3), (66, .getfield 58, 3), (69, .iload_n 1, 1)]
def jt_50_1 : List (Nat × Instr × Nat) := [(70, .iaload, 1), (71, .aload_n 2, 1), (72, .iload_n 3, 1), (73, .iload 4, 2), (75, .iconst 1, 1), (76, .iadd, 1), (77, .invokevirtual 107, 3), (80, .istore 5, 2), (82, .aload_n 0, 1), (83, .aload_n 0, 1), (84, .getfield 36, 3), (87, .getfield 61, 3), (90, .iload_n 1, 1), (91, .iaload, 1), (92, .aload_n 2, 1), (93, .iload_n 3, 1), (94, .iload 4, 2), (96, .iconst 1, 1), (97, .iadd, 1), (98, .invokevirtual 107, 3), (101, .istore 6, 2), (103, .aload_n 0, 1), (104, .aload_n 0, 1), (105, .getfield 36, 3), (108, .getfield 53, 3), (111, .iload_n 1, 1), (112, .iaload, 1), (113, .iload 5, 2), (115, .iload 6, 2), (117, .invokevirtual 111, 3), (120, .ireturn, 1)]
def jt_50 : List (Nat × Instr × Nat) := jt_50_0 ++ (jt_50_1)
def jq_50 : jmE := (yX4_groundOf, cX4_groundOf, 7, (Option.some Jvm.ClassFile.FieldType.int), 4, false, jt_50)
set_option maxRecDepth 100000 in
def jt_51_0 : List (Nat × Instr × Nat) := [(0, .aload_n 0, 1), (1, .iload_n 1, 1), (2, .invokevirtual 89, 3), (5, .ifCond .eq 26, 3), (8, .aload_n 0, 1), (9, .getfield 24, 3), (12, .iload_n 1, 1), (13, .iaload, 1), (14, .aload_n 0, 1), (15, .getfield 71, 3), (18, .if_icmp .eq 13, 3), (21, .aload_n 0, 1), (22, .getfield 68, 3), (25, .sipush 776, 3), (28, .if_icmp .lt 5, 3), (31, .iconst 0, 1), (32, .ireturn, 1), (33, .aload_n 0, 1), (34, .getfield 24, 3), (37, .iload_n 1, 1), (38, .aload_n 0, 1), (39, .getfield 71, 3), (42, .iastore, 1), (43, .aload_n 0, 1), (44, .getfield 27, 3), (47, .iload_n 1, 1), (48, .aload_n 0, 1), (49, .getfield 71, 3), (52, .iastore, 1), (53, .aload_n 0, 1), (54, .getfield 36, 3), (57, .getfield 53, 3), (60, .iload_n 1, 1), (61, .iaload, 1), (62, .bipush 7, 2), (64, .if_icmp .ne 40, 3), (67, .aload_n 0, 1), (68, .getfield 36, 3), (71, .aload_n 0, 1), (72, .getfield 36, 3)]
def jt_51_1 : List (Nat × Instr × Nat) := [(75, .getfield 58, 3), (78, .iload_n 1, 1), (79, .iaload, 1), (80, .invokevirtual 99, 3), (83, .ifCond .eq 21, 3), (86, .aload_n 0, 1), (87, .getfield 30, 3), (90, .aload_n 0, 1), (91, .getfield 36, 3), (94, .getfield 58, 3), (97, .iload_n 1, 1), (98, .iaload, 1), (99, .aload_n 0, 1), (100, .getfield 71, 3), (103, .iastore, 1), (104, .aload_n 0, 1), (105, .getfield 15, 3), (108, .aload_n 0, 1), (109, .getfield 68, 3), (112, .iload_n 1, 1), (113, .iastore, 1), (114, .aload_n 0, 1), (115, .getfield 18, 3), (118, .aload_n 0, 1), (119, .getfield 68, 3), (122, .iload_n 2, 1), (123, .iastore, 1), (124, .aload_n 0, 1), (125, .getfield 21, 3), (128, .aload_n 0, 1), (129, .getfield 68, 3), (132, .iload_n 3, 1), (133, .iastore, 1), (134, .aload_n 0, 1), (135, .dup, 1), (136, .getfield 68, 3), (139, .iconst 1, 1), (140, .iadd, 1), (141, .putfield 68, 3), (144, .iconst 1, 1)]
def jt_51_2 : List (Nat × Instr × Nat) := [(145, .ireturn, 1)]
def jt_51 : List (Nat × Instr × Nat) := jt_51_0 ++ (jt_51_1 ++ (jt_51_2))
def jq_51 : jmE := (yX4_add, cX4_add, 4, (Option.some Jvm.ClassFile.FieldType.boolean), 4, false, jt_51)
set_option maxRecDepth 100000 in
def jt_52 : List (Nat × Instr × Nat) := [(0, .iconst 1, 1), (1, .istore_n 1, 1), (2, .iconst 0, 1), (3, .istore_n 2, 1), (4, .iload_n 2, 1), (5, .sipush 776, 3), (8, .if_icmp .gt 56, 3), (11, .iload_n 1, 1), (12, .ifCond .eq 52, 3), (15, .iconst 0, 1), (16, .istore_n 1, 1), (17, .iconst 0, 1), (18, .istore_n 3, 1), (19, .iload_n 3, 1), (20, .aload_n 0, 1), (21, .getfield 68, 3), (24, .if_icmp .ge 34, 3), (27, .iload_n 3, 1), (28, .sipush 776, 3), (31, .if_icmp .ge 27, 3), (34, .aload_n 0, 1), (35, .iload_n 3, 1), (36, .invokevirtual 114, 3), (39, .ifCond .ne 7, 3), (42, .iload_n 1, 1), (43, .ifCond .eq 7, 3), (46, .iconst 1, 1), (47, .goto 4, 3), (50, .iconst 0, 1), (51, .istore_n 1, 1), (52, .iinc 3 1, 3), (55, .goto (-36), 3), (58, .iinc 2 1, 3), (61, .goto (-57), 3), (64, .aload_n 0, 1), (65, .iconst 1, 1), (66, .putfield 74, 3), (69, .return_, 1)]
def jq_52 : jmE := (yX4_takeApart, cX4_takeApart, 4, (Option.none : Option Jvm.ClassFile.FieldType), 4, false, jt_52)
set_option maxRecDepth 100000 in
def jt_53_0 : List (Nat × Instr × Nat) := [(0, .aload_n 0, 1), (1, .getfield 15, 3), (4, .iload_n 1, 1), (5, .iaload, 1), (6, .istore_n 2, 1), (7, .aload_n 0, 1), (8, .getfield 36, 3), (11, .getfield 58, 3), (14, .iload_n 2, 1), (15, .iaload, 1), (16, .istore_n 3, 1), (17, .aload_n 0, 1), (18, .getfield 36, 3), (21, .getfield 61, 3), (24, .iload_n 2, 1), (25, .iaload, 1), (26, .istore 4, 2), (28, .iconst 0, 1), (29, .istore 5, 2), (31, .aload_n 0, 1), (32, .getfield 36, 3), (35, .getfield 53, 3), (38, .iload_n 2, 1), (39, .iaload, 1), (40, .tableswitch 127 4 8 #[36, 67, 93, 127, 118], 36), (76, .aload_n 0, 1), (77, .iload_n 3, 1), (78, .iconst 2, 1), (79, .iload_n 1, 1), (80, .invokevirtual 117, 3), (83, .istore 5, 2), (85, .aload_n 0, 1), (86, .iload 4, 2), (88, .iconst 3, 1), (89, .iload_n 1, 1), (90, .invokevirtual 117, 3), (93, .ifCond .ne 8, 3), (96, .iload 5, 2), (98, .ifCond .eq 7, 3), (101, .iconst 1, 1)]
def jt_53_1 : List (Nat × Instr × Nat) := [(102, .goto 4, 3), (105, .iconst 0, 1), (106, .ireturn, 1), (107, .aload_n 0, 1), (108, .iload 4, 2), (110, .iconst 0, 1), (111, .invokevirtual 121, 3), (114, .ifCond .eq 17, 3), (117, .aload_n 0, 1), (118, .iload_n 3, 1), (119, .iconst 4, 1), (120, .iload_n 1, 1), (121, .invokevirtual 117, 3), (124, .ifCond .eq 7, 3), (127, .iconst 1, 1), (128, .goto 4, 3), (131, .iconst 0, 1), (132, .ireturn, 1), (133, .aload_n 0, 1), (134, .iload 4, 2), (136, .invokevirtual 125, 3), (139, .ifCond .eq 17, 3), (142, .aload_n 0, 1), (143, .iload_n 3, 1), (144, .iconst 5, 1), (145, .iload_n 1, 1), (146, .invokevirtual 117, 3), (149, .ifCond .eq 7, 3), (152, .iconst 1, 1), (153, .goto 4, 3), (156, .iconst 0, 1), (157, .ireturn, 1), (158, .aload_n 0, 1), (159, .iload_n 3, 1), (160, .bipush 6, 2), (162, .iload_n 1, 1), (163, .invokevirtual 117, 3), (166, .ireturn, 1), (167, .iload 5, 2), (169, .ireturn, 1)]
def jt_53 : List (Nat × Instr × Nat) := jt_53_0 ++ (jt_53_1)
def jq_53 : jmE := (yX4_takeApartAt, cX4_takeApartAt, 6, (Option.some Jvm.ClassFile.FieldType.boolean), 4, false, jt_53)
set_option maxRecDepth 100000 in
def jt_54 : List (Nat × Instr × Nat) := [(0, .iload_n 1, 1), (1, .ifCond .lt 43, 3), (4, .iload_n 1, 1), (5, .aload_n 0, 1), (6, .getfield 36, 3), (9, .getfield 78, 3), (12, .if_icmp .ge 32, 3), (15, .aload_n 0, 1), (16, .getfield 36, 3), (19, .getfield 128, 3), (22, .iload_n 1, 1), (23, .baload, 1), (24, .ifCond .eq 16, 3), (27, .aload_n 0, 1), (28, .getfield 30, 3), (31, .iload_n 1, 1), (32, .iaload, 1), (33, .aload_n 0, 1), (34, .getfield 71, 3), (37, .if_icmp .ne 7, 3), (40, .iconst 1, 1), (41, .goto 4, 3), (44, .iconst 0, 1), (45, .ireturn, 1)]
def jq_54 : jmE := (yX4_hasPrivateOf, cX4_hasPrivateOf, 2, (Option.some Jvm.ClassFile.FieldType.boolean), 4, false, jt_54)
set_option maxRecDepth 100000 in
def jt_55_0 : List (Nat × Instr × Nat) := [(0, .aload_n 0, 1), (1, .iload_n 1, 1), (2, .invokevirtual 89, 3), (5, .ifCond .eq 23, 3), (8, .iload_n 2, 1), (9, .bipush 48, 2), (11, .if_icmp .gt 17, 3), (14, .aload_n 0, 1), (15, .getfield 27, 3), (18, .iload_n 1, 1), (19, .iaload, 1), (20, .aload_n 0, 1), (21, .getfield 71, 3), (24, .ineg, 1), (25, .if_icmp .ne 5, 3), (28, .iconst 0, 1), (29, .ireturn, 1), (30, .aload_n 0, 1), (31, .getfield 27, 3), (34, .iload_n 1, 1), (35, .iaload, 1), (36, .aload_n 0, 1), (37, .getfield 71, 3), (40, .if_icmp .ne 5, 3), (43, .iconst 1, 1), (44, .ireturn, 1), (45, .aload_n 0, 1), (46, .getfield 36, 3), (49, .getfield 58, 3), (52, .iload_n 1, 1), (53, .iaload, 1), (54, .istore_n 3, 1), (55, .aload_n 0, 1), (56, .getfield 36, 3), (59, .getfield 61, 3), (62, .iload_n 1, 1), (63, .iaload, 1), (64, .istore 4, 2), (66, .iconst 0, 1), (67, .istore 5, 2)]
def jt_55_1 : List (Nat × Instr × Nat) := [(69, .aload_n 0, 1), (70, .getfield 36, 3), (73, .getfield 53, 3), (76, .iload_n 1, 1), (77, .iaload, 1), (78, .tableswitch 146 0 9 #[54, 146, 146, 146, 60, 60, 93, 106, 116, 93], 54), (132, .iconst 1, 1), (133, .istore 5, 2), (135, .goto 89, 3), (138, .aload_n 0, 1), (139, .iload_n 3, 1), (140, .iload_n 2, 1), (141, .iconst 1, 1), (142, .iadd, 1), (143, .invokevirtual 121, 3), (146, .ifCond .eq 19, 3), (149, .aload_n 0, 1), (150, .iload 4, 2), (152, .iload_n 2, 1), (153, .iconst 1, 1), (154, .iadd, 1), (155, .invokevirtual 121, 3), (158, .ifCond .eq 7, 3), (161, .iconst 1, 1), (162, .goto 4, 3), (165, .iconst 0, 1), (166, .istore 5, 2), (168, .goto 56, 3), (171, .aload_n 0, 1), (172, .iload_n 3, 1), (173, .iload_n 2, 1), (174, .iconst 1, 1), (175, .iadd, 1), (176, .invokevirtual 121, 3), (179, .istore 5, 2), (181, .goto 43, 3), (184, .aload_n 0, 1), (185, .iload_n 3, 1), (186, .invokevirtual 125, 3), (189, .istore 5, 2)]
def jt_55_2 : List (Nat × Instr × Nat) := [(191, .goto 33, 3), (194, .aload_n 0, 1), (195, .iload 4, 2), (197, .invokevirtual 125, 3), (200, .ifCond .eq 18, 3), (203, .aload_n 0, 1), (204, .iload_n 3, 1), (205, .iload_n 2, 1), (206, .iconst 1, 1), (207, .iadd, 1), (208, .invokevirtual 121, 3), (211, .ifCond .eq 7, 3), (214, .iconst 1, 1), (215, .goto 4, 3), (218, .iconst 0, 1), (219, .istore 5, 2), (221, .goto 3, 3), (224, .aload_n 0, 1), (225, .getfield 27, 3), (228, .iload_n 1, 1), (229, .iload 5, 2), (231, .ifCond .eq 10, 3), (234, .aload_n 0, 1), (235, .getfield 71, 3), (238, .goto 24, 3), (241, .aload_n 0, 1), (242, .getfield 74, 3), (245, .ifCond .eq 11, 3), (248, .aload_n 0, 1), (249, .getfield 71, 3), (252, .ineg, 1), (253, .goto 9, 3), (256, .aload_n 0, 1), (257, .getfield 27, 3), (260, .iload_n 1, 1), (261, .iaload, 1), (262, .iastore, 1), (263, .iload 5, 2), (265, .ireturn, 1)]
def jt_55 : List (Nat × Instr × Nat) := jt_55_0 ++ (jt_55_1 ++ (jt_55_2))
def jq_55 : jmE := (yX4_canMake, cX4_canMake, 6, (Option.some Jvm.ClassFile.FieldType.boolean), 4, false, jt_55)
set_option maxRecDepth 100000 in
def jt_56 : List (Nat × Instr × Nat) := [(0, .aload_n 0, 1), (1, .getfield 33, 3), (4, .iconst 0, 1), (5, .invokestatic 44, 3), (8, .aload_n 0, 1), (9, .iload_n 1, 1), (10, .invokevirtual 131, 3), (13, .iconst 0, 1), (14, .istore_n 2, 1), (15, .aload_n 0, 1), (16, .getfield 50, 3), (19, .iconst 1, 1), (20, .isub, 1), (21, .istore_n 3, 1), (22, .iload_n 3, 1), (23, .ifCond .lt 58, 3), (26, .aload_n 0, 1), (27, .getfield 33, 3), (30, .iload_n 3, 1), (31, .iaload, 1), (32, .iconst 1, 1), (33, .if_icmp .ne 42, 3), (36, .iinc 2 1, 3), (39, .aload_n 0, 1), (40, .aload_n 0, 1), (41, .getfield 36, 3), (44, .getfield 58, 3), (47, .aload_n 0, 1), (48, .getfield 40, 3), (51, .iload_n 3, 1), (52, .iadd, 1), (53, .iaload, 1), (54, .invokevirtual 131, 3), (57, .aload_n 0, 1), (58, .aload_n 0, 1), (59, .getfield 36, 3), (62, .getfield 61, 3), (65, .aload_n 0, 1), (66, .getfield 40, 3), (69, .iload_n 3, 1), (70, .iadd, 1), (71, .iaload, 1), (72, .invokevirtual 131, 3), (75, .iinc 3 (-1), 3), (78, .goto (-56), 3), (81, .iload_n 2, 1), (82, .ireturn, 1)]
def jq_56 : jmE := (yX4_missingFor, cX4_missingFor, 4, (Option.some Jvm.ClassFile.FieldType.int), 4, false, jt_56)
set_option maxRecDepth 100000 in
def jt_57 : List (Nat × Instr × Nat) := [(0, .aload_n 0, 1), (1, .iload_n 1, 1), (2, .invokevirtual 135, 3), (5, .ifCond .eq 15, 3), (8, .aload_n 0, 1), (9, .getfield 33, 3), (12, .iload_n 1, 1), (13, .aload_n 0, 1), (14, .getfield 40, 3), (17, .isub, 1), (18, .iconst 1, 1), (19, .iastore, 1), (20, .return_, 1)]
def jq_57 : jmE := (yX4_want, cX4_want, 2, (Option.none : Option Jvm.ClassFile.FieldType), 4, false, jt_57)
set_option maxRecDepth 100000 in
def jt_58 : List (Nat × Instr × Nat) := [(0, .aload_n 0, 1), (1, .iload_n 1, 1), (2, .invokevirtual 135, 3), (5, .ifCond .eq 9, 3), (8, .iload_n 2, 1), (9, .bipush 48, 2), (11, .if_icmp .le 5, 3), (14, .iload_n 1, 1), (15, .ireturn, 1), (16, .aload_n 0, 1), (17, .aload_n 0, 1), (18, .getfield 36, 3), (21, .getfield 58, 3), (24, .iload_n 1, 1), (25, .iaload, 1), (26, .iload_n 2, 1), (27, .iconst 1, 1), (28, .iadd, 1), (29, .invokevirtual 138, 3), (32, .istore_n 3, 1), (33, .aload_n 0, 1), (34, .aload_n 0, 1), (35, .getfield 36, 3), (38, .getfield 61, 3), (41, .iload_n 1, 1), (42, .iaload, 1), (43, .iload_n 2, 1), (44, .iconst 1, 1), (45, .iadd, 1), (46, .invokevirtual 138, 3), (49, .istore 4, 2), (51, .aload_n 0, 1), (52, .getfield 36, 3), (55, .aload_n 0, 1), (56, .getfield 36, 3), (59, .getfield 53, 3), (62, .iload_n 1, 1), (63, .iaload, 1), (64, .iload_n 3, 1), (65, .iload 4, 2), (67, .invokevirtual 142, 3), (70, .istore 5, 2), (72, .iload 5, 2), (74, .iconst (-1), 1), (75, .if_icmp .eq 8, 3), (78, .iload 5, 2), (80, .goto 22, 3), (83, .aload_n 0, 1), (84, .getfield 36, 3), (87, .aload_n 0, 1), (88, .getfield 36, 3), (91, .getfield 53, 3), (94, .iload_n 1, 1), (95, .iaload, 1), (96, .iload_n 3, 1), (97, .iload 4, 2), (99, .invokevirtual 143, 3), (102, .ireturn, 1)]
def jq_58 : jmE := (yX4_giveNumber, cX4_giveNumber, 6, (Option.some Jvm.ClassFile.FieldType.int), 4, false, jt_58)
set_option maxRecDepth 100000 in
def jt_59 : List (Nat × Instr × Nat) := [(0, .aload_n 0, 1), (1, .invokespecial 3, 3), (4, .aload_n 0, 1), (5, .bipush 6, 2), (7, .newarray .int, 2), (9, .putfield 9, 3), (12, .aload_n 0, 1), (13, .bipush 6, 2), (15, .newarray .int, 2), (17, .putfield 15, 3), (20, .aload_n 0, 1), (21, .bipush 6, 2), (23, .newarray .boolean, 2), (25, .putfield 18, 3), (28, .aload_n 0, 1), (29, .bipush 6, 2), (31, .anewarray 22, 3), (34, .putfield 24, 3), (37, .iconst 0, 1), (38, .istore_n 1, 1), (39, .iload_n 1, 1), (40, .bipush 6, 2), (42, .if_icmp .ge 22, 3), (45, .aload_n 0, 1), (46, .getfield 24, 3), (49, .iload_n 1, 1), (50, .new 22, 3), (53, .dup, 1), (54, .invokespecial 28, 3), (57, .aastore, 1), (58, .iinc 1 1, 3), (61, .goto (-22), 3), (64, .return_, 1)]
def jq_59 : jmE := (yX5_init, cX5_init, 2, (Option.none : Option Jvm.ClassFile.FieldType), 5, true, jt_59)
set_option maxRecDepth 100000 in
def jt_60 : List (Nat × Instr × Nat) := [(0, .aload_n 0, 1), (1, .iconst 0, 1), (2, .putfield 29, 3), (5, .aload_n 0, 1), (6, .iconst 0, 1), (7, .putfield 33, 3), (10, .aload_n 0, 1), (11, .iconst 0, 1), (12, .putfield 36, 3), (15, .return_, 1)]
def jq_60 : jmE := (yX5_empty, cX5_empty, 1, (Option.none : Option Jvm.ClassFile.FieldType), 5, false, jt_60)
set_option maxRecDepth 100000 in
def jt_61 : List (Nat × Instr × Nat) := [(0, .aload_n 0, 1), (1, .getfield 29, 3), (4, .bipush 6, 2), (6, .if_icmp .ge 43, 3), (9, .aload_n 0, 1), (10, .getfield 9, 3), (13, .aload_n 0, 1), (14, .getfield 29, 3), (17, .iload_n 1, 1), (18, .iastore, 1), (19, .aload_n 0, 1), (20, .getfield 15, 3), (23, .aload_n 0, 1), (24, .getfield 29, 3), (27, .iload_n 2, 1), (28, .iastore, 1), (29, .aload_n 0, 1), (30, .getfield 18, 3), (33, .aload_n 0, 1), (34, .getfield 29, 3), (37, .iconst 0, 1), (38, .bastore, 1), (39, .aload_n 0, 1), (40, .dup, 1), (41, .getfield 29, 3), (44, .iconst 1, 1), (45, .iadd, 1), (46, .putfield 29, 3), (49, .return_, 1)]
def jq_61 : jmE := (yX5_tell, cX5_tell, 3, (Option.none : Option Jvm.ClassFile.FieldType), 5, false, jt_61)
set_option maxRecDepth 100000 in
def jt_62 : List (Nat × Instr × Nat) := [(0, .iload_n 1, 1), (1, .ifCond .lt 15, 3), (4, .iload_n 1, 1), (5, .aload_n 0, 1), (6, .getfield 29, 3), (9, .if_icmp .ge 7, 3), (12, .iconst 1, 1), (13, .goto 4, 3), (16, .iconst 0, 1), (17, .ireturn, 1)]
def jq_62 : jmE := (yX5_has, cX5_has, 2, (Option.some Jvm.ClassFile.FieldType.boolean), 5, false, jt_62)
set_option maxRecDepth 100000 in
def jt_63 : List (Nat × Instr × Nat) := [(0, .aload_n 0, 1), (1, .iload_n 1, 1), (2, .invokevirtual 40, 3), (5, .ifCond .eq 26, 3), (8, .aload_n 0, 1), (9, .getfield 9, 3), (12, .iload_n 1, 1), (13, .iaload, 1), (14, .iconst 2, 1), (15, .if_icmp .ne 16, 3), (18, .aload_n 0, 1), (19, .getfield 18, 3), (22, .iload_n 1, 1), (23, .baload, 1), (24, .ifCond .ne 7, 3), (27, .iconst 1, 1), (28, .goto 4, 3), (31, .iconst 0, 1), (32, .ireturn, 1)]
def jq_63 : jmE := (yX5_waitsFor, cX5_waitsFor, 2, (Option.some Jvm.ClassFile.FieldType.boolean), 5, false, jt_63)
set_option maxRecDepth 100000 in
def jt_64 : List (Nat × Instr × Nat) := [(0, .iconst 0, 1), (1, .istore_n 2, 1), (2, .iconst 0, 1), (3, .istore_n 3, 1), (4, .iload_n 3, 1), (5, .aload_n 0, 1), (6, .getfield 29, 3), (9, .if_icmp .ge 22, 3), (12, .aload_n 0, 1), (13, .getfield 9, 3), (16, .iload_n 3, 1), (17, .iaload, 1), (18, .iload_n 1, 1), (19, .if_icmp .ne 6, 3), (22, .iinc 2 1, 3), (25, .iinc 3 1, 3), (28, .goto (-24), 3), (31, .iload_n 2, 1), (32, .ireturn, 1)]
def jq_64 : jmE := (yX5_countOf, cX5_countOf, 4, (Option.some Jvm.ClassFile.FieldType.int), 5, false, jt_64)
set_option maxRecDepth 100000 in
def jt_65 : List (Nat × Instr × Nat) := [(0, .aload_n 0, 1), (1, .invokespecial 3, 3), (4, .aload_n 0, 1), (5, .bipush 28, 2), (7, .newarray .int, 2), (9, .putfield 9, 3), (12, .aload_n 0, 1), (13, .bipush 24, 2), (15, .newarray .int, 2), (17, .putfield 15, 3), (20, .aload_n 0, 1), (21, .iconst 4, 1), (22, .newarray .int, 2), (24, .putfield 18, 3), (27, .aload_n 0, 1), (28, .bipush 6, 2), (30, .newarray .int, 2), (32, .putfield 21, 3), (35, .aload_n 0, 1), (36, .aload_n 1, 1), (37, .putfield 24, 3), (40, .aload_n 0, 1), (41, .aload_n 1, 1), (42, .getfield 28, 3), (45, .putfield 34, 3), (48, .aload_n 0, 1), (49, .new 35, 3), (52, .dup, 1), (53, .aload_n 1, 1), (54, .getfield 28, 3), (57, .iconst 0, 1), (58, .invokespecial 37, 3), (61, .putfield 40, 3), (64, .return_, 1)]
def jq_65 : jmE := (yX6_init, cX6_init, 2, (Option.none : Option Jvm.ClassFile.FieldType), 6, true, jt_65)
set_option maxRecDepth 100000 in
def jt_66 : List (Nat × Instr × Nat) := [(0, .aload_n 0, 1), (1, .iconst 1, 1), (2, .putfield 44, 3), (5, .aload_n 0, 1), (6, .iconst 0, 1), (7, .putfield 48, 3), (10, .aload_n 0, 1), (11, .iconst (-1), 1), (12, .putfield 52, 3), (15, .aload_n 0, 1), (16, .getfield 24, 3), (19, .getfield 55, 3), (22, .iconst 0, 1), (23, .aload_n 0, 1), (24, .getfield 9, 3), (27, .iconst 0, 1), (28, .bipush 28, 2), (30, .invokestatic 58, 3), (33, .return_, 1)]
def jq_66 : jmE := (yX6_start, cX6_start, 1, (Option.none : Option Jvm.ClassFile.FieldType), 6, false, jt_66)
set_option maxRecDepth 100000 in
def jt_67 : List (Nat × Instr × Nat) := [(0, .aload_n 0, 1), (1, .getfield 52, 3), (4, .aload_n 0, 1), (5, .getfield 34, 3), (8, .getfield 64, 3), (11, .if_icmp .eq 18, 3), (14, .aload_n 0, 1), (15, .invokevirtual 67, 3), (18, .aload_n 0, 1), (19, .aload_n 0, 1), (20, .getfield 34, 3), (23, .getfield 64, 3), (26, .putfield 52, 3), (29, .aload_n 0, 1), (30, .getfield 40, 3), (33, .areturn, 1)]
def jq_67 : jmE := (yX6_intruder, cX6_intruder, 1, (Option.some (Jvm.ClassFile.FieldType.object "SealProbe$Knowledge")), 6, false, jt_67)
set_option maxRecDepth 100000 in
def jt_68_0 : List (Nat × Instr × Nat) := [(0, .aload_n 0, 1), (1, .getfield 24, 3), (4, .aload_n 0, 1), (5, .getfield 40, 3), (8, .invokevirtual 70, 3), (11, .aload_n 0, 1), (12, .getfield 18, 3), (15, .iconst 0, 1), (16, .invokestatic 74, 3), (19, .iconst 0, 1), (20, .istore_n 1, 1), (21, .iload_n 1, 1), (22, .aload_n 0, 1), (23, .getfield 48, 3), (26, .if_icmp .ge 81, 3), (29, .aload_n 0, 1), (30, .getfield 15, 3), (33, .iload_n 1, 1), (34, .iaload, 1), (35, .istore_n 2, 1), (36, .aload_n 0, 1), (37, .iload_n 2, 1), (38, .aload_n 0, 1), (39, .getfield 18, 3), (42, .iload_n 2, 1), (43, .iaload, 1), (44, .invokevirtual 80, 3), (47, .astore_n 3, 1), (48, .aload_n 0, 1), (49, .getfield 18, 3), (52, .iload_n 2, 1), (53, .dup2, 1), (54, .iaload, 1), (55, .iconst 1, 1), (56, .iadd, 1), (57, .iastore, 1), (58, .aload_n 3, 1), (59, .ifnull 42, 3), (62, .aload_n 3, 1), (63, .getfield 84, 3)]
def jt_68_1 : List (Nat × Instr × Nat) := [(66, .ifCond .eq 35, 3), (69, .aload_n 0, 1), (70, .getfield 40, 3), (73, .aload_n 0, 1), (74, .getfield 40, 3), (77, .aload_n 3, 1), (78, .getfield 89, 3), (81, .aload_n 0, 1), (82, .getfield 9, 3), (85, .iload_n 2, 1), (86, .bipush 7, 2), (88, .imul, 1), (89, .iconst 1, 1), (90, .iadd, 1), (91, .iconst 0, 1), (92, .invokevirtual 92, 3), (95, .iconst 1, 1), (96, .iconst (-1), 1), (97, .invokevirtual 96, 3), (100, .pop, 1), (101, .iinc 1 1, 3), (104, .goto (-83), 3), (107, .aload_n 0, 1), (108, .getfield 40, 3), (111, .invokevirtual 100, 3), (114, .return_, 1)]
def jt_68 : List (Nat × Instr × Nat) := jt_68_0 ++ (jt_68_1)
def jq_68 : jmE := (yX6_gather, cX6_gather, 4, (Option.none : Option Jvm.ClassFile.FieldType), 6, false, jt_68)
set_option maxRecDepth 100000 in
def jt_69 : List (Nat × Instr × Nat) := [(0, .aload_n 0, 1), (1, .getfield 24, 3), (4, .getfield 103, 3), (7, .aload_n 0, 1), (8, .getfield 24, 3), (11, .getfield 107, 3), (14, .iload_n 1, 1), (15, .iaload, 1), (16, .aaload, 1), (17, .astore_n 3, 1), (18, .iload_n 2, 1), (19, .ifCond .lt 20, 3), (22, .iload_n 2, 1), (23, .aload_n 3, 1), (24, .getfield 110, 3), (27, .if_icmp .ge 12, 3), (30, .aload_n 3, 1), (31, .getfield 115, 3), (34, .iload_n 2, 1), (35, .aaload, 1), (36, .goto 4, 3), (39, .aconst_null, 1), (40, .areturn, 1)]
def jq_69 : jmE := (yX6_eventOf, cX6_eventOf, 4, (Option.some (Jvm.ClassFile.FieldType.object "SealProbe$Event")), 6, false, jt_69)
set_option maxRecDepth 100000 in
def jt_70 : List (Nat × Instr × Nat) := [(0, .aload_n 0, 1), (1, .getfield 48, 3), (4, .bipush 24, 2), (6, .if_icmp .ge 41, 3), (9, .aload_n 0, 1), (10, .getfield 15, 3), (13, .aload_n 0, 1), (14, .getfield 48, 3), (17, .iload_n 1, 1), (18, .iastore, 1), (19, .aload_n 0, 1), (20, .dup, 1), (21, .getfield 48, 3), (24, .iconst 1, 1), (25, .iadd, 1), (26, .putfield 48, 3), (29, .aload_n 0, 1), (30, .getfield 9, 3), (33, .iload_n 1, 1), (34, .bipush 7, 2), (36, .imul, 1), (37, .dup2, 1), (38, .iaload, 1), (39, .iconst 1, 1), (40, .iadd, 1), (41, .iastore, 1), (42, .aload_n 0, 1), (43, .iconst (-1), 1), (44, .putfield 52, 3), (47, .return_, 1)]
def jq_70 : jmE := (yX6_step, cX6_step, 2, (Option.none : Option Jvm.ClassFile.FieldType), 6, false, jt_70)
set_option maxRecDepth 100000 in
def jt_71_0 : List (Nat × Instr × Nat) := [(0, .aload_n 0, 1), (1, .getfield 48, 3), (4, .ifCond .le 102, 3), (7, .aload_n 0, 1), (8, .dup, 1), (9, .getfield 48, 3), (12, .iconst 1, 1), (13, .isub, 1), (14, .putfield 48, 3), (17, .aload_n 0, 1), (18, .getfield 15, 3), (21, .aload_n 0, 1), (22, .getfield 48, 3), (25, .iaload, 1), (26, .istore_n 1, 1), (27, .iload_n 1, 1), (28, .bipush 7, 2), (30, .imul, 1), (31, .istore_n 2, 1), (32, .aload_n 0, 1), (33, .getfield 9, 3), (36, .iload_n 2, 1), (37, .dup2, 1), (38, .iaload, 1), (39, .iconst 1, 1), (40, .isub, 1), (41, .iastore, 1), (42, .aload_n 0, 1), (43, .iload_n 1, 1), (44, .aload_n 0, 1), (45, .getfield 9, 3), (48, .iload_n 2, 1), (49, .iaload, 1), (50, .invokevirtual 80, 3), (53, .astore_n 3, 1), (54, .aload_n 3, 1), (55, .ifnonnull 7, 3), (58, .iconst 0, 1), (59, .goto 7, 3), (62, .aload_n 3, 1)]
def jt_71_1 : List (Nat × Instr × Nat) := [(63, .getfield 119, 3), (66, .istore 4, 2), (68, .iconst 0, 1), (69, .istore 5, 2), (71, .iload 5, 2), (73, .iload 4, 2), (75, .if_icmp .ge 26, 3), (78, .aload_n 0, 1), (79, .getfield 9, 3), (82, .iload_n 2, 1), (83, .iconst 1, 1), (84, .iadd, 1), (85, .aload_n 3, 1), (86, .getfield 122, 3), (89, .iload 5, 2), (91, .iaload, 1), (92, .iadd, 1), (93, .iconst (-1), 1), (94, .iastore, 1), (95, .iinc 5 1, 3), (98, .goto (-27), 3), (101, .aload_n 0, 1), (102, .iconst (-1), 1), (103, .putfield 52, 3), (106, .aload_n 0, 1), (107, .getfield 48, 3), (110, .ireturn, 1)]
def jt_71 : List (Nat × Instr × Nat) := jt_71_0 ++ (jt_71_1)
def jq_71 : jmE := (yX6_takeBack, cX6_takeBack, 6, (Option.some Jvm.ClassFile.FieldType.int), 6, false, jt_71)
set_option maxRecDepth 100000 in
def jt_72 : List (Nat × Instr × Nat) := [(0, .aload_n 0, 1), (1, .getfield 24, 3), (4, .aload_n 0, 1), (5, .getfield 9, 3), (8, .iconst 0, 1), (9, .iload_n 1, 1), (10, .invokevirtual 125, 3), (13, .astore 4, 2), (15, .aload 4, 2), (17, .ifnonnull 7, 3), (20, .iconst 0, 1), (21, .goto 8, 3), (24, .aload 4, 2), (26, .getfield 119, 3), (29, .istore 5, 2), (31, .iconst 0, 1), (32, .istore 6, 2), (34, .iload 6, 2), (36, .iload 5, 2), (38, .if_icmp .ge 39, 3), (41, .iload_n 1, 1), (42, .bipush 7, 2), (44, .imul, 1), (45, .iconst 1, 1), (46, .iadd, 1), (47, .aload 4, 2), (49, .getfield 122, 3), (52, .iload 6, 2), (54, .iaload, 1), (55, .iadd, 1), (56, .istore 7, 2), (58, .aload_n 0, 1), (59, .getfield 9, 3), (62, .iload 7, 2), (64, .aload_n 2, 1), (65, .iload_n 3, 1), (66, .iload 7, 2), (68, .iadd, 1), (69, .iaload, 1), (70, .iastore, 1), (71, .iinc 6 1, 3), (74, .goto (-40), 3), (77, .aload_n 0, 1), (78, .iload_n 1, 1), (79, .invokevirtual 129, 3), (82, .return_, 1)]
def jq_72 : jmE := (yX6_follow, cX6_follow, 8, (Option.none : Option Jvm.ClassFile.FieldType), 6, false, jt_72)
set_option maxRecDepth 100000 in
def jt_73 : List (Nat × Instr × Nat) := [(0, .iload_n 1, 1), (1, .bipush 7, 2), (3, .imul, 1), (4, .iconst 1, 1), (5, .iadd, 1), (6, .istore 4, 2), (8, .aload_n 0, 1), (9, .getfield 9, 3), (12, .iload 4, 2), (14, .aload_n 0, 1), (15, .getfield 21, 3), (18, .iconst 0, 1), (19, .bipush 6, 2), (21, .invokestatic 58, 3), (24, .aload_n 0, 1), (25, .aload_n 2, 1), (26, .getfield 89, 3), (29, .iload_n 3, 1), (30, .iconst 0, 1), (31, .invokevirtual 133, 3), (34, .ifCond .ne 5, 3), (37, .iconst 0, 1), (38, .ireturn, 1), (39, .aload_n 0, 1), (40, .getfield 21, 3), (43, .iconst 0, 1), (44, .aload_n 0, 1), (45, .getfield 9, 3), (48, .iload 4, 2), (50, .bipush 6, 2), (52, .invokestatic 58, 3), (55, .iconst 1, 1), (56, .ireturn, 1)]
def jq_73 : jmE := (yX6_accepts, cX6_accepts, 5, (Option.some Jvm.ClassFile.FieldType.boolean), 6, false, jt_73)
set_option maxRecDepth 100000 in
def jt_74_0 : List (Nat × Instr × Nat) := [(0, .aload_n 0, 1), (1, .getfield 34, 3), (4, .iload_n 1, 1), (5, .invokevirtual 136, 3), (8, .ifCond .eq 20, 3), (11, .aload_n 0, 1), (12, .getfield 34, 3), (15, .iload_n 2, 1), (16, .invokevirtual 136, 3), (19, .ifCond .eq 9, 3), (22, .iload_n 3, 1), (23, .bipush 48, 2), (25, .if_icmp .le 5, 3), (28, .iconst 0, 1), (29, .ireturn, 1), (30, .aload_n 0, 1), (31, .getfield 34, 3), (34, .getfield 140, 3), (37, .iload_n 1, 1), (38, .baload, 1), (39, .ifCond .eq 14, 3), (42, .iload_n 1, 1), (43, .iload_n 2, 1), (44, .if_icmp .ne 7, 3), (47, .iconst 1, 1), (48, .goto 4, 3), (51, .iconst 0, 1), (52, .ireturn, 1), (53, .aload_n 0, 1), (54, .getfield 34, 3), (57, .getfield 144, 3), (60, .iload_n 1, 1), (61, .iaload, 1), (62, .iconst 3, 1), (63, .if_icmp .ne 10, 3), (66, .aload_n 0, 1), (67, .iload_n 1, 1), (68, .iload_n 2, 1), (69, .invokevirtual 147, 3), (72, .ireturn, 1)]
def jt_74_1 : List (Nat × Instr × Nat) := [(73, .aload_n 0, 1), (74, .getfield 34, 3), (77, .getfield 144, 3), (80, .iload_n 1, 1), (81, .iaload, 1), (82, .aload_n 0, 1), (83, .getfield 34, 3), (86, .getfield 144, 3), (89, .iload_n 2, 1), (90, .iaload, 1), (91, .if_icmp .eq 5, 3), (94, .iconst 0, 1), (95, .ireturn, 1), (96, .aload_n 0, 1), (97, .aload_n 0, 1), (98, .getfield 34, 3), (101, .getfield 151, 3), (104, .iload_n 1, 1), (105, .iaload, 1), (106, .aload_n 0, 1), (107, .getfield 34, 3), (110, .getfield 151, 3), (113, .iload_n 2, 1), (114, .iaload, 1), (115, .iload_n 3, 1), (116, .iconst 1, 1), (117, .iadd, 1), (118, .invokevirtual 133, 3), (121, .ifCond .eq 48, 3), (124, .aload_n 0, 1), (125, .getfield 34, 3), (128, .getfield 154, 3), (131, .iload_n 1, 1), (132, .iaload, 1), (133, .iconst (-1), 1), (134, .if_icmp .eq 31, 3), (137, .aload_n 0, 1), (138, .aload_n 0, 1), (139, .getfield 34, 3), (142, .getfield 154, 3)]
def jt_74_2 : List (Nat × Instr × Nat) := [(145, .iload_n 1, 1), (146, .iaload, 1), (147, .aload_n 0, 1), (148, .getfield 34, 3), (151, .getfield 154, 3), (154, .iload_n 2, 1), (155, .iaload, 1), (156, .iload_n 3, 1), (157, .iconst 1, 1), (158, .iadd, 1), (159, .invokevirtual 133, 3), (162, .ifCond .eq 7, 3), (165, .iconst 1, 1), (166, .goto 4, 3), (169, .iconst 0, 1), (170, .ireturn, 1)]
def jt_74 : List (Nat × Instr × Nat) := jt_74_0 ++ (jt_74_1 ++ (jt_74_2))
def jq_74 : jmE := (yX6_matches, cX6_matches, 4, (Option.some Jvm.ClassFile.FieldType.boolean), 6, false, jt_74)
set_option maxRecDepth 100000 in
def jt_75 : List (Nat × Instr × Nat) := [(0, .aload_n 0, 1), (1, .getfield 34, 3), (4, .getfield 157, 3), (7, .iload_n 1, 1), (8, .iaload, 1), (9, .istore_n 3, 1), (10, .aload_n 0, 1), (11, .getfield 34, 3), (14, .getfield 160, 3), (17, .iload_n 1, 1), (18, .iaload, 1), (19, .istore 4, 2), (21, .aload_n 0, 1), (22, .getfield 21, 3), (25, .iload_n 3, 1), (26, .iaload, 1), (27, .iconst (-1), 1), (28, .if_icmp .eq 19, 3), (31, .aload_n 0, 1), (32, .getfield 21, 3), (35, .iload_n 3, 1), (36, .iaload, 1), (37, .iload_n 2, 1), (38, .if_icmp .ne 7, 3), (41, .iconst 1, 1), (42, .goto 4, 3), (45, .iconst 0, 1), (46, .ireturn, 1), (47, .iload 4, 2), (49, .iconst 3, 1), (50, .if_icmp .eq 19, 3), (53, .aload_n 0, 1), (54, .getfield 34, 3), (57, .getfield 144, 3), (60, .iload_n 2, 1), (61, .iaload, 1), (62, .iload 4, 2), (64, .if_icmp .eq 5, 3), (67, .iconst 0, 1), (68, .ireturn, 1), (69, .aload_n 0, 1), (70, .getfield 21, 3), (73, .iload_n 3, 1), (74, .iload_n 2, 1), (75, .iastore, 1), (76, .iconst 1, 1), (77, .ireturn, 1)]
def jq_75 : jmE := (yX6_mayStand, cX6_mayStand, 5, (Option.some Jvm.ClassFile.FieldType.boolean), 6, false, jt_75)
set_option maxRecDepth 100000 in
def jt_76 : List (Nat × Instr × Nat) := [(0, .aload_n 0, 1), (1, .invokespecial 3, 3), (4, .aload_n 0, 1), (5, .new 9, 3), (8, .dup, 1), (9, .invokespecial 11, 3), (12, .putfield 12, 3), (15, .aload_n 0, 1), (16, .bipush 28, 2), (18, .newarray .int, 2), (20, .putfield 18, 3), (23, .aload_n 0, 1), (24, .bipush 24, 2), (26, .newarray .int, 2), (28, .putfield 22, 3), (31, .aload_n 0, 1), (32, .aload_n 1, 1), (33, .putfield 25, 3), (36, .aload_n 0, 1), (37, .new 29, 3), (40, .dup, 1), (41, .aload_n 1, 1), (42, .getfield 31, 3), (45, .iconst 1, 1), (46, .invokespecial 37, 3), (49, .putfield 40, 3), (52, .aload_n 0, 1), (53, .new 29, 3), (56, .dup, 1), (57, .aload_n 1, 1), (58, .getfield 31, 3), (61, .iconst 2, 1), (62, .invokespecial 37, 3), (65, .putfield 44, 3), (68, .aload_n 0, 1), (69, .new 47, 3), (72, .dup, 1), (73, .aload_n 0, 1), (74, .getfield 40, 3), (77, .aload_n 0, 1), (78, .getfield 18, 3), (81, .invokespecial 49, 3), (84, .putfield 52, 3), (87, .aload_n 0, 1), (88, .iconst (-1), 1), (89, .putfield 56, 3), (92, .return_, 1)]
def jq_76 : jmE := (yX7_init, cX7_init, 2, (Option.none : Option Jvm.ClassFile.FieldType), 7, true, jt_76)
set_option maxRecDepth 100000 in
def jt_77 : List (Nat × Instr × Nat) := [(0, .aload_n 0, 1), (1, .getfield 56, 3), (4, .iconst (-1), 1), (5, .if_icmp .eq 7, 3), (8, .iconst 1, 1), (9, .goto 4, 3), (12, .iconst 0, 1), (13, .ireturn, 1)]
def jq_77 : jmE := (yX7_hasAttack, cX7_hasAttack, 1, (Option.some Jvm.ClassFile.FieldType.boolean), 7, false, jt_77)
set_option maxRecDepth 100000 in
def jt_78 : List (Nat × Instr × Nat) := [(0, .iconst 0, 1), (1, .aload_n 0, 1), (2, .getfield 12, 3), (5, .getfield 60, 3), (8, .iconst 1, 1), (9, .isub, 1), (10, .invokestatic 63, 3), (13, .bipush 28, 2), (15, .imul, 1), (16, .ireturn, 1)]
def jq_78 : jmE := (yX7_attackBase, cX7_attackBase, 1, (Option.some Jvm.ClassFile.FieldType.int), 7, false, jt_78)
set_option maxRecDepth 100000 in
def jt_79 : List (Nat × Instr × Nat) := [(0, .aload_n 0, 1), (1, .getfield 12, 3), (4, .invokevirtual 69, 3), (7, .aload_n 0, 1), (8, .iconst (-1), 1), (9, .putfield 56, 3), (12, .aload_n 0, 1), (13, .iconst 0, 1), (14, .putfield 72, 3), (17, .aload_n 0, 1), (18, .iconst 0, 1), (19, .putfield 75, 3), (22, .aload_n 0, 1), (23, .iconst 0, 1), (24, .putfield 78, 3), (27, .return_, 1)]
def jq_79 : jmE := (yX7_forget, cX7_forget, 1, (Option.none : Option Jvm.ClassFile.FieldType), 7, false, jt_79)
set_option maxRecDepth 100000 in
def jt_80 : List (Nat × Instr × Nat) := [(0, .aload_n 0, 1), (1, .invokevirtual 81, 3), (4, .aload_n 0, 1), (5, .getfield 52, 3), (8, .invokevirtual 84, 3), (11, .aload_n 0, 1), (12, .aload_n 0, 1), (13, .getfield 25, 3), (16, .getfield 87, 3), (19, .bipush 7, 2), (21, .imul, 1), (22, .putfield 90, 3), (25, .aload_n 0, 1), (26, .aload_n 0, 1), (27, .getfield 25, 3), (30, .invokevirtual 93, 3), (33, .putfield 97, 3), (36, .aload_n 0, 1), (37, .getfield 25, 3), (40, .getfield 101, 3), (43, .iconst 0, 1), (44, .aload_n 0, 1), (45, .getfield 18, 3), (48, .iconst 0, 1), (49, .bipush 28, 2), (51, .invokestatic 104, 3), (54, .aload_n 0, 1), (55, .getfield 25, 3), (58, .aload_n 0, 1), (59, .getfield 44, 3), (62, .aload_n 0, 1), (63, .getfield 18, 3), (66, .iconst 0, 1), (67, .invokevirtual 110, 3), (70, .aload_n 0, 1), (71, .iconst (-1), 1), (72, .iconst (-1), 1), (73, .aload_n 0, 1), (74, .getfield 44, 3), (77, .invokevirtual 114, 3), (80, .return_, 1)]
def jq_80 : jmE := (yX7_start, cX7_start, 1, (Option.none : Option Jvm.ClassFile.FieldType), 7, false, jt_80)
set_option maxRecDepth 100000 in
def jt_81 : List (Nat × Instr × Nat) := [(0, .aload_n 0, 1), (1, .getfield 78, 3), (4, .ifCond .ne 18, 3), (7, .iload_n 1, 1), (8, .aload_n 0, 1), (9, .getfield 12, 3), (12, .getfield 60, 3), (15, .if_icmp .ge 7, 3), (18, .iconst 1, 1), (19, .goto 4, 3), (22, .iconst 0, 1), (23, .ireturn, 1)]
def jq_81 : jmE := (yX7_goesOn, cX7_goesOn, 2, (Option.some Jvm.ClassFile.FieldType.boolean), 7, false, jt_81)
set_option maxRecDepth 100000 in
def jt_82_0 : List (Nat × Instr × Nat) := [(0, .iload_n 1, 1), (1, .bipush 28, 2), (3, .imul, 1), (4, .istore_n 2, 1), (5, .iconst 0, 1), (6, .istore_n 3, 1), (7, .iconst 0, 1), (8, .istore 4, 2), (10, .iload 4, 2), (12, .aload_n 0, 1), (13, .getfield 25, 3), (16, .getfield 87, 3), (19, .if_icmp .ge 172, 3), (22, .aload_n 0, 1), (23, .getfield 78, 3), (26, .ifCond .ne 165, 3), (29, .aload_n 0, 1), (30, .getfield 25, 3), (33, .aload_n 0, 1), (34, .getfield 12, 3), (37, .getfield 118, 3), (40, .iload_n 2, 1), (41, .iload 4, 2), (43, .invokevirtual 121, 3), (46, .astore 5, 2), (48, .aload 5, 2), (50, .ifnonnull 6, 3), (53, .goto 132, 3), (56, .aload_n 0, 1), (57, .getfield 12, 3), (60, .getfield 118, 3), (63, .iload_n 2, 1), (64, .aload_n 0, 1), (65, .getfield 18, 3), (68, .iconst 0, 1), (69, .bipush 28, 2), (71, .invokestatic 104, 3), (74, .aload_n 0, 1), (75, .getfield 18, 3), (78, .iload 4, 2)]
def jt_82_1 : List (Nat × Instr × Nat) := [(80, .bipush 7, 2), (82, .imul, 1), (83, .dup2, 1), (84, .iaload, 1), (85, .iconst 1, 1), (86, .iadd, 1), (87, .iastore, 1), (88, .aload 5, 2), (90, .getfield 125, 3), (93, .ifCond .ne 40, 3), (96, .iload_n 3, 1), (97, .ifCond .ne 24, 3), (100, .aload_n 0, 1), (101, .getfield 25, 3), (104, .aload_n 0, 1), (105, .getfield 40, 3), (108, .aload_n 0, 1), (109, .getfield 12, 3), (112, .getfield 118, 3), (115, .iload_n 2, 1), (116, .invokevirtual 110, 3), (119, .iconst 1, 1), (120, .istore_n 3, 1), (121, .aload_n 0, 1), (122, .iload_n 1, 1), (123, .iload 4, 2), (125, .aload 5, 2), (127, .invokevirtual 130, 3), (130, .goto 55, 3), (133, .aload_n 0, 1), (134, .getfield 12, 3), (137, .aload_n 0, 1), (138, .getfield 18, 3), (141, .aload_n 0, 1), (142, .getfield 90, 3), (145, .invokevirtual 134, 3), (148, .ifCond .ne 37, 3), (151, .aload_n 0, 1), (152, .getfield 97, 3), (155, .ifCond .eq 19, 3)]
def jt_82_2 : List (Nat × Instr × Nat) := [(158, .aload_n 0, 1), (159, .getfield 25, 3), (162, .aload_n 0, 1), (163, .getfield 44, 3), (166, .aload_n 0, 1), (167, .getfield 18, 3), (170, .iconst 0, 1), (171, .invokevirtual 110, 3), (174, .aload_n 0, 1), (175, .iload_n 1, 1), (176, .iload 4, 2), (178, .aload_n 0, 1), (179, .getfield 44, 3), (182, .invokevirtual 114, 3), (185, .iinc 4 1, 3), (188, .goto (-178), 3), (191, .return_, 1)]
def jt_82 : List (Nat × Instr × Nat) := jt_82_0 ++ (jt_82_1 ++ (jt_82_2))
def jq_82 : jmE := (yX7_goThrough, cX7_goThrough, 6, (Option.none : Option Jvm.ClassFile.FieldType), 7, false, jt_82)
set_option maxRecDepth 100000 in
def jt_83_0 : List (Nat × Instr × Nat) := [(0, .aload_n 0, 1), (1, .getfield 52, 3), (4, .aload_n 3, 1), (5, .invokevirtual 138, 3), (8, .lstore 4, 2), (10, .lload 4, 2), (12, .sipush 20000, 3), (15, .aload_n 0, 1), (16, .getfield 72, 3), (19, .isub, 1), (20, .i2l, 1), (21, .lcmp, 1), (22, .ifCond .le 17, 3), (25, .aload_n 0, 1), (26, .sipush 20001, 3), (29, .putfield 72, 3), (32, .aload_n 0, 1), (33, .bipush (-7), 2), (35, .putfield 78, 3), (38, .return_, 1), (39, .aload_n 0, 1), (40, .dup, 1), (41, .getfield 72, 3), (44, .lload 4, 2), (46, .l2i, 1), (47, .iadd, 1), (48, .putfield 72, 3), (51, .iconst 0, 1), (52, .istore 6, 2), (54, .iload 6, 2), (56, .i2l, 1), (57, .lload 4, 2), (59, .lcmp, 1), (60, .ifCond .ge 84, 3), (63, .aload_n 0, 1), (64, .getfield 78, 3), (67, .ifCond .ne 77, 3), (70, .iload 6, 2), (72, .ifCond .ne 15, 3), (75, .aload_n 0, 1)]
def jt_83_1 : List (Nat × Instr × Nat) := [(76, .getfield 52, 3), (79, .aload_n 3, 1), (80, .iload_n 2, 1), (81, .invokevirtual 142, 3), (84, .goto 11, 3), (87, .aload_n 0, 1), (88, .getfield 52, 3), (91, .aload_n 3, 1), (92, .invokevirtual 146, 3), (95, .istore 7, 2), (97, .aload_n 0, 1), (98, .getfield 52, 3), (101, .aload_n 3, 1), (102, .iload 7, 2), (104, .invokevirtual 150, 3), (107, .ifCond .eq 31, 3), (110, .aload_n 0, 1), (111, .getfield 12, 3), (114, .aload_n 0, 1), (115, .getfield 18, 3), (118, .aload_n 0, 1), (119, .getfield 90, 3), (122, .invokevirtual 134, 3), (125, .ifCond .ne 13, 3), (128, .aload_n 0, 1), (129, .iload_n 1, 1), (130, .iload_n 2, 1), (131, .aload_n 0, 1), (132, .getfield 40, 3), (135, .invokevirtual 114, 3), (138, .iinc 6 1, 3), (141, .goto (-87), 3), (144, .return_, 1)]
def jt_83 : List (Nat × Instr × Nat) := jt_83_0 ++ (jt_83_1)
def jq_83 : jmE := (yX7_tryWays, cX7_tryWays, 8, (Option.none : Option Jvm.ClassFile.FieldType), 7, false, jt_83)
set_option maxRecDepth 100000 in
def jt_84_0 : List (Nat × Instr × Nat) := [(0, .aload_n 0, 1), (1, .getfield 12, 3), (4, .getfield 60, 3), (7, .sipush 600, 3), (10, .if_icmp .lt 10, 3), (13, .aload_n 0, 1), (14, .bipush (-7), 2), (16, .putfield 78, 3), (19, .return_, 1), (20, .aload_n 0, 1), (21, .getfield 12, 3), (24, .aload_n 0, 1), (25, .getfield 18, 3), (28, .aload_n 0, 1), (29, .getfield 90, 3), (32, .iload_n 1, 1), (33, .iload_n 2, 1), (34, .invokevirtual 154, 3), (37, .aload_n 0, 1), (38, .getfield 25, 3), (41, .aload_n 0, 1), (42, .getfield 18, 3), (45, .iconst 0, 1), (46, .invokevirtual 158, 3), (49, .ifCond .eq 13, 3), (52, .aload_n 0, 1), (53, .dup, 1), (54, .getfield 75, 3), (57, .iconst 1, 1), (58, .iadd, 1), (59, .putfield 75, 3), (62, .iconst 0, 1), (63, .istore 4, 2), (65, .iload 4, 2), (67, .aload_n 0, 1), (68, .getfield 25, 3), (71, .getfield 161, 3), (74, .if_icmp .ge 55, 3), (77, .aload_n 0, 1), (78, .getfield 78, 3)]
def jt_84_1 : List (Nat × Instr × Nat) := [(81, .ifCond .ne 48, 3), (84, .aload_n 0, 1), (85, .getfield 25, 3), (88, .iload 4, 2), (90, .aload_n 0, 1), (91, .getfield 18, 3), (94, .iconst 0, 1), (95, .aload_n 3, 1), (96, .invokevirtual 164, 3), (99, .ifCond .eq 24, 3), (102, .aload_n 0, 1), (103, .iconst 1, 1), (104, .iload 4, 2), (106, .iadd, 1), (107, .putfield 78, 3), (110, .aload_n 0, 1), (111, .aload_n 0, 1), (112, .getfield 12, 3), (115, .getfield 60, 3), (118, .iconst 1, 1), (119, .isub, 1), (120, .invokevirtual 168, 3), (123, .iinc 4 1, 3), (126, .goto (-61), 3), (129, .return_, 1)]
def jt_84 : List (Nat × Instr × Nat) := jt_84_0 ++ (jt_84_1)
def jq_84 : jmE := (yX7_reach, cX7_reach, 5, (Option.none : Option Jvm.ClassFile.FieldType), 7, false, jt_84)
set_option maxRecDepth 100000 in
def jt_85 : List (Nat × Instr × Nat) := [(0, .iconst 0, 1), (1, .istore_n 2, 1), (2, .iload_n 1, 1), (3, .istore_n 3, 1), (4, .iload_n 3, 1), (5, .ifCond .le 25, 3), (8, .iload_n 2, 1), (9, .bipush 24, 2), (11, .if_icmp .ge 19, 3), (14, .iinc 2 1, 3), (17, .aload_n 0, 1), (18, .getfield 12, 3), (21, .getfield 172, 3), (24, .iload_n 3, 1), (25, .iaload, 1), (26, .istore_n 3, 1), (27, .goto (-23), 3), (30, .aload_n 0, 1), (31, .iload_n 2, 1), (32, .putfield 56, 3), (35, .iload_n 1, 1), (36, .istore_n 3, 1), (37, .iload_n 2, 1), (38, .iconst 1, 1), (39, .isub, 1), (40, .istore 4, 2), (42, .iload 4, 2), (44, .ifCond .lt 35, 3), (47, .aload_n 0, 1), (48, .getfield 22, 3), (51, .iload 4, 2), (53, .aload_n 0, 1), (54, .getfield 12, 3), (57, .getfield 175, 3), (60, .iload_n 3, 1), (61, .iaload, 1), (62, .iastore, 1), (63, .aload_n 0, 1), (64, .getfield 12, 3), (67, .getfield 172, 3), (70, .iload_n 3, 1), (71, .iaload, 1), (72, .istore_n 3, 1), (73, .iinc 4 (-1), 3), (76, .goto (-34), 3), (79, .return_, 1)]
def jq_85 : jmE := (yX7_tracePath, cX7_tracePath, 5, (Option.none : Option Jvm.ClassFile.FieldType), 7, false, jt_85)
set_option maxRecDepth 100000 in
def jt_86 : List (Nat × Instr × Nat) := [(0, .aload_n 0, 1), (1, .invokespecial 3, 3), (4, .aload_n 0, 1), (5, .sipush 16800, 3), (8, .newarray .int, 2), (10, .putfield 9, 3), (13, .aload_n 0, 1), (14, .sipush 600, 3), (17, .newarray .int, 2), (19, .putfield 15, 3), (22, .aload_n 0, 1), (23, .sipush 600, 3), (26, .newarray .int, 2), (28, .putfield 18, 3), (31, .aload_n 0, 1), (32, .sipush 600, 3), (35, .newarray .int, 2), (37, .putfield 21, 3), (40, .aload_n 0, 1), (41, .sipush 1024, 3), (44, .newarray .int, 2), (46, .putfield 24, 3), (49, .return_, 1)]
def jq_86 : jmE := (yX8_init, cX8_init, 1, (Option.none : Option Jvm.ClassFile.FieldType), 8, true, jt_86)
set_option maxRecDepth 100000 in
def jt_87 : List (Nat × Instr × Nat) := [(0, .aload_n 0, 1), (1, .iconst 0, 1), (2, .putfield 27, 3), (5, .aload_n 0, 1), (6, .getfield 24, 3), (9, .iconst (-1), 1), (10, .invokestatic 31, 3), (13, .return_, 1)]
def jq_87 : jmE := (yX8_empty, cX8_empty, 1, (Option.none : Option Jvm.ClassFile.FieldType), 8, false, jt_87)
set_option maxRecDepth 100000 in
def jt_88 : List (Nat × Instr × Nat) := [(0, .bipush 17, 2), (2, .istore_n 2, 1), (3, .iconst 0, 1), (4, .istore_n 3, 1), (5, .iload_n 3, 1), (6, .iload_n 1, 1), (7, .if_icmp .ge 24, 3), (10, .iload_n 3, 1), (11, .bipush 28, 2), (13, .if_icmp .ge 18, 3), (16, .iload_n 2, 1), (17, .bipush 31, 2), (19, .imul, 1), (20, .aload_n 0, 1), (21, .iload_n 3, 1), (22, .iaload, 1), (23, .iadd, 1), (24, .istore_n 2, 1), (25, .iinc 3 1, 3), (28, .goto (-23), 3), (31, .iload_n 2, 1), (32, .iload_n 2, 1), (33, .bipush 10, 2), (35, .iushr, 1), (36, .ixor, 1), (37, .iload_n 2, 1), (38, .bipush 20, 2), (40, .iushr, 1), (41, .ixor, 1), (42, .sipush 1023, 3), (45, .iand, 1), (46, .ireturn, 1)]
def jq_88 : jmE := (yX8_slotOf, cX8_slotOf, 4, (Option.some Jvm.ClassFile.FieldType.int), 8, false, jt_88)
set_option maxRecDepth 100000 in
def jt_89 : List (Nat × Instr × Nat) := [(0, .aload_n 0, 1), (1, .getfield 24, 3), (4, .aload_n 1, 1), (5, .iload_n 2, 1), (6, .invokestatic 37, 3), (9, .iaload, 1), (10, .istore_n 3, 1), (11, .iconst 0, 1), (12, .istore 4, 2), (14, .iload 4, 2), (16, .sipush 600, 3), (19, .if_icmp .ge 43, 3), (22, .iload_n 3, 1), (23, .ifCond .lt 39, 3), (26, .iload_n 3, 1), (27, .aload_n 0, 1), (28, .getfield 27, 3), (31, .if_icmp .ge 31, 3), (34, .aload_n 0, 1), (35, .aload_n 1, 1), (36, .iload_n 2, 1), (37, .iload_n 3, 1), (38, .bipush 28, 2), (40, .imul, 1), (41, .invokevirtual 41, 3), (44, .ifCond .eq 5, 3), (47, .iconst 1, 1), (48, .ireturn, 1), (49, .aload_n 0, 1), (50, .getfield 21, 3), (53, .iload_n 3, 1), (54, .iaload, 1), (55, .istore_n 3, 1), (56, .iinc 4 1, 3), (59, .goto (-45), 3), (62, .iconst 0, 1), (63, .ireturn, 1)]
def jq_89 : jmE := (yX8_has, cX8_has, 5, (Option.some Jvm.ClassFile.FieldType.boolean), 8, false, jt_89)
set_option maxRecDepth 100000 in
def jt_90 : List (Nat × Instr × Nat) := [(0, .iconst 0, 1), (1, .istore 4, 2), (3, .iload 4, 2), (5, .iload_n 2, 1), (6, .if_icmp .ge 34, 3), (9, .iload 4, 2), (11, .bipush 28, 2), (13, .if_icmp .ge 27, 3), (16, .aload_n 1, 1), (17, .iload 4, 2), (19, .iaload, 1), (20, .aload_n 0, 1), (21, .getfield 9, 3), (24, .iload_n 3, 1), (25, .iload 4, 2), (27, .iadd, 1), (28, .iaload, 1), (29, .if_icmp .eq 5, 3), (32, .iconst 0, 1), (33, .ireturn, 1), (34, .iinc 4 1, 3), (37, .goto (-34), 3), (40, .iconst 1, 1), (41, .ireturn, 1)]
def jq_90 : jmE := (yX8_isSame, cX8_isSame, 5, (Option.some Jvm.ClassFile.FieldType.boolean), 8, false, jt_90)
set_option maxRecDepth 100000 in
def jt_91 : List (Nat × Instr × Nat) := [(0, .aload_n 0, 1), (1, .getfield 27, 3), (4, .sipush 600, 3), (7, .if_icmp .ge 86, 3), (10, .aload_n 1, 1), (11, .iload_n 2, 1), (12, .invokestatic 37, 3), (15, .istore 5, 2), (17, .aload_n 1, 1), (18, .iconst 0, 1), (19, .aload_n 0, 1), (20, .getfield 9, 3), (23, .aload_n 0, 1), (24, .getfield 27, 3), (27, .bipush 28, 2), (29, .imul, 1), (30, .bipush 28, 2), (32, .invokestatic 45, 3), (35, .aload_n 0, 1), (36, .getfield 15, 3), (39, .aload_n 0, 1), (40, .getfield 27, 3), (43, .iload_n 3, 1), (44, .iastore, 1), (45, .aload_n 0, 1), (46, .getfield 18, 3), (49, .aload_n 0, 1), (50, .getfield 27, 3), (53, .iload 4, 2), (55, .iastore, 1), (56, .aload_n 0, 1), (57, .getfield 21, 3), (60, .aload_n 0, 1), (61, .getfield 27, 3), (64, .aload_n 0, 1), (65, .getfield 24, 3), (68, .iload 5, 2), (70, .iaload, 1), (71, .iastore, 1), (72, .aload_n 0, 1), (73, .getfield 24, 3), (76, .iload 5, 2), (78, .aload_n 0, 1), (79, .getfield 27, 3), (82, .iastore, 1), (83, .aload_n 0, 1), (84, .dup, 1), (85, .getfield 27, 3), (88, .iconst 1, 1), (89, .iadd, 1), (90, .putfield 27, 3), (93, .return_, 1)]
def jq_91 : jmE := (yX8_add, cX8_add, 6, (Option.none : Option Jvm.ClassFile.FieldType), 8, false, jt_91)
set_option maxRecDepth 100000 in
def jt_92 : List (Nat × Instr × Nat) := [(0, .aload_n 0, 1), (1, .invokespecial 3, 3), (4, .aload_n 0, 1), (5, .sipush 1928, 3), (8, .newarray .int, 2), (10, .putfield 9, 3), (13, .aload_n 0, 1), (14, .sipush 1928, 3), (17, .newarray .int, 2), (19, .putfield 15, 3), (22, .aload_n 0, 1), (23, .sipush 1928, 3), (26, .newarray .int, 2), (28, .putfield 18, 3), (31, .aload_n 0, 1), (32, .sipush 1928, 3), (35, .newarray .int, 2), (37, .putfield 21, 3), (40, .aload_n 0, 1), (41, .sipush 1928, 3), (44, .newarray .int, 2), (46, .putfield 24, 3), (49, .aload_n 0, 1), (50, .sipush 256, 3), (53, .newarray .int, 2), (55, .putfield 27, 3), (58, .aload_n 0, 1), (59, .sipush 200, 3), (62, .newarray .boolean, 2), (64, .putfield 30, 3), (67, .aload_n 0, 1), (68, .sipush 200, 3), (71, .newarray .boolean, 2), (73, .putfield 34, 3), (76, .aload_n 0, 1), (77, .sipush 200, 3), (80, .newarray .int, 2), (82, .putfield 37, 3), (85, .aload_n 0, 1), (86, .sipush 200, 3), (89, .newarray .int, 2), (91, .putfield 40, 3), (94, .aload_n 0, 1), (95, .sipush 200, 3), (98, .newarray .int, 2), (100, .putfield 43, 3), (103, .aload_n 0, 1), (104, .getfield 27, 3), (107, .iconst (-1), 1), (108, .invokestatic 46, 3), (111, .return_, 1)]
def jq_92 : jmE := (yX9_init, cX9_init, 1, (Option.none : Option Jvm.ClassFile.FieldType), 9, true, jt_92)
set_option maxRecDepth 100000 in
def jt_93 : List (Nat × Instr × Nat) := [(0, .aload_n 0, 1), (1, .iconst 0, 1), (2, .putfield 52, 3), (5, .aload_n 0, 1), (6, .getfield 27, 3), (9, .iconst (-1), 1), (10, .invokestatic 46, 3), (13, .return_, 1)]
def jq_93 : jmE := (yX9_empty, cX9_empty, 1, (Option.none : Option Jvm.ClassFile.FieldType), 9, false, jt_93)
set_option maxRecDepth 100000 in
def jt_94 : List (Nat × Instr × Nat) := [(0, .iload_n 1, 1), (1, .bipush 37, 2), (3, .imul, 1), (4, .iload_n 2, 1), (5, .iadd, 1), (6, .bipush 11, 2), (8, .imul, 1), (9, .iload_n 0, 1), (10, .iadd, 1), (11, .sipush 255, 3), (14, .iand, 1), (15, .ireturn, 1)]
def jq_94 : jmE := (yX9_slotOf, cX9_slotOf, 3, (Option.some Jvm.ClassFile.FieldType.int), 9, false, jt_94)
set_option maxRecDepth 100000 in
def jt_95 : List (Nat × Instr × Nat) := [(0, .iload_n 1, 1), (1, .ifCond .lt 15, 3), (4, .iload_n 1, 1), (5, .aload_n 0, 1), (6, .getfield 52, 3), (9, .if_icmp .ge 7, 3), (12, .iconst 1, 1), (13, .goto 4, 3), (16, .iconst 0, 1), (17, .ireturn, 1)]
def jq_95 : jmE := (yX9_has, cX9_has, 2, (Option.some Jvm.ClassFile.FieldType.boolean), 9, false, jt_95)
set_option maxRecDepth 100000 in
def jt_96 : List (Nat × Instr × Nat) := [(0, .aload_n 0, 1), (1, .getfield 52, 3), (4, .sipush 200, 3), (7, .if_icmp .lt 7, 3), (10, .iconst 1, 1), (11, .goto 4, 3), (14, .iconst 0, 1), (15, .ireturn, 1)]
def jq_96 : jmE := (yX9_isFull, cX9_isFull, 1, (Option.some Jvm.ClassFile.FieldType.boolean), 9, false, jt_96)
set_option maxRecDepth 100000 in
def jt_97 : List (Nat × Instr × Nat) := [(0, .aload_n 0, 1), (1, .iload_n 1, 1), (2, .invokevirtual 56, 3), (5, .ifCond .eq 16, 3), (8, .aload_n 0, 1), (9, .getfield 9, 3), (12, .iload_n 1, 1), (13, .iaload, 1), (14, .ifCond .ne 7, 3), (17, .iconst 1, 1), (18, .goto 4, 3), (21, .iconst 0, 1), (22, .ireturn, 1)]
def jq_97 : jmE := (yX9_isAgent, cX9_isAgent, 2, (Option.some Jvm.ClassFile.FieldType.boolean), 9, false, jt_97)
set_option maxRecDepth 100000 in
def jt_98 : List (Nat × Instr × Nat) := [(0, .aload_n 0, 1), (1, .iload_n 1, 1), (2, .invokevirtual 60, 3), (5, .ifCond .eq 16, 3), (8, .aload_n 0, 1), (9, .getfield 34, 3), (12, .iload_n 1, 1), (13, .baload, 1), (14, .ifCond .eq 7, 3), (17, .iconst 1, 1), (18, .goto 4, 3), (21, .iconst 0, 1), (22, .ireturn, 1)]
def jq_98 : jmE := (yX9_isHonest, cX9_isHonest, 2, (Option.some Jvm.ClassFile.FieldType.boolean), 9, false, jt_98)
set_option maxRecDepth 100000 in
def jt_99 : List (Nat × Instr × Nat) := [(0, .aload_n 0, 1), (1, .iload_n 1, 1), (2, .invokevirtual 60, 3), (5, .ifCond .ne 30, 3), (8, .aload_n 0, 1), (9, .iload_n 1, 1), (10, .invokevirtual 56, 3), (13, .ifCond .eq 26, 3), (16, .aload_n 0, 1), (17, .getfield 9, 3), (20, .iload_n 1, 1), (21, .iaload, 1), (22, .iconst 3, 1), (23, .if_icmp .ne 16, 3), (26, .aload_n 0, 1), (27, .getfield 40, 3), (30, .iload_n 1, 1), (31, .iaload, 1), (32, .ifCond .ne 7, 3), (35, .iconst 1, 1), (36, .goto 4, 3), (39, .iconst 0, 1), (40, .ireturn, 1)]
def jq_99 : jmE := (yX9_mayBeAgent, cX9_mayBeAgent, 2, (Option.some Jvm.ClassFile.FieldType.boolean), 9, false, jt_99)
set_option maxRecDepth 100000 in
def jt_100 : List (Nat × Instr × Nat) := [(0, .aload_n 0, 1), (1, .iload_n 1, 1), (2, .invokevirtual 56, 3), (5, .ifCond .eq 26, 3), (8, .aload_n 0, 1), (9, .getfield 30, 3), (12, .iload_n 1, 1), (13, .baload, 1), (14, .ifCond .ne 17, 3), (17, .aload_n 0, 1), (18, .getfield 9, 3), (21, .iload_n 1, 1), (22, .iaload, 1), (23, .iconst 3, 1), (24, .if_icmp .eq 7, 3), (27, .iconst 1, 1), (28, .goto 4, 3), (31, .iconst 0, 1), (32, .ireturn, 1)]
def jq_100 : jmE := (yX9_isOpen, cX9_isOpen, 2, (Option.some Jvm.ClassFile.FieldType.boolean), 9, false, jt_100)
set_option maxRecDepth 100000 in
def jt_101 : List (Nat × Instr × Nat) := [(0, .aload_n 0, 1), (1, .iload_n 1, 1), (2, .invokevirtual 56, 3), (5, .ifCond .eq 12, 3), (8, .aload_n 0, 1), (9, .getfield 21, 3), (12, .iload_n 1, 1), (13, .iaload, 1), (14, .goto 4, 3), (17, .iconst 0, 1), (18, .ireturn, 1)]
def jq_101 : jmE := (yX9_sizeOf, cX9_sizeOf, 2, (Option.some Jvm.ClassFile.FieldType.int), 9, false, jt_101)
set_option maxRecDepth 100000 in
def jt_102 : List (Nat × Instr × Nat) := [(0, .aload_n 0, 1), (1, .aload_n 0, 1), (2, .getfield 27, 3), (5, .iload_n 1, 1), (6, .iload_n 2, 1), (7, .iload_n 3, 1), (8, .invokestatic 63, 3), (11, .iaload, 1), (12, .iload_n 1, 1), (13, .iload_n 2, 1), (14, .iload_n 3, 1), (15, .invokevirtual 67, 3), (18, .ireturn, 1)]
def jq_102 : jmE := (yX9_find, cX9_find, 4, (Option.some Jvm.ClassFile.FieldType.int), 9, false, jt_102)
set_option maxRecDepth 100000 in
def jt_103 : List (Nat × Instr × Nat) := [(0, .iload_n 1, 1), (1, .istore 5, 2), (3, .iconst 0, 1), (4, .istore 6, 2), (6, .iload 6, 2), (8, .sipush 1928, 3), (11, .if_icmp .ge 68, 3), (14, .iload 5, 2), (16, .ifCond .lt 63, 3), (19, .iload 5, 2), (21, .sipush 1928, 3), (24, .if_icmp .ge 55, 3), (27, .aload_n 0, 1), (28, .getfield 9, 3), (31, .iload 5, 2), (33, .iaload, 1), (34, .iload_n 2, 1), (35, .if_icmp .ne 29, 3), (38, .aload_n 0, 1), (39, .getfield 15, 3), (42, .iload 5, 2), (44, .iaload, 1), (45, .iload_n 3, 1), (46, .if_icmp .ne 18, 3), (49, .aload_n 0, 1), (50, .getfield 18, 3), (53, .iload 5, 2), (55, .iaload, 1), (56, .iload 4, 2), (58, .if_icmp .ne 6, 3), (61, .iload 5, 2), (63, .ireturn, 1), (64, .aload_n 0, 1), (65, .getfield 24, 3), (68, .iload 5, 2), (70, .iaload, 1), (71, .istore 5, 2), (73, .iinc 6 1, 3), (76, .goto (-70), 3), (79, .iconst (-1), 1), (80, .ireturn, 1)]
def jq_103 : jmE := (yX9_findFrom, cX9_findFrom, 7, (Option.some Jvm.ClassFile.FieldType.int), 9, false, jt_103)
set_option maxRecDepth 100000 in
def jt_104 : List (Nat × Instr × Nat) := [(0, .aload_n 0, 1), (1, .iload_n 1, 1), (2, .iconst (-1), 1), (3, .iconst (-1), 1), (4, .invokevirtual 71, 3), (7, .istore_n 3, 1), (8, .iload_n 3, 1), (9, .iconst (-1), 1), (10, .if_icmp .eq 10, 3), (13, .aload_n 0, 1), (14, .getfield 34, 3), (17, .iload_n 3, 1), (18, .iload_n 2, 1), (19, .bastore, 1), (20, .iload_n 3, 1), (21, .ireturn, 1)]
def jq_104 : jmE := (yX9_newAtom, cX9_newAtom, 4, (Option.some Jvm.ClassFile.FieldType.int), 9, false, jt_104)
set_option maxRecDepth 100000 in
def jt_105 : List (Nat × Instr × Nat) := [(0, .aload_n 0, 1), (1, .iconst 3, 1), (2, .iconst (-1), 1), (3, .iconst (-1), 1), (4, .invokevirtual 71, 3), (7, .istore 4, 2), (9, .iload 4, 2), (11, .iconst (-1), 1), (12, .if_icmp .eq 35, 3), (15, .aload_n 0, 1), (16, .getfield 30, 3), (19, .iload 4, 2), (21, .iconst 0, 1), (22, .bastore, 1), (23, .aload_n 0, 1), (24, .getfield 37, 3), (27, .iload 4, 2), (29, .iload_n 1, 1), (30, .iastore, 1), (31, .aload_n 0, 1), (32, .getfield 43, 3), (35, .iload 4, 2), (37, .iload_n 2, 1), (38, .iastore, 1), (39, .aload_n 0, 1), (40, .getfield 40, 3), (43, .iload 4, 2), (45, .iload_n 3, 1), (46, .iastore, 1), (47, .iload 4, 2), (49, .ireturn, 1)]
def jq_105 : jmE := (yX9_newVariable, cX9_newVariable, 5, (Option.some Jvm.ClassFile.FieldType.int), 9, false, jt_105)
set_option maxRecDepth 100000 in
def jt_106 : List (Nat × Instr × Nat) := [(0, .aload_n 0, 1), (1, .iload_n 1, 1), (2, .iload_n 2, 1), (3, .iload_n 3, 1), (4, .invokevirtual 71, 3), (7, .istore 4, 2), (9, .iload 4, 2), (11, .iconst (-1), 1), (12, .if_icmp .eq 34, 3), (15, .iload_n 1, 1), (16, .iload_n 2, 1), (17, .iload_n 3, 1), (18, .invokestatic 63, 3), (21, .istore 5, 2), (23, .aload_n 0, 1), (24, .getfield 24, 3), (27, .iload 4, 2), (29, .aload_n 0, 1), (30, .getfield 27, 3), (33, .iload 5, 2), (35, .iaload, 1), (36, .iastore, 1), (37, .aload_n 0, 1), (38, .getfield 27, 3), (41, .iload 5, 2), (43, .iload 4, 2), (45, .iastore, 1), (46, .iload 4, 2), (48, .ireturn, 1)]
def jq_106 : jmE := (yX9_newCompound, cX9_newCompound, 6, (Option.some Jvm.ClassFile.FieldType.int), 9, false, jt_106)
set_option maxRecDepth 100000 in
def jt_107_0 : List (Nat × Instr × Nat) := [(0, .aload_n 0, 1), (1, .invokevirtual 74, 3), (4, .ifCond .eq 5, 3), (7, .iconst (-1), 1), (8, .ireturn, 1), (9, .aload_n 0, 1), (10, .getfield 52, 3), (13, .istore 4, 2), (15, .aload_n 0, 1), (16, .getfield 9, 3), (19, .iload 4, 2), (21, .iload_n 1, 1), (22, .iastore, 1), (23, .aload_n 0, 1), (24, .getfield 15, 3), (27, .iload 4, 2), (29, .iload_n 2, 1), (30, .iastore, 1), (31, .aload_n 0, 1), (32, .getfield 18, 3), (35, .iload 4, 2), (37, .iload_n 3, 1), (38, .iastore, 1), (39, .aload_n 0, 1), (40, .getfield 21, 3), (43, .iload 4, 2), (45, .iconst 1, 1), (46, .aload_n 0, 1), (47, .iload_n 2, 1), (48, .invokevirtual 78, 3), (51, .iadd, 1), (52, .aload_n 0, 1), (53, .iload_n 3, 1), (54, .invokevirtual 78, 3), (57, .iadd, 1), (58, .iastore, 1), (59, .aload_n 0, 1), (60, .getfield 30, 3), (63, .iload 4, 2), (65, .aload_n 0, 1)]
def jt_107_1 : List (Nat × Instr × Nat) := [(66, .iload_n 2, 1), (67, .invokevirtual 56, 3), (70, .ifCond .eq 12, 3), (73, .aload_n 0, 1), (74, .getfield 30, 3), (77, .iload_n 2, 1), (78, .baload, 1), (79, .ifCond .eq 24, 3), (82, .aload_n 0, 1), (83, .iload_n 3, 1), (84, .invokevirtual 56, 3), (87, .ifCond .eq 12, 3), (90, .aload_n 0, 1), (91, .getfield 30, 3), (94, .iload_n 3, 1), (95, .baload, 1), (96, .ifCond .eq 7, 3), (99, .iconst 1, 1), (100, .goto 4, 3), (103, .iconst 0, 1), (104, .bastore, 1), (105, .aload_n 0, 1), (106, .getfield 34, 3), (109, .iload 4, 2), (111, .iconst 0, 1), (112, .bastore, 1), (113, .aload_n 0, 1), (114, .iload 4, 2), (116, .iconst 1, 1), (117, .iadd, 1), (118, .putfield 52, 3), (121, .iload 4, 2), (123, .ireturn, 1)]
def jt_107 : List (Nat × Instr × Nat) := jt_107_0 ++ (jt_107_1)
def jq_107 : jmE := (yX9_put, cX9_put, 5, (Option.some Jvm.ClassFile.FieldType.int), 9, false, jt_107)
set_option maxRecDepth 100000 in
def jt_108 : List (Nat × Instr × Nat) := [(0, .aload_n 0, 1), (1, .invokespecial 3, 3), (4, .aload_n 0, 1), (5, .new 9, 3), (8, .dup, 1), (9, .invokespecial 11, 3), (12, .putfield 12, 3), (15, .aload_n 0, 1), (16, .new 16, 3), (19, .dup, 1), (20, .aload_n 0, 1), (21, .getfield 12, 3), (24, .invokespecial 18, 3), (27, .putfield 21, 3), (30, .aload_n 0, 1), (31, .new 25, 3), (34, .dup, 1), (35, .aload_n 0, 1), (36, .getfield 21, 3), (39, .invokespecial 27, 3), (42, .putfield 30, 3), (45, .aload_n 0, 1), (46, .new 34, 3), (49, .dup, 1), (50, .aload_n 0, 1), (51, .getfield 21, 3), (54, .invokespecial 36, 3), (57, .putfield 37, 3), (60, .return_, 1)]
def jq_108 : jmE := (yX10_init, cX10_init, 1, (Option.none : Option Jvm.ClassFile.FieldType), 10, true, jt_108)
set_option maxRecDepth 100000 in
def jt_109 : List (Nat × Instr × Nat) := [(0, .aload_n 0, 1), (1, .getfield 12, 3), (4, .invokevirtual 41, 3), (7, .ifCond .eq 8, 3), (10, .bipush (-4), 2), (12, .goto 12, 3), (15, .aload_n 0, 1), (16, .getfield 12, 3), (19, .iconst 0, 1), (20, .iload_n 1, 1), (21, .invokevirtual 45, 3), (24, .ireturn, 1)]
def jq_109 : jmE := (yX10_agent, cX10_agent, 2, (Option.some Jvm.ClassFile.FieldType.int), 10, false, jt_109)
set_option maxRecDepth 100000 in
def jt_110 : List (Nat × Instr × Nat) := [(0, .iload_n 1, 1), (1, .iconst 1, 1), (2, .if_icmp .eq 11, 3), (5, .iload_n 1, 1), (6, .iconst 2, 1), (7, .if_icmp .eq 6, 3), (10, .bipush (-2), 2), (12, .ireturn, 1), (13, .aload_n 0, 1), (14, .getfield 12, 3), (17, .invokevirtual 41, 3), (20, .ifCond .eq 8, 3), (23, .bipush (-4), 2), (25, .goto 12, 3), (28, .aload_n 0, 1), (29, .getfield 12, 3), (32, .iload_n 1, 1), (33, .iconst 0, 1), (34, .invokevirtual 45, 3), (37, .ireturn, 1)]
def jq_110 : jmE := (yX10_atom, cX10_atom, 2, (Option.some Jvm.ClassFile.FieldType.int), 10, false, jt_110)
set_option maxRecDepth 100000 in
def jt_111 : List (Nat × Instr × Nat) := [(0, .aload_n 0, 1), (1, .getfield 12, 3), (4, .iload_n 2, 1), (5, .invokevirtual 49, 3), (8, .ifCond .eq 20, 3), (11, .iload_n 1, 1), (12, .bipush 9, 2), (14, .if_icmp .eq 16, 3), (17, .aload_n 0, 1), (18, .getfield 12, 3), (21, .iload_n 3, 1), (22, .invokevirtual 49, 3), (25, .ifCond .ne 5, 3), (28, .iconst (-1), 1), (29, .ireturn, 1), (30, .iload_n 1, 1), (31, .iconst 4, 1), (32, .if_icmp .eq 17, 3), (35, .iload_n 1, 1), (36, .iconst 5, 1), (37, .if_icmp .eq 12, 3), (40, .iload_n 1, 1), (41, .bipush 9, 2), (43, .if_icmp .eq 6, 3), (46, .bipush (-2), 2), (48, .ireturn, 1), (49, .aload_n 0, 1), (50, .iload_n 1, 1), (51, .iload_n 2, 1), (52, .iload_n 1, 1), (53, .bipush 9, 2), (55, .if_icmp .ne 7, 3), (58, .iconst (-1), 1), (59, .goto 4, 3), (62, .iload_n 3, 1), (63, .invokevirtual 53, 3), (66, .ireturn, 1)]
def jq_111 : jmE := (yX10_term, cX10_term, 4, (Option.some Jvm.ClassFile.FieldType.int), 10, false, jt_111)
set_option maxRecDepth 100000 in
def jt_112 : List (Nat × Instr × Nat) := [(0, .aload_n 0, 1), (1, .getfield 12, 3), (4, .iload_n 3, 1), (5, .invokevirtual 49, 3), (8, .ifCond .eq 20, 3), (11, .iload_n 1, 1), (12, .bipush 7, 2), (14, .if_icmp .eq 16, 3), (17, .aload_n 0, 1), (18, .getfield 12, 3), (21, .iload_n 2, 1), (22, .invokevirtual 49, 3), (25, .ifCond .ne 5, 3), (28, .iconst (-1), 1), (29, .ireturn, 1), (30, .iload_n 1, 1), (31, .bipush 6, 2), (33, .if_icmp .eq 15, 3), (36, .iload_n 1, 1), (37, .bipush 7, 2), (39, .if_icmp .eq 9, 3), (42, .iload_n 1, 1), (43, .bipush 8, 2), (45, .if_icmp .ne 14, 3), (48, .aload_n 0, 1), (49, .getfield 12, 3), (52, .iload_n 3, 1), (53, .invokevirtual 57, 3), (56, .ifCond .ne 6, 3), (59, .bipush (-2), 2), (61, .ireturn, 1), (62, .iload_n 1, 1), (63, .bipush 7, 2), (65, .if_icmp .ne 14, 3), (68, .aload_n 0, 1), (69, .bipush 7, 2), (71, .iload_n 3, 1), (72, .iconst (-1), 1), (73, .invokevirtual 53, 3), (76, .goto 10, 3), (79, .aload_n 0, 1), (80, .iload_n 1, 1), (81, .iload_n 2, 1), (82, .iload_n 3, 1), (83, .invokevirtual 53, 3), (86, .ireturn, 1)]
def jq_112 : jmE := (yX10_of, cX10_of, 4, (Option.some Jvm.ClassFile.FieldType.int), 10, false, jt_112)
set_option maxRecDepth 100000 in
def jt_113_0 : List (Nat × Instr × Nat) := [(0, .aload_n 0, 1), (1, .getfield 12, 3), (4, .iload_n 1, 1), (5, .invokevirtual 49, 3), (8, .ifCond .ne 5, 3), (11, .iconst (-1), 1), (12, .ireturn, 1), (13, .iload_n 2, 1), (14, .ifCond .lt 9, 3), (17, .iload_n 2, 1), (18, .bipush 8, 2), (20, .if_icmp .le 6, 3), (23, .bipush (-2), 2), (25, .ireturn, 1), (26, .aload_n 0, 1), (27, .getfield 12, 3), (30, .getfield 60, 3), (33, .iload_n 1, 1), (34, .iaload, 1), (35, .istore_n 3, 1), (36, .iload_n 2, 1), (37, .tableswitch 160 0 7 #[47, 49, 62, 75, 85, 98, 120, 140], 47), (84, .iload_n 3, 1), (85, .ireturn, 1), (86, .aload_n 0, 1), (87, .getfield 12, 3), (90, .getfield 64, 3), (93, .iload_n 1, 1), (94, .iaload, 1), (95, .invokestatic 67, 3), (98, .ireturn, 1), (99, .aload_n 0, 1), (100, .getfield 12, 3), (103, .getfield 71, 3), (106, .iload_n 1, 1), (107, .iaload, 1), (108, .invokestatic 67, 3), (111, .ireturn, 1), (112, .aload_n 0, 1), (113, .getfield 12, 3)]
def jt_113_1 : List (Nat × Instr × Nat) := [(116, .getfield 74, 3), (119, .iload_n 1, 1), (120, .iaload, 1), (121, .ireturn, 1), (122, .aload_n 0, 1), (123, .getfield 12, 3), (126, .getfield 77, 3), (129, .iload_n 1, 1), (130, .baload, 1), (131, .invokestatic 81, 3), (134, .ireturn, 1), (135, .iload_n 3, 1), (136, .ifCond .ne 18, 3), (139, .aload_n 0, 1), (140, .getfield 12, 3), (143, .getfield 85, 3), (146, .iload_n 1, 1), (147, .baload, 1), (148, .invokestatic 81, 3), (151, .goto 5, 3), (154, .bipush (-6), 2), (156, .ireturn, 1), (157, .iload_n 3, 1), (158, .iconst 3, 1), (159, .if_icmp .ne 15, 3), (162, .aload_n 0, 1), (163, .getfield 12, 3), (166, .getfield 88, 3), (169, .iload_n 1, 1), (170, .iaload, 1), (171, .goto 5, 3), (174, .bipush (-6), 2), (176, .ireturn, 1), (177, .iload_n 3, 1), (178, .iconst 3, 1), (179, .if_icmp .ne 15, 3), (182, .aload_n 0, 1), (183, .getfield 12, 3), (186, .getfield 91, 3), (189, .iload_n 1, 1)]
def jt_113_2 : List (Nat × Instr × Nat) := [(190, .iaload, 1), (191, .goto 5, 3), (194, .bipush (-6), 2), (196, .ireturn, 1), (197, .iload_n 3, 1), (198, .iconst 3, 1), (199, .if_icmp .ne 15, 3), (202, .aload_n 0, 1), (203, .getfield 12, 3), (206, .getfield 94, 3), (209, .iload_n 1, 1), (210, .iaload, 1), (211, .goto 5, 3), (214, .bipush (-6), 2), (216, .ireturn, 1)]
def jt_113 : List (Nat × Instr × Nat) := jt_113_0 ++ (jt_113_1 ++ (jt_113_2))
def jq_113 : jmE := (yX10_about, cX10_about, 4, (Option.some Jvm.ClassFile.FieldType.int), 10, false, jt_113)
set_option maxRecDepth 100000 in
def jt_114 : List (Nat × Instr × Nat) := [(0, .aload_n 0, 1), (1, .getfield 21, 3), (4, .getfield 97, 3), (7, .iconst 4, 1), (8, .if_icmp .lt 8, 3), (11, .bipush (-4), 2), (13, .goto 10, 3), (16, .aload_n 0, 1), (17, .getfield 21, 3), (20, .invokevirtual 101, 3), (23, .ireturn, 1)]
def jq_114 : jmE := (yX10_role, cX10_role, 1, (Option.some Jvm.ClassFile.FieldType.int), 10, false, jt_114)
set_option maxRecDepth 100000 in
def jt_115 : List (Nat × Instr × Nat) := [(0, .aload_n 0, 1), (1, .getfield 21, 3), (4, .iload_n 1, 1), (5, .invokevirtual 105, 3), (8, .ifCond .ne 5, 3), (11, .iconst (-1), 1), (12, .ireturn, 1), (13, .iload_n 2, 1), (14, .iload_n 3, 1), (15, .invokestatic 108, 3), (18, .ifCond .ne 6, 3), (21, .bipush (-2), 2), (23, .ireturn, 1), (24, .aload_n 0, 1), (25, .getfield 21, 3), (28, .getfield 112, 3), (31, .iload_n 1, 1), (32, .aaload, 1), (33, .astore 4, 2), (35, .aload 4, 2), (37, .getfield 116, 3), (40, .ifCond .eq 6, 3), (43, .bipush (-3), 2), (45, .ireturn, 1), (46, .aload 4, 2), (48, .getfield 122, 3), (51, .bipush 6, 2), (53, .if_icmp .ge 13, 3), (56, .aload_n 0, 1), (57, .getfield 12, 3), (60, .invokevirtual 41, 3), (63, .ifCond .eq 6, 3), (66, .bipush (-4), 2), (68, .ireturn, 1), (69, .aload_n 0, 1), (70, .getfield 12, 3), (73, .iload_n 1, 1), (74, .aload 4, 2), (76, .getfield 122, 3), (79, .iload_n 3, 1), (80, .invokevirtual 125, 3), (83, .istore 5, 2), (85, .aload 4, 2), (87, .iload_n 2, 1), (88, .iload_n 3, 1), (89, .invokevirtual 128, 3), (92, .iload 5, 2), (94, .ireturn, 1)]
def jq_115 : jmE := (yX10_variable, cX10_variable, 6, (Option.some Jvm.ClassFile.FieldType.int), 10, false, jt_115)
set_option maxRecDepth 100000 in
def jt_116 : List (Nat × Instr × Nat) := [(0, .aload_n 0, 1), (1, .getfield 21, 3), (4, .iload_n 1, 1), (5, .invokevirtual 105, 3), (8, .ifCond .eq 14, 3), (11, .aload_n 0, 1), (12, .getfield 12, 3), (15, .iload_n 3, 1), (16, .invokevirtual 49, 3), (19, .ifCond .ne 5, 3), (22, .iconst (-1), 1), (23, .ireturn, 1), (24, .aload_n 0, 1), (25, .getfield 21, 3), (28, .getfield 112, 3), (31, .iload_n 1, 1), (32, .aaload, 1), (33, .astore 4, 2), (35, .aload 4, 2), (37, .getfield 116, 3), (40, .ifCond .eq 6, 3), (43, .bipush (-3), 2), (45, .ireturn, 1), (46, .aload 4, 2), (48, .getfield 132, 3), (51, .bipush 6, 2), (53, .if_icmp .lt 6, 3), (56, .bipush (-4), 2), (58, .ireturn, 1), (59, .aload_n 0, 1), (60, .getfield 21, 3), (63, .iload_n 1, 1), (64, .iload_n 2, 1), (65, .iload_n 3, 1), (66, .invokevirtual 135, 3), (69, .ifCond .ne 6, 3), (72, .bipush (-5), 2), (74, .ireturn, 1), (75, .aload_n 0, 1), (76, .getfield 21, 3), (79, .aload 4, 2), (81, .iload_n 2, 1), (82, .iload_n 3, 1), (83, .invokevirtual 139, 3), (86, .ireturn, 1)]
def jq_116 : jmE := (yX10_event, cX10_event, 5, (Option.some Jvm.ClassFile.FieldType.int), 10, false, jt_116)
set_option maxRecDepth 100000 in
def jt_117 : List (Nat × Instr × Nat) := [(0, .aload_n 0, 1), (1, .getfield 12, 3), (4, .iload_n 1, 1), (5, .invokevirtual 49, 3), (8, .ifCond .ne 5, 3), (11, .iconst (-1), 1), (12, .ireturn, 1), (13, .aload_n 0, 1), (14, .getfield 30, 3), (17, .getfield 143, 3), (20, .ifCond .eq 6, 3), (23, .bipush (-3), 2), (25, .ireturn, 1), (26, .aload_n 0, 1), (27, .getfield 21, 3), (30, .getfield 146, 3), (33, .bipush 20, 2), (35, .if_icmp .lt 6, 3), (38, .bipush (-4), 2), (40, .ireturn, 1), (41, .aload_n 0, 1), (42, .getfield 12, 3), (45, .getfield 77, 3), (48, .iload_n 1, 1), (49, .baload, 1), (50, .ifCond .eq 14, 3), (53, .aload_n 0, 1), (54, .getfield 21, 3), (57, .iload_n 1, 1), (58, .invokevirtual 149, 3), (61, .ifCond .eq 6, 3), (64, .bipush (-5), 2), (66, .ireturn, 1), (67, .aload_n 0, 1), (68, .getfield 37, 3), (71, .invokevirtual 152, 3), (74, .aload_n 0, 1), (75, .getfield 21, 3), (78, .iload_n 1, 1), (79, .invokevirtual 155, 3), (82, .ireturn, 1)]
def jq_117 : jmE := (yX10_know, cX10_know, 2, (Option.some Jvm.ClassFile.FieldType.int), 10, false, jt_117)
set_option maxRecDepth 100000 in
def jt_118_0 : List (Nat × Instr × Nat) := [(0, .aload_n 0, 1), (1, .getfield 21, 3), (4, .iload_n 1, 1), (5, .invokevirtual 105, 3), (8, .ifCond .ne 5, 3), (11, .iconst (-1), 1), (12, .ireturn, 1), (13, .aload_n 0, 1), (14, .getfield 21, 3), (17, .getfield 112, 3), (20, .iload_n 1, 1), (21, .aaload, 1), (22, .iconst 0, 1), (23, .invokevirtual 158, 3), (26, .istore 5, 2), (28, .iload 5, 2), (30, .ifCond .le 14, 3), (33, .aload_n 0, 1), (34, .getfield 12, 3), (37, .iload_n 2, 1), (38, .invokevirtual 49, 3), (41, .ifCond .eq 38, 3), (44, .iload 5, 2), (46, .iconst 1, 1), (47, .if_icmp .le 14, 3), (50, .aload_n 0, 1), (51, .getfield 12, 3), (54, .iload_n 3, 1), (55, .invokevirtual 49, 3), (58, .ifCond .eq 21, 3), (61, .iload 5, 2), (63, .iconst 2, 1), (64, .if_icmp .le 17, 3), (67, .aload_n 0, 1), (68, .getfield 12, 3), (71, .iload 4, 2), (73, .invokevirtual 49, 3), (76, .ifCond .ne 5, 3), (79, .iconst (-1), 1), (80, .ireturn, 1)]
def jt_118_1 : List (Nat × Instr × Nat) := [(81, .aload_n 0, 1), (82, .getfield 30, 3), (85, .getfield 143, 3), (88, .ifCond .eq 6, 3), (91, .bipush (-3), 2), (93, .ireturn, 1), (94, .aload_n 0, 1), (95, .getfield 21, 3), (98, .getfield 161, 3), (101, .iconst 4, 1), (102, .if_icmp .ge 30, 3), (105, .aload_n 0, 1), (106, .getfield 12, 3), (109, .getfield 164, 3), (112, .aload_n 0, 1), (113, .getfield 21, 3), (116, .getfield 112, 3), (119, .iload_n 1, 1), (120, .aaload, 1), (121, .iconst 1, 1), (122, .invokevirtual 158, 3), (125, .iadd, 1), (126, .sipush 200, 3), (129, .if_icmp .le 6, 3), (132, .bipush (-4), 2), (134, .ireturn, 1), (135, .iload 5, 2), (137, .iconst 1, 1), (138, .if_icmp .lt 14, 3), (141, .aload_n 0, 1), (142, .getfield 12, 3), (145, .iload_n 2, 1), (146, .invokevirtual 167, 3), (149, .ifCond .eq 42, 3), (152, .iload 5, 2), (154, .iconst 2, 1), (155, .if_icmp .lt 14, 3), (158, .aload_n 0, 1), (159, .getfield 12, 3), (162, .iload_n 3, 1)]
def jt_118_2 : List (Nat × Instr × Nat) := [(163, .invokevirtual 167, 3), (166, .ifCond .eq 25, 3), (169, .iload 5, 2), (171, .iconst 3, 1), (172, .if_icmp .lt 15, 3), (175, .aload_n 0, 1), (176, .getfield 12, 3), (179, .iload 4, 2), (181, .invokevirtual 167, 3), (184, .ifCond .eq 7, 3), (187, .iconst 1, 1), (188, .goto 4, 3), (191, .iconst 0, 1), (192, .istore 6, 2), (194, .iload 5, 2), (196, .iconst 3, 1), (197, .if_icmp .gt 8, 3), (200, .iload 6, 2), (202, .ifCond .ne 6, 3), (205, .bipush (-5), 2), (207, .ireturn, 1), (208, .aload_n 0, 1), (209, .getfield 37, 3), (212, .invokevirtual 152, 3), (215, .aload_n 0, 1), (216, .getfield 21, 3), (219, .iload_n 1, 1), (220, .iload_n 2, 1), (221, .iload_n 3, 1), (222, .iload 4, 2), (224, .invokevirtual 170, 3), (227, .ireturn, 1)]
def jt_118 : List (Nat × Instr × Nat) := jt_118_0 ++ (jt_118_1 ++ (jt_118_2))
def jq_118 : jmE := (yX10_session, cX10_session, 7, (Option.some Jvm.ClassFile.FieldType.int), 10, false, jt_118)
set_option maxRecDepth 100000 in
def jt_119 : List (Nat × Instr × Nat) := [(0, .aload_n 0, 1), (1, .getfield 21, 3), (4, .iload_n 1, 1), (5, .iload_n 2, 1), (6, .invokevirtual 174, 3), (9, .ifCond .ne 5, 3), (12, .iconst (-1), 1), (13, .ireturn, 1), (14, .aload_n 0, 1), (15, .getfield 21, 3), (18, .getfield 177, 3), (21, .bipush 6, 2), (23, .if_icmp .lt 8, 3), (26, .bipush (-4), 2), (28, .goto 14, 3), (31, .aload_n 0, 1), (32, .getfield 21, 3), (35, .iconst 1, 1), (36, .iload_n 1, 1), (37, .iload_n 1, 1), (38, .iload_n 2, 1), (39, .invokevirtual 180, 3), (42, .ireturn, 1)]
def jq_119 : jmE := (yX10_secret, cX10_secret, 3, (Option.some Jvm.ClassFile.FieldType.int), 10, false, jt_119)
set_option maxRecDepth 100000 in
def jt_120 : List (Nat × Instr × Nat) := [(0, .aload_n 0, 1), (1, .getfield 21, 3), (4, .iload_n 1, 1), (5, .invokevirtual 105, 3), (8, .ifCond .eq 14, 3), (11, .aload_n 0, 1), (12, .getfield 21, 3), (15, .iload_n 2, 1), (16, .invokevirtual 105, 3), (19, .ifCond .ne 5, 3), (22, .iconst (-1), 1), (23, .ireturn, 1), (24, .iload_n 3, 1), (25, .ifCond .lt 9, 3), (28, .iload_n 3, 1), (29, .bipush 6, 2), (31, .if_icmp .le 6, 3), (34, .bipush (-2), 2), (36, .ireturn, 1), (37, .aload_n 0, 1), (38, .getfield 21, 3), (41, .getfield 177, 3), (44, .bipush 6, 2), (46, .if_icmp .lt 8, 3), (49, .bipush (-4), 2), (51, .goto 14, 3), (54, .aload_n 0, 1), (55, .getfield 21, 3), (58, .iconst 0, 1), (59, .iload_n 1, 1), (60, .iload_n 2, 1), (61, .iload_n 3, 1), (62, .invokevirtual 180, 3), (65, .ireturn, 1)]
def jq_120 : jmE := (yX10_agree, cX10_agree, 4, (Option.some Jvm.ClassFile.FieldType.int), 10, false, jt_120)
set_option maxRecDepth 100000 in
def jt_121 : List (Nat × Instr × Nat) := [(0, .aload_n 0, 1), (1, .getfield 21, 3), (4, .iload_n 1, 1), (5, .invokevirtual 184, 3), (8, .ifCond .ne 5, 3), (11, .iconst (-1), 1), (12, .ireturn, 1), (13, .aload_n 0, 1), (14, .getfield 21, 3), (17, .getfield 187, 3), (20, .iload_n 1, 1), (21, .aaload, 1), (22, .astore 4, 2), (24, .aload 4, 2), (26, .getfield 191, 3), (29, .ifCond .eq 6, 3), (32, .bipush (-3), 2), (34, .ireturn, 1), (35, .aload_n 0, 1), (36, .getfield 21, 3), (39, .aload 4, 2), (41, .getfield 196, 3), (44, .iload_n 2, 1), (45, .invokevirtual 174, 3), (48, .ifCond .eq 19, 3), (51, .aload_n 0, 1), (52, .getfield 21, 3), (55, .aload 4, 2), (57, .getfield 199, 3), (60, .iload_n 3, 1), (61, .invokevirtual 174, 3), (64, .ifCond .ne 5, 3), (67, .iconst (-1), 1), (68, .ireturn, 1), (69, .aload 4, 2), (71, .getfield 202, 3), (74, .iconst 4, 1), (75, .if_icmp .lt 8, 3), (78, .bipush (-4), 2), (80, .goto 10, 3), (83, .aload 4, 2), (85, .iload_n 2, 1), (86, .iload_n 3, 1), (87, .invokevirtual 205, 3), (90, .ireturn, 1)]
def jq_121 : jmE := (yX10_join, cX10_join, 5, (Option.some Jvm.ClassFile.FieldType.int), 10, false, jt_121)
set_option maxRecDepth 100000 in
def jt_122 : List (Nat × Instr × Nat) := [(0, .aload_n 0, 1), (1, .getfield 30, 3), (4, .invokevirtual 209, 3), (7, .aload_n 0, 1), (8, .getfield 21, 3), (11, .getfield 161, 3), (14, .ireturn, 1)]
def jq_122 : jmE := (yX10_begin, cX10_begin, 1, (Option.some Jvm.ClassFile.FieldType.int), 10, false, jt_122)
set_option maxRecDepth 100000 in
def jt_123 : List (Nat × Instr × Nat) := [(0, .aload_n 0, 1), (1, .getfield 30, 3), (4, .getfield 143, 3), (7, .ifCond .ne 6, 3), (10, .bipush (-3), 2), (12, .ireturn, 1), (13, .aload_n 0, 1), (14, .getfield 30, 3), (17, .iconst 0, 1), (18, .putfield 143, 3), (21, .aload_n 0, 1), (22, .getfield 30, 3), (25, .getfield 212, 3), (28, .ireturn, 1)]
def jq_123 : jmE := (yX10_end, cX10_end, 1, (Option.some Jvm.ClassFile.FieldType.int), 10, false, jt_123)
set_option maxRecDepth 100000 in
def jt_124 : List (Nat × Instr × Nat) := [(0, .aload_n 0, 1), (1, .getfield 21, 3), (4, .iload_n 1, 1), (5, .invokevirtual 213, 3), (8, .ifCond .ne 5, 3), (11, .iconst (-1), 1), (12, .ireturn, 1), (13, .aload_n 0, 1), (14, .getfield 30, 3), (17, .getfield 143, 3), (20, .ifCond .ne 6, 3), (23, .bipush (-3), 2), (25, .ireturn, 1), (26, .aload_n 0, 1), (27, .getfield 21, 3), (30, .aload_n 0, 1), (31, .getfield 30, 3), (34, .getfield 216, 3), (37, .iconst 0, 1), (38, .iload_n 1, 1), (39, .invokevirtual 219, 3), (42, .astore_n 2, 1), (43, .aload_n 2, 1), (44, .ifnull 10, 3), (47, .aload_n 2, 1), (48, .getfield 223, 3), (51, .ifCond .ne 6, 3), (54, .bipush (-5), 2), (56, .ireturn, 1), (57, .aload_n 0, 1), (58, .getfield 30, 3), (61, .iload_n 1, 1), (62, .invokevirtual 228, 3), (65, .aload_n 0, 1), (66, .getfield 30, 3), (69, .invokevirtual 232, 3), (72, .getfield 236, 3), (75, .ireturn, 1)]
def jq_124 : jmE := (yX10_send, cX10_send, 3, (Option.some Jvm.ClassFile.FieldType.int), 10, false, jt_124)
set_option maxRecDepth 100000 in
def jt_125_0 : List (Nat × Instr × Nat) := [(0, .aload_n 0, 1), (1, .getfield 21, 3), (4, .iload_n 1, 1), (5, .invokevirtual 213, 3), (8, .ifCond .eq 14, 3), (11, .aload_n 0, 1), (12, .getfield 12, 3), (15, .iload_n 2, 1), (16, .invokevirtual 49, 3), (19, .ifCond .ne 5, 3), (22, .iconst (-1), 1), (23, .ireturn, 1), (24, .aload_n 0, 1), (25, .getfield 30, 3), (28, .getfield 143, 3), (31, .ifCond .ne 6, 3), (34, .bipush (-3), 2), (36, .ireturn, 1), (37, .aload_n 0, 1), (38, .getfield 21, 3), (41, .aload_n 0, 1), (42, .getfield 30, 3), (45, .getfield 216, 3), (48, .iconst 0, 1), (49, .iload_n 1, 1), (50, .invokevirtual 219, 3), (53, .astore_n 3, 1), (54, .aload_n 3, 1), (55, .ifnull 37, 3), (58, .aload_n 3, 1), (59, .getfield 223, 3), (62, .ifCond .ne 30, 3), (65, .aload_n 0, 1), (66, .getfield 12, 3), (69, .getfield 77, 3), (72, .iload_n 2, 1), (73, .baload, 1), (74, .ifCond .eq 18, 3), (77, .aload_n 0, 1), (78, .getfield 30, 3)]
def jt_125_1 : List (Nat × Instr × Nat) := [(81, .invokevirtual 232, 3), (84, .iload_n 2, 1), (85, .iconst 0, 1), (86, .invokevirtual 241, 3), (89, .ifCond .ne 6, 3), (92, .bipush (-5), 2), (94, .ireturn, 1), (95, .aload_n 0, 1), (96, .getfield 30, 3), (99, .iload_n 1, 1), (100, .aload_n 3, 1), (101, .iload_n 2, 1), (102, .invokevirtual 244, 3), (105, .ifCond .ne 6, 3), (108, .bipush (-5), 2), (110, .ireturn, 1), (111, .aload_n 0, 1), (112, .getfield 30, 3), (115, .iload_n 1, 1), (116, .invokevirtual 228, 3), (119, .aload_n 0, 1), (120, .getfield 21, 3), (123, .aload_n 0, 1), (124, .getfield 30, 3), (127, .getfield 216, 3), (130, .iconst 0, 1), (131, .iload_n 1, 1), (132, .invokevirtual 248, 3), (135, .ireturn, 1)]
def jt_125 : List (Nat × Instr × Nat) := jt_125_0 ++ (jt_125_1)
def jq_125 : jmE := (yX10_receive, cX10_receive, 4, (Option.some Jvm.ClassFile.FieldType.int), 10, false, jt_125)
set_option maxRecDepth 100000 in
def jt_126 : List (Nat × Instr × Nat) := [(0, .aload_n 0, 1), (1, .getfield 12, 3), (4, .iload_n 1, 1), (5, .invokevirtual 49, 3), (8, .ifCond .ne 5, 3), (11, .iconst (-1), 1), (12, .ireturn, 1), (13, .aload_n 0, 1), (14, .getfield 30, 3), (17, .getfield 143, 3), (20, .ifCond .ne 6, 3), (23, .bipush (-3), 2), (25, .ireturn, 1), (26, .aload_n 0, 1), (27, .getfield 12, 3), (30, .getfield 77, 3), (33, .iload_n 1, 1), (34, .baload, 1), (35, .ifCond .eq 21, 3), (38, .aload_n 0, 1), (39, .getfield 30, 3), (42, .invokevirtual 232, 3), (45, .iload_n 1, 1), (46, .iconst 0, 1), (47, .invokevirtual 241, 3), (50, .invokestatic 81, 3), (53, .goto 5, 3), (56, .bipush (-5), 2), (58, .ireturn, 1)]
def jq_126 : jmE := (yX10_makes, cX10_makes, 2, (Option.some Jvm.ClassFile.FieldType.int), 10, false, jt_126)
set_option maxRecDepth 100000 in
def jt_127 : List (Nat × Instr × Nat) := [(0, .iload_n 2, 1), (1, .ifCond .lt 8, 3), (4, .iload_n 2, 1), (5, .iconst 4, 1), (6, .if_icmp .le 6, 3), (9, .bipush (-2), 2), (11, .ireturn, 1), (12, .aload_n 0, 1), (13, .getfield 30, 3), (16, .getfield 143, 3), (19, .ifCond .ne 6, 3), (22, .bipush (-3), 2), (24, .ireturn, 1), (25, .aload_n 0, 1), (26, .getfield 30, 3), (29, .invokevirtual 232, 3), (32, .astore_n 3, 1), (33, .iload_n 1, 1), (34, .ifCond .lt 11, 3), (37, .iload_n 1, 1), (38, .aload_n 3, 1), (39, .getfield 236, 3), (42, .if_icmp .lt 6, 3), (45, .bipush (-6), 2), (47, .ireturn, 1), (48, .aload_n 3, 1), (49, .getfield 252, 3), (52, .iload_n 1, 1), (53, .iaload, 1), (54, .istore 4, 2), (56, .iload_n 2, 1), (57, .tableswitch 70 0 3 #[31, 42, 53, 60], 31), (88, .aload_n 0, 1), (89, .getfield 12, 3), (92, .getfield 60, 3), (95, .iload 4, 2), (97, .iaload, 1), (98, .ireturn, 1), (99, .aload_n 0, 1), (100, .getfield 12, 3), (103, .getfield 74, 3), (106, .iload 4, 2), (108, .iaload, 1), (109, .ireturn, 1), (110, .aload_n 3, 1), (111, .getfield 255, 3), (114, .iload_n 1, 1), (115, .iaload, 1), (116, .ireturn, 1), (117, .aload_n 3, 1), (118, .getfield 258, 3), (121, .iload_n 1, 1), (122, .iaload, 1), (123, .invokestatic 67, 3), (126, .ireturn, 1), (127, .aload_n 0, 1), (128, .aload_n 3, 1), (129, .iload 4, 2), (131, .invokevirtual 261, 3), (134, .ireturn, 1)]
def jq_127 : jmE := (yX10_row, cX10_row, 5, (Option.some Jvm.ClassFile.FieldType.int), 10, false, jt_127)
set_option maxRecDepth 100000 in
def jt_128 : List (Nat × Instr × Nat) := [(0, .aload_n 0, 1), (1, .getfield 21, 3), (4, .iload_n 1, 1), (5, .invokevirtual 213, 3), (8, .ifCond .eq 23, 3), (11, .aload_n 0, 1), (12, .getfield 21, 3), (15, .aload_n 0, 1), (16, .getfield 21, 3), (19, .getfield 265, 3), (22, .iload_n 1, 1), (23, .iaload, 1), (24, .iload_n 2, 1), (25, .invokevirtual 174, 3), (28, .ifCond .ne 5, 3), (31, .iconst (-1), 1), (32, .ireturn, 1), (33, .aload_n 0, 1), (34, .getfield 30, 3), (37, .getfield 143, 3), (40, .ifCond .ne 6, 3), (43, .bipush (-3), 2), (45, .ireturn, 1), (46, .aload_n 0, 1), (47, .getfield 21, 3), (50, .aload_n 0, 1), (51, .getfield 30, 3), (54, .getfield 216, 3), (57, .iconst 0, 1), (58, .iload_n 1, 1), (59, .iload_n 2, 1), (60, .invokevirtual 268, 3), (63, .invokestatic 67, 3), (66, .ireturn, 1)]
def jq_128 : jmE := (yX10_stands, cX10_stands, 3, (Option.some Jvm.ClassFile.FieldType.int), 10, false, jt_128)
set_option maxRecDepth 100000 in
def jt_129 : List (Nat × Instr × Nat) := [(0, .aload_n 0, 1), (1, .getfield 21, 3), (4, .iload_n 1, 1), (5, .invokevirtual 213, 3), (8, .ifCond .ne 5, 3), (11, .iconst (-1), 1), (12, .ireturn, 1), (13, .aload_n 0, 1), (14, .getfield 30, 3), (17, .getfield 143, 3), (20, .ifCond .eq 22, 3), (23, .aload_n 0, 1), (24, .getfield 21, 3), (27, .aload_n 0, 1), (28, .getfield 30, 3), (31, .getfield 216, 3), (34, .iconst 0, 1), (35, .iload_n 1, 1), (36, .invokevirtual 248, 3), (39, .goto 5, 3), (42, .bipush (-3), 2), (44, .ireturn, 1)]
def jq_129 : jmE := (yX10_done, cX10_done, 2, (Option.some Jvm.ClassFile.FieldType.int), 10, false, jt_129)
set_option maxRecDepth 100000 in
def jt_130 : List (Nat × Instr × Nat) := [(0, .aload_n 0, 1), (1, .getfield 21, 3), (4, .iload_n 1, 1), (5, .invokevirtual 184, 3), (8, .ifCond .ne 5, 3), (11, .iconst (-1), 1), (12, .ireturn, 1), (13, .aload_n 0, 1), (14, .getfield 30, 3), (17, .getfield 143, 3), (20, .ifCond .eq 32, 3), (23, .aload_n 0, 1), (24, .getfield 21, 3), (27, .iload_n 1, 1), (28, .aload_n 0, 1), (29, .getfield 30, 3), (32, .getfield 216, 3), (35, .iconst 0, 1), (36, .aload_n 0, 1), (37, .getfield 30, 3), (40, .invokevirtual 232, 3), (43, .invokevirtual 272, 3), (46, .invokestatic 81, 3), (49, .goto 5, 3), (52, .bipush (-3), 2), (54, .ireturn, 1)]
def jq_130 : jmE := (yX10_broken, cX10_broken, 2, (Option.some Jvm.ClassFile.FieldType.int), 10, false, jt_130)
set_option maxRecDepth 100000 in
def jt_131 : List (Nat × Instr × Nat) := [(0, .aload_n 0, 1), (1, .getfield 30, 3), (4, .getfield 143, 3), (7, .ifCond .ne 6, 3), (10, .bipush (-3), 2), (12, .ireturn, 1), (13, .aload_n 0, 1), (14, .getfield 30, 3), (17, .getfield 212, 3), (20, .ifCond .ne 8, 3), (23, .bipush (-5), 2), (25, .goto 10, 3), (28, .aload_n 0, 1), (29, .getfield 30, 3), (32, .invokevirtual 276, 3), (35, .ireturn, 1)]
def jq_131 : jmE := (yX10_undo, cX10_undo, 1, (Option.some Jvm.ClassFile.FieldType.int), 10, false, jt_131)
set_option maxRecDepth 100000 in
def jt_132 : List (Nat × Instr × Nat) := [(0, .aload_n 0, 1), (1, .getfield 37, 3), (4, .invokevirtual 279, 3), (7, .iconst 0, 1), (8, .istore_n 1, 1), (9, .iload_n 1, 1), (10, .sipush 600, 3), (13, .if_icmp .ge 28, 3), (16, .aload_n 0, 1), (17, .getfield 37, 3), (20, .iload_n 1, 1), (21, .invokevirtual 280, 3), (24, .ifCond .eq 17, 3), (27, .aload_n 0, 1), (28, .getfield 37, 3), (31, .iload_n 1, 1), (32, .invokevirtual 283, 3), (35, .iinc 1 1, 3), (38, .goto (-29), 3), (41, .aload_n 0, 1), (42, .getfield 37, 3), (45, .getfield 286, 3), (48, .ireturn, 1)]
def jq_132 : jmE := (yX10_search, cX10_search, 2, (Option.some Jvm.ClassFile.FieldType.int), 10, false, jt_132)
set_option maxRecDepth 100000 in
def jt_133 : List (Nat × Instr × Nat) := [(0, .iload_n 1, 1), (1, .tableswitch 81 0 3 #[31, 42, 50, 73], 31), (32, .aload_n 0, 1), (33, .getfield 37, 3), (36, .getfield 289, 3), (39, .getfield 293, 3), (42, .ireturn, 1), (43, .aload_n 0, 1), (44, .getfield 37, 3), (47, .getfield 296, 3), (50, .ireturn, 1), (51, .aload_n 0, 1), (52, .getfield 37, 3), (55, .invokevirtual 299, 3), (58, .ifCond .eq 13, 3), (61, .aload_n 0, 1), (62, .getfield 37, 3), (65, .getfield 302, 3), (68, .goto 5, 3), (71, .bipush (-6), 2), (73, .ireturn, 1), (74, .aload_n 0, 1), (75, .getfield 37, 3), (78, .getfield 303, 3), (81, .ireturn, 1), (82, .bipush (-2), 2), (84, .ireturn, 1)]
def jq_133 : jmE := (yX10_found, cX10_found, 2, (Option.some Jvm.ClassFile.FieldType.int), 10, false, jt_133)
set_option maxRecDepth 100000 in
def jt_134 : List (Nat × Instr × Nat) := [(0, .aload_n 0, 1), (1, .getfield 37, 3), (4, .invokevirtual 299, 3), (7, .ifCond .eq 30, 3), (10, .iload_n 1, 1), (11, .ifCond .lt 26, 3), (14, .iload_n 1, 1), (15, .aload_n 0, 1), (16, .getfield 37, 3), (19, .getfield 302, 3), (22, .if_icmp .ge 15, 3), (25, .aload_n 0, 1), (26, .getfield 37, 3), (29, .getfield 306, 3), (32, .iload_n 1, 1), (33, .iaload, 1), (34, .goto 5, 3), (37, .bipush (-6), 2), (39, .ireturn, 1)]
def jq_134 : jmE := (yX10_attack, cX10_attack, 2, (Option.some Jvm.ClassFile.FieldType.int), 10, false, jt_134)
set_option maxRecDepth 100000 in
def jt_135 : List (Nat × Instr × Nat) := [(0, .aload_n 0, 1), (1, .getfield 37, 3), (4, .invokevirtual 299, 3), (7, .ifCond .ne 6, 3), (10, .bipush (-3), 2), (12, .ireturn, 1), (13, .iload_n 1, 1), (14, .ifCond .lt 14, 3), (17, .iload_n 1, 1), (18, .aload_n 0, 1), (19, .getfield 37, 3), (22, .getfield 302, 3), (25, .if_icmp .le 6, 3), (28, .bipush (-2), 2), (30, .ireturn, 1), (31, .aload_n 0, 1), (32, .getfield 30, 3), (35, .invokevirtual 209, 3), (38, .iconst 0, 1), (39, .istore_n 2, 1), (40, .iload_n 2, 1), (41, .iload_n 1, 1), (42, .if_icmp .ge 42, 3), (45, .aload_n 0, 1), (46, .getfield 30, 3), (49, .aload_n 0, 1), (50, .getfield 37, 3), (53, .getfield 306, 3), (56, .iload_n 2, 1), (57, .iaload, 1), (58, .aload_n 0, 1), (59, .getfield 37, 3), (62, .getfield 289, 3), (65, .getfield 309, 3), (68, .aload_n 0, 1), (69, .getfield 37, 3), (72, .invokevirtual 310, 3), (75, .invokevirtual 313, 3), (78, .iinc 2 1, 3), (81, .goto (-41), 3), (84, .aload_n 0, 1), (85, .getfield 30, 3), (88, .invokevirtual 232, 3), (91, .getfield 236, 3), (94, .ireturn, 1)]
def jq_135 : jmE := (yX10_play, cX10_play, 3, (Option.some Jvm.ClassFile.FieldType.int), 10, false, jt_135)
set_option maxRecDepth 100000 in
def jt_136 : List (Nat × Instr × Nat) := [(0, .iload_n 1, 1), (1, .tableswitch 102 0 5 #[39, 47, 55, 63, 71, 79], 39), (40, .aload_n 0, 1), (41, .getfield 12, 3), (44, .getfield 164, 3), (47, .ireturn, 1), (48, .aload_n 0, 1), (49, .getfield 21, 3), (52, .getfield 97, 3), (55, .ireturn, 1), (56, .aload_n 0, 1), (57, .getfield 21, 3), (60, .getfield 161, 3), (63, .ireturn, 1), (64, .aload_n 0, 1), (65, .getfield 21, 3), (68, .getfield 177, 3), (71, .ireturn, 1), (72, .aload_n 0, 1), (73, .getfield 21, 3), (76, .getfield 146, 3), (79, .ireturn, 1), (80, .aload_n 0, 1), (81, .getfield 30, 3), (84, .getfield 143, 3), (87, .ifCond .eq 13, 3), (90, .aload_n 0, 1), (91, .getfield 30, 3), (94, .getfield 212, 3), (97, .goto 5, 3), (100, .bipush (-6), 2), (102, .ireturn, 1), (103, .bipush (-2), 2), (105, .ireturn, 1)]
def jq_136 : jmE := (yX10_told, cX10_told, 2, (Option.some Jvm.ClassFile.FieldType.int), 10, false, jt_136)
set_option maxRecDepth 100000 in
def jt_137_0 : List (Nat × Instr × Nat) := [(0, .aload_n 0, 1), (1, .getfield 21, 3), (4, .iload_n 1, 1), (5, .invokevirtual 105, 3), (8, .ifCond .ne 5, 3), (11, .iconst (-1), 1), (12, .ireturn, 1), (13, .aload_n 0, 1), (14, .getfield 21, 3), (17, .getfield 112, 3), (20, .iload_n 1, 1), (21, .aaload, 1), (22, .astore_n 3, 1), (23, .iload_n 2, 1), (24, .ifCond .lt 39, 3), (27, .iload_n 2, 1), (28, .iconst 2, 1), (29, .if_icmp .gt 34, 3), (32, .iload_n 2, 1), (33, .ifCond .ne 10, 3), (36, .aload_n 3, 1), (37, .getfield 122, 3), (40, .goto 22, 3), (43, .iload_n 2, 1), (44, .iconst 1, 1), (45, .if_icmp .ne 10, 3), (48, .aload_n 3, 1), (49, .getfield 132, 3), (52, .goto 10, 3), (55, .aload_n 3, 1), (56, .getfield 116, 3), (59, .invokestatic 81, 3), (62, .ireturn, 1), (63, .iload_n 2, 1), (64, .bipush 10, 2), (66, .invokestatic 317, 3), (69, .istore 4, 2), (71, .iload_n 2, 1), (72, .bipush 10, 2), (74, .if_icmp .lt 15, 3)]
def jt_137_1 : List (Nat × Instr × Nat) := [(77, .iload_n 2, 1), (78, .bipush 35, 2), (80, .if_icmp .gt 9, 3), (83, .iload 4, 2), (85, .iconst 5, 1), (86, .if_icmp .le 6, 3), (89, .bipush (-2), 2), (91, .ireturn, 1), (92, .iload_n 2, 1), (93, .bipush 30, 2), (95, .if_icmp .lt 25, 3), (98, .iload 4, 2), (100, .aload_n 3, 1), (101, .getfield 122, 3), (104, .if_icmp .ge 13, 3), (107, .aload_n 3, 1), (108, .getfield 322, 3), (111, .iload 4, 2), (113, .iaload, 1), (114, .goto 5, 3), (117, .bipush (-6), 2), (119, .ireturn, 1), (120, .iload 4, 2), (122, .aload_n 3, 1), (123, .getfield 132, 3), (126, .if_icmp .lt 6, 3), (129, .bipush (-6), 2), (131, .ireturn, 1), (132, .iload_n 2, 1), (133, .bipush 20, 2), (135, .if_icmp .ge 16, 3), (138, .aload_n 3, 1), (139, .getfield 325, 3), (142, .iload 4, 2), (144, .aaload, 1), (145, .getfield 329, 3), (148, .goto 16, 3), (151, .aload_n 3, 1), (152, .getfield 325, 3), (155, .iload 4, 2)]
def jt_137_2 : List (Nat × Instr × Nat) := [(157, .aaload, 1), (158, .getfield 223, 3), (161, .invokestatic 81, 3), (164, .ireturn, 1)]
def jt_137 : List (Nat × Instr × Nat) := jt_137_0 ++ (jt_137_1 ++ (jt_137_2))
def jq_137 : jmE := (yX10_ofRole, cX10_ofRole, 5, (Option.some Jvm.ClassFile.FieldType.int), 10, false, jt_137)
set_option maxRecDepth 100000 in
def jt_138 : List (Nat × Instr × Nat) := [(0, .aload_n 0, 1), (1, .getfield 12, 3), (4, .getfield 164, 3), (7, .istore_n 1, 1), (8, .aload_n 0, 1), (9, .getfield 30, 3), (12, .iconst 0, 1), (13, .putfield 143, 3), (16, .aload_n 0, 1), (17, .getfield 37, 3), (20, .invokevirtual 152, 3), (23, .aload_n 0, 1), (24, .getfield 21, 3), (27, .invokevirtual 332, 3), (30, .aload_n 0, 1), (31, .getfield 12, 3), (34, .invokevirtual 335, 3), (37, .iload_n 1, 1), (38, .ireturn, 1)]
def jq_138 : jmE := (yX10_clear, cX10_clear, 2, (Option.some Jvm.ClassFile.FieldType.int), 10, false, jt_138)
set_option maxRecDepth 100000 in
def jt_139 : List (Nat × Instr × Nat) := [(0, .iload_n 0, 1), (1, .ifCond .eq 7, 3), (4, .iconst 1, 1), (5, .goto 4, 3), (8, .iconst 0, 1), (9, .ireturn, 1)]
def jq_139 : jmE := (yX10_asNumber, cX10_asNumber, 1, (Option.some Jvm.ClassFile.FieldType.int), 10, false, jt_139)
set_option maxRecDepth 100000 in
def jt_140 : List (Nat × Instr × Nat) := [(0, .iload_n 0, 1), (1, .iconst (-1), 1), (2, .if_icmp .ne 8, 3), (5, .bipush (-6), 2), (7, .goto 4, 3), (10, .iload_n 0, 1), (11, .ireturn, 1)]
def jq_140 : jmE := (yX10_orNone, cX10_orNone, 1, (Option.some Jvm.ClassFile.FieldType.int), 10, false, jt_140)
set_option maxRecDepth 100000 in
def jt_141 : List (Nat × Instr × Nat) := [(0, .iload_n 0, 1), (1, .tableswitch 68 0 2 #[27, 37, 53], 27), (28, .iload_n 1, 1), (29, .ifCond .ne 7, 3), (32, .iconst 1, 1), (33, .goto 4, 3), (36, .iconst 0, 1), (37, .ireturn, 1), (38, .iload_n 1, 1), (39, .iconst 1, 1), (40, .if_icmp .eq 8, 3), (43, .iload_n 1, 1), (44, .iconst 2, 1), (45, .if_icmp .ne 7, 3), (48, .iconst 1, 1), (49, .goto 4, 3), (52, .iconst 0, 1), (53, .ireturn, 1), (54, .iload_n 1, 1), (55, .ifCond .lt 12, 3), (58, .iload_n 1, 1), (59, .iconst 3, 1), (60, .if_icmp .gt 7, 3), (63, .iconst 1, 1), (64, .goto 4, 3), (67, .iconst 0, 1), (68, .ireturn, 1), (69, .iconst 0, 1), (70, .ireturn, 1)]
def jq_141 : jmE := (yX10_maySort, cX10_maySort, 2, (Option.some Jvm.ClassFile.FieldType.boolean), 10, false, jt_141)
set_option maxRecDepth 100000 in
def jt_142 : List (Nat × Instr × Nat) := [(0, .iconst 1, 1), (1, .aload_n 0, 1), (2, .getfield 12, 3), (5, .iload_n 2, 1), (6, .invokevirtual 336, 3), (9, .iadd, 1), (10, .aload_n 0, 1), (11, .getfield 12, 3), (14, .iload_n 3, 1), (15, .invokevirtual 336, 3), (18, .iadd, 1), (19, .bipush 24, 2), (21, .if_icmp .le 6, 3), (24, .bipush (-2), 2), (26, .ireturn, 1), (27, .aload_n 0, 1), (28, .getfield 12, 3), (31, .iload_n 1, 1), (32, .iload_n 2, 1), (33, .iload_n 3, 1), (34, .invokevirtual 339, 3), (37, .istore 4, 2), (39, .iload 4, 2), (41, .iconst (-1), 1), (42, .if_icmp .eq 6, 3), (45, .iload 4, 2), (47, .ireturn, 1), (48, .aload_n 0, 1), (49, .getfield 12, 3), (52, .invokevirtual 41, 3), (55, .ifCond .eq 8, 3), (58, .bipush (-4), 2), (60, .goto 13, 3), (63, .aload_n 0, 1), (64, .getfield 12, 3), (67, .iload_n 1, 1), (68, .iload_n 2, 1), (69, .iload_n 3, 1), (70, .invokevirtual 342, 3), (73, .ireturn, 1)]
def jq_142 : jmE := (yX10_compound, cX10_compound, 5, (Option.some Jvm.ClassFile.FieldType.int), 10, false, jt_142)
set_option maxRecDepth 100000 in
def jt_143 : List (Nat × Instr × Nat) := [(0, .aload_n 0, 1), (1, .getfield 12, 3), (4, .getfield 164, 3), (7, .aload_n 1, 1), (8, .iload_n 2, 1), (9, .invokevirtual 345, 3), (12, .iadd, 1), (13, .sipush 200, 3), (16, .if_icmp .le 6, 3), (19, .bipush (-4), 2), (21, .ireturn, 1), (22, .aload_n 0, 1), (23, .getfield 12, 3), (26, .getfield 74, 3), (29, .iload_n 2, 1), (30, .iaload, 1), (31, .bipush 24, 2), (33, .if_icmp .le 8, 3), (36, .bipush (-5), 2), (38, .goto 9, 3), (41, .aload_n 1, 1), (42, .iload_n 2, 1), (43, .iconst 0, 1), (44, .invokevirtual 348, 3), (47, .ireturn, 1)]
def jq_143 : jmE := (yX10_numbered, cX10_numbered, 3, (Option.some Jvm.ClassFile.FieldType.int), 10, false, jt_143)
set_option maxRecDepth 100000 in
def jt_144_0 : List (Nat × Instr × Nat) := [(0, .aload_n 0, 1), (1, .invokespecial 1, 3), (4, .aload_n 0, 1), (5, .sipush 1000, 3), (8, .newarray .int, 2), (10, .putfield 7, 3), (13, .aload_n 0, 1), (14, .sipush 1000, 3), (17, .newarray .int, 2), (19, .putfield 13, 3), (22, .aload_n 0, 1), (23, .sipush 1000, 3), (26, .newarray .int, 2), (28, .putfield 16, 3), (31, .aload_n 0, 1), (32, .sipush 1000, 3), (35, .newarray .int, 2), (37, .putfield 19, 3), (40, .aload_n 0, 1), (41, .sipush 1000, 3), (44, .newarray .boolean, 2), (46, .putfield 22, 3), (49, .aload_n 0, 1), (50, .sipush 200, 3), (53, .newarray .boolean, 2), (55, .putfield 26, 3), (58, .aload_n 0, 1), (59, .sipush 200, 3), (62, .newarray .int, 2), (64, .putfield 29, 3), (67, .aload_n 0, 1), (68, .sipush 200, 3), (71, .newarray .int, 2), (73, .putfield 32, 3), (76, .aload_n 0, 1), (77, .sipush 200, 3), (80, .newarray .int, 2), (82, .putfield 35, 3), (85, .aload_n 0, 1), (86, .sipush 200, 3)]
def jt_144_1 : List (Nat × Instr × Nat) := [(89, .putfield 38, 3), (92, .aload_n 0, 1), (93, .sipush 1024, 3), (96, .newarray .int, 2), (98, .putfield 42, 3), (101, .aload_n 0, 1), (102, .sipush 1000, 3), (105, .newarray .int, 2), (107, .putfield 45, 3), (110, .aload_n 0, 1), (111, .iconst 4, 1), (112, .newarray .int, 2), (114, .putfield 48, 3), (117, .aload_n 0, 1), (118, .bipush 24, 2), (120, .newarray .int, 2), (122, .putfield 51, 3), (125, .aload_n 0, 1), (126, .bipush 24, 2), (128, .newarray .int, 2), (130, .putfield 54, 3), (133, .aload_n 0, 1), (134, .iconst 4, 1), (135, .newarray .int, 2), (137, .putfield 57, 3), (140, .aload_n 0, 1), (141, .bipush 24, 2), (143, .newarray .int, 2), (145, .putfield 60, 3), (148, .aload_n 0, 1), (149, .bipush 24, 2), (151, .newarray .boolean, 2), (153, .putfield 63, 3), (156, .aload_n 0, 1), (157, .iconst 4, 1), (158, .newarray .boolean, 2), (160, .putfield 66, 3), (163, .aload_n 0, 1), (164, .bipush 24, 2), (166, .newarray .int, 2)]
def jt_144_2 : List (Nat × Instr × Nat) := [(168, .putfield 69, 3), (171, .aload_n 0, 1), (172, .sipush 600, 3), (175, .newarray .int, 2), (177, .putfield 72, 3), (180, .aload_n 0, 1), (181, .bipush 24, 2), (183, .newarray .int, 2), (185, .putfield 75, 3), (188, .aload_n 0, 1), (189, .bipush 20, 2), (191, .newarray .int, 2), (193, .putfield 78, 3), (196, .aload_n 0, 1), (197, .iconst 4, 1), (198, .newarray .int, 2), (200, .putfield 81, 3), (203, .aload_n 0, 1), (204, .bipush 24, 2), (206, .newarray .int, 2), (208, .putfield 84, 3), (211, .aload_n 0, 1), (212, .bipush 6, 2), (214, .newarray .boolean, 2), (216, .putfield 87, 3), (219, .aload_n 0, 1), (220, .bipush 6, 2), (222, .newarray .int, 2), (224, .putfield 90, 3), (227, .aload_n 0, 1), (228, .bipush 6, 2), (230, .newarray .int, 2), (232, .putfield 93, 3), (235, .aload_n 0, 1), (236, .bipush 6, 2), (238, .newarray .int, 2), (240, .putfield 96, 3), (243, .aload_n 0, 1), (244, .bipush 6, 2), (246, .newarray .int, 2)]
def jt_144_3 : List (Nat × Instr × Nat) := [(248, .putfield 99, 3), (251, .aload_n 0, 1), (252, .bipush 24, 2), (254, .newarray .int, 2), (256, .putfield 102, 3), (259, .aload_n 0, 1), (260, .bipush 24, 2), (262, .newarray .int, 2), (264, .putfield 105, 3), (267, .aload_n 0, 1), (268, .iconst 4, 1), (269, .newarray .int, 2), (271, .putfield 108, 3), (274, .aload_n 0, 1), (275, .bipush 24, 2), (277, .newarray .int, 2), (279, .putfield 111, 3), (282, .aload_n 0, 1), (283, .sipush 200, 3), (286, .newarray .boolean, 2), (288, .putfield 114, 3), (291, .aload_n 0, 1), (292, .sipush 200, 3), (295, .newarray .int, 2), (297, .putfield 117, 3), (300, .aload_n 0, 1), (301, .sipush 1000, 3), (304, .newarray .int, 2), (306, .putfield 120, 3), (309, .aload_n 0, 1), (310, .sipush 1000, 3), (313, .newarray .int, 2), (315, .putfield 123, 3), (318, .aload_n 0, 1), (319, .sipush 1000, 3), (322, .newarray .int, 2), (324, .putfield 126, 3), (327, .aload_n 0, 1), (328, .sipush 1000, 3), (331, .newarray .boolean, 2)]
def jt_144_4 : List (Nat × Instr × Nat) := [(333, .putfield 129, 3), (336, .aload_n 0, 1), (337, .sipush 1000, 3), (340, .newarray .boolean, 2), (342, .putfield 132, 3), (345, .aload_n 0, 1), (346, .iconst (-1), 1), (347, .putfield 135, 3), (350, .aload_n 0, 1), (351, .iconst 4, 1), (352, .newarray .int, 2), (354, .putfield 138, 3), (357, .aload_n 0, 1), (358, .bipush 24, 2), (360, .newarray .int, 2), (362, .putfield 141, 3), (365, .aload_n 0, 1), (366, .bipush 24, 2), (368, .newarray .int, 2), (370, .putfield 144, 3), (373, .aload_n 0, 1), (374, .iconst 4, 1), (375, .newarray .int, 2), (377, .putfield 147, 3), (380, .aload_n 0, 1), (381, .sipush 600, 3), (384, .newarray .int, 2), (386, .putfield 150, 3), (389, .aload_n 0, 1), (390, .bipush 6, 2), (392, .newarray .int, 2), (394, .putfield 153, 3), (397, .aload_n 0, 1), (398, .sipush 600, 3), (401, .newarray .int, 2), (403, .putfield 156, 3), (406, .aload_n 0, 1), (407, .sipush 1000, 3), (410, .newarray .boolean, 2), (412, .putfield 159, 3)]
def jt_144_5 : List (Nat × Instr × Nat) := [(415, .aload_n 0, 1), (416, .sipush 600, 3), (419, .newarray .int, 2), (421, .putfield 162, 3), (424, .aload_n 0, 1), (425, .sipush 600, 3), (428, .newarray .int, 2), (430, .putfield 165, 3), (433, .aload_n 0, 1), (434, .sipush 600, 3), (437, .newarray .int, 2), (439, .putfield 168, 3), (442, .aload_n 0, 1), (443, .sipush 2400, 3), (446, .newarray .int, 2), (448, .putfield 171, 3), (451, .aload_n 0, 1), (452, .sipush 14400, 3), (455, .newarray .int, 2), (457, .putfield 174, 3), (460, .aload_n 0, 1), (461, .sipush 600, 3), (464, .newarray .int, 2), (466, .putfield 177, 3), (469, .aload_n 0, 1), (470, .sipush 600, 3), (473, .newarray .int, 2), (475, .putfield 180, 3), (478, .aload_n 0, 1), (479, .bipush (-6), 2), (481, .putfield 183, 3), (484, .aload_n 0, 1), (485, .bipush 24, 2), (487, .newarray .int, 2), (489, .putfield 186, 3), (492, .aload_n 0, 1), (493, .bipush 24, 2), (495, .newarray .int, 2), (497, .putfield 189, 3), (500, .aload_n 0, 1)]
def jt_144_6 : List (Nat × Instr × Nat) := [(501, .iconst 4, 1), (502, .newarray .int, 2), (504, .putfield 192, 3), (507, .aload_n 0, 1), (508, .bipush 24, 2), (510, .newarray .int, 2), (512, .putfield 195, 3), (515, .aload_n 0, 1), (516, .bipush 6, 2), (518, .newarray .int, 2), (520, .putfield 198, 3), (523, .aload_n 0, 1), (524, .bipush 6, 2), (526, .newarray .int, 2), (528, .putfield 201, 3), (531, .aload_n 0, 1), (532, .invokevirtual 204, 3), (535, .return_, 1)]
def jt_144 : List (Nat × Instr × Nat) := jt_144_0 ++ (jt_144_1 ++ (jt_144_2 ++ (jt_144_3 ++ (jt_144_4 ++ (jt_144_5 ++ (jt_144_6))))))
def jq_144 : jmE := (yX11_init, cX11_init, 1, (Option.none : Option Jvm.ClassFile.FieldType), 11, true, jt_144)
set_option maxRecDepth 100000 in
def jt_145 : List (Nat × Instr × Nat) := [(0, .lload_n 0, 1), (1, .lload_n 2, 1), (2, .lcmp, 1), (3, .ifCond .lt 14, 3), (6, .lload_n 0, 1), (7, .lload 4, 2), (9, .lcmp, 1), (10, .ifCond .gt 7, 3), (13, .iconst 1, 1), (14, .goto 4, 3), (17, .iconst 0, 1), (18, .ireturn, 1)]
def jq_145 : jmE := (yX11_in, cX11_in, 6, (Option.some Jvm.ClassFile.FieldType.boolean), 11, false, jt_145)
set_option maxRecDepth 100000 in
def jt_146 : List (Nat × Instr × Nat) := [(0, .iconst 0, 1), (1, .istore_n 1, 1), (2, .iload_n 1, 1), (3, .sipush 1024, 3), (6, .if_icmp .ge 16, 3), (9, .aload_n 0, 1), (10, .getfield 42, 3), (13, .iload_n 1, 1), (14, .iconst (-1), 1), (15, .iastore, 1), (16, .iinc 1 1, 3), (19, .goto (-17), 3), (22, .return_, 1)]
def jq_146 : jmE := (yX11_emptyTable, cX11_emptyTable, 2, (Option.none : Option Jvm.ClassFile.FieldType), 11, false, jt_146)
set_option maxRecDepth 100000 in
def jt_147 : List (Nat × Instr × Nat) := [(0, .iload_n 0, 1), (1, .sipush 7919, 3), (4, .imul, 1), (5, .iload_n 1, 1), (6, .sipush 263, 3), (9, .imul, 1), (10, .iadd, 1), (11, .iload_n 2, 1), (12, .bipush 31, 2), (14, .imul, 1), (15, .iadd, 1), (16, .sipush 1023, 3), (19, .iand, 1), (20, .ireturn, 1)]
def jq_147 : jmE := (yX11_placeOf, cX11_placeOf, 3, (Option.some Jvm.ClassFile.FieldType.int), 11, false, jt_147)
set_option maxRecDepth 100000 in
def jt_148 : List (Nat × Instr × Nat) := [(0, .aload_n 0, 1), (1, .getfield 42, 3), (4, .iload_n 1, 1), (5, .iload_n 2, 1), (6, .iload_n 3, 1), (7, .invokestatic 207, 3), (10, .iaload, 1), (11, .istore 4, 2), (13, .iload 4, 2), (15, .ifCond .lt 48, 3), (18, .aload_n 0, 1), (19, .getfield 7, 3), (22, .iload 4, 2), (24, .iaload, 1), (25, .iload_n 1, 1), (26, .if_icmp .ne 25, 3), (29, .aload_n 0, 1), (30, .getfield 13, 3), (33, .iload 4, 2), (35, .iaload, 1), (36, .iload_n 2, 1), (37, .if_icmp .ne 14, 3), (40, .aload_n 0, 1), (41, .getfield 16, 3), (44, .iload 4, 2), (46, .iaload, 1), (47, .iload_n 3, 1), (48, .if_icmp .eq 15, 3), (51, .aload_n 0, 1), (52, .getfield 45, 3), (55, .iload 4, 2), (57, .iaload, 1), (58, .istore 4, 2), (60, .goto (-47), 3), (63, .iload 4, 2), (65, .ireturn, 1)]
def jq_148 : jmE := (yX11_find, cX11_find, 5, (Option.some Jvm.ClassFile.FieldType.int), 11, false, jt_148)
set_option maxRecDepth 100000 in
def jt_149_0 : List (Nat × Instr × Nat) := [(0, .aload_n 0, 1), (1, .getfield 7, 3), (4, .iload_n 1, 1), (5, .iload_n 2, 1), (6, .iastore, 1), (7, .aload_n 0, 1), (8, .getfield 13, 3), (11, .iload_n 1, 1), (12, .iload_n 3, 1), (13, .iastore, 1), (14, .aload_n 0, 1), (15, .getfield 16, 3), (18, .iload_n 1, 1), (19, .iload 4, 2), (21, .iastore, 1), (22, .aload_n 0, 1), (23, .getfield 19, 3), (26, .iload_n 1, 1), (27, .aload_n 0, 1), (28, .iload_n 2, 1), (29, .iload_n 3, 1), (30, .iload 4, 2), (32, .invokevirtual 211, 3), (35, .iastore, 1), (36, .aload_n 0, 1), (37, .getfield 22, 3), (40, .iload_n 1, 1), (41, .iload_n 2, 1), (42, .iconst 3, 1), (43, .if_icmp .eq 35, 3), (46, .iload_n 3, 1), (47, .ifCond .lt 12, 3), (50, .aload_n 0, 1), (51, .getfield 22, 3), (54, .iload_n 3, 1), (55, .baload, 1), (56, .ifCond .eq 22, 3), (59, .iload 4, 2), (61, .ifCond .lt 13, 3), (64, .aload_n 0, 1)]
def jt_149_1 : List (Nat × Instr × Nat) := [(65, .getfield 22, 3), (68, .iload 4, 2), (70, .baload, 1), (71, .ifCond .eq 7, 3), (74, .iconst 1, 1), (75, .goto 4, 3), (78, .iconst 0, 1), (79, .bastore, 1), (80, .iload_n 2, 1), (81, .iconst 3, 1), (82, .if_icmp .le 33, 3), (85, .iload_n 2, 1), (86, .iload_n 3, 1), (87, .iload 4, 2), (89, .invokestatic 207, 3), (92, .istore 5, 2), (94, .aload_n 0, 1), (95, .getfield 45, 3), (98, .iload_n 1, 1), (99, .aload_n 0, 1), (100, .getfield 42, 3), (103, .iload 5, 2), (105, .iaload, 1), (106, .iastore, 1), (107, .aload_n 0, 1), (108, .getfield 42, 3), (111, .iload 5, 2), (113, .iload_n 1, 1), (114, .iastore, 1), (115, .return_, 1)]
def jt_149 : List (Nat × Instr × Nat) := jt_149_0 ++ (jt_149_1)
def jq_149 : jmE := (yX11_lay, cX11_lay, 6, (Option.none : Option Jvm.ClassFile.FieldType), 11, false, jt_149)
set_option maxRecDepth 100000 in
def jt_150 : List (Nat × Instr × Nat) := [(0, .iload_n 1, 1), (1, .iconst 3, 1), (2, .if_icmp .gt 5, 3), (5, .iconst 1, 1), (6, .ireturn, 1), (7, .iload_n 1, 1), (8, .bipush 7, 2), (10, .if_icmp .ne 5, 3), (13, .iconst 2, 1), (14, .ireturn, 1), (15, .iconst 1, 1), (16, .aload_n 0, 1), (17, .getfield 19, 3), (20, .iload_n 2, 1), (21, .iaload, 1), (22, .iadd, 1), (23, .iload_n 1, 1), (24, .iconst 4, 1), (25, .if_icmp .eq 8, 3), (28, .iload_n 1, 1), (29, .iconst 5, 1), (30, .if_icmp .ne 12, 3), (33, .aload_n 0, 1), (34, .getfield 19, 3), (37, .iload_n 3, 1), (38, .iaload, 1), (39, .goto 14, 3), (42, .iload_n 1, 1), (43, .bipush 9, 2), (45, .if_icmp .ne 7, 3), (48, .iconst 0, 1), (49, .goto 4, 3), (52, .iconst 1, 1), (53, .iadd, 1), (54, .ireturn, 1)]
def jq_150 : jmE := (yX11_sizeOf, cX11_sizeOf, 4, (Option.some Jvm.ClassFile.FieldType.int), 11, false, jt_150)
set_option maxRecDepth 100000 in
def jt_151 : List (Nat × Instr × Nat) := [(0, .aload_n 0, 1), (1, .getfield 38, 3), (4, .iconst 1, 1), (5, .isub, 1), (6, .istore_n 2, 1), (7, .iload_n 2, 1), (8, .iload_n 1, 1), (9, .if_icmp .lt 41, 3), (12, .aload_n 0, 1), (13, .getfield 42, 3), (16, .aload_n 0, 1), (17, .getfield 7, 3), (20, .iload_n 2, 1), (21, .iaload, 1), (22, .aload_n 0, 1), (23, .getfield 13, 3), (26, .iload_n 2, 1), (27, .iaload, 1), (28, .aload_n 0, 1), (29, .getfield 16, 3), (32, .iload_n 2, 1), (33, .iaload, 1), (34, .invokestatic 207, 3), (37, .aload_n 0, 1), (38, .getfield 45, 3), (41, .iload_n 2, 1), (42, .iaload, 1), (43, .iastore, 1), (44, .iinc 2 (-1), 3), (47, .goto (-40), 3), (50, .aload_n 0, 1), (51, .iload_n 1, 1), (52, .putfield 38, 3), (55, .aload_n 0, 1), (56, .aload_n 0, 1), (57, .getfield 214, 3), (60, .iload_n 1, 1), (61, .if_icmp .ge 10, 3), (64, .aload_n 0, 1), (65, .getfield 214, 3), (68, .goto 4, 3), (71, .iload_n 1, 1), (72, .putfield 214, 3), (75, .return_, 1)]
def jq_151 : jmE := (yX11_release, cX11_release, 3, (Option.none : Option Jvm.ClassFile.FieldType), 11, false, jt_151)
set_option maxRecDepth 100000 in
def jt_152 : List (Nat × Instr × Nat) := [(0, .aload_n 0, 1), (1, .sipush 200, 3), (4, .invokevirtual 217, 3), (7, .aload_n 0, 1), (8, .iconst 0, 1), (9, .putfield 221, 3), (12, .aload_n 0, 1), (13, .aload_n 0, 1), (14, .getfield 225, 3), (17, .iload_n 1, 1), (18, .iload_n 2, 1), (19, .iload_n 3, 1), (20, .invokevirtual 228, 3), (23, .aload_n 0, 1), (24, .dup, 1), (25, .getfield 225, 3), (28, .iconst 1, 1), (29, .iadd, 1), (30, .putfield 225, 3), (33, .aload_n 0, 1), (34, .getfield 225, 3), (37, .iconst 1, 1), (38, .isub, 1), (39, .ireturn, 1)]
def jq_152 : jmE := (yX11_last, cX11_last, 4, (Option.some Jvm.ClassFile.FieldType.int), 11, false, jt_152)
set_option maxRecDepth 100000 in
def jt_153 : List (Nat × Instr × Nat) := [(0, .aload_n 0, 1), (1, .iload_n 1, 1), (2, .iload_n 2, 1), (3, .iload_n 3, 1), (4, .invokevirtual 232, 3), (7, .istore 4, 2), (9, .iload 4, 2), (11, .ifCond .ge 28, 3), (14, .aload_n 0, 1), (15, .getfield 38, 3), (18, .istore 4, 2), (20, .aload_n 0, 1), (21, .iload 4, 2), (23, .iload_n 1, 1), (24, .iload_n 2, 1), (25, .iload_n 3, 1), (26, .invokevirtual 228, 3), (29, .aload_n 0, 1), (30, .dup, 1), (31, .getfield 38, 3), (34, .iconst 1, 1), (35, .iadd, 1), (36, .putfield 38, 3), (39, .iload 4, 2), (41, .ireturn, 1)]
def jq_153 : jmE := (yX11_made, cX11_made, 5, (Option.some Jvm.ClassFile.FieldType.int), 11, false, jt_153)
set_option maxRecDepth 100000 in
def jt_154 : List (Nat × Instr × Nat) := [(0, .iload_n 1, 1), (1, .i2l, 1), (2, .lconst 0, 1), (3, .aload_n 0, 1), (4, .getfield 225, 3), (7, .iconst 1, 1), (8, .isub, 1), (9, .i2l, 1), (10, .invokestatic 235, 3), (13, .ireturn, 1)]
def jq_154 : jmE := (yX11_isTerm, cX11_isTerm, 2, (Option.some Jvm.ClassFile.FieldType.boolean), 11, false, jt_154)
set_option maxRecDepth 100000 in
def jt_155 : List (Nat × Instr × Nat) := [(0, .aload_n 0, 1), (1, .getfield 225, 3), (4, .sipush 200, 3), (7, .if_icmp .ne 6, 3), (10, .bipush (-4), 2), (12, .ireturn, 1), (13, .aload_n 0, 1), (14, .iconst 0, 1), (15, .iconst (-1), 1), (16, .iconst (-1), 1), (17, .invokevirtual 239, 3), (20, .istore_n 2, 1), (21, .aload_n 0, 1), (22, .getfield 26, 3), (25, .iload_n 2, 1), (26, .iload_n 1, 1), (27, .bastore, 1), (28, .iload_n 2, 1), (29, .ireturn, 1)]
def jq_155 : jmE := (yX11_agent, cX11_agent, 3, (Option.some Jvm.ClassFile.FieldType.int), 11, false, jt_155)
set_option maxRecDepth 100000 in
def jt_156 : List (Nat × Instr × Nat) := [(0, .iload_n 1, 1), (1, .i2l, 1), (2, .lconst 1, 1), (3, .ldc2_w 242, 3), (6, .invokestatic 235, 3), (9, .ifCond .ne 6, 3), (12, .bipush (-2), 2), (14, .ireturn, 1), (15, .aload_n 0, 1), (16, .getfield 225, 3), (19, .sipush 200, 3), (22, .if_icmp .ne 8, 3), (25, .bipush (-4), 2), (27, .goto 10, 3), (30, .aload_n 0, 1), (31, .iload_n 1, 1), (32, .iconst (-1), 1), (33, .iconst (-1), 1), (34, .invokevirtual 239, 3), (37, .ireturn, 1)]
def jq_156 : jmE := (yX11_atom, cX11_atom, 2, (Option.some Jvm.ClassFile.FieldType.int), 11, false, jt_156)
set_option maxRecDepth 100000 in
def jt_157 : List (Nat × Instr × Nat) := [(0, .aload_n 0, 1), (1, .iload_n 1, 1), (2, .iload_n 2, 1), (3, .iload_n 3, 1), (4, .invokevirtual 211, 3), (7, .bipush 24, 2), (9, .if_icmp .le 6, 3), (12, .bipush (-2), 2), (14, .ireturn, 1), (15, .aload_n 0, 1), (16, .iload_n 1, 1), (17, .iload_n 2, 1), (18, .iload_n 3, 1), (19, .invokevirtual 232, 3), (22, .istore 4, 2), (24, .iload 4, 2), (26, .sipush 200, 3), (29, .if_icmp .lt 18, 3), (32, .aload_n 0, 1), (33, .sipush 200, 3), (36, .invokevirtual 217, 3), (39, .aload_n 0, 1), (40, .iconst 0, 1), (41, .putfield 221, 3), (44, .iconst (-1), 1), (45, .istore 4, 2), (47, .iload 4, 2), (49, .ifCond .lt 8, 3), (52, .iload 4, 2), (54, .goto 25, 3), (57, .aload_n 0, 1), (58, .getfield 225, 3), (61, .sipush 200, 3), (64, .if_icmp .ne 8, 3), (67, .bipush (-4), 2), (69, .goto 10, 3), (72, .aload_n 0, 1), (73, .iload_n 1, 1), (74, .iload_n 2, 1), (75, .iload_n 3, 1), (76, .invokevirtual 239, 3), (79, .ireturn, 1)]
def jq_157 : jmE := (yX11_oldOrNew, cX11_oldOrNew, 5, (Option.some Jvm.ClassFile.FieldType.int), 11, false, jt_157)
set_option maxRecDepth 100000 in
def jt_158 : List (Nat × Instr × Nat) := [(0, .aload_n 0, 1), (1, .iload_n 2, 1), (2, .invokevirtual 244, 3), (5, .ifCond .eq 17, 3), (8, .iload_n 1, 1), (9, .bipush 9, 2), (11, .if_icmp .eq 13, 3), (14, .aload_n 0, 1), (15, .iload_n 3, 1), (16, .invokevirtual 244, 3), (19, .ifCond .ne 5, 3), (22, .iconst (-1), 1), (23, .ireturn, 1), (24, .iload_n 1, 1), (25, .iconst 4, 1), (26, .if_icmp .eq 17, 3), (29, .iload_n 1, 1), (30, .iconst 5, 1), (31, .if_icmp .eq 12, 3), (34, .iload_n 1, 1), (35, .bipush 9, 2), (37, .if_icmp .eq 6, 3), (40, .bipush (-2), 2), (42, .ireturn, 1), (43, .aload_n 0, 1), (44, .iload_n 1, 1), (45, .iload_n 2, 1), (46, .iload_n 1, 1), (47, .bipush 9, 2), (49, .if_icmp .ne 7, 3), (52, .iconst (-1), 1), (53, .goto 4, 3), (56, .iload_n 3, 1), (57, .invokevirtual 248, 3), (60, .ireturn, 1)]
def jq_158 : jmE := (yX11_term, cX11_term, 4, (Option.some Jvm.ClassFile.FieldType.int), 11, false, jt_158)
set_option maxRecDepth 100000 in
def jt_159 : List (Nat × Instr × Nat) := [(0, .iload_n 1, 1), (1, .bipush 7, 2), (3, .if_icmp .eq 11, 3), (6, .aload_n 0, 1), (7, .iload_n 2, 1), (8, .invokevirtual 244, 3), (11, .ifCond .eq 11, 3), (14, .aload_n 0, 1), (15, .iload_n 3, 1), (16, .invokevirtual 244, 3), (19, .ifCond .ne 5, 3), (22, .iconst (-1), 1), (23, .ireturn, 1), (24, .iload_n 1, 1), (25, .i2l, 1), (26, .ldc2_w 251, 3), (29, .ldc2_w 253, 3), (32, .invokestatic 235, 3), (35, .ifCond .eq 31, 3), (38, .aload_n 0, 1), (39, .getfield 7, 3), (42, .iload_n 3, 1), (43, .iaload, 1), (44, .ifCond .eq 25, 3), (47, .aload_n 0, 1), (48, .getfield 7, 3), (51, .iload_n 3, 1), (52, .iaload, 1), (53, .iconst 3, 1), (54, .if_icmp .ne 12, 3), (57, .aload_n 0, 1), (58, .getfield 32, 3), (61, .iload_n 3, 1), (62, .iaload, 1), (63, .ifCond .eq 6, 3), (66, .bipush (-2), 2), (68, .ireturn, 1), (69, .iload_n 1, 1), (70, .bipush 7, 2), (72, .if_icmp .ne 13, 3), (75, .aload_n 0, 1), (76, .iload_n 1, 1), (77, .iload_n 3, 1), (78, .iconst (-1), 1), (79, .invokevirtual 248, 3), (82, .goto 10, 3), (85, .aload_n 0, 1), (86, .iload_n 1, 1), (87, .iload_n 2, 1), (88, .iload_n 3, 1), (89, .invokevirtual 248, 3), (92, .ireturn, 1)]
def jq_159 : jmE := (yX11_of, cX11_of, 4, (Option.some Jvm.ClassFile.FieldType.int), 11, false, jt_159)
set_option maxRecDepth 100000 in
def jt_160_0 : List (Nat × Instr × Nat) := [(0, .aload_n 0, 1), (1, .iload_n 1, 1), (2, .invokevirtual 244, 3), (5, .ifCond .ne 5, 3), (8, .iconst (-1), 1), (9, .ireturn, 1), (10, .aload_n 0, 1), (11, .getfield 7, 3), (14, .iload_n 1, 1), (15, .iaload, 1), (16, .iconst 3, 1), (17, .if_icmp .ne 7, 3), (20, .iconst 1, 1), (21, .goto 4, 3), (24, .iconst 0, 1), (25, .istore_n 3, 1), (26, .iload_n 2, 1), (27, .tableswitch 197 0 8 #[49, 56, 77, 98, 105, 120, 149, 165, 181], 49), (76, .aload_n 0, 1), (77, .getfield 7, 3), (80, .iload_n 1, 1), (81, .iaload, 1), (82, .ireturn, 1), (83, .aload_n 0, 1), (84, .getfield 13, 3), (87, .iload_n 1, 1), (88, .iaload, 1), (89, .ifCond .ge 8, 3), (92, .bipush (-6), 2), (94, .goto 9, 3), (97, .aload_n 0, 1), (98, .getfield 13, 3), (101, .iload_n 1, 1), (102, .iaload, 1), (103, .ireturn, 1), (104, .aload_n 0, 1), (105, .getfield 16, 3), (108, .iload_n 1, 1), (109, .iaload, 1), (110, .ifCond .ge 8, 3)]
def jt_160_1 : List (Nat × Instr × Nat) := [(113, .bipush (-6), 2), (115, .goto 9, 3), (118, .aload_n 0, 1), (119, .getfield 16, 3), (122, .iload_n 1, 1), (123, .iaload, 1), (124, .ireturn, 1), (125, .aload_n 0, 1), (126, .getfield 19, 3), (129, .iload_n 1, 1), (130, .iaload, 1), (131, .ireturn, 1), (132, .aload_n 0, 1), (133, .getfield 22, 3), (136, .iload_n 1, 1), (137, .baload, 1), (138, .ifCond .eq 7, 3), (141, .iconst 1, 1), (142, .goto 4, 3), (145, .iconst 0, 1), (146, .ireturn, 1), (147, .aload_n 0, 1), (148, .getfield 7, 3), (151, .iload_n 1, 1), (152, .iaload, 1), (153, .ifCond .eq 8, 3), (156, .bipush (-6), 2), (158, .goto 17, 3), (161, .aload_n 0, 1), (162, .getfield 26, 3), (165, .iload_n 1, 1), (166, .baload, 1), (167, .ifCond .eq 7, 3), (170, .iconst 1, 1), (171, .goto 4, 3), (174, .iconst 0, 1), (175, .ireturn, 1), (176, .iload_n 3, 1), (177, .ifCond .eq 12, 3), (180, .aload_n 0, 1)]
def jt_160_2 : List (Nat × Instr × Nat) := [(181, .getfield 29, 3), (184, .iload_n 1, 1), (185, .iaload, 1), (186, .goto 5, 3), (189, .bipush (-6), 2), (191, .ireturn, 1), (192, .iload_n 3, 1), (193, .ifCond .eq 12, 3), (196, .aload_n 0, 1), (197, .getfield 32, 3), (200, .iload_n 1, 1), (201, .iaload, 1), (202, .goto 5, 3), (205, .bipush (-6), 2), (207, .ireturn, 1), (208, .iload_n 3, 1), (209, .ifCond .eq 12, 3), (212, .aload_n 0, 1), (213, .getfield 35, 3), (216, .iload_n 1, 1), (217, .iaload, 1), (218, .goto 5, 3), (221, .bipush (-6), 2), (223, .ireturn, 1), (224, .bipush (-2), 2), (226, .ireturn, 1)]
def jt_160 : List (Nat × Instr × Nat) := jt_160_0 ++ (jt_160_1 ++ (jt_160_2))
def jq_160 : jmE := (yX11_about, cX11_about, 4, (Option.some Jvm.ClassFile.FieldType.int), 11, false, jt_160)
set_option maxRecDepth 100000 in
def jt_161 : List (Nat × Instr × Nat) := [(0, .iload_n 1, 1), (1, .i2l, 1), (2, .lconst 0, 1), (3, .aload_n 0, 1), (4, .getfield 255, 3), (7, .iconst 1, 1), (8, .isub, 1), (9, .i2l, 1), (10, .invokestatic 235, 3), (13, .ireturn, 1)]
def jq_161 : jmE := (yX11_isRole, cX11_isRole, 2, (Option.some Jvm.ClassFile.FieldType.boolean), 11, false, jt_161)
set_option maxRecDepth 100000 in
def jt_162 : List (Nat × Instr × Nat) := [(0, .aload_n 0, 1), (1, .getfield 255, 3), (4, .iconst 4, 1), (5, .if_icmp .ne 6, 3), (8, .bipush (-4), 2), (10, .ireturn, 1), (11, .aload_n 0, 1), (12, .getfield 48, 3), (15, .aload_n 0, 1), (16, .getfield 255, 3), (19, .iconst 0, 1), (20, .iastore, 1), (21, .aload_n 0, 1), (22, .getfield 57, 3), (25, .aload_n 0, 1), (26, .getfield 255, 3), (29, .iconst 0, 1), (30, .iastore, 1), (31, .aload_n 0, 1), (32, .getfield 66, 3), (35, .aload_n 0, 1), (36, .getfield 255, 3), (39, .iconst 0, 1), (40, .bastore, 1), (41, .aload_n 0, 1), (42, .dup, 1), (43, .getfield 255, 3), (46, .iconst 1, 1), (47, .iadd, 1), (48, .putfield 255, 3), (51, .aload_n 0, 1), (52, .getfield 255, 3), (55, .iconst 1, 1), (56, .isub, 1), (57, .ireturn, 1)]
def jq_162 : jmE := (yX11_role, cX11_role, 1, (Option.some Jvm.ClassFile.FieldType.int), 11, false, jt_162)
set_option maxRecDepth 100000 in
def jt_163_0 : List (Nat × Instr × Nat) := [(0, .aload_n 0, 1), (1, .iload_n 1, 1), (2, .invokevirtual 258, 3), (5, .ifCond .ne 5, 3), (8, .iconst (-1), 1), (9, .ireturn, 1), (10, .iload_n 2, 1), (11, .ifCond .ne 7, 3), (14, .iload_n 3, 1), (15, .ifCond .eq 37, 3), (18, .iload_n 2, 1), (19, .iconst 1, 1), (20, .if_icmp .ne 15, 3), (23, .iload_n 3, 1), (24, .i2l, 1), (25, .lconst 1, 1), (26, .ldc2_w 242, 3), (29, .invokestatic 235, 3), (32, .ifCond .ne 20, 3), (35, .iload_n 2, 1), (36, .iconst 2, 1), (37, .if_icmp .ne 19, 3), (40, .iload_n 3, 1), (41, .i2l, 1), (42, .lconst 0, 1), (43, .ldc2_w 261, 3), (46, .invokestatic 235, 3), (49, .ifCond .eq 7, 3), (52, .iconst 1, 1), (53, .goto 4, 3), (56, .iconst 0, 1), (57, .istore 4, 2), (59, .iload 4, 2), (61, .ifCond .ne 6, 3), (64, .bipush (-2), 2), (66, .ireturn, 1), (67, .aload_n 0, 1), (68, .getfield 66, 3), (71, .iload_n 1, 1), (72, .baload, 1)]
def jt_163_1 : List (Nat × Instr × Nat) := [(73, .ifCond .eq 6, 3), (76, .bipush (-3), 2), (78, .ireturn, 1), (79, .aload_n 0, 1), (80, .getfield 48, 3), (83, .iload_n 1, 1), (84, .iaload, 1), (85, .bipush 6, 2), (87, .if_icmp .eq 13, 3), (90, .aload_n 0, 1), (91, .getfield 225, 3), (94, .sipush 200, 3), (97, .if_icmp .ne 6, 3), (100, .bipush (-4), 2), (102, .ireturn, 1), (103, .aload_n 0, 1), (104, .iconst 3, 1), (105, .iconst (-1), 1), (106, .iconst (-1), 1), (107, .invokevirtual 239, 3), (110, .istore 5, 2), (112, .aload_n 0, 1), (113, .getfield 48, 3), (116, .iload_n 1, 1), (117, .iaload, 1), (118, .istore 6, 2), (120, .aload_n 0, 1), (121, .getfield 29, 3), (124, .iload 5, 2), (126, .iload_n 1, 1), (127, .iastore, 1), (128, .aload_n 0, 1), (129, .getfield 32, 3), (132, .iload 5, 2), (134, .iload_n 3, 1), (135, .iastore, 1), (136, .aload_n 0, 1), (137, .getfield 35, 3), (140, .iload 5, 2), (142, .iload 6, 2)]
def jt_163_2 : List (Nat × Instr × Nat) := [(144, .iastore, 1), (145, .aload_n 0, 1), (146, .getfield 51, 3), (149, .bipush 6, 2), (151, .iload_n 1, 1), (152, .imul, 1), (153, .iload 6, 2), (155, .iadd, 1), (156, .iload 5, 2), (158, .iastore, 1), (159, .aload_n 0, 1), (160, .getfield 54, 3), (163, .bipush 6, 2), (165, .iload_n 1, 1), (166, .imul, 1), (167, .iload 6, 2), (169, .iadd, 1), (170, .iload_n 2, 1), (171, .iastore, 1), (172, .aload_n 0, 1), (173, .getfield 48, 3), (176, .iload_n 1, 1), (177, .dup2, 1), (178, .iaload, 1), (179, .iconst 1, 1), (180, .iadd, 1), (181, .iastore, 1), (182, .iload 5, 2), (184, .ireturn, 1)]
def jt_163 : List (Nat × Instr × Nat) := jt_163_0 ++ (jt_163_1 ++ (jt_163_2))
def jq_163 : jmE := (yX11_variable, cX11_variable, 7, (Option.some Jvm.ClassFile.FieldType.int), 11, false, jt_163)
set_option maxRecDepth 100000 in
def jt_164_0 : List (Nat × Instr × Nat) := [(0, .aload_n 0, 1), (1, .iconst 0, 1), (2, .putfield 263, 3), (5, .iconst 1, 1), (6, .istore_n 2, 1), (7, .aload_n 0, 1), (8, .getfield 72, 3), (11, .iconst 0, 1), (12, .iload_n 1, 1), (13, .iastore, 1), (14, .iload_n 2, 1), (15, .ifCond .le 146, 3), (18, .iinc 2 (-1), 3), (21, .aload_n 0, 1), (22, .getfield 72, 3), (25, .iload_n 2, 1), (26, .iaload, 1), (27, .istore_n 3, 1), (28, .aload_n 0, 1), (29, .getfield 7, 3), (32, .iload_n 3, 1), (33, .iaload, 1), (34, .iconst 3, 1), (35, .if_icmp .ne 75, 3), (38, .iconst 0, 1), (39, .istore 4, 2), (41, .iconst 0, 1), (42, .istore 5, 2), (44, .iload 5, 2), (46, .aload_n 0, 1), (47, .getfield 263, 3), (50, .if_icmp .ge 32, 3), (53, .iload 4, 2), (55, .ifCond .ne 14, 3), (58, .aload_n 0, 1), (59, .getfield 69, 3), (62, .iload 5, 2), (64, .iaload, 1), (65, .iload_n 3, 1), (66, .if_icmp .ne 7, 3)]
def jt_164_1 : List (Nat × Instr × Nat) := [(69, .iconst 1, 1), (70, .goto 4, 3), (73, .iconst 0, 1), (74, .istore 4, 2), (76, .iinc 5 1, 3), (79, .goto (-35), 3), (82, .iload 4, 2), (84, .ifCond .ne 23, 3), (87, .aload_n 0, 1), (88, .getfield 69, 3), (91, .aload_n 0, 1), (92, .getfield 263, 3), (95, .iload_n 3, 1), (96, .iastore, 1), (97, .aload_n 0, 1), (98, .dup, 1), (99, .getfield 263, 3), (102, .iconst 1, 1), (103, .iadd, 1), (104, .putfield 263, 3), (107, .goto 51, 3), (110, .aload_n 0, 1), (111, .getfield 22, 3), (114, .iload_n 3, 1), (115, .baload, 1), (116, .ifCond .ne 42, 3), (119, .aload_n 0, 1), (120, .getfield 16, 3), (123, .iload_n 3, 1), (124, .iaload, 1), (125, .ifCond .lt 18, 3), (128, .aload_n 0, 1), (129, .getfield 72, 3), (132, .iload_n 2, 1), (133, .aload_n 0, 1), (134, .getfield 16, 3), (137, .iload_n 3, 1), (138, .iaload, 1), (139, .iastore, 1), (140, .iinc 2 1, 3)]
def jt_164_2 : List (Nat × Instr × Nat) := [(143, .aload_n 0, 1), (144, .getfield 72, 3), (147, .iload_n 2, 1), (148, .aload_n 0, 1), (149, .getfield 13, 3), (152, .iload_n 3, 1), (153, .iaload, 1), (154, .iastore, 1), (155, .iinc 2 1, 3), (158, .goto (-144), 3), (161, .return_, 1)]
def jt_164 : List (Nat × Instr × Nat) := jt_164_0 ++ (jt_164_1 ++ (jt_164_2))
def jq_164 : jmE := (yX11_findVariables, cX11_findVariables, 6, (Option.none : Option Jvm.ClassFile.FieldType), 11, false, jt_164)
set_option maxRecDepth 100000 in
def jt_165 : List (Nat × Instr × Nat) := [(0, .iconst 0, 1), (1, .istore_n 3, 1), (2, .iconst 0, 1), (3, .istore 4, 2), (5, .iload 4, 2), (7, .aload_n 0, 1), (8, .getfield 57, 3), (11, .iload_n 1, 1), (12, .iaload, 1), (13, .if_icmp .ge 83, 3), (16, .iload_n 3, 1), (17, .ifCond .ne 79, 3), (20, .aload_n 0, 1), (21, .getfield 63, 3), (24, .bipush 6, 2), (26, .iload_n 1, 1), (27, .imul, 1), (28, .iload 4, 2), (30, .iadd, 1), (31, .baload, 1), (32, .ifCond .ne 58, 3), (35, .aload_n 0, 1), (36, .aload_n 0, 1), (37, .getfield 60, 3), (40, .bipush 6, 2), (42, .iload_n 1, 1), (43, .imul, 1), (44, .iload 4, 2), (46, .iadd, 1), (47, .iaload, 1), (48, .invokevirtual 266, 3), (51, .iconst 0, 1), (52, .istore 5, 2), (54, .iload 5, 2), (56, .aload_n 0, 1), (57, .getfield 263, 3), (60, .if_icmp .ge 30, 3), (63, .iload_n 3, 1), (64, .ifCond .ne 14, 3), (67, .aload_n 0, 1), (68, .getfield 69, 3), (71, .iload 5, 2), (73, .iaload, 1), (74, .iload_n 2, 1), (75, .if_icmp .ne 7, 3), (78, .iconst 1, 1), (79, .goto 4, 3), (82, .iconst 0, 1), (83, .istore_n 3, 1), (84, .iinc 5 1, 3), (87, .goto (-33), 3), (90, .iinc 4 1, 3), (93, .goto (-88), 3), (96, .iload_n 3, 1), (97, .ireturn, 1)]
def jq_165 : jmE := (yX11_isReceived, cX11_isReceived, 6, (Option.some Jvm.ClassFile.FieldType.boolean), 11, false, jt_165)
set_option maxRecDepth 100000 in
def jt_166_0 : List (Nat × Instr × Nat) := [(0, .aload_n 0, 1), (1, .iload_n 1, 1), (2, .invokevirtual 258, 3), (5, .ifCond .eq 11, 3), (8, .aload_n 0, 1), (9, .iload_n 3, 1), (10, .invokevirtual 244, 3), (13, .ifCond .ne 5, 3), (16, .iconst (-1), 1), (17, .ireturn, 1), (18, .aload_n 0, 1), (19, .getfield 66, 3), (22, .iload_n 1, 1), (23, .baload, 1), (24, .ifCond .eq 6, 3), (27, .bipush (-3), 2), (29, .ireturn, 1), (30, .aload_n 0, 1), (31, .getfield 57, 3), (34, .iload_n 1, 1), (35, .iaload, 1), (36, .bipush 6, 2), (38, .if_icmp .ne 6, 3), (41, .bipush (-4), 2), (43, .ireturn, 1), (44, .aload_n 0, 1), (45, .iload_n 3, 1), (46, .invokevirtual 266, 3), (49, .aload_n 0, 1), (50, .getfield 263, 3), (53, .istore 4, 2), (55, .iconst 0, 1), (56, .istore 5, 2), (58, .iload 5, 2), (60, .iload 4, 2), (62, .if_icmp .ge 23, 3), (65, .aload_n 0, 1), (66, .getfield 75, 3), (69, .iload 5, 2), (71, .aload_n 0, 1)]
def jt_166_1 : List (Nat × Instr × Nat) := [(72, .getfield 69, 3), (75, .iload 5, 2), (77, .iaload, 1), (78, .iastore, 1), (79, .iinc 5 1, 3), (82, .goto (-24), 3), (85, .iconst 0, 1), (86, .istore 5, 2), (88, .iload 5, 2), (90, .iload 4, 2), (92, .if_icmp .ge 67, 3), (95, .aload_n 0, 1), (96, .getfield 75, 3), (99, .iload 5, 2), (101, .iaload, 1), (102, .istore 6, 2), (104, .aload_n 0, 1), (105, .getfield 29, 3), (108, .iload 6, 2), (110, .iaload, 1), (111, .iload_n 1, 1), (112, .if_icmp .ne 38, 3), (115, .iload_n 2, 1), (116, .ifCond .eq 37, 3), (119, .aload_n 0, 1), (120, .getfield 54, 3), (123, .bipush 6, 2), (125, .iload_n 1, 1), (126, .imul, 1), (127, .aload_n 0, 1), (128, .getfield 35, 3), (131, .iload 6, 2), (133, .iaload, 1), (134, .iadd, 1), (135, .iaload, 1), (136, .iconst 2, 1), (137, .if_icmp .ne 16, 3), (140, .aload_n 0, 1), (141, .iload_n 1, 1), (142, .iload 6, 2)]
def jt_166_2 : List (Nat × Instr × Nat) := [(144, .invokevirtual 269, 3), (147, .ifCond .ne 6, 3), (150, .bipush (-5), 2), (152, .ireturn, 1), (153, .iinc 5 1, 3), (156, .goto (-68), 3), (159, .aload_n 0, 1), (160, .getfield 60, 3), (163, .bipush 6, 2), (165, .iload_n 1, 1), (166, .imul, 1), (167, .aload_n 0, 1), (168, .getfield 57, 3), (171, .iload_n 1, 1), (172, .iaload, 1), (173, .iadd, 1), (174, .iload_n 3, 1), (175, .iastore, 1), (176, .aload_n 0, 1), (177, .getfield 63, 3), (180, .bipush 6, 2), (182, .iload_n 1, 1), (183, .imul, 1), (184, .aload_n 0, 1), (185, .getfield 57, 3), (188, .iload_n 1, 1), (189, .iaload, 1), (190, .iadd, 1), (191, .iload_n 2, 1), (192, .bastore, 1), (193, .aload_n 0, 1), (194, .getfield 57, 3), (197, .iload_n 1, 1), (198, .dup2, 1), (199, .iaload, 1), (200, .iconst 1, 1), (201, .iadd, 1), (202, .iastore, 1), (203, .aload_n 0, 1), (204, .getfield 57, 3)]
def jt_166_3 : List (Nat × Instr × Nat) := [(207, .iload_n 1, 1), (208, .iaload, 1), (209, .ireturn, 1)]
def jt_166 : List (Nat × Instr × Nat) := jt_166_0 ++ (jt_166_1 ++ (jt_166_2 ++ (jt_166_3)))
def jq_166 : jmE := (yX11_event, cX11_event, 7, (Option.some Jvm.ClassFile.FieldType.int), 11, false, jt_166)
set_option maxRecDepth 100000 in
def jt_167_0 : List (Nat × Instr × Nat) := [(0, .aload_n 0, 1), (1, .iload_n 1, 1), (2, .invokevirtual 244, 3), (5, .ifCond .ne 5, 3), (8, .iconst (-1), 1), (9, .ireturn, 1), (10, .aload_n 0, 1), (11, .getfield 273, 3), (14, .ifCond .eq 6, 3), (17, .bipush (-3), 2), (19, .ireturn, 1), (20, .aload_n 0, 1), (21, .getfield 276, 3), (24, .bipush 20, 2), (26, .if_icmp .ne 6, 3), (29, .bipush (-4), 2), (31, .ireturn, 1), (32, .aload_n 0, 1), (33, .getfield 22, 3), (36, .iload_n 1, 1), (37, .baload, 1), (38, .ifCond .ne 7, 3), (41, .iconst 1, 1), (42, .goto 4, 3), (45, .iconst 0, 1), (46, .istore_n 2, 1), (47, .iconst 0, 1), (48, .istore_n 3, 1), (49, .iload_n 3, 1), (50, .aload_n 0, 1), (51, .getfield 276, 3), (54, .if_icmp .ge 29, 3), (57, .iload_n 2, 1), (58, .ifCond .ne 13, 3), (61, .aload_n 0, 1), (62, .getfield 78, 3), (65, .iload_n 3, 1), (66, .iaload, 1), (67, .iload_n 1, 1), (68, .if_icmp .ne 7, 3)]
def jt_167_1 : List (Nat × Instr × Nat) := [(71, .iconst 1, 1), (72, .goto 4, 3), (75, .iconst 0, 1), (76, .istore_n 2, 1), (77, .iinc 3 1, 3), (80, .goto (-31), 3), (83, .iload_n 2, 1), (84, .ifCond .eq 6, 3), (87, .bipush (-5), 2), (89, .ireturn, 1), (90, .aload_n 0, 1), (91, .getfield 78, 3), (94, .aload_n 0, 1), (95, .getfield 276, 3), (98, .iload_n 1, 1), (99, .iastore, 1), (100, .aload_n 0, 1), (101, .dup, 1), (102, .getfield 276, 3), (105, .iconst 1, 1), (106, .iadd, 1), (107, .putfield 276, 3), (110, .aload_n 0, 1), (111, .invokevirtual 279, 3), (114, .aload_n 0, 1), (115, .getfield 276, 3), (118, .ireturn, 1)]
def jt_167 : List (Nat × Instr × Nat) := jt_167_0 ++ (jt_167_1)
def jq_167 : jmE := (yX11_know, cX11_know, 4, (Option.some Jvm.ClassFile.FieldType.int), 11, false, jt_167)
set_option maxRecDepth 100000 in
def jt_168 : List (Nat × Instr × Nat) := [(0, .iload_n 1, 1), (1, .i2l, 1), (2, .lconst 0, 1), (3, .aload_n 0, 1), (4, .getfield 282, 3), (7, .iconst 1, 1), (8, .isub, 1), (9, .i2l, 1), (10, .invokestatic 235, 3), (13, .ireturn, 1)]
def jq_168 : jmE := (yX11_isSession, cX11_isSession, 2, (Option.some Jvm.ClassFile.FieldType.boolean), 11, false, jt_168)
set_option maxRecDepth 100000 in
def jt_169 : List (Nat × Instr × Nat) := [(0, .iconst 0, 1), (1, .istore_n 3, 1), (2, .iconst 0, 1), (3, .istore 4, 2), (5, .iload 4, 2), (7, .aload_n 0, 1), (8, .getfield 48, 3), (11, .iload_n 1, 1), (12, .iaload, 1), (13, .if_icmp .ge 33, 3), (16, .iload_n 3, 1), (17, .aload_n 0, 1), (18, .getfield 54, 3), (21, .bipush 6, 2), (23, .iload_n 1, 1), (24, .imul, 1), (25, .iload 4, 2), (27, .iadd, 1), (28, .iaload, 1), (29, .iload_n 2, 1), (30, .if_icmp .ne 7, 3), (33, .iconst 1, 1), (34, .goto 4, 3), (37, .iconst 0, 1), (38, .iadd, 1), (39, .istore_n 3, 1), (40, .iinc 4 1, 3), (43, .goto (-38), 3), (46, .iload_n 3, 1), (47, .ireturn, 1)]
def jq_169 : jmE := (yX11_howManyAs, cX11_howManyAs, 5, (Option.some Jvm.ClassFile.FieldType.int), 11, false, jt_169)
set_option maxRecDepth 100000 in
def jt_170_0 : List (Nat × Instr × Nat) := [(0, .aload_n 0, 1), (1, .iload_n 1, 1), (2, .invokevirtual 258, 3), (5, .ifCond .ne 5, 3), (8, .iconst (-1), 1), (9, .ireturn, 1), (10, .aload_n 0, 1), (11, .iload_n 1, 1), (12, .iconst 0, 1), (13, .invokevirtual 285, 3), (16, .istore 5, 2), (18, .iload 5, 2), (20, .ifCond .le 11, 3), (23, .aload_n 0, 1), (24, .iload_n 2, 1), (25, .invokevirtual 244, 3), (28, .ifCond .eq 32, 3), (31, .iload 5, 2), (33, .iconst 1, 1), (34, .if_icmp .le 11, 3), (37, .aload_n 0, 1), (38, .iload_n 3, 1), (39, .invokevirtual 244, 3), (42, .ifCond .eq 18, 3), (45, .iload 5, 2), (47, .iconst 2, 1), (48, .if_icmp .le 14, 3), (51, .aload_n 0, 1), (52, .iload 4, 2), (54, .invokevirtual 244, 3), (57, .ifCond .ne 5, 3), (60, .iconst (-1), 1), (61, .ireturn, 1), (62, .aload_n 0, 1), (63, .getfield 273, 3), (66, .ifCond .eq 6, 3), (69, .bipush (-3), 2), (71, .ireturn, 1), (72, .aload_n 0, 1), (73, .getfield 282, 3)]
def jt_170_1 : List (Nat × Instr × Nat) := [(76, .iconst 4, 1), (77, .if_icmp .eq 20, 3), (80, .aload_n 0, 1), (81, .getfield 225, 3), (84, .aload_n 0, 1), (85, .iload_n 1, 1), (86, .iconst 1, 1), (87, .invokevirtual 285, 3), (90, .iadd, 1), (91, .sipush 200, 3), (94, .if_icmp .le 6, 3), (97, .bipush (-4), 2), (99, .ireturn, 1), (100, .iload 5, 2), (102, .iconst 3, 1), (103, .if_icmp .gt 48, 3), (106, .iload 5, 2), (108, .ifCond .le 12, 3), (111, .aload_n 0, 1), (112, .getfield 7, 3), (115, .iload_n 2, 1), (116, .iaload, 1), (117, .ifCond .ne 34, 3), (120, .iload 5, 2), (122, .iconst 1, 1), (123, .if_icmp .le 12, 3), (126, .aload_n 0, 1), (127, .getfield 7, 3), (130, .iload_n 3, 1), (131, .iaload, 1), (132, .ifCond .ne 19, 3), (135, .iload 5, 2), (137, .iconst 2, 1), (138, .if_icmp .le 16, 3), (141, .aload_n 0, 1), (142, .getfield 7, 3), (145, .iload 4, 2), (147, .iaload, 1), (148, .ifCond .eq 6, 3), (151, .bipush (-5), 2)]
def jt_170_2 : List (Nat × Instr × Nat) := [(153, .ireturn, 1), (154, .iconst 0, 1), (155, .istore 6, 2), (157, .iconst 0, 1), (158, .istore 7, 2), (160, .iload 7, 2), (162, .aload_n 0, 1), (163, .getfield 48, 3), (166, .iload_n 1, 1), (167, .iaload, 1), (168, .if_icmp .ge 109, 3), (171, .aload_n 0, 1), (172, .getfield 54, 3), (175, .bipush 6, 2), (177, .iload_n 1, 1), (178, .imul, 1), (179, .iload 7, 2), (181, .iadd, 1), (182, .iaload, 1), (183, .istore 8, 2), (185, .bipush (-6), 2), (187, .istore 9, 2), (189, .iload 8, 2), (191, .ifCond .ne 32, 3), (194, .iload 6, 2), (196, .ifCond .ne 7, 3), (199, .iload_n 2, 1), (200, .goto 15, 3), (203, .iload 6, 2), (205, .iconst 1, 1), (206, .if_icmp .ne 7, 3), (209, .iload_n 3, 1), (210, .goto 5, 3), (213, .iload 4, 2), (215, .istore 9, 2), (217, .iinc 6 1, 3), (220, .goto 34, 3), (223, .iload 8, 2), (225, .iconst 1, 1), (226, .if_icmp .ne 28, 3)]
def jt_170_3 : List (Nat × Instr × Nat) := [(229, .aload_n 0, 1), (230, .aload_n 0, 1), (231, .getfield 32, 3), (234, .aload_n 0, 1), (235, .getfield 51, 3), (238, .bipush 6, 2), (240, .iload_n 1, 1), (241, .imul, 1), (242, .iload 7, 2), (244, .iadd, 1), (245, .iaload, 1), (246, .iaload, 1), (247, .iconst (-1), 1), (248, .iconst (-1), 1), (249, .invokevirtual 239, 3), (252, .istore 9, 2), (254, .aload_n 0, 1), (255, .getfield 84, 3), (258, .bipush 6, 2), (260, .aload_n 0, 1), (261, .getfield 282, 3), (264, .imul, 1), (265, .iload 7, 2), (267, .iadd, 1), (268, .iload 9, 2), (270, .iastore, 1), (271, .iinc 7 1, 3), (274, .goto (-114), 3), (277, .aload_n 0, 1), (278, .getfield 81, 3), (281, .aload_n 0, 1), (282, .getfield 282, 3), (285, .iload_n 1, 1), (286, .iastore, 1), (287, .aload_n 0, 1), (288, .getfield 66, 3), (291, .iload_n 1, 1), (292, .iconst 1, 1), (293, .bastore, 1), (294, .aload_n 0, 1)]
def jt_170_4 : List (Nat × Instr × Nat) := [(295, .dup, 1), (296, .getfield 282, 3), (299, .iconst 1, 1), (300, .iadd, 1), (301, .putfield 282, 3), (304, .aload_n 0, 1), (305, .invokevirtual 279, 3), (308, .aload_n 0, 1), (309, .getfield 282, 3), (312, .iconst 1, 1), (313, .isub, 1), (314, .ireturn, 1)]
def jt_170 : List (Nat × Instr × Nat) := jt_170_0 ++ (jt_170_1 ++ (jt_170_2 ++ (jt_170_3 ++ (jt_170_4))))
def jq_170 : jmE := (yX11_session, cX11_session, 10, (Option.some Jvm.ClassFile.FieldType.int), 11, false, jt_170)
set_option maxRecDepth 100000 in
def jt_171 : List (Nat × Instr × Nat) := [(0, .aload_n 0, 1), (1, .getfield 87, 3), (4, .aload_n 0, 1), (5, .getfield 289, 3), (8, .iload_n 1, 1), (9, .bastore, 1), (10, .aload_n 0, 1), (11, .getfield 90, 3), (14, .aload_n 0, 1), (15, .getfield 289, 3), (18, .iload_n 2, 1), (19, .iastore, 1), (20, .aload_n 0, 1), (21, .getfield 93, 3), (24, .aload_n 0, 1), (25, .getfield 289, 3), (28, .iload_n 3, 1), (29, .iastore, 1), (30, .aload_n 0, 1), (31, .getfield 96, 3), (34, .aload_n 0, 1), (35, .getfield 289, 3), (38, .iload 4, 2), (40, .iastore, 1), (41, .aload_n 0, 1), (42, .getfield 99, 3), (45, .aload_n 0, 1), (46, .getfield 289, 3), (49, .iconst 0, 1), (50, .iastore, 1), (51, .aload_n 0, 1), (52, .dup, 1), (53, .getfield 289, 3), (56, .iconst 1, 1), (57, .iadd, 1), (58, .putfield 289, 3), (61, .aload_n 0, 1), (62, .getfield 289, 3), (65, .iconst 1, 1), (66, .isub, 1), (67, .ireturn, 1)]
def jq_171 : jmE := (yX11_claim, cX11_claim, 5, (Option.some Jvm.ClassFile.FieldType.int), 11, false, jt_171)
set_option maxRecDepth 100000 in
def jt_172 : List (Nat × Instr × Nat) := [(0, .aload_n 0, 1), (1, .iload_n 1, 1), (2, .invokevirtual 258, 3), (5, .ifCond .eq 21, 3), (8, .iload_n 2, 1), (9, .i2l, 1), (10, .lconst 0, 1), (11, .aload_n 0, 1), (12, .getfield 48, 3), (15, .iload_n 1, 1), (16, .iaload, 1), (17, .iconst 1, 1), (18, .isub, 1), (19, .i2l, 1), (20, .invokestatic 235, 3), (23, .ifCond .ne 5, 3), (26, .iconst (-1), 1), (27, .ireturn, 1), (28, .aload_n 0, 1), (29, .getfield 289, 3), (32, .bipush 6, 2), (34, .if_icmp .ne 8, 3), (37, .bipush (-4), 2), (39, .goto 11, 3), (42, .aload_n 0, 1), (43, .iconst 1, 1), (44, .iload_n 1, 1), (45, .iload_n 2, 1), (46, .iconst 0, 1), (47, .invokevirtual 292, 3), (50, .ireturn, 1)]
def jq_172 : jmE := (yX11_secret, cX11_secret, 3, (Option.some Jvm.ClassFile.FieldType.int), 11, false, jt_172)
set_option maxRecDepth 100000 in
def jt_173 : List (Nat × Instr × Nat) := [(0, .aload_n 0, 1), (1, .iload_n 1, 1), (2, .invokevirtual 258, 3), (5, .ifCond .eq 11, 3), (8, .aload_n 0, 1), (9, .iload_n 2, 1), (10, .invokevirtual 258, 3), (13, .ifCond .ne 5, 3), (16, .iconst (-1), 1), (17, .ireturn, 1), (18, .iload_n 3, 1), (19, .i2l, 1), (20, .lconst 0, 1), (21, .ldc2_w 251, 3), (24, .invokestatic 235, 3), (27, .ifCond .ne 6, 3), (30, .bipush (-2), 2), (32, .ireturn, 1), (33, .aload_n 0, 1), (34, .getfield 289, 3), (37, .bipush 6, 2), (39, .if_icmp .ne 8, 3), (42, .bipush (-4), 2), (44, .goto 11, 3), (47, .aload_n 0, 1), (48, .iconst 0, 1), (49, .iload_n 1, 1), (50, .iload_n 2, 1), (51, .iload_n 3, 1), (52, .invokevirtual 292, 3), (55, .ireturn, 1)]
def jq_173 : jmE := (yX11_agree, cX11_agree, 4, (Option.some Jvm.ClassFile.FieldType.int), 11, false, jt_173)
set_option maxRecDepth 100000 in
def jt_174_0 : List (Nat × Instr × Nat) := [(0, .iload_n 1, 1), (1, .i2l, 1), (2, .lconst 0, 1), (3, .aload_n 0, 1), (4, .getfield 289, 3), (7, .iconst 1, 1), (8, .isub, 1), (9, .i2l, 1), (10, .invokestatic 235, 3), (13, .ifCond .ne 5, 3), (16, .iconst (-1), 1), (17, .ireturn, 1), (18, .aload_n 0, 1), (19, .getfield 87, 3), (22, .iload_n 1, 1), (23, .baload, 1), (24, .ifCond .eq 6, 3), (27, .bipush (-3), 2), (29, .ireturn, 1), (30, .iload_n 2, 1), (31, .i2l, 1), (32, .lconst 0, 1), (33, .aload_n 0, 1), (34, .getfield 48, 3), (37, .aload_n 0, 1), (38, .getfield 90, 3), (41, .iload_n 1, 1), (42, .iaload, 1), (43, .iaload, 1), (44, .iconst 1, 1), (45, .isub, 1), (46, .i2l, 1), (47, .invokestatic 235, 3), (50, .ifCond .eq 26, 3), (53, .iload_n 3, 1), (54, .i2l, 1), (55, .lconst 0, 1), (56, .aload_n 0, 1), (57, .getfield 48, 3), (60, .aload_n 0, 1)]
def jt_174_1 : List (Nat × Instr × Nat) := [(61, .getfield 93, 3), (64, .iload_n 1, 1), (65, .iaload, 1), (66, .iaload, 1), (67, .iconst 1, 1), (68, .isub, 1), (69, .i2l, 1), (70, .invokestatic 235, 3), (73, .ifCond .ne 5, 3), (76, .iconst (-1), 1), (77, .ireturn, 1), (78, .aload_n 0, 1), (79, .getfield 99, 3), (82, .iload_n 1, 1), (83, .iaload, 1), (84, .iconst 4, 1), (85, .if_icmp .ne 6, 3), (88, .bipush (-4), 2), (90, .ireturn, 1), (91, .aload_n 0, 1), (92, .getfield 102, 3), (95, .iconst 4, 1), (96, .iload_n 1, 1), (97, .imul, 1), (98, .aload_n 0, 1), (99, .getfield 99, 3), (102, .iload_n 1, 1), (103, .iaload, 1), (104, .iadd, 1), (105, .iload_n 2, 1), (106, .iastore, 1), (107, .aload_n 0, 1), (108, .getfield 105, 3), (111, .iconst 4, 1), (112, .iload_n 1, 1), (113, .imul, 1), (114, .aload_n 0, 1), (115, .getfield 99, 3), (118, .iload_n 1, 1), (119, .iaload, 1)]
def jt_174_2 : List (Nat × Instr × Nat) := [(120, .iadd, 1), (121, .iload_n 3, 1), (122, .iastore, 1), (123, .aload_n 0, 1), (124, .getfield 99, 3), (127, .iload_n 1, 1), (128, .dup2, 1), (129, .iaload, 1), (130, .iconst 1, 1), (131, .iadd, 1), (132, .iastore, 1), (133, .aload_n 0, 1), (134, .getfield 99, 3), (137, .iload_n 1, 1), (138, .iaload, 1), (139, .ireturn, 1)]
def jt_174 : List (Nat × Instr × Nat) := jt_174_0 ++ (jt_174_1 ++ (jt_174_2))
def jq_174 : jmE := (yX11_join, cX11_join, 4, (Option.some Jvm.ClassFile.FieldType.int), 11, false, jt_174)
set_option maxRecDepth 100000 in
def jt_175 : List (Nat × Instr × Nat) := [(0, .iconst 0, 1), (1, .istore_n 1, 1), (2, .iload_n 1, 1), (3, .aload_n 0, 1), (4, .getfield 282, 3), (7, .if_icmp .ge 72, 3), (10, .aload_n 0, 1), (11, .getfield 108, 3), (14, .iload_n 1, 1), (15, .iconst 0, 1), (16, .iastore, 1), (17, .iconst 0, 1), (18, .istore_n 2, 1), (19, .iload_n 2, 1), (20, .bipush 6, 2), (22, .if_icmp .ge 51, 3), (25, .aload_n 0, 1), (26, .getfield 111, 3), (29, .bipush 6, 2), (31, .iload_n 1, 1), (32, .imul, 1), (33, .iload_n 2, 1), (34, .iadd, 1), (35, .iload_n 2, 1), (36, .aload_n 0, 1), (37, .getfield 48, 3), (40, .aload_n 0, 1), (41, .getfield 81, 3), (44, .iload_n 1, 1), (45, .iaload, 1), (46, .iaload, 1), (47, .if_icmp .ge 17, 3), (50, .aload_n 0, 1), (51, .getfield 84, 3), (54, .bipush 6, 2), (56, .iload_n 1, 1), (57, .imul, 1), (58, .iload_n 2, 1), (59, .iadd, 1), (60, .iaload, 1), (61, .goto 5, 3), (64, .bipush (-6), 2), (66, .iastore, 1), (67, .iinc 2 1, 3), (70, .goto (-51), 3), (73, .iinc 1 1, 3), (76, .goto (-74), 3), (79, .return_, 1)]
def jq_175 : jmE := (yX11_begins, cX11_begins, 3, (Option.none : Option Jvm.ClassFile.FieldType), 11, false, jt_175)
set_option maxRecDepth 100000 in
def jt_176_0 : List (Nat × Instr × Nat) := [(0, .aload_n 0, 1), (1, .getfield 22, 3), (4, .iload_n 2, 1), (5, .baload, 1), (6, .ifCond .eq 5, 3), (9, .iload_n 2, 1), (10, .ireturn, 1), (11, .iconst 0, 1), (12, .istore_n 3, 1), (13, .iload_n 3, 1), (14, .iload_n 2, 1), (15, .if_icmp .gt 16, 3), (18, .aload_n 0, 1), (19, .getfield 114, 3), (22, .iload_n 3, 1), (23, .iconst 0, 1), (24, .bastore, 1), (25, .iinc 3 1, 3), (28, .goto (-15), 3), (31, .aload_n 0, 1), (32, .getfield 114, 3), (35, .iload_n 2, 1), (36, .iconst 1, 1), (37, .bastore, 1), (38, .iload_n 2, 1), (39, .istore_n 3, 1), (40, .iload_n 3, 1), (41, .ifCond .lt 60, 3), (44, .aload_n 0, 1), (45, .getfield 114, 3), (48, .iload_n 3, 1), (49, .baload, 1), (50, .ifCond .eq 45, 3), (53, .aload_n 0, 1), (54, .getfield 13, 3), (57, .iload_n 3, 1), (58, .iaload, 1), (59, .ifCond .lt 15, 3), (62, .aload_n 0, 1), (63, .getfield 114, 3)]
def jt_176_1 : List (Nat × Instr × Nat) := [(66, .aload_n 0, 1), (67, .getfield 13, 3), (70, .iload_n 3, 1), (71, .iaload, 1), (72, .iconst 1, 1), (73, .bastore, 1), (74, .aload_n 0, 1), (75, .getfield 16, 3), (78, .iload_n 3, 1), (79, .iaload, 1), (80, .ifCond .lt 15, 3), (83, .aload_n 0, 1), (84, .getfield 114, 3), (87, .aload_n 0, 1), (88, .getfield 16, 3), (91, .iload_n 3, 1), (92, .iaload, 1), (93, .iconst 1, 1), (94, .bastore, 1), (95, .iinc 3 (-1), 3), (98, .goto (-58), 3), (101, .iconst 0, 1), (102, .istore_n 3, 1), (103, .iload_n 3, 1), (104, .iload_n 2, 1), (105, .if_icmp .gt 30, 3), (108, .aload_n 0, 1), (109, .getfield 114, 3), (112, .iload_n 3, 1), (113, .baload, 1), (114, .ifCond .eq 15, 3), (117, .aload_n 0, 1), (118, .getfield 117, 3), (121, .iload_n 3, 1), (122, .aload_n 0, 1), (123, .iload_n 1, 1), (124, .iload_n 3, 1), (125, .invokevirtual 296, 3), (128, .iastore, 1), (129, .iinc 3 1, 3)]
def jt_176_2 : List (Nat × Instr × Nat) := [(132, .goto (-29), 3), (135, .aload_n 0, 1), (136, .getfield 117, 3), (139, .iload_n 2, 1), (140, .iaload, 1), (141, .ireturn, 1)]
def jt_176 : List (Nat × Instr × Nat) := jt_176_0 ++ (jt_176_1 ++ (jt_176_2))
def jq_176 : jmE := (yX11_standsFor, cX11_standsFor, 4, (Option.some Jvm.ClassFile.FieldType.int), 11, false, jt_176)
set_option maxRecDepth 100000 in
def jt_177 : List (Nat × Instr × Nat) := [(0, .aload_n 0, 1), (1, .getfield 22, 3), (4, .iload_n 2, 1), (5, .baload, 1), (6, .ifCond .eq 5, 3), (9, .iload_n 2, 1), (10, .ireturn, 1), (11, .aload_n 0, 1), (12, .getfield 7, 3), (15, .iload_n 2, 1), (16, .iaload, 1), (17, .iconst 3, 1), (18, .if_icmp .ne 30, 3), (21, .aload_n 0, 1), (22, .getfield 111, 3), (25, .bipush 6, 2), (27, .iload_n 1, 1), (28, .imul, 1), (29, .aload_n 0, 1), (30, .getfield 35, 3), (33, .iload_n 2, 1), (34, .iaload, 1), (35, .iadd, 1), (36, .iaload, 1), (37, .istore_n 3, 1), (38, .iload_n 3, 1), (39, .ifCond .ge 7, 3), (42, .iload_n 2, 1), (43, .goto 4, 3), (46, .iload_n 3, 1), (47, .ireturn, 1), (48, .aload_n 0, 1), (49, .aload_n 0, 1), (50, .getfield 7, 3), (53, .iload_n 2, 1), (54, .iaload, 1), (55, .aload_n 0, 1), (56, .getfield 117, 3), (59, .aload_n 0, 1), (60, .getfield 13, 3), (63, .iload_n 2, 1), (64, .iaload, 1), (65, .iaload, 1), (66, .aload_n 0, 1), (67, .getfield 16, 3), (70, .iload_n 2, 1), (71, .iaload, 1), (72, .ifCond .ge 7, 3), (75, .iconst (-1), 1), (76, .goto 14, 3), (79, .aload_n 0, 1), (80, .getfield 117, 3), (83, .aload_n 0, 1), (84, .getfield 16, 3), (87, .iload_n 2, 1), (88, .iaload, 1), (89, .iaload, 1), (90, .invokevirtual 299, 3), (93, .ireturn, 1)]
def jq_177 : jmE := (yX11_one, cX11_one, 4, (Option.some Jvm.ClassFile.FieldType.int), 11, false, jt_177)
set_option maxRecDepth 100000 in
def jt_178 : List (Nat × Instr × Nat) := [(0, .aload_n 0, 1), (1, .getfield 129, 3), (4, .iload_n 1, 1), (5, .baload, 1), (6, .ifCond .ne 50, 3), (9, .aload_n 0, 1), (10, .getfield 129, 3), (13, .iload_n 1, 1), (14, .iconst 1, 1), (15, .bastore, 1), (16, .aload_n 0, 1), (17, .getfield 120, 3), (20, .aload_n 0, 1), (21, .getfield 302, 3), (24, .iload_n 1, 1), (25, .iastore, 1), (26, .aload_n 0, 1), (27, .getfield 123, 3), (30, .aload_n 0, 1), (31, .getfield 302, 3), (34, .iload_n 2, 1), (35, .iastore, 1), (36, .aload_n 0, 1), (37, .getfield 126, 3), (40, .aload_n 0, 1), (41, .getfield 302, 3), (44, .iload_n 3, 1), (45, .iastore, 1), (46, .aload_n 0, 1), (47, .dup, 1), (48, .getfield 302, 3), (51, .iconst 1, 1), (52, .iadd, 1), (53, .putfield 302, 3), (56, .return_, 1)]
def jq_178 : jmE := (yX11_comes, cX11_comes, 4, (Option.none : Option Jvm.ClassFile.FieldType), 11, false, jt_178)
set_option maxRecDepth 100000 in
def jt_179 : List (Nat × Instr × Nat) := [(0, .aload_n 0, 1), (1, .sipush 200, 3), (4, .invokevirtual 217, 3), (7, .aload_n 0, 1), (8, .iconst 0, 1), (9, .putfield 302, 3), (12, .aload_n 0, 1), (13, .iconst (-1), 1), (14, .putfield 135, 3), (17, .iconst 0, 1), (18, .istore_n 1, 1), (19, .iload_n 1, 1), (20, .sipush 1000, 3), (23, .if_icmp .ge 16, 3), (26, .aload_n 0, 1), (27, .getfield 129, 3), (30, .iload_n 1, 1), (31, .iconst 0, 1), (32, .bastore, 1), (33, .iinc 1 1, 3), (36, .goto (-17), 3), (39, .iconst 0, 1), (40, .istore_n 1, 1), (41, .iload_n 1, 1), (42, .aload_n 0, 1), (43, .getfield 276, 3), (46, .if_icmp .ge 22, 3), (49, .aload_n 0, 1), (50, .aload_n 0, 1), (51, .getfield 78, 3), (54, .iload_n 1, 1), (55, .iaload, 1), (56, .iconst 0, 1), (57, .bipush (-6), 2), (59, .invokevirtual 305, 3), (62, .iinc 1 1, 3), (65, .goto (-24), 3), (68, .return_, 1)]
def jq_179 : jmE := (yX11_beginRow, cX11_beginRow, 2, (Option.none : Option Jvm.ClassFile.FieldType), 11, false, jt_179)
set_option maxRecDepth 100000 in
def jt_180 : List (Nat × Instr × Nat) := [(0, .aload_n 0, 1), (1, .bipush 7, 2), (3, .iload_n 1, 1), (4, .iconst (-1), 1), (5, .invokevirtual 232, 3), (8, .istore_n 2, 1), (9, .aload_n 0, 1), (10, .getfield 26, 3), (13, .iload_n 1, 1), (14, .baload, 1), (15, .ifCond .eq 16, 3), (18, .iload_n 2, 1), (19, .ifCond .lt 16, 3), (22, .aload_n 0, 1), (23, .getfield 129, 3), (26, .iload_n 2, 1), (27, .baload, 1), (28, .ifCond .eq 7, 3), (31, .iconst 1, 1), (32, .goto 4, 3), (35, .iconst 0, 1), (36, .ireturn, 1)]
def jq_180 : jmE := (yX11_hasPrivate, cX11_hasPrivate, 3, (Option.some Jvm.ClassFile.FieldType.boolean), 11, false, jt_180)
set_option maxRecDepth 100000 in
def jt_181_0 : List (Nat × Instr × Nat) := [(0, .aload_n 0, 1), (1, .getfield 129, 3), (4, .iload_n 1, 1), (5, .baload, 1), (6, .ifCond .eq 5, 3), (9, .iconst 1, 1), (10, .ireturn, 1), (11, .aload_n 0, 1), (12, .getfield 22, 3), (15, .iload_n 1, 1), (16, .baload, 1), (17, .ifCond .ne 5, 3), (20, .iconst 0, 1), (21, .ireturn, 1), (22, .aload_n 0, 1), (23, .getfield 7, 3), (26, .iload_n 1, 1), (27, .iaload, 1), (28, .tableswitch 157 0 9 #[56, 157, 157, 157, 58, 58, 92, 104, 124, 92], 56), (84, .iconst 1, 1), (85, .ireturn, 1), (86, .aload_n 0, 1), (87, .getfield 132, 3), (90, .aload_n 0, 1), (91, .getfield 13, 3), (94, .iload_n 1, 1), (95, .iaload, 1), (96, .baload, 1), (97, .ifCond .eq 21, 3), (100, .aload_n 0, 1), (101, .getfield 132, 3), (104, .aload_n 0, 1), (105, .getfield 16, 3), (108, .iload_n 1, 1), (109, .iaload, 1), (110, .baload, 1), (111, .ifCond .eq 7, 3), (114, .iconst 1, 1), (115, .goto 4, 3), (118, .iconst 0, 1)]
def jt_181_1 : List (Nat × Instr × Nat) := [(119, .ireturn, 1), (120, .aload_n 0, 1), (121, .getfield 132, 3), (124, .aload_n 0, 1), (125, .getfield 13, 3), (128, .iload_n 1, 1), (129, .iaload, 1), (130, .baload, 1), (131, .ireturn, 1), (132, .aload_n 0, 1), (133, .getfield 26, 3), (136, .aload_n 0, 1), (137, .getfield 13, 3), (140, .iload_n 1, 1), (141, .iaload, 1), (142, .baload, 1), (143, .ifCond .ne 7, 3), (146, .iconst 1, 1), (147, .goto 4, 3), (150, .iconst 0, 1), (151, .ireturn, 1), (152, .aload_n 0, 1), (153, .getfield 132, 3), (156, .aload_n 0, 1), (157, .getfield 13, 3), (160, .iload_n 1, 1), (161, .iaload, 1), (162, .baload, 1), (163, .ifCond .eq 20, 3), (166, .aload_n 0, 1), (167, .aload_n 0, 1), (168, .getfield 16, 3), (171, .iload_n 1, 1), (172, .iaload, 1), (173, .invokevirtual 309, 3), (176, .ifCond .eq 7, 3), (179, .iconst 1, 1), (180, .goto 4, 3), (183, .iconst 0, 1), (184, .ireturn, 1)]
def jt_181_2 : List (Nat × Instr × Nat) := [(185, .iconst 0, 1), (186, .ireturn, 1)]
def jt_181 : List (Nat × Instr × Nat) := jt_181_0 ++ (jt_181_1 ++ (jt_181_2))
def jq_181 : jmE := (yX11_isMade, cX11_isMade, 2, (Option.some Jvm.ClassFile.FieldType.boolean), 11, false, jt_181)
set_option maxRecDepth 100000 in
def jt_182 : List (Nat × Instr × Nat) := [(0, .aload_n 0, 1), (1, .getfield 135, 3), (4, .aload_n 0, 1), (5, .getfield 302, 3), (8, .if_icmp .eq 45, 3), (11, .iconst 0, 1), (12, .istore_n 2, 1), (13, .iload_n 2, 1), (14, .aload_n 0, 1), (15, .getfield 225, 3), (18, .if_icmp .ge 20, 3), (21, .aload_n 0, 1), (22, .getfield 132, 3), (25, .iload_n 2, 1), (26, .aload_n 0, 1), (27, .iload_n 2, 1), (28, .invokevirtual 312, 3), (31, .bastore, 1), (32, .iinc 2 1, 3), (35, .goto (-22), 3), (38, .aload_n 0, 1), (39, .sipush 200, 3), (42, .putfield 214, 3), (45, .aload_n 0, 1), (46, .aload_n 0, 1), (47, .getfield 302, 3), (50, .putfield 135, 3), (53, .aload_n 0, 1), (54, .getfield 214, 3), (57, .aload_n 0, 1), (58, .getfield 38, 3), (61, .if_icmp .ge 33, 3), (64, .aload_n 0, 1), (65, .getfield 132, 3), (68, .aload_n 0, 1), (69, .getfield 214, 3), (72, .aload_n 0, 1), (73, .aload_n 0, 1), (74, .getfield 214, 3), (77, .invokevirtual 312, 3), (80, .bastore, 1), (81, .aload_n 0, 1), (82, .dup, 1), (83, .getfield 214, 3), (86, .iconst 1, 1), (87, .iadd, 1), (88, .putfield 214, 3), (91, .goto (-38), 3), (94, .aload_n 0, 1), (95, .getfield 132, 3), (98, .iload_n 1, 1), (99, .baload, 1), (100, .ireturn, 1)]
def jq_182 : jmE := (yX11_canMake, cX11_canMake, 3, (Option.some Jvm.ClassFile.FieldType.boolean), 11, false, jt_182)
set_option maxRecDepth 100000 in
def jt_183 : List (Nat × Instr × Nat) := [(0, .iconst 1, 1), (1, .istore_n 1, 1), (2, .iload_n 1, 1), (3, .ifCond .eq 46, 3), (6, .aload_n 0, 1), (7, .getfield 302, 3), (10, .istore_n 2, 1), (11, .iconst 0, 1), (12, .istore_n 3, 1), (13, .iload_n 3, 1), (14, .aload_n 0, 1), (15, .getfield 302, 3), (18, .if_icmp .ge 14, 3), (21, .aload_n 0, 1), (22, .iload_n 3, 1), (23, .invokevirtual 315, 3), (26, .iinc 3 1, 3), (29, .goto (-16), 3), (32, .aload_n 0, 1), (33, .getfield 302, 3), (36, .iload_n 2, 1), (37, .if_icmp .le 7, 3), (40, .iconst 1, 1), (41, .goto 4, 3), (44, .iconst 0, 1), (45, .istore_n 1, 1), (46, .goto (-44), 3), (49, .return_, 1)]
def jq_183 : jmE := (yX11_endRow, cX11_endRow, 4, (Option.none : Option Jvm.ClassFile.FieldType), 11, false, jt_183)
set_option maxRecDepth 100000 in
def jt_184_0 : List (Nat × Instr × Nat) := [(0, .aload_n 0, 1), (1, .getfield 120, 3), (4, .iload_n 1, 1), (5, .iaload, 1), (6, .istore_n 2, 1), (7, .aload_n 0, 1), (8, .getfield 7, 3), (11, .iload_n 2, 1), (12, .iaload, 1), (13, .tableswitch 148 4 8 #[35, 62, 104, 148, 132], 35), (48, .aload_n 0, 1), (49, .aload_n 0, 1), (50, .getfield 13, 3), (53, .iload_n 2, 1), (54, .iaload, 1), (55, .iconst 2, 1), (56, .iload_n 1, 1), (57, .invokevirtual 305, 3), (60, .aload_n 0, 1), (61, .aload_n 0, 1), (62, .getfield 16, 3), (65, .iload_n 2, 1), (66, .iaload, 1), (67, .iconst 3, 1), (68, .iload_n 1, 1), (69, .invokevirtual 305, 3), (72, .goto 89, 3), (75, .aload_n 0, 1), (76, .getfield 129, 3), (79, .aload_n 0, 1), (80, .getfield 13, 3), (83, .iload_n 2, 1), (84, .iaload, 1), (85, .baload, 1), (86, .ifCond .ne 75, 3), (89, .aload_n 0, 1), (90, .aload_n 0, 1), (91, .getfield 16, 3), (94, .iload_n 2, 1), (95, .iaload, 1)]
def jt_184_1 : List (Nat × Instr × Nat) := [(96, .invokevirtual 318, 3), (99, .ifCond .eq 62, 3), (102, .aload_n 0, 1), (103, .aload_n 0, 1), (104, .getfield 13, 3), (107, .iload_n 2, 1), (108, .iaload, 1), (109, .iconst 4, 1), (110, .iload_n 1, 1), (111, .invokevirtual 305, 3), (114, .goto 47, 3), (117, .aload_n 0, 1), (118, .aload_n 0, 1), (119, .getfield 16, 3), (122, .iload_n 2, 1), (123, .iaload, 1), (124, .invokevirtual 309, 3), (127, .ifCond .eq 34, 3), (130, .aload_n 0, 1), (131, .aload_n 0, 1), (132, .getfield 13, 3), (135, .iload_n 2, 1), (136, .iaload, 1), (137, .iconst 5, 1), (138, .iload_n 1, 1), (139, .invokevirtual 305, 3), (142, .goto 19, 3), (145, .aload_n 0, 1), (146, .aload_n 0, 1), (147, .getfield 13, 3), (150, .iload_n 2, 1), (151, .iaload, 1), (152, .bipush 6, 2), (154, .iload_n 1, 1), (155, .invokevirtual 305, 3), (158, .goto 3, 3), (161, .return_, 1)]
def jt_184 : List (Nat × Instr × Nat) := jt_184_0 ++ (jt_184_1)
def jq_184 : jmE := (yX11_takeApart, cX11_takeApart, 3, (Option.none : Option Jvm.ClassFile.FieldType), 11, false, jt_184)
set_option maxRecDepth 100000 in
def jt_185 : List (Nat × Instr × Nat) := [(0, .aload_n 0, 1), (1, .getfield 81, 3), (4, .iload_n 1, 1), (5, .iaload, 1), (6, .istore_n 2, 1), (7, .iconst 1, 1), (8, .istore_n 3, 1), (9, .iconst 0, 1), (10, .istore 4, 2), (12, .iload 4, 2), (14, .aload_n 0, 1), (15, .getfield 48, 3), (18, .iload_n 2, 1), (19, .iaload, 1), (20, .if_icmp .ge 54, 3), (23, .iload_n 3, 1), (24, .ifCond .eq 42, 3), (27, .aload_n 0, 1), (28, .getfield 54, 3), (31, .bipush 6, 2), (33, .iload_n 2, 1), (34, .imul, 1), (35, .iload 4, 2), (37, .iadd, 1), (38, .iaload, 1), (39, .ifCond .ne 23, 3), (42, .aload_n 0, 1), (43, .getfield 26, 3), (46, .aload_n 0, 1), (47, .getfield 111, 3), (50, .bipush 6, 2), (52, .iload_n 1, 1), (53, .imul, 1), (54, .iload 4, 2), (56, .iadd, 1), (57, .iaload, 1), (58, .baload, 1), (59, .ifCond .eq 7, 3), (62, .iconst 1, 1), (63, .goto 4, 3), (66, .iconst 0, 1), (67, .istore_n 3, 1), (68, .iinc 4 1, 3), (71, .goto (-59), 3), (74, .iload_n 3, 1), (75, .ireturn, 1)]
def jq_185 : jmE := (yX11_isHonest, cX11_isHonest, 5, (Option.some Jvm.ClassFile.FieldType.boolean), 11, false, jt_185)
set_option maxRecDepth 100000 in
def jt_186 : List (Nat × Instr × Nat) := [(0, .iconst 0, 1), (1, .istore_n 2, 1), (2, .iconst 0, 1), (3, .istore_n 3, 1), (4, .iload_n 3, 1), (5, .aload_n 0, 1), (6, .getfield 282, 3), (9, .if_icmp .ge 74, 3), (12, .iload_n 2, 1), (13, .ifCond .ne 70, 3), (16, .aload_n 0, 1), (17, .getfield 111, 3), (20, .bipush 6, 2), (22, .iload_n 3, 1), (23, .imul, 1), (24, .aload_n 0, 1), (25, .getfield 93, 3), (28, .iload_n 1, 1), (29, .iaload, 1), (30, .iadd, 1), (31, .iaload, 1), (32, .istore 4, 2), (34, .aload_n 0, 1), (35, .getfield 81, 3), (38, .iload_n 3, 1), (39, .iaload, 1), (40, .aload_n 0, 1), (41, .getfield 90, 3), (44, .iload_n 1, 1), (45, .iaload, 1), (46, .if_icmp .ne 29, 3), (49, .iload 4, 2), (51, .ifCond .lt 24, 3), (54, .aload_n 0, 1), (55, .iload_n 3, 1), (56, .invokevirtual 321, 3), (59, .ifCond .eq 16, 3), (62, .aload_n 0, 1), (63, .iload 4, 2), (65, .invokevirtual 318, 3), (68, .ifCond .eq 7, 3), (71, .iconst 1, 1), (72, .goto 4, 3), (75, .iconst 0, 1), (76, .istore_n 2, 1), (77, .iinc 3 1, 3), (80, .goto (-76), 3), (83, .iload_n 2, 1), (84, .ireturn, 1)]
def jq_186 : jmE := (yX11_isLost, cX11_isLost, 5, (Option.some Jvm.ClassFile.FieldType.boolean), 11, false, jt_186)
set_option maxRecDepth 100000 in
def jt_187_0 : List (Nat × Instr × Nat) := [(0, .iload_n 2, 1), (1, .iload_n 3, 1), (2, .if_icmp .eq 37, 3), (5, .aload_n 0, 1), (6, .getfield 81, 3), (9, .iload_n 3, 1), (10, .iaload, 1), (11, .aload_n 0, 1), (12, .getfield 93, 3), (15, .iload_n 1, 1), (16, .iaload, 1), (17, .if_icmp .ne 22, 3), (20, .aload_n 0, 1), (21, .getfield 108, 3), (24, .iload_n 3, 1), (25, .iaload, 1), (26, .aload_n 0, 1), (27, .getfield 96, 3), (30, .iload_n 1, 1), (31, .iaload, 1), (32, .if_icmp .lt 7, 3), (35, .iconst 1, 1), (36, .goto 4, 3), (39, .iconst 0, 1), (40, .istore 4, 2), (42, .iconst 0, 1), (43, .istore 5, 2), (45, .iload 5, 2), (47, .aload_n 0, 1), (48, .getfield 99, 3), (51, .iload_n 1, 1), (52, .iaload, 1), (53, .if_icmp .ge 75, 3), (56, .iload 4, 2), (58, .ifCond .eq 70, 3), (61, .aload_n 0, 1), (62, .getfield 111, 3), (65, .bipush 6, 2), (67, .iload_n 2, 1), (68, .imul, 1)]
def jt_187_1 : List (Nat × Instr × Nat) := [(69, .aload_n 0, 1), (70, .getfield 102, 3), (73, .iconst 4, 1), (74, .iload_n 1, 1), (75, .imul, 1), (76, .iload 5, 2), (78, .iadd, 1), (79, .iaload, 1), (80, .iadd, 1), (81, .iaload, 1), (82, .istore 6, 2), (84, .iload 6, 2), (86, .ifCond .lt 33, 3), (89, .iload 6, 2), (91, .aload_n 0, 1), (92, .getfield 111, 3), (95, .bipush 6, 2), (97, .iload_n 3, 1), (98, .imul, 1), (99, .aload_n 0, 1), (100, .getfield 105, 3), (103, .iconst 4, 1), (104, .iload_n 1, 1), (105, .imul, 1), (106, .iload 5, 2), (108, .iadd, 1), (109, .iaload, 1), (110, .iadd, 1), (111, .iaload, 1), (112, .if_icmp .ne 7, 3), (115, .iconst 1, 1), (116, .goto 4, 3), (119, .iconst 0, 1), (120, .istore 4, 2), (122, .iinc 5 1, 3), (125, .goto (-80), 3), (128, .iload 4, 2), (130, .ireturn, 1)]
def jt_187 : List (Nat × Instr × Nat) := jt_187_0 ++ (jt_187_1)
def jq_187 : jmE := (yX11_fits, cX11_fits, 7, (Option.some Jvm.ClassFile.FieldType.boolean), 11, false, jt_187)
set_option maxRecDepth 100000 in
def jt_188_0 : List (Nat × Instr × Nat) := [(0, .iconst 0, 1), (1, .istore_n 2, 1), (2, .iconst 0, 1), (3, .istore_n 3, 1), (4, .iload_n 3, 1), (5, .aload_n 0, 1), (6, .getfield 282, 3), (9, .if_icmp .ge 62, 3), (12, .aload_n 0, 1), (13, .getfield 81, 3), (16, .iload_n 3, 1), (17, .iaload, 1), (18, .aload_n 0, 1), (19, .getfield 90, 3), (22, .iload_n 1, 1), (23, .iaload, 1), (24, .if_icmp .ne 41, 3), (27, .aload_n 0, 1), (28, .getfield 108, 3), (31, .iload_n 3, 1), (32, .iaload, 1), (33, .aload_n 0, 1), (34, .getfield 57, 3), (37, .aload_n 0, 1), (38, .getfield 90, 3), (41, .iload_n 1, 1), (42, .iaload, 1), (43, .iaload, 1), (44, .if_icmp .ne 21, 3), (47, .aload_n 0, 1), (48, .iload_n 3, 1), (49, .invokevirtual 321, 3), (52, .ifCond .eq 13, 3), (55, .aload_n 0, 1), (56, .getfield 138, 3), (59, .iload_n 2, 1), (60, .iload_n 3, 1), (61, .iastore, 1), (62, .iinc 2 1, 3), (65, .iinc 3 1, 3)]
def jt_188_1 : List (Nat × Instr × Nat) := [(68, .goto (-64), 3), (71, .iconst 1, 1), (72, .iconst 2, 1), (73, .iload_n 2, 1), (74, .imul, 1), (75, .ishl, 1), (76, .istore_n 3, 1), (77, .iconst 0, 1), (78, .istore 4, 2), (80, .iconst 0, 1), (81, .istore 5, 2), (83, .iload 5, 2), (85, .iload_n 3, 1), (86, .if_icmp .ge 103, 3), (89, .iload 4, 2), (91, .ifCond .ne 98, 3), (94, .iconst 1, 1), (95, .istore 4, 2), (97, .iconst 0, 1), (98, .istore 6, 2), (100, .iconst 0, 1), (101, .istore 7, 2), (103, .iload 7, 2), (105, .iload_n 2, 1), (106, .if_icmp .ge 77, 3), (109, .iload 4, 2), (111, .ifCond .eq 72, 3), (114, .iload 5, 2), (116, .iconst 2, 1), (117, .iload 7, 2), (119, .imul, 1), (120, .ishr, 1), (121, .iconst 3, 1), (122, .iand, 1), (123, .istore 8, 2), (125, .iload 8, 2), (127, .aload_n 0, 1), (128, .getfield 282, 3), (131, .if_icmp .ge 34, 3), (134, .iload 6, 2)]
def jt_188_2 : List (Nat × Instr × Nat) := [(136, .iload 8, 2), (138, .ishr, 1), (139, .iconst 1, 1), (140, .iand, 1), (141, .ifCond .ne 24, 3), (144, .aload_n 0, 1), (145, .iload_n 1, 1), (146, .aload_n 0, 1), (147, .getfield 138, 3), (150, .iload 7, 2), (152, .iaload, 1), (153, .iload 8, 2), (155, .invokevirtual 324, 3), (158, .ifCond .eq 7, 3), (161, .iconst 1, 1), (162, .goto 4, 3), (165, .iconst 0, 1), (166, .istore 4, 2), (168, .iload 6, 2), (170, .iconst 1, 1), (171, .iload 8, 2), (173, .ishl, 1), (174, .ior, 1), (175, .istore 6, 2), (177, .iinc 7 1, 3), (180, .goto (-77), 3), (183, .iinc 5 1, 3), (186, .goto (-103), 3), (189, .iload 4, 2), (191, .ifCond .ne 7, 3), (194, .iconst 1, 1), (195, .goto 4, 3), (198, .iconst 0, 1), (199, .ireturn, 1)]
def jt_188 : List (Nat × Instr × Nat) := jt_188_0 ++ (jt_188_1 ++ (jt_188_2))
def jq_188 : jmE := (yX11_isApart, cX11_isApart, 9, (Option.some Jvm.ClassFile.FieldType.boolean), 11, false, jt_188)
set_option maxRecDepth 100000 in
def jt_189 : List (Nat × Instr × Nat) := [(0, .aload_n 0, 1), (1, .getfield 87, 3), (4, .iload_n 1, 1), (5, .baload, 1), (6, .ifCond .eq 11, 3), (9, .aload_n 0, 1), (10, .iload_n 1, 1), (11, .invokevirtual 328, 3), (14, .goto 8, 3), (17, .aload_n 0, 1), (18, .iload_n 1, 1), (19, .invokevirtual 331, 3), (22, .ireturn, 1)]
def jq_189 : jmE := (yX11_isBroken, cX11_isBroken, 2, (Option.some Jvm.ClassFile.FieldType.boolean), 11, false, jt_189)
set_option maxRecDepth 100000 in
def jt_190_0 : List (Nat × Instr × Nat) := [(0, .aload_n 0, 1), (1, .getfield 221, 3), (4, .ifCond .eq 4, 3), (7, .return_, 1), (8, .aload_n 0, 1), (9, .invokevirtual 334, 3), (12, .iconst 0, 1), (13, .istore_n 1, 1), (14, .iload_n 1, 1), (15, .iconst 4, 1), (16, .if_icmp .ge 16, 3), (19, .aload_n 0, 1), (20, .getfield 147, 3), (23, .iload_n 1, 1), (24, .iconst 0, 1), (25, .iastore, 1), (26, .iinc 1 1, 3), (29, .goto (-15), 3), (32, .iconst 0, 1), (33, .istore_n 1, 1), (34, .iload_n 1, 1), (35, .aload_n 0, 1), (36, .getfield 337, 3), (39, .if_icmp .ge 70, 3), (42, .aload_n 0, 1), (43, .getfield 141, 3), (46, .iload_n 1, 1), (47, .iaload, 1), (48, .istore_n 2, 1), (49, .bipush 6, 2), (51, .aload_n 0, 1), (52, .getfield 81, 3), (55, .iload_n 2, 1), (56, .iaload, 1), (57, .imul, 1), (58, .aload_n 0, 1), (59, .getfield 147, 3), (62, .iload_n 2, 1), (63, .iaload, 1), (64, .iadd, 1)]
def jt_190_1 : List (Nat × Instr × Nat) := [(65, .istore_n 3, 1), (66, .aload_n 0, 1), (67, .getfield 63, 3), (70, .iload_n 3, 1), (71, .baload, 1), (72, .ifCond .eq 21, 3), (75, .aload_n 0, 1), (76, .aload_n 0, 1), (77, .iload_n 2, 1), (78, .aload_n 0, 1), (79, .getfield 60, 3), (82, .iload_n 3, 1), (83, .iaload, 1), (84, .invokevirtual 340, 3), (87, .iconst 1, 1), (88, .bipush (-6), 2), (90, .invokevirtual 305, 3), (93, .aload_n 0, 1), (94, .getfield 147, 3), (97, .iload_n 2, 1), (98, .dup2, 1), (99, .iaload, 1), (100, .iconst 1, 1), (101, .iadd, 1), (102, .iastore, 1), (103, .iinc 1 1, 3), (106, .goto (-72), 3), (109, .aload_n 0, 1), (110, .invokevirtual 343, 3), (113, .aload_n 0, 1), (114, .iconst 1, 1), (115, .putfield 221, 3), (118, .return_, 1)]
def jt_190 : List (Nat × Instr × Nat) := jt_190_0 ++ (jt_190_1)
def jq_190 : jmE := (yX11_runRow, cX11_runRow, 4, (Option.none : Option Jvm.ClassFile.FieldType), 11, false, jt_190)
set_option maxRecDepth 100000 in
def jt_191 : List (Nat × Instr × Nat) := [(0, .aload_n 0, 1), (1, .iconst 1, 1), (2, .putfield 273, 3), (5, .aload_n 0, 1), (6, .iconst 0, 1), (7, .putfield 337, 3), (10, .aload_n 0, 1), (11, .invokevirtual 346, 3), (14, .aload_n 0, 1), (15, .iconst 0, 1), (16, .putfield 221, 3), (19, .aload_n 0, 1), (20, .getfield 282, 3), (23, .ireturn, 1)]
def jq_191 : jmE := (yX11_begin, cX11_begin, 1, (Option.some Jvm.ClassFile.FieldType.int), 11, false, jt_191)
set_option maxRecDepth 100000 in
def jt_192 : List (Nat × Instr × Nat) := [(0, .aload_n 0, 1), (1, .getfield 273, 3), (4, .ifCond .ne 6, 3), (7, .bipush (-3), 2), (9, .ireturn, 1), (10, .aload_n 0, 1), (11, .iconst 0, 1), (12, .putfield 273, 3), (15, .aload_n 0, 1), (16, .getfield 337, 3), (19, .ireturn, 1)]
def jq_192 : jmE := (yX11_end, cX11_end, 1, (Option.some Jvm.ClassFile.FieldType.int), 11, false, jt_192)
set_option maxRecDepth 100000 in
def jt_193 : List (Nat × Instr × Nat) := [(0, .aload_n 0, 1), (1, .getfield 81, 3), (4, .iload_n 1, 1), (5, .iaload, 1), (6, .istore_n 2, 1), (7, .aload_n 0, 1), (8, .getfield 108, 3), (11, .iload_n 1, 1), (12, .iaload, 1), (13, .aload_n 0, 1), (14, .getfield 57, 3), (17, .iload_n 2, 1), (18, .iaload, 1), (19, .if_icmp .ge 17, 3), (22, .bipush 6, 2), (24, .iload_n 2, 1), (25, .imul, 1), (26, .aload_n 0, 1), (27, .getfield 108, 3), (30, .iload_n 1, 1), (31, .iaload, 1), (32, .iadd, 1), (33, .goto 4, 3), (36, .iconst (-1), 1), (37, .ireturn, 1)]
def jq_193 : jmE := (yX11_nextEvent, cX11_nextEvent, 3, (Option.some Jvm.ClassFile.FieldType.int), 11, false, jt_193)
set_option maxRecDepth 100000 in
def jt_194 : List (Nat × Instr × Nat) := [(0, .aload_n 0, 1), (1, .getfield 141, 3), (4, .aload_n 0, 1), (5, .getfield 337, 3), (8, .iload_n 1, 1), (9, .iastore, 1), (10, .aload_n 0, 1), (11, .getfield 144, 3), (14, .aload_n 0, 1), (15, .getfield 337, 3), (18, .iload_n 2, 1), (19, .iastore, 1), (20, .aload_n 0, 1), (21, .dup, 1), (22, .getfield 337, 3), (25, .iconst 1, 1), (26, .iadd, 1), (27, .putfield 337, 3), (30, .aload_n 0, 1), (31, .getfield 108, 3), (34, .iload_n 1, 1), (35, .dup2, 1), (36, .iaload, 1), (37, .iconst 1, 1), (38, .iadd, 1), (39, .iastore, 1), (40, .return_, 1)]
def jq_194 : jmE := (yX11_does, cX11_does, 3, (Option.none : Option Jvm.ClassFile.FieldType), 11, false, jt_194)
set_option maxRecDepth 100000 in
def jt_195 : List (Nat × Instr × Nat) := [(0, .aload_n 0, 1), (1, .iload_n 1, 1), (2, .invokevirtual 349, 3), (5, .ifCond .ne 5, 3), (8, .iconst (-1), 1), (9, .ireturn, 1), (10, .aload_n 0, 1), (11, .getfield 273, 3), (14, .ifCond .ne 6, 3), (17, .bipush (-3), 2), (19, .ireturn, 1), (20, .aload_n 0, 1), (21, .iload_n 1, 1), (22, .invokevirtual 352, 3), (25, .istore_n 2, 1), (26, .iload_n 2, 1), (27, .ifCond .lt 12, 3), (30, .aload_n 0, 1), (31, .getfield 63, 3), (34, .iload_n 2, 1), (35, .baload, 1), (36, .ifCond .ne 6, 3), (39, .bipush (-5), 2), (41, .ireturn, 1), (42, .aload_n 0, 1), (43, .iload_n 1, 1), (44, .iconst 0, 1), (45, .invokevirtual 356, 3), (48, .aload_n 0, 1), (49, .iconst 0, 1), (50, .putfield 221, 3), (53, .aload_n 0, 1), (54, .invokevirtual 360, 3), (57, .aload_n 0, 1), (58, .getfield 302, 3), (61, .ireturn, 1)]
def jq_195 : jmE := (yX11_send, cX11_send, 3, (Option.some Jvm.ClassFile.FieldType.int), 11, false, jt_195)
set_option maxRecDepth 100000 in
def jt_196_0 : List (Nat × Instr × Nat) := [(0, .iconst 0, 1), (1, .istore 4, 2), (3, .iload 4, 2), (5, .bipush 6, 2), (7, .if_icmp .ge 28, 3), (10, .aload_n 0, 1), (11, .getfield 153, 3), (14, .iload 4, 2), (16, .aload_n 0, 1), (17, .getfield 111, 3), (20, .bipush 6, 2), (22, .iload_n 1, 1), (23, .imul, 1), (24, .iload 4, 2), (26, .iadd, 1), (27, .iaload, 1), (28, .iastore, 1), (29, .iinc 4 1, 3), (32, .goto (-29), 3), (35, .iconst 0, 1), (36, .istore 4, 2), (38, .iconst 1, 1), (39, .istore 5, 2), (41, .aload_n 0, 1), (42, .getfield 72, 3), (45, .iconst 0, 1), (46, .iload_n 2, 1), (47, .iastore, 1), (48, .aload_n 0, 1), (49, .getfield 150, 3), (52, .iconst 0, 1), (53, .iload_n 3, 1), (54, .iastore, 1), (55, .iload 5, 2), (57, .ifCond .le 248, 3), (60, .iinc 5 (-1), 3), (63, .aload_n 0, 1), (64, .getfield 72, 3), (67, .iload 5, 2), (69, .iaload, 1)]
def jt_196_1 : List (Nat × Instr × Nat) := [(70, .istore 6, 2), (72, .aload_n 0, 1), (73, .getfield 150, 3), (76, .iload 5, 2), (78, .iaload, 1), (79, .istore 7, 2), (81, .aload_n 0, 1), (82, .getfield 22, 3), (85, .iload 6, 2), (87, .baload, 1), (88, .ifCond .eq 12, 3), (91, .iload 6, 2), (93, .iload 7, 2), (95, .if_icmp .eq 207, 3), (98, .iconst (-1), 1), (99, .ireturn, 1), (100, .aload_n 0, 1), (101, .getfield 7, 3), (104, .iload 6, 2), (106, .iaload, 1), (107, .iconst 3, 1), (108, .if_icmp .ne 103, 3), (111, .aload_n 0, 1), (112, .getfield 35, 3), (115, .iload 6, 2), (117, .iaload, 1), (118, .istore 8, 2), (120, .aload_n 0, 1), (121, .getfield 153, 3), (124, .iload 8, 2), (126, .iaload, 1), (127, .ifCond .lt 18, 3), (130, .aload_n 0, 1), (131, .getfield 153, 3), (134, .iload 8, 2), (136, .iaload, 1), (137, .iload 7, 2), (139, .if_icmp .eq 36, 3), (142, .goto 31, 3), (145, .aload_n 0, 1)]
def jt_196_2 : List (Nat × Instr × Nat) := [(146, .getfield 32, 3), (149, .iload 6, 2), (151, .iaload, 1), (152, .iconst 3, 1), (153, .if_icmp .eq 22, 3), (156, .aload_n 0, 1), (157, .getfield 7, 3), (160, .iload 7, 2), (162, .iaload, 1), (163, .aload_n 0, 1), (164, .getfield 32, 3), (167, .iload 6, 2), (169, .iaload, 1), (170, .if_icmp .eq 5, 3), (173, .iconst (-1), 1), (174, .ireturn, 1), (175, .aload_n 0, 1), (176, .getfield 153, 3), (179, .iload 8, 2), (181, .iaload, 1), (182, .ifCond .lt 8, 3), (185, .iload 4, 2), (187, .goto 10, 3), (190, .iload 4, 2), (192, .iconst 1, 1), (193, .iload 8, 2), (195, .ishl, 1), (196, .ior, 1), (197, .istore 4, 2), (199, .aload_n 0, 1), (200, .getfield 153, 3), (203, .iload 8, 2), (205, .iload 7, 2), (207, .iastore, 1), (208, .goto 94, 3), (211, .aload_n 0, 1), (212, .getfield 7, 3), (215, .iload 6, 2), (217, .iaload, 1), (218, .aload_n 0, 1)]
def jt_196_3 : List (Nat × Instr × Nat) := [(219, .getfield 7, 3), (222, .iload 7, 2), (224, .iaload, 1), (225, .if_icmp .eq 5, 3), (228, .iconst (-1), 1), (229, .ireturn, 1), (230, .aload_n 0, 1), (231, .getfield 16, 3), (234, .iload 6, 2), (236, .iaload, 1), (237, .ifCond .lt 34, 3), (240, .aload_n 0, 1), (241, .getfield 72, 3), (244, .iload 5, 2), (246, .aload_n 0, 1), (247, .getfield 16, 3), (250, .iload 6, 2), (252, .iaload, 1), (253, .iastore, 1), (254, .aload_n 0, 1), (255, .getfield 150, 3), (258, .iload 5, 2), (260, .aload_n 0, 1), (261, .getfield 16, 3), (264, .iload 7, 2), (266, .iaload, 1), (267, .iastore, 1), (268, .iinc 5 1, 3), (271, .aload_n 0, 1), (272, .getfield 72, 3), (275, .iload 5, 2), (277, .aload_n 0, 1), (278, .getfield 13, 3), (281, .iload 6, 2), (283, .iaload, 1), (284, .iastore, 1), (285, .aload_n 0, 1), (286, .getfield 150, 3), (289, .iload 5, 2), (291, .aload_n 0, 1)]
def jt_196_4 : List (Nat × Instr × Nat) := [(292, .getfield 13, 3), (295, .iload 7, 2), (297, .iaload, 1), (298, .iastore, 1), (299, .iinc 5 1, 3), (302, .goto (-247), 3), (305, .iload 4, 2), (307, .ireturn, 1)]
def jt_196 : List (Nat × Instr × Nat) := jt_196_0 ++ (jt_196_1 ++ (jt_196_2 ++ (jt_196_3 ++ (jt_196_4))))
def jq_196 : jmE := (yX11_bindsTo, cX11_bindsTo, 9, (Option.some Jvm.ClassFile.FieldType.int), 11, false, jt_196)
set_option maxRecDepth 100000 in
def jt_197_0 : List (Nat × Instr × Nat) := [(0, .aload_n 0, 1), (1, .iload_n 1, 1), (2, .invokevirtual 349, 3), (5, .ifCond .eq 11, 3), (8, .aload_n 0, 1), (9, .iload_n 2, 1), (10, .invokevirtual 244, 3), (13, .ifCond .ne 5, 3), (16, .iconst (-1), 1), (17, .ireturn, 1), (18, .aload_n 0, 1), (19, .getfield 273, 3), (22, .ifCond .ne 6, 3), (25, .bipush (-3), 2), (27, .ireturn, 1), (28, .aload_n 0, 1), (29, .iload_n 1, 1), (30, .invokevirtual 352, 3), (33, .istore_n 3, 1), (34, .iload_n 3, 1), (35, .ifCond .lt 21, 3), (38, .aload_n 0, 1), (39, .getfield 63, 3), (42, .iload_n 3, 1), (43, .baload, 1), (44, .ifCond .ne 12, 3), (47, .aload_n 0, 1), (48, .getfield 22, 3), (51, .iload_n 2, 1), (52, .baload, 1), (53, .ifCond .ne 6, 3), (56, .bipush (-5), 2), (58, .ireturn, 1), (59, .aload_n 0, 1), (60, .invokevirtual 360, 3), (63, .aload_n 0, 1), (64, .iload_n 2, 1), (65, .invokevirtual 318, 3), (68, .ifCond .ne 6, 3), (71, .bipush (-5), 2)]
def jt_197_1 : List (Nat × Instr × Nat) := [(73, .ireturn, 1), (74, .aload_n 0, 1), (75, .iload_n 1, 1), (76, .aload_n 0, 1), (77, .getfield 60, 3), (80, .iload_n 3, 1), (81, .iaload, 1), (82, .iload_n 2, 1), (83, .invokevirtual 363, 3), (86, .istore 4, 2), (88, .iload 4, 2), (90, .ifCond .ge 6, 3), (93, .bipush (-5), 2), (95, .ireturn, 1), (96, .iconst 0, 1), (97, .istore 5, 2), (99, .iload 5, 2), (101, .bipush 6, 2), (103, .if_icmp .ge 28, 3), (106, .aload_n 0, 1), (107, .getfield 111, 3), (110, .bipush 6, 2), (112, .iload_n 1, 1), (113, .imul, 1), (114, .iload 5, 2), (116, .iadd, 1), (117, .aload_n 0, 1), (118, .getfield 153, 3), (121, .iload 5, 2), (123, .iaload, 1), (124, .iastore, 1), (125, .iinc 5 1, 3), (128, .goto (-29), 3), (131, .aload_n 0, 1), (132, .iload_n 1, 1), (133, .iload 4, 2), (135, .invokevirtual 356, 3), (138, .aload_n 0, 1), (139, .getfield 108, 3), (142, .iload_n 1, 1)]
def jt_197_2 : List (Nat × Instr × Nat) := [(143, .iaload, 1), (144, .ireturn, 1)]
def jt_197 : List (Nat × Instr × Nat) := jt_197_0 ++ (jt_197_1 ++ (jt_197_2))
def jq_197 : jmE := (yX11_receive, cX11_receive, 6, (Option.some Jvm.ClassFile.FieldType.int), 11, false, jt_197)
set_option maxRecDepth 100000 in
def jt_198 : List (Nat × Instr × Nat) := [(0, .aload_n 0, 1), (1, .iload_n 1, 1), (2, .invokevirtual 244, 3), (5, .ifCond .ne 5, 3), (8, .iconst (-1), 1), (9, .ireturn, 1), (10, .aload_n 0, 1), (11, .getfield 273, 3), (14, .ifCond .ne 6, 3), (17, .bipush (-3), 2), (19, .ireturn, 1), (20, .aload_n 0, 1), (21, .getfield 22, 3), (24, .iload_n 1, 1), (25, .baload, 1), (26, .ifCond .ne 6, 3), (29, .bipush (-5), 2), (31, .ireturn, 1), (32, .aload_n 0, 1), (33, .invokevirtual 360, 3), (36, .aload_n 0, 1), (37, .iload_n 1, 1), (38, .invokevirtual 318, 3), (41, .ifCond .eq 7, 3), (44, .iconst 1, 1), (45, .goto 4, 3), (48, .iconst 0, 1), (49, .ireturn, 1)]
def jq_198 : jmE := (yX11_makes, cX11_makes, 2, (Option.some Jvm.ClassFile.FieldType.int), 11, false, jt_198)
set_option maxRecDepth 100000 in
def jt_199_0 : List (Nat × Instr × Nat) := [(0, .aload_n 0, 1), (1, .iconst 0, 1), (2, .putfield 366, 3), (5, .sipush 200, 3), (8, .istore_n 2, 1), (9, .iload_n 2, 1), (10, .aload_n 0, 1), (11, .getfield 38, 3), (14, .if_icmp .ge 16, 3), (17, .aload_n 0, 1), (18, .getfield 159, 3), (21, .iload_n 2, 1), (22, .iconst 0, 1), (23, .bastore, 1), (24, .iinc 2 1, 3), (27, .goto (-18), 3), (30, .iconst 1, 1), (31, .istore_n 2, 1), (32, .aload_n 0, 1), (33, .getfield 72, 3), (36, .iconst 0, 1), (37, .iload_n 1, 1), (38, .iastore, 1), (39, .iload_n 2, 1), (40, .ifCond .le 129, 3), (43, .aload_n 0, 1), (44, .getfield 72, 3), (47, .iload_n 2, 1), (48, .iconst 1, 1), (49, .isub, 1), (50, .iaload, 1), (51, .istore_n 3, 1), (52, .iload_n 3, 1), (53, .sipush 200, 3), (56, .if_icmp .lt 12, 3), (59, .aload_n 0, 1), (60, .getfield 159, 3), (63, .iload_n 3, 1), (64, .baload, 1), (65, .ifCond .eq 9, 3)]
def jt_199_1 : List (Nat × Instr × Nat) := [(68, .iinc 2 (-1), 3), (71, .goto 95, 3), (74, .aload_n 0, 1), (75, .aload_n 0, 1), (76, .getfield 13, 3), (79, .iload_n 3, 1), (80, .iaload, 1), (81, .invokevirtual 369, 3), (84, .ifCond .eq 21, 3), (87, .aload_n 0, 1), (88, .getfield 72, 3), (91, .iload_n 2, 1), (92, .aload_n 0, 1), (93, .getfield 13, 3), (96, .iload_n 3, 1), (97, .iaload, 1), (98, .iastore, 1), (99, .iinc 2 1, 3), (102, .goto 64, 3), (105, .aload_n 0, 1), (106, .aload_n 0, 1), (107, .getfield 16, 3), (110, .iload_n 3, 1), (111, .iaload, 1), (112, .invokevirtual 369, 3), (115, .ifCond .eq 21, 3), (118, .aload_n 0, 1), (119, .getfield 72, 3), (122, .iload_n 2, 1), (123, .aload_n 0, 1), (124, .getfield 16, 3), (127, .iload_n 3, 1), (128, .iaload, 1), (129, .iastore, 1), (130, .iinc 2 1, 3), (133, .goto 33, 3), (136, .aload_n 0, 1), (137, .getfield 159, 3), (140, .iload_n 3, 1), (141, .iconst 1, 1)]
def jt_199_2 : List (Nat × Instr × Nat) := [(142, .bastore, 1), (143, .aload_n 0, 1), (144, .getfield 156, 3), (147, .aload_n 0, 1), (148, .getfield 366, 3), (151, .iload_n 3, 1), (152, .iastore, 1), (153, .aload_n 0, 1), (154, .dup, 1), (155, .getfield 366, 3), (158, .iconst 1, 1), (159, .iadd, 1), (160, .putfield 366, 3), (163, .iinc 2 (-1), 3), (166, .goto (-127), 3), (169, .return_, 1)]
def jt_199 : List (Nat × Instr × Nat) := jt_199_0 ++ (jt_199_1 ++ (jt_199_2))
def jq_199 : jmE := (yX11_findOrder, cX11_findOrder, 4, (Option.none : Option Jvm.ClassFile.FieldType), 11, false, jt_199)
set_option maxRecDepth 100000 in
def jt_200 : List (Nat × Instr × Nat) := [(0, .iload_n 1, 1), (1, .sipush 200, 3), (4, .if_icmp .lt 16, 3), (7, .aload_n 0, 1), (8, .getfield 159, 3), (11, .iload_n 1, 1), (12, .baload, 1), (13, .ifCond .ne 7, 3), (16, .iconst 1, 1), (17, .goto 4, 3), (20, .iconst 0, 1), (21, .ireturn, 1)]
def jq_200 : jmE := (yX11_isOpen, cX11_isOpen, 2, (Option.some Jvm.ClassFile.FieldType.boolean), 11, false, jt_200)
set_option maxRecDepth 100000 in
def jt_201 : List (Nat × Instr × Nat) := [(0, .iload_n 1, 1), (1, .sipush 200, 3), (4, .if_icmp .ge 9, 3), (7, .iload_n 1, 1), (8, .sipush 1000, 3), (11, .isub, 1), (12, .ireturn, 1), (13, .iconst 0, 1), (14, .istore_n 2, 1), (15, .aload_n 0, 1), (16, .getfield 156, 3), (19, .iload_n 2, 1), (20, .iaload, 1), (21, .iload_n 1, 1), (22, .if_icmp .eq 9, 3), (25, .iinc 2 1, 3), (28, .goto (-13), 3), (31, .iload_n 2, 1), (32, .ireturn, 1)]
def jq_201 : jmE := (yX11_inOrder, cX11_inOrder, 3, (Option.some Jvm.ClassFile.FieldType.int), 11, false, jt_201)
set_option maxRecDepth 100000 in
def jt_202 : List (Nat × Instr × Nat) := [(0, .iload_n 1, 1), (1, .ifCond .ge 11, 3), (4, .iload_n 1, 1), (5, .sipush 1000, 3), (8, .iadd, 1), (9, .goto 6, 3), (12, .iload_n 2, 1), (13, .iload_n 1, 1), (14, .iadd, 1), (15, .ireturn, 1)]
def jq_202 : jmE := (yX11_lastOf, cX11_lastOf, 3, (Option.some Jvm.ClassFile.FieldType.int), 11, false, jt_202)
set_option maxRecDepth 100000 in
def jt_203_0 : List (Nat × Instr × Nat) := [(0, .aload_n 0, 1), (1, .iload_n 1, 1), (2, .invokevirtual 372, 3), (5, .aload_n 0, 1), (6, .getfield 225, 3), (9, .aload_n 0, 1), (10, .getfield 366, 3), (13, .iadd, 1), (14, .sipush 200, 3), (17, .if_icmp .le 6, 3), (20, .bipush (-4), 2), (22, .ireturn, 1), (23, .iconst 0, 1), (24, .istore_n 2, 1), (25, .iload_n 2, 1), (26, .aload_n 0, 1), (27, .getfield 366, 3), (30, .if_icmp .ge 88, 3), (33, .aload_n 0, 1), (34, .getfield 162, 3), (37, .iload_n 2, 1), (38, .aload_n 0, 1), (39, .getfield 7, 3), (42, .aload_n 0, 1), (43, .getfield 156, 3), (46, .iload_n 2, 1), (47, .iaload, 1), (48, .iaload, 1), (49, .iastore, 1), (50, .aload_n 0, 1), (51, .getfield 165, 3), (54, .iload_n 2, 1), (55, .aload_n 0, 1), (56, .aload_n 0, 1), (57, .getfield 13, 3), (60, .aload_n 0, 1), (61, .getfield 156, 3), (64, .iload_n 2, 1), (65, .iaload, 1), (66, .iaload, 1)]
def jt_203_1 : List (Nat × Instr × Nat) := [(67, .invokevirtual 375, 3), (70, .iastore, 1), (71, .aload_n 0, 1), (72, .getfield 168, 3), (75, .iload_n 2, 1), (76, .aload_n 0, 1), (77, .getfield 16, 3), (80, .aload_n 0, 1), (81, .getfield 156, 3), (84, .iload_n 2, 1), (85, .iaload, 1), (86, .iaload, 1), (87, .ifCond .ge 9, 3), (90, .sipush (-1001), 3), (93, .goto 18, 3), (96, .aload_n 0, 1), (97, .aload_n 0, 1), (98, .getfield 16, 3), (101, .aload_n 0, 1), (102, .getfield 156, 3), (105, .iload_n 2, 1), (106, .iaload, 1), (107, .iaload, 1), (108, .invokevirtual 375, 3), (111, .iastore, 1), (112, .iinc 2 1, 3), (115, .goto (-90), 3), (118, .aload_n 0, 1), (119, .getfield 366, 3), (122, .istore_n 2, 1), (123, .aload_n 0, 1), (124, .getfield 225, 3), (127, .istore_n 3, 1), (128, .iconst 0, 1), (129, .istore 4, 2), (131, .iload 4, 2), (133, .iload_n 2, 1), (134, .if_icmp .ge 45, 3), (137, .aload_n 0, 1), (138, .aload_n 0, 1)]
def jt_203_2 : List (Nat × Instr × Nat) := [(139, .getfield 162, 3), (142, .iload 4, 2), (144, .iaload, 1), (145, .aload_n 0, 1), (146, .aload_n 0, 1), (147, .getfield 165, 3), (150, .iload 4, 2), (152, .iaload, 1), (153, .iload_n 3, 1), (154, .invokevirtual 378, 3), (157, .aload_n 0, 1), (158, .aload_n 0, 1), (159, .getfield 168, 3), (162, .iload 4, 2), (164, .iaload, 1), (165, .iload_n 3, 1), (166, .invokevirtual 378, 3), (169, .invokevirtual 239, 3), (172, .pop, 1), (173, .iinc 4 1, 3), (176, .goto (-45), 3), (179, .aload_n 0, 1), (180, .getfield 225, 3), (183, .iconst 1, 1), (184, .isub, 1), (185, .ireturn, 1)]
def jt_203 : List (Nat × Instr × Nat) := jt_203_0 ++ (jt_203_1 ++ (jt_203_2))
def jq_203 : jmE := (yX11_lasting, cX11_lasting, 5, (Option.some Jvm.ClassFile.FieldType.int), 11, false, jt_203)
set_option maxRecDepth 100000 in
def jt_204_0 : List (Nat × Instr × Nat) := [(0, .iload_n 2, 1), (1, .i2l, 1), (2, .lconst 0, 1), (3, .ldc2_w 381, 3), (6, .invokestatic 235, 3), (9, .ifCond .ne 6, 3), (12, .bipush (-2), 2), (14, .ireturn, 1), (15, .aload_n 0, 1), (16, .getfield 273, 3), (19, .ifCond .ne 6, 3), (22, .bipush (-3), 2), (24, .ireturn, 1), (25, .aload_n 0, 1), (26, .invokevirtual 360, 3), (29, .iload_n 1, 1), (30, .i2l, 1), (31, .lconst 0, 1), (32, .aload_n 0, 1), (33, .getfield 302, 3), (36, .iconst 1, 1), (37, .isub, 1), (38, .i2l, 1), (39, .invokestatic 235, 3), (42, .ifCond .ne 6, 3), (45, .bipush (-6), 2), (47, .ireturn, 1), (48, .aload_n 0, 1), (49, .getfield 120, 3), (52, .iload_n 1, 1), (53, .iaload, 1), (54, .istore_n 3, 1), (55, .iload_n 2, 1), (56, .tableswitch 60 0 3 #[32, 39, 46, 53], 32), (88, .aload_n 0, 1), (89, .getfield 7, 3), (92, .iload_n 3, 1), (93, .iaload, 1), (94, .ireturn, 1), (95, .aload_n 0, 1)]
def jt_204_1 : List (Nat × Instr × Nat) := [(96, .getfield 19, 3), (99, .iload_n 3, 1), (100, .iaload, 1), (101, .ireturn, 1), (102, .aload_n 0, 1), (103, .getfield 123, 3), (106, .iload_n 1, 1), (107, .iaload, 1), (108, .ireturn, 1), (109, .aload_n 0, 1), (110, .getfield 126, 3), (113, .iload_n 1, 1), (114, .iaload, 1), (115, .ireturn, 1), (116, .iload_n 3, 1), (117, .sipush 200, 3), (120, .if_icmp .ge 7, 3), (123, .iload_n 3, 1), (124, .goto 24, 3), (127, .aload_n 0, 1), (128, .getfield 19, 3), (131, .iload_n 3, 1), (132, .iaload, 1), (133, .bipush 24, 2), (135, .if_icmp .le 8, 3), (138, .bipush (-5), 2), (140, .goto 8, 3), (143, .aload_n 0, 1), (144, .iload_n 3, 1), (145, .invokevirtual 383, 3), (148, .ireturn, 1)]
def jt_204 : List (Nat × Instr × Nat) := jt_204_0 ++ (jt_204_1)
def jq_204 : jmE := (yX11_row, cX11_row, 4, (Option.some Jvm.ClassFile.FieldType.int), 11, false, jt_204)
set_option maxRecDepth 100000 in
def jt_205 : List (Nat × Instr × Nat) := [(0, .aload_n 0, 1), (1, .iload_n 1, 1), (2, .invokevirtual 349, 3), (5, .ifCond .eq 26, 3), (8, .iload_n 2, 1), (9, .i2l, 1), (10, .lconst 0, 1), (11, .aload_n 0, 1), (12, .getfield 48, 3), (15, .aload_n 0, 1), (16, .getfield 81, 3), (19, .iload_n 1, 1), (20, .iaload, 1), (21, .iaload, 1), (22, .iconst 1, 1), (23, .isub, 1), (24, .i2l, 1), (25, .invokestatic 235, 3), (28, .ifCond .ne 5, 3), (31, .iconst (-1), 1), (32, .ireturn, 1), (33, .aload_n 0, 1), (34, .getfield 273, 3), (37, .ifCond .eq 17, 3), (40, .aload_n 0, 1), (41, .getfield 111, 3), (44, .bipush 6, 2), (46, .iload_n 1, 1), (47, .imul, 1), (48, .iload_n 2, 1), (49, .iadd, 1), (50, .iaload, 1), (51, .goto 5, 3), (54, .bipush (-3), 2), (56, .ireturn, 1)]
def jq_205 : jmE := (yX11_stands, cX11_stands, 3, (Option.some Jvm.ClassFile.FieldType.int), 11, false, jt_205)
set_option maxRecDepth 100000 in
def jt_206 : List (Nat × Instr × Nat) := [(0, .aload_n 0, 1), (1, .iload_n 1, 1), (2, .invokevirtual 349, 3), (5, .ifCond .ne 5, 3), (8, .iconst (-1), 1), (9, .ireturn, 1), (10, .aload_n 0, 1), (11, .getfield 273, 3), (14, .ifCond .eq 12, 3), (17, .aload_n 0, 1), (18, .getfield 108, 3), (21, .iload_n 1, 1), (22, .iaload, 1), (23, .goto 5, 3), (26, .bipush (-3), 2), (28, .ireturn, 1)]
def jq_206 : jmE := (yX11_done, cX11_done, 2, (Option.some Jvm.ClassFile.FieldType.int), 11, false, jt_206)
set_option maxRecDepth 100000 in
def jt_207 : List (Nat × Instr × Nat) := [(0, .iload_n 1, 1), (1, .i2l, 1), (2, .lconst 0, 1), (3, .aload_n 0, 1), (4, .getfield 289, 3), (7, .iconst 1, 1), (8, .isub, 1), (9, .i2l, 1), (10, .invokestatic 235, 3), (13, .ifCond .ne 5, 3), (16, .iconst (-1), 1), (17, .ireturn, 1), (18, .aload_n 0, 1), (19, .getfield 273, 3), (22, .ifCond .ne 6, 3), (25, .bipush (-3), 2), (27, .ireturn, 1), (28, .aload_n 0, 1), (29, .invokevirtual 360, 3), (32, .aload_n 0, 1), (33, .iload_n 1, 1), (34, .invokevirtual 386, 3), (37, .ifCond .eq 7, 3), (40, .iconst 1, 1), (41, .goto 4, 3), (44, .iconst 0, 1), (45, .ireturn, 1)]
def jq_207 : jmE := (yX11_broken, cX11_broken, 2, (Option.some Jvm.ClassFile.FieldType.int), 11, false, jt_207)
set_option maxRecDepth 100000 in
def jt_208_0 : List (Nat × Instr × Nat) := [(0, .aload_n 0, 1), (1, .getfield 273, 3), (4, .ifCond .ne 6, 3), (7, .bipush (-3), 2), (9, .ireturn, 1), (10, .aload_n 0, 1), (11, .getfield 337, 3), (14, .ifCond .ne 6, 3), (17, .bipush (-5), 2), (19, .ireturn, 1), (20, .aload_n 0, 1), (21, .dup, 1), (22, .getfield 337, 3), (25, .iconst 1, 1), (26, .isub, 1), (27, .putfield 337, 3), (30, .aload_n 0, 1), (31, .getfield 141, 3), (34, .aload_n 0, 1), (35, .getfield 337, 3), (38, .iaload, 1), (39, .istore_n 1, 1), (40, .aload_n 0, 1), (41, .getfield 108, 3), (44, .iload_n 1, 1), (45, .dup2, 1), (46, .iaload, 1), (47, .iconst 1, 1), (48, .isub, 1), (49, .iastore, 1), (50, .iconst 0, 1), (51, .istore_n 2, 1), (52, .iload_n 2, 1), (53, .bipush 6, 2), (55, .if_icmp .ge 39, 3), (58, .aload_n 0, 1), (59, .getfield 144, 3), (62, .aload_n 0, 1), (63, .getfield 337, 3), (66, .iaload, 1)]
def jt_208_1 : List (Nat × Instr × Nat) := [(67, .iload_n 2, 1), (68, .ishr, 1), (69, .iconst 1, 1), (70, .iand, 1), (71, .iconst 1, 1), (72, .if_icmp .ne 16, 3), (75, .aload_n 0, 1), (76, .getfield 111, 3), (79, .bipush 6, 2), (81, .iload_n 1, 1), (82, .imul, 1), (83, .iload_n 2, 1), (84, .iadd, 1), (85, .bipush (-6), 2), (87, .iastore, 1), (88, .iinc 2 1, 3), (91, .goto (-39), 3), (94, .aload_n 0, 1), (95, .iconst 0, 1), (96, .putfield 221, 3), (99, .aload_n 0, 1), (100, .getfield 337, 3), (103, .ireturn, 1)]
def jt_208 : List (Nat × Instr × Nat) := jt_208_0 ++ (jt_208_1)
def jq_208 : jmE := (yX11_undo, cX11_undo, 3, (Option.some Jvm.ClassFile.FieldType.int), 11, false, jt_208)
set_option maxRecDepth 100000 in
def jt_209 : List (Nat × Instr × Nat) := [(0, .aload_n 0, 1), (1, .iconst 0, 1), (2, .putfield 389, 3), (5, .aload_n 0, 1), (6, .iconst 0, 1), (7, .putfield 392, 3), (10, .aload_n 0, 1), (11, .iconst 0, 1), (12, .putfield 395, 3), (15, .aload_n 0, 1), (16, .bipush (-6), 2), (18, .putfield 183, 3), (21, .aload_n 0, 1), (22, .iconst 0, 1), (23, .putfield 221, 3), (26, .return_, 1)]
def jq_209 : jmE := (yX11_forget, cX11_forget, 1, (Option.none : Option Jvm.ClassFile.FieldType), 11, false, jt_209)
set_option maxRecDepth 100000 in
def jt_210 : List (Nat × Instr × Nat) := [(0, .iconst 0, 1), (1, .istore_n 2, 1), (2, .iload_n 2, 1), (3, .aload_n 0, 1), (4, .getfield 282, 3), (7, .if_icmp .ge 66, 3), (10, .aload_n 0, 1), (11, .getfield 108, 3), (14, .iload_n 2, 1), (15, .aload_n 0, 1), (16, .getfield 171, 3), (19, .iconst 4, 1), (20, .iload_n 1, 1), (21, .imul, 1), (22, .iload_n 2, 1), (23, .iadd, 1), (24, .iaload, 1), (25, .iastore, 1), (26, .iconst 0, 1), (27, .istore_n 3, 1), (28, .iload_n 3, 1), (29, .bipush 6, 2), (31, .if_icmp .ge 36, 3), (34, .aload_n 0, 1), (35, .getfield 111, 3), (38, .bipush 6, 2), (40, .iload_n 2, 1), (41, .imul, 1), (42, .iload_n 3, 1), (43, .iadd, 1), (44, .aload_n 0, 1), (45, .getfield 174, 3), (48, .bipush 24, 2), (50, .iload_n 1, 1), (51, .imul, 1), (52, .bipush 6, 2), (54, .iload_n 2, 1), (55, .imul, 1), (56, .iadd, 1), (57, .iload_n 3, 1), (58, .iadd, 1), (59, .iaload, 1), (60, .iastore, 1), (61, .iinc 3 1, 3), (64, .goto (-36), 3), (67, .iinc 2 1, 3), (70, .goto (-68), 3), (73, .return_, 1)]
def jq_210 : jmE := (yX11_takeState, cX11_takeState, 4, (Option.none : Option Jvm.ClassFile.FieldType), 11, false, jt_210)
set_option maxRecDepth 100000 in
def jt_211 : List (Nat × Instr × Nat) := [(0, .aload_n 0, 1), (1, .invokevirtual 334, 3), (4, .iconst 0, 1), (5, .istore_n 1, 1), (6, .iload_n 1, 1), (7, .aload_n 0, 1), (8, .getfield 282, 3), (11, .if_icmp .ge 66, 3), (14, .iconst 0, 1), (15, .istore_n 2, 1), (16, .iload_n 2, 1), (17, .aload_n 0, 1), (18, .getfield 108, 3), (21, .iload_n 1, 1), (22, .iaload, 1), (23, .if_icmp .ge 48, 3), (26, .bipush 6, 2), (28, .aload_n 0, 1), (29, .getfield 81, 3), (32, .iload_n 1, 1), (33, .iaload, 1), (34, .imul, 1), (35, .iload_n 2, 1), (36, .iadd, 1), (37, .istore_n 3, 1), (38, .aload_n 0, 1), (39, .getfield 63, 3), (42, .iload_n 3, 1), (43, .baload, 1), (44, .ifCond .eq 21, 3), (47, .aload_n 0, 1), (48, .aload_n 0, 1), (49, .iload_n 1, 1), (50, .aload_n 0, 1), (51, .getfield 60, 3), (54, .iload_n 3, 1), (55, .iaload, 1), (56, .invokevirtual 340, 3), (59, .iconst 1, 1), (60, .bipush (-6), 2), (62, .invokevirtual 305, 3), (65, .iinc 2 1, 3), (68, .goto (-52), 3), (71, .iinc 1 1, 3), (74, .goto (-68), 3), (77, .aload_n 0, 1), (78, .invokevirtual 343, 3), (81, .return_, 1)]
def jq_211 : jmE := (yX11_stateRow, cX11_stateRow, 4, (Option.none : Option Jvm.ClassFile.FieldType), 11, false, jt_211)
set_option maxRecDepth 100000 in
def jt_212_0 : List (Nat × Instr × Nat) := [(0, .iconst 0, 1), (1, .istore_n 1, 1), (2, .iconst 0, 1), (3, .istore_n 2, 1), (4, .iload_n 2, 1), (5, .aload_n 0, 1), (6, .getfield 389, 3), (9, .if_icmp .ge 118, 3), (12, .iload_n 1, 1), (13, .ifCond .ne 114, 3), (16, .iconst 1, 1), (17, .istore_n 1, 1), (18, .iconst 0, 1), (19, .istore_n 3, 1), (20, .iload_n 3, 1), (21, .aload_n 0, 1), (22, .getfield 282, 3), (25, .if_icmp .ge 96, 3), (28, .iload_n 1, 1), (29, .ifCond .eq 92, 3), (32, .aload_n 0, 1), (33, .getfield 171, 3), (36, .iconst 4, 1), (37, .iload_n 2, 1), (38, .imul, 1), (39, .iload_n 3, 1), (40, .iadd, 1), (41, .iaload, 1), (42, .aload_n 0, 1), (43, .getfield 108, 3), (46, .iload_n 3, 1), (47, .iaload, 1), (48, .if_icmp .ne 7, 3), (51, .iconst 1, 1), (52, .goto 4, 3), (55, .iconst 0, 1), (56, .istore_n 1, 1), (57, .iconst 0, 1), (58, .istore 4, 2), (60, .iload 4, 2)]
def jt_212_1 : List (Nat × Instr × Nat) := [(62, .bipush 6, 2), (64, .if_icmp .ge 51, 3), (67, .iload_n 1, 1), (68, .ifCond .eq 47, 3), (71, .aload_n 0, 1), (72, .getfield 174, 3), (75, .bipush 24, 2), (77, .iload_n 2, 1), (78, .imul, 1), (79, .bipush 6, 2), (81, .iload_n 3, 1), (82, .imul, 1), (83, .iadd, 1), (84, .iload 4, 2), (86, .iadd, 1), (87, .iaload, 1), (88, .aload_n 0, 1), (89, .getfield 111, 3), (92, .bipush 6, 2), (94, .iload_n 3, 1), (95, .imul, 1), (96, .iload 4, 2), (98, .iadd, 1), (99, .iaload, 1), (100, .if_icmp .ne 7, 3), (103, .iconst 1, 1), (104, .goto 4, 3), (107, .iconst 0, 1), (108, .istore_n 1, 1), (109, .iinc 4 1, 3), (112, .goto (-52), 3), (115, .iinc 3 1, 3), (118, .goto (-98), 3), (121, .iinc 2 1, 3), (124, .goto (-120), 3), (127, .iload_n 1, 1), (128, .ireturn, 1)]
def jt_212 : List (Nat × Instr × Nat) := jt_212_0 ++ (jt_212_1)
def jq_212 : jmE := (yX11_isThere, cX11_isThere, 5, (Option.some Jvm.ClassFile.FieldType.boolean), 11, false, jt_212)
set_option maxRecDepth 100000 in
def jt_213_0 : List (Nat × Instr × Nat) := [(0, .aload_n 0, 1), (1, .invokevirtual 398, 3), (4, .ifCond .eq 6, 3), (7, .bipush (-6), 2), (9, .ireturn, 1), (10, .aload_n 0, 1), (11, .getfield 389, 3), (14, .sipush 600, 3), (17, .if_icmp .ne 6, 3), (20, .bipush (-7), 2), (22, .ireturn, 1), (23, .iconst 1, 1), (24, .istore_n 3, 1), (25, .iconst 0, 1), (26, .istore 4, 2), (28, .iload 4, 2), (30, .aload_n 0, 1), (31, .getfield 282, 3), (34, .if_icmp .ge 112, 3), (37, .aload_n 0, 1), (38, .getfield 171, 3), (41, .iconst 4, 1), (42, .aload_n 0, 1), (43, .getfield 389, 3), (46, .imul, 1), (47, .iload 4, 2), (49, .iadd, 1), (50, .aload_n 0, 1), (51, .getfield 108, 3), (54, .iload 4, 2), (56, .iaload, 1), (57, .iastore, 1), (58, .iload_n 3, 1), (59, .ifCond .eq 29, 3), (62, .aload_n 0, 1), (63, .getfield 108, 3), (66, .iload 4, 2), (68, .iaload, 1), (69, .aload_n 0, 1), (70, .getfield 57, 3)]
def jt_213_1 : List (Nat × Instr × Nat) := [(73, .aload_n 0, 1), (74, .getfield 81, 3), (77, .iload 4, 2), (79, .iaload, 1), (80, .iaload, 1), (81, .if_icmp .ne 7, 3), (84, .iconst 1, 1), (85, .goto 4, 3), (88, .iconst 0, 1), (89, .istore_n 3, 1), (90, .iconst 0, 1), (91, .istore 5, 2), (93, .iload 5, 2), (95, .bipush 6, 2), (97, .if_icmp .ge 43, 3), (100, .aload_n 0, 1), (101, .getfield 174, 3), (104, .bipush 24, 2), (106, .aload_n 0, 1), (107, .getfield 389, 3), (110, .imul, 1), (111, .bipush 6, 2), (113, .iload 4, 2), (115, .imul, 1), (116, .iadd, 1), (117, .iload 5, 2), (119, .iadd, 1), (120, .aload_n 0, 1), (121, .getfield 111, 3), (124, .bipush 6, 2), (126, .iload 4, 2), (128, .imul, 1), (129, .iload 5, 2), (131, .iadd, 1), (132, .iaload, 1), (133, .iastore, 1), (134, .iinc 5 1, 3), (137, .goto (-44), 3), (140, .iinc 4 1, 3), (143, .goto (-115), 3)]
def jt_213_2 : List (Nat × Instr × Nat) := [(146, .aload_n 0, 1), (147, .getfield 177, 3), (150, .aload_n 0, 1), (151, .getfield 389, 3), (154, .iload_n 1, 1), (155, .iastore, 1), (156, .aload_n 0, 1), (157, .getfield 180, 3), (160, .aload_n 0, 1), (161, .getfield 389, 3), (164, .iload_n 2, 1), (165, .iastore, 1), (166, .aload_n 0, 1), (167, .dup, 1), (168, .getfield 389, 3), (171, .iconst 1, 1), (172, .iadd, 1), (173, .putfield 389, 3), (176, .aload_n 0, 1), (177, .dup, 1), (178, .getfield 395, 3), (181, .iload_n 3, 1), (182, .ifCond .eq 7, 3), (185, .iconst 1, 1), (186, .goto 4, 3), (189, .iconst 0, 1), (190, .iadd, 1), (191, .putfield 395, 3), (194, .aload_n 0, 1), (195, .invokevirtual 402, 3), (198, .iconst 0, 1), (199, .istore 4, 2), (201, .iload 4, 2), (203, .aload_n 0, 1), (204, .getfield 289, 3), (207, .if_icmp .ge 21, 3), (210, .aload_n 0, 1), (211, .iload 4, 2), (213, .invokevirtual 386, 3), (216, .ifCond .eq 6, 3)]
def jt_213_3 : List (Nat × Instr × Nat) := [(219, .iload 4, 2), (221, .ireturn, 1), (222, .iinc 4 1, 3), (225, .goto (-24), 3), (228, .bipush (-6), 2), (230, .ireturn, 1)]
def jt_213 : List (Nat × Instr × Nat) := jt_213_0 ++ (jt_213_1 ++ (jt_213_2 ++ (jt_213_3)))
def jq_213 : jmE := (yX11_comesToBe, cX11_comesToBe, 6, (Option.some Jvm.ClassFile.FieldType.int), 11, false, jt_213)
set_option maxRecDepth 100000 in
def jt_214 : List (Nat × Instr × Nat) := [(0, .aload_n 0, 1), (1, .getfield 22, 3), (4, .iload_n 1, 1), (5, .baload, 1), (6, .ifCond .eq 32, 3), (9, .aload_n 0, 1), (10, .getfield 32, 3), (13, .iload_n 2, 1), (14, .iaload, 1), (15, .iconst 3, 1), (16, .if_icmp .eq 18, 3), (19, .aload_n 0, 1), (20, .getfield 7, 3), (23, .iload_n 1, 1), (24, .iaload, 1), (25, .aload_n 0, 1), (26, .getfield 32, 3), (29, .iload_n 2, 1), (30, .iaload, 1), (31, .if_icmp .ne 7, 3), (34, .iconst 1, 1), (35, .goto 4, 3), (38, .iconst 0, 1), (39, .ireturn, 1)]
def jq_214 : jmE := (yX11_isOfSort, cX11_isOfSort, 3, (Option.some Jvm.ClassFile.FieldType.boolean), 11, false, jt_214)
set_option maxRecDepth 100000 in
def jt_215 : List (Nat × Instr × Nat) := [(0, .iload_n 2, 1), (1, .istore_n 3, 1), (2, .iload_n 3, 1), (3, .aload_n 0, 1), (4, .getfield 225, 3), (7, .if_icmp .ge 18, 3), (10, .aload_n 0, 1), (11, .iload_n 3, 1), (12, .iload_n 1, 1), (13, .invokevirtual 405, 3), (16, .ifCond .ne 9, 3), (19, .iinc 3 1, 3), (22, .goto (-20), 3), (25, .iload_n 3, 1), (26, .aload_n 0, 1), (27, .getfield 225, 3), (30, .if_icmp .ge 7, 3), (33, .iload_n 3, 1), (34, .goto 4, 3), (37, .iconst (-1), 1), (38, .ireturn, 1)]
def jq_215 : jmE := (yX11_nextOf, cX11_nextOf, 4, (Option.some Jvm.ClassFile.FieldType.int), 11, false, jt_215)
set_option maxRecDepth 100000 in
def jt_216 : List (Nat × Instr × Nat) := [(0, .iconst 0, 1), (1, .istore_n 2, 1), (2, .iconst 0, 1), (3, .istore_n 3, 1), (4, .iload_n 3, 1), (5, .aload_n 0, 1), (6, .getfield 225, 3), (9, .if_icmp .ge 26, 3), (12, .iload_n 2, 1), (13, .aload_n 0, 1), (14, .iload_n 3, 1), (15, .iload_n 1, 1), (16, .invokevirtual 405, 3), (19, .ifCond .eq 7, 3), (22, .iconst 1, 1), (23, .goto 4, 3), (26, .iconst 0, 1), (27, .iadd, 1), (28, .istore_n 2, 1), (29, .iinc 3 1, 3), (32, .goto (-28), 3), (35, .iload_n 2, 1), (36, .ireturn, 1)]
def jq_216 : jmE := (yX11_howMany, cX11_howMany, 4, (Option.some Jvm.ClassFile.FieldType.int), 11, false, jt_216)
set_option maxRecDepth 100000 in
def jt_217_0 : List (Nat × Instr × Nat) := [(0, .aload_n 0, 1), (1, .iload_n 3, 1), (2, .invokevirtual 266, 3), (5, .iconst 0, 1), (6, .istore 4, 2), (8, .lconst 1, 1), (9, .lstore 5, 2), (11, .iconst 0, 1), (12, .istore 7, 2), (14, .iload 7, 2), (16, .aload_n 0, 1), (17, .getfield 263, 3), (20, .if_icmp .ge 87, 3), (23, .aload_n 0, 1), (24, .getfield 111, 3), (27, .bipush 6, 2), (29, .iload_n 2, 1), (30, .imul, 1), (31, .aload_n 0, 1), (32, .getfield 35, 3), (35, .aload_n 0, 1), (36, .getfield 69, 3), (39, .iload 7, 2), (41, .iaload, 1), (42, .iaload, 1), (43, .iadd, 1), (44, .iaload, 1), (45, .ifCond .ge 56, 3), (48, .aload_n 0, 1), (49, .getfield 198, 3), (52, .iload 4, 2), (54, .aload_n 0, 1), (55, .getfield 69, 3), (58, .iload 7, 2), (60, .iaload, 1), (61, .iastore, 1), (62, .lload 5, 2), (64, .aload_n 0, 1), (65, .aload_n 0, 1), (66, .getfield 69, 3)]
def jt_217_1 : List (Nat × Instr × Nat) := [(69, .iload 7, 2), (71, .iaload, 1), (72, .invokevirtual 408, 3), (75, .i2l, 1), (76, .lmul, 1), (77, .lstore 5, 2), (79, .lload 5, 2), (81, .ldc2_w 411, 3), (84, .lcmp, 1), (85, .ifCond .le 9, 3), (88, .ldc2_w 413, 3), (91, .goto 5, 3), (94, .lload 5, 2), (96, .lstore 5, 2), (98, .iinc 4 1, 3), (101, .iinc 7 1, 3), (104, .goto (-90), 3), (107, .aload_n 0, 1), (108, .getfield 392, 3), (111, .i2l, 1), (112, .lload 5, 2), (114, .ladd, 1), (115, .ldc2_w 411, 3), (118, .lcmp, 1), (119, .ifCond .le 13, 3), (122, .aload_n 0, 1), (123, .sipush 20001, 3), (126, .putfield 392, 3), (129, .bipush (-7), 2), (131, .ireturn, 1), (132, .aload_n 0, 1), (133, .dup, 1), (134, .getfield 392, 3), (137, .lload 5, 2), (139, .l2i, 1), (140, .iadd, 1), (141, .putfield 392, 3), (144, .lload 5, 2), (146, .lconst 0, 1), (147, .lcmp, 1)]
def jt_217_2 : List (Nat × Instr × Nat) := [(148, .ifCond .ne 6, 3), (151, .bipush (-6), 2), (153, .ireturn, 1), (154, .iconst 0, 1), (155, .istore 7, 2), (157, .iload 7, 2), (159, .iload 4, 2), (161, .if_icmp .ge 28, 3), (164, .aload_n 0, 1), (165, .getfield 201, 3), (168, .iload 7, 2), (170, .aload_n 0, 1), (171, .aload_n 0, 1), (172, .getfield 198, 3), (175, .iload 7, 2), (177, .iaload, 1), (178, .iconst 0, 1), (179, .invokevirtual 415, 3), (182, .iastore, 1), (183, .iinc 7 1, 3), (186, .goto (-29), 3), (189, .iconst 1, 1), (190, .istore 7, 2), (192, .iload 7, 2), (194, .ifCond .eq 220, 3), (197, .iconst 0, 1), (198, .istore 8, 2), (200, .iload 8, 2), (202, .iload 4, 2), (204, .if_icmp .ge 38, 3), (207, .aload_n 0, 1), (208, .getfield 111, 3), (211, .bipush 6, 2), (213, .iload_n 2, 1), (214, .imul, 1), (215, .aload_n 0, 1), (216, .getfield 35, 3), (219, .aload_n 0, 1), (220, .getfield 198, 3), (223, .iload 8, 2)]
def jt_217_3 : List (Nat × Instr × Nat) := [(225, .iaload, 1), (226, .iaload, 1), (227, .iadd, 1), (228, .aload_n 0, 1), (229, .getfield 201, 3), (232, .iload 8, 2), (234, .iaload, 1), (235, .iastore, 1), (236, .iinc 8 1, 3), (239, .goto (-39), 3), (242, .aload_n 0, 1), (243, .getfield 38, 3), (246, .istore 8, 2), (248, .aload_n 0, 1), (249, .aload_n 0, 1), (250, .iload_n 2, 1), (251, .iload_n 3, 1), (252, .invokevirtual 340, 3), (255, .invokevirtual 318, 3), (258, .istore 9, 2), (260, .aload_n 0, 1), (261, .iload 8, 2), (263, .invokevirtual 217, 3), (266, .iload 9, 2), (268, .ifCond .eq 40, 3), (271, .aload_n 0, 1), (272, .getfield 108, 3), (275, .iload_n 2, 1), (276, .dup2, 1), (277, .iaload, 1), (278, .iconst 1, 1), (279, .iadd, 1), (280, .iastore, 1), (281, .aload_n 0, 1), (282, .iload_n 1, 1), (283, .iload_n 2, 1), (284, .invokevirtual 418, 3), (287, .istore 10, 2), (289, .iload 10, 2), (291, .bipush (-6), 2)]
def jt_217_4 : List (Nat × Instr × Nat) := [(293, .if_icmp .eq 6, 3), (296, .iload 10, 2), (298, .ireturn, 1), (299, .aload_n 0, 1), (300, .iload_n 1, 1), (301, .invokevirtual 421, 3), (304, .aload_n 0, 1), (305, .invokevirtual 402, 3), (308, .iload 4, 2), (310, .iconst 1, 1), (311, .isub, 1), (312, .istore 10, 2), (314, .iload 10, 2), (316, .ifCond .lt 51, 3), (319, .aload_n 0, 1), (320, .aload_n 0, 1), (321, .getfield 198, 3), (324, .iload 10, 2), (326, .iaload, 1), (327, .aload_n 0, 1), (328, .getfield 201, 3), (331, .iload 10, 2), (333, .iaload, 1), (334, .iconst 1, 1), (335, .iadd, 1), (336, .invokevirtual 415, 3), (339, .ifCond .ge 28, 3), (342, .aload_n 0, 1), (343, .getfield 201, 3), (346, .iload 10, 2), (348, .aload_n 0, 1), (349, .aload_n 0, 1), (350, .getfield 198, 3), (353, .iload 10, 2), (355, .iaload, 1), (356, .iconst 0, 1), (357, .invokevirtual 415, 3), (360, .iastore, 1), (361, .iinc 10 (-1), 3), (364, .goto (-50), 3)]
def jt_217_5 : List (Nat × Instr × Nat) := [(367, .iload 10, 2), (369, .ifCond .lt 7, 3), (372, .iconst 1, 1), (373, .goto 4, 3), (376, .iconst 0, 1), (377, .istore 7, 2), (379, .iload 7, 2), (381, .ifCond .eq 30, 3), (384, .aload_n 0, 1), (385, .getfield 201, 3), (388, .iload 10, 2), (390, .aload_n 0, 1), (391, .aload_n 0, 1), (392, .getfield 198, 3), (395, .iload 10, 2), (397, .iaload, 1), (398, .aload_n 0, 1), (399, .getfield 201, 3), (402, .iload 10, 2), (404, .iaload, 1), (405, .iconst 1, 1), (406, .iadd, 1), (407, .invokevirtual 415, 3), (410, .iastore, 1), (411, .goto (-219), 3), (414, .aload_n 0, 1), (415, .iload_n 1, 1), (416, .invokevirtual 421, 3), (419, .bipush (-6), 2), (421, .ireturn, 1)]
def jt_217 : List (Nat × Instr × Nat) := jt_217_0 ++ (jt_217_1 ++ (jt_217_2 ++ (jt_217_3 ++ (jt_217_4 ++ (jt_217_5)))))
def jq_217 : jmE := (yX11_receives, cX11_receives, 11, (Option.some Jvm.ClassFile.FieldType.int), 11, false, jt_217)
set_option maxRecDepth 100000 in
def jt_218_0 : List (Nat × Instr × Nat) := [(0, .aload_n 0, 1), (1, .iload_n 1, 1), (2, .invokevirtual 421, 3), (5, .aload_n 0, 1), (6, .invokevirtual 402, 3), (9, .iconst 0, 1), (10, .istore_n 2, 1), (11, .iload_n 2, 1), (12, .aload_n 0, 1), (13, .getfield 282, 3), (16, .if_icmp .ge 90, 3), (19, .aload_n 0, 1), (20, .iload_n 2, 1), (21, .invokevirtual 352, 3), (24, .istore_n 3, 1), (25, .bipush (-6), 2), (27, .istore 4, 2), (29, .iload_n 3, 1), (30, .ifCond .lt 42, 3), (33, .aload_n 0, 1), (34, .getfield 63, 3), (37, .iload_n 3, 1), (38, .baload, 1), (39, .ifCond .eq 33, 3), (42, .aload_n 0, 1), (43, .getfield 108, 3), (46, .iload_n 2, 1), (47, .dup2, 1), (48, .iaload, 1), (49, .iconst 1, 1), (50, .iadd, 1), (51, .iastore, 1), (52, .aload_n 0, 1), (53, .iload_n 1, 1), (54, .iload_n 2, 1), (55, .invokevirtual 418, 3), (58, .istore 4, 2), (60, .aload_n 0, 1), (61, .iload_n 1, 1), (62, .invokevirtual 421, 3)]
def jt_218_1 : List (Nat × Instr × Nat) := [(65, .aload_n 0, 1), (66, .invokevirtual 402, 3), (69, .goto 21, 3), (72, .iload_n 3, 1), (73, .ifCond .lt 17, 3), (76, .aload_n 0, 1), (77, .iload_n 1, 1), (78, .iload_n 2, 1), (79, .aload_n 0, 1), (80, .getfield 60, 3), (83, .iload_n 3, 1), (84, .iaload, 1), (85, .invokevirtual 424, 3), (88, .istore 4, 2), (90, .iload 4, 2), (92, .bipush (-6), 2), (94, .if_icmp .eq 6, 3), (97, .iload 4, 2), (99, .ireturn, 1), (100, .iinc 2 1, 3), (103, .goto (-92), 3), (106, .bipush (-6), 2), (108, .ireturn, 1)]
def jt_218 : List (Nat × Instr × Nat) := jt_218_0 ++ (jt_218_1)
def jq_218 : jmE := (yX11_goesOn, cX11_goesOn, 5, (Option.some Jvm.ClassFile.FieldType.int), 11, false, jt_218)
set_option maxRecDepth 100000 in
def jt_219 : List (Nat × Instr × Nat) := [(0, .iconst 0, 1), (1, .istore_n 1, 1), (2, .aload_n 0, 1), (3, .getfield 389, 3), (6, .iconst 1, 1), (7, .isub, 1), (8, .istore_n 2, 1), (9, .iload_n 2, 1), (10, .ifCond .le 16, 3), (13, .iinc 1 1, 3), (16, .aload_n 0, 1), (17, .getfield 177, 3), (20, .iload_n 2, 1), (21, .iaload, 1), (22, .istore_n 2, 1), (23, .goto (-14), 3), (26, .aload_n 0, 1), (27, .iload_n 1, 1), (28, .putfield 183, 3), (31, .aload_n 0, 1), (32, .getfield 389, 3), (35, .iconst 1, 1), (36, .isub, 1), (37, .istore_n 2, 1), (38, .iload_n 2, 1), (39, .ifCond .le 35, 3), (42, .iinc 1 (-1), 3), (45, .aload_n 0, 1), (46, .getfield 186, 3), (49, .iload_n 1, 1), (50, .aload_n 0, 1), (51, .getfield 180, 3), (54, .iload_n 2, 1), (55, .iaload, 1), (56, .iastore, 1), (57, .aload_n 0, 1), (58, .getfield 189, 3), (61, .iload_n 1, 1), (62, .iload_n 2, 1), (63, .iastore, 1), (64, .aload_n 0, 1), (65, .getfield 177, 3), (68, .iload_n 2, 1), (69, .iaload, 1), (70, .istore_n 2, 1), (71, .goto (-33), 3), (74, .return_, 1)]
def jq_219 : jmE := (yX11_noteAttack, cX11_noteAttack, 3, (Option.none : Option Jvm.ClassFile.FieldType), 11, false, jt_219)
set_option maxRecDepth 100000 in
def jt_220_0 : List (Nat × Instr × Nat) := [(0, .iconst 0, 1), (1, .istore_n 1, 1), (2, .iload_n 1, 1), (3, .iconst 4, 1), (4, .if_icmp .ge 21, 3), (7, .aload_n 0, 1), (8, .getfield 192, 3), (11, .iload_n 1, 1), (12, .aload_n 0, 1), (13, .getfield 108, 3), (16, .iload_n 1, 1), (17, .iaload, 1), (18, .iastore, 1), (19, .iinc 1 1, 3), (22, .goto (-20), 3), (25, .iconst 0, 1), (26, .istore_n 1, 1), (27, .iload_n 1, 1), (28, .bipush 24, 2), (30, .if_icmp .ge 21, 3), (33, .aload_n 0, 1), (34, .getfield 195, 3), (37, .iload_n 1, 1), (38, .aload_n 0, 1), (39, .getfield 111, 3), (42, .iload_n 1, 1), (43, .iaload, 1), (44, .iastore, 1), (45, .iinc 1 1, 3), (48, .goto (-21), 3), (51, .aload_n 0, 1), (52, .invokevirtual 279, 3), (55, .aload_n 0, 1), (56, .invokevirtual 346, 3), (59, .aload_n 0, 1), (60, .iconst (-1), 1), (61, .iconst (-1), 1), (62, .invokevirtual 418, 3), (65, .istore_n 1, 1), (66, .iconst 0, 1)]
def jt_220_1 : List (Nat × Instr × Nat) := [(67, .istore_n 2, 1), (68, .iload_n 2, 1), (69, .aload_n 0, 1), (70, .getfield 389, 3), (73, .if_icmp .ge 21, 3), (76, .iload_n 1, 1), (77, .bipush (-6), 2), (79, .if_icmp .ne 15, 3), (82, .aload_n 0, 1), (83, .iload_n 2, 1), (84, .invokevirtual 427, 3), (87, .istore_n 1, 1), (88, .iinc 2 1, 3), (91, .goto (-23), 3), (94, .iload_n 1, 1), (95, .ifCond .lt 7, 3), (98, .aload_n 0, 1), (99, .invokevirtual 430, 3), (102, .iconst 0, 1), (103, .istore_n 2, 1), (104, .iload_n 2, 1), (105, .iconst 4, 1), (106, .if_icmp .ge 21, 3), (109, .aload_n 0, 1), (110, .getfield 108, 3), (113, .iload_n 2, 1), (114, .aload_n 0, 1), (115, .getfield 192, 3), (118, .iload_n 2, 1), (119, .iaload, 1), (120, .iastore, 1), (121, .iinc 2 1, 3), (124, .goto (-20), 3), (127, .iconst 0, 1), (128, .istore_n 2, 1), (129, .iload_n 2, 1), (130, .bipush 24, 2), (132, .if_icmp .ge 21, 3), (135, .aload_n 0, 1), (136, .getfield 111, 3)]
def jt_220_2 : List (Nat × Instr × Nat) := [(139, .iload_n 2, 1), (140, .aload_n 0, 1), (141, .getfield 195, 3), (144, .iload_n 2, 1), (145, .iaload, 1), (146, .iastore, 1), (147, .iinc 2 1, 3), (150, .goto (-21), 3), (153, .aload_n 0, 1), (154, .iconst 0, 1), (155, .putfield 221, 3), (158, .iload_n 1, 1), (159, .bipush (-7), 2), (161, .if_icmp .ne 8, 3), (164, .bipush (-7), 2), (166, .goto 16, 3), (169, .iload_n 1, 1), (170, .bipush (-6), 2), (172, .if_icmp .ne 7, 3), (175, .iconst 0, 1), (176, .goto 6, 3), (179, .iconst 1, 1), (180, .iload_n 1, 1), (181, .iadd, 1), (182, .ireturn, 1)]
def jt_220 : List (Nat × Instr × Nat) := jt_220_0 ++ (jt_220_1 ++ (jt_220_2))
def jq_220 : jmE := (yX11_search, cX11_search, 3, (Option.some Jvm.ClassFile.FieldType.int), 11, false, jt_220)
set_option maxRecDepth 100000 in
def jt_221 : List (Nat × Instr × Nat) := [(0, .iload_n 1, 1), (1, .tableswitch 51 0 3 #[31, 36, 41, 46], 31), (32, .aload_n 0, 1), (33, .getfield 389, 3), (36, .ireturn, 1), (37, .aload_n 0, 1), (38, .getfield 392, 3), (41, .ireturn, 1), (42, .aload_n 0, 1), (43, .getfield 183, 3), (46, .ireturn, 1), (47, .aload_n 0, 1), (48, .getfield 395, 3), (51, .ireturn, 1), (52, .bipush (-2), 2), (54, .ireturn, 1)]
def jq_221 : jmE := (yX11_found, cX11_found, 2, (Option.some Jvm.ClassFile.FieldType.int), 11, false, jt_221)
set_option maxRecDepth 100000 in
def jt_222 : List (Nat × Instr × Nat) := [(0, .iload_n 1, 1), (1, .i2l, 1), (2, .lconst 0, 1), (3, .aload_n 0, 1), (4, .getfield 183, 3), (7, .iconst 1, 1), (8, .isub, 1), (9, .i2l, 1), (10, .invokestatic 235, 3), (13, .ifCond .eq 12, 3), (16, .aload_n 0, 1), (17, .getfield 186, 3), (20, .iload_n 1, 1), (21, .iaload, 1), (22, .goto 5, 3), (25, .bipush (-6), 2), (27, .ireturn, 1)]
def jq_222 : jmE := (yX11_attack, cX11_attack, 2, (Option.some Jvm.ClassFile.FieldType.int), 11, false, jt_222)
set_option maxRecDepth 100000 in
def jt_223_0 : List (Nat × Instr × Nat) := [(0, .aload_n 0, 1), (1, .getfield 183, 3), (4, .ifCond .ge 6, 3), (7, .bipush (-3), 2), (9, .ireturn, 1), (10, .iload_n 1, 1), (11, .i2l, 1), (12, .lconst 0, 1), (13, .aload_n 0, 1), (14, .getfield 183, 3), (17, .i2l, 1), (18, .invokestatic 235, 3), (21, .ifCond .ne 6, 3), (24, .bipush (-2), 2), (26, .ireturn, 1), (27, .aload_n 0, 1), (28, .invokevirtual 433, 3), (31, .istore_n 2, 1), (32, .iconst 0, 1), (33, .istore_n 3, 1), (34, .iload_n 3, 1), (35, .iload_n 1, 1), (36, .if_icmp .ge 120, 3), (39, .iload_n 2, 1), (40, .ifCond .lt 116, 3), (43, .aload_n 0, 1), (44, .getfield 186, 3), (47, .iload_n 3, 1), (48, .iaload, 1), (49, .istore 4, 2), (51, .iconst 0, 1), (52, .istore 5, 2), (54, .iconst 0, 1), (55, .istore 6, 2), (57, .iload 6, 2), (59, .bipush 6, 2), (61, .if_icmp .ge 81, 3), (64, .aload_n 0, 1), (65, .getfield 174, 3), (68, .bipush 24, 2)]
def jt_223_1 : List (Nat × Instr × Nat) := [(70, .aload_n 0, 1), (71, .getfield 189, 3), (74, .iload_n 3, 1), (75, .iaload, 1), (76, .imul, 1), (77, .bipush 6, 2), (79, .iload 4, 2), (81, .imul, 1), (82, .iadd, 1), (83, .iload 6, 2), (85, .iadd, 1), (86, .iaload, 1), (87, .istore 7, 2), (89, .iload 7, 2), (91, .aload_n 0, 1), (92, .getfield 111, 3), (95, .bipush 6, 2), (97, .iload 4, 2), (99, .imul, 1), (100, .iload 6, 2), (102, .iadd, 1), (103, .iaload, 1), (104, .if_icmp .ne 8, 3), (107, .iload 5, 2), (109, .goto 10, 3), (112, .iload 5, 2), (114, .iconst 1, 1), (115, .iload 6, 2), (117, .ishl, 1), (118, .ior, 1), (119, .istore 5, 2), (121, .aload_n 0, 1), (122, .getfield 111, 3), (125, .bipush 6, 2), (127, .iload 4, 2), (129, .imul, 1), (130, .iload 6, 2), (132, .iadd, 1), (133, .iload 7, 2), (135, .iastore, 1)]
def jt_223_2 : List (Nat × Instr × Nat) := [(136, .iinc 6 1, 3), (139, .goto (-82), 3), (142, .aload_n 0, 1), (143, .iload 4, 2), (145, .iload 5, 2), (147, .invokevirtual 356, 3), (150, .iinc 3 1, 3), (153, .goto (-119), 3), (156, .aload_n 0, 1), (157, .iconst 0, 1), (158, .putfield 221, 3), (161, .aload_n 0, 1), (162, .invokevirtual 360, 3), (165, .aload_n 0, 1), (166, .getfield 302, 3), (169, .ireturn, 1)]
def jt_223 : List (Nat × Instr × Nat) := jt_223_0 ++ (jt_223_1 ++ (jt_223_2))
def jq_223 : jmE := (yX11_play, cX11_play, 8, (Option.some Jvm.ClassFile.FieldType.int), 11, false, jt_223)
set_option maxRecDepth 100000 in
def jt_224 : List (Nat × Instr × Nat) := [(0, .iload_n 1, 1), (1, .tableswitch 81 0 5 #[39, 44, 49, 54, 59, 64], 39), (40, .aload_n 0, 1), (41, .getfield 225, 3), (44, .ireturn, 1), (45, .aload_n 0, 1), (46, .getfield 255, 3), (49, .ireturn, 1), (50, .aload_n 0, 1), (51, .getfield 282, 3), (54, .ireturn, 1), (55, .aload_n 0, 1), (56, .getfield 289, 3), (59, .ireturn, 1), (60, .aload_n 0, 1), (61, .getfield 276, 3), (64, .ireturn, 1), (65, .aload_n 0, 1), (66, .getfield 273, 3), (69, .ifCond .eq 10, 3), (72, .aload_n 0, 1), (73, .getfield 337, 3), (76, .goto 5, 3), (79, .bipush (-6), 2), (81, .ireturn, 1), (82, .bipush (-2), 2), (84, .ireturn, 1)]
def jq_224 : jmE := (yX11_told, cX11_told, 2, (Option.some Jvm.ClassFile.FieldType.int), 11, false, jt_224)
set_option maxRecDepth 100000 in
def jt_225_0 : List (Nat × Instr × Nat) := [(0, .aload_n 0, 1), (1, .iload_n 1, 1), (2, .invokevirtual 258, 3), (5, .ifCond .ne 5, 3), (8, .iconst (-1), 1), (9, .ireturn, 1), (10, .iload_n 2, 1), (11, .i2l, 1), (12, .lconst 0, 1), (13, .ldc2_w 242, 3), (16, .invokestatic 235, 3), (19, .ifCond .eq 45, 3), (22, .iload_n 2, 1), (23, .ifCond .ne 12, 3), (26, .aload_n 0, 1), (27, .getfield 48, 3), (30, .iload_n 1, 1), (31, .iaload, 1), (32, .goto 31, 3), (35, .iload_n 2, 1), (36, .iconst 1, 1), (37, .if_icmp .ne 12, 3), (40, .aload_n 0, 1), (41, .getfield 57, 3), (44, .iload_n 1, 1), (45, .iaload, 1), (46, .goto 17, 3), (49, .aload_n 0, 1), (50, .getfield 66, 3), (53, .iload_n 1, 1), (54, .baload, 1), (55, .ifCond .eq 7, 3), (58, .iconst 1, 1), (59, .goto 4, 3), (62, .iconst 0, 1), (63, .ireturn, 1), (64, .iload_n 2, 1), (65, .bipush 10, 2), (67, .idiv, 1), (68, .istore_n 3, 1)]
def jt_225_1 : List (Nat × Instr × Nat) := [(69, .iload_n 2, 1), (70, .bipush 10, 2), (72, .irem, 1), (73, .istore 4, 2), (75, .iload_n 2, 1), (76, .i2l, 1), (77, .ldc2_w 437, 3), (80, .ldc2_w 439, 3), (83, .invokestatic 235, 3), (86, .ifCond .eq 9, 3), (89, .iload 4, 2), (91, .iconst 5, 1), (92, .if_icmp .le 6, 3), (95, .bipush (-2), 2), (97, .ireturn, 1), (98, .bipush 6, 2), (100, .iload_n 1, 1), (101, .imul, 1), (102, .iload 4, 2), (104, .iadd, 1), (105, .istore 5, 2), (107, .iload_n 3, 1), (108, .iconst 3, 1), (109, .if_icmp .ne 27, 3), (112, .iload 4, 2), (114, .aload_n 0, 1), (115, .getfield 48, 3), (118, .iload_n 1, 1), (119, .iaload, 1), (120, .if_icmp .ge 13, 3), (123, .aload_n 0, 1), (124, .getfield 54, 3), (127, .iload 5, 2), (129, .iaload, 1), (130, .goto 5, 3), (133, .bipush (-6), 2), (135, .ireturn, 1), (136, .iload 4, 2), (138, .aload_n 0, 1), (139, .getfield 57, 3)]
def jt_225_2 : List (Nat × Instr × Nat) := [(142, .iload_n 1, 1), (143, .iaload, 1), (144, .if_icmp .lt 8, 3), (147, .bipush (-6), 2), (149, .goto 33, 3), (152, .iload_n 3, 1), (153, .iconst 1, 1), (154, .if_icmp .ne 13, 3), (157, .aload_n 0, 1), (158, .getfield 60, 3), (161, .iload 5, 2), (163, .iaload, 1), (164, .goto 18, 3), (167, .aload_n 0, 1), (168, .getfield 63, 3), (171, .iload 5, 2), (173, .baload, 1), (174, .ifCond .eq 7, 3), (177, .iconst 1, 1), (178, .goto 4, 3), (181, .iconst 0, 1), (182, .ireturn, 1)]
def jt_225 : List (Nat × Instr × Nat) := jt_225_0 ++ (jt_225_1 ++ (jt_225_2))
def jq_225 : jmE := (yX11_ofRole, cX11_ofRole, 6, (Option.some Jvm.ClassFile.FieldType.int), 11, false, jt_225)
set_option maxRecDepth 100000 in
def jt_226 : List (Nat × Instr × Nat) := [(0, .aload_n 0, 1), (1, .getfield 225, 3), (4, .istore_n 1, 1), (5, .aload_n 0, 1), (6, .sipush 200, 3), (9, .invokevirtual 217, 3), (12, .aload_n 0, 1), (13, .invokevirtual 204, 3), (16, .aload_n 0, 1), (17, .iconst 0, 1), (18, .putfield 225, 3), (21, .aload_n 0, 1), (22, .iconst 0, 1), (23, .putfield 255, 3), (26, .aload_n 0, 1), (27, .iconst 0, 1), (28, .putfield 276, 3), (31, .aload_n 0, 1), (32, .iconst 0, 1), (33, .putfield 282, 3), (36, .aload_n 0, 1), (37, .iconst 0, 1), (38, .putfield 289, 3), (41, .aload_n 0, 1), (42, .iconst 0, 1), (43, .putfield 273, 3), (46, .aload_n 0, 1), (47, .iconst 0, 1), (48, .putfield 337, 3), (51, .aload_n 0, 1), (52, .invokevirtual 279, 3), (55, .iload_n 1, 1), (56, .ireturn, 1)]
def jq_226 : jmE := (yX11_clear, cX11_clear, 2, (Option.some Jvm.ClassFile.FieldType.int), 11, false, jt_226)
set_option maxRecDepth 100000 in
def jt_227 : List (Nat × Instr × Nat) := [(0, .iconst 0, 1), (1, .istore_n 2, 1), (2, .aload_n 0, 1), (3, .arraylength, 1), (4, .istore_n 3, 1), (5, .iload_n 2, 1), (6, .iload_n 3, 1), (7, .if_icmp .ge 13, 3), (10, .aload_n 0, 1), (11, .iload_n 2, 1), (12, .iload_n 1, 1), (13, .iastore, 1), (14, .iinc 2 1, 3), (17, .goto (-12), 3), (20, .return_, 1)]
def jq_227 : jmE := (yJ7_fill_53178, cJ7_fill_53178, 4, (Option.none : Option Jvm.ClassFile.FieldType), 14, false, jt_227)
set_option maxRecDepth 100000 in
def jt_228 : List (Nat × Instr × Nat) := [(0, .iload_n 0, 1), (1, .iload_n 1, 1), (2, .irem, 1), (3, .istore_n 2, 1), (4, .iload_n 0, 1), (5, .iload_n 1, 1), (6, .ixor, 1), (7, .ifCond .ge 11, 3), (10, .iload_n 2, 1), (11, .ifCond .eq 7, 3), (14, .iload_n 2, 1), (15, .iload_n 1, 1), (16, .iadd, 1), (17, .ireturn, 1), (18, .iload_n 2, 1), (19, .ireturn, 1)]
def jq_228 : jmE := (yJ9_floorMod_7cf53, cJ9_floorMod_7cf53, 3, (Option.some Jvm.ClassFile.FieldType.int), 13, false, jt_228)
set_option maxRecDepth 100000 in
def jt_229 : List (Nat × Instr × Nat) := [(0, .iload_n 0, 1), (1, .iload_n 1, 1), (2, .if_icmp .lt 7, 3), (5, .iload_n 0, 1), (6, .goto 4, 3), (9, .iload_n 1, 1), (10, .ireturn, 1)]
def jq_229 : jmE := (yJ9_max_7cf53, cJ9_max_7cf53, 2, (Option.some Jvm.ClassFile.FieldType.int), 13, false, jt_229)
set_option maxRecDepth 100000 in
def jt_230 : List (Nat × Instr × Nat) := [(0, .iload_n 0, 1), (1, .iload_n 1, 1), (2, .if_icmp .gt 7, 3), (5, .iload_n 0, 1), (6, .goto 4, 3), (9, .iload_n 1, 1), (10, .ireturn, 1)]
def jq_230 : jmE := (yJ9_min_7cf53, cJ9_min_7cf53, 2, (Option.some Jvm.ClassFile.FieldType.int), 13, false, jt_230)
def jm_L : List jmE := [jq_0, jq_1, jq_2, jq_3, jq_4, jq_5, jq_6, jq_7, jq_8, jq_9, jq_10, jq_11, jq_12, jq_13, jq_14, jq_15, jq_16, jq_17, jq_18, jq_19, jq_20, jq_21, jq_22, jq_23, jq_24, jq_25, jq_26, jq_27, jq_28, jq_29, jq_30, jq_31, jq_32, jq_33, jq_34, jq_35, jq_36, jq_37, jq_38, jq_39, jq_40, jq_41, jq_42, jq_43, jq_44, jq_45, jq_46, jq_47, jq_48, jq_49, jq_50, jq_51, jq_52, jq_53, jq_54, jq_55, jq_56, jq_57, jq_58, jq_59, jq_60, jq_61, jq_62, jq_63, jq_64, jq_65, jq_66, jq_67, jq_68, jq_69, jq_70, jq_71, jq_72, jq_73, jq_74, jq_75, jq_76, jq_77, jq_78, jq_79, jq_80, jq_81, jq_82, jq_83, jq_84, jq_85, jq_86, jq_87, jq_88, jq_89, jq_90, jq_91, jq_92, jq_93, jq_94, jq_95, jq_96, jq_97, jq_98, jq_99, jq_100, jq_101, jq_102, jq_103, jq_104, jq_105, jq_106, jq_107, jq_108, jq_109, jq_110, jq_111, jq_112, jq_113, jq_114, jq_115, jq_116, jq_117, jq_118, jq_119, jq_120, jq_121, jq_122, jq_123, jq_124, jq_125, jq_126, jq_127, jq_128, jq_129, jq_130, jq_131, jq_132, jq_133, jq_134, jq_135, jq_136, jq_137, jq_138, jq_139, jq_140, jq_141, jq_142, jq_143, jq_144, jq_145, jq_146, jq_147, jq_148, jq_149, jq_150, jq_151, jq_152, jq_153, jq_154, jq_155, jq_156, jq_157, jq_158, jq_159, jq_160, jq_161, jq_162, jq_163, jq_164, jq_165, jq_166, jq_167, jq_168, jq_169, jq_170, jq_171, jq_172, jq_173, jq_174, jq_175, jq_176, jq_177, jq_178, jq_179, jq_180, jq_181, jq_182, jq_183, jq_184, jq_185, jq_186, jq_187, jq_188, jq_189, jq_190, jq_191, jq_192, jq_193, jq_194, jq_195, jq_196, jq_197, jq_198, jq_199, jq_200, jq_201, jq_202, jq_203, jq_204, jq_205, jq_206, jq_207, jq_208, jq_209, jq_210, jq_211, jq_212, jq_213, jq_214, jq_215, jq_216, jq_217, jq_218, jq_219, jq_220, jq_221, jq_222, jq_223, jq_224, jq_225, jq_226, jq_227, jq_228, jq_229, jq_230]
def jm_n : Nat := 228
def jm_at (mi : Nat) : jmE := jm_L.getD mi (yL_law, code, 4, none, 12, false, [])
def jm_nm (mi : Nat) : MethodName := (jm_at mi).1
def jm_code (mi : Nat) : ByteArray := (jm_at mi).2.1
def jm_maxL (mi : Nat) : Nat := (jm_at mi).2.2.1
def jm_ret (mi : Nat) : Option FieldType := (jm_at mi).2.2.2.1
def jm_own (mi : Nat) : Nat := (jm_at mi).2.2.2.2.1
def jm_ini (mi : Nat) : Bool := (jm_at mi).2.2.2.2.2.1
def jm_ins (mi pc : Nat) : Option (Instr × Nat) := ((jm_at mi).2.2.2.2.2.2.find? (fun e => e.1 == pc)).map (fun e => e.2)
def jm_cn (k : Nat) : String := match k with
  | 0 => "SealProbe$Bench"
  | 1 => "SealProbe$Chooser"
  | 2 => "SealProbe$Claim"
  | 3 => "SealProbe$Event"
  | 4 => "SealProbe$Knowledge"
  | 5 => "SealProbe$Role"
  | 6 => "SealProbe$Run"
  | 7 => "SealProbe$Search"
  | 8 => "SealProbe$States"
  | 9 => "SealProbe$Terms"
  | 10 => "SealProbe"
  | 11 => "SealProbeModel"
  | 12 => "SealProbeLaw"
  | 13 => "java/lang/Math"
  | 14 => "java/util/Arrays"
  | _ => ""
def jm_nf (ci : Nat) : Nat := match ci with
  | 0 => 14
  | 1 => 9
  | 2 => 7
  | 3 => 8
  | 4 => 14
  | 5 => 7
  | 6 => 10
  | 7 => 13
  | 8 => 6
  | 9 => 12
  | 10 => 4
  | 11 => 79
  | _ => 0
def jm_ty (ci k : Nat) : FieldType := match ci with
  | 0 => tyX0 k
  | 1 => tyX1 k
  | 2 => tyX2 k
  | 3 => tyX3 k
  | 4 => tyX4 k
  | 5 => tyX5 k
  | 6 => tyX6 k
  | 7 => tyX7 k
  | 8 => tyX8 k
  | 9 => tyX9 k
  | 10 => tyX10 k
  | 11 => tyX11 k
  | _ => .int
def jm_fin (ci k : Nat) : Bool := match ci with
  | 0 => (TX0 k).2.2.2
  | 1 => (TX1 k).2.2.2
  | 2 => (TX2 k).2.2.2
  | 3 => (TX3 k).2.2.2
  | 4 => (TX4 k).2.2.2
  | 5 => (TX5 k).2.2.2
  | 6 => (TX6 k).2.2.2
  | 7 => (TX7 k).2.2.2
  | 8 => (TX8 k).2.2.2
  | 9 => (TX9 k).2.2.2
  | 10 => (TX10 k).2.2.2
  | 11 => (TX11 k).2.2.2
  | _ => false
def jm_nat : Nat := 6
def jm_aty (t : Nat) : FieldType := match t with
  | 0 => .int
  | 1 => .boolean
  | 2 => .object "SealProbe$Role"
  | 3 => .object "SealProbe$Claim"
  | 4 => .object "SealProbe$Event"
  | _ => .array .int
def jm_ael (t : Nat) : Option Nat := match t with
  | 2 => some 5
  | 3 => some 2
  | 4 => some 3
  | _ => none
def jm_over : List String := ["SealProbe$Role", "SealProbe$Claim", "SealProbe$Event"]
def jm_fldT (k : Nat) : List (Nat × Nat × Nat × Nat) := match k with
  | 0 => [(11, 0, 1, 2013), (17, 0, 3, 2018), (21, 0, 4, 2021), (25, 0, 5, 2022), (30, 0, 7, 2028), (34, 0, 9, 2033), (37, 0, 11, 2036), (40, 0, 12, 2037), (43, 0, 13, 2038), (46, 0, 0, 2012), (52, 0, 2, 2016), (56, 0, 6, 2025), (59, 0, 8, 2030), (62, 0, 10, 2034), (79, 9, 8, 1071), (84, 9, 10, 1079), (90, 5, 5, 1196), (93, 5, 4, 1192), (97, 3, 0, 1139), (103, 3, 1, 1144), (106, 3, 4, 1156), (109, 3, 7, 1163), (120, 5, 2, 1187), (123, 3, 2, 1149), (126, 3, 3, 1152), (129, 5, 1, 1185), (132, 9, 0, 1039), (135, 9, 2, 1053), (139, 9, 1, 1046), (142, 5, 0, 1182), (152, 5, 6, 1200), (155, 2, 0, 1222), (158, 2, 1, 1224), (161, 2, 2, 1226), (164, 2, 3, 1227), (167, 2, 6, 1234), (217, 2, 4, 1229), (220, 2, 5, 1231)]
  | 1 => [(11, 1, 4, 2214), (16, 1, 5, 2215), (20, 1, 6, 2216), (23, 1, 7, 2217), (26, 1, 8, 2218), (30, 1, 1, 2211), (34, 1, 2, 2212), (37, 4, 0, 2081), (43, 1, 0, 2210), (50, 9, 11, 1083), (56, 9, 6, 1062), (63, 9, 0, 1035), (66, 3, 4, 1154), (71, 3, 3, 1151), (74, 1, 3, 2213), (81, 3, 6, 1160), (84, 3, 2, 1147), (87, 3, 7, 1162), (90, 3, 5, 1158), (105, 3, 1, 1143), (108, 9, 10, 1080), (111, 9, 1, 1044), (114, 9, 2, 1051)]
  | 2 => [(9, 2, 4, 1228), (15, 2, 5, 1230), (18, 2, 6, 1232)]
  | 3 => [(9, 3, 2, 1146), (15, 3, 3, 1150), (18, 3, 5, 1157), (21, 3, 6, 1159), (28, 3, 1, 1141), (32, 9, 11, 1084), (41, 3, 7, 1161), (44, 3, 4, 1153), (63, 9, 1, 1042), (66, 9, 2, 1049), (75, 9, 0, 1036), (78, 9, 10, 1076)]
  | 4 => [(9, 4, 2, 2084), (15, 4, 4, 2086), (18, 4, 5, 2088), (21, 4, 6, 2090), (24, 4, 8, 2094), (27, 4, 9, 2095), (30, 4, 10, 2096), (33, 4, 11, 2097), (36, 4, 0, 2082), (40, 4, 1, 2083), (50, 4, 3, 2085), (53, 9, 0, 1034), (58, 9, 1, 1041), (61, 9, 2, 1048), (68, 4, 7, 2092), (71, 4, 12, 2098), (74, 4, 13, 2099), (78, 9, 11, 1086), (81, 9, 5, 1060), (93, 9, 3, 1055), (96, 9, 4, 1058), (100, 9, 6, 1064), (104, 9, 10, 1078), (128, 9, 7, 1068)]
  | 5 => [(9, 5, 0, 1181), (15, 5, 1, 1184), (18, 5, 2, 1186), (24, 5, 4, 1190), (29, 5, 3, 1188), (33, 5, 5, 1194), (36, 5, 6, 1198)]
  | 6 => [(9, 6, 3, 2132), (15, 6, 4, 2134), (18, 6, 5, 2135), (21, 6, 6, 2136), (24, 6, 0, 2129), (28, 0, 0, 2010), (34, 6, 1, 2130), (40, 6, 2, 2131), (44, 6, 8, 2139), (48, 6, 7, 2137), (52, 6, 9, 2141), (55, 0, 5, 2023), (64, 9, 11, 1085), (84, 3, 0, 1137), (89, 3, 1, 1142), (103, 0, 1, 2014), (107, 0, 3, 2019), (110, 5, 5, 1195), (115, 5, 4, 1191), (119, 3, 4, 1155), (122, 3, 2, 1148), (140, 9, 6, 1065), (144, 9, 0, 1038), (151, 9, 1, 1045), (154, 9, 2, 1052), (157, 9, 10, 1081), (160, 9, 9, 1074)]
  | 7 => [(12, 7, 1, 2239), (18, 7, 4, 3003), (22, 7, 8, 3007), (25, 7, 0, 2238), (31, 0, 0, 2011), (40, 7, 2, 3001), (44, 7, 3, 3002), (52, 7, 5, 3004), (56, 7, 9, 3009), (60, 8, 5, 2185), (72, 7, 10, 3011), (75, 7, 11, 3013), (78, 7, 12, 3015), (87, 0, 6, 2026), (90, 7, 6, 3005), (97, 7, 7, 3006), (101, 0, 5, 2024), (118, 8, 0, 2176), (125, 3, 0, 1138), (161, 0, 8, 2031), (172, 8, 1, 2179), (175, 8, 2, 2181)]
  | 8 => [(9, 8, 0, 2175), (15, 8, 1, 2178), (18, 8, 2, 2180), (21, 8, 3, 2182), (24, 8, 4, 2183), (27, 8, 5, 2184)]
  | 9 => [(9, 9, 0, 1033), (15, 9, 1, 1040), (18, 9, 2, 1047), (21, 9, 3, 1054), (24, 9, 4, 1057), (27, 9, 5, 1059), (30, 9, 6, 1061), (34, 9, 7, 1066), (37, 9, 8, 1069), (40, 9, 9, 1072), (43, 9, 10, 1075), (52, 9, 11, 1082)]
  | 10 => [(12, 10, 1, 3045), (21, 10, 0, 3044), (30, 10, 2, 3046), (37, 10, 3, 3047), (60, 9, 0, 1037), (64, 9, 1, 1043), (71, 9, 2, 1050), (74, 9, 3, 1056), (77, 9, 6, 1063), (85, 9, 7, 1067), (88, 9, 8, 1070), (91, 9, 9, 1073), (94, 9, 10, 1077), (97, 0, 2, 2017), (112, 0, 1, 2015), (116, 5, 6, 1199), (122, 5, 3, 1189), (132, 5, 5, 1197), (143, 6, 8, 2140), (146, 0, 10, 2035), (161, 0, 6, 2027), (164, 9, 11, 1087), (177, 0, 8, 2032), (187, 0, 7, 2029), (191, 2, 0, 1221), (196, 2, 1, 1223), (199, 2, 2, 1225), (202, 2, 6, 1233), (212, 6, 7, 2138), (216, 6, 3, 2133), (223, 3, 0, 1140), (236, 4, 7, 2093), (252, 4, 4, 2087), (255, 4, 5, 2089), (258, 4, 6, 2091), (265, 0, 3, 2020), (286, 7, 12, 3016), (289, 7, 1, 3000), (293, 8, 5, 2186), (296, 7, 10, 3012), (302, 7, 9, 3010), (303, 7, 11, 3014), (306, 7, 8, 3008), (309, 8, 0, 2177), (322, 5, 0, 1183), (325, 5, 4, 1193), (329, 3, 1, 1145)]
  | 11 => [(7, 11, 0, 5163), (13, 11, 1, 5164), (16, 11, 2, 5165), (19, 11, 3, 5166), (22, 11, 4, 5167), (26, 11, 5, 5168), (29, 11, 6, 5169), (32, 11, 7, 5170), (35, 11, 8, 5171), (38, 11, 10, 5173), (42, 11, 11, 5174), (45, 11, 12, 5175), (48, 11, 14, 5177), (51, 11, 15, 5178), (54, 11, 16, 5179), (57, 11, 17, 5180), (60, 11, 18, 5181), (63, 11, 19, 5182), (66, 11, 20, 5183), (69, 11, 21, 5184), (72, 11, 23, 5186), (75, 11, 24, 5187), (78, 11, 25, 5188), (81, 11, 28, 5191), (84, 11, 29, 5192), (87, 11, 31, 5194), (90, 11, 32, 5195), (93, 11, 33, 5196), (96, 11, 34, 5197), (99, 11, 35, 5198), (102, 11, 36, 5199), (105, 11, 37, 5200), (108, 11, 38, 5201), (111, 11, 39, 5202), (114, 11, 40, 5203), (117, 11, 41, 5204), (120, 11, 42, 5205), (123, 11, 43, 5206), (126, 11, 44, 5207), (129, 11, 45, 5208), (132, 11, 48, 5211), (135, 11, 50, 5213), (138, 11, 51, 5214), (141, 11, 53, 5216), (144, 11, 54, 5217), (147, 11, 56, 5219), (150, 11, 57, 5220), (153, 11, 58, 5221), (156, 11, 59, 5222), (159, 11, 60, 5223), (162, 11, 62, 5225), (165, 11, 63, 5226), (168, 11, 64, 5227), (171, 11, 65, 5228), (174, 11, 66, 5229), (177, 11, 67, 5230), (180, 11, 68, 5231), (183, 11, 72, 5235), (186, 11, 73, 5236), (189, 11, 74, 5237), (192, 11, 75, 5238), (195, 11, 76, 5239), (198, 11, 77, 6000), (201, 11, 78, 6001), (214, 11, 49, 5212), (221, 11, 47, 5210), (225, 11, 9, 5172), (255, 11, 13, 5176), (263, 11, 22, 5185), (273, 11, 52, 5215), (276, 11, 26, 5189), (282, 11, 27, 5190), (289, 11, 30, 5193), (302, 11, 46, 5209), (337, 11, 55, 5218), (366, 11, 61, 5224), (389, 11, 69, 5232), (392, 11, 70, 5233), (395, 11, 71, 5234)]
  | _ => []
def jmT_0_0 : List (Nat × Nat × Nat × Nat × Nat) := [(50, 1, 59, 0, 1126), (51, 4, 38, 0, 1217), (65, 0, 3, 1, 4011), (69, 0, 62, 1, 4012), (72, 0, 60, 0, 3141), (75, 0, 11, 1, 3172), (87, 0, 63, 1, 3177), (112, 0, 10, 2, 3189), (116, 0, 41, 2, 3193), (138, 0, 95, 1, 3176), (145, 0, 98, 1, 4013), (148, 0, 104, 2, 4017)]
def jmT_0_1 : List (Nat × Nat × Nat × Nat × Nat) := [(170, 0, 16, 3, 4073), (174, 0, 19, 3, 4224), (178, 0, 45, 0, 4093), (183, 0, 51, 3, 4098), (187, 0, 21, 1, 5027), (191, 3, 50, 4, 5028), (195, 0, 52, 0, 5029), (198, 0, 25, 4, 4214), (202, 0, 26, 5, 4220), (206, 0, 17, 4, 4218), (210, 3, 55, 2, 4219), (214, 0, 27, 5, 4228)]
def jmT_1_0 : List (Nat × Nat × Nat × Nat × Nat) := [(44, 2, 227, 2, 5013), (59, 0, 30, 2, 5014), (77, 0, 34, 3, 5072), (93, 0, 36, 1, 5084), (97, 3, 55, 2, 5089), (101, 0, 37, 1, 5090), (117, 0, 48, 3, 5088), (121, 0, 54, 1, 5094)]
def jmT_3_0 : List (Nat × Nat × Nat × Nat × Nat) := [(24, 0, 42, 2, 3197), (37, 0, 43, 3, 3210), (47, 2, 227, 2, 3201), (59, 0, 100, 1, 3205), (69, 0, 95, 1, 3209)]
def jmT_4_0 : List (Nat × Nat × Nat × Nat × Nat) := [(44, 2, 227, 2, 2080), (64, 2, 94, 3, 4097), (82, 0, 103, 4, 4125), (86, 0, 48, 3, 4121), (89, 0, 47, 1, 4102), (99, 0, 95, 1, 4106), (107, 0, 50, 4, 4116), (111, 0, 49, 3, 4117), (114, 0, 53, 1, 4131), (117, 0, 51, 3, 4135), (121, 0, 55, 2, 4136), (125, 0, 54, 1, 4140)]
def jmT_4_1 : List (Nat × Nat × Nat × Nat × Nat) := [(131, 0, 57, 1, 4179), (135, 0, 46, 1, 4183), (138, 0, 58, 2, 4191), (142, 0, 102, 3, 4192), (143, 0, 106, 3, 4193)]
def jmT_5_0 : List (Nat × Nat × Nat × Nat × Nat) := [(28, 4, 40, 0, 1133), (40, 0, 62, 1, 3181)]
def jmT_6_0 : List (Nat × Nat × Nat × Nat × Nat) := [(37, 1, 44, 2, 2076), (67, 0, 68, 0, 4085), (70, 0, 21, 1, 4089), (74, 2, 227, 2, 4107), (80, 0, 69, 2, 4108), (92, 3, 50, 4, 4112), (96, 0, 51, 3, 4126), (100, 0, 52, 0, 4127), (125, 0, 18, 3, 5128), (129, 0, 70, 1, 5129), (133, 0, 74, 3, 4153), (136, 0, 95, 1, 4157)]
def jmT_6_1 : List (Nat × Nat × Nat × Nat × Nat) := [(147, 0, 75, 2, 4158)]
def jmT_7_0 : List (Nat × Nat × Nat × Nat × Nat) := [(11, 4, 86, 0, 2171), (37, 1, 44, 2, 2201), (49, 1, 28, 2, 2204), (69, 0, 87, 0, 3229), (81, 0, 79, 0, 5008), (84, 0, 29, 0, 5009), (93, 0, 23, 0, 5018), (110, 0, 22, 3, 5023), (114, 0, 84, 3, 5030), (121, 0, 18, 3, 5059), (130, 0, 83, 3, 5060), (134, 0, 89, 2, 5095)]
def jmT_7_1 : List (Nat × Nat × Nat × Nat × Nat) := [(138, 0, 31, 1, 5064), (142, 0, 32, 2, 5068), (146, 0, 33, 1, 5076), (150, 0, 35, 2, 5080), (154, 0, 91, 4, 5034), (158, 0, 20, 2, 5042), (164, 0, 24, 4, 5046), (168, 0, 85, 1, 5047)]
def jmT_8_0 : List (Nat × Nat × Nat × Nat × Nat) := [(31, 2, 227, 2, 3233), (37, 2, 88, 2, 5038), (41, 0, 90, 3, 5099)]
def jmT_9_0 : List (Nat × Nat × Nat × Nat × Nat) := [(46, 2, 227, 2, 1030), (56, 0, 95, 1, 3078), (60, 0, 97, 1, 3119), (63, 2, 94, 3, 3100), (67, 0, 103, 4, 3103), (71, 0, 107, 3, 3069), (74, 0, 96, 0, 3073), (78, 0, 101, 1, 3074)]
def jmT_10_0 : List (Nat × Nat × Nat × Nat × Nat) := [(11, 1, 92, 0, 1026), (18, 1, 1, 1, 1117), (27, 1, 65, 1, 2070), (36, 1, 76, 1, 2165), (41, 0, 96, 0, 3061), (45, 0, 104, 2, 3065), (49, 0, 95, 1, 3090), (53, 0, 142, 3, 3091), (57, 0, 99, 1, 3115), (67, 2, 140, 1, 3127), (81, 2, 139, 1, 3130), (101, 0, 7, 0, 3137)]
def jmT_10_1 : List (Nat × Nat × Nat × Nat × Nat) := [(105, 0, 3, 1, 3149), (108, 2, 141, 2, 3153), (125, 0, 105, 3, 3156), (128, 0, 61, 2, 3160), (135, 0, 8, 3, 3168), (139, 0, 9, 3, 3185), (149, 0, 12, 1, 3221), (152, 0, 79, 0, 3225), (155, 0, 13, 1, 3234), (158, 0, 64, 1, 4002), (167, 0, 97, 1, 4006), (170, 0, 14, 4, 4007)]
def jmT_10_2 : List (Nat × Nat × Nat × Nat × Nat) := [(174, 0, 6, 2, 4022), (180, 0, 15, 4, 4026), (184, 0, 5, 1, 4038), (205, 0, 39, 2, 4042), (209, 0, 66, 0, 4050), (213, 0, 4, 1, 4065), (219, 0, 18, 3, 4069), (228, 0, 70, 1, 4077), (232, 0, 67, 0, 4081), (241, 3, 55, 2, 4148), (244, 0, 73, 3, 4149), (248, 0, 16, 3, 4162)]
def jmT_10_3 : List (Nat × Nat × Nat × Nat × Nat) := [(261, 0, 143, 2, 4171), (268, 0, 17, 4, 4198), (272, 0, 24, 4, 4210), (276, 0, 71, 0, 4236), (279, 0, 80, 0, 5004), (280, 0, 81, 1, 5051), (283, 0, 82, 1, 5055), (299, 0, 77, 0, 5107), (310, 0, 78, 0, 5119), (313, 0, 72, 3, 5124), (332, 0, 2, 0, 5145), (335, 0, 93, 0, 5149)]
def jmT_10_4 : List (Nat × Nat × Nat × Nat × Nat) := [(336, 0, 101, 1, 3095), (339, 0, 102, 3, 3096), (342, 0, 106, 3, 3107), (345, 0, 56, 1, 4175), (348, 3, 58, 2, 4187)]
def jmT_11_0 : List (Nat × Nat × Nat × Nat × Nat) := [(204, 0, 146, 0, 5159), (207, 2, 147, 3, 6173), (211, 0, 150, 3, 6180), (217, 0, 151, 1, 6169), (228, 0, 149, 4, 6176), (232, 0, 148, 3, 6204), (235, 2, 145, 3, 6189), (239, 0, 152, 3, 6165), (244, 0, 154, 1, 6196), (248, 0, 157, 3, 6200), (258, 0, 161, 1, 6226), (266, 0, 164, 1, 6235)]
def jmT_11_1 : List (Nat × Nat × Nat × Nat × Nat) := [(269, 0, 165, 2, 6239), (279, 0, 209, 0, 7007), (285, 0, 169, 2, 7015), (292, 0, 171, 4, 7023), (296, 0, 177, 2, 7079), (299, 0, 153, 3, 7083), (305, 0, 178, 3, 7071), (309, 0, 180, 1, 7103), (312, 0, 181, 1, 7099), (315, 0, 184, 1, 7091), (318, 0, 182, 1, 7095), (321, 0, 185, 1, 7164)]
def jmT_11_2 : List (Nat × Nat × Nat × Nat × Nat) := [(324, 0, 187, 3, 7172), (328, 0, 186, 1, 7160), (331, 0, 188, 1, 7168), (334, 0, 179, 0, 7067), (340, 0, 176, 2, 7075), (343, 0, 183, 0, 7087), (346, 0, 175, 0, 7039), (349, 0, 168, 1, 7051), (352, 0, 193, 1, 7055), (356, 0, 194, 2, 7059), (360, 0, 190, 0, 7063), (363, 0, 196, 3, 7111)]
def jmT_11_3 : List (Nat × Nat × Nat × Nat × Nat) := [(369, 0, 200, 1, 7132), (372, 0, 199, 1, 7128), (375, 0, 201, 1, 7136), (378, 0, 202, 2, 7140), (383, 0, 203, 1, 7124), (386, 0, 189, 1, 7156), (398, 0, 212, 0, 7188), (402, 0, 211, 0, 7192), (405, 0, 214, 2, 7212), (408, 0, 216, 1, 7208), (415, 0, 215, 2, 7218), (418, 0, 213, 2, 7184)]
def jmT_11_4 : List (Nat × Nat × Nat × Nat × Nat) := [(421, 0, 210, 1, 7200), (424, 0, 217, 3, 7204), (427, 0, 218, 1, 7196), (430, 0, 219, 0, 7222), (433, 0, 191, 0, 7238)]
def jmT_12_0 : List (Nat × Nat × Nat × Nat × Nat) := [(9, 1, 108, 0, 1018), (12, 1, 144, 0, 5155), (13, 0, 109, 1, 3057), (17, 0, 155, 1, 6161), (18, 0, 110, 1, 3082), (22, 0, 156, 1, 6184), (23, 0, 111, 3, 3086), (27, 0, 158, 3, 6192), (28, 0, 112, 3, 3111), (31, 0, 159, 3, 6208), (32, 0, 113, 2, 3123), (36, 0, 160, 2, 6214)]
def jmT_12_1 : List (Nat × Nat × Nat × Nat × Nat) := [(37, 0, 114, 0, 3133), (41, 0, 162, 0, 6218), (42, 0, 115, 3, 3145), (45, 0, 163, 3, 6222), (46, 0, 116, 3, 3164), (50, 0, 166, 3, 6231), (51, 0, 117, 1, 3217), (54, 0, 167, 1, 7003), (55, 0, 118, 4, 3238), (59, 0, 170, 4, 7011), (60, 0, 119, 2, 4018), (63, 0, 172, 2, 7019)]
def jmT_12_2 : List (Nat × Nat × Nat × Nat × Nat) := [(64, 0, 120, 3, 4030), (67, 0, 173, 3, 7027), (68, 0, 121, 3, 4034), (71, 0, 174, 3, 7031), (72, 0, 122, 0, 4046), (75, 0, 191, 0, 7035), (76, 0, 123, 0, 4057), (79, 0, 192, 0, 7043), (80, 0, 124, 1, 4061), (83, 0, 195, 1, 7047), (84, 0, 125, 2, 4144), (87, 0, 197, 2, 7107)]
def jmT_12_3 : List (Nat × Nat × Nat × Nat × Nat) := [(88, 0, 126, 1, 4163), (91, 0, 198, 1, 7115), (92, 0, 127, 2, 4167), (95, 0, 204, 2, 7119), (96, 0, 128, 2, 4194), (99, 0, 205, 2, 7144), (100, 0, 129, 1, 4202), (103, 0, 206, 1, 7148), (104, 0, 130, 1, 4206), (107, 0, 207, 1, 7152), (108, 0, 131, 0, 4232), (111, 0, 208, 0, 7176)]
def jmT_12_4 : List (Nat × Nat × Nat × Nat × Nat) := [(112, 0, 132, 0, 5000), (115, 0, 220, 0, 7180), (116, 0, 133, 1, 5103), (119, 0, 221, 1, 7226), (120, 0, 134, 1, 5111), (123, 0, 222, 1, 7230), (124, 0, 135, 1, 5115), (127, 0, 223, 1, 7234), (128, 0, 136, 1, 5130), (131, 0, 224, 1, 7239), (132, 0, 137, 2, 5134), (135, 0, 225, 2, 8003)]
def jmT_12_5 : List (Nat × Nat × Nat × Nat × Nat) := [(136, 0, 138, 0, 5141), (139, 0, 226, 0, 8009)]
def jm_mthT (k : Nat) : List (Nat × Nat × Nat × Nat × Nat) := match k with
  | 0 => jmT_0_0 ++ (jmT_0_1)
  | 1 => jmT_1_0
  | 3 => jmT_3_0
  | 4 => jmT_4_0 ++ (jmT_4_1)
  | 5 => jmT_5_0
  | 6 => jmT_6_0 ++ (jmT_6_1)
  | 7 => jmT_7_0 ++ (jmT_7_1)
  | 8 => jmT_8_0
  | 9 => jmT_9_0
  | 10 => jmT_10_0 ++ (jmT_10_1 ++ (jmT_10_2 ++ (jmT_10_3 ++ (jmT_10_4))))
  | 11 => jmT_11_0 ++ (jmT_11_1 ++ (jmT_11_2 ++ (jmT_11_3 ++ (jmT_11_4))))
  | 12 => jmT_12_0 ++ (jmT_12_1 ++ (jmT_12_2 ++ (jmT_12_3 ++ (jmT_12_4 ++ (jmT_12_5)))))
  | _ => []
def jm_oiT (k : Nat) : List (Nat × Nat) := match k with
  | 0 => [(3, 1120)]
  | 1 => [(3, 2207)]
  | 2 => [(3, 1220)]
  | 3 => [(3, 1136)]
  | 4 => [(3, 2079)]
  | 5 => [(3, 1129)]
  | 6 => [(3, 2073)]
  | 7 => [(3, 2168)]
  | 8 => [(3, 2174)]
  | 9 => [(3, 1029)]
  | 10 => [(3, 1021)]
  | 11 => [(1, 5158)]
  | _ => []
def jm_acT (k : Nat) : List (Nat × Nat) := match k with
  | 6 => [(58, 4054)]
  | 7 => [(104, 5022)]
  | 8 => [(45, 5041)]
  | _ => []
def jm_mmT (k : Nat) : List (Nat × Nat × Nat) := match k with
  | 3 => [(53, 0, 3202), (72, 1, 3214)]
  | 7 => [(63, 1, 5123)]
  | 10 => [(317, 2, 5138)]
  | _ => []
def jm_newT (k : Nat) : List (Nat × Nat × Nat) := match k with
  | 0 => [(9, 5, 1121), (28, 2, 1123)]
  | 5 => [(22, 3, 1130)]
  | 6 => [(35, 4, 2074)]
  | 7 => [(9, 8, 2169), (29, 4, 2200), (47, 1, 2202)]
  | 10 => [(9, 9, 1024), (16, 0, 1115), (25, 6, 2068), (34, 7, 2163)]
  | 12 => [(7, 10, 1016), (10, 11, 5153)]
  | _ => []
def jm_anewT (k : Nat) : List (Nat × Nat × Nat) := match k with
  | 0 => [(9, 2, 1121), (28, 3, 1123)]
  | 5 => [(22, 4, 1130)]
  | _ => []
def jm_mnaT (k : Nat) : List (Nat × Nat × Nat × Nat) := match k with
  | 1 => [(9, 5, 0, 2208)]
  | _ => []
def jm_lngT (k : Nat) : List (Nat × Int64 × Nat) := match k with
  | 11 => [(242, 2, 6188), (251, 6, 6212), (253, 8, 6213), (261, 3, 6230), (381, 4, 7123), (411, 20000, 7216), (413, 20001, 7217), (437, 10, 8007), (439, 35, 8008)]
  | _ => []
def jm_fld (k idx : Nat) : Option (Nat × Nat) := ((jm_fldT k).find? (fun e => e.1 == idx)).map (fun e => (e.2.1, e.2.2.1))
def jm_mth (k idx : Nat) : Option (Nat × Nat × Nat) := ((jm_mthT k).find? (fun e => e.1 == idx)).map (fun e => (e.2.1, e.2.2.1, e.2.2.2.1))
def jm_oi (k idx : Nat) : Bool := ((jm_oiT k).find? (fun e => e.1 == idx)).isSome
def jm_ac (k idx : Nat) : Bool := ((jm_acT k).find? (fun e => e.1 == idx)).isSome
def jm_mm (k idx : Nat) : Option Nat := ((jm_mmT k).find? (fun e => e.1 == idx)).map (fun e => e.2.1)
def jm_new (k idx : Nat) : Option Nat := ((jm_newT k).find? (fun e => e.1 == idx)).map (fun e => e.2.1)
def jm_anew (k idx : Nat) : Option Nat := ((jm_anewT k).find? (fun e => e.1 == idx)).map (fun e => e.2.1)
def jm_mna (k idx : Nat) : Option (Nat × Nat) := ((jm_mnaT k).find? (fun e => e.1 == idx)).map (fun e => (e.2.1, e.2.2.1))
def jm_lng (k idx : Nat) : Option Int64 := ((jm_lngT k).find? (fun e => e.1 == idx)).map (fun e => e.2.1)
def jm_host : String := "SealProbe"
def jm_nest : List Cond := [.methodLinkNest "SealProbe$Role" 28 ⟨"SealProbe$Event", "<init>", "()V"⟩ "SealProbe", .methodLinkNest "SealProbe$Bench" 51 ⟨"SealProbe$Claim", "<init>", "()V"⟩ "SealProbe", .methodLinkNest "SealProbe$Search" 11 ⟨"SealProbe$States", "<init>", "()V"⟩ "SealProbe", .methodLinkNest "SealProbe$Run" 92 ⟨"SealProbe$Knowledge", "groundOf", "(I[III)I"⟩ "SealProbe", .methodLinkNest "SealProbe" 241 ⟨"SealProbe$Knowledge", "canMake", "(II)Z"⟩ "SealProbe", .methodLinkNest "SealProbe" 348 ⟨"SealProbe$Knowledge", "giveNumber", "(II)I"⟩ "SealProbe", .methodLinkNest "SealProbe$Bench" 210 ⟨"SealProbe$Knowledge", "canMake", "(II)Z"⟩ "SealProbe", .methodLinkNest "SealProbe$Bench" 191 ⟨"SealProbe$Knowledge", "groundOf", "(I[III)I"⟩ "SealProbe", .methodLinkNest "SealProbe$Chooser" 97 ⟨"SealProbe$Knowledge", "canMake", "(II)Z"⟩ "SealProbe"]
end
section
def jm_gw : List Cond := lw_tbl.filter goodWord
def jtabs (c : Nat) : List Cond := match c with
  | 0 => k2_sels lw_privs
  | 1 => tables_1_1
  | 2 => tables_1_2
  | 3 => tables_1_3
  | 4 => tables_1_4
  | 5 => tables_1_5
  | 6 => tables_1_6
  | 7 => tables_1_7
  | 8 => tables_1_8
  | _ => []
theorem jtabs_ok : ∀ (c : Nat) (w : Cond), w ∈ jtabs c → w ∈ lw_tbl := by
  intro c w h
  unfold jtabs at h
  split at h
  · exact List.mem_append_left _ h
  · exact List.mem_append_right _ (List.mem_append_left _ h)
  · exact List.mem_append_right _ (List.mem_append_right _ (List.mem_append_left _ h))
  · exact List.mem_append_right _ (List.mem_append_right _ (List.mem_append_right _ (List.mem_append_left _ h)))
  · exact List.mem_append_right _ (List.mem_append_right _ (List.mem_append_right _ (List.mem_append_right _ (List.mem_append_left _ h))))
  · exact List.mem_append_right _ (List.mem_append_right _ (List.mem_append_right _ (List.mem_append_right _ (List.mem_append_right _ (List.mem_append_left _ h)))))
  · exact List.mem_append_right _ (List.mem_append_right _ (List.mem_append_right _ (List.mem_append_right _ (List.mem_append_right _ (List.mem_append_right _ (List.mem_append_left _ h))))))
  · exact List.mem_append_right _ (List.mem_append_right _ (List.mem_append_right _ (List.mem_append_right _ (List.mem_append_right _ (List.mem_append_right _ (List.mem_append_right _ (List.mem_append_left _ h)))))))
  · exact List.mem_append_right _ (List.mem_append_right _ (List.mem_append_right _ (List.mem_append_right _ (List.mem_append_right _ (List.mem_append_right _ (List.mem_append_right _ (List.mem_append_right _ (h))))))))
  · exact absurd h List.not_mem_nil
def jck (i : Nat) (w : Cond) : Bool := decide ((jtabs (i / 1000))[i % 1000]? = some w) && goodWord w
theorem jck_ok {i : Nat} {w : Cond} (h : jck i w = true) : w ∈ jm_gw := by
  unfold jck at h
  rw [Bool.and_eq_true] at h
  exact List.mem_filter.mpr ⟨jtabs_ok _ _ (List.mem_of_getElem? (of_decide_eq_true h.1)), h.2⟩
theorem jm_aty0 : jm_aty 0 = .int := rfl
theorem jm_aty1 : jm_aty 1 = .boolean := rfl
theorem jm_nat2 : 2 ≤ jm_nat := by decide
theorem jm_aref : ∀ t, 2 ≤ t → t < jm_nat → (jm_aty t).isReference = true := by
  intro t h1 h2
  have h2 : t < 6 := h2
  rcases (show t = 2 ∨ t = 3 ∨ t = 4 ∨ t = 5 by omega) with rfl | rfl | rfl | rfl <;> rfl
theorem jm_atyk : ∀ t, 2 ≤ t → t < jm_nat → (∃ C ∈ jm_over, jm_aty t = .object C) ∨ jm_aty t = .array .int := by
  intro t h1 h2
  have h2 : t < 6 := h2
  rcases (show t = 2 ∨ t = 3 ∨ t = 4 ∨ t = 5 by omega) with rfl | rfl | rfl | rfl
  · exact Or.inl ⟨"SealProbe$Role", by decide, rfl⟩
  · exact Or.inl ⟨"SealProbe$Claim", by decide, rfl⟩
  · exact Or.inl ⟨"SealProbe$Event", by decide, rfl⟩
  · exact Or.inr rfl
theorem jm_ael_ok : ∀ t ci, jm_ael t = some ci → ∃ r : vw_C, vwCl[ci]? = some r ∧ jm_aty t = .object r.1 := by
  intro t ci h
  unfold jm_ael at h
  split at h
  · cases h; exact ⟨_, rfl, rfl⟩
  · cases h; exact ⟨_, rfl, rfl⟩
  · cases h; exact ⟨_, rfl, rfl⟩
  · cases h
theorem jm_ar : Cond.arrayClass .int ∈ jm_gw ∧ Cond.arrayClass .boolean ∈ jm_gw := ⟨jck_ok (i := 1113) (by decide +kernel), jck_ok (i := 1114) (by decide +kernel)⟩
theorem jl_0 : ∀ k, k < 14 → jck ([2039, 2041, 2043, 2045, 2047, 2049, 2051, 2053, 2055, 2057, 2059, 2061, 2063, 2065].getD k 0) (u_lay RX0 TX0 k) = true := by decide +kernel
theorem jc_0 : (∀ w ∈ u_ws RX0 TX0 14, w ∈ jm_gw) ∧ (∀ k, k < 14 → parseFieldDescriptor (TX0 k).2.2.1 = some (jm_ty 0 k)) ∧ (∀ a, a < 14 → ∀ b, b < 14 → a ≠ b → (TX0 a).2.1 ≠ (TX0 b).2.1) ∧ Cond.instantiable RX0 14 ∈ jm_gw ∧ Cond.initialized RX0 ∈ jm_gw ∧ jm_nf 0 = 14 ∧ (∀ k, k < 14 → (TX0 k).1 = RX0 ∧ (TX0 k).2.2.2 = jm_fin 0 k) ∧ jm_cn 0 = RX0 := ⟨fun w hw => by obtain ⟨k, hk, rfl⟩ := List.mem_map.mp hw; exact jck_ok (jl_0 k (List.mem_range.mp hk)), tyX0_ok, nmX0, jck_ok (i := 1116) (by decide +kernel), jck_ok (i := 1004) (by decide +kernel), rfl, by decide +kernel, rfl⟩
theorem jl_1 : ∀ k, k < 9 → jck ([2219, 2221, 2223, 2225, 2227, 2229, 2231, 2233, 2235].getD k 0) (u_lay RX1 TX1 k) = true := by decide +kernel
theorem jc_1 : (∀ w ∈ u_ws RX1 TX1 9, w ∈ jm_gw) ∧ (∀ k, k < 9 → parseFieldDescriptor (TX1 k).2.2.1 = some (jm_ty 1 k)) ∧ (∀ a, a < 9 → ∀ b, b < 9 → a ≠ b → (TX1 a).2.1 ≠ (TX1 b).2.1) ∧ Cond.instantiable RX1 9 ∈ jm_gw ∧ Cond.initialized RX1 ∈ jm_gw ∧ jm_nf 1 = 9 ∧ (∀ k, k < 9 → (TX1 k).1 = RX1 ∧ (TX1 k).2.2.2 = jm_fin 1 k) ∧ jm_cn 1 = RX1 := ⟨fun w hw => by obtain ⟨k, hk, rfl⟩ := List.mem_map.mp hw; exact jck_ok (jl_1 k (List.mem_range.mp hk)), tyX1_ok, nmX1, jck_ok (i := 2203) (by decide +kernel), jck_ok (i := 1012) (by decide +kernel), rfl, by decide +kernel, rfl⟩
theorem jl_2 : ∀ k, k < 7 → jck ([1235, 1237, 1239, 2001, 2003, 2005, 2007].getD k 0) (u_lay RX2 TX2 k) = true := by decide +kernel
theorem jc_2 : (∀ w ∈ u_ws RX2 TX2 7, w ∈ jm_gw) ∧ (∀ k, k < 7 → parseFieldDescriptor (TX2 k).2.2.1 = some (jm_ty 2 k)) ∧ (∀ a, a < 7 → ∀ b, b < 7 → a ≠ b → (TX2 a).2.1 ≠ (TX2 b).2.1) ∧ Cond.instantiable RX2 7 ∈ jm_gw ∧ Cond.initialized RX2 ∈ jm_gw ∧ jm_nf 2 = 7 ∧ (∀ k, k < 7 → (TX2 k).1 = RX2 ∧ (TX2 k).2.2.2 = jm_fin 2 k) ∧ jm_cn 2 = RX2 := ⟨fun w hw => by obtain ⟨k, hk, rfl⟩ := List.mem_map.mp hw; exact jck_ok (jl_2 k (List.mem_range.mp hk)), tyX2_ok, nmX2, jck_ok (i := 1216) (by decide +kernel), jck_ok (i := 1007) (by decide +kernel), rfl, by decide +kernel, rfl⟩
theorem jl_3 : ∀ k, k < 8 → jck ([1164, 1166, 1168, 1170, 1172, 1174, 1176, 1178].getD k 0) (u_lay RX3 TX3 k) = true := by decide +kernel
theorem jc_3 : (∀ w ∈ u_ws RX3 TX3 8, w ∈ jm_gw) ∧ (∀ k, k < 8 → parseFieldDescriptor (TX3 k).2.2.1 = some (jm_ty 3 k)) ∧ (∀ a, a < 8 → ∀ b, b < 8 → a ≠ b → (TX3 a).2.1 ≠ (TX3 b).2.1) ∧ Cond.instantiable RX3 8 ∈ jm_gw ∧ Cond.initialized RX3 ∈ jm_gw ∧ jm_nf 3 = 8 ∧ (∀ k, k < 8 → (TX3 k).1 = RX3 ∧ (TX3 k).2.2.2 = jm_fin 3 k) ∧ jm_cn 3 = RX3 := ⟨fun w hw => by obtain ⟨k, hk, rfl⟩ := List.mem_map.mp hw; exact jck_ok (jl_3 k (List.mem_range.mp hk)), tyX3_ok, nmX3, jck_ok (i := 1132) (by decide +kernel), jck_ok (i := 1006) (by decide +kernel), rfl, by decide +kernel, rfl⟩
theorem jl_4 : ∀ k, k < 14 → jck ([2100, 2102, 2104, 2106, 2108, 2110, 2112, 2114, 2116, 2118, 2120, 2122, 2124, 2126].getD k 0) (u_lay RX4 TX4 k) = true := by decide +kernel
theorem jc_4 : (∀ w ∈ u_ws RX4 TX4 14, w ∈ jm_gw) ∧ (∀ k, k < 14 → parseFieldDescriptor (TX4 k).2.2.1 = some (jm_ty 4 k)) ∧ (∀ a, a < 14 → ∀ b, b < 14 → a ≠ b → (TX4 a).2.1 ≠ (TX4 b).2.1) ∧ Cond.instantiable RX4 14 ∈ jm_gw ∧ Cond.initialized RX4 ∈ jm_gw ∧ jm_nf 4 = 14 ∧ (∀ k, k < 14 → (TX4 k).1 = RX4 ∧ (TX4 k).2.2.2 = jm_fin 4 k) ∧ jm_cn 4 = RX4 := ⟨fun w hw => by obtain ⟨k, hk, rfl⟩ := List.mem_map.mp hw; exact jck_ok (jl_4 k (List.mem_range.mp hk)), tyX4_ok, nmX4, jck_ok (i := 2075) (by decide +kernel), jck_ok (i := 1009) (by decide +kernel), rfl, by decide +kernel, rfl⟩
theorem jl_5 : ∀ k, k < 7 → jck ([1201, 1203, 1205, 1207, 1209, 1211, 1213].getD k 0) (u_lay RX5 TX5 k) = true := by decide +kernel
theorem jc_5 : (∀ w ∈ u_ws RX5 TX5 7, w ∈ jm_gw) ∧ (∀ k, k < 7 → parseFieldDescriptor (TX5 k).2.2.1 = some (jm_ty 5 k)) ∧ (∀ a, a < 7 → ∀ b, b < 7 → a ≠ b → (TX5 a).2.1 ≠ (TX5 b).2.1) ∧ Cond.instantiable RX5 7 ∈ jm_gw ∧ Cond.initialized RX5 ∈ jm_gw ∧ jm_nf 5 = 7 ∧ (∀ k, k < 7 → (TX5 k).1 = RX5 ∧ (TX5 k).2.2.2 = jm_fin 5 k) ∧ jm_cn 5 = RX5 := ⟨fun w hw => by obtain ⟨k, hk, rfl⟩ := List.mem_map.mp hw; exact jck_ok (jl_5 k (List.mem_range.mp hk)), tyX5_ok, nmX5, jck_ok (i := 1125) (by decide +kernel), jck_ok (i := 1005) (by decide +kernel), rfl, by decide +kernel, rfl⟩
theorem jl_6 : ∀ k, k < 10 → jck ([2142, 2144, 2146, 2148, 2150, 2152, 2154, 2156, 2158, 2160].getD k 0) (u_lay RX6 TX6 k) = true := by decide +kernel
theorem jc_6 : (∀ w ∈ u_ws RX6 TX6 10, w ∈ jm_gw) ∧ (∀ k, k < 10 → parseFieldDescriptor (TX6 k).2.2.1 = some (jm_ty 6 k)) ∧ (∀ a, a < 10 → ∀ b, b < 10 → a ≠ b → (TX6 a).2.1 ≠ (TX6 b).2.1) ∧ Cond.instantiable RX6 10 ∈ jm_gw ∧ Cond.initialized RX6 ∈ jm_gw ∧ jm_nf 6 = 10 ∧ (∀ k, k < 10 → (TX6 k).1 = RX6 ∧ (TX6 k).2.2.2 = jm_fin 6 k) ∧ jm_cn 6 = RX6 := ⟨fun w hw => by obtain ⟨k, hk, rfl⟩ := List.mem_map.mp hw; exact jck_ok (jl_6 k (List.mem_range.mp hk)), tyX6_ok, nmX6, jck_ok (i := 2069) (by decide +kernel), jck_ok (i := 1008) (by decide +kernel), rfl, by decide +kernel, rfl⟩
theorem jl_7 : ∀ k, k < 13 → jck ([3017, 3019, 3021, 3023, 3025, 3027, 3029, 3031, 3033, 3035, 3037, 3039, 3041].getD k 0) (u_lay RX7 TX7 k) = true := by decide +kernel
theorem jc_7 : (∀ w ∈ u_ws RX7 TX7 13, w ∈ jm_gw) ∧ (∀ k, k < 13 → parseFieldDescriptor (TX7 k).2.2.1 = some (jm_ty 7 k)) ∧ (∀ a, a < 13 → ∀ b, b < 13 → a ≠ b → (TX7 a).2.1 ≠ (TX7 b).2.1) ∧ Cond.instantiable RX7 13 ∈ jm_gw ∧ Cond.initialized RX7 ∈ jm_gw ∧ jm_nf 7 = 13 ∧ (∀ k, k < 13 → (TX7 k).1 = RX7 ∧ (TX7 k).2.2.2 = jm_fin 7 k) ∧ jm_cn 7 = RX7 := ⟨fun w hw => by obtain ⟨k, hk, rfl⟩ := List.mem_map.mp hw; exact jck_ok (jl_7 k (List.mem_range.mp hk)), tyX7_ok, nmX7, jck_ok (i := 2164) (by decide +kernel), jck_ok (i := 1010) (by decide +kernel), rfl, by decide +kernel, rfl⟩
theorem jl_8 : ∀ k, k < 6 → jck ([2187, 2189, 2191, 2193, 2195, 2197].getD k 0) (u_lay RX8 TX8 k) = true := by decide +kernel
theorem jc_8 : (∀ w ∈ u_ws RX8 TX8 6, w ∈ jm_gw) ∧ (∀ k, k < 6 → parseFieldDescriptor (TX8 k).2.2.1 = some (jm_ty 8 k)) ∧ (∀ a, a < 6 → ∀ b, b < 6 → a ≠ b → (TX8 a).2.1 ≠ (TX8 b).2.1) ∧ Cond.instantiable RX8 6 ∈ jm_gw ∧ Cond.initialized RX8 ∈ jm_gw ∧ jm_nf 8 = 6 ∧ (∀ k, k < 6 → (TX8 k).1 = RX8 ∧ (TX8 k).2.2.2 = jm_fin 8 k) ∧ jm_cn 8 = RX8 := ⟨fun w hw => by obtain ⟨k, hk, rfl⟩ := List.mem_map.mp hw; exact jck_ok (jl_8 k (List.mem_range.mp hk)), tyX8_ok, nmX8, jck_ok (i := 2170) (by decide +kernel), jck_ok (i := 1011) (by decide +kernel), rfl, by decide +kernel, rfl⟩
theorem jl_9 : ∀ k, k < 12 → jck ([1088, 1090, 1092, 1094, 1096, 1098, 1100, 1102, 1104, 1106, 1108, 1110].getD k 0) (u_lay RX9 TX9 k) = true := by decide +kernel
theorem jc_9 : (∀ w ∈ u_ws RX9 TX9 12, w ∈ jm_gw) ∧ (∀ k, k < 12 → parseFieldDescriptor (TX9 k).2.2.1 = some (jm_ty 9 k)) ∧ (∀ a, a < 12 → ∀ b, b < 12 → a ≠ b → (TX9 a).2.1 ≠ (TX9 b).2.1) ∧ Cond.instantiable RX9 12 ∈ jm_gw ∧ Cond.initialized RX9 ∈ jm_gw ∧ jm_nf 9 = 12 ∧ (∀ k, k < 12 → (TX9 k).1 = RX9 ∧ (TX9 k).2.2.2 = jm_fin 9 k) ∧ jm_cn 9 = RX9 := ⟨fun w hw => by obtain ⟨k, hk, rfl⟩ := List.mem_map.mp hw; exact jck_ok (jl_9 k (List.mem_range.mp hk)), tyX9_ok, nmX9, jck_ok (i := 1025) (by decide +kernel), jck_ok (i := 1002) (by decide +kernel), rfl, by decide +kernel, rfl⟩
theorem jl_10 : ∀ k, k < 4 → jck ([3048, 3050, 3052, 3054].getD k 0) (u_lay RX10 TX10 k) = true := by decide +kernel
theorem jc_10 : (∀ w ∈ u_ws RX10 TX10 4, w ∈ jm_gw) ∧ (∀ k, k < 4 → parseFieldDescriptor (TX10 k).2.2.1 = some (jm_ty 10 k)) ∧ (∀ a, a < 4 → ∀ b, b < 4 → a ≠ b → (TX10 a).2.1 ≠ (TX10 b).2.1) ∧ Cond.instantiable RX10 4 ∈ jm_gw ∧ Cond.initialized RX10 ∈ jm_gw ∧ jm_nf 10 = 4 ∧ (∀ k, k < 4 → (TX10 k).1 = RX10 ∧ (TX10 k).2.2.2 = jm_fin 10 k) ∧ jm_cn 10 = RX10 := ⟨fun w hw => by obtain ⟨k, hk, rfl⟩ := List.mem_map.mp hw; exact jck_ok (jl_10 k (List.mem_range.mp hk)), tyX10_ok, nmX10, jck_ok (i := 1017) (by decide +kernel), jck_ok (i := 1001) (by decide +kernel), rfl, by decide +kernel, rfl⟩
theorem jl_11 : ∀ k, k < 79 → jck ([6002, 6004, 6006, 6008, 6010, 6012, 6014, 6016, 6018, 6020, 6022, 6024, 6026, 6028, 6030, 6032, 6034, 6036, 6038, 6040, 6042, 6044, 6046, 6048, 6050, 6052, 6054, 6056, 6058, 6060, 6062, 6064, 6066, 6068, 6070, 6072, 6074, 6076, 6078, 6080, 6082, 6084, 6086, 6088, 6090, 6092, 6094, 6096, 6098, 6100, 6102, 6104, 6106, 6108, 6110, 6112, 6114, 6116, 6118, 6120, 6122, 6124, 6126, 6128, 6130, 6132, 6134, 6136, 6138, 6140, 6142, 6144, 6146, 6148, 6150, 6152, 6154, 6156, 6158].getD k 0) (u_lay RX11 TX11 k) = true := by decide +kernel
theorem jc_11 : (∀ w ∈ u_ws RX11 TX11 79, w ∈ jm_gw) ∧ (∀ k, k < 79 → parseFieldDescriptor (TX11 k).2.2.1 = some (jm_ty 11 k)) ∧ (∀ a, a < 79 → ∀ b, b < 79 → a ≠ b → (TX11 a).2.1 ≠ (TX11 b).2.1) ∧ Cond.instantiable RX11 79 ∈ jm_gw ∧ Cond.initialized RX11 ∈ jm_gw ∧ jm_nf 11 = 79 ∧ (∀ k, k < 79 → (TX11 k).1 = RX11 ∧ (TX11 k).2.2.2 = jm_fin 11 k) ∧ jm_cn 11 = RX11 := ⟨fun w hw => by obtain ⟨k, hk, rfl⟩ := List.mem_map.mp hw; exact jck_ok (jl_11 k (List.mem_range.mp hk)), tyX11_ok, nmX11, jck_ok (i := 5154) (by decide +kernel), jck_ok (i := 1013) (by decide +kernel), rfl, by decide +kernel, rfl⟩
theorem jm_cl_ok : ∀ (ci : Nat) (C : String) (T : u_T) (N : Nat), vwCl[ci]? = some (C, T, N) → (∀ w ∈ u_ws C T N, w ∈ jm_gw) ∧ (∀ k, k < N → parseFieldDescriptor (T k).2.2.1 = some (jm_ty ci k)) ∧ (∀ a, a < N → ∀ b, b < N → a ≠ b → (T a).2.1 ≠ (T b).2.1) ∧ Cond.instantiable C N ∈ jm_gw ∧ Cond.initialized C ∈ jm_gw ∧ jm_nf ci = N ∧ (∀ k, k < N → (T k).1 = C ∧ (T k).2.2.2 = jm_fin ci k) ∧ jm_cn ci = C := by
  intro ci C T N h
  match ci, h with
  | 0, h => cases h; exact jc_0
  | 1, h => cases h; exact jc_1
  | 2, h => cases h; exact jc_2
  | 3, h => cases h; exact jc_3
  | 4, h => cases h; exact jc_4
  | 5, h => cases h; exact jc_5
  | 6, h => cases h; exact jc_6
  | 7, h => cases h; exact jc_7
  | 8, h => cases h; exact jc_8
  | 9, h => cases h; exact jc_9
  | 10, h => cases h; exact jc_10
  | 11, h => cases h; exact jc_11
  | k + 12, h => simp [vwCl] at h
theorem jm_fld_all : ∀ k ∈ [0, 1, 2, 3, 4, 5, 6, 7, 8, 9, 10, 11, 12, 13, 14], (jm_fldT k).all (fun e => match vwCl[e.2.1]? with | some q => decide (e.2.2.1 < q.2.2) && jck e.2.2.2 (Cond.fieldLink (jm_cn k) e.1 q.1 (q.2.1 e.2.2.1).2.1 (q.2.1 e.2.2.1).2.2.1) | none => false) = true := by decide +kernel
theorem jm_fld_ok : ∀ k idx ci f, jm_fld k idx = some (ci, f) → ∃ (C : String) (T : u_T) (N : Nat), vwCl[ci]? = some (C, T, N) ∧ f < N ∧ Cond.fieldLink (jm_cn k) idx C (T f).2.1 (T f).2.2.1 ∈ jm_gw := by
  intro k idx ci f h
  unfold jm_fld at h
  obtain ⟨q, hf, hq⟩ := Option.map_eq_some_iff.mp h
  have hm := List.mem_of_find?_eq_some hf
  have hi := List.find?_some hf
  have hk : k ∈ [0, 1, 2, 3, 4, 5, 6, 7, 8, 9, 10, 11, 12, 13, 14] := by
    rcases Nat.lt_or_ge k 15 with h9 | h9
    · have : ∀ k, k < 15 → k ∈ [0, 1, 2, 3, 4, 5, 6, 7, 8, 9, 10, 11, 12, 13, 14] := by decide
      exact this k h9
    · exfalso
      match k, h9, hm with
      | k + 15, _, hm => exact absurd hm List.not_mem_nil
  have hc := List.all_eq_true.mp (jm_fld_all k hk) _ hm
  cases hq
  simp only [beq_iff_eq] at hi
  subst hi
  split at hc
  · next q9 hq9 =>
    rw [Bool.and_eq_true] at hc
    exact ⟨q9.1, q9.2.1, q9.2.2, hq9, of_decide_eq_true hc.1, jck_ok hc.2⟩
  · cases hc
theorem jm_new_all : ∀ k ∈ [0, 1, 2, 3, 4, 5, 6, 7, 8, 9, 10, 11, 12, 13, 14], (jm_newT k).all (fun e => match vwCl[e.2.1]? with | some q => jck e.2.2 (Cond.classLink (jm_cn k) e.1 q.1) | none => false) = true := by decide +kernel
theorem jm_new_ok : ∀ k idx ci, jm_new k idx = some ci → ∃ (C : String) (T : u_T) (N : Nat), vwCl[ci]? = some (C, T, N) ∧ Cond.classLink (jm_cn k) idx C ∈ jm_gw := by
  intro k idx ci h
  unfold jm_new at h
  obtain ⟨q, hf, hq⟩ := Option.map_eq_some_iff.mp h
  have hm := List.mem_of_find?_eq_some hf
  have hi := List.find?_some hf
  have hk : k ∈ [0, 1, 2, 3, 4, 5, 6, 7, 8, 9, 10, 11, 12, 13, 14] := by
    rcases Nat.lt_or_ge k 15 with h9 | h9
    · have : ∀ k, k < 15 → k ∈ [0, 1, 2, 3, 4, 5, 6, 7, 8, 9, 10, 11, 12, 13, 14] := by decide
      exact this k h9
    · exfalso
      match k, h9, hm with
      | k + 15, _, hm => exact absurd hm List.not_mem_nil
  have hc := List.all_eq_true.mp (jm_new_all k hk) _ hm
  cases hq
  simp only [beq_iff_eq] at hi
  subst hi
  split at hc
  · next q9 hq9 => exact ⟨q9.1, q9.2.1, q9.2.2, hq9, jck_ok hc⟩
  · cases hc
theorem jm_anew_all : ∀ k ∈ [0, 1, 2, 3, 4, 5, 6, 7, 8, 9, 10, 11, 12, 13, 14], (jm_anewT k).all (fun e => decide (2 ≤ e.2.1) && (decide (e.2.1 < jm_nat) && (match jm_aty e.2.1 with | .object C => decide (C ∈ jm_over) && jck e.2.2 (Cond.classLink (jm_cn k) e.1 C) | _ => false))) = true := by decide +kernel
theorem jm_anew_ok : ∀ k idx t, jm_anew k idx = some t → 2 ≤ t ∧ t < jm_nat ∧ ∃ C : String, jm_aty t = .object C ∧ C ∈ jm_over ∧ Cond.classLink (jm_cn k) idx C ∈ jm_gw := by
  intro k idx t h
  unfold jm_anew at h
  obtain ⟨q, hf, hq⟩ := Option.map_eq_some_iff.mp h
  have hm := List.mem_of_find?_eq_some hf
  have hi := List.find?_some hf
  have hk : k ∈ [0, 1, 2, 3, 4, 5, 6, 7, 8, 9, 10, 11, 12, 13, 14] := by
    rcases Nat.lt_or_ge k 15 with h9 | h9
    · have : ∀ k, k < 15 → k ∈ [0, 1, 2, 3, 4, 5, 6, 7, 8, 9, 10, 11, 12, 13, 14] := by decide
      exact this k h9
    · exfalso
      match k, h9, hm with
      | k + 15, _, hm => exact absurd hm List.not_mem_nil
  have hc := List.all_eq_true.mp (jm_anew_all k hk) _ hm
  cases hq
  simp only [beq_iff_eq] at hi
  subst hi
  rw [Bool.and_eq_true, Bool.and_eq_true] at hc
  obtain ⟨h1, h2, h3⟩ := hc
  refine ⟨of_decide_eq_true h1, of_decide_eq_true h2, ?_⟩
  split at h3
  · next C hC =>
    rw [Bool.and_eq_true] at h3
    exact ⟨C, hC, of_decide_eq_true h3.1, jck_ok h3.2⟩
  · cases h3
theorem jm_mna_all : ∀ k ∈ [0, 1, 2, 3, 4, 5, 6, 7, 8, 9, 10, 11, 12, 13, 14], (jm_mnaT k).all (fun e => decide (2 ≤ e.2.1) && (decide (e.2.1 < jm_nat) && (decide (jm_aty e.2.1 = .array .int) && jck e.2.2.2 (Cond.classLink (jm_cn k) e.1 "[[I")))) = true := by decide +kernel
theorem jm_mna_ok : ∀ k idx t, jm_mna k idx = some t → 2 ≤ t.1 ∧ t.1 < jm_nat ∧ jm_aty t.1 = .array .int ∧ Cond.classLink (jm_cn k) idx "[[I" ∈ jm_gw ∧ Cond.arrayClass .int ∈ jm_gw := by
  intro k idx t h
  unfold jm_mna at h
  obtain ⟨q, hf, hq⟩ := Option.map_eq_some_iff.mp h
  have hm := List.mem_of_find?_eq_some hf
  have hi := List.find?_some hf
  have hk : k ∈ [0, 1, 2, 3, 4, 5, 6, 7, 8, 9, 10, 11, 12, 13, 14] := by
    rcases Nat.lt_or_ge k 15 with h9 | h9
    · have : ∀ k, k < 15 → k ∈ [0, 1, 2, 3, 4, 5, 6, 7, 8, 9, 10, 11, 12, 13, 14] := by decide
      exact this k h9
    · exfalso
      match k, h9, hm with
      | k + 15, _, hm => exact absurd hm List.not_mem_nil
  have hc := List.all_eq_true.mp (jm_mna_all k hk) _ hm
  cases hq
  simp only [beq_iff_eq] at hi
  subst hi
  rw [Bool.and_eq_true, Bool.and_eq_true, Bool.and_eq_true] at hc
  obtain ⟨h1, h2, h3, h4⟩ := hc
  exact ⟨of_decide_eq_true h1, of_decide_eq_true h2, of_decide_eq_true h3, jck_ok h4, jm_ar.1⟩
theorem jm_lng_all : ∀ k ∈ [0, 1, 2, 3, 4, 5, 6, 7, 8, 9, 10, 11, 12, 13, 14], (jm_lngT k).all (fun e => jck e.2.2 (Cond.constantLong (jm_cn k) e.1 e.2.1)) = true := by decide +kernel
theorem jm_lng_ok : ∀ k idx v, jm_lng k idx = some v → Cond.constantLong (jm_cn k) idx v ∈ jm_gw := by
  intro k idx v h
  unfold jm_lng at h
  obtain ⟨q, hf, hq⟩ := Option.map_eq_some_iff.mp h
  have hm := List.mem_of_find?_eq_some hf
  have hi := List.find?_some hf
  have hk : k ∈ [0, 1, 2, 3, 4, 5, 6, 7, 8, 9, 10, 11, 12, 13, 14] := by
    rcases Nat.lt_or_ge k 15 with h9 | h9
    · have : ∀ k, k < 15 → k ∈ [0, 1, 2, 3, 4, 5, 6, 7, 8, 9, 10, 11, 12, 13, 14] := by decide
      exact this k h9
    · exfalso
      match k, h9, hm with
      | k + 15, _, hm => exact absurd hm List.not_mem_nil
  have hc := List.all_eq_true.mp (jm_lng_all k hk) _ hm
  cases hq
  simp only [beq_iff_eq] at hi
  subst hi
  exact jck_ok hc
theorem jm_oi_all : ∀ k ∈ [0, 1, 2, 3, 4, 5, 6, 7, 8, 9, 10, 11, 12, 13, 14], (jm_oiT k).all (fun e => jck e.2 (Cond.methodLink (jm_cn k) e.1 objectInit)) = true := by decide +kernel
theorem jm_oi_ok : ∀ k idx, jm_oi k idx = true → Cond.methodLink (jm_cn k) idx objectInit ∈ jm_gw ∧ Cond.instanceMethod objectInit ∈ jm_gw ∧ Cond.code objectInit ⟨#[0xb1]⟩ 1 none ∈ jm_gw := by
  intro k idx h
  unfold jm_oi at h
  obtain ⟨q, hf⟩ := Option.isSome_iff_exists.mp h
  have hm := List.mem_of_find?_eq_some hf
  have hi := List.find?_some hf
  have hk : k ∈ [0, 1, 2, 3, 4, 5, 6, 7, 8, 9, 10, 11, 12, 13, 14] := by
    rcases Nat.lt_or_ge k 15 with h9 | h9
    · have : ∀ k, k < 15 → k ∈ [0, 1, 2, 3, 4, 5, 6, 7, 8, 9, 10, 11, 12, 13, 14] := by decide
      exact this k h9
    · exfalso
      match k, h9, hm with
      | k + 15, _, hm => exact absurd hm List.not_mem_nil
  have hc := List.all_eq_true.mp (jm_oi_all k hk) _ hm
  simp only [beq_iff_eq] at hi
  subst hi
  exact ⟨jck_ok hc, jck_ok (i := 1022) (by decide +kernel), jck_ok (i := 1023) (by decide +kernel)⟩
theorem jm_ac_all : ∀ k ∈ [0, 1, 2, 3, 4, 5, 6, 7, 8, 9, 10, 11, 12, 13, 14], (jm_acT k).all (fun e => jck e.2 (Cond.methodLink (jm_cn k) e.1 arraycopyName)) = true := by decide +kernel
theorem jm_ac_ok : ∀ k idx, jm_ac k idx = true → Cond.methodLink (jm_cn k) idx arraycopyName ∈ jm_gw ∧ Cond.native arraycopyName ∈ jm_gw ∧ Cond.static arraycopyName ∈ jm_gw ∧ Cond.initialized "java/lang/System" ∈ jm_gw := by
  intro k idx h
  unfold jm_ac at h
  obtain ⟨q, hf⟩ := Option.isSome_iff_exists.mp h
  have hm := List.mem_of_find?_eq_some hf
  have hi := List.find?_some hf
  have hk : k ∈ [0, 1, 2, 3, 4, 5, 6, 7, 8, 9, 10, 11, 12, 13, 14] := by
    rcases Nat.lt_or_ge k 15 with h9 | h9
    · have : ∀ k, k < 15 → k ∈ [0, 1, 2, 3, 4, 5, 6, 7, 8, 9, 10, 11, 12, 13, 14] := by decide
      exact this k h9
    · exfalso
      match k, h9, hm with
      | k + 15, _, hm => exact absurd hm List.not_mem_nil
  have hc := List.all_eq_true.mp (jm_ac_all k hk) _ hm
  simp only [beq_iff_eq] at hi
  subst hi
  exact ⟨jck_ok hc, jck_ok (i := 4056) (by decide +kernel), jck_ok (i := 4055) (by decide +kernel), jck_ok (i := 1015) (by decide +kernel)⟩
theorem jm_mm_all : ∀ k ∈ [0, 1, 2, 3, 4, 5, 6, 7, 8, 9, 10, 11, 12, 13, 14], (jm_mmT k).all (fun e => jck e.2.2 (Cond.methodLink (jm_cn k) e.1 (if e.2.1 = 1 then Lib.Math.max.name else if e.2.1 = 2 then Jvm.Free.MCB.FloorMod.yN else Lib.Math.min.name))) = true := by decide +kernel
theorem jm_mm_ok : ∀ k idx v, jm_mm k idx = some v → Cond.methodLink (jm_cn k) idx (if v = 1 then Lib.Math.max.name else if v = 2 then Jvm.Free.MCB.FloorMod.yN else Lib.Math.min.name) ∈ jm_gw := by
  intro k idx v h
  unfold jm_mm at h
  obtain ⟨q, hf, hq⟩ := Option.map_eq_some_iff.mp h
  have hm := List.mem_of_find?_eq_some hf
  have hi := List.find?_some hf
  have hk : k ∈ [0, 1, 2, 3, 4, 5, 6, 7, 8, 9, 10, 11, 12, 13, 14] := by
    rcases Nat.lt_or_ge k 15 with h9 | h9
    · have : ∀ k, k < 15 → k ∈ [0, 1, 2, 3, 4, 5, 6, 7, 8, 9, 10, 11, 12, 13, 14] := by decide
      exact this k h9
    · exfalso
      match k, h9, hm with
      | k + 15, _, hm => exact absurd hm List.not_mem_nil
  have hc := List.all_eq_true.mp (jm_mm_all k hk) _ hm
  cases hq
  simp only [beq_iff_eq] at hi
  subst hi
  exact jck_ok hc
theorem jm_max_ok : Cond.static Lib.Math.max.name ∈ jm_gw ∧ Cond.initialized "java/lang/Math" ∈ jm_gw ∧ Cond.code Lib.Math.max.name Lib.Math.max.code 2 (some .int) ∈ jm_gw := ⟨List.mem_filter.mpr ⟨jtabs_ok 3 _ (List.mem_of_getElem? (i := 215) rfl), rfl⟩, List.mem_filter.mpr ⟨jtabs_ok 1 _ (List.mem_of_getElem? (i := 14) rfl), rfl⟩, List.mem_filter.mpr ⟨jtabs_ok 3 _ (List.mem_of_getElem? (i := 216) rfl), rfl⟩⟩
theorem jm_min_ok : Cond.static Lib.Math.min.name ∈ jm_gw ∧ Cond.initialized "java/lang/Math" ∈ jm_gw ∧ Cond.code Lib.Math.min.name Lib.Math.min.code 2 (some .int) ∈ jm_gw := ⟨List.mem_filter.mpr ⟨jtabs_ok 3 _ (List.mem_of_getElem? (i := 203) rfl), rfl⟩, List.mem_filter.mpr ⟨jtabs_ok 1 _ (List.mem_of_getElem? (i := 14) rfl), rfl⟩, List.mem_filter.mpr ⟨jtabs_ok 3 _ (List.mem_of_getElem? (i := 204) rfl), rfl⟩⟩
theorem jm_fmd_ok : Cond.static Jvm.Free.MCB.FloorMod.yN ∈ jm_gw ∧ Cond.initialized "java/lang/Math" ∈ jm_gw ∧ Jvm.Free.MCB.FloorMod.tab ∈ jm_gw := ⟨List.mem_filter.mpr ⟨jtabs_ok 5 _ (List.mem_of_getElem? (i := 139) rfl), rfl⟩, List.mem_filter.mpr ⟨jtabs_ok 1 _ (List.mem_of_getElem? (i := 14) rfl), rfl⟩, List.mem_filter.mpr ⟨jtabs_ok 5 _ (List.mem_of_getElem? (i := 140) rfl), rfl⟩⟩
theorem jm_over_ok : ∀ C ∈ jm_over, Cond.arrayOver (.object C) ∈ lw_tbl := by
  intro C hC
  simp only [jm_over, List.mem_cons, List.not_mem_nil, or_false] at hC
  rcases hC with rfl | rfl | rfl
  · exact jtabs_ok 1 _ (List.mem_of_getElem? (i := 122) rfl)
  · exact jtabs_ok 1 _ (List.mem_of_getElem? (i := 124) rfl)
  · exact jtabs_ok 1 _ (List.mem_of_getElem? (i := 131) rfl)
theorem jm_overA : Cond.arrayOver (.array .int) ∈ lw_tbl := jtabs_ok 2 _ (List.mem_of_getElem? (i := 209) rfl)
theorem jm_nest_in : ∀ w ∈ jm_nest, w ∈ lw_tbl := by
  intro w hw
  simp only [jm_nest, List.mem_cons, List.not_mem_nil, or_false] at hw
  rcases hw with rfl | rfl | rfl | rfl | rfl | rfl | rfl | rfl | rfl
  · exact jtabs_ok 1 _ (List.mem_of_getElem? (i := 133) rfl)
  · exact jtabs_ok 1 _ (List.mem_of_getElem? (i := 217) rfl)
  · exact jtabs_ok 2 _ (List.mem_of_getElem? (i := 171) rfl)
  · exact jtabs_ok 4 _ (List.mem_of_getElem? (i := 112) rfl)
  · exact jtabs_ok 4 _ (List.mem_of_getElem? (i := 148) rfl)
  · exact jtabs_ok 4 _ (List.mem_of_getElem? (i := 187) rfl)
  · exact jtabs_ok 4 _ (List.mem_of_getElem? (i := 219) rfl)
  · exact jtabs_ok 5 _ (List.mem_of_getElem? (i := 28) rfl)
  · exact jtabs_ok 5 _ (List.mem_of_getElem? (i := 89) rfl)
theorem jm_nest_ok : ∀ w ∈ jm_nest, ∃ a i x h, w = Cond.methodLinkNest a i x h := by
  intro w hw
  simp only [jm_nest, List.mem_cons, List.not_mem_nil, or_false] at hw
  rcases hw with rfl | rfl | rfl | rfl | rfl | rfl | rfl | rfl | rfl <;> exact ⟨_, _, _, _, rfl⟩
end
section
/-- where a method's words stand: code, initialized, instanceMethod (or static), selects -/
def jm_wp : List (Nat × Nat × Nat × Nat) := [(0, 0, 0, 0), (1119, 1004, 1118, 0), (5148, 1004, 5146, 5147), (3152, 1004, 3150, 3151), (4068, 1004, 4066, 4067), (4041, 1004, 4039, 4040), (4025, 1004, 4023, 4024), (3140, 1004, 3138, 3139), (3171, 1004, 3169, 3170), (3188, 1004, 3186, 3187), (3192, 1004, 3191, 3), (3175, 1004, 3174, 2), (3224, 1004, 3222, 3223), (3237, 1004, 3235, 3236), (4010, 1004, 4008, 4009), (4029, 1004, 4027, 4028), (4076, 1004, 4074, 4075), (4201, 1004, 4199, 4200), (4072, 1004, 4070, 4071), (4227, 1004, 4225, 4226), (5045, 1004, 5043, 5044), (4092, 1004, 4090, 4091), (5026, 1004, 5024, 5025), (5021, 1004, 5019, 5020), (4213, 1004, 4211, 4212), (4217, 1004, 4216, 19), (4223, 1004, 4222, 20), (4231, 1004, 4230, 21), (2206, 1012, 2205, 0), (5012, 1012, 5010, 5011), (5017, 1012, 5016, 22), (5067, 1012, 5065, 5066), (5071, 1012, 5069, 5070), (5079, 1012, 5077, 5078), (5075, 1012, 5074, 26), (5083, 1012, 5081, 5082), (5087, 1012, 5086, 27), (5093, 1012, 5092, 28), (1219, 1007, 1218, 0), (4045, 1007, 4043, 4044), (1135, 1006, 1134, 0), (3196, 1006, 3194, 3195), (3200, 1006, 3199, 4), (3213, 1006, 3212, 5), (2078, 1009, 2077, 0), (4096, 1009, 4094, 4095), (4186, 1009, 4185, 17), (4105, 1009, 4104, 7), (4124, 1009, 4122, 4123), (4120, 1009, 4119, 10), (4115, 1009, 4114, 9), (4101, 1009, 4099, 4100), (4130, 1009, 4128, 4129), (4134, 1009, 4133, 11), (4143, 1009, 4141, 4142), (4139, 1009, 4138, 12), (4178, 1009, 4176, 4177), (4182, 1009, 4181, 16), (4190, 1009, 4189, 18), (1128, 1005, 1127, 0), (3144, 1005, 3142, 3143), (3163, 1005, 3161, 3162), (3184, 1005, 3182, 3183), (3180, 1005, 3178, 3179), (4005, 1005, 4003, 4004), (2072, 1008, 2071, 0), (4053, 1008, 4051, 4052), (4084, 1008, 4082, 4083), (4088, 1008, 4087, 6), (4111, 1008, 4110, 8), (4080, 1008, 4078, 4079), (4239, 1008, 4237, 4238), (5127, 1008, 5125, 5126), (4152, 1008, 4150, 4151), (4156, 1008, 4155, 13), (4161, 1008, 4160, 14), (2167, 1010, 2166, 0), (5110, 1010, 5108, 5109), (5122, 1010, 5120, 5121), (3228, 1010, 3226, 3227), (5007, 1010, 5005, 5006), (5054, 1010, 5052, 5053), (5058, 1010, 5056, 5057), (5063, 1010, 5062, 25), (5033, 1010, 5032, 23), (5050, 1010, 5049, 24), (2173, 1011, 2172, 0), (3232, 1011, 3230, 3231), (5040, 1011, 5039, 0), (5098, 1011, 5096, 5097), (5102, 1011, 5101, 29), (5037, 1011, 5035, 5036), (1028, 1002, 1027, 0), (5152, 1002, 5150, 5151), (3102, 1002, 3101, 0), (3081, 1002, 3079, 3080), (3064, 1002, 3062, 3063), (3122, 1002, 3120, 3121), (4016, 1002, 4014, 4015), (3118, 1002, 3116, 3117), (3208, 1002, 3206, 3207), (3077, 1002, 3075, 3076), (3099, 1002, 3097, 3098), (3106, 1002, 3104, 3105), (3068, 1002, 3066, 3067), (3159, 1002, 3157, 3158), (3110, 1002, 3108, 3109), (3072, 1002, 3071, 0), (1020, 1001, 1019, 0), (3060, 1001, 3058, 3059), (3085, 1001, 3083, 3084), (3089, 1001, 3087, 3088), (3114, 1001, 3112, 3113), (3126, 1001, 3124, 3125), (3136, 1001, 3134, 3135), (3148, 1001, 3146, 3147), (3167, 1001, 3165, 3166), (3220, 1001, 3218, 3219), (4001, 1001, 3239, 4000), (4021, 1001, 4019, 4020), (4033, 1001, 4031, 4032), (4037, 1001, 4035, 4036), (4049, 1001, 4047, 4048), (4060, 1001, 4058, 4059), (4064, 1001, 4062, 4063), (4147, 1001, 4145, 4146), (4166, 1001, 4164, 4165), (4170, 1001, 4168, 4169), (4197, 1001, 4195, 4196), (4205, 1001, 4203, 4204), (4209, 1001, 4207, 4208), (4235, 1001, 4233, 4234), (5003, 1001, 5001, 5002), (5106, 1001, 5104, 5105), (5114, 1001, 5112, 5113), (5118, 1001, 5116, 5117), (5133, 1001, 5131, 5132), (5137, 1001, 5135, 5136), (5144, 1001, 5142, 5143), (3132, 1001, 3131, 0), (3129, 1001, 3128, 0), (3155, 1001, 3154, 0), (3094, 1001, 3093, 1), (4174, 1001, 4173, 15), (5157, 1013, 5156, 0), (6191, 1013, 6190, 0), (5162, 1013, 5161, 30), (6175, 1013, 6174, 0), (6207, 1013, 6206, 37), (6179, 1013, 6178, 33), (6183, 1013, 6182, 34), (6172, 1013, 6171, 32), (6168, 1013, 6167, 31), (7086, 1013, 7085, 53), (6199, 1013, 6198, 35), (6164, 1013, 6162, 6163), (6187, 1013, 6185, 6186), (6203, 1013, 6202, 36), (6195, 1013, 6193, 6194), (6211, 1013, 6209, 6210), (6217, 1013, 6215, 6216), (6229, 1013, 6228, 38), (6221, 1013, 6219, 6220), (6225, 1013, 6223, 6224), (6238, 1013, 6237, 39), (7002, 1013, 7001, 40), (6234, 1013, 6232, 6233), (7006, 1013, 7004, 7005), (7054, 1013, 7053, 45), (7018, 1013, 7017, 42), (7014, 1013, 7012, 7013), (7026, 1013, 7025, 43), (7022, 1013, 7020, 7021), (7030, 1013, 7028, 7029), (7034, 1013, 7032, 7033), (7042, 1013, 7041, 44), (7078, 1013, 7077, 51), (7082, 1013, 7081, 52), (7074, 1013, 7073, 50), (7070, 1013, 7069, 49), (7106, 1013, 7105, 58), (7102, 1013, 7101, 57), (7098, 1013, 7097, 56), (7090, 1013, 7089, 54), (7094, 1013, 7093, 55), (7167, 1013, 7166, 67), (7163, 1013, 7162, 66), (7175, 1013, 7174, 69), (7171, 1013, 7170, 68), (7159, 1013, 7158, 65), (7066, 1013, 7065, 48), (7038, 1013, 7036, 7037), (7046, 1013, 7044, 7045), (7058, 1013, 7057, 46), (7062, 1013, 7061, 47), (7050, 1013, 7048, 7049), (7114, 1013, 7113, 59), (7110, 1013, 7108, 7109), (7118, 1013, 7116, 7117), (7131, 1013, 7130, 61), (7135, 1013, 7134, 62), (7139, 1013, 7138, 63), (7143, 1013, 7142, 64), (7127, 1013, 7126, 60), (7122, 1013, 7120, 7121), (7147, 1013, 7145, 7146), (7151, 1013, 7149, 7150), (7155, 1013, 7153, 7154), (7179, 1013, 7177, 7178), (7010, 1013, 7009, 41), (7203, 1013, 7202, 74), (7195, 1013, 7194, 72), (7191, 1013, 7190, 71), (7187, 1013, 7186, 70), (7215, 1013, 7214, 77), (7221, 1013, 7220, 78), (7211, 1013, 7210, 76), (7207, 1013, 7206, 75), (7199, 1013, 7198, 73), (7225, 1013, 7224, 79), (7183, 1013, 7181, 7182), (7229, 1013, 7227, 7228), (7233, 1013, 7231, 7232), (7237, 1013, 7235, 7236), (8002, 1013, 8000, 8001), (8006, 1013, 8004, 8005), (8012, 1013, 8010, 8011), (1032, 1003, 1031, 0), (5140, 1014, 5139, 0), (3216, 1014, 3215, 0), (3204, 1014, 3203, 0)]
def jyck (y : Nat) : Bool := y == 0 || (jck (jm_wp.getD y (0, 0, 0, 0)).2.1 (Cond.initialized (jm_nm y).cls) && (plainName (jm_nm y).cls && (decide ((jm_nm y).cls = jm_cn (jm_own y)) && (decide ((jm_nm y).cls ≠ "java/lang/invoke/MethodHandle") && (decide ((jm_nm y).cls ≠ "java/lang/invoke/VarHandle") && (decide (jm_maxL y ≤ 21) && (!(jm_ini y) || decide ((jm_nm y).name = "<init>"))))))))
theorem jyck_0 : (List.range' 0 12).all jyck = true := by decide +kernel
theorem jyck_1 : (List.range' 12 12).all jyck = true := by decide +kernel
theorem jyck_2 : (List.range' 24 12).all jyck = true := by decide +kernel
theorem jyck_3 : (List.range' 36 12).all jyck = true := by decide +kernel
theorem jyck_4 : (List.range' 48 12).all jyck = true := by decide +kernel
theorem jyck_5 : (List.range' 60 12).all jyck = true := by decide +kernel
theorem jyck_6 : (List.range' 72 12).all jyck = true := by decide +kernel
theorem jyck_7 : (List.range' 84 12).all jyck = true := by decide +kernel
theorem jyck_8 : (List.range' 96 12).all jyck = true := by decide +kernel
theorem jyck_9 : (List.range' 108 12).all jyck = true := by decide +kernel
theorem jyck_10 : (List.range' 120 12).all jyck = true := by decide +kernel
theorem jyck_11 : (List.range' 132 12).all jyck = true := by decide +kernel
theorem jyck_12 : (List.range' 144 12).all jyck = true := by decide +kernel
theorem jyck_13 : (List.range' 156 12).all jyck = true := by decide +kernel
theorem jyck_14 : (List.range' 168 12).all jyck = true := by decide +kernel
theorem jyck_15 : (List.range' 180 12).all jyck = true := by decide +kernel
theorem jyck_16 : (List.range' 192 12).all jyck = true := by decide +kernel
theorem jyck_17 : (List.range' 204 12).all jyck = true := by decide +kernel
theorem jyck_18 : (List.range' 216 12).all jyck = true := by decide +kernel
theorem jyck_all : ∀ y, y < jm_n → jyck y = true := by
  intro y hy
  have hy : y < 228 := hy
  rcases Nat.lt_or_ge y 12 with h | h
  · exact List.all_eq_true.mp jyck_0 y (List.mem_range'_1.mpr ⟨by omega, by omega⟩)
  rcases Nat.lt_or_ge y 24 with h | h
  · exact List.all_eq_true.mp jyck_1 y (List.mem_range'_1.mpr ⟨by omega, by omega⟩)
  rcases Nat.lt_or_ge y 36 with h | h
  · exact List.all_eq_true.mp jyck_2 y (List.mem_range'_1.mpr ⟨by omega, by omega⟩)
  rcases Nat.lt_or_ge y 48 with h | h
  · exact List.all_eq_true.mp jyck_3 y (List.mem_range'_1.mpr ⟨by omega, by omega⟩)
  rcases Nat.lt_or_ge y 60 with h | h
  · exact List.all_eq_true.mp jyck_4 y (List.mem_range'_1.mpr ⟨by omega, by omega⟩)
  rcases Nat.lt_or_ge y 72 with h | h
  · exact List.all_eq_true.mp jyck_5 y (List.mem_range'_1.mpr ⟨by omega, by omega⟩)
  rcases Nat.lt_or_ge y 84 with h | h
  · exact List.all_eq_true.mp jyck_6 y (List.mem_range'_1.mpr ⟨by omega, by omega⟩)
  rcases Nat.lt_or_ge y 96 with h | h
  · exact List.all_eq_true.mp jyck_7 y (List.mem_range'_1.mpr ⟨by omega, by omega⟩)
  rcases Nat.lt_or_ge y 108 with h | h
  · exact List.all_eq_true.mp jyck_8 y (List.mem_range'_1.mpr ⟨by omega, by omega⟩)
  rcases Nat.lt_or_ge y 120 with h | h
  · exact List.all_eq_true.mp jyck_9 y (List.mem_range'_1.mpr ⟨by omega, by omega⟩)
  rcases Nat.lt_or_ge y 132 with h | h
  · exact List.all_eq_true.mp jyck_10 y (List.mem_range'_1.mpr ⟨by omega, by omega⟩)
  rcases Nat.lt_or_ge y 144 with h | h
  · exact List.all_eq_true.mp jyck_11 y (List.mem_range'_1.mpr ⟨by omega, by omega⟩)
  rcases Nat.lt_or_ge y 156 with h | h
  · exact List.all_eq_true.mp jyck_12 y (List.mem_range'_1.mpr ⟨by omega, by omega⟩)
  rcases Nat.lt_or_ge y 168 with h | h
  · exact List.all_eq_true.mp jyck_13 y (List.mem_range'_1.mpr ⟨by omega, by omega⟩)
  rcases Nat.lt_or_ge y 180 with h | h
  · exact List.all_eq_true.mp jyck_14 y (List.mem_range'_1.mpr ⟨by omega, by omega⟩)
  rcases Nat.lt_or_ge y 192 with h | h
  · exact List.all_eq_true.mp jyck_15 y (List.mem_range'_1.mpr ⟨by omega, by omega⟩)
  rcases Nat.lt_or_ge y 204 with h | h
  · exact List.all_eq_true.mp jyck_16 y (List.mem_range'_1.mpr ⟨by omega, by omega⟩)
  rcases Nat.lt_or_ge y 216 with h | h
  · exact List.all_eq_true.mp jyck_17 y (List.mem_range'_1.mpr ⟨by omega, by omega⟩)
  exact List.all_eq_true.mp jyck_18 y (List.mem_range'_1.mpr ⟨by omega, by omega⟩)
end
section
set_option maxRecDepth 100000 in
theorem jwc_1 : Cond.code jq_1.1 jq_1.2.1 jq_1.2.2.1 jq_1.2.2.2.1 ∈ jm_gw := List.mem_filter.mpr ⟨jtabs_ok 1 _ (List.mem_of_getElem? (i := 119) rfl), rfl⟩
set_option maxRecDepth 100000 in
theorem jwc_2 : Cond.code jq_2.1 jq_2.2.1 jq_2.2.2.1 jq_2.2.2.2.1 ∈ jm_gw := List.mem_filter.mpr ⟨jtabs_ok 5 _ (List.mem_of_getElem? (i := 148) rfl), rfl⟩
set_option maxRecDepth 100000 in
theorem jwc_3 : Cond.code jq_3.1 jq_3.2.1 jq_3.2.2.1 jq_3.2.2.2.1 ∈ jm_gw := List.mem_filter.mpr ⟨jtabs_ok 3 _ (List.mem_of_getElem? (i := 152) rfl), rfl⟩
set_option maxRecDepth 100000 in
theorem jwc_4 : Cond.code jq_4.1 jq_4.2.1 jq_4.2.2.1 jq_4.2.2.2.1 ∈ jm_gw := List.mem_filter.mpr ⟨jtabs_ok 4 _ (List.mem_of_getElem? (i := 68) rfl), rfl⟩
set_option maxRecDepth 100000 in
theorem jwc_5 : Cond.code jq_5.1 jq_5.2.1 jq_5.2.2.1 jq_5.2.2.2.1 ∈ jm_gw := List.mem_filter.mpr ⟨jtabs_ok 4 _ (List.mem_of_getElem? (i := 41) rfl), rfl⟩
set_option maxRecDepth 100000 in
theorem jwc_6 : Cond.code jq_6.1 jq_6.2.1 jq_6.2.2.1 jq_6.2.2.2.1 ∈ jm_gw := List.mem_filter.mpr ⟨jtabs_ok 4 _ (List.mem_of_getElem? (i := 25) rfl), rfl⟩
set_option maxRecDepth 100000 in
theorem jwc_7 : Cond.code jq_7.1 jq_7.2.1 jq_7.2.2.1 jq_7.2.2.2.1 ∈ jm_gw := List.mem_filter.mpr ⟨jtabs_ok 3 _ (List.mem_of_getElem? (i := 140) rfl), rfl⟩
set_option maxRecDepth 100000 in
theorem jwc_8 : Cond.code jq_8.1 jq_8.2.1 jq_8.2.2.1 jq_8.2.2.2.1 ∈ jm_gw := List.mem_filter.mpr ⟨jtabs_ok 3 _ (List.mem_of_getElem? (i := 171) rfl), rfl⟩
set_option maxRecDepth 100000 in
theorem jwc_9 : Cond.code jq_9.1 jq_9.2.1 jq_9.2.2.1 jq_9.2.2.2.1 ∈ jm_gw := List.mem_filter.mpr ⟨jtabs_ok 3 _ (List.mem_of_getElem? (i := 188) rfl), rfl⟩
set_option maxRecDepth 100000 in
theorem jwc_10 : Cond.code jq_10.1 jq_10.2.1 jq_10.2.2.1 jq_10.2.2.2.1 ∈ jm_gw := List.mem_filter.mpr ⟨jtabs_ok 3 _ (List.mem_of_getElem? (i := 192) rfl), rfl⟩
set_option maxRecDepth 100000 in
theorem jwc_11 : Cond.code jq_11.1 jq_11.2.1 jq_11.2.2.1 jq_11.2.2.2.1 ∈ jm_gw := List.mem_filter.mpr ⟨jtabs_ok 3 _ (List.mem_of_getElem? (i := 175) rfl), rfl⟩
set_option maxRecDepth 100000 in
theorem jwc_12 : Cond.code jq_12.1 jq_12.2.1 jq_12.2.2.1 jq_12.2.2.2.1 ∈ jm_gw := List.mem_filter.mpr ⟨jtabs_ok 3 _ (List.mem_of_getElem? (i := 224) rfl), rfl⟩
set_option maxRecDepth 100000 in
theorem jwc_13 : Cond.code jq_13.1 jq_13.2.1 jq_13.2.2.1 jq_13.2.2.2.1 ∈ jm_gw := List.mem_filter.mpr ⟨jtabs_ok 3 _ (List.mem_of_getElem? (i := 237) rfl), rfl⟩
set_option maxRecDepth 100000 in
theorem jwc_14 : Cond.code jq_14.1 jq_14.2.1 jq_14.2.2.1 jq_14.2.2.2.1 ∈ jm_gw := List.mem_filter.mpr ⟨jtabs_ok 4 _ (List.mem_of_getElem? (i := 10) rfl), rfl⟩
set_option maxRecDepth 100000 in
theorem jwc_15 : Cond.code jq_15.1 jq_15.2.1 jq_15.2.2.1 jq_15.2.2.2.1 ∈ jm_gw := List.mem_filter.mpr ⟨jtabs_ok 4 _ (List.mem_of_getElem? (i := 29) rfl), rfl⟩
set_option maxRecDepth 100000 in
theorem jwc_16 : Cond.code jq_16.1 jq_16.2.1 jq_16.2.2.1 jq_16.2.2.2.1 ∈ jm_gw := List.mem_filter.mpr ⟨jtabs_ok 4 _ (List.mem_of_getElem? (i := 76) rfl), rfl⟩
set_option maxRecDepth 100000 in
theorem jwc_17 : Cond.code jq_17.1 jq_17.2.1 jq_17.2.2.1 jq_17.2.2.2.1 ∈ jm_gw := List.mem_filter.mpr ⟨jtabs_ok 4 _ (List.mem_of_getElem? (i := 201) rfl), rfl⟩
set_option maxRecDepth 100000 in
theorem jwc_18 : Cond.code jq_18.1 jq_18.2.1 jq_18.2.2.1 jq_18.2.2.2.1 ∈ jm_gw := List.mem_filter.mpr ⟨jtabs_ok 4 _ (List.mem_of_getElem? (i := 72) rfl), rfl⟩
set_option maxRecDepth 100000 in
theorem jwc_19 : Cond.code jq_19.1 jq_19.2.1 jq_19.2.2.1 jq_19.2.2.2.1 ∈ jm_gw := List.mem_filter.mpr ⟨jtabs_ok 4 _ (List.mem_of_getElem? (i := 227) rfl), rfl⟩
set_option maxRecDepth 100000 in
theorem jwc_20 : Cond.code jq_20.1 jq_20.2.1 jq_20.2.2.1 jq_20.2.2.2.1 ∈ jm_gw := List.mem_filter.mpr ⟨jtabs_ok 5 _ (List.mem_of_getElem? (i := 45) rfl), rfl⟩
set_option maxRecDepth 100000 in
theorem jwc_21 : Cond.code jq_21.1 jq_21.2.1 jq_21.2.2.1 jq_21.2.2.2.1 ∈ jm_gw := List.mem_filter.mpr ⟨jtabs_ok 4 _ (List.mem_of_getElem? (i := 92) rfl), rfl⟩
set_option maxRecDepth 100000 in
theorem jwc_22 : Cond.code jq_22.1 jq_22.2.1 jq_22.2.2.1 jq_22.2.2.2.1 ∈ jm_gw := List.mem_filter.mpr ⟨jtabs_ok 5 _ (List.mem_of_getElem? (i := 26) rfl), rfl⟩
set_option maxRecDepth 100000 in
theorem jwc_23 : Cond.code jq_23.1 jq_23.2.1 jq_23.2.2.1 jq_23.2.2.2.1 ∈ jm_gw := List.mem_filter.mpr ⟨jtabs_ok 5 _ (List.mem_of_getElem? (i := 21) rfl), rfl⟩
set_option maxRecDepth 100000 in
theorem jwc_24 : Cond.code jq_24.1 jq_24.2.1 jq_24.2.2.1 jq_24.2.2.2.1 ∈ jm_gw := List.mem_filter.mpr ⟨jtabs_ok 4 _ (List.mem_of_getElem? (i := 213) rfl), rfl⟩
set_option maxRecDepth 100000 in
theorem jwc_25 : Cond.code jq_25.1 jq_25.2.1 jq_25.2.2.1 jq_25.2.2.2.1 ∈ jm_gw := List.mem_filter.mpr ⟨jtabs_ok 4 _ (List.mem_of_getElem? (i := 217) rfl), rfl⟩
set_option maxRecDepth 100000 in
theorem jwc_26 : Cond.code jq_26.1 jq_26.2.1 jq_26.2.2.1 jq_26.2.2.2.1 ∈ jm_gw := List.mem_filter.mpr ⟨jtabs_ok 4 _ (List.mem_of_getElem? (i := 223) rfl), rfl⟩
set_option maxRecDepth 100000 in
theorem jwc_27 : Cond.code jq_27.1 jq_27.2.1 jq_27.2.2.1 jq_27.2.2.2.1 ∈ jm_gw := List.mem_filter.mpr ⟨jtabs_ok 4 _ (List.mem_of_getElem? (i := 231) rfl), rfl⟩
set_option maxRecDepth 100000 in
theorem jwc_28 : Cond.code jq_28.1 jq_28.2.1 jq_28.2.2.1 jq_28.2.2.2.1 ∈ jm_gw := List.mem_filter.mpr ⟨jtabs_ok 2 _ (List.mem_of_getElem? (i := 206) rfl), rfl⟩
set_option maxRecDepth 100000 in
theorem jwc_29 : Cond.code jq_29.1 jq_29.2.1 jq_29.2.2.1 jq_29.2.2.2.1 ∈ jm_gw := List.mem_filter.mpr ⟨jtabs_ok 5 _ (List.mem_of_getElem? (i := 12) rfl), rfl⟩
set_option maxRecDepth 100000 in
theorem jwc_30 : Cond.code jq_30.1 jq_30.2.1 jq_30.2.2.1 jq_30.2.2.2.1 ∈ jm_gw := List.mem_filter.mpr ⟨jtabs_ok 5 _ (List.mem_of_getElem? (i := 17) rfl), rfl⟩
set_option maxRecDepth 100000 in
theorem jwc_31 : Cond.code jq_31.1 jq_31.2.1 jq_31.2.2.1 jq_31.2.2.2.1 ∈ jm_gw := List.mem_filter.mpr ⟨jtabs_ok 5 _ (List.mem_of_getElem? (i := 67) rfl), rfl⟩
set_option maxRecDepth 100000 in
theorem jwc_32 : Cond.code jq_32.1 jq_32.2.1 jq_32.2.2.1 jq_32.2.2.2.1 ∈ jm_gw := List.mem_filter.mpr ⟨jtabs_ok 5 _ (List.mem_of_getElem? (i := 71) rfl), rfl⟩
set_option maxRecDepth 100000 in
theorem jwc_33 : Cond.code jq_33.1 jq_33.2.1 jq_33.2.2.1 jq_33.2.2.2.1 ∈ jm_gw := List.mem_filter.mpr ⟨jtabs_ok 5 _ (List.mem_of_getElem? (i := 79) rfl), rfl⟩
set_option maxRecDepth 100000 in
theorem jwc_34 : Cond.code jq_34.1 jq_34.2.1 jq_34.2.2.1 jq_34.2.2.2.1 ∈ jm_gw := List.mem_filter.mpr ⟨jtabs_ok 5 _ (List.mem_of_getElem? (i := 75) rfl), rfl⟩
set_option maxRecDepth 100000 in
theorem jwc_35 : Cond.code jq_35.1 jq_35.2.1 jq_35.2.2.1 jq_35.2.2.2.1 ∈ jm_gw := List.mem_filter.mpr ⟨jtabs_ok 5 _ (List.mem_of_getElem? (i := 83) rfl), rfl⟩
set_option maxRecDepth 100000 in
theorem jwc_36 : Cond.code jq_36.1 jq_36.2.1 jq_36.2.2.1 jq_36.2.2.2.1 ∈ jm_gw := List.mem_filter.mpr ⟨jtabs_ok 5 _ (List.mem_of_getElem? (i := 87) rfl), rfl⟩
set_option maxRecDepth 100000 in
theorem jwc_37 : Cond.code jq_37.1 jq_37.2.1 jq_37.2.2.1 jq_37.2.2.2.1 ∈ jm_gw := List.mem_filter.mpr ⟨jtabs_ok 5 _ (List.mem_of_getElem? (i := 93) rfl), rfl⟩
set_option maxRecDepth 100000 in
theorem jwc_38 : Cond.code jq_38.1 jq_38.2.1 jq_38.2.2.1 jq_38.2.2.2.1 ∈ jm_gw := List.mem_filter.mpr ⟨jtabs_ok 1 _ (List.mem_of_getElem? (i := 219) rfl), rfl⟩
set_option maxRecDepth 100000 in
theorem jwc_39 : Cond.code jq_39.1 jq_39.2.1 jq_39.2.2.1 jq_39.2.2.2.1 ∈ jm_gw := List.mem_filter.mpr ⟨jtabs_ok 4 _ (List.mem_of_getElem? (i := 45) rfl), rfl⟩
set_option maxRecDepth 100000 in
theorem jwc_40 : Cond.code jq_40.1 jq_40.2.1 jq_40.2.2.1 jq_40.2.2.2.1 ∈ jm_gw := List.mem_filter.mpr ⟨jtabs_ok 1 _ (List.mem_of_getElem? (i := 135) rfl), rfl⟩
set_option maxRecDepth 100000 in
theorem jwc_41 : Cond.code jq_41.1 jq_41.2.1 jq_41.2.2.1 jq_41.2.2.2.1 ∈ jm_gw := List.mem_filter.mpr ⟨jtabs_ok 3 _ (List.mem_of_getElem? (i := 196) rfl), rfl⟩
set_option maxRecDepth 100000 in
theorem jwc_42 : Cond.code jq_42.1 jq_42.2.1 jq_42.2.2.1 jq_42.2.2.2.1 ∈ jm_gw := List.mem_filter.mpr ⟨jtabs_ok 3 _ (List.mem_of_getElem? (i := 200) rfl), rfl⟩
set_option maxRecDepth 100000 in
theorem jwc_43 : Cond.code jq_43.1 jq_43.2.1 jq_43.2.2.1 jq_43.2.2.2.1 ∈ jm_gw := List.mem_filter.mpr ⟨jtabs_ok 3 _ (List.mem_of_getElem? (i := 213) rfl), rfl⟩
set_option maxRecDepth 100000 in
theorem jwc_44 : Cond.code jq_44.1 jq_44.2.1 jq_44.2.2.1 jq_44.2.2.2.1 ∈ jm_gw := List.mem_filter.mpr ⟨jtabs_ok 2 _ (List.mem_of_getElem? (i := 78) rfl), rfl⟩
set_option maxRecDepth 100000 in
theorem jwc_45 : Cond.code jq_45.1 jq_45.2.1 jq_45.2.2.1 jq_45.2.2.2.1 ∈ jm_gw := List.mem_filter.mpr ⟨jtabs_ok 4 _ (List.mem_of_getElem? (i := 96) rfl), rfl⟩
set_option maxRecDepth 100000 in
theorem jwc_46 : Cond.code jq_46.1 jq_46.2.1 jq_46.2.2.1 jq_46.2.2.2.1 ∈ jm_gw := List.mem_filter.mpr ⟨jtabs_ok 4 _ (List.mem_of_getElem? (i := 186) rfl), rfl⟩
set_option maxRecDepth 100000 in
theorem jwc_47 : Cond.code jq_47.1 jq_47.2.1 jq_47.2.2.1 jq_47.2.2.2.1 ∈ jm_gw := List.mem_filter.mpr ⟨jtabs_ok 4 _ (List.mem_of_getElem? (i := 105) rfl), rfl⟩
set_option maxRecDepth 100000 in
theorem jwc_48 : Cond.code jq_48.1 jq_48.2.1 jq_48.2.2.1 jq_48.2.2.2.1 ∈ jm_gw := List.mem_filter.mpr ⟨jtabs_ok 4 _ (List.mem_of_getElem? (i := 124) rfl), rfl⟩
set_option maxRecDepth 100000 in
theorem jwc_49 : Cond.code jq_49.1 jq_49.2.1 jq_49.2.2.1 jq_49.2.2.2.1 ∈ jm_gw := List.mem_filter.mpr ⟨jtabs_ok 4 _ (List.mem_of_getElem? (i := 120) rfl), rfl⟩
set_option maxRecDepth 100000 in
theorem jwc_50 : Cond.code jq_50.1 jq_50.2.1 jq_50.2.2.1 jq_50.2.2.2.1 ∈ jm_gw := List.mem_filter.mpr ⟨jtabs_ok 4 _ (List.mem_of_getElem? (i := 115) rfl), rfl⟩
set_option maxRecDepth 100000 in
theorem jwc_51 : Cond.code jq_51.1 jq_51.2.1 jq_51.2.2.1 jq_51.2.2.2.1 ∈ jm_gw := List.mem_filter.mpr ⟨jtabs_ok 4 _ (List.mem_of_getElem? (i := 101) rfl), rfl⟩
set_option maxRecDepth 100000 in
theorem jwc_52 : Cond.code jq_52.1 jq_52.2.1 jq_52.2.2.1 jq_52.2.2.2.1 ∈ jm_gw := List.mem_filter.mpr ⟨jtabs_ok 4 _ (List.mem_of_getElem? (i := 130) rfl), rfl⟩
set_option maxRecDepth 100000 in
theorem jwc_53 : Cond.code jq_53.1 jq_53.2.1 jq_53.2.2.1 jq_53.2.2.2.1 ∈ jm_gw := List.mem_filter.mpr ⟨jtabs_ok 4 _ (List.mem_of_getElem? (i := 134) rfl), rfl⟩
set_option maxRecDepth 100000 in
theorem jwc_54 : Cond.code jq_54.1 jq_54.2.1 jq_54.2.2.1 jq_54.2.2.2.1 ∈ jm_gw := List.mem_filter.mpr ⟨jtabs_ok 4 _ (List.mem_of_getElem? (i := 143) rfl), rfl⟩
set_option maxRecDepth 100000 in
theorem jwc_55 : Cond.code jq_55.1 jq_55.2.1 jq_55.2.2.1 jq_55.2.2.2.1 ∈ jm_gw := List.mem_filter.mpr ⟨jtabs_ok 4 _ (List.mem_of_getElem? (i := 139) rfl), rfl⟩
set_option maxRecDepth 100000 in
theorem jwc_56 : Cond.code jq_56.1 jq_56.2.1 jq_56.2.2.1 jq_56.2.2.2.1 ∈ jm_gw := List.mem_filter.mpr ⟨jtabs_ok 4 _ (List.mem_of_getElem? (i := 178) rfl), rfl⟩
set_option maxRecDepth 100000 in
theorem jwc_57 : Cond.code jq_57.1 jq_57.2.1 jq_57.2.2.1 jq_57.2.2.2.1 ∈ jm_gw := List.mem_filter.mpr ⟨jtabs_ok 4 _ (List.mem_of_getElem? (i := 182) rfl), rfl⟩
set_option maxRecDepth 100000 in
theorem jwc_58 : Cond.code jq_58.1 jq_58.2.1 jq_58.2.2.1 jq_58.2.2.2.1 ∈ jm_gw := List.mem_filter.mpr ⟨jtabs_ok 4 _ (List.mem_of_getElem? (i := 190) rfl), rfl⟩
set_option maxRecDepth 100000 in
theorem jwc_59 : Cond.code jq_59.1 jq_59.2.1 jq_59.2.2.1 jq_59.2.2.2.1 ∈ jm_gw := List.mem_filter.mpr ⟨jtabs_ok 1 _ (List.mem_of_getElem? (i := 128) rfl), rfl⟩
set_option maxRecDepth 100000 in
theorem jwc_60 : Cond.code jq_60.1 jq_60.2.1 jq_60.2.2.1 jq_60.2.2.2.1 ∈ jm_gw := List.mem_filter.mpr ⟨jtabs_ok 3 _ (List.mem_of_getElem? (i := 144) rfl), rfl⟩
set_option maxRecDepth 100000 in
theorem jwc_61 : Cond.code jq_61.1 jq_61.2.1 jq_61.2.2.1 jq_61.2.2.2.1 ∈ jm_gw := List.mem_filter.mpr ⟨jtabs_ok 3 _ (List.mem_of_getElem? (i := 163) rfl), rfl⟩
set_option maxRecDepth 100000 in
theorem jwc_62 : Cond.code jq_62.1 jq_62.2.1 jq_62.2.2.1 jq_62.2.2.2.1 ∈ jm_gw := List.mem_filter.mpr ⟨jtabs_ok 3 _ (List.mem_of_getElem? (i := 184) rfl), rfl⟩
set_option maxRecDepth 100000 in
theorem jwc_63 : Cond.code jq_63.1 jq_63.2.1 jq_63.2.2.1 jq_63.2.2.2.1 ∈ jm_gw := List.mem_filter.mpr ⟨jtabs_ok 3 _ (List.mem_of_getElem? (i := 180) rfl), rfl⟩
set_option maxRecDepth 100000 in
theorem jwc_64 : Cond.code jq_64.1 jq_64.2.1 jq_64.2.2.1 jq_64.2.2.2.1 ∈ jm_gw := List.mem_filter.mpr ⟨jtabs_ok 4 _ (List.mem_of_getElem? (i := 5) rfl), rfl⟩
set_option maxRecDepth 100000 in
theorem jwc_65 : Cond.code jq_65.1 jq_65.2.1 jq_65.2.2.1 jq_65.2.2.2.1 ∈ jm_gw := List.mem_filter.mpr ⟨jtabs_ok 2 _ (List.mem_of_getElem? (i := 72) rfl), rfl⟩
set_option maxRecDepth 100000 in
theorem jwc_66 : Cond.code jq_66.1 jq_66.2.1 jq_66.2.2.1 jq_66.2.2.2.1 ∈ jm_gw := List.mem_filter.mpr ⟨jtabs_ok 4 _ (List.mem_of_getElem? (i := 53) rfl), rfl⟩
set_option maxRecDepth 100000 in
theorem jwc_67 : Cond.code jq_67.1 jq_67.2.1 jq_67.2.2.1 jq_67.2.2.2.1 ∈ jm_gw := List.mem_filter.mpr ⟨jtabs_ok 4 _ (List.mem_of_getElem? (i := 84) rfl), rfl⟩
set_option maxRecDepth 100000 in
theorem jwc_68 : Cond.code jq_68.1 jq_68.2.1 jq_68.2.2.1 jq_68.2.2.2.1 ∈ jm_gw := List.mem_filter.mpr ⟨jtabs_ok 4 _ (List.mem_of_getElem? (i := 88) rfl), rfl⟩
set_option maxRecDepth 100000 in
theorem jwc_69 : Cond.code jq_69.1 jq_69.2.1 jq_69.2.2.1 jq_69.2.2.2.1 ∈ jm_gw := List.mem_filter.mpr ⟨jtabs_ok 4 _ (List.mem_of_getElem? (i := 111) rfl), rfl⟩
set_option maxRecDepth 100000 in
theorem jwc_70 : Cond.code jq_70.1 jq_70.2.1 jq_70.2.2.1 jq_70.2.2.2.1 ∈ jm_gw := List.mem_filter.mpr ⟨jtabs_ok 4 _ (List.mem_of_getElem? (i := 80) rfl), rfl⟩
set_option maxRecDepth 100000 in
theorem jwc_71 : Cond.code jq_71.1 jq_71.2.1 jq_71.2.2.1 jq_71.2.2.2.1 ∈ jm_gw := List.mem_filter.mpr ⟨jtabs_ok 4 _ (List.mem_of_getElem? (i := 239) rfl), rfl⟩
set_option maxRecDepth 100000 in
theorem jwc_72 : Cond.code jq_72.1 jq_72.2.1 jq_72.2.2.1 jq_72.2.2.2.1 ∈ jm_gw := List.mem_filter.mpr ⟨jtabs_ok 5 _ (List.mem_of_getElem? (i := 127) rfl), rfl⟩
set_option maxRecDepth 100000 in
theorem jwc_73 : Cond.code jq_73.1 jq_73.2.1 jq_73.2.2.1 jq_73.2.2.2.1 ∈ jm_gw := List.mem_filter.mpr ⟨jtabs_ok 4 _ (List.mem_of_getElem? (i := 152) rfl), rfl⟩
set_option maxRecDepth 100000 in
theorem jwc_74 : Cond.code jq_74.1 jq_74.2.1 jq_74.2.2.1 jq_74.2.2.2.1 ∈ jm_gw := List.mem_filter.mpr ⟨jtabs_ok 4 _ (List.mem_of_getElem? (i := 156) rfl), rfl⟩
set_option maxRecDepth 100000 in
theorem jwc_75 : Cond.code jq_75.1 jq_75.2.1 jq_75.2.2.1 jq_75.2.2.2.1 ∈ jm_gw := List.mem_filter.mpr ⟨jtabs_ok 4 _ (List.mem_of_getElem? (i := 161) rfl), rfl⟩
set_option maxRecDepth 100000 in
theorem jwc_76 : Cond.code jq_76.1 jq_76.2.1 jq_76.2.2.1 jq_76.2.2.2.1 ∈ jm_gw := List.mem_filter.mpr ⟨jtabs_ok 2 _ (List.mem_of_getElem? (i := 167) rfl), rfl⟩
set_option maxRecDepth 100000 in
theorem jwc_77 : Cond.code jq_77.1 jq_77.2.1 jq_77.2.2.1 jq_77.2.2.2.1 ∈ jm_gw := List.mem_filter.mpr ⟨jtabs_ok 5 _ (List.mem_of_getElem? (i := 110) rfl), rfl⟩
set_option maxRecDepth 100000 in
theorem jwc_78 : Cond.code jq_78.1 jq_78.2.1 jq_78.2.2.1 jq_78.2.2.2.1 ∈ jm_gw := List.mem_filter.mpr ⟨jtabs_ok 5 _ (List.mem_of_getElem? (i := 122) rfl), rfl⟩
set_option maxRecDepth 100000 in
theorem jwc_79 : Cond.code jq_79.1 jq_79.2.1 jq_79.2.2.1 jq_79.2.2.2.1 ∈ jm_gw := List.mem_filter.mpr ⟨jtabs_ok 3 _ (List.mem_of_getElem? (i := 228) rfl), rfl⟩
set_option maxRecDepth 100000 in
theorem jwc_80 : Cond.code jq_80.1 jq_80.2.1 jq_80.2.2.1 jq_80.2.2.2.1 ∈ jm_gw := List.mem_filter.mpr ⟨jtabs_ok 5 _ (List.mem_of_getElem? (i := 7) rfl), rfl⟩
end
section
set_option maxRecDepth 100000 in
theorem jwc_81 : Cond.code jq_81.1 jq_81.2.1 jq_81.2.2.1 jq_81.2.2.2.1 ∈ jm_gw := List.mem_filter.mpr ⟨jtabs_ok 5 _ (List.mem_of_getElem? (i := 54) rfl), rfl⟩
set_option maxRecDepth 100000 in
theorem jwc_82 : Cond.code jq_82.1 jq_82.2.1 jq_82.2.2.1 jq_82.2.2.2.1 ∈ jm_gw := List.mem_filter.mpr ⟨jtabs_ok 5 _ (List.mem_of_getElem? (i := 58) rfl), rfl⟩
set_option maxRecDepth 100000 in
theorem jwc_83 : Cond.code jq_83.1 jq_83.2.1 jq_83.2.2.1 jq_83.2.2.2.1 ∈ jm_gw := List.mem_filter.mpr ⟨jtabs_ok 5 _ (List.mem_of_getElem? (i := 63) rfl), rfl⟩
set_option maxRecDepth 100000 in
theorem jwc_84 : Cond.code jq_84.1 jq_84.2.1 jq_84.2.2.1 jq_84.2.2.2.1 ∈ jm_gw := List.mem_filter.mpr ⟨jtabs_ok 5 _ (List.mem_of_getElem? (i := 33) rfl), rfl⟩
set_option maxRecDepth 100000 in
theorem jwc_85 : Cond.code jq_85.1 jq_85.2.1 jq_85.2.2.1 jq_85.2.2.2.1 ∈ jm_gw := List.mem_filter.mpr ⟨jtabs_ok 5 _ (List.mem_of_getElem? (i := 50) rfl), rfl⟩
set_option maxRecDepth 100000 in
theorem jwc_86 : Cond.code jq_86.1 jq_86.2.1 jq_86.2.2.1 jq_86.2.2.2.1 ∈ jm_gw := List.mem_filter.mpr ⟨jtabs_ok 2 _ (List.mem_of_getElem? (i := 173) rfl), rfl⟩
set_option maxRecDepth 100000 in
theorem jwc_87 : Cond.code jq_87.1 jq_87.2.1 jq_87.2.2.1 jq_87.2.2.2.1 ∈ jm_gw := List.mem_filter.mpr ⟨jtabs_ok 3 _ (List.mem_of_getElem? (i := 232) rfl), rfl⟩
set_option maxRecDepth 100000 in
theorem jwc_88 : Cond.code jq_88.1 jq_88.2.1 jq_88.2.2.1 jq_88.2.2.2.1 ∈ jm_gw := List.mem_filter.mpr ⟨jtabs_ok 5 _ (List.mem_of_getElem? (i := 40) rfl), rfl⟩
set_option maxRecDepth 100000 in
theorem jwc_89 : Cond.code jq_89.1 jq_89.2.1 jq_89.2.2.1 jq_89.2.2.2.1 ∈ jm_gw := List.mem_filter.mpr ⟨jtabs_ok 5 _ (List.mem_of_getElem? (i := 98) rfl), rfl⟩
set_option maxRecDepth 100000 in
theorem jwc_90 : Cond.code jq_90.1 jq_90.2.1 jq_90.2.2.1 jq_90.2.2.2.1 ∈ jm_gw := List.mem_filter.mpr ⟨jtabs_ok 5 _ (List.mem_of_getElem? (i := 102) rfl), rfl⟩
set_option maxRecDepth 100000 in
theorem jwc_91 : Cond.code jq_91.1 jq_91.2.1 jq_91.2.2.1 jq_91.2.2.2.1 ∈ jm_gw := List.mem_filter.mpr ⟨jtabs_ok 5 _ (List.mem_of_getElem? (i := 37) rfl), rfl⟩
set_option maxRecDepth 100000 in
theorem jwc_92 : Cond.code jq_92.1 jq_92.2.1 jq_92.2.2.1 jq_92.2.2.2.1 ∈ jm_gw := List.mem_filter.mpr ⟨jtabs_ok 1 _ (List.mem_of_getElem? (i := 28) rfl), rfl⟩
set_option maxRecDepth 100000 in
theorem jwc_93 : Cond.code jq_93.1 jq_93.2.1 jq_93.2.2.1 jq_93.2.2.2.1 ∈ jm_gw := List.mem_filter.mpr ⟨jtabs_ok 5 _ (List.mem_of_getElem? (i := 152) rfl), rfl⟩
set_option maxRecDepth 100000 in
theorem jwc_94 : Cond.code jq_94.1 jq_94.2.1 jq_94.2.2.1 jq_94.2.2.2.1 ∈ jm_gw := List.mem_filter.mpr ⟨jtabs_ok 3 _ (List.mem_of_getElem? (i := 102) rfl), rfl⟩
set_option maxRecDepth 100000 in
theorem jwc_95 : Cond.code jq_95.1 jq_95.2.1 jq_95.2.2.1 jq_95.2.2.2.1 ∈ jm_gw := List.mem_filter.mpr ⟨jtabs_ok 3 _ (List.mem_of_getElem? (i := 81) rfl), rfl⟩
set_option maxRecDepth 100000 in
theorem jwc_96 : Cond.code jq_96.1 jq_96.2.1 jq_96.2.2.1 jq_96.2.2.2.1 ∈ jm_gw := List.mem_filter.mpr ⟨jtabs_ok 3 _ (List.mem_of_getElem? (i := 64) rfl), rfl⟩
set_option maxRecDepth 100000 in
theorem jwc_97 : Cond.code jq_97.1 jq_97.2.1 jq_97.2.2.1 jq_97.2.2.2.1 ∈ jm_gw := List.mem_filter.mpr ⟨jtabs_ok 3 _ (List.mem_of_getElem? (i := 122) rfl), rfl⟩
set_option maxRecDepth 100000 in
theorem jwc_98 : Cond.code jq_98.1 jq_98.2.1 jq_98.2.2.1 jq_98.2.2.2.1 ∈ jm_gw := List.mem_filter.mpr ⟨jtabs_ok 4 _ (List.mem_of_getElem? (i := 16) rfl), rfl⟩
set_option maxRecDepth 100000 in
theorem jwc_99 : Cond.code jq_99.1 jq_99.2.1 jq_99.2.2.1 jq_99.2.2.2.1 ∈ jm_gw := List.mem_filter.mpr ⟨jtabs_ok 3 _ (List.mem_of_getElem? (i := 118) rfl), rfl⟩
set_option maxRecDepth 100000 in
theorem jwc_100 : Cond.code jq_100.1 jq_100.2.1 jq_100.2.2.1 jq_100.2.2.2.1 ∈ jm_gw := List.mem_filter.mpr ⟨jtabs_ok 3 _ (List.mem_of_getElem? (i := 208) rfl), rfl⟩
set_option maxRecDepth 100000 in
theorem jwc_101 : Cond.code jq_101.1 jq_101.2.1 jq_101.2.2.1 jq_101.2.2.2.1 ∈ jm_gw := List.mem_filter.mpr ⟨jtabs_ok 3 _ (List.mem_of_getElem? (i := 77) rfl), rfl⟩
set_option maxRecDepth 100000 in
theorem jwc_102 : Cond.code jq_102.1 jq_102.2.1 jq_102.2.2.1 jq_102.2.2.2.1 ∈ jm_gw := List.mem_filter.mpr ⟨jtabs_ok 3 _ (List.mem_of_getElem? (i := 99) rfl), rfl⟩
set_option maxRecDepth 100000 in
theorem jwc_103 : Cond.code jq_103.1 jq_103.2.1 jq_103.2.2.1 jq_103.2.2.2.1 ∈ jm_gw := List.mem_filter.mpr ⟨jtabs_ok 3 _ (List.mem_of_getElem? (i := 106) rfl), rfl⟩
set_option maxRecDepth 100000 in
theorem jwc_104 : Cond.code jq_104.1 jq_104.2.1 jq_104.2.2.1 jq_104.2.2.2.1 ∈ jm_gw := List.mem_filter.mpr ⟨jtabs_ok 3 _ (List.mem_of_getElem? (i := 68) rfl), rfl⟩
set_option maxRecDepth 100000 in
theorem jwc_105 : Cond.code jq_105.1 jq_105.2.1 jq_105.2.2.1 jq_105.2.2.2.1 ∈ jm_gw := List.mem_filter.mpr ⟨jtabs_ok 3 _ (List.mem_of_getElem? (i := 159) rfl), rfl⟩
set_option maxRecDepth 100000 in
theorem jwc_106 : Cond.code jq_106.1 jq_106.2.1 jq_106.2.2.1 jq_106.2.2.2.1 ∈ jm_gw := List.mem_filter.mpr ⟨jtabs_ok 3 _ (List.mem_of_getElem? (i := 110) rfl), rfl⟩
set_option maxRecDepth 100000 in
theorem jwc_107 : Cond.code jq_107.1 jq_107.2.1 jq_107.2.2.1 jq_107.2.2.2.1 ∈ jm_gw := List.mem_filter.mpr ⟨jtabs_ok 3 _ (List.mem_of_getElem? (i := 72) rfl), rfl⟩
set_option maxRecDepth 100000 in
theorem jwc_108 : Cond.code jq_108.1 jq_108.2.1 jq_108.2.2.1 jq_108.2.2.2.1 ∈ jm_gw := List.mem_filter.mpr ⟨jtabs_ok 1 _ (List.mem_of_getElem? (i := 20) rfl), rfl⟩
set_option maxRecDepth 100000 in
theorem jwc_109 : Cond.code jq_109.1 jq_109.2.1 jq_109.2.2.1 jq_109.2.2.2.1 ∈ jm_gw := List.mem_filter.mpr ⟨jtabs_ok 3 _ (List.mem_of_getElem? (i := 60) rfl), rfl⟩
set_option maxRecDepth 100000 in
theorem jwc_110 : Cond.code jq_110.1 jq_110.2.1 jq_110.2.2.1 jq_110.2.2.2.1 ∈ jm_gw := List.mem_filter.mpr ⟨jtabs_ok 3 _ (List.mem_of_getElem? (i := 85) rfl), rfl⟩
set_option maxRecDepth 100000 in
theorem jwc_111 : Cond.code jq_111.1 jq_111.2.1 jq_111.2.2.1 jq_111.2.2.2.1 ∈ jm_gw := List.mem_filter.mpr ⟨jtabs_ok 3 _ (List.mem_of_getElem? (i := 89) rfl), rfl⟩
set_option maxRecDepth 100000 in
theorem jwc_112 : Cond.code jq_112.1 jq_112.2.1 jq_112.2.2.1 jq_112.2.2.2.1 ∈ jm_gw := List.mem_filter.mpr ⟨jtabs_ok 3 _ (List.mem_of_getElem? (i := 114) rfl), rfl⟩
set_option maxRecDepth 100000 in
theorem jwc_113 : Cond.code jq_113.1 jq_113.2.1 jq_113.2.2.1 jq_113.2.2.2.1 ∈ jm_gw := List.mem_filter.mpr ⟨jtabs_ok 3 _ (List.mem_of_getElem? (i := 126) rfl), rfl⟩
set_option maxRecDepth 100000 in
theorem jwc_114 : Cond.code jq_114.1 jq_114.2.1 jq_114.2.2.1 jq_114.2.2.2.1 ∈ jm_gw := List.mem_filter.mpr ⟨jtabs_ok 3 _ (List.mem_of_getElem? (i := 136) rfl), rfl⟩
set_option maxRecDepth 100000 in
theorem jwc_115 : Cond.code jq_115.1 jq_115.2.1 jq_115.2.2.1 jq_115.2.2.2.1 ∈ jm_gw := List.mem_filter.mpr ⟨jtabs_ok 3 _ (List.mem_of_getElem? (i := 148) rfl), rfl⟩
set_option maxRecDepth 100000 in
theorem jwc_116 : Cond.code jq_116.1 jq_116.2.1 jq_116.2.2.1 jq_116.2.2.2.1 ∈ jm_gw := List.mem_filter.mpr ⟨jtabs_ok 3 _ (List.mem_of_getElem? (i := 167) rfl), rfl⟩
set_option maxRecDepth 100000 in
theorem jwc_117 : Cond.code jq_117.1 jq_117.2.1 jq_117.2.2.1 jq_117.2.2.2.1 ∈ jm_gw := List.mem_filter.mpr ⟨jtabs_ok 3 _ (List.mem_of_getElem? (i := 220) rfl), rfl⟩
set_option maxRecDepth 100000 in
theorem jwc_118 : Cond.code jq_118.1 jq_118.2.1 jq_118.2.2.1 jq_118.2.2.2.1 ∈ jm_gw := List.mem_filter.mpr ⟨jtabs_ok 4 _ (List.mem_of_getElem? (i := 1) rfl), rfl⟩
set_option maxRecDepth 100000 in
theorem jwc_119 : Cond.code jq_119.1 jq_119.2.1 jq_119.2.2.1 jq_119.2.2.2.1 ∈ jm_gw := List.mem_filter.mpr ⟨jtabs_ok 4 _ (List.mem_of_getElem? (i := 21) rfl), rfl⟩
set_option maxRecDepth 100000 in
theorem jwc_120 : Cond.code jq_120.1 jq_120.2.1 jq_120.2.2.1 jq_120.2.2.2.1 ∈ jm_gw := List.mem_filter.mpr ⟨jtabs_ok 4 _ (List.mem_of_getElem? (i := 33) rfl), rfl⟩
set_option maxRecDepth 100000 in
theorem jwc_121 : Cond.code jq_121.1 jq_121.2.1 jq_121.2.2.1 jq_121.2.2.2.1 ∈ jm_gw := List.mem_filter.mpr ⟨jtabs_ok 4 _ (List.mem_of_getElem? (i := 37) rfl), rfl⟩
set_option maxRecDepth 100000 in
theorem jwc_122 : Cond.code jq_122.1 jq_122.2.1 jq_122.2.2.1 jq_122.2.2.2.1 ∈ jm_gw := List.mem_filter.mpr ⟨jtabs_ok 4 _ (List.mem_of_getElem? (i := 49) rfl), rfl⟩
set_option maxRecDepth 100000 in
theorem jwc_123 : Cond.code jq_123.1 jq_123.2.1 jq_123.2.2.1 jq_123.2.2.2.1 ∈ jm_gw := List.mem_filter.mpr ⟨jtabs_ok 4 _ (List.mem_of_getElem? (i := 60) rfl), rfl⟩
set_option maxRecDepth 100000 in
theorem jwc_124 : Cond.code jq_124.1 jq_124.2.1 jq_124.2.2.1 jq_124.2.2.2.1 ∈ jm_gw := List.mem_filter.mpr ⟨jtabs_ok 4 _ (List.mem_of_getElem? (i := 64) rfl), rfl⟩
set_option maxRecDepth 100000 in
theorem jwc_125 : Cond.code jq_125.1 jq_125.2.1 jq_125.2.2.1 jq_125.2.2.2.1 ∈ jm_gw := List.mem_filter.mpr ⟨jtabs_ok 4 _ (List.mem_of_getElem? (i := 147) rfl), rfl⟩
set_option maxRecDepth 100000 in
theorem jwc_126 : Cond.code jq_126.1 jq_126.2.1 jq_126.2.2.1 jq_126.2.2.2.1 ∈ jm_gw := List.mem_filter.mpr ⟨jtabs_ok 4 _ (List.mem_of_getElem? (i := 166) rfl), rfl⟩
set_option maxRecDepth 100000 in
theorem jwc_127 : Cond.code jq_127.1 jq_127.2.1 jq_127.2.2.1 jq_127.2.2.2.1 ∈ jm_gw := List.mem_filter.mpr ⟨jtabs_ok 4 _ (List.mem_of_getElem? (i := 170) rfl), rfl⟩
set_option maxRecDepth 100000 in
theorem jwc_128 : Cond.code jq_128.1 jq_128.2.1 jq_128.2.2.1 jq_128.2.2.2.1 ∈ jm_gw := List.mem_filter.mpr ⟨jtabs_ok 4 _ (List.mem_of_getElem? (i := 197) rfl), rfl⟩
set_option maxRecDepth 100000 in
theorem jwc_129 : Cond.code jq_129.1 jq_129.2.1 jq_129.2.2.1 jq_129.2.2.2.1 ∈ jm_gw := List.mem_filter.mpr ⟨jtabs_ok 4 _ (List.mem_of_getElem? (i := 205) rfl), rfl⟩
set_option maxRecDepth 100000 in
theorem jwc_130 : Cond.code jq_130.1 jq_130.2.1 jq_130.2.2.1 jq_130.2.2.2.1 ∈ jm_gw := List.mem_filter.mpr ⟨jtabs_ok 4 _ (List.mem_of_getElem? (i := 209) rfl), rfl⟩
set_option maxRecDepth 100000 in
theorem jwc_131 : Cond.code jq_131.1 jq_131.2.1 jq_131.2.2.1 jq_131.2.2.2.1 ∈ jm_gw := List.mem_filter.mpr ⟨jtabs_ok 4 _ (List.mem_of_getElem? (i := 235) rfl), rfl⟩
set_option maxRecDepth 100000 in
theorem jwc_132 : Cond.code jq_132.1 jq_132.2.1 jq_132.2.2.1 jq_132.2.2.2.1 ∈ jm_gw := List.mem_filter.mpr ⟨jtabs_ok 5 _ (List.mem_of_getElem? (i := 3) rfl), rfl⟩
set_option maxRecDepth 100000 in
theorem jwc_133 : Cond.code jq_133.1 jq_133.2.1 jq_133.2.2.1 jq_133.2.2.2.1 ∈ jm_gw := List.mem_filter.mpr ⟨jtabs_ok 5 _ (List.mem_of_getElem? (i := 106) rfl), rfl⟩
set_option maxRecDepth 100000 in
theorem jwc_134 : Cond.code jq_134.1 jq_134.2.1 jq_134.2.2.1 jq_134.2.2.2.1 ∈ jm_gw := List.mem_filter.mpr ⟨jtabs_ok 5 _ (List.mem_of_getElem? (i := 114) rfl), rfl⟩
set_option maxRecDepth 100000 in
theorem jwc_135 : Cond.code jq_135.1 jq_135.2.1 jq_135.2.2.1 jq_135.2.2.2.1 ∈ jm_gw := List.mem_filter.mpr ⟨jtabs_ok 5 _ (List.mem_of_getElem? (i := 118) rfl), rfl⟩
set_option maxRecDepth 100000 in
theorem jwc_136 : Cond.code jq_136.1 jq_136.2.1 jq_136.2.2.1 jq_136.2.2.2.1 ∈ jm_gw := List.mem_filter.mpr ⟨jtabs_ok 5 _ (List.mem_of_getElem? (i := 133) rfl), rfl⟩
set_option maxRecDepth 100000 in
theorem jwc_137 : Cond.code jq_137.1 jq_137.2.1 jq_137.2.2.1 jq_137.2.2.2.1 ∈ jm_gw := List.mem_filter.mpr ⟨jtabs_ok 5 _ (List.mem_of_getElem? (i := 137) rfl), rfl⟩
set_option maxRecDepth 100000 in
theorem jwc_138 : Cond.code jq_138.1 jq_138.2.1 jq_138.2.2.1 jq_138.2.2.2.1 ∈ jm_gw := List.mem_filter.mpr ⟨jtabs_ok 5 _ (List.mem_of_getElem? (i := 144) rfl), rfl⟩
set_option maxRecDepth 100000 in
theorem jwc_139 : Cond.code jq_139.1 jq_139.2.1 jq_139.2.2.1 jq_139.2.2.2.1 ∈ jm_gw := List.mem_filter.mpr ⟨jtabs_ok 3 _ (List.mem_of_getElem? (i := 132) rfl), rfl⟩
set_option maxRecDepth 100000 in
theorem jwc_140 : Cond.code jq_140.1 jq_140.2.1 jq_140.2.2.1 jq_140.2.2.2.1 ∈ jm_gw := List.mem_filter.mpr ⟨jtabs_ok 3 _ (List.mem_of_getElem? (i := 129) rfl), rfl⟩
set_option maxRecDepth 100000 in
theorem jwc_141 : Cond.code jq_141.1 jq_141.2.1 jq_141.2.2.1 jq_141.2.2.2.1 ∈ jm_gw := List.mem_filter.mpr ⟨jtabs_ok 3 _ (List.mem_of_getElem? (i := 155) rfl), rfl⟩
set_option maxRecDepth 100000 in
theorem jwc_142 : Cond.code jq_142.1 jq_142.2.1 jq_142.2.2.1 jq_142.2.2.2.1 ∈ jm_gw := List.mem_filter.mpr ⟨jtabs_ok 3 _ (List.mem_of_getElem? (i := 94) rfl), rfl⟩
set_option maxRecDepth 100000 in
theorem jwc_143 : Cond.code jq_143.1 jq_143.2.1 jq_143.2.2.1 jq_143.2.2.2.1 ∈ jm_gw := List.mem_filter.mpr ⟨jtabs_ok 4 _ (List.mem_of_getElem? (i := 174) rfl), rfl⟩
set_option maxRecDepth 100000 in
theorem jwc_144 : Cond.code jq_144.1 jq_144.2.1 jq_144.2.2.1 jq_144.2.2.2.1 ∈ jm_gw := List.mem_filter.mpr ⟨jtabs_ok 5 _ (List.mem_of_getElem? (i := 157) rfl), rfl⟩
set_option maxRecDepth 100000 in
theorem jwc_145 : Cond.code jq_145.1 jq_145.2.1 jq_145.2.2.1 jq_145.2.2.2.1 ∈ jm_gw := List.mem_filter.mpr ⟨jtabs_ok 6 _ (List.mem_of_getElem? (i := 191) rfl), rfl⟩
set_option maxRecDepth 100000 in
theorem jwc_146 : Cond.code jq_146.1 jq_146.2.1 jq_146.2.2.1 jq_146.2.2.2.1 ∈ jm_gw := List.mem_filter.mpr ⟨jtabs_ok 5 _ (List.mem_of_getElem? (i := 162) rfl), rfl⟩
set_option maxRecDepth 100000 in
theorem jwc_147 : Cond.code jq_147.1 jq_147.2.1 jq_147.2.2.1 jq_147.2.2.2.1 ∈ jm_gw := List.mem_filter.mpr ⟨jtabs_ok 6 _ (List.mem_of_getElem? (i := 175) rfl), rfl⟩
set_option maxRecDepth 100000 in
theorem jwc_148 : Cond.code jq_148.1 jq_148.2.1 jq_148.2.2.1 jq_148.2.2.2.1 ∈ jm_gw := List.mem_filter.mpr ⟨jtabs_ok 6 _ (List.mem_of_getElem? (i := 207) rfl), rfl⟩
set_option maxRecDepth 100000 in
theorem jwc_149 : Cond.code jq_149.1 jq_149.2.1 jq_149.2.2.1 jq_149.2.2.2.1 ∈ jm_gw := List.mem_filter.mpr ⟨jtabs_ok 6 _ (List.mem_of_getElem? (i := 179) rfl), rfl⟩
set_option maxRecDepth 100000 in
theorem jwc_150 : Cond.code jq_150.1 jq_150.2.1 jq_150.2.2.1 jq_150.2.2.2.1 ∈ jm_gw := List.mem_filter.mpr ⟨jtabs_ok 6 _ (List.mem_of_getElem? (i := 183) rfl), rfl⟩
set_option maxRecDepth 100000 in
theorem jwc_151 : Cond.code jq_151.1 jq_151.2.1 jq_151.2.2.1 jq_151.2.2.2.1 ∈ jm_gw := List.mem_filter.mpr ⟨jtabs_ok 6 _ (List.mem_of_getElem? (i := 172) rfl), rfl⟩
set_option maxRecDepth 100000 in
theorem jwc_152 : Cond.code jq_152.1 jq_152.2.1 jq_152.2.2.1 jq_152.2.2.2.1 ∈ jm_gw := List.mem_filter.mpr ⟨jtabs_ok 6 _ (List.mem_of_getElem? (i := 168) rfl), rfl⟩
set_option maxRecDepth 100000 in
theorem jwc_153 : Cond.code jq_153.1 jq_153.2.1 jq_153.2.2.1 jq_153.2.2.2.1 ∈ jm_gw := List.mem_filter.mpr ⟨jtabs_ok 7 _ (List.mem_of_getElem? (i := 86) rfl), rfl⟩
set_option maxRecDepth 100000 in
theorem jwc_154 : Cond.code jq_154.1 jq_154.2.1 jq_154.2.2.1 jq_154.2.2.2.1 ∈ jm_gw := List.mem_filter.mpr ⟨jtabs_ok 6 _ (List.mem_of_getElem? (i := 199) rfl), rfl⟩
set_option maxRecDepth 100000 in
theorem jwc_155 : Cond.code jq_155.1 jq_155.2.1 jq_155.2.2.1 jq_155.2.2.2.1 ∈ jm_gw := List.mem_filter.mpr ⟨jtabs_ok 6 _ (List.mem_of_getElem? (i := 164) rfl), rfl⟩
set_option maxRecDepth 100000 in
theorem jwc_156 : Cond.code jq_156.1 jq_156.2.1 jq_156.2.2.1 jq_156.2.2.2.1 ∈ jm_gw := List.mem_filter.mpr ⟨jtabs_ok 6 _ (List.mem_of_getElem? (i := 187) rfl), rfl⟩
set_option maxRecDepth 100000 in
theorem jwc_157 : Cond.code jq_157.1 jq_157.2.1 jq_157.2.2.1 jq_157.2.2.2.1 ∈ jm_gw := List.mem_filter.mpr ⟨jtabs_ok 6 _ (List.mem_of_getElem? (i := 203) rfl), rfl⟩
set_option maxRecDepth 100000 in
theorem jwc_158 : Cond.code jq_158.1 jq_158.2.1 jq_158.2.2.1 jq_158.2.2.2.1 ∈ jm_gw := List.mem_filter.mpr ⟨jtabs_ok 6 _ (List.mem_of_getElem? (i := 195) rfl), rfl⟩
set_option maxRecDepth 100000 in
theorem jwc_159 : Cond.code jq_159.1 jq_159.2.1 jq_159.2.2.1 jq_159.2.2.2.1 ∈ jm_gw := List.mem_filter.mpr ⟨jtabs_ok 6 _ (List.mem_of_getElem? (i := 211) rfl), rfl⟩
set_option maxRecDepth 100000 in
theorem jwc_160 : Cond.code jq_160.1 jq_160.2.1 jq_160.2.2.1 jq_160.2.2.2.1 ∈ jm_gw := List.mem_filter.mpr ⟨jtabs_ok 6 _ (List.mem_of_getElem? (i := 217) rfl), rfl⟩
end
section
set_option maxRecDepth 100000 in
theorem jwc_161 : Cond.code jq_161.1 jq_161.2.1 jq_161.2.2.1 jq_161.2.2.2.1 ∈ jm_gw := List.mem_filter.mpr ⟨jtabs_ok 6 _ (List.mem_of_getElem? (i := 229) rfl), rfl⟩
set_option maxRecDepth 100000 in
theorem jwc_162 : Cond.code jq_162.1 jq_162.2.1 jq_162.2.2.1 jq_162.2.2.2.1 ∈ jm_gw := List.mem_filter.mpr ⟨jtabs_ok 6 _ (List.mem_of_getElem? (i := 221) rfl), rfl⟩
set_option maxRecDepth 100000 in
theorem jwc_163 : Cond.code jq_163.1 jq_163.2.1 jq_163.2.2.1 jq_163.2.2.2.1 ∈ jm_gw := List.mem_filter.mpr ⟨jtabs_ok 6 _ (List.mem_of_getElem? (i := 225) rfl), rfl⟩
set_option maxRecDepth 100000 in
theorem jwc_164 : Cond.code jq_164.1 jq_164.2.1 jq_164.2.2.1 jq_164.2.2.2.1 ∈ jm_gw := List.mem_filter.mpr ⟨jtabs_ok 6 _ (List.mem_of_getElem? (i := 238) rfl), rfl⟩
set_option maxRecDepth 100000 in
theorem jwc_165 : Cond.code jq_165.1 jq_165.2.1 jq_165.2.2.1 jq_165.2.2.2.1 ∈ jm_gw := List.mem_filter.mpr ⟨jtabs_ok 7 _ (List.mem_of_getElem? (i := 2) rfl), rfl⟩
set_option maxRecDepth 100000 in
theorem jwc_166 : Cond.code jq_166.1 jq_166.2.1 jq_166.2.2.1 jq_166.2.2.2.1 ∈ jm_gw := List.mem_filter.mpr ⟨jtabs_ok 6 _ (List.mem_of_getElem? (i := 234) rfl), rfl⟩
set_option maxRecDepth 100000 in
theorem jwc_167 : Cond.code jq_167.1 jq_167.2.1 jq_167.2.2.1 jq_167.2.2.2.1 ∈ jm_gw := List.mem_filter.mpr ⟨jtabs_ok 7 _ (List.mem_of_getElem? (i := 6) rfl), rfl⟩
set_option maxRecDepth 100000 in
theorem jwc_168 : Cond.code jq_168.1 jq_168.2.1 jq_168.2.2.1 jq_168.2.2.2.1 ∈ jm_gw := List.mem_filter.mpr ⟨jtabs_ok 7 _ (List.mem_of_getElem? (i := 54) rfl), rfl⟩
set_option maxRecDepth 100000 in
theorem jwc_169 : Cond.code jq_169.1 jq_169.2.1 jq_169.2.2.1 jq_169.2.2.2.1 ∈ jm_gw := List.mem_filter.mpr ⟨jtabs_ok 7 _ (List.mem_of_getElem? (i := 18) rfl), rfl⟩
set_option maxRecDepth 100000 in
theorem jwc_170 : Cond.code jq_170.1 jq_170.2.1 jq_170.2.2.1 jq_170.2.2.2.1 ∈ jm_gw := List.mem_filter.mpr ⟨jtabs_ok 7 _ (List.mem_of_getElem? (i := 14) rfl), rfl⟩
set_option maxRecDepth 100000 in
theorem jwc_171 : Cond.code jq_171.1 jq_171.2.1 jq_171.2.2.1 jq_171.2.2.2.1 ∈ jm_gw := List.mem_filter.mpr ⟨jtabs_ok 7 _ (List.mem_of_getElem? (i := 26) rfl), rfl⟩
set_option maxRecDepth 100000 in
theorem jwc_172 : Cond.code jq_172.1 jq_172.2.1 jq_172.2.2.1 jq_172.2.2.2.1 ∈ jm_gw := List.mem_filter.mpr ⟨jtabs_ok 7 _ (List.mem_of_getElem? (i := 22) rfl), rfl⟩
set_option maxRecDepth 100000 in
theorem jwc_173 : Cond.code jq_173.1 jq_173.2.1 jq_173.2.2.1 jq_173.2.2.2.1 ∈ jm_gw := List.mem_filter.mpr ⟨jtabs_ok 7 _ (List.mem_of_getElem? (i := 30) rfl), rfl⟩
set_option maxRecDepth 100000 in
theorem jwc_174 : Cond.code jq_174.1 jq_174.2.1 jq_174.2.2.1 jq_174.2.2.2.1 ∈ jm_gw := List.mem_filter.mpr ⟨jtabs_ok 7 _ (List.mem_of_getElem? (i := 34) rfl), rfl⟩
set_option maxRecDepth 100000 in
theorem jwc_175 : Cond.code jq_175.1 jq_175.2.1 jq_175.2.2.1 jq_175.2.2.2.1 ∈ jm_gw := List.mem_filter.mpr ⟨jtabs_ok 7 _ (List.mem_of_getElem? (i := 42) rfl), rfl⟩
set_option maxRecDepth 100000 in
theorem jwc_176 : Cond.code jq_176.1 jq_176.2.1 jq_176.2.2.1 jq_176.2.2.2.1 ∈ jm_gw := List.mem_filter.mpr ⟨jtabs_ok 7 _ (List.mem_of_getElem? (i := 78) rfl), rfl⟩
set_option maxRecDepth 100000 in
theorem jwc_177 : Cond.code jq_177.1 jq_177.2.1 jq_177.2.2.1 jq_177.2.2.2.1 ∈ jm_gw := List.mem_filter.mpr ⟨jtabs_ok 7 _ (List.mem_of_getElem? (i := 82) rfl), rfl⟩
set_option maxRecDepth 100000 in
theorem jwc_178 : Cond.code jq_178.1 jq_178.2.1 jq_178.2.2.1 jq_178.2.2.2.1 ∈ jm_gw := List.mem_filter.mpr ⟨jtabs_ok 7 _ (List.mem_of_getElem? (i := 74) rfl), rfl⟩
set_option maxRecDepth 100000 in
theorem jwc_179 : Cond.code jq_179.1 jq_179.2.1 jq_179.2.2.1 jq_179.2.2.2.1 ∈ jm_gw := List.mem_filter.mpr ⟨jtabs_ok 7 _ (List.mem_of_getElem? (i := 70) rfl), rfl⟩
set_option maxRecDepth 100000 in
theorem jwc_180 : Cond.code jq_180.1 jq_180.2.1 jq_180.2.2.1 jq_180.2.2.2.1 ∈ jm_gw := List.mem_filter.mpr ⟨jtabs_ok 7 _ (List.mem_of_getElem? (i := 106) rfl), rfl⟩
set_option maxRecDepth 100000 in
theorem jwc_181 : Cond.code jq_181.1 jq_181.2.1 jq_181.2.2.1 jq_181.2.2.2.1 ∈ jm_gw := List.mem_filter.mpr ⟨jtabs_ok 7 _ (List.mem_of_getElem? (i := 102) rfl), rfl⟩
set_option maxRecDepth 100000 in
theorem jwc_182 : Cond.code jq_182.1 jq_182.2.1 jq_182.2.2.1 jq_182.2.2.2.1 ∈ jm_gw := List.mem_filter.mpr ⟨jtabs_ok 7 _ (List.mem_of_getElem? (i := 98) rfl), rfl⟩
set_option maxRecDepth 100000 in
theorem jwc_183 : Cond.code jq_183.1 jq_183.2.1 jq_183.2.2.1 jq_183.2.2.2.1 ∈ jm_gw := List.mem_filter.mpr ⟨jtabs_ok 7 _ (List.mem_of_getElem? (i := 90) rfl), rfl⟩
set_option maxRecDepth 100000 in
theorem jwc_184 : Cond.code jq_184.1 jq_184.2.1 jq_184.2.2.1 jq_184.2.2.2.1 ∈ jm_gw := List.mem_filter.mpr ⟨jtabs_ok 7 _ (List.mem_of_getElem? (i := 94) rfl), rfl⟩
set_option maxRecDepth 100000 in
theorem jwc_185 : Cond.code jq_185.1 jq_185.2.1 jq_185.2.2.1 jq_185.2.2.2.1 ∈ jm_gw := List.mem_filter.mpr ⟨jtabs_ok 7 _ (List.mem_of_getElem? (i := 167) rfl), rfl⟩
set_option maxRecDepth 100000 in
theorem jwc_186 : Cond.code jq_186.1 jq_186.2.1 jq_186.2.2.1 jq_186.2.2.2.1 ∈ jm_gw := List.mem_filter.mpr ⟨jtabs_ok 7 _ (List.mem_of_getElem? (i := 163) rfl), rfl⟩
set_option maxRecDepth 100000 in
theorem jwc_187 : Cond.code jq_187.1 jq_187.2.1 jq_187.2.2.1 jq_187.2.2.2.1 ∈ jm_gw := List.mem_filter.mpr ⟨jtabs_ok 7 _ (List.mem_of_getElem? (i := 175) rfl), rfl⟩
set_option maxRecDepth 100000 in
theorem jwc_188 : Cond.code jq_188.1 jq_188.2.1 jq_188.2.2.1 jq_188.2.2.2.1 ∈ jm_gw := List.mem_filter.mpr ⟨jtabs_ok 7 _ (List.mem_of_getElem? (i := 171) rfl), rfl⟩
set_option maxRecDepth 100000 in
theorem jwc_189 : Cond.code jq_189.1 jq_189.2.1 jq_189.2.2.1 jq_189.2.2.2.1 ∈ jm_gw := List.mem_filter.mpr ⟨jtabs_ok 7 _ (List.mem_of_getElem? (i := 159) rfl), rfl⟩
set_option maxRecDepth 100000 in
theorem jwc_190 : Cond.code jq_190.1 jq_190.2.1 jq_190.2.2.1 jq_190.2.2.2.1 ∈ jm_gw := List.mem_filter.mpr ⟨jtabs_ok 7 _ (List.mem_of_getElem? (i := 66) rfl), rfl⟩
set_option maxRecDepth 100000 in
theorem jwc_191 : Cond.code jq_191.1 jq_191.2.1 jq_191.2.2.1 jq_191.2.2.2.1 ∈ jm_gw := List.mem_filter.mpr ⟨jtabs_ok 7 _ (List.mem_of_getElem? (i := 38) rfl), rfl⟩
set_option maxRecDepth 100000 in
theorem jwc_192 : Cond.code jq_192.1 jq_192.2.1 jq_192.2.2.1 jq_192.2.2.2.1 ∈ jm_gw := List.mem_filter.mpr ⟨jtabs_ok 7 _ (List.mem_of_getElem? (i := 46) rfl), rfl⟩
set_option maxRecDepth 100000 in
theorem jwc_193 : Cond.code jq_193.1 jq_193.2.1 jq_193.2.2.1 jq_193.2.2.2.1 ∈ jm_gw := List.mem_filter.mpr ⟨jtabs_ok 7 _ (List.mem_of_getElem? (i := 58) rfl), rfl⟩
set_option maxRecDepth 100000 in
theorem jwc_194 : Cond.code jq_194.1 jq_194.2.1 jq_194.2.2.1 jq_194.2.2.2.1 ∈ jm_gw := List.mem_filter.mpr ⟨jtabs_ok 7 _ (List.mem_of_getElem? (i := 62) rfl), rfl⟩
set_option maxRecDepth 100000 in
theorem jwc_195 : Cond.code jq_195.1 jq_195.2.1 jq_195.2.2.1 jq_195.2.2.2.1 ∈ jm_gw := List.mem_filter.mpr ⟨jtabs_ok 7 _ (List.mem_of_getElem? (i := 50) rfl), rfl⟩
set_option maxRecDepth 100000 in
theorem jwc_196 : Cond.code jq_196.1 jq_196.2.1 jq_196.2.2.1 jq_196.2.2.2.1 ∈ jm_gw := List.mem_filter.mpr ⟨jtabs_ok 7 _ (List.mem_of_getElem? (i := 114) rfl), rfl⟩
set_option maxRecDepth 100000 in
theorem jwc_197 : Cond.code jq_197.1 jq_197.2.1 jq_197.2.2.1 jq_197.2.2.2.1 ∈ jm_gw := List.mem_filter.mpr ⟨jtabs_ok 7 _ (List.mem_of_getElem? (i := 110) rfl), rfl⟩
set_option maxRecDepth 100000 in
theorem jwc_198 : Cond.code jq_198.1 jq_198.2.1 jq_198.2.2.1 jq_198.2.2.2.1 ∈ jm_gw := List.mem_filter.mpr ⟨jtabs_ok 7 _ (List.mem_of_getElem? (i := 118) rfl), rfl⟩
set_option maxRecDepth 100000 in
theorem jwc_199 : Cond.code jq_199.1 jq_199.2.1 jq_199.2.2.1 jq_199.2.2.2.1 ∈ jm_gw := List.mem_filter.mpr ⟨jtabs_ok 7 _ (List.mem_of_getElem? (i := 131) rfl), rfl⟩
set_option maxRecDepth 100000 in
theorem jwc_200 : Cond.code jq_200.1 jq_200.2.1 jq_200.2.2.1 jq_200.2.2.2.1 ∈ jm_gw := List.mem_filter.mpr ⟨jtabs_ok 7 _ (List.mem_of_getElem? (i := 135) rfl), rfl⟩
set_option maxRecDepth 100000 in
theorem jwc_201 : Cond.code jq_201.1 jq_201.2.1 jq_201.2.2.1 jq_201.2.2.2.1 ∈ jm_gw := List.mem_filter.mpr ⟨jtabs_ok 7 _ (List.mem_of_getElem? (i := 139) rfl), rfl⟩
set_option maxRecDepth 100000 in
theorem jwc_202 : Cond.code jq_202.1 jq_202.2.1 jq_202.2.2.1 jq_202.2.2.2.1 ∈ jm_gw := List.mem_filter.mpr ⟨jtabs_ok 7 _ (List.mem_of_getElem? (i := 143) rfl), rfl⟩
set_option maxRecDepth 100000 in
theorem jwc_203 : Cond.code jq_203.1 jq_203.2.1 jq_203.2.2.1 jq_203.2.2.2.1 ∈ jm_gw := List.mem_filter.mpr ⟨jtabs_ok 7 _ (List.mem_of_getElem? (i := 127) rfl), rfl⟩
set_option maxRecDepth 100000 in
theorem jwc_204 : Cond.code jq_204.1 jq_204.2.1 jq_204.2.2.1 jq_204.2.2.2.1 ∈ jm_gw := List.mem_filter.mpr ⟨jtabs_ok 7 _ (List.mem_of_getElem? (i := 122) rfl), rfl⟩
set_option maxRecDepth 100000 in
theorem jwc_205 : Cond.code jq_205.1 jq_205.2.1 jq_205.2.2.1 jq_205.2.2.2.1 ∈ jm_gw := List.mem_filter.mpr ⟨jtabs_ok 7 _ (List.mem_of_getElem? (i := 147) rfl), rfl⟩
set_option maxRecDepth 100000 in
theorem jwc_206 : Cond.code jq_206.1 jq_206.2.1 jq_206.2.2.1 jq_206.2.2.2.1 ∈ jm_gw := List.mem_filter.mpr ⟨jtabs_ok 7 _ (List.mem_of_getElem? (i := 151) rfl), rfl⟩
set_option maxRecDepth 100000 in
theorem jwc_207 : Cond.code jq_207.1 jq_207.2.1 jq_207.2.2.1 jq_207.2.2.2.1 ∈ jm_gw := List.mem_filter.mpr ⟨jtabs_ok 7 _ (List.mem_of_getElem? (i := 155) rfl), rfl⟩
set_option maxRecDepth 100000 in
theorem jwc_208 : Cond.code jq_208.1 jq_208.2.1 jq_208.2.2.1 jq_208.2.2.2.1 ∈ jm_gw := List.mem_filter.mpr ⟨jtabs_ok 7 _ (List.mem_of_getElem? (i := 179) rfl), rfl⟩
set_option maxRecDepth 100000 in
theorem jwc_209 : Cond.code jq_209.1 jq_209.2.1 jq_209.2.2.1 jq_209.2.2.2.1 ∈ jm_gw := List.mem_filter.mpr ⟨jtabs_ok 7 _ (List.mem_of_getElem? (i := 10) rfl), rfl⟩
set_option maxRecDepth 100000 in
theorem jwc_210 : Cond.code jq_210.1 jq_210.2.1 jq_210.2.2.1 jq_210.2.2.2.1 ∈ jm_gw := List.mem_filter.mpr ⟨jtabs_ok 7 _ (List.mem_of_getElem? (i := 203) rfl), rfl⟩
set_option maxRecDepth 100000 in
theorem jwc_211 : Cond.code jq_211.1 jq_211.2.1 jq_211.2.2.1 jq_211.2.2.2.1 ∈ jm_gw := List.mem_filter.mpr ⟨jtabs_ok 7 _ (List.mem_of_getElem? (i := 195) rfl), rfl⟩
set_option maxRecDepth 100000 in
theorem jwc_212 : Cond.code jq_212.1 jq_212.2.1 jq_212.2.2.1 jq_212.2.2.2.1 ∈ jm_gw := List.mem_filter.mpr ⟨jtabs_ok 7 _ (List.mem_of_getElem? (i := 191) rfl), rfl⟩
set_option maxRecDepth 100000 in
theorem jwc_213 : Cond.code jq_213.1 jq_213.2.1 jq_213.2.2.1 jq_213.2.2.2.1 ∈ jm_gw := List.mem_filter.mpr ⟨jtabs_ok 7 _ (List.mem_of_getElem? (i := 187) rfl), rfl⟩
set_option maxRecDepth 100000 in
theorem jwc_214 : Cond.code jq_214.1 jq_214.2.1 jq_214.2.2.1 jq_214.2.2.2.1 ∈ jm_gw := List.mem_filter.mpr ⟨jtabs_ok 7 _ (List.mem_of_getElem? (i := 215) rfl), rfl⟩
set_option maxRecDepth 100000 in
theorem jwc_215 : Cond.code jq_215.1 jq_215.2.1 jq_215.2.2.1 jq_215.2.2.2.1 ∈ jm_gw := List.mem_filter.mpr ⟨jtabs_ok 7 _ (List.mem_of_getElem? (i := 221) rfl), rfl⟩
set_option maxRecDepth 100000 in
theorem jwc_216 : Cond.code jq_216.1 jq_216.2.1 jq_216.2.2.1 jq_216.2.2.2.1 ∈ jm_gw := List.mem_filter.mpr ⟨jtabs_ok 7 _ (List.mem_of_getElem? (i := 211) rfl), rfl⟩
set_option maxRecDepth 100000 in
theorem jwc_217 : Cond.code jq_217.1 jq_217.2.1 jq_217.2.2.1 jq_217.2.2.2.1 ∈ jm_gw := List.mem_filter.mpr ⟨jtabs_ok 7 _ (List.mem_of_getElem? (i := 207) rfl), rfl⟩
set_option maxRecDepth 100000 in
theorem jwc_218 : Cond.code jq_218.1 jq_218.2.1 jq_218.2.2.1 jq_218.2.2.2.1 ∈ jm_gw := List.mem_filter.mpr ⟨jtabs_ok 7 _ (List.mem_of_getElem? (i := 199) rfl), rfl⟩
set_option maxRecDepth 100000 in
theorem jwc_219 : Cond.code jq_219.1 jq_219.2.1 jq_219.2.2.1 jq_219.2.2.2.1 ∈ jm_gw := List.mem_filter.mpr ⟨jtabs_ok 7 _ (List.mem_of_getElem? (i := 225) rfl), rfl⟩
set_option maxRecDepth 100000 in
theorem jwc_220 : Cond.code jq_220.1 jq_220.2.1 jq_220.2.2.1 jq_220.2.2.2.1 ∈ jm_gw := List.mem_filter.mpr ⟨jtabs_ok 7 _ (List.mem_of_getElem? (i := 183) rfl), rfl⟩
set_option maxRecDepth 100000 in
theorem jwc_221 : Cond.code jq_221.1 jq_221.2.1 jq_221.2.2.1 jq_221.2.2.2.1 ∈ jm_gw := List.mem_filter.mpr ⟨jtabs_ok 7 _ (List.mem_of_getElem? (i := 229) rfl), rfl⟩
set_option maxRecDepth 100000 in
theorem jwc_222 : Cond.code jq_222.1 jq_222.2.1 jq_222.2.2.1 jq_222.2.2.2.1 ∈ jm_gw := List.mem_filter.mpr ⟨jtabs_ok 7 _ (List.mem_of_getElem? (i := 233) rfl), rfl⟩
set_option maxRecDepth 100000 in
theorem jwc_223 : Cond.code jq_223.1 jq_223.2.1 jq_223.2.2.1 jq_223.2.2.2.1 ∈ jm_gw := List.mem_filter.mpr ⟨jtabs_ok 7 _ (List.mem_of_getElem? (i := 237) rfl), rfl⟩
set_option maxRecDepth 100000 in
theorem jwc_224 : Cond.code jq_224.1 jq_224.2.1 jq_224.2.2.1 jq_224.2.2.2.1 ∈ jm_gw := List.mem_filter.mpr ⟨jtabs_ok 8 _ (List.mem_of_getElem? (i := 2) rfl), rfl⟩
set_option maxRecDepth 100000 in
theorem jwc_225 : Cond.code jq_225.1 jq_225.2.1 jq_225.2.2.1 jq_225.2.2.2.1 ∈ jm_gw := List.mem_filter.mpr ⟨jtabs_ok 8 _ (List.mem_of_getElem? (i := 6) rfl), rfl⟩
set_option maxRecDepth 100000 in
theorem jwc_226 : Cond.code jq_226.1 jq_226.2.1 jq_226.2.2.1 jq_226.2.2.2.1 ∈ jm_gw := List.mem_filter.mpr ⟨jtabs_ok 8 _ (List.mem_of_getElem? (i := 12) rfl), rfl⟩
set_option maxRecDepth 100000 in
theorem jwc_227 : Cond.code jq_227.1 jq_227.2.1 jq_227.2.2.1 jq_227.2.2.2.1 ∈ jm_gw := List.mem_filter.mpr ⟨jtabs_ok 1 _ (List.mem_of_getElem? (i := 32) rfl), rfl⟩
set_option maxRecDepth 100000 in
theorem jwc_228 : Cond.code jq_228.1 jq_228.2.1 jq_228.2.2.1 jq_228.2.2.2.1 ∈ jm_gw := List.mem_filter.mpr ⟨jtabs_ok 5 _ (List.mem_of_getElem? (i := 140) rfl), rfl⟩
set_option maxRecDepth 100000 in
theorem jwc_229 : Cond.code jq_229.1 jq_229.2.1 jq_229.2.2.1 jq_229.2.2.2.1 ∈ jm_gw := List.mem_filter.mpr ⟨jtabs_ok 3 _ (List.mem_of_getElem? (i := 216) rfl), rfl⟩
set_option maxRecDepth 100000 in
theorem jwc_230 : Cond.code jq_230.1 jq_230.2.1 jq_230.2.2.1 jq_230.2.2.2.1 ∈ jm_gw := List.mem_filter.mpr ⟨jtabs_ok 3 _ (List.mem_of_getElem? (i := 204) rfl), rfl⟩
set_option maxRecDepth 100000 in
theorem jwc_all : ∀ q ∈ jm_L.drop 1, Cond.code q.1 q.2.1 q.2.2.1 q.2.2.2.1 ∈ jm_gw := by
  intro q hq
  have hq : q ∈ [jq_1, jq_2, jq_3, jq_4, jq_5, jq_6, jq_7, jq_8, jq_9, jq_10, jq_11, jq_12, jq_13, jq_14, jq_15, jq_16, jq_17, jq_18, jq_19, jq_20, jq_21, jq_22, jq_23, jq_24, jq_25, jq_26, jq_27, jq_28, jq_29, jq_30, jq_31, jq_32, jq_33, jq_34, jq_35, jq_36, jq_37, jq_38, jq_39, jq_40, jq_41, jq_42, jq_43, jq_44, jq_45, jq_46, jq_47, jq_48, jq_49, jq_50, jq_51, jq_52, jq_53, jq_54, jq_55, jq_56, jq_57, jq_58, jq_59, jq_60, jq_61, jq_62, jq_63, jq_64, jq_65, jq_66, jq_67, jq_68, jq_69, jq_70, jq_71, jq_72, jq_73, jq_74, jq_75, jq_76, jq_77, jq_78, jq_79, jq_80, jq_81, jq_82, jq_83, jq_84, jq_85, jq_86, jq_87, jq_88, jq_89, jq_90, jq_91, jq_92, jq_93, jq_94, jq_95, jq_96, jq_97, jq_98, jq_99, jq_100, jq_101, jq_102, jq_103, jq_104, jq_105, jq_106, jq_107, jq_108, jq_109, jq_110, jq_111, jq_112, jq_113, jq_114, jq_115, jq_116, jq_117, jq_118, jq_119, jq_120, jq_121, jq_122, jq_123, jq_124, jq_125, jq_126, jq_127, jq_128, jq_129, jq_130, jq_131, jq_132, jq_133, jq_134, jq_135, jq_136, jq_137, jq_138, jq_139, jq_140, jq_141, jq_142, jq_143, jq_144, jq_145, jq_146, jq_147, jq_148, jq_149, jq_150, jq_151, jq_152, jq_153, jq_154, jq_155, jq_156, jq_157, jq_158, jq_159, jq_160, jq_161, jq_162, jq_163, jq_164, jq_165, jq_166, jq_167, jq_168, jq_169, jq_170, jq_171, jq_172, jq_173, jq_174, jq_175, jq_176, jq_177, jq_178, jq_179, jq_180, jq_181, jq_182, jq_183, jq_184, jq_185, jq_186, jq_187, jq_188, jq_189, jq_190, jq_191, jq_192, jq_193, jq_194, jq_195, jq_196, jq_197, jq_198, jq_199, jq_200, jq_201, jq_202, jq_203, jq_204, jq_205, jq_206, jq_207, jq_208, jq_209, jq_210, jq_211, jq_212, jq_213, jq_214, jq_215, jq_216, jq_217, jq_218, jq_219, jq_220, jq_221, jq_222, jq_223, jq_224, jq_225, jq_226, jq_227, jq_228, jq_229, jq_230] := hq
  rcases List.mem_cons.mp hq with rfl | hq
  · exact jwc_1
  rcases List.mem_cons.mp hq with rfl | hq
  · exact jwc_2
  rcases List.mem_cons.mp hq with rfl | hq
  · exact jwc_3
  rcases List.mem_cons.mp hq with rfl | hq
  · exact jwc_4
  rcases List.mem_cons.mp hq with rfl | hq
  · exact jwc_5
  rcases List.mem_cons.mp hq with rfl | hq
  · exact jwc_6
  rcases List.mem_cons.mp hq with rfl | hq
  · exact jwc_7
  rcases List.mem_cons.mp hq with rfl | hq
  · exact jwc_8
  rcases List.mem_cons.mp hq with rfl | hq
  · exact jwc_9
  rcases List.mem_cons.mp hq with rfl | hq
  · exact jwc_10
  rcases List.mem_cons.mp hq with rfl | hq
  · exact jwc_11
  rcases List.mem_cons.mp hq with rfl | hq
  · exact jwc_12
  rcases List.mem_cons.mp hq with rfl | hq
  · exact jwc_13
  rcases List.mem_cons.mp hq with rfl | hq
  · exact jwc_14
  rcases List.mem_cons.mp hq with rfl | hq
  · exact jwc_15
  rcases List.mem_cons.mp hq with rfl | hq
  · exact jwc_16
  rcases List.mem_cons.mp hq with rfl | hq
  · exact jwc_17
  rcases List.mem_cons.mp hq with rfl | hq
  · exact jwc_18
  rcases List.mem_cons.mp hq with rfl | hq
  · exact jwc_19
  rcases List.mem_cons.mp hq with rfl | hq
  · exact jwc_20
  rcases List.mem_cons.mp hq with rfl | hq
  · exact jwc_21
  rcases List.mem_cons.mp hq with rfl | hq
  · exact jwc_22
  rcases List.mem_cons.mp hq with rfl | hq
  · exact jwc_23
  rcases List.mem_cons.mp hq with rfl | hq
  · exact jwc_24
  rcases List.mem_cons.mp hq with rfl | hq
  · exact jwc_25
  rcases List.mem_cons.mp hq with rfl | hq
  · exact jwc_26
  rcases List.mem_cons.mp hq with rfl | hq
  · exact jwc_27
  rcases List.mem_cons.mp hq with rfl | hq
  · exact jwc_28
  rcases List.mem_cons.mp hq with rfl | hq
  · exact jwc_29
  rcases List.mem_cons.mp hq with rfl | hq
  · exact jwc_30
  rcases List.mem_cons.mp hq with rfl | hq
  · exact jwc_31
  rcases List.mem_cons.mp hq with rfl | hq
  · exact jwc_32
  rcases List.mem_cons.mp hq with rfl | hq
  · exact jwc_33
  rcases List.mem_cons.mp hq with rfl | hq
  · exact jwc_34
  rcases List.mem_cons.mp hq with rfl | hq
  · exact jwc_35
  rcases List.mem_cons.mp hq with rfl | hq
  · exact jwc_36
  rcases List.mem_cons.mp hq with rfl | hq
  · exact jwc_37
  rcases List.mem_cons.mp hq with rfl | hq
  · exact jwc_38
  rcases List.mem_cons.mp hq with rfl | hq
  · exact jwc_39
  rcases List.mem_cons.mp hq with rfl | hq
  · exact jwc_40
  rcases List.mem_cons.mp hq with rfl | hq
  · exact jwc_41
  rcases List.mem_cons.mp hq with rfl | hq
  · exact jwc_42
  rcases List.mem_cons.mp hq with rfl | hq
  · exact jwc_43
  rcases List.mem_cons.mp hq with rfl | hq
  · exact jwc_44
  rcases List.mem_cons.mp hq with rfl | hq
  · exact jwc_45
  rcases List.mem_cons.mp hq with rfl | hq
  · exact jwc_46
  rcases List.mem_cons.mp hq with rfl | hq
  · exact jwc_47
  rcases List.mem_cons.mp hq with rfl | hq
  · exact jwc_48
  rcases List.mem_cons.mp hq with rfl | hq
  · exact jwc_49
  rcases List.mem_cons.mp hq with rfl | hq
  · exact jwc_50
  rcases List.mem_cons.mp hq with rfl | hq
  · exact jwc_51
  rcases List.mem_cons.mp hq with rfl | hq
  · exact jwc_52
  rcases List.mem_cons.mp hq with rfl | hq
  · exact jwc_53
  rcases List.mem_cons.mp hq with rfl | hq
  · exact jwc_54
  rcases List.mem_cons.mp hq with rfl | hq
  · exact jwc_55
  rcases List.mem_cons.mp hq with rfl | hq
  · exact jwc_56
  rcases List.mem_cons.mp hq with rfl | hq
  · exact jwc_57
  rcases List.mem_cons.mp hq with rfl | hq
  · exact jwc_58
  rcases List.mem_cons.mp hq with rfl | hq
  · exact jwc_59
  rcases List.mem_cons.mp hq with rfl | hq
  · exact jwc_60
  rcases List.mem_cons.mp hq with rfl | hq
  · exact jwc_61
  rcases List.mem_cons.mp hq with rfl | hq
  · exact jwc_62
  rcases List.mem_cons.mp hq with rfl | hq
  · exact jwc_63
  rcases List.mem_cons.mp hq with rfl | hq
  · exact jwc_64
  rcases List.mem_cons.mp hq with rfl | hq
  · exact jwc_65
  rcases List.mem_cons.mp hq with rfl | hq
  · exact jwc_66
  rcases List.mem_cons.mp hq with rfl | hq
  · exact jwc_67
  rcases List.mem_cons.mp hq with rfl | hq
  · exact jwc_68
  rcases List.mem_cons.mp hq with rfl | hq
  · exact jwc_69
  rcases List.mem_cons.mp hq with rfl | hq
  · exact jwc_70
  rcases List.mem_cons.mp hq with rfl | hq
  · exact jwc_71
  rcases List.mem_cons.mp hq with rfl | hq
  · exact jwc_72
  rcases List.mem_cons.mp hq with rfl | hq
  · exact jwc_73
  rcases List.mem_cons.mp hq with rfl | hq
  · exact jwc_74
  rcases List.mem_cons.mp hq with rfl | hq
  · exact jwc_75
  rcases List.mem_cons.mp hq with rfl | hq
  · exact jwc_76
  rcases List.mem_cons.mp hq with rfl | hq
  · exact jwc_77
  rcases List.mem_cons.mp hq with rfl | hq
  · exact jwc_78
  rcases List.mem_cons.mp hq with rfl | hq
  · exact jwc_79
  rcases List.mem_cons.mp hq with rfl | hq
  · exact jwc_80
  rcases List.mem_cons.mp hq with rfl | hq
  · exact jwc_81
  rcases List.mem_cons.mp hq with rfl | hq
  · exact jwc_82
  rcases List.mem_cons.mp hq with rfl | hq
  · exact jwc_83
  rcases List.mem_cons.mp hq with rfl | hq
  · exact jwc_84
  rcases List.mem_cons.mp hq with rfl | hq
  · exact jwc_85
  rcases List.mem_cons.mp hq with rfl | hq
  · exact jwc_86
  rcases List.mem_cons.mp hq with rfl | hq
  · exact jwc_87
  rcases List.mem_cons.mp hq with rfl | hq
  · exact jwc_88
  rcases List.mem_cons.mp hq with rfl | hq
  · exact jwc_89
  rcases List.mem_cons.mp hq with rfl | hq
  · exact jwc_90
  rcases List.mem_cons.mp hq with rfl | hq
  · exact jwc_91
  rcases List.mem_cons.mp hq with rfl | hq
  · exact jwc_92
  rcases List.mem_cons.mp hq with rfl | hq
  · exact jwc_93
  rcases List.mem_cons.mp hq with rfl | hq
  · exact jwc_94
  rcases List.mem_cons.mp hq with rfl | hq
  · exact jwc_95
  rcases List.mem_cons.mp hq with rfl | hq
  · exact jwc_96
  rcases List.mem_cons.mp hq with rfl | hq
  · exact jwc_97
  rcases List.mem_cons.mp hq with rfl | hq
  · exact jwc_98
  rcases List.mem_cons.mp hq with rfl | hq
  · exact jwc_99
  rcases List.mem_cons.mp hq with rfl | hq
  · exact jwc_100
  rcases List.mem_cons.mp hq with rfl | hq
  · exact jwc_101
  rcases List.mem_cons.mp hq with rfl | hq
  · exact jwc_102
  rcases List.mem_cons.mp hq with rfl | hq
  · exact jwc_103
  rcases List.mem_cons.mp hq with rfl | hq
  · exact jwc_104
  rcases List.mem_cons.mp hq with rfl | hq
  · exact jwc_105
  rcases List.mem_cons.mp hq with rfl | hq
  · exact jwc_106
  rcases List.mem_cons.mp hq with rfl | hq
  · exact jwc_107
  rcases List.mem_cons.mp hq with rfl | hq
  · exact jwc_108
  rcases List.mem_cons.mp hq with rfl | hq
  · exact jwc_109
  rcases List.mem_cons.mp hq with rfl | hq
  · exact jwc_110
  rcases List.mem_cons.mp hq with rfl | hq
  · exact jwc_111
  rcases List.mem_cons.mp hq with rfl | hq
  · exact jwc_112
  rcases List.mem_cons.mp hq with rfl | hq
  · exact jwc_113
  rcases List.mem_cons.mp hq with rfl | hq
  · exact jwc_114
  rcases List.mem_cons.mp hq with rfl | hq
  · exact jwc_115
  rcases List.mem_cons.mp hq with rfl | hq
  · exact jwc_116
  rcases List.mem_cons.mp hq with rfl | hq
  · exact jwc_117
  rcases List.mem_cons.mp hq with rfl | hq
  · exact jwc_118
  rcases List.mem_cons.mp hq with rfl | hq
  · exact jwc_119
  rcases List.mem_cons.mp hq with rfl | hq
  · exact jwc_120
  rcases List.mem_cons.mp hq with rfl | hq
  · exact jwc_121
  rcases List.mem_cons.mp hq with rfl | hq
  · exact jwc_122
  rcases List.mem_cons.mp hq with rfl | hq
  · exact jwc_123
  rcases List.mem_cons.mp hq with rfl | hq
  · exact jwc_124
  rcases List.mem_cons.mp hq with rfl | hq
  · exact jwc_125
  rcases List.mem_cons.mp hq with rfl | hq
  · exact jwc_126
  rcases List.mem_cons.mp hq with rfl | hq
  · exact jwc_127
  rcases List.mem_cons.mp hq with rfl | hq
  · exact jwc_128
  rcases List.mem_cons.mp hq with rfl | hq
  · exact jwc_129
  rcases List.mem_cons.mp hq with rfl | hq
  · exact jwc_130
  rcases List.mem_cons.mp hq with rfl | hq
  · exact jwc_131
  rcases List.mem_cons.mp hq with rfl | hq
  · exact jwc_132
  rcases List.mem_cons.mp hq with rfl | hq
  · exact jwc_133
  rcases List.mem_cons.mp hq with rfl | hq
  · exact jwc_134
  rcases List.mem_cons.mp hq with rfl | hq
  · exact jwc_135
  rcases List.mem_cons.mp hq with rfl | hq
  · exact jwc_136
  rcases List.mem_cons.mp hq with rfl | hq
  · exact jwc_137
  rcases List.mem_cons.mp hq with rfl | hq
  · exact jwc_138
  rcases List.mem_cons.mp hq with rfl | hq
  · exact jwc_139
  rcases List.mem_cons.mp hq with rfl | hq
  · exact jwc_140
  rcases List.mem_cons.mp hq with rfl | hq
  · exact jwc_141
  rcases List.mem_cons.mp hq with rfl | hq
  · exact jwc_142
  rcases List.mem_cons.mp hq with rfl | hq
  · exact jwc_143
  rcases List.mem_cons.mp hq with rfl | hq
  · exact jwc_144
  rcases List.mem_cons.mp hq with rfl | hq
  · exact jwc_145
  rcases List.mem_cons.mp hq with rfl | hq
  · exact jwc_146
  rcases List.mem_cons.mp hq with rfl | hq
  · exact jwc_147
  rcases List.mem_cons.mp hq with rfl | hq
  · exact jwc_148
  rcases List.mem_cons.mp hq with rfl | hq
  · exact jwc_149
  rcases List.mem_cons.mp hq with rfl | hq
  · exact jwc_150
  rcases List.mem_cons.mp hq with rfl | hq
  · exact jwc_151
  rcases List.mem_cons.mp hq with rfl | hq
  · exact jwc_152
  rcases List.mem_cons.mp hq with rfl | hq
  · exact jwc_153
  rcases List.mem_cons.mp hq with rfl | hq
  · exact jwc_154
  rcases List.mem_cons.mp hq with rfl | hq
  · exact jwc_155
  rcases List.mem_cons.mp hq with rfl | hq
  · exact jwc_156
  rcases List.mem_cons.mp hq with rfl | hq
  · exact jwc_157
  rcases List.mem_cons.mp hq with rfl | hq
  · exact jwc_158
  rcases List.mem_cons.mp hq with rfl | hq
  · exact jwc_159
  rcases List.mem_cons.mp hq with rfl | hq
  · exact jwc_160
  rcases List.mem_cons.mp hq with rfl | hq
  · exact jwc_161
  rcases List.mem_cons.mp hq with rfl | hq
  · exact jwc_162
  rcases List.mem_cons.mp hq with rfl | hq
  · exact jwc_163
  rcases List.mem_cons.mp hq with rfl | hq
  · exact jwc_164
  rcases List.mem_cons.mp hq with rfl | hq
  · exact jwc_165
  rcases List.mem_cons.mp hq with rfl | hq
  · exact jwc_166
  rcases List.mem_cons.mp hq with rfl | hq
  · exact jwc_167
  rcases List.mem_cons.mp hq with rfl | hq
  · exact jwc_168
  rcases List.mem_cons.mp hq with rfl | hq
  · exact jwc_169
  rcases List.mem_cons.mp hq with rfl | hq
  · exact jwc_170
  rcases List.mem_cons.mp hq with rfl | hq
  · exact jwc_171
  rcases List.mem_cons.mp hq with rfl | hq
  · exact jwc_172
  rcases List.mem_cons.mp hq with rfl | hq
  · exact jwc_173
  rcases List.mem_cons.mp hq with rfl | hq
  · exact jwc_174
  rcases List.mem_cons.mp hq with rfl | hq
  · exact jwc_175
  rcases List.mem_cons.mp hq with rfl | hq
  · exact jwc_176
  rcases List.mem_cons.mp hq with rfl | hq
  · exact jwc_177
  rcases List.mem_cons.mp hq with rfl | hq
  · exact jwc_178
  rcases List.mem_cons.mp hq with rfl | hq
  · exact jwc_179
  rcases List.mem_cons.mp hq with rfl | hq
  · exact jwc_180
  rcases List.mem_cons.mp hq with rfl | hq
  · exact jwc_181
  rcases List.mem_cons.mp hq with rfl | hq
  · exact jwc_182
  rcases List.mem_cons.mp hq with rfl | hq
  · exact jwc_183
  rcases List.mem_cons.mp hq with rfl | hq
  · exact jwc_184
  rcases List.mem_cons.mp hq with rfl | hq
  · exact jwc_185
  rcases List.mem_cons.mp hq with rfl | hq
  · exact jwc_186
  rcases List.mem_cons.mp hq with rfl | hq
  · exact jwc_187
  rcases List.mem_cons.mp hq with rfl | hq
  · exact jwc_188
  rcases List.mem_cons.mp hq with rfl | hq
  · exact jwc_189
  rcases List.mem_cons.mp hq with rfl | hq
  · exact jwc_190
  rcases List.mem_cons.mp hq with rfl | hq
  · exact jwc_191
  rcases List.mem_cons.mp hq with rfl | hq
  · exact jwc_192
  rcases List.mem_cons.mp hq with rfl | hq
  · exact jwc_193
  rcases List.mem_cons.mp hq with rfl | hq
  · exact jwc_194
  rcases List.mem_cons.mp hq with rfl | hq
  · exact jwc_195
  rcases List.mem_cons.mp hq with rfl | hq
  · exact jwc_196
  rcases List.mem_cons.mp hq with rfl | hq
  · exact jwc_197
  rcases List.mem_cons.mp hq with rfl | hq
  · exact jwc_198
  rcases List.mem_cons.mp hq with rfl | hq
  · exact jwc_199
  rcases List.mem_cons.mp hq with rfl | hq
  · exact jwc_200
  rcases List.mem_cons.mp hq with rfl | hq
  · exact jwc_201
  rcases List.mem_cons.mp hq with rfl | hq
  · exact jwc_202
  rcases List.mem_cons.mp hq with rfl | hq
  · exact jwc_203
  rcases List.mem_cons.mp hq with rfl | hq
  · exact jwc_204
  rcases List.mem_cons.mp hq with rfl | hq
  · exact jwc_205
  rcases List.mem_cons.mp hq with rfl | hq
  · exact jwc_206
  rcases List.mem_cons.mp hq with rfl | hq
  · exact jwc_207
  rcases List.mem_cons.mp hq with rfl | hq
  · exact jwc_208
  rcases List.mem_cons.mp hq with rfl | hq
  · exact jwc_209
  rcases List.mem_cons.mp hq with rfl | hq
  · exact jwc_210
  rcases List.mem_cons.mp hq with rfl | hq
  · exact jwc_211
  rcases List.mem_cons.mp hq with rfl | hq
  · exact jwc_212
  rcases List.mem_cons.mp hq with rfl | hq
  · exact jwc_213
  rcases List.mem_cons.mp hq with rfl | hq
  · exact jwc_214
  rcases List.mem_cons.mp hq with rfl | hq
  · exact jwc_215
  rcases List.mem_cons.mp hq with rfl | hq
  · exact jwc_216
  rcases List.mem_cons.mp hq with rfl | hq
  · exact jwc_217
  rcases List.mem_cons.mp hq with rfl | hq
  · exact jwc_218
  rcases List.mem_cons.mp hq with rfl | hq
  · exact jwc_219
  rcases List.mem_cons.mp hq with rfl | hq
  · exact jwc_220
  rcases List.mem_cons.mp hq with rfl | hq
  · exact jwc_221
  rcases List.mem_cons.mp hq with rfl | hq
  · exact jwc_222
  rcases List.mem_cons.mp hq with rfl | hq
  · exact jwc_223
  rcases List.mem_cons.mp hq with rfl | hq
  · exact jwc_224
  rcases List.mem_cons.mp hq with rfl | hq
  · exact jwc_225
  rcases List.mem_cons.mp hq with rfl | hq
  · exact jwc_226
  rcases List.mem_cons.mp hq with rfl | hq
  · exact jwc_227
  rcases List.mem_cons.mp hq with rfl | hq
  · exact jwc_228
  rcases List.mem_cons.mp hq with rfl | hq
  · exact jwc_229
  rcases List.mem_cons.mp hq with rfl | hq
  · exact jwc_230
  exact absurd hq List.not_mem_nil
theorem jm_y_ok : ∀ y, y ≠ 0 → y < jm_n → Cond.code (jm_nm y) (jm_code y) (jm_maxL y) (jm_ret y) ∈ jm_gw ∧ Cond.initialized (jm_nm y).cls ∈ jm_gw ∧ plainName (jm_nm y).cls = true ∧ (jm_nm y).cls = jm_cn (jm_own y) ∧ ((jm_nm y).cls ≠ "java/lang/invoke/MethodHandle" ∧ (jm_nm y).cls ≠ "java/lang/invoke/VarHandle") ∧ jm_maxL y ≤ 21 ∧ (jm_ini y = true → (jm_nm y).name = "<init>") := by
  intro y h0 hy
  have h := jyck_all y hy
  unfold jyck at h
  simp only [Bool.or_eq_true, Bool.and_eq_true, beq_iff_eq, h0, false_or, decide_eq_true_eq, Bool.not_eq_true'] at h
  obtain ⟨h2, h3, h4, h5, h6, h7, h8⟩ := h
  have hq : jm_at y ∈ jm_L.drop 1 := by
    have hlen : jm_n ≤ jm_L.length := by decide +kernel
    have hg : jm_L[y]? = some (jm_L[y]'(Nat.lt_of_lt_of_le hy hlen)) := List.getElem?_eq_getElem _
    have : jm_at y = jm_L[y]'(Nat.lt_of_lt_of_le hy hlen) := by
      unfold jm_at
      rw [List.getD_eq_getElem?_getD, hg]
      rfl
    rw [this]
    refine List.mem_of_getElem? (i := y - 1) ?_
    rw [List.getElem?_drop, show 1 + (y - 1) = y by omega]
    exact hg
  exact ⟨jwc_all _ hq, jck_ok h2, h3, h4, ⟨h5, h6⟩, h7, fun hi => h8.resolve_left (by rw [hi]; decide)⟩
end
section
def jm_mck (k : Nat) (e : Nat × Nat × Nat × Nat × Nat) : Bool := decide ((parseMethodDescriptor (jm_nm e.2.2.1).desc).map (fun d => d.parameters.length) = some e.2.2.2.1) && (if e.2.1 ≤ 2 then jck e.2.2.2.2 (Cond.methodLink (jm_cn k) e.1 (jm_nm e.2.2.1)) else decide (Cond.methodLinkNest (jm_cn k) e.1 (jm_nm e.2.2.1) jm_host ∈ jm_nest)) && (if e.2.1 = 0 ∨ e.2.1 = 3 then jck (jm_wp.getD e.2.2.1 (0, 0, 0, 0)).2.2.1 (Cond.instanceMethod (jm_nm e.2.2.1)) && jck (jm_wp.getD e.2.2.1 (0, 0, 0, 0)).2.2.2 (Cond.selects (jm_nm e.2.2.1).cls (jm_nm e.2.2.1) (jm_nm e.2.2.1)) && decide (vwCl[jm_own e.2.2.1]?.map (fun q => q.1) = some (jm_nm e.2.2.1).cls) else if e.2.1 = 1 ∨ e.2.1 = 4 then jck (jm_wp.getD e.2.2.1 (0, 0, 0, 0)).2.2.1 (Cond.instanceMethod (jm_nm e.2.2.1)) && decide ((jm_nm e.2.2.1).name = "<init>") && decide (jm_ret e.2.2.1 = none) else jck (jm_wp.getD e.2.2.1 (0, 0, 0, 0)).2.2.1 (Cond.static (jm_nm e.2.2.1)))
theorem jmA_0_0 : jmT_0_0.all (jm_mck 0) = true := by decide +kernel
theorem jmA_0_1 : jmT_0_1.all (jm_mck 0) = true := by decide +kernel
theorem jmA_1_0 : jmT_1_0.all (jm_mck 1) = true := by decide +kernel
theorem jmA_3_0 : jmT_3_0.all (jm_mck 3) = true := by decide +kernel
theorem jmA_4_0 : jmT_4_0.all (jm_mck 4) = true := by decide +kernel
theorem jmA_4_1 : jmT_4_1.all (jm_mck 4) = true := by decide +kernel
theorem jmA_5_0 : jmT_5_0.all (jm_mck 5) = true := by decide +kernel
theorem jmA_6_0 : jmT_6_0.all (jm_mck 6) = true := by decide +kernel
theorem jmA_6_1 : jmT_6_1.all (jm_mck 6) = true := by decide +kernel
theorem jmA_7_0 : jmT_7_0.all (jm_mck 7) = true := by decide +kernel
theorem jmA_7_1 : jmT_7_1.all (jm_mck 7) = true := by decide +kernel
theorem jmA_8_0 : jmT_8_0.all (jm_mck 8) = true := by decide +kernel
theorem jmA_9_0 : jmT_9_0.all (jm_mck 9) = true := by decide +kernel
theorem jmA_10_0 : jmT_10_0.all (jm_mck 10) = true := by decide +kernel
theorem jmA_10_1 : jmT_10_1.all (jm_mck 10) = true := by decide +kernel
theorem jmA_10_2 : jmT_10_2.all (jm_mck 10) = true := by decide +kernel
theorem jmA_10_3 : jmT_10_3.all (jm_mck 10) = true := by decide +kernel
theorem jmA_10_4 : jmT_10_4.all (jm_mck 10) = true := by decide +kernel
theorem jmA_11_0 : jmT_11_0.all (jm_mck 11) = true := by decide +kernel
theorem jmA_11_1 : jmT_11_1.all (jm_mck 11) = true := by decide +kernel
theorem jmA_11_2 : jmT_11_2.all (jm_mck 11) = true := by decide +kernel
theorem jmA_11_3 : jmT_11_3.all (jm_mck 11) = true := by decide +kernel
theorem jmA_11_4 : jmT_11_4.all (jm_mck 11) = true := by decide +kernel
theorem jmA_12_0 : jmT_12_0.all (jm_mck 12) = true := by decide +kernel
theorem jmA_12_1 : jmT_12_1.all (jm_mck 12) = true := by decide +kernel
theorem jmA_12_2 : jmT_12_2.all (jm_mck 12) = true := by decide +kernel
theorem jmA_12_3 : jmT_12_3.all (jm_mck 12) = true := by decide +kernel
theorem jmA_12_4 : jmT_12_4.all (jm_mck 12) = true := by decide +kernel
theorem jmA_12_5 : jmT_12_5.all (jm_mck 12) = true := by decide +kernel
theorem jall_app {α : Type} {f : α → Bool} {a b : List α} (h1 : a.all f = true) (h2 : b.all f = true) : (a ++ b).all f = true := by rw [List.all_append, h1, h2]; rfl
theorem jm_mth_all : ∀ k ∈ [0, 1, 2, 3, 4, 5, 6, 7, 8, 9, 10, 11, 12, 13, 14], (jm_mthT k).all (jm_mck k) = true := by
  intro k hk
  simp only [List.mem_cons, List.not_mem_nil, or_false] at hk
  rcases hk with rfl | rfl | rfl | rfl | rfl | rfl | rfl | rfl | rfl | rfl | rfl | rfl | rfl | rfl | rfl
  · exact (jall_app jmA_0_0 jmA_0_1)
  · exact jmA_1_0
  · rfl
  · exact jmA_3_0
  · exact (jall_app jmA_4_0 jmA_4_1)
  · exact jmA_5_0
  · exact (jall_app jmA_6_0 jmA_6_1)
  · exact (jall_app jmA_7_0 jmA_7_1)
  · exact jmA_8_0
  · exact jmA_9_0
  · exact (jall_app jmA_10_0 (jall_app jmA_10_1 (jall_app jmA_10_2 (jall_app jmA_10_3 jmA_10_4))))
  · exact (jall_app jmA_11_0 (jall_app jmA_11_1 (jall_app jmA_11_2 (jall_app jmA_11_3 jmA_11_4))))
  · exact (jall_app jmA_12_0 (jall_app jmA_12_1 (jall_app jmA_12_2 (jall_app jmA_12_3 (jall_app jmA_12_4 jmA_12_5)))))
  · rfl
  · rfl
theorem jm_mth_ok : ∀ k idx kd y n, jm_mth k idx = some (kd, y, n) → (parseMethodDescriptor (jm_nm y).desc).map (fun d => d.parameters.length) = some n ∧
    ((kd = 0 ∨ kd = 1 ∨ kd = 2) → Cond.methodLink (jm_cn k) idx (jm_nm y) ∈ jm_gw) ∧ ((kd = 3 ∨ kd = 4 ∨ kd = 5) → Cond.methodLinkNest (jm_cn k) idx (jm_nm y) jm_host ∈ jm_nest) ∧
    ((kd = 0 ∨ kd = 3) → Cond.instanceMethod (jm_nm y) ∈ jm_gw ∧ Cond.selects (jm_nm y).cls (jm_nm y) (jm_nm y) ∈ jm_gw ∧ vwCl[jm_own y]?.map (fun q => q.1) = some (jm_nm y).cls) ∧
    ((kd = 1 ∨ kd = 4) → Cond.instanceMethod (jm_nm y) ∈ jm_gw ∧ (jm_nm y).name = "<init>" ∧ jm_ret y = none) ∧ ((kd = 2 ∨ kd = 5) → Cond.static (jm_nm y) ∈ jm_gw) := by
  intro k idx kd y n h
  unfold jm_mth at h
  obtain ⟨q, hf, hq⟩ := Option.map_eq_some_iff.mp h
  have hm := List.mem_of_find?_eq_some hf
  have hi := List.find?_some hf
  have hk : k ∈ [0, 1, 2, 3, 4, 5, 6, 7, 8, 9, 10, 11, 12, 13, 14] := by
    rcases Nat.lt_or_ge k 15 with h9 | h9
    · have : ∀ k, k < 15 → k ∈ [0, 1, 2, 3, 4, 5, 6, 7, 8, 9, 10, 11, 12, 13, 14] := by decide
      exact this k h9
    · exfalso
      match k, h9, hm with
      | k + 15, _, hm => exact absurd hm List.not_mem_nil
  have hc := List.all_eq_true.mp (jm_mth_all k hk) _ hm
  cases hq
  simp only [beq_iff_eq] at hi
  subst hi
  unfold jm_mck at hc
  simp only [Bool.and_eq_true] at hc
  obtain ⟨⟨h1, h2⟩, h3⟩ := hc
  refine ⟨of_decide_eq_true h1, fun hk => ?_, fun hk => ?_, fun hk => ?_, fun hk => ?_, fun hk => ?_⟩
  · rw [if_pos (by omega)] at h2
    exact jck_ok h2
  · rw [if_neg (by omega)] at h2
    exact of_decide_eq_true h2
  · rw [if_pos hk] at h3
    simp only [Bool.and_eq_true] at h3
    exact ⟨jck_ok h3.1.1, jck_ok h3.1.2, of_decide_eq_true h3.2⟩
  · rw [if_neg (by omega), if_pos hk] at h3
    simp only [Bool.and_eq_true] at h3
    exact ⟨jck_ok h3.1.1, of_decide_eq_true h3.1.2, of_decide_eq_true h3.2⟩
  · rw [if_neg (by omega), if_neg (by omega)] at h3
    exact jck_ok h3
end
section
theorem jd_app {c : ByteArray} {a b : List (Nat × Instr × Nat)} (h1 : ∀ e ∈ a, decode c e.1 = .ok e.2) (h2 : ∀ e ∈ b, decode c e.1 = .ok e.2) : ∀ e ∈ a ++ b, decode c e.1 = .ok e.2 := fun e h => (List.mem_append.mp h).elim (h1 e) (h2 e)
set_option maxRecDepth 100000 in
theorem jd_0_0 : ∀ e ∈ jt_0_0, decode cL_law e.1 = .ok e.2 := by decide +kernel
set_option maxRecDepth 100000 in
theorem jd_0_1 : ∀ e ∈ jt_0_1, decode cL_law e.1 = .ok e.2 := by decide +kernel
set_option maxRecDepth 100000 in
theorem jd_0_2 : ∀ e ∈ jt_0_2, decode cL_law e.1 = .ok e.2 := by decide +kernel
set_option maxRecDepth 100000 in
theorem jd_0_3 : ∀ e ∈ jt_0_3, decode cL_law e.1 = .ok e.2 := by decide +kernel
set_option maxRecDepth 100000 in
theorem jd_0_4 : ∀ e ∈ jt_0_4, decode cL_law e.1 = .ok e.2 := by decide +kernel
set_option maxRecDepth 100000 in
theorem jd_0_5 : ∀ e ∈ jt_0_5, decode cL_law e.1 = .ok e.2 := by decide +kernel
set_option maxRecDepth 100000 in
theorem jd_0_6 : ∀ e ∈ jt_0_6, decode cL_law e.1 = .ok e.2 := by decide +kernel
set_option maxRecDepth 100000 in
theorem jd_0_7 : ∀ e ∈ jt_0_7, decode cL_law e.1 = .ok e.2 := by decide +kernel
set_option maxRecDepth 100000 in
theorem jd_0_8 : ∀ e ∈ jt_0_8, decode cL_law e.1 = .ok e.2 := by decide +kernel
set_option maxRecDepth 100000 in
theorem jd_0_9 : ∀ e ∈ jt_0_9, decode cL_law e.1 = .ok e.2 := by decide +kernel
set_option maxRecDepth 100000 in
theorem jd_0_10 : ∀ e ∈ jt_0_10, decode cL_law e.1 = .ok e.2 := by decide +kernel
end
section
set_option maxRecDepth 100000 in
theorem jd_0_11 : ∀ e ∈ jt_0_11, decode cL_law e.1 = .ok e.2 := by decide +kernel
set_option maxRecDepth 100000 in
theorem jd_0_12 : ∀ e ∈ jt_0_12, decode cL_law e.1 = .ok e.2 := by decide +kernel
set_option maxRecDepth 100000 in
theorem jd_0_13 : ∀ e ∈ jt_0_13, decode cL_law e.1 = .ok e.2 := by decide +kernel
set_option maxRecDepth 100000 in
theorem jd_0_14 : ∀ e ∈ jt_0_14, decode cL_law e.1 = .ok e.2 := by decide +kernel
set_option maxRecDepth 100000 in
theorem jd_0_15 : ∀ e ∈ jt_0_15, decode cL_law e.1 = .ok e.2 := by decide +kernel
set_option maxRecDepth 100000 in
theorem jd_0_16 : ∀ e ∈ jt_0_16, decode cL_law e.1 = .ok e.2 := by decide +kernel
set_option maxRecDepth 100000 in
theorem jd_0_17 : ∀ e ∈ jt_0_17, decode cL_law e.1 = .ok e.2 := by decide +kernel
theorem jd_0 : ∀ e ∈ jt_0, decode cL_law e.1 = .ok e.2 := jd_app jd_0_0 (jd_app jd_0_1 (jd_app jd_0_2 (jd_app jd_0_3 (jd_app jd_0_4 (jd_app jd_0_5 (jd_app jd_0_6 (jd_app jd_0_7 (jd_app jd_0_8 (jd_app jd_0_9 (jd_app jd_0_10 (jd_app jd_0_11 (jd_app jd_0_12 (jd_app jd_0_13 (jd_app jd_0_14 (jd_app jd_0_15 (jd_app jd_0_16 (jd_0_17)))))))))))))))))
set_option maxRecDepth 100000 in
theorem jd_1_0 : ∀ e ∈ jt_1_0, decode cX0_init e.1 = .ok e.2 := by decide +kernel
set_option maxRecDepth 100000 in
theorem jd_1_1 : ∀ e ∈ jt_1_1, decode cX0_init e.1 = .ok e.2 := by decide +kernel
theorem jd_1 : ∀ e ∈ jt_1, decode cX0_init e.1 = .ok e.2 := jd_app jd_1_0 (jd_1_1)
set_option maxRecDepth 100000 in
theorem jd_2 : ∀ e ∈ jt_2, decode cX0_empty e.1 = .ok e.2 := by decide +kernel
set_option maxRecDepth 100000 in
theorem jd_3 : ∀ e ∈ jt_3, decode cX0_hasRole e.1 = .ok e.2 := by decide +kernel
set_option maxRecDepth 100000 in
theorem jd_4 : ∀ e ∈ jt_4, decode cX0_hasSession e.1 = .ok e.2 := by decide +kernel
set_option maxRecDepth 100000 in
theorem jd_5 : ∀ e ∈ jt_5, decode cX0_hasClaim e.1 = .ok e.2 := by decide +kernel
end
section
set_option maxRecDepth 100000 in
theorem jd_6 : ∀ e ∈ jt_6, decode cX0_hasVariable e.1 = .ok e.2 := by decide +kernel
set_option maxRecDepth 100000 in
theorem jd_7 : ∀ e ∈ jt_7, decode cX0_newRole e.1 = .ok e.2 := by decide +kernel
set_option maxRecDepth 100000 in
theorem jd_8 : ∀ e ∈ jt_8, decode cX0_mayBeEvent e.1 = .ok e.2 := by decide +kernel
set_option maxRecDepth 100000 in
theorem jd_9 : ∀ e ∈ jt_9, decode cX0_newEvent e.1 = .ok e.2 := by decide +kernel
set_option maxRecDepth 100000 in
theorem jd_10 : ∀ e ∈ jt_10, decode cX0_bindIn e.1 = .ok e.2 := by decide +kernel
set_option maxRecDepth 100000 in
theorem jd_11_0 : ∀ e ∈ jt_11_0, decode cX0_listVariables e.1 = .ok e.2 := by decide +kernel
set_option maxRecDepth 100000 in
theorem jd_11_1 : ∀ e ∈ jt_11_1, decode cX0_listVariables e.1 = .ok e.2 := by decide +kernel
theorem jd_11 : ∀ e ∈ jt_11, decode cX0_listVariables e.1 = .ok e.2 := jd_app jd_11_0 (jd_11_1)
set_option maxRecDepth 100000 in
theorem jd_12 : ∀ e ∈ jt_12, decode cX0_isKnown e.1 = .ok e.2 := by decide +kernel
set_option maxRecDepth 100000 in
theorem jd_13 : ∀ e ∈ jt_13, decode cX0_learn e.1 = .ok e.2 := by decide +kernel
set_option maxRecDepth 100000 in
theorem jd_14_0 : ∀ e ∈ jt_14_0, decode cX0_newSession e.1 = .ok e.2 := by decide +kernel
set_option maxRecDepth 100000 in
theorem jd_14_1 : ∀ e ∈ jt_14_1, decode cX0_newSession e.1 = .ok e.2 := by decide +kernel
set_option maxRecDepth 100000 in
theorem jd_14_2 : ∀ e ∈ jt_14_2, decode cX0_newSession e.1 = .ok e.2 := by decide +kernel
end
section
set_option maxRecDepth 100000 in
theorem jd_14_3 : ∀ e ∈ jt_14_3, decode cX0_newSession e.1 = .ok e.2 := by decide +kernel
theorem jd_14 : ∀ e ∈ jt_14, decode cX0_newSession e.1 = .ok e.2 := jd_app jd_14_0 (jd_app jd_14_1 (jd_app jd_14_2 (jd_14_3)))
set_option maxRecDepth 100000 in
theorem jd_15 : ∀ e ∈ jt_15, decode cX0_newClaim e.1 = .ok e.2 := by decide +kernel
set_option maxRecDepth 100000 in
theorem jd_16 : ∀ e ∈ jt_16, decode cX0_doneBy e.1 = .ok e.2 := by decide +kernel
set_option maxRecDepth 100000 in
theorem jd_17 : ∀ e ∈ jt_17, decode cX0_valueOf e.1 = .ok e.2 := by decide +kernel
set_option maxRecDepth 100000 in
theorem jd_18 : ∀ e ∈ jt_18, decode cX0_due e.1 = .ok e.2 := by decide +kernel
set_option maxRecDepth 100000 in
theorem jd_19 : ∀ e ∈ jt_19, decode cX0_hasDoneAll e.1 = .ok e.2 := by decide +kernel
set_option maxRecDepth 100000 in
theorem jd_20 : ∀ e ∈ jt_20, decode cX0_allHaveDoneAll e.1 = .ok e.2 := by decide +kernel
set_option maxRecDepth 100000 in
theorem jd_21 : ∀ e ∈ jt_21, decode cX0_beginKnowledge e.1 = .ok e.2 := by decide +kernel
set_option maxRecDepth 100000 in
theorem jd_22_0 : ∀ e ∈ jt_22_0, decode cX0_fillKnowledge e.1 = .ok e.2 := by decide +kernel
set_option maxRecDepth 100000 in
theorem jd_22_1 : ∀ e ∈ jt_22_1, decode cX0_fillKnowledge e.1 = .ok e.2 := by decide +kernel
theorem jd_22 : ∀ e ∈ jt_22, decode cX0_fillKnowledge e.1 = .ok e.2 := jd_app jd_22_0 (jd_22_1)
set_option maxRecDepth 100000 in
theorem jd_23 : ∀ e ∈ jt_23, decode cX0_hasSecrets e.1 = .ok e.2 := by decide +kernel
set_option maxRecDepth 100000 in
theorem jd_24 : ∀ e ∈ jt_24, decode cX0_breaks e.1 = .ok e.2 := by decide +kernel
set_option maxRecDepth 100000 in
theorem jd_25 : ∀ e ∈ jt_25, decode cX0_leaks e.1 = .ok e.2 := by decide +kernel
set_option maxRecDepth 100000 in
theorem jd_26_0 : ∀ e ∈ jt_26_0, decode cX0_canPartner e.1 = .ok e.2 := by decide +kernel
set_option maxRecDepth 100000 in
theorem jd_26_1 : ∀ e ∈ jt_26_1, decode cX0_canPartner e.1 = .ok e.2 := by decide +kernel
end
section
set_option maxRecDepth 100000 in
theorem jd_26_2 : ∀ e ∈ jt_26_2, decode cX0_canPartner e.1 = .ok e.2 := by decide +kernel
theorem jd_26 : ∀ e ∈ jt_26, decode cX0_canPartner e.1 = .ok e.2 := jd_app jd_26_0 (jd_app jd_26_1 (jd_26_2))
set_option maxRecDepth 100000 in
theorem jd_27 : ∀ e ∈ jt_27, decode cX0_isPartner e.1 = .ok e.2 := by decide +kernel
set_option maxRecDepth 100000 in
theorem jd_28 : ∀ e ∈ jt_28, decode cX1_init e.1 = .ok e.2 := by decide +kernel
set_option maxRecDepth 100000 in
theorem jd_29 : ∀ e ∈ jt_29, decode cX1_listOptions e.1 = .ok e.2 := by decide +kernel
set_option maxRecDepth 100000 in
theorem jd_30 : ∀ e ∈ jt_30, decode cX1_addOption e.1 = .ok e.2 := by decide +kernel
set_option maxRecDepth 100000 in
theorem jd_31 : ∀ e ∈ jt_31, decode cX1_waysOf e.1 = .ok e.2 := by decide +kernel
set_option maxRecDepth 100000 in
theorem jd_32 : ∀ e ∈ jt_32, decode cX1_first e.1 = .ok e.2 := by decide +kernel
set_option maxRecDepth 100000 in
theorem jd_33 : ∀ e ∈ jt_33, decode cX1_next e.1 = .ok e.2 := by decide +kernel
set_option maxRecDepth 100000 in
theorem jd_34 : ∀ e ∈ jt_34, decode cX1_choose e.1 = .ok e.2 := by decide +kernel
set_option maxRecDepth 100000 in
theorem jd_35 : ∀ e ∈ jt_35, decode cX1_weigh e.1 = .ok e.2 := by decide +kernel
set_option maxRecDepth 100000 in
theorem jd_36_0 : ∀ e ∈ jt_36_0, decode cX1_valueOf e.1 = .ok e.2 := by decide +kernel
set_option maxRecDepth 100000 in
theorem jd_36_1 : ∀ e ∈ jt_36_1, decode cX1_valueOf e.1 = .ok e.2 := by decide +kernel
end
section
theorem jd_36 : ∀ e ∈ jt_36, decode cX1_valueOf e.1 = .ok e.2 := jd_app jd_36_0 (jd_36_1)
set_option maxRecDepth 100000 in
theorem jd_37_0 : ∀ e ∈ jt_37_0, decode cX1_canCompose e.1 = .ok e.2 := by decide +kernel
set_option maxRecDepth 100000 in
theorem jd_37_1 : ∀ e ∈ jt_37_1, decode cX1_canCompose e.1 = .ok e.2 := by decide +kernel
theorem jd_37 : ∀ e ∈ jt_37, decode cX1_canCompose e.1 = .ok e.2 := jd_app jd_37_0 (jd_37_1)
set_option maxRecDepth 100000 in
theorem jd_38 : ∀ e ∈ jt_38, decode cX2_init e.1 = .ok e.2 := by decide +kernel
set_option maxRecDepth 100000 in
theorem jd_39 : ∀ e ∈ jt_39, decode cX2_tie e.1 = .ok e.2 := by decide +kernel
set_option maxRecDepth 100000 in
theorem jd_40 : ∀ e ∈ jt_40, decode cX3_init e.1 = .ok e.2 := by decide +kernel
set_option maxRecDepth 100000 in
theorem jd_41_0 : ∀ e ∈ jt_41_0, decode cX3_plan e.1 = .ok e.2 := by decide +kernel
set_option maxRecDepth 100000 in
theorem jd_41_1 : ∀ e ∈ jt_41_1, decode cX3_plan e.1 = .ok e.2 := by decide +kernel
theorem jd_41 : ∀ e ∈ jt_41, decode cX3_plan e.1 = .ok e.2 := jd_app jd_41_0 (jd_41_1)
set_option maxRecDepth 100000 in
theorem jd_42 : ∀ e ∈ jt_42, decode cX3_markParts e.1 = .ok e.2 := by decide +kernel
set_option maxRecDepth 100000 in
theorem jd_43 : ∀ e ∈ jt_43, decode cX3_levelOf e.1 = .ok e.2 := by decide +kernel
set_option maxRecDepth 100000 in
theorem jd_44 : ∀ e ∈ jt_44, decode cX4_init e.1 = .ok e.2 := by decide +kernel
set_option maxRecDepth 100000 in
theorem jd_45 : ∀ e ∈ jt_45, decode cX4_start e.1 = .ok e.2 := by decide +kernel
end
section
set_option maxRecDepth 100000 in
theorem jd_46 : ∀ e ∈ jt_46, decode cX4_isUnnumbered e.1 = .ok e.2 := by decide +kernel
set_option maxRecDepth 100000 in
theorem jd_47 : ∀ e ∈ jt_47, decode cX4_has e.1 = .ok e.2 := by decide +kernel
set_option maxRecDepth 100000 in
theorem jd_48 : ∀ e ∈ jt_48, decode cX4_find e.1 = .ok e.2 := by decide +kernel
set_option maxRecDepth 100000 in
theorem jd_49_0 : ∀ e ∈ jt_49_0, decode cX4_findOrPut e.1 = .ok e.2 := by decide +kernel
set_option maxRecDepth 100000 in
theorem jd_49_1 : ∀ e ∈ jt_49_1, decode cX4_findOrPut e.1 = .ok e.2 := by decide +kernel
set_option maxRecDepth 100000 in
theorem jd_49_2 : ∀ e ∈ jt_49_2, decode cX4_findOrPut e.1 = .ok e.2 := by decide +kernel
theorem jd_49 : ∀ e ∈ jt_49, decode cX4_findOrPut e.1 = .ok e.2 := jd_app jd_49_0 (jd_app jd_49_1 (jd_49_2))
set_option maxRecDepth 100000 in
theorem jd_50_0 : ∀ e ∈ jt_50_0, decode cX4_groundOf e.1 = .ok e.2 := by decide +kernel
set_option maxRecDepth 100000 in
theorem jd_50_1 : ∀ e ∈ jt_50_1, decode cX4_groundOf e.1 = .ok e.2 := by decide +kernel
theorem jd_50 : ∀ e ∈ jt_50, decode cX4_groundOf e.1 = .ok e.2 := jd_app jd_50_0 (jd_50_1)
set_option maxRecDepth 100000 in
theorem jd_51_0 : ∀ e ∈ jt_51_0, decode cX4_add e.1 = .ok e.2 := by decide +kernel
set_option maxRecDepth 100000 in
theorem jd_51_1 : ∀ e ∈ jt_51_1, decode cX4_add e.1 = .ok e.2 := by decide +kernel
set_option maxRecDepth 100000 in
theorem jd_51_2 : ∀ e ∈ jt_51_2, decode cX4_add e.1 = .ok e.2 := by decide +kernel
theorem jd_51 : ∀ e ∈ jt_51, decode cX4_add e.1 = .ok e.2 := jd_app jd_51_0 (jd_app jd_51_1 (jd_51_2))
set_option maxRecDepth 100000 in
theorem jd_52 : ∀ e ∈ jt_52, decode cX4_takeApart e.1 = .ok e.2 := by decide +kernel
end
section
set_option maxRecDepth 100000 in
theorem jd_53_0 : ∀ e ∈ jt_53_0, decode cX4_takeApartAt e.1 = .ok e.2 := by decide +kernel
set_option maxRecDepth 100000 in
theorem jd_53_1 : ∀ e ∈ jt_53_1, decode cX4_takeApartAt e.1 = .ok e.2 := by decide +kernel
theorem jd_53 : ∀ e ∈ jt_53, decode cX4_takeApartAt e.1 = .ok e.2 := jd_app jd_53_0 (jd_53_1)
set_option maxRecDepth 100000 in
theorem jd_54 : ∀ e ∈ jt_54, decode cX4_hasPrivateOf e.1 = .ok e.2 := by decide +kernel
set_option maxRecDepth 100000 in
theorem jd_55_0 : ∀ e ∈ jt_55_0, decode cX4_canMake e.1 = .ok e.2 := by decide +kernel
set_option maxRecDepth 100000 in
theorem jd_55_1 : ∀ e ∈ jt_55_1, decode cX4_canMake e.1 = .ok e.2 := by decide +kernel
set_option maxRecDepth 100000 in
theorem jd_55_2 : ∀ e ∈ jt_55_2, decode cX4_canMake e.1 = .ok e.2 := by decide +kernel
theorem jd_55 : ∀ e ∈ jt_55, decode cX4_canMake e.1 = .ok e.2 := jd_app jd_55_0 (jd_app jd_55_1 (jd_55_2))
set_option maxRecDepth 100000 in
theorem jd_56 : ∀ e ∈ jt_56, decode cX4_missingFor e.1 = .ok e.2 := by decide +kernel
set_option maxRecDepth 100000 in
theorem jd_57 : ∀ e ∈ jt_57, decode cX4_want e.1 = .ok e.2 := by decide +kernel
set_option maxRecDepth 100000 in
theorem jd_58 : ∀ e ∈ jt_58, decode cX4_giveNumber e.1 = .ok e.2 := by decide +kernel
set_option maxRecDepth 100000 in
theorem jd_59 : ∀ e ∈ jt_59, decode cX5_init e.1 = .ok e.2 := by decide +kernel
set_option maxRecDepth 100000 in
theorem jd_60 : ∀ e ∈ jt_60, decode cX5_empty e.1 = .ok e.2 := by decide +kernel
set_option maxRecDepth 100000 in
theorem jd_61 : ∀ e ∈ jt_61, decode cX5_tell e.1 = .ok e.2 := by decide +kernel
end
section
set_option maxRecDepth 100000 in
theorem jd_62 : ∀ e ∈ jt_62, decode cX5_has e.1 = .ok e.2 := by decide +kernel
set_option maxRecDepth 100000 in
theorem jd_63 : ∀ e ∈ jt_63, decode cX5_waitsFor e.1 = .ok e.2 := by decide +kernel
set_option maxRecDepth 100000 in
theorem jd_64 : ∀ e ∈ jt_64, decode cX5_countOf e.1 = .ok e.2 := by decide +kernel
set_option maxRecDepth 100000 in
theorem jd_65 : ∀ e ∈ jt_65, decode cX6_init e.1 = .ok e.2 := by decide +kernel
set_option maxRecDepth 100000 in
theorem jd_66 : ∀ e ∈ jt_66, decode cX6_start e.1 = .ok e.2 := by decide +kernel
set_option maxRecDepth 100000 in
theorem jd_67 : ∀ e ∈ jt_67, decode cX6_intruder e.1 = .ok e.2 := by decide +kernel
set_option maxRecDepth 100000 in
theorem jd_68_0 : ∀ e ∈ jt_68_0, decode cX6_gather e.1 = .ok e.2 := by decide +kernel
set_option maxRecDepth 100000 in
theorem jd_68_1 : ∀ e ∈ jt_68_1, decode cX6_gather e.1 = .ok e.2 := by decide +kernel
theorem jd_68 : ∀ e ∈ jt_68, decode cX6_gather e.1 = .ok e.2 := jd_app jd_68_0 (jd_68_1)
set_option maxRecDepth 100000 in
theorem jd_69 : ∀ e ∈ jt_69, decode cX6_eventOf e.1 = .ok e.2 := by decide +kernel
set_option maxRecDepth 100000 in
theorem jd_70 : ∀ e ∈ jt_70, decode cX6_step e.1 = .ok e.2 := by decide +kernel
set_option maxRecDepth 100000 in
theorem jd_71_0 : ∀ e ∈ jt_71_0, decode cX6_takeBack e.1 = .ok e.2 := by decide +kernel
set_option maxRecDepth 100000 in
theorem jd_71_1 : ∀ e ∈ jt_71_1, decode cX6_takeBack e.1 = .ok e.2 := by decide +kernel
theorem jd_71 : ∀ e ∈ jt_71, decode cX6_takeBack e.1 = .ok e.2 := jd_app jd_71_0 (jd_71_1)
set_option maxRecDepth 100000 in
theorem jd_72 : ∀ e ∈ jt_72, decode cX6_follow e.1 = .ok e.2 := by decide +kernel
set_option maxRecDepth 100000 in
theorem jd_73 : ∀ e ∈ jt_73, decode cX6_accepts e.1 = .ok e.2 := by decide +kernel
end
section
set_option maxRecDepth 100000 in
theorem jd_74_0 : ∀ e ∈ jt_74_0, decode cX6_matches e.1 = .ok e.2 := by decide +kernel
set_option maxRecDepth 100000 in
theorem jd_74_1 : ∀ e ∈ jt_74_1, decode cX6_matches e.1 = .ok e.2 := by decide +kernel
set_option maxRecDepth 100000 in
theorem jd_74_2 : ∀ e ∈ jt_74_2, decode cX6_matches e.1 = .ok e.2 := by decide +kernel
theorem jd_74 : ∀ e ∈ jt_74, decode cX6_matches e.1 = .ok e.2 := jd_app jd_74_0 (jd_app jd_74_1 (jd_74_2))
set_option maxRecDepth 100000 in
theorem jd_75 : ∀ e ∈ jt_75, decode cX6_mayStand e.1 = .ok e.2 := by decide +kernel
set_option maxRecDepth 100000 in
theorem jd_76 : ∀ e ∈ jt_76, decode cX7_init e.1 = .ok e.2 := by decide +kernel
set_option maxRecDepth 100000 in
theorem jd_77 : ∀ e ∈ jt_77, decode cX7_hasAttack e.1 = .ok e.2 := by decide +kernel
set_option maxRecDepth 100000 in
theorem jd_78 : ∀ e ∈ jt_78, decode cX7_attackBase e.1 = .ok e.2 := by decide +kernel
set_option maxRecDepth 100000 in
theorem jd_79 : ∀ e ∈ jt_79, decode cX7_forget e.1 = .ok e.2 := by decide +kernel
set_option maxRecDepth 100000 in
theorem jd_80 : ∀ e ∈ jt_80, decode cX7_start e.1 = .ok e.2 := by decide +kernel
set_option maxRecDepth 100000 in
theorem jd_81 : ∀ e ∈ jt_81, decode cX7_goesOn e.1 = .ok e.2 := by decide +kernel
set_option maxRecDepth 100000 in
theorem jd_82_0 : ∀ e ∈ jt_82_0, decode cX7_goThrough e.1 = .ok e.2 := by decide +kernel
set_option maxRecDepth 100000 in
theorem jd_82_1 : ∀ e ∈ jt_82_1, decode cX7_goThrough e.1 = .ok e.2 := by decide +kernel
set_option maxRecDepth 100000 in
theorem jd_82_2 : ∀ e ∈ jt_82_2, decode cX7_goThrough e.1 = .ok e.2 := by decide +kernel
end
section
theorem jd_82 : ∀ e ∈ jt_82, decode cX7_goThrough e.1 = .ok e.2 := jd_app jd_82_0 (jd_app jd_82_1 (jd_82_2))
set_option maxRecDepth 100000 in
theorem jd_83_0 : ∀ e ∈ jt_83_0, decode cX7_tryWays e.1 = .ok e.2 := by decide +kernel
set_option maxRecDepth 100000 in
theorem jd_83_1 : ∀ e ∈ jt_83_1, decode cX7_tryWays e.1 = .ok e.2 := by decide +kernel
theorem jd_83 : ∀ e ∈ jt_83, decode cX7_tryWays e.1 = .ok e.2 := jd_app jd_83_0 (jd_83_1)
set_option maxRecDepth 100000 in
theorem jd_84_0 : ∀ e ∈ jt_84_0, decode cX7_reach e.1 = .ok e.2 := by decide +kernel
set_option maxRecDepth 100000 in
theorem jd_84_1 : ∀ e ∈ jt_84_1, decode cX7_reach e.1 = .ok e.2 := by decide +kernel
theorem jd_84 : ∀ e ∈ jt_84, decode cX7_reach e.1 = .ok e.2 := jd_app jd_84_0 (jd_84_1)
set_option maxRecDepth 100000 in
theorem jd_85 : ∀ e ∈ jt_85, decode cX7_tracePath e.1 = .ok e.2 := by decide +kernel
set_option maxRecDepth 100000 in
theorem jd_86 : ∀ e ∈ jt_86, decode cX8_init e.1 = .ok e.2 := by decide +kernel
set_option maxRecDepth 100000 in
theorem jd_87 : ∀ e ∈ jt_87, decode cX8_empty e.1 = .ok e.2 := by decide +kernel
set_option maxRecDepth 100000 in
theorem jd_88 : ∀ e ∈ jt_88, decode cX8_slotOf e.1 = .ok e.2 := by decide +kernel
set_option maxRecDepth 100000 in
theorem jd_89 : ∀ e ∈ jt_89, decode cX8_has e.1 = .ok e.2 := by decide +kernel
set_option maxRecDepth 100000 in
theorem jd_90 : ∀ e ∈ jt_90, decode cX8_isSame e.1 = .ok e.2 := by decide +kernel
set_option maxRecDepth 100000 in
theorem jd_91 : ∀ e ∈ jt_91, decode cX8_add e.1 = .ok e.2 := by decide +kernel
set_option maxRecDepth 100000 in
theorem jd_92 : ∀ e ∈ jt_92, decode cX9_init e.1 = .ok e.2 := by decide +kernel
end
section
set_option maxRecDepth 100000 in
theorem jd_93 : ∀ e ∈ jt_93, decode cX9_empty e.1 = .ok e.2 := by decide +kernel
set_option maxRecDepth 100000 in
theorem jd_94 : ∀ e ∈ jt_94, decode cX9_slotOf e.1 = .ok e.2 := by decide +kernel
set_option maxRecDepth 100000 in
theorem jd_95 : ∀ e ∈ jt_95, decode cX9_has e.1 = .ok e.2 := by decide +kernel
set_option maxRecDepth 100000 in
theorem jd_96 : ∀ e ∈ jt_96, decode cX9_isFull e.1 = .ok e.2 := by decide +kernel
set_option maxRecDepth 100000 in
theorem jd_97 : ∀ e ∈ jt_97, decode cX9_isAgent e.1 = .ok e.2 := by decide +kernel
set_option maxRecDepth 100000 in
theorem jd_98 : ∀ e ∈ jt_98, decode cX9_isHonest e.1 = .ok e.2 := by decide +kernel
set_option maxRecDepth 100000 in
theorem jd_99 : ∀ e ∈ jt_99, decode cX9_mayBeAgent e.1 = .ok e.2 := by decide +kernel
set_option maxRecDepth 100000 in
theorem jd_100 : ∀ e ∈ jt_100, decode cX9_isOpen e.1 = .ok e.2 := by decide +kernel
set_option maxRecDepth 100000 in
theorem jd_101 : ∀ e ∈ jt_101, decode cX9_sizeOf e.1 = .ok e.2 := by decide +kernel
set_option maxRecDepth 100000 in
theorem jd_102 : ∀ e ∈ jt_102, decode cX9_find e.1 = .ok e.2 := by decide +kernel
set_option maxRecDepth 100000 in
theorem jd_103 : ∀ e ∈ jt_103, decode cX9_findFrom e.1 = .ok e.2 := by decide +kernel
set_option maxRecDepth 100000 in
theorem jd_104 : ∀ e ∈ jt_104, decode cX9_newAtom e.1 = .ok e.2 := by decide +kernel
set_option maxRecDepth 100000 in
theorem jd_105 : ∀ e ∈ jt_105, decode cX9_newVariable e.1 = .ok e.2 := by decide +kernel
set_option maxRecDepth 100000 in
theorem jd_106 : ∀ e ∈ jt_106, decode cX9_newCompound e.1 = .ok e.2 := by decide +kernel
set_option maxRecDepth 100000 in
theorem jd_107_0 : ∀ e ∈ jt_107_0, decode cX9_put e.1 = .ok e.2 := by decide +kernel
set_option maxRecDepth 100000 in
theorem jd_107_1 : ∀ e ∈ jt_107_1, decode cX9_put e.1 = .ok e.2 := by decide +kernel
theorem jd_107 : ∀ e ∈ jt_107, decode cX9_put e.1 = .ok e.2 := jd_app jd_107_0 (jd_107_1)
set_option maxRecDepth 100000 in
theorem jd_108 : ∀ e ∈ jt_108, decode cX10_init e.1 = .ok e.2 := by decide +kernel
set_option maxRecDepth 100000 in
theorem jd_109 : ∀ e ∈ jt_109, decode cX10_agent e.1 = .ok e.2 := by decide +kernel
set_option maxRecDepth 100000 in
theorem jd_110 : ∀ e ∈ jt_110, decode cX10_atom e.1 = .ok e.2 := by decide +kernel
set_option maxRecDepth 100000 in
theorem jd_111 : ∀ e ∈ jt_111, decode cX10_term e.1 = .ok e.2 := by decide +kernel
end
section
set_option maxRecDepth 100000 in
theorem jd_112 : ∀ e ∈ jt_112, decode cX10_of e.1 = .ok e.2 := by decide +kernel
set_option maxRecDepth 100000 in
theorem jd_113_0 : ∀ e ∈ jt_113_0, decode cX10_about e.1 = .ok e.2 := by decide +kernel
set_option maxRecDepth 100000 in
theorem jd_113_1 : ∀ e ∈ jt_113_1, decode cX10_about e.1 = .ok e.2 := by decide +kernel
set_option maxRecDepth 100000 in
theorem jd_113_2 : ∀ e ∈ jt_113_2, decode cX10_about e.1 = .ok e.2 := by decide +kernel
theorem jd_113 : ∀ e ∈ jt_113, decode cX10_about e.1 = .ok e.2 := jd_app jd_113_0 (jd_app jd_113_1 (jd_113_2))
set_option maxRecDepth 100000 in
theorem jd_114 : ∀ e ∈ jt_114, decode cX10_role e.1 = .ok e.2 := by decide +kernel
set_option maxRecDepth 100000 in
theorem jd_115 : ∀ e ∈ jt_115, decode cX10_variable e.1 = .ok e.2 := by decide +kernel
set_option maxRecDepth 100000 in
theorem jd_116 : ∀ e ∈ jt_116, decode cX10_event e.1 = .ok e.2 := by decide +kernel
set_option maxRecDepth 100000 in
theorem jd_117 : ∀ e ∈ jt_117, decode cX10_know e.1 = .ok e.2 := by decide +kernel
set_option maxRecDepth 100000 in
theorem jd_118_0 : ∀ e ∈ jt_118_0, decode cX10_session e.1 = .ok e.2 := by decide +kernel
set_option maxRecDepth 100000 in
theorem jd_118_1 : ∀ e ∈ jt_118_1, decode cX10_session e.1 = .ok e.2 := by decide +kernel
set_option maxRecDepth 100000 in
theorem jd_118_2 : ∀ e ∈ jt_118_2, decode cX10_session e.1 = .ok e.2 := by decide +kernel
end
section
theorem jd_118 : ∀ e ∈ jt_118, decode cX10_session e.1 = .ok e.2 := jd_app jd_118_0 (jd_app jd_118_1 (jd_118_2))
set_option maxRecDepth 100000 in
theorem jd_119 : ∀ e ∈ jt_119, decode cX10_secret e.1 = .ok e.2 := by decide +kernel
set_option maxRecDepth 100000 in
theorem jd_120 : ∀ e ∈ jt_120, decode cX10_agree e.1 = .ok e.2 := by decide +kernel
set_option maxRecDepth 100000 in
theorem jd_121 : ∀ e ∈ jt_121, decode cX10_join e.1 = .ok e.2 := by decide +kernel
set_option maxRecDepth 100000 in
theorem jd_122 : ∀ e ∈ jt_122, decode cX10_begin e.1 = .ok e.2 := by decide +kernel
set_option maxRecDepth 100000 in
theorem jd_123 : ∀ e ∈ jt_123, decode cX10_end e.1 = .ok e.2 := by decide +kernel
set_option maxRecDepth 100000 in
theorem jd_124 : ∀ e ∈ jt_124, decode cX10_send e.1 = .ok e.2 := by decide +kernel
set_option maxRecDepth 100000 in
theorem jd_125_0 : ∀ e ∈ jt_125_0, decode cX10_receive e.1 = .ok e.2 := by decide +kernel
set_option maxRecDepth 100000 in
theorem jd_125_1 : ∀ e ∈ jt_125_1, decode cX10_receive e.1 = .ok e.2 := by decide +kernel
theorem jd_125 : ∀ e ∈ jt_125, decode cX10_receive e.1 = .ok e.2 := jd_app jd_125_0 (jd_125_1)
set_option maxRecDepth 100000 in
theorem jd_126 : ∀ e ∈ jt_126, decode cX10_makes e.1 = .ok e.2 := by decide +kernel
set_option maxRecDepth 100000 in
theorem jd_127 : ∀ e ∈ jt_127, decode cX10_row e.1 = .ok e.2 := by decide +kernel
set_option maxRecDepth 100000 in
theorem jd_128 : ∀ e ∈ jt_128, decode cX10_stands e.1 = .ok e.2 := by decide +kernel
set_option maxRecDepth 100000 in
theorem jd_129 : ∀ e ∈ jt_129, decode cX10_done e.1 = .ok e.2 := by decide +kernel
set_option maxRecDepth 100000 in
theorem jd_130 : ∀ e ∈ jt_130, decode cX10_broken e.1 = .ok e.2 := by decide +kernel
end
section
set_option maxRecDepth 100000 in
theorem jd_131 : ∀ e ∈ jt_131, decode cX10_undo e.1 = .ok e.2 := by decide +kernel
set_option maxRecDepth 100000 in
theorem jd_132 : ∀ e ∈ jt_132, decode cX10_search e.1 = .ok e.2 := by decide +kernel
set_option maxRecDepth 100000 in
theorem jd_133 : ∀ e ∈ jt_133, decode cX10_found e.1 = .ok e.2 := by decide +kernel
set_option maxRecDepth 100000 in
theorem jd_134 : ∀ e ∈ jt_134, decode cX10_attack e.1 = .ok e.2 := by decide +kernel
set_option maxRecDepth 100000 in
theorem jd_135 : ∀ e ∈ jt_135, decode cX10_play e.1 = .ok e.2 := by decide +kernel
set_option maxRecDepth 100000 in
theorem jd_136 : ∀ e ∈ jt_136, decode cX10_told e.1 = .ok e.2 := by decide +kernel
set_option maxRecDepth 100000 in
theorem jd_137_0 : ∀ e ∈ jt_137_0, decode cX10_ofRole e.1 = .ok e.2 := by decide +kernel
set_option maxRecDepth 100000 in
theorem jd_137_1 : ∀ e ∈ jt_137_1, decode cX10_ofRole e.1 = .ok e.2 := by decide +kernel
set_option maxRecDepth 100000 in
theorem jd_137_2 : ∀ e ∈ jt_137_2, decode cX10_ofRole e.1 = .ok e.2 := by decide +kernel
theorem jd_137 : ∀ e ∈ jt_137, decode cX10_ofRole e.1 = .ok e.2 := jd_app jd_137_0 (jd_app jd_137_1 (jd_137_2))
set_option maxRecDepth 100000 in
theorem jd_138 : ∀ e ∈ jt_138, decode cX10_clear e.1 = .ok e.2 := by decide +kernel
set_option maxRecDepth 100000 in
theorem jd_139 : ∀ e ∈ jt_139, decode cX10_asNumber e.1 = .ok e.2 := by decide +kernel
set_option maxRecDepth 100000 in
theorem jd_140 : ∀ e ∈ jt_140, decode cX10_orNone e.1 = .ok e.2 := by decide +kernel
set_option maxRecDepth 100000 in
theorem jd_141 : ∀ e ∈ jt_141, decode cX10_maySort e.1 = .ok e.2 := by decide +kernel
set_option maxRecDepth 100000 in
theorem jd_142 : ∀ e ∈ jt_142, decode cX10_compound e.1 = .ok e.2 := by decide +kernel
set_option maxRecDepth 100000 in
theorem jd_143 : ∀ e ∈ jt_143, decode cX10_numbered e.1 = .ok e.2 := by decide +kernel
end
section
set_option maxRecDepth 100000 in
theorem jd_144_0 : ∀ e ∈ jt_144_0, decode cX11_init e.1 = .ok e.2 := by decide +kernel
set_option maxRecDepth 100000 in
theorem jd_144_1 : ∀ e ∈ jt_144_1, decode cX11_init e.1 = .ok e.2 := by decide +kernel
set_option maxRecDepth 100000 in
theorem jd_144_2 : ∀ e ∈ jt_144_2, decode cX11_init e.1 = .ok e.2 := by decide +kernel
set_option maxRecDepth 100000 in
theorem jd_144_3 : ∀ e ∈ jt_144_3, decode cX11_init e.1 = .ok e.2 := by decide +kernel
set_option maxRecDepth 100000 in
theorem jd_144_4 : ∀ e ∈ jt_144_4, decode cX11_init e.1 = .ok e.2 := by decide +kernel
set_option maxRecDepth 100000 in
theorem jd_144_5 : ∀ e ∈ jt_144_5, decode cX11_init e.1 = .ok e.2 := by decide +kernel
set_option maxRecDepth 100000 in
theorem jd_144_6 : ∀ e ∈ jt_144_6, decode cX11_init e.1 = .ok e.2 := by decide +kernel
theorem jd_144 : ∀ e ∈ jt_144, decode cX11_init e.1 = .ok e.2 := jd_app jd_144_0 (jd_app jd_144_1 (jd_app jd_144_2 (jd_app jd_144_3 (jd_app jd_144_4 (jd_app jd_144_5 (jd_144_6))))))
set_option maxRecDepth 100000 in
theorem jd_145 : ∀ e ∈ jt_145, decode cX11_in e.1 = .ok e.2 := by decide +kernel
set_option maxRecDepth 100000 in
theorem jd_146 : ∀ e ∈ jt_146, decode cX11_emptyTable e.1 = .ok e.2 := by decide +kernel
set_option maxRecDepth 100000 in
theorem jd_147 : ∀ e ∈ jt_147, decode cX11_placeOf e.1 = .ok e.2 := by decide +kernel
set_option maxRecDepth 100000 in
theorem jd_148 : ∀ e ∈ jt_148, decode cX11_find e.1 = .ok e.2 := by decide +kernel
set_option maxRecDepth 100000 in
theorem jd_149_0 : ∀ e ∈ jt_149_0, decode cX11_lay e.1 = .ok e.2 := by decide +kernel
set_option maxRecDepth 100000 in
theorem jd_149_1 : ∀ e ∈ jt_149_1, decode cX11_lay e.1 = .ok e.2 := by decide +kernel
end
section
theorem jd_149 : ∀ e ∈ jt_149, decode cX11_lay e.1 = .ok e.2 := jd_app jd_149_0 (jd_149_1)
set_option maxRecDepth 100000 in
theorem jd_150 : ∀ e ∈ jt_150, decode cX11_sizeOf e.1 = .ok e.2 := by decide +kernel
set_option maxRecDepth 100000 in
theorem jd_151 : ∀ e ∈ jt_151, decode cX11_release e.1 = .ok e.2 := by decide +kernel
set_option maxRecDepth 100000 in
theorem jd_152 : ∀ e ∈ jt_152, decode cX11_last e.1 = .ok e.2 := by decide +kernel
set_option maxRecDepth 100000 in
theorem jd_153 : ∀ e ∈ jt_153, decode cX11_made e.1 = .ok e.2 := by decide +kernel
set_option maxRecDepth 100000 in
theorem jd_154 : ∀ e ∈ jt_154, decode cX11_isTerm e.1 = .ok e.2 := by decide +kernel
set_option maxRecDepth 100000 in
theorem jd_155 : ∀ e ∈ jt_155, decode cX11_agent e.1 = .ok e.2 := by decide +kernel
set_option maxRecDepth 100000 in
theorem jd_156 : ∀ e ∈ jt_156, decode cX11_atom e.1 = .ok e.2 := by decide +kernel
set_option maxRecDepth 100000 in
theorem jd_157 : ∀ e ∈ jt_157, decode cX11_oldOrNew e.1 = .ok e.2 := by decide +kernel
set_option maxRecDepth 100000 in
theorem jd_158 : ∀ e ∈ jt_158, decode cX11_term e.1 = .ok e.2 := by decide +kernel
set_option maxRecDepth 100000 in
theorem jd_159 : ∀ e ∈ jt_159, decode cX11_of e.1 = .ok e.2 := by decide +kernel
set_option maxRecDepth 100000 in
theorem jd_160_0 : ∀ e ∈ jt_160_0, decode cX11_about e.1 = .ok e.2 := by decide +kernel
set_option maxRecDepth 100000 in
theorem jd_160_1 : ∀ e ∈ jt_160_1, decode cX11_about e.1 = .ok e.2 := by decide +kernel
set_option maxRecDepth 100000 in
theorem jd_160_2 : ∀ e ∈ jt_160_2, decode cX11_about e.1 = .ok e.2 := by decide +kernel
end
section
theorem jd_160 : ∀ e ∈ jt_160, decode cX11_about e.1 = .ok e.2 := jd_app jd_160_0 (jd_app jd_160_1 (jd_160_2))
set_option maxRecDepth 100000 in
theorem jd_161 : ∀ e ∈ jt_161, decode cX11_isRole e.1 = .ok e.2 := by decide +kernel
set_option maxRecDepth 100000 in
theorem jd_162 : ∀ e ∈ jt_162, decode cX11_role e.1 = .ok e.2 := by decide +kernel
set_option maxRecDepth 100000 in
theorem jd_163_0 : ∀ e ∈ jt_163_0, decode cX11_variable e.1 = .ok e.2 := by decide +kernel
set_option maxRecDepth 100000 in
theorem jd_163_1 : ∀ e ∈ jt_163_1, decode cX11_variable e.1 = .ok e.2 := by decide +kernel
set_option maxRecDepth 100000 in
theorem jd_163_2 : ∀ e ∈ jt_163_2, decode cX11_variable e.1 = .ok e.2 := by decide +kernel
theorem jd_163 : ∀ e ∈ jt_163, decode cX11_variable e.1 = .ok e.2 := jd_app jd_163_0 (jd_app jd_163_1 (jd_163_2))
set_option maxRecDepth 100000 in
theorem jd_164_0 : ∀ e ∈ jt_164_0, decode cX11_findVariables e.1 = .ok e.2 := by decide +kernel
set_option maxRecDepth 100000 in
theorem jd_164_1 : ∀ e ∈ jt_164_1, decode cX11_findVariables e.1 = .ok e.2 := by decide +kernel
set_option maxRecDepth 100000 in
theorem jd_164_2 : ∀ e ∈ jt_164_2, decode cX11_findVariables e.1 = .ok e.2 := by decide +kernel
theorem jd_164 : ∀ e ∈ jt_164, decode cX11_findVariables e.1 = .ok e.2 := jd_app jd_164_0 (jd_app jd_164_1 (jd_164_2))
set_option maxRecDepth 100000 in
theorem jd_165 : ∀ e ∈ jt_165, decode cX11_isReceived e.1 = .ok e.2 := by decide +kernel
set_option maxRecDepth 100000 in
theorem jd_166_0 : ∀ e ∈ jt_166_0, decode cX11_event e.1 = .ok e.2 := by decide +kernel
set_option maxRecDepth 100000 in
theorem jd_166_1 : ∀ e ∈ jt_166_1, decode cX11_event e.1 = .ok e.2 := by decide +kernel
end
section
set_option maxRecDepth 100000 in
theorem jd_166_2 : ∀ e ∈ jt_166_2, decode cX11_event e.1 = .ok e.2 := by decide +kernel
set_option maxRecDepth 100000 in
theorem jd_166_3 : ∀ e ∈ jt_166_3, decode cX11_event e.1 = .ok e.2 := by decide +kernel
theorem jd_166 : ∀ e ∈ jt_166, decode cX11_event e.1 = .ok e.2 := jd_app jd_166_0 (jd_app jd_166_1 (jd_app jd_166_2 (jd_166_3)))
set_option maxRecDepth 100000 in
theorem jd_167_0 : ∀ e ∈ jt_167_0, decode cX11_know e.1 = .ok e.2 := by decide +kernel
set_option maxRecDepth 100000 in
theorem jd_167_1 : ∀ e ∈ jt_167_1, decode cX11_know e.1 = .ok e.2 := by decide +kernel
theorem jd_167 : ∀ e ∈ jt_167, decode cX11_know e.1 = .ok e.2 := jd_app jd_167_0 (jd_167_1)
set_option maxRecDepth 100000 in
theorem jd_168 : ∀ e ∈ jt_168, decode cX11_isSession e.1 = .ok e.2 := by decide +kernel
set_option maxRecDepth 100000 in
theorem jd_169 : ∀ e ∈ jt_169, decode cX11_howManyAs e.1 = .ok e.2 := by decide +kernel
set_option maxRecDepth 100000 in
theorem jd_170_0 : ∀ e ∈ jt_170_0, decode cX11_session e.1 = .ok e.2 := by decide +kernel
set_option maxRecDepth 100000 in
theorem jd_170_1 : ∀ e ∈ jt_170_1, decode cX11_session e.1 = .ok e.2 := by decide +kernel
set_option maxRecDepth 100000 in
theorem jd_170_2 : ∀ e ∈ jt_170_2, decode cX11_session e.1 = .ok e.2 := by decide +kernel
set_option maxRecDepth 100000 in
theorem jd_170_3 : ∀ e ∈ jt_170_3, decode cX11_session e.1 = .ok e.2 := by decide +kernel
set_option maxRecDepth 100000 in
theorem jd_170_4 : ∀ e ∈ jt_170_4, decode cX11_session e.1 = .ok e.2 := by decide +kernel
theorem jd_170 : ∀ e ∈ jt_170, decode cX11_session e.1 = .ok e.2 := jd_app jd_170_0 (jd_app jd_170_1 (jd_app jd_170_2 (jd_app jd_170_3 (jd_170_4))))
set_option maxRecDepth 100000 in
theorem jd_171 : ∀ e ∈ jt_171, decode cX11_claim e.1 = .ok e.2 := by decide +kernel
end
section
set_option maxRecDepth 100000 in
theorem jd_172 : ∀ e ∈ jt_172, decode cX11_secret e.1 = .ok e.2 := by decide +kernel
set_option maxRecDepth 100000 in
theorem jd_173 : ∀ e ∈ jt_173, decode cX11_agree e.1 = .ok e.2 := by decide +kernel
set_option maxRecDepth 100000 in
theorem jd_174_0 : ∀ e ∈ jt_174_0, decode cX11_join e.1 = .ok e.2 := by decide +kernel
set_option maxRecDepth 100000 in
theorem jd_174_1 : ∀ e ∈ jt_174_1, decode cX11_join e.1 = .ok e.2 := by decide +kernel
set_option maxRecDepth 100000 in
theorem jd_174_2 : ∀ e ∈ jt_174_2, decode cX11_join e.1 = .ok e.2 := by decide +kernel
theorem jd_174 : ∀ e ∈ jt_174, decode cX11_join e.1 = .ok e.2 := jd_app jd_174_0 (jd_app jd_174_1 (jd_174_2))
set_option maxRecDepth 100000 in
theorem jd_175 : ∀ e ∈ jt_175, decode cX11_begins e.1 = .ok e.2 := by decide +kernel
set_option maxRecDepth 100000 in
theorem jd_176_0 : ∀ e ∈ jt_176_0, decode cX11_standsFor e.1 = .ok e.2 := by decide +kernel
set_option maxRecDepth 100000 in
theorem jd_176_1 : ∀ e ∈ jt_176_1, decode cX11_standsFor e.1 = .ok e.2 := by decide +kernel
set_option maxRecDepth 100000 in
theorem jd_176_2 : ∀ e ∈ jt_176_2, decode cX11_standsFor e.1 = .ok e.2 := by decide +kernel
theorem jd_176 : ∀ e ∈ jt_176, decode cX11_standsFor e.1 = .ok e.2 := jd_app jd_176_0 (jd_app jd_176_1 (jd_176_2))
set_option maxRecDepth 100000 in
theorem jd_177 : ∀ e ∈ jt_177, decode cX11_one e.1 = .ok e.2 := by decide +kernel
end
section
set_option maxRecDepth 100000 in
theorem jd_178 : ∀ e ∈ jt_178, decode cX11_comes e.1 = .ok e.2 := by decide +kernel
set_option maxRecDepth 100000 in
theorem jd_179 : ∀ e ∈ jt_179, decode cX11_beginRow e.1 = .ok e.2 := by decide +kernel
set_option maxRecDepth 100000 in
theorem jd_180 : ∀ e ∈ jt_180, decode cX11_hasPrivate e.1 = .ok e.2 := by decide +kernel
set_option maxRecDepth 100000 in
theorem jd_181_0 : ∀ e ∈ jt_181_0, decode cX11_isMade e.1 = .ok e.2 := by decide +kernel
set_option maxRecDepth 100000 in
theorem jd_181_1 : ∀ e ∈ jt_181_1, decode cX11_isMade e.1 = .ok e.2 := by decide +kernel
set_option maxRecDepth 100000 in
theorem jd_181_2 : ∀ e ∈ jt_181_2, decode cX11_isMade e.1 = .ok e.2 := by decide +kernel
theorem jd_181 : ∀ e ∈ jt_181, decode cX11_isMade e.1 = .ok e.2 := jd_app jd_181_0 (jd_app jd_181_1 (jd_181_2))
set_option maxRecDepth 100000 in
theorem jd_182 : ∀ e ∈ jt_182, decode cX11_canMake e.1 = .ok e.2 := by decide +kernel
set_option maxRecDepth 100000 in
theorem jd_183 : ∀ e ∈ jt_183, decode cX11_endRow e.1 = .ok e.2 := by decide +kernel
set_option maxRecDepth 100000 in
theorem jd_184_0 : ∀ e ∈ jt_184_0, decode cX11_takeApart e.1 = .ok e.2 := by decide +kernel
set_option maxRecDepth 100000 in
theorem jd_184_1 : ∀ e ∈ jt_184_1, decode cX11_takeApart e.1 = .ok e.2 := by decide +kernel
theorem jd_184 : ∀ e ∈ jt_184, decode cX11_takeApart e.1 = .ok e.2 := jd_app jd_184_0 (jd_184_1)
set_option maxRecDepth 100000 in
theorem jd_185 : ∀ e ∈ jt_185, decode cX11_isHonest e.1 = .ok e.2 := by decide +kernel
end
section
set_option maxRecDepth 100000 in
theorem jd_186 : ∀ e ∈ jt_186, decode cX11_isLost e.1 = .ok e.2 := by decide +kernel
set_option maxRecDepth 100000 in
theorem jd_187_0 : ∀ e ∈ jt_187_0, decode cX11_fits e.1 = .ok e.2 := by decide +kernel
set_option maxRecDepth 100000 in
theorem jd_187_1 : ∀ e ∈ jt_187_1, decode cX11_fits e.1 = .ok e.2 := by decide +kernel
theorem jd_187 : ∀ e ∈ jt_187, decode cX11_fits e.1 = .ok e.2 := jd_app jd_187_0 (jd_187_1)
set_option maxRecDepth 100000 in
theorem jd_188_0 : ∀ e ∈ jt_188_0, decode cX11_isApart e.1 = .ok e.2 := by decide +kernel
set_option maxRecDepth 100000 in
theorem jd_188_1 : ∀ e ∈ jt_188_1, decode cX11_isApart e.1 = .ok e.2 := by decide +kernel
set_option maxRecDepth 100000 in
theorem jd_188_2 : ∀ e ∈ jt_188_2, decode cX11_isApart e.1 = .ok e.2 := by decide +kernel
theorem jd_188 : ∀ e ∈ jt_188, decode cX11_isApart e.1 = .ok e.2 := jd_app jd_188_0 (jd_app jd_188_1 (jd_188_2))
set_option maxRecDepth 100000 in
theorem jd_189 : ∀ e ∈ jt_189, decode cX11_isBroken e.1 = .ok e.2 := by decide +kernel
set_option maxRecDepth 100000 in
theorem jd_190_0 : ∀ e ∈ jt_190_0, decode cX11_runRow e.1 = .ok e.2 := by decide +kernel
set_option maxRecDepth 100000 in
theorem jd_190_1 : ∀ e ∈ jt_190_1, decode cX11_runRow e.1 = .ok e.2 := by decide +kernel
theorem jd_190 : ∀ e ∈ jt_190, decode cX11_runRow e.1 = .ok e.2 := jd_app jd_190_0 (jd_190_1)
set_option maxRecDepth 100000 in
theorem jd_191 : ∀ e ∈ jt_191, decode cX11_begin e.1 = .ok e.2 := by decide +kernel
set_option maxRecDepth 100000 in
theorem jd_192 : ∀ e ∈ jt_192, decode cX11_end e.1 = .ok e.2 := by decide +kernel
set_option maxRecDepth 100000 in
theorem jd_193 : ∀ e ∈ jt_193, decode cX11_nextEvent e.1 = .ok e.2 := by decide +kernel
set_option maxRecDepth 100000 in
theorem jd_194 : ∀ e ∈ jt_194, decode cX11_does e.1 = .ok e.2 := by decide +kernel
end
section
set_option maxRecDepth 100000 in
theorem jd_195 : ∀ e ∈ jt_195, decode cX11_send e.1 = .ok e.2 := by decide +kernel
set_option maxRecDepth 100000 in
theorem jd_196_0 : ∀ e ∈ jt_196_0, decode cX11_bindsTo e.1 = .ok e.2 := by decide +kernel
set_option maxRecDepth 100000 in
theorem jd_196_1 : ∀ e ∈ jt_196_1, decode cX11_bindsTo e.1 = .ok e.2 := by decide +kernel
set_option maxRecDepth 100000 in
theorem jd_196_2 : ∀ e ∈ jt_196_2, decode cX11_bindsTo e.1 = .ok e.2 := by decide +kernel
set_option maxRecDepth 100000 in
theorem jd_196_3 : ∀ e ∈ jt_196_3, decode cX11_bindsTo e.1 = .ok e.2 := by decide +kernel
set_option maxRecDepth 100000 in
theorem jd_196_4 : ∀ e ∈ jt_196_4, decode cX11_bindsTo e.1 = .ok e.2 := by decide +kernel
theorem jd_196 : ∀ e ∈ jt_196, decode cX11_bindsTo e.1 = .ok e.2 := jd_app jd_196_0 (jd_app jd_196_1 (jd_app jd_196_2 (jd_app jd_196_3 (jd_196_4))))
set_option maxRecDepth 100000 in
theorem jd_197_0 : ∀ e ∈ jt_197_0, decode cX11_receive e.1 = .ok e.2 := by decide +kernel
set_option maxRecDepth 100000 in
theorem jd_197_1 : ∀ e ∈ jt_197_1, decode cX11_receive e.1 = .ok e.2 := by decide +kernel
set_option maxRecDepth 100000 in
theorem jd_197_2 : ∀ e ∈ jt_197_2, decode cX11_receive e.1 = .ok e.2 := by decide +kernel
theorem jd_197 : ∀ e ∈ jt_197, decode cX11_receive e.1 = .ok e.2 := jd_app jd_197_0 (jd_app jd_197_1 (jd_197_2))
set_option maxRecDepth 100000 in
theorem jd_198 : ∀ e ∈ jt_198, decode cX11_makes e.1 = .ok e.2 := by decide +kernel
set_option maxRecDepth 100000 in
theorem jd_199_0 : ∀ e ∈ jt_199_0, decode cX11_findOrder e.1 = .ok e.2 := by decide +kernel
end
section
set_option maxRecDepth 100000 in
theorem jd_199_1 : ∀ e ∈ jt_199_1, decode cX11_findOrder e.1 = .ok e.2 := by decide +kernel
set_option maxRecDepth 100000 in
theorem jd_199_2 : ∀ e ∈ jt_199_2, decode cX11_findOrder e.1 = .ok e.2 := by decide +kernel
theorem jd_199 : ∀ e ∈ jt_199, decode cX11_findOrder e.1 = .ok e.2 := jd_app jd_199_0 (jd_app jd_199_1 (jd_199_2))
set_option maxRecDepth 100000 in
theorem jd_200 : ∀ e ∈ jt_200, decode cX11_isOpen e.1 = .ok e.2 := by decide +kernel
set_option maxRecDepth 100000 in
theorem jd_201 : ∀ e ∈ jt_201, decode cX11_inOrder e.1 = .ok e.2 := by decide +kernel
set_option maxRecDepth 100000 in
theorem jd_202 : ∀ e ∈ jt_202, decode cX11_lastOf e.1 = .ok e.2 := by decide +kernel
set_option maxRecDepth 100000 in
theorem jd_203_0 : ∀ e ∈ jt_203_0, decode cX11_lasting e.1 = .ok e.2 := by decide +kernel
set_option maxRecDepth 100000 in
theorem jd_203_1 : ∀ e ∈ jt_203_1, decode cX11_lasting e.1 = .ok e.2 := by decide +kernel
set_option maxRecDepth 100000 in
theorem jd_203_2 : ∀ e ∈ jt_203_2, decode cX11_lasting e.1 = .ok e.2 := by decide +kernel
theorem jd_203 : ∀ e ∈ jt_203, decode cX11_lasting e.1 = .ok e.2 := jd_app jd_203_0 (jd_app jd_203_1 (jd_203_2))
set_option maxRecDepth 100000 in
theorem jd_204_0 : ∀ e ∈ jt_204_0, decode cX11_row e.1 = .ok e.2 := by decide +kernel
set_option maxRecDepth 100000 in
theorem jd_204_1 : ∀ e ∈ jt_204_1, decode cX11_row e.1 = .ok e.2 := by decide +kernel
theorem jd_204 : ∀ e ∈ jt_204, decode cX11_row e.1 = .ok e.2 := jd_app jd_204_0 (jd_204_1)
set_option maxRecDepth 100000 in
theorem jd_205 : ∀ e ∈ jt_205, decode cX11_stands e.1 = .ok e.2 := by decide +kernel
set_option maxRecDepth 100000 in
theorem jd_206 : ∀ e ∈ jt_206, decode cX11_done e.1 = .ok e.2 := by decide +kernel
set_option maxRecDepth 100000 in
theorem jd_207 : ∀ e ∈ jt_207, decode cX11_broken e.1 = .ok e.2 := by decide +kernel
set_option maxRecDepth 100000 in
theorem jd_208_0 : ∀ e ∈ jt_208_0, decode cX11_undo e.1 = .ok e.2 := by decide +kernel
end
section
set_option maxRecDepth 100000 in
theorem jd_208_1 : ∀ e ∈ jt_208_1, decode cX11_undo e.1 = .ok e.2 := by decide +kernel
theorem jd_208 : ∀ e ∈ jt_208, decode cX11_undo e.1 = .ok e.2 := jd_app jd_208_0 (jd_208_1)
set_option maxRecDepth 100000 in
theorem jd_209 : ∀ e ∈ jt_209, decode cX11_forget e.1 = .ok e.2 := by decide +kernel
set_option maxRecDepth 100000 in
theorem jd_210 : ∀ e ∈ jt_210, decode cX11_takeState e.1 = .ok e.2 := by decide +kernel
set_option maxRecDepth 100000 in
theorem jd_211 : ∀ e ∈ jt_211, decode cX11_stateRow e.1 = .ok e.2 := by decide +kernel
set_option maxRecDepth 100000 in
theorem jd_212_0 : ∀ e ∈ jt_212_0, decode cX11_isThere e.1 = .ok e.2 := by decide +kernel
set_option maxRecDepth 100000 in
theorem jd_212_1 : ∀ e ∈ jt_212_1, decode cX11_isThere e.1 = .ok e.2 := by decide +kernel
theorem jd_212 : ∀ e ∈ jt_212, decode cX11_isThere e.1 = .ok e.2 := jd_app jd_212_0 (jd_212_1)
set_option maxRecDepth 100000 in
theorem jd_213_0 : ∀ e ∈ jt_213_0, decode cX11_comesToBe e.1 = .ok e.2 := by decide +kernel
set_option maxRecDepth 100000 in
theorem jd_213_1 : ∀ e ∈ jt_213_1, decode cX11_comesToBe e.1 = .ok e.2 := by decide +kernel
set_option maxRecDepth 100000 in
theorem jd_213_2 : ∀ e ∈ jt_213_2, decode cX11_comesToBe e.1 = .ok e.2 := by decide +kernel
set_option maxRecDepth 100000 in
theorem jd_213_3 : ∀ e ∈ jt_213_3, decode cX11_comesToBe e.1 = .ok e.2 := by decide +kernel
theorem jd_213 : ∀ e ∈ jt_213, decode cX11_comesToBe e.1 = .ok e.2 := jd_app jd_213_0 (jd_app jd_213_1 (jd_app jd_213_2 (jd_213_3)))
set_option maxRecDepth 100000 in
theorem jd_214 : ∀ e ∈ jt_214, decode cX11_isOfSort e.1 = .ok e.2 := by decide +kernel
end
section
set_option maxRecDepth 100000 in
theorem jd_215 : ∀ e ∈ jt_215, decode cX11_nextOf e.1 = .ok e.2 := by decide +kernel
set_option maxRecDepth 100000 in
theorem jd_216 : ∀ e ∈ jt_216, decode cX11_howMany e.1 = .ok e.2 := by decide +kernel
set_option maxRecDepth 100000 in
theorem jd_217_0 : ∀ e ∈ jt_217_0, decode cX11_receives e.1 = .ok e.2 := by decide +kernel
set_option maxRecDepth 100000 in
theorem jd_217_1 : ∀ e ∈ jt_217_1, decode cX11_receives e.1 = .ok e.2 := by decide +kernel
set_option maxRecDepth 100000 in
theorem jd_217_2 : ∀ e ∈ jt_217_2, decode cX11_receives e.1 = .ok e.2 := by decide +kernel
set_option maxRecDepth 100000 in
theorem jd_217_3 : ∀ e ∈ jt_217_3, decode cX11_receives e.1 = .ok e.2 := by decide +kernel
set_option maxRecDepth 100000 in
theorem jd_217_4 : ∀ e ∈ jt_217_4, decode cX11_receives e.1 = .ok e.2 := by decide +kernel
set_option maxRecDepth 100000 in
theorem jd_217_5 : ∀ e ∈ jt_217_5, decode cX11_receives e.1 = .ok e.2 := by decide +kernel
theorem jd_217 : ∀ e ∈ jt_217, decode cX11_receives e.1 = .ok e.2 := jd_app jd_217_0 (jd_app jd_217_1 (jd_app jd_217_2 (jd_app jd_217_3 (jd_app jd_217_4 (jd_217_5)))))
set_option maxRecDepth 100000 in
theorem jd_218_0 : ∀ e ∈ jt_218_0, decode cX11_goesOn e.1 = .ok e.2 := by decide +kernel
set_option maxRecDepth 100000 in
theorem jd_218_1 : ∀ e ∈ jt_218_1, decode cX11_goesOn e.1 = .ok e.2 := by decide +kernel
theorem jd_218 : ∀ e ∈ jt_218, decode cX11_goesOn e.1 = .ok e.2 := jd_app jd_218_0 (jd_218_1)
set_option maxRecDepth 100000 in
theorem jd_219 : ∀ e ∈ jt_219, decode cX11_noteAttack e.1 = .ok e.2 := by decide +kernel
end
section
set_option maxRecDepth 100000 in
theorem jd_220_0 : ∀ e ∈ jt_220_0, decode cX11_search e.1 = .ok e.2 := by decide +kernel
set_option maxRecDepth 100000 in
theorem jd_220_1 : ∀ e ∈ jt_220_1, decode cX11_search e.1 = .ok e.2 := by decide +kernel
set_option maxRecDepth 100000 in
theorem jd_220_2 : ∀ e ∈ jt_220_2, decode cX11_search e.1 = .ok e.2 := by decide +kernel
theorem jd_220 : ∀ e ∈ jt_220, decode cX11_search e.1 = .ok e.2 := jd_app jd_220_0 (jd_app jd_220_1 (jd_220_2))
set_option maxRecDepth 100000 in
theorem jd_221 : ∀ e ∈ jt_221, decode cX11_found e.1 = .ok e.2 := by decide +kernel
set_option maxRecDepth 100000 in
theorem jd_222 : ∀ e ∈ jt_222, decode cX11_attack e.1 = .ok e.2 := by decide +kernel
set_option maxRecDepth 100000 in
theorem jd_223_0 : ∀ e ∈ jt_223_0, decode cX11_play e.1 = .ok e.2 := by decide +kernel
set_option maxRecDepth 100000 in
theorem jd_223_1 : ∀ e ∈ jt_223_1, decode cX11_play e.1 = .ok e.2 := by decide +kernel
set_option maxRecDepth 100000 in
theorem jd_223_2 : ∀ e ∈ jt_223_2, decode cX11_play e.1 = .ok e.2 := by decide +kernel
theorem jd_223 : ∀ e ∈ jt_223, decode cX11_play e.1 = .ok e.2 := jd_app jd_223_0 (jd_app jd_223_1 (jd_223_2))
set_option maxRecDepth 100000 in
theorem jd_224 : ∀ e ∈ jt_224, decode cX11_told e.1 = .ok e.2 := by decide +kernel
set_option maxRecDepth 100000 in
theorem jd_225_0 : ∀ e ∈ jt_225_0, decode cX11_ofRole e.1 = .ok e.2 := by decide +kernel
set_option maxRecDepth 100000 in
theorem jd_225_1 : ∀ e ∈ jt_225_1, decode cX11_ofRole e.1 = .ok e.2 := by decide +kernel
set_option maxRecDepth 100000 in
theorem jd_225_2 : ∀ e ∈ jt_225_2, decode cX11_ofRole e.1 = .ok e.2 := by decide +kernel
end
section
theorem jd_225 : ∀ e ∈ jt_225, decode cX11_ofRole e.1 = .ok e.2 := jd_app jd_225_0 (jd_app jd_225_1 (jd_225_2))
set_option maxRecDepth 100000 in
theorem jd_226 : ∀ e ∈ jt_226, decode cX11_clear e.1 = .ok e.2 := by decide +kernel
set_option maxRecDepth 100000 in
theorem jd_227 : ∀ e ∈ jt_227, decode cJ7_fill_53178 e.1 = .ok e.2 := by decide +kernel
set_option maxRecDepth 100000 in
theorem jd_228 : ∀ e ∈ jt_228, decode cJ9_floorMod_7cf53 e.1 = .ok e.2 := by decide +kernel
set_option maxRecDepth 100000 in
theorem jd_229 : ∀ e ∈ jt_229, decode cJ9_max_7cf53 e.1 = .ok e.2 := by decide +kernel
set_option maxRecDepth 100000 in
theorem jd_230 : ∀ e ∈ jt_230, decode cJ9_min_7cf53 e.1 = .ok e.2 := by decide +kernel
end
section
set_option maxRecDepth 100000 in
theorem jd_all : ∀ q ∈ jm_L, ∀ e ∈ q.2.2.2.2.2.2, decode q.2.1 e.1 = .ok e.2 := by
  intro q hq
  have hq : q ∈ [jq_0, jq_1, jq_2, jq_3, jq_4, jq_5, jq_6, jq_7, jq_8, jq_9, jq_10, jq_11, jq_12, jq_13, jq_14, jq_15, jq_16, jq_17, jq_18, jq_19, jq_20, jq_21, jq_22, jq_23, jq_24, jq_25, jq_26, jq_27, jq_28, jq_29, jq_30, jq_31, jq_32, jq_33, jq_34, jq_35, jq_36, jq_37, jq_38, jq_39, jq_40, jq_41, jq_42, jq_43, jq_44, jq_45, jq_46, jq_47, jq_48, jq_49, jq_50, jq_51, jq_52, jq_53, jq_54, jq_55, jq_56, jq_57, jq_58, jq_59, jq_60, jq_61, jq_62, jq_63, jq_64, jq_65, jq_66, jq_67, jq_68, jq_69, jq_70, jq_71, jq_72, jq_73, jq_74, jq_75, jq_76, jq_77, jq_78, jq_79, jq_80, jq_81, jq_82, jq_83, jq_84, jq_85, jq_86, jq_87, jq_88, jq_89, jq_90, jq_91, jq_92, jq_93, jq_94, jq_95, jq_96, jq_97, jq_98, jq_99, jq_100, jq_101, jq_102, jq_103, jq_104, jq_105, jq_106, jq_107, jq_108, jq_109, jq_110, jq_111, jq_112, jq_113, jq_114, jq_115, jq_116, jq_117, jq_118, jq_119, jq_120, jq_121, jq_122, jq_123, jq_124, jq_125, jq_126, jq_127, jq_128, jq_129, jq_130, jq_131, jq_132, jq_133, jq_134, jq_135, jq_136, jq_137, jq_138, jq_139, jq_140, jq_141, jq_142, jq_143, jq_144, jq_145, jq_146, jq_147, jq_148, jq_149, jq_150, jq_151, jq_152, jq_153, jq_154, jq_155, jq_156, jq_157, jq_158, jq_159, jq_160, jq_161, jq_162, jq_163, jq_164, jq_165, jq_166, jq_167, jq_168, jq_169, jq_170, jq_171, jq_172, jq_173, jq_174, jq_175, jq_176, jq_177, jq_178, jq_179, jq_180, jq_181, jq_182, jq_183, jq_184, jq_185, jq_186, jq_187, jq_188, jq_189, jq_190, jq_191, jq_192, jq_193, jq_194, jq_195, jq_196, jq_197, jq_198, jq_199, jq_200, jq_201, jq_202, jq_203, jq_204, jq_205, jq_206, jq_207, jq_208, jq_209, jq_210, jq_211, jq_212, jq_213, jq_214, jq_215, jq_216, jq_217, jq_218, jq_219, jq_220, jq_221, jq_222, jq_223, jq_224, jq_225, jq_226, jq_227, jq_228, jq_229, jq_230] := hq
  rcases List.mem_cons.mp hq with rfl | hq
  · exact jd_0
  rcases List.mem_cons.mp hq with rfl | hq
  · exact jd_1
  rcases List.mem_cons.mp hq with rfl | hq
  · exact jd_2
  rcases List.mem_cons.mp hq with rfl | hq
  · exact jd_3
  rcases List.mem_cons.mp hq with rfl | hq
  · exact jd_4
  rcases List.mem_cons.mp hq with rfl | hq
  · exact jd_5
  rcases List.mem_cons.mp hq with rfl | hq
  · exact jd_6
  rcases List.mem_cons.mp hq with rfl | hq
  · exact jd_7
  rcases List.mem_cons.mp hq with rfl | hq
  · exact jd_8
  rcases List.mem_cons.mp hq with rfl | hq
  · exact jd_9
  rcases List.mem_cons.mp hq with rfl | hq
  · exact jd_10
  rcases List.mem_cons.mp hq with rfl | hq
  · exact jd_11
  rcases List.mem_cons.mp hq with rfl | hq
  · exact jd_12
  rcases List.mem_cons.mp hq with rfl | hq
  · exact jd_13
  rcases List.mem_cons.mp hq with rfl | hq
  · exact jd_14
  rcases List.mem_cons.mp hq with rfl | hq
  · exact jd_15
  rcases List.mem_cons.mp hq with rfl | hq
  · exact jd_16
  rcases List.mem_cons.mp hq with rfl | hq
  · exact jd_17
  rcases List.mem_cons.mp hq with rfl | hq
  · exact jd_18
  rcases List.mem_cons.mp hq with rfl | hq
  · exact jd_19
  rcases List.mem_cons.mp hq with rfl | hq
  · exact jd_20
  rcases List.mem_cons.mp hq with rfl | hq
  · exact jd_21
  rcases List.mem_cons.mp hq with rfl | hq
  · exact jd_22
  rcases List.mem_cons.mp hq with rfl | hq
  · exact jd_23
  rcases List.mem_cons.mp hq with rfl | hq
  · exact jd_24
  rcases List.mem_cons.mp hq with rfl | hq
  · exact jd_25
  rcases List.mem_cons.mp hq with rfl | hq
  · exact jd_26
  rcases List.mem_cons.mp hq with rfl | hq
  · exact jd_27
  rcases List.mem_cons.mp hq with rfl | hq
  · exact jd_28
  rcases List.mem_cons.mp hq with rfl | hq
  · exact jd_29
  rcases List.mem_cons.mp hq with rfl | hq
  · exact jd_30
  rcases List.mem_cons.mp hq with rfl | hq
  · exact jd_31
  rcases List.mem_cons.mp hq with rfl | hq
  · exact jd_32
  rcases List.mem_cons.mp hq with rfl | hq
  · exact jd_33
  rcases List.mem_cons.mp hq with rfl | hq
  · exact jd_34
  rcases List.mem_cons.mp hq with rfl | hq
  · exact jd_35
  rcases List.mem_cons.mp hq with rfl | hq
  · exact jd_36
  rcases List.mem_cons.mp hq with rfl | hq
  · exact jd_37
  rcases List.mem_cons.mp hq with rfl | hq
  · exact jd_38
  rcases List.mem_cons.mp hq with rfl | hq
  · exact jd_39
  rcases List.mem_cons.mp hq with rfl | hq
  · exact jd_40
  rcases List.mem_cons.mp hq with rfl | hq
  · exact jd_41
  rcases List.mem_cons.mp hq with rfl | hq
  · exact jd_42
  rcases List.mem_cons.mp hq with rfl | hq
  · exact jd_43
  rcases List.mem_cons.mp hq with rfl | hq
  · exact jd_44
  rcases List.mem_cons.mp hq with rfl | hq
  · exact jd_45
  rcases List.mem_cons.mp hq with rfl | hq
  · exact jd_46
  rcases List.mem_cons.mp hq with rfl | hq
  · exact jd_47
  rcases List.mem_cons.mp hq with rfl | hq
  · exact jd_48
  rcases List.mem_cons.mp hq with rfl | hq
  · exact jd_49
  rcases List.mem_cons.mp hq with rfl | hq
  · exact jd_50
  rcases List.mem_cons.mp hq with rfl | hq
  · exact jd_51
  rcases List.mem_cons.mp hq with rfl | hq
  · exact jd_52
  rcases List.mem_cons.mp hq with rfl | hq
  · exact jd_53
  rcases List.mem_cons.mp hq with rfl | hq
  · exact jd_54
  rcases List.mem_cons.mp hq with rfl | hq
  · exact jd_55
  rcases List.mem_cons.mp hq with rfl | hq
  · exact jd_56
  rcases List.mem_cons.mp hq with rfl | hq
  · exact jd_57
  rcases List.mem_cons.mp hq with rfl | hq
  · exact jd_58
  rcases List.mem_cons.mp hq with rfl | hq
  · exact jd_59
  rcases List.mem_cons.mp hq with rfl | hq
  · exact jd_60
  rcases List.mem_cons.mp hq with rfl | hq
  · exact jd_61
  rcases List.mem_cons.mp hq with rfl | hq
  · exact jd_62
  rcases List.mem_cons.mp hq with rfl | hq
  · exact jd_63
  rcases List.mem_cons.mp hq with rfl | hq
  · exact jd_64
  rcases List.mem_cons.mp hq with rfl | hq
  · exact jd_65
  rcases List.mem_cons.mp hq with rfl | hq
  · exact jd_66
  rcases List.mem_cons.mp hq with rfl | hq
  · exact jd_67
  rcases List.mem_cons.mp hq with rfl | hq
  · exact jd_68
  rcases List.mem_cons.mp hq with rfl | hq
  · exact jd_69
  rcases List.mem_cons.mp hq with rfl | hq
  · exact jd_70
  rcases List.mem_cons.mp hq with rfl | hq
  · exact jd_71
  rcases List.mem_cons.mp hq with rfl | hq
  · exact jd_72
  rcases List.mem_cons.mp hq with rfl | hq
  · exact jd_73
  rcases List.mem_cons.mp hq with rfl | hq
  · exact jd_74
  rcases List.mem_cons.mp hq with rfl | hq
  · exact jd_75
  rcases List.mem_cons.mp hq with rfl | hq
  · exact jd_76
  rcases List.mem_cons.mp hq with rfl | hq
  · exact jd_77
  rcases List.mem_cons.mp hq with rfl | hq
  · exact jd_78
  rcases List.mem_cons.mp hq with rfl | hq
  · exact jd_79
  rcases List.mem_cons.mp hq with rfl | hq
  · exact jd_80
  rcases List.mem_cons.mp hq with rfl | hq
  · exact jd_81
  rcases List.mem_cons.mp hq with rfl | hq
  · exact jd_82
  rcases List.mem_cons.mp hq with rfl | hq
  · exact jd_83
  rcases List.mem_cons.mp hq with rfl | hq
  · exact jd_84
  rcases List.mem_cons.mp hq with rfl | hq
  · exact jd_85
  rcases List.mem_cons.mp hq with rfl | hq
  · exact jd_86
  rcases List.mem_cons.mp hq with rfl | hq
  · exact jd_87
  rcases List.mem_cons.mp hq with rfl | hq
  · exact jd_88
  rcases List.mem_cons.mp hq with rfl | hq
  · exact jd_89
  rcases List.mem_cons.mp hq with rfl | hq
  · exact jd_90
  rcases List.mem_cons.mp hq with rfl | hq
  · exact jd_91
  rcases List.mem_cons.mp hq with rfl | hq
  · exact jd_92
  rcases List.mem_cons.mp hq with rfl | hq
  · exact jd_93
  rcases List.mem_cons.mp hq with rfl | hq
  · exact jd_94
  rcases List.mem_cons.mp hq with rfl | hq
  · exact jd_95
  rcases List.mem_cons.mp hq with rfl | hq
  · exact jd_96
  rcases List.mem_cons.mp hq with rfl | hq
  · exact jd_97
  rcases List.mem_cons.mp hq with rfl | hq
  · exact jd_98
  rcases List.mem_cons.mp hq with rfl | hq
  · exact jd_99
  rcases List.mem_cons.mp hq with rfl | hq
  · exact jd_100
  rcases List.mem_cons.mp hq with rfl | hq
  · exact jd_101
  rcases List.mem_cons.mp hq with rfl | hq
  · exact jd_102
  rcases List.mem_cons.mp hq with rfl | hq
  · exact jd_103
  rcases List.mem_cons.mp hq with rfl | hq
  · exact jd_104
  rcases List.mem_cons.mp hq with rfl | hq
  · exact jd_105
  rcases List.mem_cons.mp hq with rfl | hq
  · exact jd_106
  rcases List.mem_cons.mp hq with rfl | hq
  · exact jd_107
  rcases List.mem_cons.mp hq with rfl | hq
  · exact jd_108
  rcases List.mem_cons.mp hq with rfl | hq
  · exact jd_109
  rcases List.mem_cons.mp hq with rfl | hq
  · exact jd_110
  rcases List.mem_cons.mp hq with rfl | hq
  · exact jd_111
  rcases List.mem_cons.mp hq with rfl | hq
  · exact jd_112
  rcases List.mem_cons.mp hq with rfl | hq
  · exact jd_113
  rcases List.mem_cons.mp hq with rfl | hq
  · exact jd_114
  rcases List.mem_cons.mp hq with rfl | hq
  · exact jd_115
  rcases List.mem_cons.mp hq with rfl | hq
  · exact jd_116
  rcases List.mem_cons.mp hq with rfl | hq
  · exact jd_117
  rcases List.mem_cons.mp hq with rfl | hq
  · exact jd_118
  rcases List.mem_cons.mp hq with rfl | hq
  · exact jd_119
  rcases List.mem_cons.mp hq with rfl | hq
  · exact jd_120
  rcases List.mem_cons.mp hq with rfl | hq
  · exact jd_121
  rcases List.mem_cons.mp hq with rfl | hq
  · exact jd_122
  rcases List.mem_cons.mp hq with rfl | hq
  · exact jd_123
  rcases List.mem_cons.mp hq with rfl | hq
  · exact jd_124
  rcases List.mem_cons.mp hq with rfl | hq
  · exact jd_125
  rcases List.mem_cons.mp hq with rfl | hq
  · exact jd_126
  rcases List.mem_cons.mp hq with rfl | hq
  · exact jd_127
  rcases List.mem_cons.mp hq with rfl | hq
  · exact jd_128
  rcases List.mem_cons.mp hq with rfl | hq
  · exact jd_129
  rcases List.mem_cons.mp hq with rfl | hq
  · exact jd_130
  rcases List.mem_cons.mp hq with rfl | hq
  · exact jd_131
  rcases List.mem_cons.mp hq with rfl | hq
  · exact jd_132
  rcases List.mem_cons.mp hq with rfl | hq
  · exact jd_133
  rcases List.mem_cons.mp hq with rfl | hq
  · exact jd_134
  rcases List.mem_cons.mp hq with rfl | hq
  · exact jd_135
  rcases List.mem_cons.mp hq with rfl | hq
  · exact jd_136
  rcases List.mem_cons.mp hq with rfl | hq
  · exact jd_137
  rcases List.mem_cons.mp hq with rfl | hq
  · exact jd_138
  rcases List.mem_cons.mp hq with rfl | hq
  · exact jd_139
  rcases List.mem_cons.mp hq with rfl | hq
  · exact jd_140
  rcases List.mem_cons.mp hq with rfl | hq
  · exact jd_141
  rcases List.mem_cons.mp hq with rfl | hq
  · exact jd_142
  rcases List.mem_cons.mp hq with rfl | hq
  · exact jd_143
  rcases List.mem_cons.mp hq with rfl | hq
  · exact jd_144
  rcases List.mem_cons.mp hq with rfl | hq
  · exact jd_145
  rcases List.mem_cons.mp hq with rfl | hq
  · exact jd_146
  rcases List.mem_cons.mp hq with rfl | hq
  · exact jd_147
  rcases List.mem_cons.mp hq with rfl | hq
  · exact jd_148
  rcases List.mem_cons.mp hq with rfl | hq
  · exact jd_149
  rcases List.mem_cons.mp hq with rfl | hq
  · exact jd_150
  rcases List.mem_cons.mp hq with rfl | hq
  · exact jd_151
  rcases List.mem_cons.mp hq with rfl | hq
  · exact jd_152
  rcases List.mem_cons.mp hq with rfl | hq
  · exact jd_153
  rcases List.mem_cons.mp hq with rfl | hq
  · exact jd_154
  rcases List.mem_cons.mp hq with rfl | hq
  · exact jd_155
  rcases List.mem_cons.mp hq with rfl | hq
  · exact jd_156
  rcases List.mem_cons.mp hq with rfl | hq
  · exact jd_157
  rcases List.mem_cons.mp hq with rfl | hq
  · exact jd_158
  rcases List.mem_cons.mp hq with rfl | hq
  · exact jd_159
  rcases List.mem_cons.mp hq with rfl | hq
  · exact jd_160
  rcases List.mem_cons.mp hq with rfl | hq
  · exact jd_161
  rcases List.mem_cons.mp hq with rfl | hq
  · exact jd_162
  rcases List.mem_cons.mp hq with rfl | hq
  · exact jd_163
  rcases List.mem_cons.mp hq with rfl | hq
  · exact jd_164
  rcases List.mem_cons.mp hq with rfl | hq
  · exact jd_165
  rcases List.mem_cons.mp hq with rfl | hq
  · exact jd_166
  rcases List.mem_cons.mp hq with rfl | hq
  · exact jd_167
  rcases List.mem_cons.mp hq with rfl | hq
  · exact jd_168
  rcases List.mem_cons.mp hq with rfl | hq
  · exact jd_169
  rcases List.mem_cons.mp hq with rfl | hq
  · exact jd_170
  rcases List.mem_cons.mp hq with rfl | hq
  · exact jd_171
  rcases List.mem_cons.mp hq with rfl | hq
  · exact jd_172
  rcases List.mem_cons.mp hq with rfl | hq
  · exact jd_173
  rcases List.mem_cons.mp hq with rfl | hq
  · exact jd_174
  rcases List.mem_cons.mp hq with rfl | hq
  · exact jd_175
  rcases List.mem_cons.mp hq with rfl | hq
  · exact jd_176
  rcases List.mem_cons.mp hq with rfl | hq
  · exact jd_177
  rcases List.mem_cons.mp hq with rfl | hq
  · exact jd_178
  rcases List.mem_cons.mp hq with rfl | hq
  · exact jd_179
  rcases List.mem_cons.mp hq with rfl | hq
  · exact jd_180
  rcases List.mem_cons.mp hq with rfl | hq
  · exact jd_181
  rcases List.mem_cons.mp hq with rfl | hq
  · exact jd_182
  rcases List.mem_cons.mp hq with rfl | hq
  · exact jd_183
  rcases List.mem_cons.mp hq with rfl | hq
  · exact jd_184
  rcases List.mem_cons.mp hq with rfl | hq
  · exact jd_185
  rcases List.mem_cons.mp hq with rfl | hq
  · exact jd_186
  rcases List.mem_cons.mp hq with rfl | hq
  · exact jd_187
  rcases List.mem_cons.mp hq with rfl | hq
  · exact jd_188
  rcases List.mem_cons.mp hq with rfl | hq
  · exact jd_189
  rcases List.mem_cons.mp hq with rfl | hq
  · exact jd_190
  rcases List.mem_cons.mp hq with rfl | hq
  · exact jd_191
  rcases List.mem_cons.mp hq with rfl | hq
  · exact jd_192
  rcases List.mem_cons.mp hq with rfl | hq
  · exact jd_193
  rcases List.mem_cons.mp hq with rfl | hq
  · exact jd_194
  rcases List.mem_cons.mp hq with rfl | hq
  · exact jd_195
  rcases List.mem_cons.mp hq with rfl | hq
  · exact jd_196
  rcases List.mem_cons.mp hq with rfl | hq
  · exact jd_197
  rcases List.mem_cons.mp hq with rfl | hq
  · exact jd_198
  rcases List.mem_cons.mp hq with rfl | hq
  · exact jd_199
  rcases List.mem_cons.mp hq with rfl | hq
  · exact jd_200
  rcases List.mem_cons.mp hq with rfl | hq
  · exact jd_201
  rcases List.mem_cons.mp hq with rfl | hq
  · exact jd_202
  rcases List.mem_cons.mp hq with rfl | hq
  · exact jd_203
  rcases List.mem_cons.mp hq with rfl | hq
  · exact jd_204
  rcases List.mem_cons.mp hq with rfl | hq
  · exact jd_205
  rcases List.mem_cons.mp hq with rfl | hq
  · exact jd_206
  rcases List.mem_cons.mp hq with rfl | hq
  · exact jd_207
  rcases List.mem_cons.mp hq with rfl | hq
  · exact jd_208
  rcases List.mem_cons.mp hq with rfl | hq
  · exact jd_209
  rcases List.mem_cons.mp hq with rfl | hq
  · exact jd_210
  rcases List.mem_cons.mp hq with rfl | hq
  · exact jd_211
  rcases List.mem_cons.mp hq with rfl | hq
  · exact jd_212
  rcases List.mem_cons.mp hq with rfl | hq
  · exact jd_213
  rcases List.mem_cons.mp hq with rfl | hq
  · exact jd_214
  rcases List.mem_cons.mp hq with rfl | hq
  · exact jd_215
  rcases List.mem_cons.mp hq with rfl | hq
  · exact jd_216
  rcases List.mem_cons.mp hq with rfl | hq
  · exact jd_217
  rcases List.mem_cons.mp hq with rfl | hq
  · exact jd_218
  rcases List.mem_cons.mp hq with rfl | hq
  · exact jd_219
  rcases List.mem_cons.mp hq with rfl | hq
  · exact jd_220
  rcases List.mem_cons.mp hq with rfl | hq
  · exact jd_221
  rcases List.mem_cons.mp hq with rfl | hq
  · exact jd_222
  rcases List.mem_cons.mp hq with rfl | hq
  · exact jd_223
  rcases List.mem_cons.mp hq with rfl | hq
  · exact jd_224
  rcases List.mem_cons.mp hq with rfl | hq
  · exact jd_225
  rcases List.mem_cons.mp hq with rfl | hq
  · exact jd_226
  rcases List.mem_cons.mp hq with rfl | hq
  · exact jd_227
  rcases List.mem_cons.mp hq with rfl | hq
  · exact jd_228
  rcases List.mem_cons.mp hq with rfl | hq
  · exact jd_229
  rcases List.mem_cons.mp hq with rfl | hq
  · exact jd_230
  exact absurd hq List.not_mem_nil
theorem jm_ins_ok : ∀ mi pc i n, jm_ins mi pc = some (i, n) → decode (jm_code mi) pc = .ok (i, n) := by
  intro mi pc i n h
  unfold jm_ins at h
  obtain ⟨q, hf, hq⟩ := Option.map_eq_some_iff.mp h
  have hm := List.mem_of_find?_eq_some hf
  have hi := List.find?_some hf
  simp only [beq_iff_eq] at hi
  have hL : jm_at mi ∈ jm_L := by
    unfold jm_at at hm ⊢
    rw [List.getD_eq_getElem?_getD] at hm ⊢
    cases hg : jm_L[mi]? with
    | none => rw [hg] at hm; exact absurd hm List.not_mem_nil
    | some x => exact List.mem_of_getElem? hg
  have := jd_all _ hL q hm
  rw [hi, hq] at this
  exact this
end
section
/-! A small interpreter of decoded instructions. References are numbers of cells; .retAddr stands for the law's script, which is no cell of ours. -/
abbrev jC : Type := (Nat × vp_A) ⊕ (Nat × List Value)
abbrev jL : Type := List (Nat × Value)
def jl (lv : jL) (i : Nat) : Option Value := (lv.find? (fun q => q.1 == i)).map (fun q => q.2)
def js1 (lv : jL) (i : Nat) (v : Value) : jL := (i, v) :: lv.filter (fun q => !(q.1 == i) && !(q.1 + 1 == i && q.2.category == 2))
def js2 (lv : jL) (i : Nat) (v : Value) : jL := (i, v) :: lv.filter (fun q => !(q.1 == i) && (!(q.1 == i + 1) && !(q.1 + 1 == i && q.2.category == 2)))
def jt (pc : Nat) (off : Int) : Option Nat := if 0 ≤ (pc : Int) + off then some ((pc : Int) + off).toNat else none
def jcmp (c : ClassFile.Cond) (x y : Int32) : Bool := match c with
  | .eq => decide (x = y)
  | .ne => decide (¬ x = y)
  | .lt => decide (x < y)
  | .ge => decide (y ≤ x)
  | .gt => decide (y < x)
  | .le => decide (x ≤ y)
/-- a load of one slot: an int, null, a reference -/
def jld (lv : jL) (i : Nat) (isInt : Bool) : Option Value := match jl lv i with
  | some (.int x) => if isInt then some (.int x) else none
  | some (.ref a) => if isInt then none else some (.ref a)
  | some (.retAddr a) => if isInt then none else some (.retAddr a)
  | some .null => if isInt then none else some .null
  | _ => none
def jldl (lv : jL) (i : Nat) : Option Value := match jl lv i with
  | some (.long x) => some (.long x)
  | _ => none
abbrev jR : Type := Option (Nat × jL × List Value)
def jpush (pc len : Nat) (lv : jL) (st : List Value) (v : Option Value) : jR := v.map (fun v => (pc + len, lv, v :: st))
def jst1 (mL pc len : Nat) (lv : jL) (i : Nat) (isInt : Bool) (st : List Value) : jR := match st with
  | .int x :: st => if isInt = true ∧ i < mL then some (pc + len, js1 lv i (.int x), st) else none
  | .ref a :: st => if isInt = false ∧ i < mL then some (pc + len, js1 lv i (.ref a), st) else none
  | .null :: st => if isInt = false ∧ i < mL then some (pc + len, js1 lv i .null, st) else none
  | _ => none
def jst2 (mL pc len : Nat) (lv : jL) (i : Nat) (st : List Value) : jR := match st with
  | .long x :: st => if i + 1 < mL then some (pc + len, js2 lv i (.long x), st) else none
  | _ => none
def jbin (pc : Nat) (lv : jL) (f : Int32 → Int32 → Int32) (st : List Value) : jR := match st with
  | .int y :: .int x :: st => some (pc + 1, lv, .int (f x y) :: st)
  | _ => none
def jbil (pc : Nat) (lv : jL) (f : Int64 → Int64 → Int64) (st : List Value) : jR := match st with
  | .long y :: .long x :: st => some (pc + 1, lv, .long (f x y) :: st)
  | _ => none
def jgo (pc : Nat) (lv : jL) (st : List Value) (off : Int) : jR := (jt pc off).map (fun t => (t, lv, st))
def jbr (pc : Nat) (lv : jL) (st : List Value) (off : Int) (b : Bool) : jR := (jt pc off).map (fun t => (if b then t else pc + 3, lv, st))
/-- instructions that neither read nor change a cell -/
def jA (k mL pc len : Nat) (lv : jL) (st : List Value) (i : Instr) : jR := match i with
  | .iconst n => jpush pc 1 lv st (some (.int (Int32.ofInt n)))
  | .bipush n => jpush pc 2 lv st (some (.int (Int8.ofInt n).toInt32))
  | .sipush n => jpush pc 3 lv st (some (.int (Int16.ofInt n).toInt32))
  | .lconst n => jpush pc 1 lv st (some (.long (Int64.ofNat (n : Nat))))
  | .ldc2_w idx => jpush pc 3 lv st ((jm_lng k idx).map .long)
  | .aconst_null => jpush pc 1 lv st (some .null)
  | .iload i => jpush pc 2 lv st (jld lv i true)
  | .iload_n i => jpush pc 1 lv st (jld lv i true)
  | .aload i => jpush pc 2 lv st (jld lv i false)
  | .aload_n i => jpush pc 1 lv st (jld lv i false)
  | .lload i => jpush pc 2 lv st (jldl lv i)
  | .lload_n i => jpush pc 1 lv st (jldl lv i)
  | .istore i => jst1 mL pc 2 lv i true st
  | .istore_n i => jst1 mL pc 1 lv i true st
  | .astore i => jst1 mL pc 2 lv i false st
  | .astore_n i => jst1 mL pc 1 lv i false st
  | .lstore i => jst2 mL pc 2 lv i st
  | .lstore_n i => jst2 mL pc 1 lv i st
  | .iinc i n => match jld lv i true with
    | some (.int x) => if i < mL then some (pc + 3, js1 lv i (.int (x + Int32.ofInt n)), st) else none
    | _ => none
  | .iadd => jbin pc lv (fun x y => x + y) st
  | .isub => jbin pc lv (fun x y => x - y) st
  | .imul => jbin pc lv (fun x y => x * y) st
  | .iand => jbin pc lv (fun x y => x &&& y) st
  | .ior => jbin pc lv (fun x y => x ||| y) st
  | .ixor => jbin pc lv (fun x y => x ^^^ y) st
  | .ishl => jbin pc lv (fun x y => x <<< (y &&& 31)) st
  | .ishr => jbin pc lv (fun x y => x >>> (y &&& 31)) st
  | .iushr => jbin pc lv (fun x y => (x.toUInt32 >>> (y.toUInt32 &&& Int32.toUInt32 31)).toInt32) st
  | .idiv => match st with
    | .int y :: .int x :: st => if y = 0 then none else some (pc + 1, lv, .int (x / y) :: st)
    | _ => none
  | .irem => match st with
    | .int y :: .int x :: st => if y = 0 then none else some (pc + 1, lv, .int (x - x / y * y) :: st)
    | _ => none
  | .ineg => match st with
    | .int x :: st => some (pc + 1, lv, .int (-x) :: st)
    | _ => none
  | .i2l => match st with
    | .int x :: st => some (pc + 1, lv, .long x.toInt64 :: st)
    | _ => none
  | .l2i => match st with
    | .long x :: st => some (pc + 1, lv, .int x.toInt32 :: st)
    | _ => none
  | .ladd => jbil pc lv (fun x y => x + y) st
  | .lmul => jbil pc lv (fun x y => x * y) st
  | .lcmp => match st with
    | .long y :: .long x :: st => some (pc + 1, lv, .int (lg_cmp x y) :: st)
    | _ => none
  | .dup => match st with
    | v :: st => if v.category = 1 then some (pc + 1, lv, v :: v :: st) else none
    | _ => none
  | .pop => match st with
    | v :: st => if v.category = 1 then some (pc + 1, lv, st) else none
    | _ => none
  | .dup2 => match st with
    | v :: w :: st => if v.category = 1 ∧ w.category = 1 then some (pc + 1, lv, v :: w :: v :: w :: st) else none
    | _ => none
  | .ifCond c off => match st with
    | .int x :: st => jbr pc lv st off (jcmp c x 0)
    | _ => none
  | .if_icmp c off => match st with
    | .int y :: .int x :: st => jbr pc lv st off (jcmp c x y)
    | _ => none
  | .goto off => jgo pc lv st off
  | .ifnull off => match st with
    | .null :: st => jgo pc lv st off
    | .ref _ :: st => some (pc + 3, lv, st)
    | _ => none
  | .ifnonnull off => match st with
    | .ref _ :: st => jgo pc lv st off
    | .null :: st => some (pc + 3, lv, st)
    | _ => none
  | .tableswitch dflt lo hi offs => match st with
    | .int x :: st => if x.toInt < lo ∨ hi < x.toInt then jgo pc lv st dflt else
        match offs[(x.toInt - lo).toNat]? with
        | some off => jgo pc lv st off
        | none => none
    | _ => none
  | _ => none
/-- how long an instruction is (0: any length, or none of ours) -/
def jlen (i : Instr) : Nat := match i with
  | .iconst _ | .lconst _ | .aconst_null | .iload_n _ | .aload_n _ | .lload_n _ | .istore_n _ | .astore_n _ | .lstore_n _ => 1
  | .iadd | .isub | .imul | .iand | .ior | .ixor | .ishl | .ishr | .iushr | .idiv | .irem | .ineg | .i2l | .l2i | .ladd | .lmul | .lcmp | .dup | .pop | .dup2 => 1
  | .bipush _ | .iload _ | .aload _ | .lload _ | .istore _ | .astore _ | .lstore _ | .newarray _ => 2
  | .sipush _ | .ldc2_w _ | .iinc _ _ | .ifCond _ _ | .if_icmp _ _ | .goto _ | .ifnull _ | .ifnonnull _ => 3
  | .getfield _ | .putfield _ | .new _ | .anewarray _ | .invokevirtual _ | .invokespecial _ | .invokestatic _ => 3
  | .iaload | .iastore | .baload | .bastore | .aaload | .aastore | .arraylength | .ireturn | .lreturn | .areturn | .return_ => 1
  | .multianewarray _ _ => 4
  | _ => 0
def jin (i : Int32) (n : Nat) : Bool := decide (¬ (i < 0 ∨ n ≤ i.toNatClampNeg))
/-- which values a place of a type takes -/
def jfit (ty : FieldType) (v : Value) : Bool := match ty, v with
  | .int, .int _ => true
  | .boolean, .int x => decide (x = 0 ∨ x = 1)
  | .long, .long _ => true
  | .object _, .ref _ => true
  | .object _, .null => true
  | .array _, .ref _ => true
  | .array _, .null => true
  | _, _ => false
def jrf (r : Option Nat) : Value := match r with
  | none => .null
  | some a => .ref a
abbrev jS : Type := Option (Nat × jL × List Value × List jC)
/-- the cell at a number, put anew -/
def jset (pc len : Nat) (lv : jL) (st : List Value) (h : List jC) (a : Nat) (c : jC) : jS := some (pc + len, lv, st, h.set a c)
/-- Math.max (1), Math.floorMod (2), Math.min -/
def jmmv (v : Nat) (x y : Int32) : Int32 := if v = 1 then (if x < y then y else x) else if v = 2 then Jvm.Free.MCB.fmod x y else (if y < x then y else x)
/-- instructions that read, change or make a cell -/
def jH (L : Nat) (xs : Nat → Int32) (isLaw ini : Bool) (k pc : Nat) (lv : jL) (st : List Value) (h : List jC) (i : Instr) : jS := match i with
  | .getfield idx => match st with
    | .ref a :: st => match jm_fld k idx, h[a]? with
      | some (ci, f), some (.inr (ci', fs)) => if ci = ci' then (fs[f]?).map (fun v => (pc + 3, lv, v :: st, h)) else none
      | _, _ => none
    | _ => none
  | .putfield idx => match st with
    | v :: .ref a :: st => match jm_fld k idx, h[a]? with
      | some (ci, f), some (.inr (ci', fs)) => if ci = ci' ∧ f < fs.length ∧ jfit (jm_ty ci f) v = true ∧ (jm_fin ci f = false ∨ ini = true ∧ k = ci) then jset pc 3 lv st h a (.inr (ci, fs.set f v)) else none
      | _, _ => none
    | _ => none
  | .iaload => match st with
    | .int j :: .ref a :: st => match h[a]? with
      | some (.inl (t, n, .inl f)) => if t = 0 ∧ jin j n = true then some (pc + 1, lv, .int (f j.toNatClampNeg) :: st, h) else none
      | _ => none
    | .int j :: .retAddr _ :: st => if isLaw = true ∧ jin j L = true then some (pc + 1, lv, .int (xs j.toNatClampNeg) :: st, h) else none
    | _ => none
  | .baload => match st with
    | .int j :: .ref a :: st => match h[a]? with
      | some (.inl (t, n, .inl f)) => if t = 1 ∧ jin j n = true then some (pc + 1, lv, .int (f j.toNatClampNeg) :: st, h) else none
      | _ => none
    | _ => none
  | .aaload => match st with
    | .int j :: .ref a :: st => match h[a]? with
      | some (.inl (t, n, .inr (.inr (.inr (.inr f))))) => if 2 ≤ t ∧ t < jm_nat ∧ jin j n = true then some (pc + 1, lv, jrf (f j.toNatClampNeg) :: st, h) else none
      | _ => none
    | _ => none
  | .arraylength => match st with
    | .ref a :: st => match h[a]? with
      | some (.inl (t, n, _)) => if t < jm_nat then some (pc + 1, lv, .int (Int32.ofNat n) :: st, h) else none
      | _ => none
    | .retAddr _ :: st => if isLaw = true then some (pc + 1, lv, .int (Int32.ofNat L) :: st, h) else none
    | _ => none
  | .iastore => match st with
    | .int x :: .int j :: .ref a :: st => match h[a]? with
      | some (.inl (t, n, .inl f)) => if t = 0 ∧ jin j n = true then jset pc 1 lv st h a (.inl (t, n, .inl (upd f j.toNatClampNeg x))) else none
      | _ => none
    | _ => none
  | .bastore => match st with
    | .int x :: .int j :: .ref a :: st => match h[a]? with
      | some (.inl (t, n, .inl f)) => if t = 1 ∧ jin j n = true ∧ (x = 0 ∨ x = 1) then jset pc 1 lv st h a (.inl (t, n, .inl (upd f j.toNatClampNeg x))) else none
      | _ => none
    | _ => none
  | .aastore => match st with
    | .ref v :: .int j :: .ref a :: st => match h[a]?, h[v]? with
      | some (.inl (t, n, .inr (.inr (.inr (.inr f))))), some (.inr (ci, _)) => if jm_ael t = some ci ∧ t < jm_nat ∧ jin j n = true then jset pc 1 lv st h a (.inl (t, n, .inr (.inr (.inr (.inr (va_up f j.toNatClampNeg (some v))))))) else none
      | _, _ => none
    | _ => none
  | .new idx => match jm_new k idx with
    | some ci => some (pc + 3, lv, .ref h.length :: st, h ++ [.inr (ci, (List.range (jm_nf ci)).map (fun j => defaultValue (jm_ty ci j)))])
    | none => none
  | .newarray ty => match st with
    | .int n :: st => if ¬ n < 0 ∧ n.toNatClampNeg ≤ 100000 then
        (match newarray.typeOf ty with
        | .int => some (pc + 2, lv, .ref h.length :: st, h ++ [.inl (0, n.toNatClampNeg, .inl (fun _ => 0))])
        | .boolean => some (pc + 2, lv, .ref h.length :: st, h ++ [.inl (1, n.toNatClampNeg, .inl (fun _ => 0))])
        | _ => none) else none
    | _ => none
  | .anewarray idx => match st, jm_anew k idx with
    | .int n :: st, some t => if ¬ n < 0 ∧ n.toNatClampNeg ≤ 100000 then some (pc + 3, lv, .ref h.length :: st, h ++ [.inl (t, n.toNatClampNeg, .inr (.inr (.inr (.inr (fun _ => none)))))]) else none
    | _, _ => none
  | .multianewarray idx 2 => match st, jm_mna k idx with
    | .int w :: .int n :: st, some t => if t.2 = 0 ∧ ¬ n < 0 ∧ ¬ w < 0 ∧ n.toNatClampNeg ≤ 1000 ∧ w.toNatClampNeg ≤ 1000 then
        some (pc + 4, lv, .ref h.length :: st, (h ++ [.inl (t.1, n.toNatClampNeg, .inr (.inr (.inr (.inr (fun i => if i < n.toNatClampNeg then some (h.length + 1 + i) else none)))))]) ++ List.replicate n.toNatClampNeg (.inl (0, w.toNatClampNeg, .inl (fun _ => 0)))) else none
    | _, _ => none
  | .invokestatic idx => match jm_mm k idx with
    | some v => (match st with
      | .int y :: .int x :: st => if (st.map fun v => v.category).sum ≤ 8 ∧ (v = 2 → y ≠ 0) then some (pc + 3, lv, .int (jmmv v x y) :: st, h) else none
      | _ => none)
    | none => match st with
    | .int n :: .int dp :: .ref a :: .int sp :: .ref a0 :: st => match jm_ac k idx, h[a0]?, h[a]? with
      | true, some (.inl (t0, n0, .inl f)), some (.inl (t1, n1, .inl g)) => if t0 = 0 ∧ t1 = 0 ∧ ¬ sp < 0 ∧ ¬ dp < 0 ∧ ¬ n < 0 ∧ sp.toNatClampNeg + n.toNatClampNeg ≤ n0 ∧ dp.toNatClampNeg + n.toNatClampNeg ≤ n1 ∧ (st.map fun v => v.category).sum ≤ 8 then
          jset pc 3 lv st h a (.inl (t1, n1, .inl (va_cpy f g sp.toNatClampNeg dp.toNatClampNeg n.toNatClampNeg))) else none
      | _, _, _ => none
    | _ => none
  | .invokespecial idx => match st with
    | .ref _ :: st => if jm_oi k idx = true ∧ (st.map fun v => v.category).sum ≤ 8 then some (pc + 3, lv, st, h) else none
    | _ => none
  | _ => none
/-- a call: who, its arguments (the receiver first), what stays below them -/
def jcall (k : Nat) (st : List Value) (h : List jC) (i : Instr) : Option (Nat × List Value × List Value) := match i with
  | .invokevirtual idx => match jm_mth k idx with
    | some (kd, y, n) => if (kd = 0 ∨ kd = 3) ∧ n ≤ st.length then
        (match st.drop n with
        | .ref a :: rest => (match h[a]? with
          | some (.inr (ci, _)) => if jm_own y = ci ∧ (rest.map fun v => v.category).sum ≤ 8 then some (y, .ref a :: (st.take n).reverse, rest) else none
          | _ => none)
        | _ => none) else none
    | none => none
  | .invokespecial idx => match jm_mth k idx with
    | some (kd, y, n) => if (kd = 1 ∨ kd = 4) ∧ n ≤ st.length then
        (match st.drop n with
        | .ref a :: rest => if (rest.map fun v => v.category).sum ≤ 8 then some (y, .ref a :: (st.take n).reverse, rest) else none
        | _ => none) else none
    | none => none
  | .invokestatic idx => match jm_mth k idx with
    | some (kd, y, n) => if (kd = 2 ∨ kd = 5) ∧ n ≤ st.length ∧ ((st.drop n).map fun v => v.category).sum ≤ 8 then some (y, (st.take n).reverse, st.drop n) else none
    | none => none
  | _ => none
/-- an end -/
def jend (mi : Nat) (st : List Value) (i : Instr) : Option (Option Value) := match i, st, jm_ret mi with
  | .ireturn, [.int x], some ty => if jfit ty (.int x) = true then some (some (.int x)) else none
  | .lreturn, [.long x], some .long => some (some (.long x))
  | .areturn, [.ref a], some ty => if jfit ty (.ref a) = true then some (some (.ref a)) else none
  | .areturn, [.null], some ty => if jfit ty .null = true then some (some .null) else none
  | .return_, [], none => some none
  | _, _, _ => none
def jstep (L : Nat) (xs : Nat → Int32) (d mi pc : Nat) (lv : jL) (st : List Value) (h : List jC) (i : Instr) (len : Nat) : jS :=
  match jA (jm_own mi) (jm_maxL mi) pc len lv st i with
  | some (pc', lv', st') => some (pc', lv', st', h)
  | none => if d = 0 then none else jH L xs (decide (mi = 0)) (jm_ini mi) (jm_own mi) pc lv st h i
def jrun (L : Nat) (xs : Nat → Int32) : Nat → Nat → Nat → Nat → jL → List Value → List jC → Option (Option Value × List jC)
  | 0, _, _, _, _, _, _ => none
  | n + 1, d, mi, pc, lv, st, h => match jm_ins mi pc with
    | none => none
    | some (i, len) => if jlen i = 0 ∨ len = jlen i then
        (match jend mi st i with
        | some r => some (r, h)
        | none => match jcall (jm_own mi) st h i, d with
          | some (y, as, rest), d' + 1 => if y ≠ 0 ∧ y < jm_n ∧ (lg_sl as).length ≤ jm_maxL y then
              (match jrun L xs n d' y 0 (lv_args 0 as) [] h with
              | some (r, h1) => jrun L xs n (d' + 1) mi (pc + 3) lv (r.toList ++ rest) h1
              | none => none) else none
          | some _, 0 => none
          | none, d => match jstep L xs d mi pc lv st h i len with
            | some (pc', lv', st', h') => jrun L xs n d mi pc' lv' st' h'
            | none => none) else none
end
section
def jv (b b0 : Nat) (v : Value) : Value := match v with
  | .ref a => .ref (b0 + a)
  | .retAddr _ => .ref b
  | v => v
def jlv (b b0 : Nat) (lv : jL) : jL := lv.map (fun q => (q.1, jv b b0 q.2))
theorem jv_cat (b b0 : Nat) (v : Value) : (jv b b0 v).category = v.category := by
  cases v <;> rfl
theorem jl_mem {lv : jL} {i : Nat} {v : Value} (h : jl lv i = some v) : (i, v) ∈ lv := by
  unfold jl at h
  cases hf : lv.find? (fun q => q.1 == i) with
  | none => rw [hf] at h; cases h
  | some q =>
    rw [hf] at h
    have h1 := List.mem_of_find?_eq_some hf
    have h2 := List.find?_some hf
    cases h
    simp at h2
    rw [← h2]
    exact h1
theorem jl_has {b b0 : Nat} {lv : jL} {i : Nat} {v : Value} {ls : Array Slot} {mL : Nat} (hl : lv_has ls mL (jlv b b0 lv)) (h : jl lv i = some v) : ls[i]? = some (.val (jv b b0 v)) :=
  hl.2.2 (i, jv b b0 v) (List.mem_map.mpr ⟨(i, v), jl_mem h, rfl⟩)
theorem jlv_js1 (b b0 : Nat) (lv : jL) (i : Nat) (v : Value) : (i, jv b b0 v) :: (jlv b b0 lv).filter (fun q => !(q.1 == i) && !(q.1 + 1 == i && q.2.category == 2)) = jlv b b0 (js1 lv i v) := by
  unfold jlv js1
  rw [List.filter_map]
  simp only [List.map_cons]
  congr 2
  apply List.filter_congr
  intro q _
  simp [jv_cat]
theorem jlv_js2 (b b0 : Nat) (lv : jL) (i : Nat) (v : Value) : (i, jv b b0 v) :: (jlv b b0 lv).filter (fun q => !(q.1 == i) && (!(q.1 == i + 1) && !(q.1 + 1 == i && q.2.category == 2))) = jlv b b0 (js2 lv i v) := by
  unfold jlv js2
  rw [List.filter_map]
  simp only [List.map_cons]
  congr 2
  apply List.filter_congr
  intro q _
  simp [jv_cat]
theorem jt_spec {pc t : Nat} {off : Int} (h : jt pc off = some t) : (pc : Int) + off = (t : Int) := by
  unfold jt at h
  split at h
  · cases h; omega
  · cases h
section JA
variable {p : Program} {l : Launch} {e : Env} {R : Room} {s : State} {m : MethodId} {args : Array Value} {below : List Frame} {meth : Method} {c : Code} {H : Heap} {locs : List Loc} {cells slots : Nat} {Q : State → Prop}
variable {cc : ByteArray} {b b0 k mL pc len : Nat} {ls : Array Slot} {lv : jL} {st : List Value}
/-- what is to be shown behind a step of kind A -/
def jK (p : Program) (l : Launch) (e : Env) (R : Room) (s : State) (m : MethodId) (args : Array Value) (below : List Frame) (meth : Method) (c : Code) (H : Heap) (locs : List Loc) (cells slots : Nat) (Q : State → Prop) (b b0 mL : Nat) (r : Nat × jL × List Value) : Prop :=
  ∀ ls' : Array Slot, lv_has ls' mL (jlv b b0 r.2.1) → W p l e R s m args below meth c H locs cells slots Q (F0 m r.1 ls' (r.2.2.map (jv b b0)))
theorem jp_push {r : Nat × jL × List Value} {v : Option Value} (hs : jpush pc len lv st v = some r) (hl : lv_has ls mL (jlv b b0 lv)) (kk : jK p l e R s m args below meth c H locs cells slots Q b b0 mL r) : ∃ w, v = some w ∧ W p l e R s m args below meth c H locs cells slots Q (F0 m (pc + len) ls (jv b b0 w :: st.map (jv b b0))) := by
  unfold jpush at hs
  cases v with
  | none => cases hs
  | some w =>
    cases hs
    exact ⟨w, rfl, kk ls hl⟩
theorem jp_bin {r : Nat × jL × List Value} {f : Int32 → Int32 → Int32} (hs : jbin pc lv f st = some r) (hl : lv_has ls mL (jlv b b0 lv)) (kk : jK p l e R s m args below meth c H locs cells slots Q b b0 mL r)
    (row : ∀ (x y : Int32) (rest : List Value), W p l e R s m args below meth c H locs cells slots Q (F0 m (pc + 1) ls (.int (f x y) :: rest)) → W p l e R s m args below meth c H locs cells slots Q (F0 m pc ls (.int y :: .int x :: rest))) : W p l e R s m args below meth c H locs cells slots Q (F0 m pc ls (st.map (jv b b0))) := by
  unfold jbin at hs
  split at hs
  · cases hs
    exact row _ _ _ (kk ls hl)
  · cases hs
theorem jp_bil {r : Nat × jL × List Value} {f : Int64 → Int64 → Int64} (hs : jbil pc lv f st = some r) (hl : lv_has ls mL (jlv b b0 lv)) (kk : jK p l e R s m args below meth c H locs cells slots Q b b0 mL r)
    (row : ∀ (x y : Int64) (rest : List Value), W p l e R s m args below meth c H locs cells slots Q (F0 m (pc + 1) ls (.long (f x y) :: rest)) → W p l e R s m args below meth c H locs cells slots Q (F0 m pc ls (.long y :: .long x :: rest))) : W p l e R s m args below meth c H locs cells slots Q (F0 m pc ls (st.map (jv b b0))) := by
  unfold jbil at hs
  split at hs
  · cases hs
    exact row _ _ _ (kk ls hl)
  · cases hs
theorem jp_go {r : Nat × jL × List Value} {off : Int} (hs : jgo pc lv st off = some r) (hl : lv_has ls mL (jlv b b0 lv)) (kk : jK p l e R s m args below meth c H locs cells slots Q b b0 mL r) : ∃ t : Nat, (pc : Int) + off = (t : Int) ∧ W p l e R s m args below meth c H locs cells slots Q (F0 m t ls (st.map (jv b b0))) := by
  unfold jgo at hs
  cases ht : jt pc off with
  | none => rw [ht] at hs; cases hs
  | some t =>
    rw [ht] at hs
    cases hs
    exact ⟨t, jt_spec ht, kk ls hl⟩
theorem jp_ldi {i : Nat} {w : Value} (h : jld lv i true = some w) : ∃ x, w = .int x ∧ jl lv i = some (.int x) := by
  unfold jld at h
  split at h <;> simp at h
  next x hx => exact ⟨x, h.symm, hx⟩
theorem jp_lda {i : Nat} {w : Value} (h : jld lv i false = some w) : jl lv i = some w ∧ (w = .null ∨ (∃ a, w = .ref a) ∨ ∃ a, w = .retAddr a) := by
  unfold jld at h
  split at h <;> simp at h
  next a ha => subst h; exact ⟨ha, Or.inr (Or.inl ⟨a, rfl⟩)⟩
  next a ha => subst h; exact ⟨ha, Or.inr (Or.inr ⟨a, rfl⟩)⟩
  next ha => subst h; exact ⟨ha, Or.inl rfl⟩
theorem jp_ldl {i : Nat} {w : Value} (h : jldl lv i = some w) : ∃ x, w = .long x ∧ jl lv i = some (.long x) := by
  unfold jldl at h
  split at h <;> simp at h
  next x hx => exact ⟨x, h.symm, hx⟩
end JA
end
section
section JB
variable {p : Program} {l : Launch} {e : Env} {R : Room} {s : State} {m : MethodId} {args : Array Value} {below : List Frame} {meth : Method} {c : Code} {H : Heap} {locs : List Loc} {cells slots : Nat} {Q : State → Prop}
variable {cc : ByteArray} {b b0 k mL pc len : Nat} {ls : Array Slot} {lv : jL} {st : List Value}
theorem jq_len {i : Instr} {n : Nat} (hn : jlen i = n) (h0 : n ≠ 0) (hlen : jlen i = 0 ∨ len = jlen i) (hd : decode cc pc = .ok (i, len)) : decode cc pc = .ok (i, n) := by
  rcases hlen with h | h
  · exact absurd (hn.symm.trans h) h0
  · rw [← hn, ← h]; exact hd
theorem jb_st1i {i : Nat} {r : Nat × jL × List Value} (hs : jst1 mL pc len lv i true st = some r) : ∃ x rest, st = .int x :: rest ∧ i < mL ∧ r = (pc + len, js1 lv i (.int x), rest) := by
  unfold jst1 at hs
  split at hs <;> simp at hs
  next x rest => exact ⟨x, rest, rfl, hs.1, hs.2.symm⟩
theorem jb_st1a {i : Nat} {r : Nat × jL × List Value} (hs : jst1 mL pc len lv i false st = some r) : ∃ v rest, st = v :: rest ∧ (v = .null ∨ ∃ a, v = .ref a) ∧ i < mL ∧ r = (pc + len, js1 lv i v, rest) := by
  unfold jst1 at hs
  split at hs <;> simp at hs
  next a rest => exact ⟨_, rest, rfl, Or.inr ⟨a, rfl⟩, hs.1, hs.2.symm⟩
  next rest => exact ⟨_, rest, rfl, Or.inl rfl, hs.1, hs.2.symm⟩
theorem jb_st2 {i : Nat} {r : Nat × jL × List Value} (hs : jst2 mL pc len lv i st = some r) : ∃ x rest, st = .long x :: rest ∧ i + 1 < mL ∧ r = (pc + len, js2 lv i (.long x), rest) := by
  unfold jst2 at hs
  split at hs <;> simp at hs
  next x rest => exact ⟨x, rest, rfl, hs.1, hs.2.symm⟩

theorem jb_if (hx : p.tables.exec = Jvm.exec) (hb : c.code = cc) {cd : ClassFile.Cond} {off : Int} (hd : decode cc pc = .ok (.ifCond cd off, 3)) {x : Int32} {r : Nat × jL × List Value} (hs : jbr pc lv st off (jcmp cd x 0) = some r) (hl : lv_has ls mL (jlv b b0 lv)) (kk : jK p l e R s m args below meth c H locs cells slots Q b b0 mL r) :
    W p l e R s m args below meth c H locs cells slots Q (F0 m pc ls (.int x :: st.map (jv b b0))) := by
  unfold jbr at hs
  cases ht0 : jt pc off with
  | none => rw [ht0] at hs; cases hs
  | some t =>
    rw [ht0] at hs
    cases hs
    have ht := jt_spec ht0
    have hW := kk ls hl
    dsimp only at hW
    cases cd with
    | eq => exact lv_if_eq hx hb hd ht (fun h => by rw [show jcmp .eq x 0 = true from decide_eq_true h] at hW; exact hW) (fun h => by rw [show jcmp .eq x 0 = false from decide_eq_false h] at hW; exact hW)
    | ne => exact lv_if_ne hx hb hd ht (fun h => by rw [show jcmp .ne x 0 = true from decide_eq_true h] at hW; exact hW) (fun h => by rw [show jcmp .ne x 0 = false from decide_eq_false (fun g => g h)] at hW; exact hW)
    | lt => exact lv_if_lt hx hb hd ht (fun h => by rw [show jcmp .lt x 0 = true from decide_eq_true h] at hW; exact hW) (fun h => by rw [show jcmp .lt x 0 = false from decide_eq_false h] at hW; exact hW)
    | ge => exact lv_if_ge hx hb hd ht (fun h => by rw [show jcmp .ge x 0 = true from decide_eq_true h] at hW; exact hW) (fun h => by rw [show jcmp .ge x 0 = false from decide_eq_false h] at hW; exact hW)
    | gt => exact lv_if_gt hx hb hd ht (fun h => by rw [show jcmp .gt x 0 = true from decide_eq_true h] at hW; exact hW) (fun h => by rw [show jcmp .gt x 0 = false from decide_eq_false h] at hW; exact hW)
    | le => exact lv_if_le hx hb hd ht (fun h => by rw [show jcmp .le x 0 = true from decide_eq_true h] at hW; exact hW) (fun h => by rw [show jcmp .le x 0 = false from decide_eq_false h] at hW; exact hW)
theorem jb_icmp (hx : p.tables.exec = Jvm.exec) (hb : c.code = cc) {cd : ClassFile.Cond} {off : Int} (hd : decode cc pc = .ok (.if_icmp cd off, 3)) {x y : Int32} {r : Nat × jL × List Value} (hs : jbr pc lv st off (jcmp cd x y) = some r) (hl : lv_has ls mL (jlv b b0 lv)) (kk : jK p l e R s m args below meth c H locs cells slots Q b b0 mL r) :
    W p l e R s m args below meth c H locs cells slots Q (F0 m pc ls (.int y :: .int x :: st.map (jv b b0))) := by
  unfold jbr at hs
  cases ht0 : jt pc off with
  | none => rw [ht0] at hs; cases hs
  | some t =>
    rw [ht0] at hs
    cases hs
    have ht := jt_spec ht0
    have hW := kk ls hl
    dsimp only at hW
    cases cd with
    | eq => exact lv_icmp_eq hx hb hd ht (fun h => by rw [show jcmp .eq x y = true from decide_eq_true h] at hW; exact hW) (fun h => by rw [show jcmp .eq x y = false from decide_eq_false h] at hW; exact hW)
    | ne => exact lv_icmp_ne hx hb hd ht (fun h => by rw [show jcmp .ne x y = true from decide_eq_true h] at hW; exact hW) (fun h => by rw [show jcmp .ne x y = false from decide_eq_false (fun g => g h)] at hW; exact hW)
    | lt => exact lv_icmp_lt hx hb hd ht (fun h => by rw [show jcmp .lt x y = true from decide_eq_true h] at hW; exact hW) (fun h => by rw [show jcmp .lt x y = false from decide_eq_false h] at hW; exact hW)
    | ge => exact lv_icmp_ge hx hb hd ht (fun h => by rw [show jcmp .ge x y = true from decide_eq_true h] at hW; exact hW) (fun h => by rw [show jcmp .ge x y = false from decide_eq_false h] at hW; exact hW)
    | gt => exact lv_icmp_gt hx hb hd ht (fun h => by rw [show jcmp .gt x y = true from decide_eq_true h] at hW; exact hW) (fun h => by rw [show jcmp .gt x y = false from decide_eq_false h] at hW; exact hW)
    | le => exact lv_icmp_le hx hb hd ht (fun h => by rw [show jcmp .le x y = true from decide_eq_true h] at hW; exact hW) (fun h => by rw [show jcmp .le x y = false from decide_eq_false h] at hW; exact hW)
set_option maxHeartbeats 4000000 in
theorem ja_ok (hx : p.tables.exec = Jvm.exec) (hb : c.code = cc) (hown : s.vm.findClass (jm_cn k) = some m.cls) (hlng : ∀ (idx : Nat) (v : Int64), jm_lng k idx = some v → (Jvm.Cond.constantLong (jm_cn k) idx v).before args s = true) {i : Instr} (hlen : jlen i = 0 ∨ len = jlen i) (hd : decode cc pc = .ok (i, len)) {r : Nat × jL × List Value}
    (hs : jA k mL pc len lv st i = some r) (hl : lv_has ls mL (jlv b b0 lv)) (kk : jK p l e R s m args below meth c H locs cells slots Q b b0 mL r) :
    W p l e R s m args below meth c H locs cells slots Q (F0 m pc ls (st.map (jv b b0))) := by
  have L1 : ∀ {i : Instr} {n : Nat}, jlen i = n → n ≠ 0 → (jlen i = 0 ∨ len = jlen i) → decode cc pc = .ok (i, len) → decode cc pc = .ok (i, n) := fun a b c d => jq_len a b c d
  cases i with
  | iconst n => exact (let ⟨w, hw, hW⟩ := jp_push hs hl kk; by cases hw; exact lv_iconst hx hb (jq_len rfl (by decide) hlen hd) rfl hW)
  | bipush n => exact (let ⟨w, hw, hW⟩ := jp_push hs hl kk; by cases hw; exact lv_bipush hx hb (jq_len rfl (by decide) hlen hd) rfl hW)
  | sipush n => exact (let ⟨w, hw, hW⟩ := jp_push hs hl kk; by cases hw; exact lv_sipush hx hb (jq_len rfl (by decide) hlen hd) rfl hW)
  | lconst n => exact (let ⟨w, hw, hW⟩ := jp_push hs hl kk; by cases hw; exact lv_lconst hx hb (jq_len rfl (by decide) hlen hd) rfl hW)
  | aconst_null => exact (let ⟨w, hw, hW⟩ := jp_push hs hl kk; by cases hw; exact lv_null hx hb (jq_len rfl (by decide) hlen hd) hW)
  | ldc2_w idx => 
    obtain ⟨w, hw, hW⟩ := jp_push hs hl kk
    cases hv : jm_lng k idx with
    | none => rw [hv] at hw; cases hw
    | some v =>
      rw [hv] at hw
      cases hw
      exact lv_ldc2 hx hb hown (hlng idx v hv) (jq_len rfl (by decide) hlen hd) hW
  | iload i => 
    obtain ⟨w, hw, hW⟩ := jp_push hs hl kk
    obtain ⟨x, rfl, hx1⟩ := jp_ldi hw
    exact lv_iload hx hb (jq_len rfl (by decide) hlen hd) (jl_has hl hx1) hW
  | iload_n i => 
    obtain ⟨w, hw, hW⟩ := jp_push hs hl kk
    obtain ⟨x, rfl, hx1⟩ := jp_ldi hw
    exact lv_iload_n hx hb (jq_len rfl (by decide) hlen hd) rfl (jl_has hl hx1) hW
  | lload i => 
    obtain ⟨w, hw, hW⟩ := jp_push hs hl kk
    obtain ⟨x, rfl, hx1⟩ := jp_ldl hw
    exact lv_lload hx hb (jq_len rfl (by decide) hlen hd) (jl_has hl hx1) hW
  | lload_n i => 
    obtain ⟨w, hw, hW⟩ := jp_push hs hl kk
    obtain ⟨x, rfl, hx1⟩ := jp_ldl hw
    exact lv_lload_n hx hb (jq_len rfl (by decide) hlen hd) rfl (jl_has hl hx1) hW
  | aload i => 
    obtain ⟨w, hw, hW⟩ := jp_push hs hl kk
    obtain ⟨hx1, rfl | ⟨a, rfl⟩ | ⟨a, rfl⟩⟩ := jp_lda hw
    · exact lv_aloadN hx hb (jq_len rfl (by decide) hlen hd) (jl_has hl hx1) hW
    · exact lv_aload hx hb (jq_len rfl (by decide) hlen hd) (jl_has hl hx1) hW
    · exact lv_aload hx hb (jq_len rfl (by decide) hlen hd) (jl_has hl hx1) hW
  | aload_n i => 
    obtain ⟨w, hw, hW⟩ := jp_push hs hl kk
    obtain ⟨hx1, rfl | ⟨a, rfl⟩ | ⟨a, rfl⟩⟩ := jp_lda hw
    · exact lv_aload_nN hx hb (jq_len rfl (by decide) hlen hd) rfl (jl_has hl hx1) hW
    · exact lv_aload_n hx hb (jq_len rfl (by decide) hlen hd) rfl (jl_has hl hx1) hW
    · exact lv_aload_n hx hb (jq_len rfl (by decide) hlen hd) rfl (jl_has hl hx1) hW
  | istore i => 
    obtain ⟨x, rest, rfl, hi, rfl⟩ := jb_st1i hs
    exact lv_istore hx hb (jq_len rfl (by decide) hlen hd) hl hi (jlv_js1 b b0 lv _ (.int x)) (fun ls' h' => kk ls' h')
  | istore_n i => 
    obtain ⟨x, rest, rfl, hi, rfl⟩ := jb_st1i hs
    exact lv_istore_n hx hb (jq_len rfl (by decide) hlen hd) rfl hl hi (jlv_js1 b b0 lv _ (.int x)) (fun ls' h' => kk ls' h')
  | astore i => 
    obtain ⟨v, rest, rfl, rfl | ⟨a, rfl⟩, hi, rfl⟩ := jb_st1a hs
    · exact lv_astoreN hx hb (jq_len rfl (by decide) hlen hd) hl hi (jlv_js1 b b0 lv _ .null) (fun ls' h' => kk ls' h')
    · exact lv_astore hx hb (jq_len rfl (by decide) hlen hd) hl hi (jlv_js1 b b0 lv _ (.ref a)) (fun ls' h' => kk ls' h')
  | astore_n i => 
    obtain ⟨v, rest, rfl, rfl | ⟨a, rfl⟩, hi, rfl⟩ := jb_st1a hs
    · exact lv_astore_nN hx hb (jq_len rfl (by decide) hlen hd) rfl hl hi (jlv_js1 b b0 lv _ .null) (fun ls' h' => kk ls' h')
    · exact lv_astore_n hx hb (jq_len rfl (by decide) hlen hd) rfl hl hi (jlv_js1 b b0 lv _ (.ref a)) (fun ls' h' => kk ls' h')
  | lstore i => 
    obtain ⟨x, rest, rfl, hi, rfl⟩ := jb_st2 hs
    exact lv_lstore hx hb (jq_len rfl (by decide) hlen hd) hl hi (jlv_js2 b b0 lv _ (.long x)) (fun ls' h' => kk ls' h')
  | lstore_n i => 
    obtain ⟨x, rest, rfl, hi, rfl⟩ := jb_st2 hs
    exact lv_lstore_n hx hb (jq_len rfl (by decide) hlen hd) rfl hl hi (jlv_js2 b b0 lv _ (.long x)) (fun ls' h' => kk ls' h')
  | iinc i n => 
    simp only [jA] at hs
    split at hs
    · next x hx1 =>
      split at hs
      · next hi =>
        cases hs
        obtain ⟨x', e', hx2⟩ := jp_ldi hx1
        cases e'
        obtain ⟨k9, hk9⟩ := List.getElem?_of_mem (List.mem_map.mpr ⟨(i, Value.int x), jl_mem hx2, rfl⟩ : (i, jv b b0 (.int x)) ∈ jlv b b0 lv)
        exact lv_iinc hx hb (jq_len rfl (by decide) hlen hd) hl hk9 rfl hi (jlv_js1 b b0 lv _ (.int _)) (fun ls' h' => kk ls' h')
      · cases hs
    · cases hs
  | iadd => exact jp_bin hs hl kk (fun x y rest h => lv_iadd hx hb (jq_len rfl (by decide) hlen hd) h)
  | isub => exact jp_bin hs hl kk (fun x y rest h => lv_isub hx hb (jq_len rfl (by decide) hlen hd) h)
  | imul => exact jp_bin hs hl kk (fun x y rest h => lv_imul hx hb (jq_len rfl (by decide) hlen hd) h)
  | iand => exact jp_bin hs hl kk (fun x y rest h => lv_iand hx hb (jq_len rfl (by decide) hlen hd) h)
  | ior => exact jp_bin hs hl kk (fun x y rest h => lv_ior hx hb (jq_len rfl (by decide) hlen hd) h)
  | ixor => exact jp_bin hs hl kk (fun x y rest h => lv_ixor hx hb (jq_len rfl (by decide) hlen hd) h)
  | ishl => exact jp_bin hs hl kk (fun x y rest h => lv_ishl hx hb (jq_len rfl (by decide) hlen hd) h)
  | ishr => exact jp_bin hs hl kk (fun x y rest h => lv_ishr hx hb (jq_len rfl (by decide) hlen hd) h)
  | iushr => exact jp_bin hs hl kk (fun x y rest h => lv_iushr hx hb (jq_len rfl (by decide) hlen hd) rfl h)
  | ladd => exact jp_bil hs hl kk (fun x y rest h => lv_ladd hx hb (jq_len rfl (by decide) hlen hd) h)
  | lmul => exact jp_bil hs hl kk (fun x y rest h => lv_lmul hx hb (jq_len rfl (by decide) hlen hd) h)
  | idiv => 
    simp only [jA] at hs
    split at hs
    · split at hs
      · cases hs
      · next hy =>
        cases hs
        exact lv_idiv hx hb (jq_len rfl (by decide) hlen hd) hy (kk ls hl)
    · cases hs
  | irem => 
    simp only [jA] at hs
    split at hs
    · split at hs
      · cases hs
      · next hy =>
        cases hs
        exact lv_irem hx hb (jq_len rfl (by decide) hlen hd) hy (kk ls hl)
    · cases hs
  | ineg => 
    simp only [jA] at hs
    split at hs
    · cases hs
      exact lv_ineg hx hb (jq_len rfl (by decide) hlen hd) (kk ls hl)
    · cases hs
  | i2l => 
    simp only [jA] at hs
    split at hs
    · cases hs
      exact lv_i2l hx hb (jq_len rfl (by decide) hlen hd) rfl (kk ls hl)
    · cases hs
  | l2i => 
    simp only [jA] at hs
    split at hs
    · cases hs
      exact lv_l2i hx hb (jq_len rfl (by decide) hlen hd) rfl (kk ls hl)
    · cases hs
  | lcmp => 
    simp only [jA] at hs
    split at hs
    · cases hs
      exact W.lcmp hx hb (jq_len rfl (by decide) hlen hd) (kk ls hl)
    · cases hs
  | dup => 
    simp only [jA] at hs
    split at hs
    · split at hs
      · next hc =>
        cases hs
        exact lv_dup hx hb (jq_len rfl (by decide) hlen hd) ((jv_cat b b0 _).trans hc) (kk ls hl)
      · cases hs
    · cases hs
  | pop => 
    simp only [jA] at hs
    split at hs
    · split at hs
      · next hc =>
        cases hs
        exact lv_pop hx hb (jq_len rfl (by decide) hlen hd) ((jv_cat b b0 _).trans hc) (kk ls hl)
      · cases hs
    · cases hs
  | dup2 => 
    simp only [jA] at hs
    split at hs
    · split at hs
      · next hc =>
        cases hs
        exact lv_dup2_11 hx hb (jq_len rfl (by decide) hlen hd) ((jv_cat b b0 _).trans hc.1) ((jv_cat b b0 _).trans hc.2) (kk ls hl)
      · cases hs
    · cases hs
  | ifCond cd off => 
    simp only [jA] at hs
    split at hs
    · exact jb_if hx hb (jq_len rfl (by decide) hlen hd) hs hl kk
    · cases hs
  | if_icmp cd off => 
    simp only [jA] at hs
    split at hs
    · exact jb_icmp hx hb (jq_len rfl (by decide) hlen hd) hs hl kk
    · cases hs
  | goto off => 
    obtain ⟨t, ht, hW⟩ := jp_go hs hl kk
    exact lv_goto hx hb (jq_len rfl (by decide) hlen hd) ht hW
  | ifnull off => 
    simp only [jA] at hs
    split at hs
    · obtain ⟨t, ht, hW⟩ := jp_go hs hl kk
      exact lv_ifnullN hx hb (jq_len rfl (by decide) hlen hd) ht hW
    · cases hs
      exact lv_ifnull hx hb (jq_len rfl (by decide) hlen hd) (kk ls hl)
    · cases hs
  | ifnonnull off => 
    simp only [jA] at hs
    split at hs
    · obtain ⟨t, ht, hW⟩ := jp_go hs hl kk
      exact lv_ifnonnull hx hb (jq_len rfl (by decide) hlen hd) ht hW
    · cases hs
      exact lv_ifnonnullN hx hb (jq_len rfl (by decide) hlen hd) (kk ls hl)
    · cases hs
  | tableswitch dflt lo hi offs => 
    simp only [jA] at hs
    split at hs
    · split at hs
      · next hc =>
        obtain ⟨t, ht, hW⟩ := jp_go hs hl kk
        exact lv_tableOut hx hb hd hc ht hW
      · next hc =>
        split at hs
        · next off ho =>
          obtain ⟨t, ht, hW⟩ := jp_go hs hl kk
          exact lv_tableIn hx hb hd (fun h => hc (Or.inl h)) (fun h => hc (Or.inr h)) ho ht hW
        · cases hs
    · cases hs
  | _ => cases hs
end JB
end
section
def jx (b0 : Nat) (x : vp_A) : vp_A := match x with
  | (n, .inr (.inr (.inr (.inr f)))) => (n, .inr (.inr (.inr (.inr (fun i => (f i).map (fun a => b0 + a))))))
  | x => x
def je (b b0 : Nat) (dA : Nat → ClassId) (c : jC) : va_E := match c with
  | .inl (t, x) => .inl (dA t, jx b0 x)
  | .inr (ci, fs) => .inr (ci, fs.map (jv b b0))
def jw (b b0 : Nat) (dA : Nat → ClassId) (h : List jC) : va_W := h.mapIdx (fun i c => (b0 + i, je b b0 dA c))
def jtys (dA : Nat → ClassId) : List (ClassId × FieldType) := (List.range jm_nat).map (fun t => (dA t, jm_aty t))
def jWd (D : va_G) (dA : Nat → ClassId) (b b0 : Nat) (h : List jC) (H : Heap) : Prop := va_P D vwCl (jw b b0 dA h) H ∧ H.size = b0 + h.length
theorem jw_get {b b0 : Nat} {dA : Nat → ClassId} {h : List jC} {a : Nat} {c : jC} (hc : h[a]? = some c) : (jw b b0 dA h)[a]? = some (b0 + a, je b b0 dA c) := by
  unfold jw
  rw [List.getElem?_mapIdx, hc]
  rfl
theorem jw_inv {b b0 : Nat} {dA : Nat → ClassId} {h : List jC} {a : Nat} {q : Nat × va_E} (hq : (jw b b0 dA h)[a]? = some q) : ∃ c, h[a]? = some c ∧ q = (b0 + a, je b b0 dA c) := by
  unfold jw at hq
  rw [List.getElem?_mapIdx] at hq
  cases hc : h[a]? with
  | none => rw [hc] at hq; cases hq
  | some c => rw [hc] at hq; cases hq; exact ⟨c, rfl, rfl⟩
theorem jw_D (b b0 : Nat) (dA : Nat → ClassId) (h : List jC) : va_D (fun q => b0 ≤ q) (jw b b0 dA h) := by
  refine ⟨fun i j x y hi hj hxy => ?_, fun k q hk => ?_⟩
  · obtain ⟨_, _, rfl⟩ := jw_inv hi
    obtain ⟨_, _, rfl⟩ := jw_inv hj
    simp at hxy
    exact hxy
  · obtain ⟨_, _, rfl⟩ := jw_inv hk
    exact Nat.le_add_right b0 k
theorem jtys_get {dA : Nat → ClassId} {t : Nat} (ht : t < jm_nat) : (jtys dA)[t]? = some (dA t, jm_aty t) := by
  unfold jtys
  rw [List.getElem?_map, List.getElem?_range ht]
  rfl
theorem jWd.at {D : va_G} {dA : Nat → ClassId} {b b0 : Nat} {h : List jC} {H : Heap} (hW : jWd D dA b b0 h H) {a : Nat} {c : jC} (hc : h[a]? = some c) : va_at D vwCl (b0 + a, je b b0 dA c) H := hW.1 a _ (jw_get hc)
theorem jWd.set {D : va_G} {dA : Nat → ClassId} {b b0 : Nat} {h : List jC} {H H1 : Heap} (hW : jWd D dA b b0 h H) {a : Nat} {c0 c : jC} (hc : h[a]? = some c0) (he : va_at D vwCl (b0 + a, je b b0 dA c) H1) (hz : H1.size = H.size) (oq : ∀ q : Nat, q ≠ b0 + a → H1[q]? = H[q]?) : jWd D dA b b0 (h.set a c) H1 := by
  have hl := (List.getElem?_eq_some_iff.mp hc).1
  refine ⟨fun k q hq => ?_, by rw [hz, hW.2, List.length_set]⟩
  obtain ⟨c', hc', rfl⟩ := jw_inv hq
  by_cases hk : k = a
  · subst hk
    rw [List.getElem?_set_self hl] at hc'
    cases hc'
    exact he
  · rw [List.getElem?_set_ne (Ne.symm hk)] at hc'
    exact (hW.at hc').kept (oq _ (by show b0 + k ≠ b0 + a; omega))
theorem jWd.push {D : va_G} {dA : Nat → ClassId} {b b0 : Nat} {h : List jC} {H H1 : Heap} (hW : jWd D dA b b0 h H) {c : jC} (he : va_at D vwCl (b0 + h.length, je b b0 dA c) H1) (hz : H1.size = H.size + 1) (oq : ∀ q : Nat, q < H.size → H1[q]? = H[q]?) : jWd D dA b b0 (h ++ [c]) H1 := by
  refine ⟨fun k q hq => ?_, by rw [hz, hW.2, List.length_append]; rfl⟩
  obtain ⟨c', hc', rfl⟩ := jw_inv hq
  by_cases hk : k < h.length
  · rw [List.getElem?_append_left hk] at hc'
    exact (hW.at hc').kept (oq _ (by show b0 + k < H.size; rw [hW.2]; omega))
  · rw [List.getElem?_append_right (by omega)] at hc'
    have h0 : k - h.length < 1 := (List.getElem?_eq_some_iff.mp hc').1
    have hk0 : k = h.length := by omega
    subst hk0
    rw [Nat.sub_self] at hc'
    cases hc'
    exact he
theorem jin_spec {i : Int32} {n : Nat} (h : jin i n = true) : vp_in i n := by
  unfold jin at h
  show ¬ (i < 0 ∨ n ≤ i.toNatClampNeg)
  exact of_decide_eq_true h
theorem jfit_ok {ty : FieldType} {v : Value} (b b0 : Nat) (h : jfit ty v = true) : narrow ty (jv b b0 v) = jv b b0 v ∧ fits ty (jv b b0 v) = true := by
  unfold jfit at h
  split at h
  · exact ⟨rfl, rfl⟩
  · next x =>
    rcases of_decide_eq_true h with rfl | rfl
    · exact ⟨show narrow .boolean (.int 0) = .int 0 by decide +kernel, show fits .boolean (.int 0) = true by decide +kernel⟩
    · exact ⟨show narrow .boolean (.int 1) = .int 1 by decide +kernel, show fits .boolean (.int 1) = true by decide +kernel⟩
  · exact ⟨rfl, rfl⟩
  · exact ⟨rfl, rfl⟩
  · exact ⟨rfl, rfl⟩
  · exact ⟨rfl, rfl⟩
  · exact ⟨rfl, rfl⟩
  · cases h
def jsz (c : jC) : Nat := match c with
  | .inl (_, n, _) => n
  | .inr (_, fs) => fs.length
def jsl (h : List jC) : Nat := (h.map jsz).sum
theorem jsl_set : ∀ (h : List jC) (a : Nat) (c0 c : jC), h[a]? = some c0 → jsz c = jsz c0 → jsl (h.set a c) = jsl h
  | [], _, _, _, h1, _ => by simp at h1
  | x :: h, 0, c0, c, h1, h2 => by
    simp at h1
    subst h1
    simp [jsl, h2]
  | x :: h, a + 1, c0, c, h1, h2 => by
    have := jsl_set h a c0 c (by simpa using h1) h2
    simp [jsl] at this ⊢
    exact this
theorem jsl_app (h g : List jC) : jsl (h ++ g) = jsl h + jsl g := by simp [jsl]
theorem jsl_one (c : jC) : jsl [c] = jsz c := by simp [jsl]

def jov (s : State) : Prop := (∀ C ∈ jm_over, va_AO C s) ∧ (Cond.arrayOver (.array .int)).before #[] s = true ∧ ∀ w ∈ jm_nest, va_Nw w s
/-- what stands fixed while a method runs -/
def jcx (D : va_G) (dA : Nat → ClassId) (b b0 L : Nat) (xs : Nat → Int32) (p : Program) (s : State) (m : MethodId) (args : Array Value) (meth : Method) (c : Code) (mi : Nat) : Prop :=
  p.tables.exec = Jvm.exec ∧ c.code = jm_code mi ∧ c.maxLocals = jm_maxL mi ∧ s.vm.findClass (jm_cn (jm_own mi)) = some m.cls ∧ (∀ w ∈ jm_gw, w.before args s = true) ∧ va_K D vwCl (jtys dA) s ∧ jov s ∧ (jm_ini mi = true → meth.name = "<init>") ∧ (mi = 0 → va_X b L xs s s.heap ∧ b < s.heap.size ∧ b < b0) ∧ b0 ≤ s.heap.size
section JH
variable {p : Program} {l : Launch} {e : Env} {R : Room} {s : State} {m : MethodId} {args : Array Value} {below : List Frame} {meth : Method} {c : Code} {H : Heap} {locs : List Loc} {cells slots : Nat} {Q : State → Prop}
variable {D : va_G} {dA : Nat → ClassId} {b b0 L mi pc : Nat} {xs : Nat → Int32} {ls : Array Slot} {rest : List Value} {h : List jC}
theorem jh_get (cx : jcx D dA b b0 L xs p s m args meth c mi) (hW : jWd D dA b b0 h H) {idx a ci f : Nat} {fs : List Value} {v : Value} (hf : jm_fld (jm_own mi) idx = some (ci, f)) (ha : h[a]? = some (.inr (ci, fs))) (hv : fs[f]? = some v) (hd : decode (jm_code mi) pc = .ok (.getfield idx, 3))
    (kk : W p l e R s m args below meth c H locs cells slots Q (F0 m (pc + 3) ls (jv b b0 v :: rest))) : W p l e R s m args below meth c H locs cells slots Q (F0 m pc ls (.ref (b0 + a) :: rest)) := by
  obtain ⟨hx, hb, hml, hown, hts, hK, hov, hin, hX, hbs⟩ := cx
  obtain ⟨C, T, N, hc, hN, hlk⟩ := jm_fld_ok _ _ _ _ hf
  obtain ⟨k1, k2, k3, k4, k5, k6, k7, k8⟩ := jm_cl_ok ci C T N hc
  have hT := (k7 f hN).1
  refine va_get hx hb hts k1 hown hK hW.1 a (jw_get ha) hc f hN (hts _ hlk) (fun x h => by rw [← hT]; exact h) ?_ hd kk
  rw [List.getElem?_map, hv]
  rfl
theorem jh_iald (cx : jcx D dA b b0 L xs p s m args meth c mi) (hW : jWd D dA b b0 h H) {a n : Nat} {f : Nat → Int32} {j : Int32} (ha : h[a]? = some (.inl (0, n, .inl f))) (hj : jin j n = true) (hd : decode (jm_code mi) pc = .ok (.iaload, 1))
    (kk : W p l e R s m args below meth c H locs cells slots Q (F0 m (pc + 1) ls (.int (f j.toNatClampNeg) :: rest))) : W p l e R s m args below meth c H locs cells slots Q (F0 m pc ls (.int j :: .ref (b0 + a) :: rest)) := by
  obtain ⟨hx, hb, hml, hown, hts, hK, hov, hin, hX, hbs⟩ := cx
  have ht := jtys_get (dA := dA) (t := 0) (Nat.lt_of_lt_of_le (by decide) jm_nat2)
  rw [jm_aty0] at ht
  exact va_iald hx hb hK hW.1 a 0 (jw_get ha) ht (jin_spec hj) hd kk
theorem jh_bald (cx : jcx D dA b b0 L xs p s m args meth c mi) (hW : jWd D dA b b0 h H) {a n : Nat} {f : Nat → Int32} {j : Int32} (ha : h[a]? = some (.inl (1, n, .inl f))) (hj : jin j n = true) (hd : decode (jm_code mi) pc = .ok (.baload, 1))
    (kk : W p l e R s m args below meth c H locs cells slots Q (F0 m (pc + 1) ls (.int (f j.toNatClampNeg) :: rest))) : W p l e R s m args below meth c H locs cells slots Q (F0 m pc ls (.int j :: .ref (b0 + a) :: rest)) := by
  obtain ⟨hx, hb, hml, hown, hts, hK, hov, hin, hX, hbs⟩ := cx
  have ht := jtys_get (dA := dA) (t := 1) (Nat.lt_of_lt_of_le (by decide) jm_nat2)
  rw [jm_aty1] at ht
  exact va_zald hx hb hK hW.1 a 1 (jw_get ha) ht (jin_spec hj) hd kk
theorem jh_aald (cx : jcx D dA b b0 L xs p s m args meth c mi) (hW : jWd D dA b b0 h H) {a n t : Nat} {f : Nat → Option Nat} {j : Int32} (ha : h[a]? = some (.inl (t, n, .inr (.inr (.inr (.inr f)))))) (h2 : 2 ≤ t) (ht : t < jm_nat) (hj : jin j n = true) (hd : decode (jm_code mi) pc = .ok (.aaload, 1))
    (kk : W p l e R s m args below meth c H locs cells slots Q (F0 m (pc + 1) ls (jv b b0 (jrf (f j.toNatClampNeg)) :: rest))) : W p l e R s m args below meth c H locs cells slots Q (F0 m pc ls (.int j :: .ref (b0 + a) :: rest)) := by
  obtain ⟨hx, hb, hml, hown, hts, hK, hov, hin, hX, hbs⟩ := cx
  have hr := jm_aref t h2 ht
  have hvi := jin_spec hj
  have hlt : j.toNatClampNeg < n := Nat.not_le.mp fun q => hvi (Or.inr q)
  have hg : ∀ i, va_rf ((f i).map (fun a => b0 + a)) = jv b b0 (jrf (f i)) := fun i => by cases f i <;> rfl
  have hP : H[b0 + a]? = some (arrV (dA t) n (fun i => va_rf ((f i).map (fun a => b0 + a)))) := hW.at ha
  refine W.aald (v := jv b b0 (jrf (f j.toNatClampNeg))) (ty := jm_aty t) hx hb hP ((hK.2 t _ (jtys_get ht)).1 n (fun i => va_rf ((f i).map (fun a => b0 + a)))) hr (fun q => by cases q) (by rw [arrV_size]; exact hvi) (by rw [arrV_read _ _ hlt, hg]) rfl rfl hd kk
theorem jh_alen (cx : jcx D dA b b0 L xs p s m args meth c mi) (hW : jWd D dA b b0 h H) {a n t : Nat} {x : (Nat → Int32) ⊕ (Nat → Int64) ⊕ (Nat → UInt32) ⊕ (Nat → UInt64) ⊕ (Nat → Option Nat)} (ha : h[a]? = some (.inl (t, n, x))) (ht : t < jm_nat) (hd : decode (jm_code mi) pc = .ok (.arraylength, 1))
    (kk : W p l e R s m args below meth c H locs cells slots Q (F0 m (pc + 1) ls (.int (Int32.ofNat n) :: rest))) : W p l e R s m args below meth c H locs cells slots Q (F0 m pc ls (.ref (b0 + a) :: rest)) := by
  obtain ⟨hx, hb, hml, hown, hts, hK, hov, hin, hX, hbs⟩ := cx
  refine va_alen hx hb hK hW.1 a t (jw_get ha) (jtys_get ht) ?_ hd kk
  obtain f | f | f | f | f := x <;> rfl
theorem jh_sld (cx : jcx D dA b b0 L xs p s m args meth c mi) (h0 : mi = 0) (hS : va_S (fun q => b0 ≤ q) s.heap H locs) {j : Int32} (hj : jin j L = true) (hd : decode (jm_code mi) pc = .ok (.iaload, 1))
    (kk : W p l e R s m args below meth c H locs cells slots Q (F0 m (pc + 1) ls (.int (xs j.toNatClampNeg) :: rest))) : W p l e R s m args below meth c H locs cells slots Q (F0 m pc ls (.int j :: .ref b :: rest)) := by
  obtain ⟨hx, hb, hml, hown, hts, hK, hov, hin, hX, hbs⟩ := cx
  obtain ⟨g1, g2, g3⟩ := hX h0
  exact va_sld hx hb g1 g2 (by show ¬ b0 ≤ b; omega) hS (jin_spec hj) hd kk
theorem jh_slen (cx : jcx D dA b b0 L xs p s m args meth c mi) (h0 : mi = 0) (hS : va_S (fun q => b0 ≤ q) s.heap H locs) (hd : decode (jm_code mi) pc = .ok (.arraylength, 1))
    (kk : W p l e R s m args below meth c H locs cells slots Q (F0 m (pc + 1) ls (.int (Int32.ofNat L) :: rest))) : W p l e R s m args below meth c H locs cells slots Q (F0 m pc ls (.ref b :: rest)) := by
  obtain ⟨hx, hb, hml, hown, hts, hK, hov, hin, hX, hbs⟩ := cx
  obtain ⟨g1, g2, g3⟩ := hX h0
  exact va_slen hx hb g1 g2 (by show ¬ b0 ≤ b; omega) hS hd kk
end JH
end
section
section JP
variable {p : Program} {l : Launch} {e : Env} {R : Room} {s : State} {m : MethodId} {args : Array Value} {below : List Frame} {meth : Method} {c : Code} {H : Heap} {locs : List Loc} {cells slots : Nat} {Q : State → Prop}
variable {D : va_G} {dA : Nat → ClassId} {b b0 L mi pc : Nat} {xs : Nat → Int32} {ls : Array Slot} {rest : List Value} {h : List jC}
/-- what is to be shown behind a step that leaves the heap h' -/
def jKH (p : Program) (l : Launch) (e : Env) (R : Room) (s : State) (m : MethodId) (args : Array Value) (below : List Frame) (meth : Method) (c : Code) (cells slots : Nat) (Q : State → Prop) (D : va_G) (dA : Nat → ClassId) (b b0 : Nat) (h' : List jC) (g : JFrame) : Prop :=
  ∀ (H1 : Heap) (locs1 : List Loc), jWd D dA b b0 h' H1 → va_S (fun q => b0 ≤ q) s.heap H1 locs1 → W p l e R s m args below meth c H1 locs1 cells slots Q g
theorem jh_put (cx : jcx D dA b b0 L xs p s m args meth c mi) (hW : jWd D dA b b0 h H) (hS : va_S (fun q => b0 ≤ q) s.heap H locs) {idx a ci f : Nat} {fs : List Value} {v : Value} (hf : jm_fld (jm_own mi) idx = some (ci, f)) (ha : h[a]? = some (.inr (ci, fs))) (hl : f < fs.length) (hv : jfit (jm_ty ci f) v = true) (hfin : jm_fin ci f = false ∨ jm_ini mi = true ∧ jm_own mi = ci) (hd : decode (jm_code mi) pc = .ok (.putfield idx, 3))
    (kk : jKH p l e R s m args below meth c cells slots Q D dA b b0 (h.set a (.inr (ci, fs.set f v))) (F0 m (pc + 3) ls rest)) : W p l e R s m args below meth c H locs cells slots Q (F0 m pc ls (jv b b0 v :: .ref (b0 + a) :: rest)) := by
  obtain ⟨hx, hb, hml, hown, hts, hK, hov, hin, hX, hbs⟩ := cx
  obtain ⟨C, T, N, hc, hN, hlk⟩ := jm_fld_ok _ _ _ _ hf
  obtain ⟨k1, k2, k3, k4, k5, k6, k7, k8⟩ := jm_cl_ok ci C T N hc
  obtain ⟨hT, hFn⟩ := k7 f hN
  obtain ⟨n1, n2⟩ := jfit_ok b b0 hv
  have hap := va_apart (own := C) hts k1 (jm_ty ci) k2 k3 hK hc
  obtain ⟨r, h1, cell, q1, q2, q3, q4⟩ := hW.at ha
  have hr : r = (C, T, N) := Option.some.inj (h1.symm.trans hc)
  subst hr
  obtain ⟨hSl, hfc, kC, hkC, hkind⟩ := hK.1 ci _ hc
  obtain ⟨cf, kf, fi, fd, hi, hsl⟩ := hSl f hN
  have hlay := hts _ (k1 _ (u_in_lay hN))
  have hst := (u_facts hfc hkC (u_lays hts k1 hN) hi).1
  have hll : f < (fs.map (jv b b0)).length := by rw [List.length_map]; exact hl
  have fin : ∀ (H' : Heap) (i9 : Nat), H'[b0 + a]? = some (cell.setSlot fd.slot (jv b b0 v)) → H'.size = H.size → (∀ q, q ≠ b0 + a → H'[q]? = H[q]?) → W p l e R s m args below meth c H' (locs ++ [⟨b0 + a, i9⟩]) cells slots Q (F0 m (pc + 3) ls rest) := by
    intro H' i9 e1 e2 e3
    rw [hsl] at e1
    refine kk H' _ (hW.set ha ?_ e2 e3) (hS.put e2 e3 (Nat.le_add_right b0 a))
    refine ⟨_, hc, ?_⟩
    have := t_OB.to (V := updV (vp_V (fs.map (jv b b0))) f (jv b b0 v)) ⟨_, e1, q2, q3, t_set q4 hap hN (jv b b0 v)⟩ (fun j _ => vp_updV_set hll (jv b b0 v) j)
    rw [← List.map_set] at this
    exact this
  unfold u_lay at hlay
  by_cases hff : (T f).2.2.2 = true
  · rw [if_pos hff] at hlay
    have hii : jm_ini mi = true ∧ jm_own mi = ci := by
      rcases hfin with g | g
      · rw [← hFn, hff] at g; cases g
      · exact g
    have hcf : m.cls = cf := by
      obtain ⟨_, _, c', _, _, _, -, -, hf', -, -, -, hown2, -⟩ := Cond.laysFinal_spec hlay
      have e1 : c' = cf := by have := hi.symm.trans hf'; simp at this; exact this.1.symm
      rw [hT, ← k8, ← hii.2] at hown2
      rw [← e1]; exact Option.some.inj (hown.symm.trans hown2)
    have h6 := u_fits hfc hkC hkind (Or.inr hlay) hi (k2 f hN) n1 n2
    refine W.putFinK hx hb hown (hts _ hlk) (by rw [← hT]; exact hi) hst hcf (hin hii.1) (by rw [q2]; exact h6) q1 q3 (by rw [hsl]; exact k2_hasslot (q4 f hN)) rfl rfl hd fun H' e1 e2 e3 => fin H' _ e1 e2 e3
  · rw [if_neg hff] at hlay
    have h6 := u_store hfc hkC hkind hlay hi (k2 f hN) n1 n2
    refine W.putK hx hb (f := fd) ⟨hown, hts _ hlk, ⟨_, _, _, by rw [← hT]; exact hi⟩, hst⟩ (by rw [q2]; exact h6) q1 q3 (by rw [hsl]; exact k2_hasslot (q4 f hN)) rfl rfl hd fun H' e1 e2 e3 => fin H' _ e1 e2 e3
theorem jh_iast (cx : jcx D dA b b0 L xs p s m args meth c mi) (hW : jWd D dA b b0 h H) (hS : va_S (fun q => b0 ≤ q) s.heap H locs) {a n : Nat} {f : Nat → Int32} {j x : Int32} (ha : h[a]? = some (.inl (0, n, .inl f))) (hj : jin j n = true) (hd : decode (jm_code mi) pc = .ok (.iastore, 1))
    (kk : jKH p l e R s m args below meth c cells slots Q D dA b b0 (h.set a (.inl (0, n, .inl (upd f j.toNatClampNeg x)))) (F0 m (pc + 1) ls rest)) : W p l e R s m args below meth c H locs cells slots Q (F0 m pc ls (.int x :: .int j :: .ref (b0 + a) :: rest)) := by
  obtain ⟨hx, hb, hml, hown, hts, hK, hov, hin, hX, hbs⟩ := cx
  have ht := jtys_get (dA := dA) (t := 0) (Nat.lt_of_lt_of_le (by decide) jm_nat2)
  rw [jm_aty0] at ht
  have hP : H[b0 + a]? = some (arrV (dA 0) n (fun i => .int (f i))) := hW.at ha
  refine W.iast hx hb hP ((hK.2 0 _ ht).1 n (fun i => .int (f i))) (fun q => by cases q) (by rw [arrV_size]; exact jin_spec hj) rfl rfl hd fun H1 e1 z oq => ?_
  refine kk H1 _ (hW.set ha ?_ z oq) (hS.put z oq (Nat.le_add_right b0 a))
  show H1[b0 + a]? = some (arrV (dA 0) n (fun i => .int (upd f j.toNatClampNeg x i)))
  rw [e1, arrV_store]
  refine congrArg (fun g => some (arrV (dA 0) n g)) (funext fun q => ?_)
  by_cases hq : q = j.toNatClampNeg
  · subst hq
    simp [updV, upd]
  · simp [updV, upd, hq]
theorem jh_bast (cx : jcx D dA b b0 L xs p s m args meth c mi) (hW : jWd D dA b b0 h H) (hS : va_S (fun q => b0 ≤ q) s.heap H locs) {a n : Nat} {f : Nat → Int32} {j x : Int32} (ha : h[a]? = some (.inl (1, n, .inl f))) (hj : jin j n = true) (hz : x = 0 ∨ x = 1) (hd : decode (jm_code mi) pc = .ok (.bastore, 1))
    (kk : jKH p l e R s m args below meth c cells slots Q D dA b b0 (h.set a (.inl (1, n, .inl (upd f j.toNatClampNeg x)))) (F0 m (pc + 1) ls rest)) : W p l e R s m args below meth c H locs cells slots Q (F0 m pc ls (.int x :: .int j :: .ref (b0 + a) :: rest)) := by
  obtain ⟨hx, hb, hml, hown, hts, hK, hov, hin, hX, hbs⟩ := cx
  have ht := jtys_get (dA := dA) (t := 1) (Nat.lt_of_lt_of_le (by decide) jm_nat2)
  rw [jm_aty1] at ht
  have hP : H[b0 + a]? = some (arrV (dA 1) n (fun i => .int (f i))) := hW.at ha
  have hnz : narrow .boolean (.int x) = .int x := by
    rcases hz with rfl | rfl <;> decide +kernel
  refine W.zast hx hb hP ((hK.2 1 _ ht).1 n (fun i => .int (f i))) (fun q => by cases q) (by rw [arrV_size]; exact jin_spec hj) rfl rfl hd fun H1 e1 z oq => ?_
  refine kk H1 _ (hW.set ha ?_ z oq) (hS.put z oq (Nat.le_add_right b0 a))
  show H1[b0 + a]? = some (arrV (dA 1) n (fun i => .int (upd f j.toNatClampNeg x i)))
  rw [e1, arrV_store, hnz]
  refine congrArg (fun g => some (arrV (dA 1) n g)) (funext fun q => ?_)
  by_cases hq : q = j.toNatClampNeg
  · subst hq
    simp [updV, upd]
  · simp [updV, upd, hq]
theorem jh_aast (cx : jcx D dA b b0 L xs p s m args meth c mi) (hW : jWd D dA b b0 h H) (hS : va_S (fun q => b0 ≤ q) s.heap H locs) {a n t v ci : Nat} {vs : List Value} {f : Nat → Option Nat} {j : Int32} (ha : h[a]? = some (.inl (t, n, .inr (.inr (.inr (.inr f)))))) (hv : h[v]? = some (.inr (ci, vs))) (he : jm_ael t = some ci) (ht : t < jm_nat) (hj : jin j n = true) (hd : decode (jm_code mi) pc = .ok (.aastore, 1))
    (kk : jKH p l e R s m args below meth c cells slots Q D dA b b0 (h.set a (.inl (t, n, .inr (.inr (.inr (.inr (va_up f j.toNatClampNeg (some v)))))))) (F0 m (pc + 1) ls rest)) : W p l e R s m args below meth c H locs cells slots Q (F0 m pc ls (.ref (b0 + v) :: .int j :: .ref (b0 + a) :: rest)) := by
  obtain ⟨hx, hb, hml, hown, hts, hK, hov, hin, hX, hbs⟩ := cx
  obtain ⟨r, hr, hty⟩ := jm_ael_ok t ci he
  have hvi := jin_spec hj
  have hlt : j.toNatClampNeg < n := Nat.not_le.mp fun q => hvi (Or.inr q)
  have h0 : ¬ j < 0 := fun q => hvi (Or.inl q)
  obtain ⟨r', hr', cellV, g1, g2, g3, -⟩ := hW.at hv
  have hcls := (hK.1 ci r hr).2
  have hK2 := (hK.2 t _ (jtys_get ht)).2
  simp only [hty] at hK2
  obtain ⟨kA, comp, k1, k2, k3, -⟩ := hK2
  have hcomp : comp = D.1 ci := Option.some.inj (k3.symm.trans hcls.1)
  subst hcomp
  obtain ⟨kC, hkC, -⟩ := hcls.2
  have hP : H[b0 + a]? = some (arrV (dA t) n (fun i => va_rf ((f i).map (fun a => b0 + a)))) := hW.at ha
  refine W.aast hx hb hP (fun q h => by cases h) (fun h => by cases h) k1 k2 rfl hkC ⟨h0, by rw [arrV_size]; exact hlt⟩ g1 (fun q h => by rw [g3] at h; cases h) (by rw [g2]; exact hkC) (by rw [g2]; exact va_assign hcls) rfl rfl hd fun H1 e1 z oq => ?_
  refine kk H1 _ (hW.set ha ?_ z oq) (hS.put z oq (Nat.le_add_right b0 a))
  show H1[b0 + a]? = some (arrV (dA t) n (fun i => va_rf ((va_up f j.toNatClampNeg (some v) i).map (fun a => b0 + a))))
  rw [e1, arrV_store]
  refine congrArg (fun g => some (arrV (dA t) n g)) (funext fun q => ?_)
  by_cases hq : q = j.toNatClampNeg
  · subst hq
    simp [updV, va_up, va_rf]
  · simp [updV, va_up, hq]
end JP
end
section
section JN
variable {p : Program} {l : Launch} {e : Env} {R : Room} {s : State} {m : MethodId} {args : Array Value} {below : List Frame} {meth : Method} {c : Code} {H : Heap} {locs : List Loc} {cells slots : Nat} {Q : State → Prop}
variable {D : va_G} {dA : Nat → ClassId} {b b0 L mi pc : Nat} {xs : Nat → Int32} {ls : Array Slot} {rest : List Value} {h : List jC}
theorem jS_push {H1 : Heap} (hS : va_S (fun q => b0 ≤ q) s.heap H locs) (hz : H1.size = H.size + 1) (oq : ∀ q : Nat, q < H.size → H1[q]? = H[q]?) : va_S (fun q => b0 ≤ q) s.heap H1 locs :=
  ⟨Nat.le_trans hS.1 (by omega), fun q h1 h2 => (oq q (Nat.lt_of_lt_of_le h1 hS.1)).trans (hS.2.1 q h1 h2), hS.2.2⟩
theorem jv_def (b b0 : Nat) (ty : FieldType) : jv b b0 (defaultValue ty) = defaultValue ty := by
  cases ty <;> rfl
theorem jh_new (cx : jcx D dA b b0 L xs p s m args meth c mi) (hW : jWd D dA b b0 h H) (hS : va_S (fun q => b0 ≤ q) s.heap H locs) {idx ci : Nat} (hn : jm_new (jm_own mi) idx = some ci) (hd : decode (jm_code mi) pc = .ok (.new idx, 3)) (hcells : cells + 1 ≤ R.cells) (hslots : slots + jm_nf ci ≤ R.slots)
    (kk : jKH p l e R s m args below meth c (cells + 1) (slots + jm_nf ci) Q D dA b b0 (h ++ [.inr (ci, (List.range (jm_nf ci)).map (fun j => defaultValue (jm_ty ci j)))]) (F0 m (pc + 3) ls (.ref (b0 + h.length) :: rest))) : W p l e R s m args below meth c H locs cells slots Q (F0 m pc ls rest) := by
  obtain ⟨hx, hb, hml, hown, hts, hK, hov, hin, hX, hbs⟩ := cx
  obtain ⟨C, T, N, hc, hlk⟩ := jm_new_ok _ _ _ hn
  obtain ⟨k1, k2, k3, k4, k5, k6, k7, k8⟩ := jm_cl_ok ci C T N hc
  subst k6
  have hKn := hK.1 ci _ hc
  refine W.newcK hx hb hown (hts _ hlk) (hts _ k4) (hts _ k5) rfl hd hcells hslots hKn.2.1 hW.2 fun H1 kC hkC e1 z1 o1 => ?_
  have z1' : H1.size = H.size + 1 := by rw [z1, hW.2]
  have o1' : ∀ q : Nat, q < H.size → H1[q]? = H[q]? := fun q hq => o1 q (by rw [← hW.2]; exact hq)
  refine kk H1 _ (hW.push ?_ z1' o1') (jS_push hS z1' o1')
  refine ⟨_, hc, (u_born (jm_ty ci) hts k1 hKn hkC e1 k2).to ?_⟩
  intro j hj
  simp [vp_V, List.getD_eq_getElem?_getD, List.getElem?_map, List.getElem?_range hj, jv_def]
theorem jh_newa (cx : jcx D dA b b0 L xs p s m args meth c mi) (hW : jWd D dA b b0 h H) (hS : va_S (fun q => b0 ≤ q) s.heap H locs) {at9 : ArrayType} {t : Nat} (ht : t < jm_nat) (hty : newarray.typeOf at9 = jm_aty t) (har : Cond.arrayClass (jm_aty t) ∈ jm_gw) (hdv : defaultValue (jm_aty t) = .int 0) (hcb : componentBytes (jm_aty t) ≤ 4) (hra : ∀ (U : State) (cA : ClassId), va_RA U cA (jm_aty t) → U.vm.findClass ("[" ++ (jm_aty t).toString) = some cA) {n : Int32} (hn : ¬ n < 0) (hn2 : n.toNatClampNeg ≤ 100000) (hd : decode (jm_code mi) pc = .ok (.newarray at9, 2)) (hcells : cells + 1 ≤ R.cells) (hslots : slots + n.toNatClampNeg ≤ R.slots)
    (kk : jKH p l e R s m args below meth c (cells + 1) (slots + n.toNatClampNeg) Q D dA b b0 (h ++ [.inl (t, n.toNatClampNeg, .inl (fun _ => 0))]) (F0 m (pc + 2) ls (.ref (b0 + h.length) :: rest))) : W p l e R s m args below meth c H locs cells slots Q (F0 m pc ls (.int n :: rest)) := by
  obtain ⟨hx, hb, hml, hown, hts, hK, hov, hin, hX, hbs⟩ := cx
  have hbytes : n.toNatClampNeg * componentBytes (jm_aty t) ≤ 536870912 := Nat.le_trans (Nat.mul_le_mul hn2 hcb) (by decide)
  refine va_newaK hx hb (by rw [hty]; exact hts _ har) rfl hd rfl hn rfl (by rw [hty]; exact hbytes) hcells hslots hW.2 fun H1 cA e1 z1 o1 hAr hNm => ?_
  have z1' : H1.size = H.size + 1 := by rw [z1, hW.2]
  have o1' : ∀ q : Nat, q < H.size → H1[q]? = H[q]? := fun q hq => o1 q (by rw [← hW.2]; exact hq)
  rw [hty] at e1 hNm
  have hcA : cA = dA t := Option.some.inj (hNm.symm.trans (hra s _ (hK.2 t _ (jtys_get ht)).2))
  subst hcA
  refine kk H1 _ (hW.push ?_ z1' o1') (jS_push hS z1' o1')
  show H1[b0 + h.length]? = some (arrV (dA t) n.toNatClampNeg (fun _ => .int 0))
  rw [e1, hdv]
theorem jh_newq (cx : jcx D dA b b0 L xs p s m args meth c mi) (hW : jWd D dA b b0 h H) (hS : va_S (fun q => b0 ≤ q) s.heap H locs) {idx t : Nat} (hq : jm_anew (jm_own mi) idx = some t) {n : Int32} (hn : ¬ n < 0) (hn2 : n.toNatClampNeg ≤ 100000) (hd : decode (jm_code mi) pc = .ok (.anewarray idx, 3)) (hcells : cells + 1 ≤ R.cells) (hslots : slots + n.toNatClampNeg ≤ R.slots)
    (kk : jKH p l e R s m args below meth c (cells + 1) (slots + n.toNatClampNeg) Q D dA b b0 (h ++ [.inl (t, n.toNatClampNeg, .inr (.inr (.inr (.inr (fun _ => none)))))]) (F0 m (pc + 3) ls (.ref (b0 + h.length) :: rest))) : W p l e R s m args below meth c H locs cells slots Q (F0 m pc ls (.int n :: rest)) := by
  obtain ⟨hx, hb, hml, hown, hts, hK, hov, hin, hX, hbs⟩ := cx
  obtain ⟨t2, ht, C, hty, hC, hlk⟩ := jm_anew_ok _ _ _ hq
  refine W.anew hx hb hown (hts _ hlk) (va_AO.use (hov.1 C hC)) rfl hd rfl hn (by omega) hcells hslots fun cA kA comp f1 f2 f3 f4 => ?_
  generalize hH1 : H.push ({ cls := cA, slots := Array.replicate n.toNatClampNeg .null, vm := .none } : Cell) = H1
  have z1 : H1.size = H.size + 1 := by rw [← hH1, Array.size_push]
  have e1 : H1[H.size]? = some (arrV cA n.toNatClampNeg (fun _ => .null)) := by rw [← hH1, Array.getElem?_push_size, ← arrV_new]
  have o1 : ∀ q : Nat, q < H.size → H1[q]? = H[q]? := fun q hq => by rw [← hH1, Array.getElem?_push, if_neg (Nat.ne_of_lt hq)]
  have hK2 := (hK.2 t _ (jtys_get ht)).2
  simp only [hty] at hK2
  obtain ⟨kA9, comp9, k1, k2, k3, k4⟩ := hK2
  have hcA : cA = dA t := Option.some.inj (f1.symm.trans k4)
  subst hcA
  have := kk H1 locs (hW.push (c := .inl (t, n.toNatClampNeg, .inr (.inr (.inr (.inr (fun _ => none)))))) (by
    show H1[b0 + h.length]? = some (arrV (dA t) n.toNatClampNeg (fun _ => va_rf (Option.map (fun a => b0 + a) none)))
    rw [← hW.2, e1]
    rfl) z1 o1) (jS_push hS z1 o1)
  rw [hW.2]
  exact this
theorem jh_oi (cx : jcx D dA b b0 L xs p s m args meth c mi) (hl : ls.size = jm_maxL mi) {idx : Nat} {a : Nat} (ho : jm_oi (jm_own mi) idx = true) (hd : decode (jm_code mi) pc = .ok (.invokespecial idx, 3)) (hfr : 1 ≤ R.frames) (hlo : 40 ≤ R.locals) (hcat : (rest.map fun v => v.category).sum ≤ 8)
    (kk : W p l e R s m args below meth c H locs cells slots Q (F0 m (pc + 3) ls rest)) : W p l e R s m args below meth c H locs cells slots Q (F0 m pc ls (.ref a :: rest)) := by
  obtain ⟨hx, hb, hml, hown, hts, hK, hov, hin, hX, hbs⟩ := cx
  obtain ⟨g1, g2, g3⟩ := jm_oi_ok _ _ ho
  exact W.objInit hx hb hown (hts _ g1) (hts _ g2) (hts _ g3) rfl (by rw [hml]; exact hl) rfl hd hfr (by show 2 * 0 + _ + 12 ≤ _; omega) kk
theorem va_mfmod (hexec : p.tables.exec = Jvm.exec) {cc : ByteArray} (hb : c.code = cc) (hml : c.maxLocals = ls.size) {own : String} {index : Nat} (hown : s.vm.findClass own = some m.cls) (hlink : (Cond.methodLink own index Jvm.Free.MCB.FloorMod.yN).before args s = true) (hstat : (Cond.static Jvm.Free.MCB.FloorMod.yN).before args s = true) (hini : (Cond.initialized "java/lang/Math").before args s = true) (hcode : Jvm.Free.MCB.FloorMod.tab.before args s = true)
    (hframes : 1 ≤ R.frames) (hlocals : 40 ≤ R.locals) (hcat : (rest.map fun v => v.category).sum ≤ 8) (hc : cells ≤ R.cells) (hs : slots ≤ R.slots) {x y : Int32} (hy : y ≠ 0) (hdg : decode cc pc = .ok (.invokestatic index, 3))
    (kk : W p l e R s m args below meth c H locs cells slots Q (F0 m (pc + 3) ls (.int (Jvm.Free.MCB.fmod x y) :: rest))) : W p l e R s m args below meth c H locs cells slots Q (F0 m pc ls (.int y :: .int x :: rest)) := by
  intro T hT X
  obtain ⟨v, vm₁, ⟨U', l2, c2, s2⟩, hW₁, X', ⟨⟨e1, e2, e3, e4⟩, hq⟩, st⟩ := callS X hexec (own := own) (index := index) (y := Jvm.Free.MCB.FloorMod.yN) (bytes := Jvm.Free.MCB.FloorMod.yB) (maxL := 3) (ret := some .int) hown hlink hstat hini hcode (by decide) (W := 8) (Jvm.Free.MCB.FloorMod.pays (len := 3) (W := 8) hframes (by omega) hcode hini) (g := F0 m pc ls (.int y :: .int x :: rest)) rfl (by rw [hml]) (argsL := [.int x, .int y]) (rest := rest) (fun sig hs => by
      have h : parseMethodDescriptor "(II)I" = some { parameters := [.int, .int], returnType := some .int } := by decide +kernel
      rw [show Jvm.Free.MCB.FloorMod.yN.desc = "(II)I" from rfl, h] at hs
      rw [← Option.some.inj hs]
      rfl) rfl (by show 2 * 0 + _ ≤ 8; omega) (by rw [hb]; exact hdg) (fun vm₁ hW => ⟨hc, hs, (x, y), rfl, hy⟩)
  dsimp only [Pt.U, Pt.locs, Pt.cells, Pt.slots] at X' e1 e2 e3 e4 st
  have hv := hq (x, y) ⟨rfl, hy⟩
  subst hv
  subst e2; subst e3; subst e4
  obtain ⟨t, a1, b1⟩ := kk U' (e1.trans hT) X'
  exact ⟨t, st t a1, b1⟩
theorem jh_mm (cx : jcx D dA b b0 L xs p s m args meth c mi) (hl : ls.size = jm_maxL mi) {idx v : Nat} {x y : Int32} (ho : jm_mm (jm_own mi) idx = some v) (hd : decode (jm_code mi) pc = .ok (.invokestatic idx, 3)) (hfr : 1 ≤ R.frames) (hlo : 40 ≤ R.locals) (hcat : (rest.map fun v => v.category).sum ≤ 8) (hy : v = 2 → y ≠ 0) (hc : cells ≤ R.cells) (hs : slots ≤ R.slots)
    (kk : W p l e R s m args below meth c H locs cells slots Q (F0 m (pc + 3) ls (.int (jmmv v x y) :: rest))) : W p l e R s m args below meth c H locs cells slots Q (F0 m pc ls (.int y :: .int x :: rest)) := by
  obtain ⟨hx, hb, hml, hown, hts, hK, hov, hin, hX, hbs⟩ := cx
  have hlk := jm_mm_ok _ _ _ ho
  unfold jmmv at kk
  by_cases hv : v = 1
  · rw [if_pos hv] at hlk kk
    exact va_mmax hx hb (by rw [hml]; exact hl.symm) hown (hts _ hlk) (hts _ jm_max_ok.1) (hts _ jm_max_ok.2.1) (hts _ jm_max_ok.2.2) hfr (by omega) hc hs hd kk
  · rw [if_neg hv] at hlk kk
    by_cases hv2 : v = 2
    · rw [if_pos hv2] at hlk kk
      exact va_mfmod hx hb (by rw [hml]; exact hl.symm) hown (hts _ hlk) (hts _ jm_fmd_ok.1) (hts _ jm_fmd_ok.2.1) (hts _ jm_fmd_ok.2.2) hfr hlo hcat hc hs (hy hv2) hd kk
    · rw [if_neg hv2] at hlk kk
      exact va_mmin hx hb (by rw [hml]; exact hl.symm) hown (hts _ hlk) (hts _ jm_min_ok.1) (hts _ jm_min_ok.2.1) (hts _ jm_min_ok.2.2) hfr (by omega) hc hs hd kk
end JN
end
section
section JAC
variable {p : Program} {l : Launch} {e : Env} {R : Room} {s : State} {m : MethodId} {args : Array Value} {below : List Frame} {meth : Method} {c : Code} {H : Heap} {locs : List Loc} {cells slots : Nat} {Q : State → Prop}
variable {D : va_G} {dA : Nat → ClassId} {b b0 L mi pc : Nat} {xs : Nat → Int32} {ls : Array Slot} {rest : List Value} {h : List jC}
theorem jn_nn {z : Int32} (hz : ¬ z < 0) : z.toInt = (z.toNatClampNeg : Int) := by
  have h1 : (0 : Int) ≤ z.toInt := by
    have := Int32.not_lt.mp hz
    simpa using Int32.le_iff_toInt_le.mp this
  show z.toInt = ((z.toInt.toNat : Nat) : Int)
  omega
set_option maxHeartbeats 1000000 in
theorem jh_copy (cx : jcx D dA b b0 L xs p s m args meth c mi) (hW : jWd D dA b b0 h H) (hS : va_S (fun q => b0 ≤ q) s.heap H locs) (hl : ls.size = jm_maxL mi) {idx a a0 n0 n1 : Nat} {f g : Nat → Int32} {sp dp n : Int32} (ho : jm_ac (jm_own mi) idx = true) (ha0 : h[a0]? = some (.inl (0, n0, .inl f))) (ha : h[a]? = some (.inl (0, n1, .inl g)))
    (h1 : ¬ sp < 0) (h2 : ¬ dp < 0) (h3 : ¬ n < 0) (h4 : sp.toNatClampNeg + n.toNatClampNeg ≤ n0) (h5 : dp.toNatClampNeg + n.toNatClampNeg ≤ n1) (hd : decode (jm_code mi) pc = .ok (.invokestatic idx, 3)) (hfr : 1 ≤ R.frames) (hlo : 40 ≤ R.locals) (hcat : (rest.map fun v => v.category).sum ≤ 8)
    (kk : jKH p l e R s m args below meth c cells slots Q D dA b b0 (h.set a (.inl (0, n1, .inl (va_cpy f g sp.toNatClampNeg dp.toNatClampNeg n.toNatClampNeg)))) (F0 m (pc + 3) ls rest)) : W p l e R s m args below meth c H locs cells slots Q (F0 m pc ls (.int n :: .int dp :: .ref (b0 + a) :: .int sp :: .ref (b0 + a0) :: rest)) := by
  obtain ⟨hx, hb, hml, hown, hts, hK, hov, hin, hX, hbs⟩ := cx
  obtain ⟨g1, g2, g3, g4⟩ := jm_ac_ok _ _ ho
  have ht := jtys_get (dA := dA) (t := 0) (Nat.lt_of_lt_of_le (by decide) jm_nat2)
  rw [jm_aty0] at ht
  have hc0 : H[b0 + a0]? = some (arrV (dA 0) n0 (fun j => .int (f j))) := hW.at ha0
  have hc1 : H[b0 + a]? = some (arrV (dA 0) n1 (fun j => .int (g j))) := hW.at ha
  intro T hT X
  obtain ⟨-, k0, hk0, cm0, hkk0⟩ := (hK.2 0 _ ht).1 n0 (fun j => .int (f j))
  obtain ⟨-, k1, hk1, cm1, hkk1⟩ := (hK.2 0 _ ht).1 n1 (fun j => .int (g j))
  have hrd : ∀ i, i < n.toNatClampNeg → (arrV (dA 0) n0 (fun j => .int (f j))).slots.getD (sp.toNatClampNeg + i) .null = .int (f (sp.toNatClampNeg + i)) := fun i hi => by
    rw [Array.getD_eq_getD_getElem?, arrV_read _ _ (by omega)]
    rfl
  obtain ⟨vm', X', step⟩ := X.arraycopy hx hown (hts _ g1) (hts _ g2) (hts _ g3) (hts _ g4) (src := b0 + a0) (dst := b0 + a) (srcPos := sp) (destPos := dp) (n := n) (by rw [hT]; exact hc0) (by rw [hT]; exact hc1)
    (fun _ h => by cases h) (fun _ h => by cases h) (fun h => by cases h) (fun h => by cases h) hk0 hk1 hkk0 hkk1 (by simp [refKind]) h1 h2 h3
    (by rw [jn_nn h1, jn_nn h3, arrV_size]; omega)
    (by rw [jn_nn h2, jn_nn h3, arrV_size]; omega)
    (fun vm₁ _ i hi => by rw [hrd i hi]; exact ⟨rfl, trivial⟩)
    (g := F0 m pc ls (.int n :: .int dp :: .ref (b0 + a) :: .int sp :: .ref (b0 + a0) :: rest)) rfl (by rw [hml]; exact hl) (rest := rest) rfl (by rw [hb]; exact hd) hfr (by
      have : nativeFrameWords "java/lang/System" "arraycopy" 5 + 11 ≤ 32 := by decide +kernel
      show 2 * 0 + _ + _ ≤ _
      omega)
  have e1 : copied (arrV (dA 0) n0 (fun j => .int (f j))) (arrV (dA 0) n1 (fun j => .int (g j))) sp dp n = arrV (dA 0) n1 (fun j => .int (va_cpy f g sp.toNatClampNeg dp.toNatClampNeg n.toNatClampNeg j)) := va_copied (fun z => .int z) (dA 0) (dA 0) f g h4
  rw [e1] at X' step
  have hlt : b0 + a < H.size := (Array.getElem?_eq_some_iff.mp hc1).1
  obtain ⟨t, a1, b1⟩ := kk (H.setIfInBounds (b0 + a) (arrV (dA 0) n1 (fun j => .int (va_cpy f g sp.toNatClampNeg dp.toNatClampNeg n.toNatClampNeg j)))) _
    (hW.set ha (show (H.setIfInBounds (b0 + a) (arrV (dA 0) n1 (fun j => .int (va_cpy f g sp.toNatClampNeg dp.toNatClampNeg n.toNatClampNeg j))))[b0 + a]? = some (arrV (dA 0) n1 (fun j => .int (va_cpy f g sp.toNatClampNeg dp.toNatClampNeg n.toNatClampNeg j))) by simp [Array.getElem?_setIfInBounds, hlt]) (by simp) (fun q hq => by simp [Array.getElem?_setIfInBounds, Ne.symm hq]))
    ⟨by simp; exact hS.1, fun q q1 q2 => by
      have hq : ¬ b0 + a = q := fun z => q2 (by show b0 ≤ q; omega)
      simp [Array.getElem?_setIfInBounds, hq]
      exact hS.2.1 q q1 q2, fun q hq => by
      rcases List.mem_append.mp hq with z | z
      · exact hS.2.2 q z
      · obtain ⟨y, -, hy⟩ := List.mem_map.mp z
        rw [← hy]
        exact Nat.le_add_right b0 a⟩ _ (by rw [← hT]; rfl) X'
  exact ⟨t, step t a1, b1⟩
end JAC
end
section
section JHOK
variable {p : Program} {l : Launch} {e : Env} {R : Room} {s : State} {m : MethodId} {args : Array Value} {below : List Frame} {meth : Method} {c : Code} {H : Heap} {locs : List Loc} {cells slots : Nat} {Q : State → Prop}
variable {D : va_G} {dA : Nat → ClassId} {b b0 L mi pc len : Nat} {xs : Nat → Int32} {ls : Array Slot} {lv : jL} {st rest : List Value} {h : List jC}
/-- the row of multianewarray, proved in a late part: what it stands on is built late -/
def jMna (l : Launch) : Prop := ∀ (p : Program) (e : Env) (R : Room) (s : State) (m : MethodId) (args : Array Value) (below : List Frame) (meth : Method) (c : Code) (H : Heap) (locs : List Loc) (cells slots : Nat) (Q : State → Prop) (D : va_G) (dA : Nat → ClassId) (b b0 L mi pc : Nat) (xs : Nat → Int32) (ls : Array Slot) (rest : List Value) (h : List jC) (idx : Nat) (t : Nat × Nat) (n w : Int32),
    jcx D dA b b0 L xs p s m args meth c mi → jWd D dA b b0 h H → va_S (fun q => b0 ≤ q) s.heap H locs → jm_mna (jm_own mi) idx = some t → ¬ n < 0 → ¬ w < 0 → n.toNatClampNeg ≤ 1000 → w.toNatClampNeg ≤ 1000 → decode (jm_code mi) pc = .ok (.multianewarray idx 2, 4) → cells + (1 + n.toNatClampNeg) ≤ R.cells → slots + (n.toNatClampNeg + n.toNatClampNeg * w.toNatClampNeg) ≤ R.slots →
    jKH p l e R s m args below meth c (cells + (1 + n.toNatClampNeg)) (slots + (n.toNatClampNeg + n.toNatClampNeg * w.toNatClampNeg)) Q D dA b b0 ((h ++ [.inl (t.1, n.toNatClampNeg, .inr (.inr (.inr (.inr (fun i => if i < n.toNatClampNeg then some (h.length + 1 + i) else none)))))]) ++ List.replicate n.toNatClampNeg (.inl (0, w.toNatClampNeg, .inl (fun _ => 0)))) (F0 m (pc + 4) ls (.ref (b0 + h.length) :: rest)) →
    W p l e R s m args below meth c H locs cells slots Q (F0 m pc ls (.int w :: .int n :: rest))
theorem jsl_rep (n : Nat) (c : jC) : jsl (List.replicate n c) = n * jsz c := by
  induction n with
  | zero => simp [jsl]
  | succ n ih =>
    rw [List.replicate_succ, show (c :: List.replicate n c) = [c] ++ List.replicate n c from rfl, jsl_app, jsl_one, ih, Nat.succ_mul, Nat.add_comm]
theorem jk_same {g : JFrame} (hW : jWd D dA b b0 h H) (hS : va_S (fun q => b0 ≤ q) s.heap H locs) (kk : jKH p l e R s m args below meth c (cells + (h.length - h.length)) (slots + (jsl h - jsl h)) Q D dA b b0 h g) : W p l e R s m args below meth c H locs cells slots Q g := by
  have := kk H locs hW hS
  simpa using this
theorem jk_set {g : JFrame} {a : Nat} {c0 c9 : jC} (ha : h[a]? = some c0) (hz : jsz c9 = jsz c0) (kk : jKH p l e R s m args below meth c (cells + ((h.set a c9).length - h.length)) (slots + (jsl (h.set a c9) - jsl h)) Q D dA b b0 (h.set a c9) g) : jKH p l e R s m args below meth c cells slots Q D dA b b0 (h.set a c9) g := by
  rw [List.length_set, Nat.sub_self, jsl_set h a c0 c9 ha hz, Nat.sub_self] at kk
  exact kk
theorem jk_push {g : JFrame} {c9 : jC} (kk : jKH p l e R s m args below meth c (cells + ((h ++ [c9]).length - h.length)) (slots + (jsl (h ++ [c9]) - jsl h)) Q D dA b b0 (h ++ [c9]) g) : jKH p l e R s m args below meth c (cells + 1) (slots + jsz c9) Q D dA b b0 (h ++ [c9]) g := by
  rw [jsl_app, jsl_one, List.length_append, Nat.add_sub_cancel_left, Nat.add_sub_cancel_left] at kk
  exact kk
theorem jn_push {c9 : jC} (hc : cells + ((h ++ [c9]).length - h.length) ≤ R.cells) (hsl : slots + (jsl (h ++ [c9]) - jsl h) ≤ R.slots) : cells + 1 ≤ R.cells ∧ slots + jsz c9 ≤ R.slots := by
  rw [jsl_app, jsl_one, Nat.add_sub_cancel_left] at hsl
  rw [List.length_append, Nat.add_sub_cancel_left] at hc
  exact ⟨hc, hsl⟩
set_option maxHeartbeats 4000000 in
theorem jh_ok (hmna : jMna l) (cx : jcx D dA b b0 L xs p s m args meth c mi) (hW : jWd D dA b b0 h H) (hS : va_S (fun q => b0 ≤ q) s.heap H locs) (hl : ls.size = jm_maxL mi) (hfr : 1 ≤ R.frames) (hlo : 40 ≤ R.locals) {i : Instr} (hlen : jlen i = 0 ∨ len = jlen i) (hd : decode (jm_code mi) pc = .ok (i, len)) {r : Nat × jL × List Value × List jC}
    (hs : jH L xs (decide (mi = 0)) (jm_ini mi) (jm_own mi) pc lv st h i = some r) (hc : cells + (r.2.2.2.length - h.length) ≤ R.cells) (hsl : slots + (jsl r.2.2.2 - jsl h) ≤ R.slots)
    (kk : jKH p l e R s m args below meth c (cells + (r.2.2.2.length - h.length)) (slots + (jsl r.2.2.2 - jsl h)) Q D dA b b0 r.2.2.2 (F0 m r.1 ls (r.2.2.1.map (jv b b0)))) :
    W p l e R s m args below meth c H locs cells slots Q (F0 m pc ls (st.map (jv b b0))) := by
  cases i with
  | getfield idx =>
    simp only [jH] at hs
    split at hs
    · split at hs
      · next ci f ci' fs hf ha =>
        split at hs
        · next he =>
          subst he
          cases hv : fs[f]? with
          | none => rw [hv] at hs; cases hs
          | some v =>
            rw [hv] at hs
            cases hs
            exact jh_get cx hW hf ha hv (jq_len rfl (by decide) hlen hd) (jk_same hW hS kk)
        · cases hs
      · cases hs
    · cases hs
  | putfield idx =>
    simp only [jH] at hs
    split at hs
    · split at hs
      · next ci f ci' fs hf ha =>
        split at hs
        · next he =>
          obtain ⟨rfl, h1, h2, h3⟩ := he
          cases hs
          exact jh_put cx hW hS hf ha h1 h2 h3 (jq_len rfl (by decide) hlen hd) (jk_set ha (by simp [jsz]) kk)
        · cases hs
      · cases hs
    · cases hs
  | iaload =>
    simp only [jH] at hs
    split at hs
    · split at hs
      · next t n f ha =>
        split at hs
        · next he =>
          obtain ⟨rfl, h1⟩ := he
          cases hs
          exact jh_iald cx hW ha h1 (jq_len rfl (by decide) hlen hd) (jk_same hW hS kk)
        · cases hs
      · cases hs
    · split at hs
      · next he =>
        cases hs
        exact jh_sld cx (of_decide_eq_true he.1) hS he.2 (jq_len rfl (by decide) hlen hd) (jk_same hW hS kk)
      · cases hs
    · cases hs
  | baload =>
    simp only [jH] at hs
    split at hs
    · split at hs
      · next t n f ha =>
        split at hs
        · next he =>
          obtain ⟨rfl, h1⟩ := he
          cases hs
          exact jh_bald cx hW ha h1 (jq_len rfl (by decide) hlen hd) (jk_same hW hS kk)
        · cases hs
      · cases hs
    · cases hs
  | aaload =>
    simp only [jH] at hs
    split at hs
    · split at hs
      · next t n f ha =>
        split at hs
        · next he =>
          cases hs
          exact jh_aald cx hW ha he.1 he.2.1 he.2.2 (jq_len rfl (by decide) hlen hd) (jk_same hW hS kk)
        · cases hs
      · cases hs
    · cases hs
  | arraylength =>
    simp only [jH] at hs
    split at hs
    · split at hs
      · next t n x ha =>
        split at hs
        · next he =>
          cases hs
          exact jh_alen cx hW ha he (jq_len rfl (by decide) hlen hd) (jk_same hW hS kk)
        · cases hs
      · cases hs
    · split at hs
      · next he =>
        cases hs
        exact jh_slen cx (of_decide_eq_true he) hS (jq_len rfl (by decide) hlen hd) (jk_same hW hS kk)
      · cases hs
    · cases hs
  | iastore =>
    simp only [jH] at hs
    split at hs
    · split at hs
      · next t n f ha =>
        split at hs
        · next he =>
          obtain ⟨rfl, h1⟩ := he
          cases hs
          exact jh_iast cx hW hS ha h1 (jq_len rfl (by decide) hlen hd) (jk_set ha rfl kk)
        · cases hs
      · cases hs
    · cases hs
  | bastore =>
    simp only [jH] at hs
    split at hs
    · split at hs
      · next t n f ha =>
        split at hs
        · next he =>
          obtain ⟨rfl, h1, h2⟩ := he
          cases hs
          exact jh_bast cx hW hS ha h1 h2 (jq_len rfl (by decide) hlen hd) (jk_set ha rfl kk)
        · cases hs
      · cases hs
    · cases hs
  | aastore =>
    simp only [jH] at hs
    split at hs
    · split at hs
      · next t n f ci vs ha hv =>
        split at hs
        · next he =>
          cases hs
          exact jh_aast cx hW hS ha hv he.1 he.2.1 he.2.2 (jq_len rfl (by decide) hlen hd) (jk_set ha rfl kk)
        · cases hs
      · cases hs
    · cases hs
  | new idx =>
    simp only [jH] at hs
    split at hs
    · next ci hn =>
      cases hs
      obtain ⟨g1, g2⟩ := jn_push hc hsl
      have g3 : jsz (.inr (ci, (List.range (jm_nf ci)).map (fun j => defaultValue (jm_ty ci j)))) = jm_nf ci := by simp [jsz]
      have kk := jk_push kk
      rw [g3] at g2 kk
      exact jh_new cx hW hS hn (jq_len rfl (by decide) hlen hd) g1 g2 kk
    · cases hs
  | newarray ty =>
    simp only [jH] at hs
    split at hs
    · split at hs
      · next he =>
        split at hs
        · next hty =>
          cases hs
          obtain ⟨g1, g2⟩ := jn_push hc hsl
          exact jh_newa cx hW hS (t := 0) (Nat.lt_of_lt_of_le (by decide) jm_nat2) (by rw [jm_aty0]; exact hty) (by rw [jm_aty0]; exact jm_ar.1) (by rw [jm_aty0]; rfl) (by rw [jm_aty0]; decide) (fun U cA hU => by rw [jm_aty0] at hU ⊢; exact hU) he.1 he.2 (jq_len rfl (by decide) hlen hd) g1 g2 (jk_push kk)
        · next hty =>
          cases hs
          obtain ⟨g1, g2⟩ := jn_push hc hsl
          exact jh_newa cx hW hS (t := 1) (Nat.lt_of_lt_of_le (by decide) jm_nat2) (by rw [jm_aty1]; exact hty) (by rw [jm_aty1]; exact jm_ar.2) (by rw [jm_aty1]; rfl) (by rw [jm_aty1]; decide) (fun U cA hU => by rw [jm_aty1] at hU ⊢; exact hU) he.1 he.2 (jq_len rfl (by decide) hlen hd) g1 g2 (jk_push kk)
        · cases hs
      · cases hs
    · cases hs
  | anewarray idx =>
    simp only [jH] at hs
    split at hs
    · next n st t hq =>
      split at hs
      · next he =>
        cases hs
        obtain ⟨g1, g2⟩ := jn_push hc hsl
        exact jh_newq cx hW hS hq he.1 he.2 (jq_len rfl (by decide) hlen hd) g1 g2 (jk_push kk)
      · cases hs
    · cases hs
  | multianewarray idx dm =>
    by_cases hdm : dm = 2
    · subst hdm
      simp only [jH] at hs
      split at hs
      · next w n st t hq =>
        split at hs
        · next he =>
          cases hs
          obtain ⟨-, h1, h2, h3, h4⟩ := he
          have e1 : ((h ++ [((.inl (t.1, n.toNatClampNeg, .inr (.inr (.inr (.inr (fun i => if i < n.toNatClampNeg then some (h.length + 1 + i) else none)))))) : jC)]) ++ List.replicate n.toNatClampNeg ((.inl (0, w.toNatClampNeg, .inl (fun _ => 0))) : jC)).length - h.length = 1 + n.toNatClampNeg := by
            rw [List.length_append, List.length_append, List.length_replicate]
            simp only [List.length_cons, List.length_nil]
            omega
          have e2 : jsl ((h ++ [((.inl (t.1, n.toNatClampNeg, .inr (.inr (.inr (.inr (fun i => if i < n.toNatClampNeg then some (h.length + 1 + i) else none)))))) : jC)]) ++ List.replicate n.toNatClampNeg ((.inl (0, w.toNatClampNeg, .inl (fun _ => 0))) : jC)) - jsl h = n.toNatClampNeg + n.toNatClampNeg * w.toNatClampNeg := by
            rw [jsl_app, jsl_app, jsl_one, jsl_rep]
            show jsl h + n.toNatClampNeg + n.toNatClampNeg * w.toNatClampNeg - jsl h = _
            omega
          dsimp only at hc hsl kk
          rw [e1] at hc kk
          rw [e2] at hsl kk
          exact hmna p e R s m args below meth c H locs cells slots Q D dA b b0 L mi pc xs ls _ h idx t n w cx hW hS hq h1 h2 h3 h4 (jq_len rfl (by decide) hlen hd) hc hsl kk
        · cases hs
      · cases hs
    · have : jH L xs (decide (mi = 0)) (jm_ini mi) (jm_own mi) pc lv st h (.multianewarray idx dm) = none := by
        unfold jH
        split <;> simp_all
      rw [this] at hs
      cases hs
  | invokestatic idx =>
    simp only [jH] at hs
    split at hs
    · next v hv =>
      split at hs
      · split at hs
        · next he =>
          cases hs
          exact jh_mm cx hl hv (jq_len rfl (by decide) hlen hd) hfr hlo (by simpa [jv_cat, Function.comp_def] using he.1) he.2 (by simpa using hc) (by simpa using hsl) (jk_same hW hS kk)
        · cases hs
      · cases hs
    · next hnm =>
      split at hs
      · split at hs
        · next t0 n0 f t1 n1 g ho ha0 ha =>
          split at hs
          · next he =>
            obtain ⟨rfl, rfl, h1, h2, h3, h4, h5, h6⟩ := he
            cases hs
            exact jh_copy cx hW hS hl ho ha0 ha h1 h2 h3 h4 h5 (jq_len rfl (by decide) hlen hd) hfr hlo (by simpa [jv_cat, Function.comp_def] using h6) (jk_set ha rfl kk)
          · cases hs
        · cases hs
      · cases hs
  | invokespecial idx =>
    simp only [jH] at hs
    split at hs
    · split at hs
      · next he =>
        cases hs
        exact jh_oi cx hl he.1 (jq_len rfl (by decide) hlen hd) hfr hlo (by simpa [jv_cat, Function.comp_def] using he.2) (jk_same hW hS kk)
      · cases hs
    · cases hs
  | _ => cases hs
end JHOK
end
section
theorem jsl_one' (v : Value) (as : List Value) : (lg_sl (v :: as)).length = (if v.category = 2 then 2 else 1) + (lg_sl as).length := by
  unfold lg_sl
  rw [List.flatMap_cons, List.length_append]
  by_cases h : v.category = 2
  · rw [if_pos h, if_pos h]; rfl
  · rw [if_neg h, if_neg h]; rfl
theorem jsl_lg (b b0 : Nat) : ∀ as : List Value, (lg_sl (as.map (jv b b0))).length = (lg_sl as).length
  | [] => rfl
  | v :: as => by
    rw [List.map_cons, jsl_one', jsl_one', jv_cat, jsl_lg b b0 as]
theorem jlv_args (b b0 : Nat) : ∀ (as : List Value) (k : Nat), lv_args k (as.map (jv b b0)) = jlv b b0 (lv_args k as)
  | [], _ => rfl
  | v :: as, k => by
    simp only [List.map_cons, lv_args, jv_cat, jlv]
    rw [jlv_args b b0 as]
    rfl
theorem jAO_moved {u U : State} (hvm : u.vm.Alike U.vm) (h : (Cond.arrayOver (.array .int)).before #[] u = true) : (Cond.arrayOver (.array .int)).before #[] U = true := by
  obtain ⟨comp, c, k, h1, h2, h3, h4, h5⟩ := arrayOverA_spec h
  obtain ⟨k', hk', he⟩ := hvm.2.2 _ _ h3
  have hi : (U.vm.classes.findIdx? fun (x : Class) => match x.kind with | .array component _ => component == comp | _ => false) = some c := by
    rw [hvm.findIdx?_eq _ (fun _ => rfl)]; exact h2
  have hkind : k'.kind = .array comp (.array .int) := by rw [he]; exact h4
  have f1 : U.vm.findClass (FieldType.array .int).toString = some comp := by rw [hvm.findClass]; exact h1
  have f2 : U.vm.findClass ("[" ++ (FieldType.array .int).toString) = some c := by rw [hvm.findClass]; exact h5
  unfold Cond.before Cond.holds
  simp only [Cond.value]
  rw [f1, Option.bind_some]
  refine (congrArg (fun o : Option Nat => (o.bind (fun c => (U.vm.classes[c]?).map fun (k : Class) => match k.kind with | .array _ ty => decide (ty = FieldType.array .int) && decide (U.vm.findClass ("[" ++ (FieldType.array .int).toString) = some c) | _ => false) == some true)) hi).trans ?_
  simp [hk', hkind, f2]
theorem jov_moved {u U : State} (hW : u.WarmedH U.vm) (h : jov u) : jov U := by
  refine ⟨fun C hC => (h.1 C hC).moved hW.alike, jAO_moved hW.alike h.2.1, fun w hw => ?_⟩
  obtain ⟨a, i, x, h9, rfl⟩ := jm_nest_ok w hw
  exact va_Nw.warmM hW (h.2.2 _ hw)
def jws (y : Nat) : List Cond := Cond.code (jm_nm y) (jm_code y) (jm_maxL y) (jm_ret y) :: jm_gw
theorem jws_good {y : Nat} (hy0 : y ≠ 0) (hy : y < jm_n) : GoodIn jm_gw (jws y) := by
  intro w hw
  have hm : w ∈ jm_gw := by
    rcases List.mem_cons.mp hw with rfl | h
    · exact (jm_y_ok y hy0 hy).1
    · exact h
  exact ⟨hm, good_of_word (List.mem_filter.mp hm).2⟩
def jroom (d mc ms : Nat) : Room := { frames := d, cells := mc, slots := ms, locals := 40 * d }
def jPc (D : va_G) (dA : Nat → ClassId) (b b0 : Nat) (as : List Value) (h : List jC) : Array Value → State → Prop := fun v U => v = (as.map (jv b b0)).toArray ∧ jWd D dA b b0 h U.heap ∧ va_K D vwCl (jtys dA) U ∧ jov U
def jQc (D : va_G) (dA : Nat → ClassId) (b b0 : Nat) (r : Option Value) (h' : List jC) : Array Value → State → Outcome → State → Prop := fun _ st oc t => oc = .returned (r.map (jv b b0)) ∧ jWd D dA b b0 h' t.heap ∧ va_F (fun q => b0 ≤ q) st t
theorem jend_st {mi : Nat} {st : List Value} {i : Instr} {r : Option Value} (h : jend mi st i = some r) : st = r.toList := by
  unfold jend at h
  split at h
  · split at h
    · cases h; rfl
    · cases h
  · cases h; rfl
  · split at h
    · cases h; rfl
    · cases h
  · split at h
    · cases h; rfl
    · cases h
  · cases h; rfl
  · cases h
theorem jend_len {mi : Nat} {st : List Value} {i : Instr} {r : Option Value} (h : jend mi st i = some r) : jlen i = 1 := by
  unfold jend at h
  split at h <;> first | rfl | cases h
/-- what a run of a method's body is to give, from any place in it -/
def jBody (l : Launch) (D : va_G) (dA : Nat → ClassId) (b b0 L : Nat) (xs : Nat → Int32) (d mi pc : Nat) (lv : jL) (st : List Value) (h : List jC) (r : Option Value) (h' : List jC) : Prop :=
  ∀ (p : Program) (e : Env) (R : Room) (s : State) (m : MethodId) (args : Array Value) (below : List Frame) (meth : Method) (c : Code) (H : Heap) (locs : List Loc) (cells slots : Nat) (Q : State → Prop) (ls : Array Slot),
    jcx D dA b b0 L xs p s m args meth c mi → lv_has ls (jm_maxL mi) (jlv b b0 lv) → jWd D dA b b0 h H → va_S (fun q => b0 ≤ q) s.heap H locs → d ≤ R.frames → 40 * d ≤ R.locals → cells + (h'.length - h.length) ≤ R.cells → slots + (jsl h' - jsl h) ≤ R.slots →
    (∀ (pc' : Nat) (ls' : Array Slot) (H' : Heap) (locs' : List Loc) (i' : Instr), decode (jm_code mi) pc' = .ok (i', 1) → jend mi r.toList i' = some r → jWd D dA b b0 h' H' → va_S (fun q => b0 ≤ q) s.heap H' locs' → W p l e R s m args below meth c H' locs' (cells + (h'.length - h.length)) (slots + (jsl h' - jsl h)) Q (F0 m pc' ls' (r.toList.map (jv b b0)))) →
    W p l e R s m args below meth c H locs cells slots Q (F0 m pc ls (st.map (jv b b0)))
theorem jmet {l : Launch} {D : va_G} {dA : Nat → ClassId} {b b0 L : Nat} {xs : Nat → Int32} {d y : Nat} {as : List Value} {h h1 : List jC} {r : Option Value} (hy : y < jm_n) (hy0 : y ≠ 0) (hsl : (lg_sl as).length ≤ jm_maxL y)
    (body : jBody l D dA b b0 L xs d y 0 (lv_args 0 as) [] h r h1) :
    Met l (jm_nm y) (jws y) (jroom d (h1.length - h.length) (jsl h1 - jsl h)) (jPc D dA b b0 as h) (jQc D dA b b0 r h1) (h1.length - h.length) (jsl h1 - jsl h) (fun q => b0 ≤ q) := by
  obtain ⟨y1, y2, y3, y4, y5, y6, y7⟩ := jm_y_ok y hy0 hy
  refine Met.ofW (cc := jm_code y) (maxL := jm_maxL y) (ret := jm_ret y) y3 rfl ?_
  intro p e s m args below meth c s₁ B hml hv
  obtain ⟨rfl, hW, hK, hov⟩ := hv
  have hts := atoms_spec (ws := jws y) B.pre
  have hown : s.vm.findClass (jm_nm y).cls = some m.cls := findClass_of_methodNamed B.named
  have hlocks := B.notSynchronized
  have hnm := (name_of_methodNamed B.named B.method).1
  have hx := B.exec
  have hb := B.bytes
  have hr := B.returns
  rw [y4] at hown
  have cx : jcx D dA b b0 L xs p s m (as.map (jv b b0)).toArray meth c y := ⟨B.exec, B.bytes, hml, hown, fun w hw => hts w (List.mem_cons_of_mem _ hw), hK, hov, fun hi => hnm.trans (y7 hi), fun h => absurd h hy0, by rw [hW.2]; exact Nat.le_add_right _ _⟩
  rw [lg_entry_eq]
  have hl := lv_entry (as.map (jv b b0)) (n := jm_maxL y) (by rw [jsl_lg]; exact hsl)
  rw [jlv_args] at hl
  refine body p e _ s m _ below meth c s.heap [] 0 0 _ _ cx hl hW va_S.rf (Nat.le_refl d) (Nat.le_refl _) (by rw [Nat.zero_add]; exact Nat.le_refl _) (by rw [Nat.zero_add]; exact Nat.le_refl _) ?_
  intro pc' ls' H' locs' i' hd he hW' hS'
  rw [Nat.zero_add, Nat.zero_add]
  have fin : ∀ t : State, t.heap = H' → s.WarmedH t.vm → jQc D dA b b0 r h1 (as.map (jv b b0)).toArray s (.returned (r.map (jv b b0))) t := fun t ht _ => ⟨rfl, by rw [ht]; exact hW', hS'.F ht⟩
  unfold jend at he
  split at he
  · next x ty hrt hst =>
    split at he
    · next hf =>
      cases he
      exact W.zret hx hb (hr.trans hst) (jfit_ok b b0 hf).1 fin hS'.2.2 hd
    · cases he
  · next x hrt hst =>
    cases he
    exact W.lret hx hb (hr.trans hst) fin hS'.2.2 hd
  · next a ty hrt hst =>
    split at he
    · next hf =>
      cases he
      refine W.aret hx hb (hr.trans hst) ?_ (Or.inr ⟨_, rfl⟩) fin hS'.2.2 hd
      cases ty <;> simp_all [jfit]
    · cases he
  · next ty hrt hst =>
    split at he
    · next hf =>
      cases he
      refine W.aret hx hb (hr.trans hst) ?_ (Or.inl rfl) fin hS'.2.2 hd
      cases ty <;> simp_all [jfit]
    · cases he
  · next hrt hst =>
    cases he
    exact W.vret hx hb (hr.trans hst) fin hS'.2.2 hd
  · cases he
end
section
theorem jblind {D : va_G} {dA : Nat → ClassId} {b b0 : Nat} {as : List Value} {h : List jC} : FrameBlind (jPc D dA b b0 as h) := by
  intro a U g mk q
  obtain ⟨q1, q2, q3, q4, q5, q6⟩ := q
  refine ⟨q1, q2, va_K.moved (u := U) (U := U.calling g mk a) (Vm.Alike.refl U.vm) q3, fun C hC => (q4 C hC).moved (u := U) (U := U.calling g mk a) (Vm.Alike.refl U.vm), jAO_moved (u := U) (U := U.calling g mk a) (Vm.Alike.refl U.vm) q5, fun w hw => ?_⟩
  obtain ⟨a9, i9, x9, h9, rfl⟩ := jm_nest_ok w hw
  exact va_Nw.same rfl rfl (q6 _ hw)
section JRUN
variable {p : Program} {l : Launch} {e : Env} {R : Room} {s : State} {m : MethodId} {args : Array Value} {below : List Frame} {meth : Method} {c : Code} {H : Heap} {locs : List Loc} {cells slots : Nat} {Q : State → Prop}
variable {D : va_G} {dA : Nat → ClassId} {b b0 L mi pc len : Nat} {xs : Nat → Int32} {ls : Array Slot} {lv : jL} {st rest : List Value} {h h1 : List jC} {r : Option Value} {mc ms : Nat}
theorem jgo_call {a : Array Value} {st0 rest0 : List Value} (hr : va_Run p l e R s m args below meth c H locs cells slots mc ms (F0 m pc ls st0) rest0 (jQc D dA b b0 r h1 a) (fun q => b0 ≤ q)) (hS : va_S (fun q => b0 ≤ q) s.heap H locs)
    (kk : jKH p l e R s m args below meth c (cells + mc) (slots + ms) Q D dA b b0 h1 (F0 m (pc + 3) ls ((r.map (jv b b0)).toList ++ rest0))) : W p l e R s m args below meth c H locs cells slots Q (F0 m pc ls st0) := by
  intro T hT X
  obtain ⟨v, st₀, t, T', L9, h0, X', hL, e1, e2, ⟨hv, hWd, hz, hk⟩, step⟩ := hr T hT X
  cases hv
  rw [h0] at hz hk
  obtain ⟨t2, a1, b1⟩ := kk T'.heap (locs ++ L9) (by rw [e1]; exact hWd) ⟨Nat.le_trans hS.1 (by rw [e1]; exact hz), fun q q1 q2 => by rw [e1, hk q (Nat.lt_of_lt_of_le q1 hS.1) q2]; exact hS.2.1 q q1 q2, fun q hq => by
      rcases List.mem_append.mp hq with z | z
      · exact hS.2.2 q z
      · exact hL q z⟩ T' rfl X'
  exact ⟨t2, step t2 a1, b1⟩
set_option maxHeartbeats 1000000 in
theorem jcall_ok (cx : jcx D dA b b0 L xs p s m args meth c mi) (hl : ls.size = jm_maxL mi) (hW : jWd D dA b b0 h H) (hS : va_S (fun q => b0 ≤ q) s.heap H locs) {i : Instr} (hlen : jlen i = 0 ∨ len = jlen i) (hd : decode (jm_code mi) pc = .ok (i, len)) {y d : Nat} {as : List Value} (hc : jcall (jm_own mi) st h i = some (y, as, rest)) (hy0 : y ≠ 0) (hy : y < jm_n)
    (hM : Met l (jm_nm y) (jws y) (jroom d mc ms) (jPc D dA b b0 as h) (jQc D dA b b0 r h1) mc ms (fun q => b0 ≤ q)) (hfr : d + 1 ≤ R.frames) (hlo : 40 * (d + 1) ≤ R.locals) (hcm : cells + mc ≤ R.cells) (hsm : slots + ms ≤ R.slots)
    (kk : jKH p l e R s m args below meth c (cells + mc) (slots + ms) Q D dA b b0 h1 (F0 m (pc + 3) ls ((r.toList ++ rest).map (jv b b0)))) : W p l e R s m args below meth c H locs cells slots Q (F0 m pc ls (st.map (jv b b0))) := by
  obtain ⟨hx, hb, hml, hown, hts, hK, hov, hin, hX, hbs⟩ := cx
  obtain ⟨y1, y2, y3, y4, y5, y6, y7⟩ := jm_y_ok y hy0 hy
  have hRo : (jroom d mc ms).frames + 1 ≤ R.frames ∧ 8 + (jm_maxL y + 11) + (jroom d mc ms).locals ≤ R.locals := ⟨hfr, by show 8 + (jm_maxL y + 11) + 40 * d ≤ _; omega⟩
  have kk2 : jKH p l e R s m args below meth c (cells + mc) (slots + ms) Q D dA b b0 h1 (F0 m (pc + 3) ls ((r.map (jv b b0)).toList ++ rest.map (jv b b0))) := by
    have e9 : (r.toList ++ rest).map (jv b b0) = (r.map (jv b b0)).toList ++ rest.map (jv b b0) := by cases r <;> simp
    rw [← e9]; exact kk
  have hcat : ∀ v : List Value, (v.map fun v => v.category).sum ≤ 8 → 2 * (F0 m pc ls (st.map (jv b b0))).monitorRoom + ((v.map (jv b b0)).map fun v => v.category).sum ≤ 8 := fun v hv => by
    show 2 * 0 + _ ≤ 8
    rw [List.map_map]
    have : ((fun v => Value.category v) ∘ jv b b0) = fun v => v.category := funext fun v => jv_cat b b0 v
    rw [this]
    omega
  have hPc : ∀ U : State, U.heap = H → s.WarmedH U.vm → jPc D dA b b0 as h (as.map (jv b b0)).toArray U := fun U hU hWm => ⟨rfl, by rw [hU]; exact hW, va_K.moved hWm.alike hK, jov_moved hWm hov⟩
  cases i with
  | invokevirtual idx =>
    simp only [jcall] at hc
    split at hc
    · next kd y' n hm =>
      split at hc
      · next hkd =>
        split at hc
        · next a rest' hdr =>
          split at hc
          · next ci fs ha =>
            split at hc
            · next hcc =>
              cases hc
              obtain ⟨m1, m2, m3, m4, m5, m6⟩ := jm_mth_ok _ _ _ _ _ hm
              obtain ⟨k1, k2, k3⟩ := m4 hkd.1
              have hst : st = st.take n ++ (.ref a :: rest) := by rw [← hdr, List.take_append_drop]
              have hstack : st.map (jv b b0) = ((st.take n).reverse.map (jv b b0)).reverse ++ .ref (b0 + a) :: rest.map (jv b b0) := by
                conv => lhs; rw [hst]
                rw [List.map_append, List.map_reverse, List.reverse_reverse]
                rfl
              have hnl : ((st.take n).reverse.map (jv b b0)).length = n := by
                rw [List.length_map, List.length_reverse, List.length_take]; omega
              obtain ⟨q9, hq9, hq8⟩ : ∃ q9, vwCl[ci]? = some q9 ∧ q9.1 = (jm_nm y).cls := by
                rw [hcc.1] at k3
                cases hv9 : vwCl[ci]? with
                | none => rw [hv9] at k3; cases k3
                | some q9 => rw [hv9] at k3; exact ⟨q9, rfl, Option.some.inj k3⟩
              have hrec := va_recv hK hW.1 hq9 (jw_get ha)
              rw [hq8] at hrec
              rcases hkd.1 with rfl | rfl
              · exact jgo_call (va_runV (As := (st.take n).reverse.map (jv b b0)) (rest := rest.map (jv b b0)) (g := F0 m pc ls (st.map (jv b b0))) (Ts := jm_gw) (C := (jm_nm y).cls) ⟨hx, hb, hml, hown, hts⟩ hM ⟨callB_of n hts (jws_good hy0 hy) rfl rfl rfl (hts _ y2) (hts _ (m2 (Or.inl rfl))) ⟨y5.1, y5.2, m1⟩ hRo, hts _ k1, hts _ k2⟩ ⟨jblind, hrec, hPc⟩ rfl hnl hl hstack (hcat _ hcc.2) (jq_len rfl (by decide) hlen hd) ⟨hcm, hsm⟩) hS kk2
              · exact jgo_call (va_runVN (As := (st.take n).reverse.map (jv b b0)) (rest := rest.map (jv b b0)) (g := F0 m pc ls (st.map (jv b b0))) (Ts := jm_gw) (C := (jm_nm y).cls) ⟨hx, hb, hml, hown, hts⟩ hM ⟨va_cnB n hts (jws_good hy0 hy) rfl rfl rfl (hov.2.2 _ (m3 (Or.inl rfl))) (hts _ y2) ⟨y5.1, y5.2, m1⟩ hRo, hts _ k1, hts _ k2⟩ ⟨jblind, hrec, hPc⟩ rfl hnl hl hstack (hcat _ hcc.2) (jq_len rfl (by decide) hlen hd) ⟨hcm, hsm⟩) hS kk2
            · cases hc
          · cases hc
        · cases hc
      · cases hc
    · cases hc
  | invokespecial idx =>
    simp only [jcall] at hc
    split at hc
    · next kd y' n hm =>
      split at hc
      · next hkd =>
        split at hc
        · next a rest' hdr =>
          split at hc
          · next hcc =>
            cases hc
            obtain ⟨m1, m2, m3, m4, m5, m6⟩ := jm_mth_ok _ _ _ _ _ hm
            obtain ⟨k1, k2, k3⟩ := m5 hkd.1
            have hst : st = st.take n ++ (.ref a :: rest) := by rw [← hdr, List.take_append_drop]
            have hstack : st.map (jv b b0) = ((st.take n).reverse.map (jv b b0)).reverse ++ .ref (b0 + a) :: rest.map (jv b b0) := by
              conv => lhs; rw [hst]
              rw [List.map_append, List.map_reverse, List.reverse_reverse]
              rfl
            have hnl : ((st.take n).reverse.map (jv b b0)).length = n := by
              rw [List.length_map, List.length_reverse, List.length_take]; omega
            have hwq : jws y = Cond.code (jm_nm y) (jm_code y) (jm_maxL y) none :: jm_gw := by unfold jws; rw [k3]
            rcases hkd.1 with rfl | rfl
            · exact jgo_call (va_runI (As := (st.take n).reverse.map (jv b b0)) (rest := rest.map (jv b b0)) (g := F0 m pc ls (st.map (jv b b0))) (Ts := jm_gw) ⟨hx, hb, hml, hown, hts⟩ hM ⟨callB_of n hts (jws_good hy0 hy) hwq rfl rfl (hts _ y2) (hts _ (m2 (Or.inr (Or.inl rfl)))) ⟨y5.1, y5.2, m1⟩ hRo, k2, hts _ k1⟩ ⟨jblind, hPc⟩ rfl hnl hl hstack (hcat _ hcc) (jq_len rfl (by decide) hlen hd) ⟨hcm, hsm⟩) hS kk2
            · exact jgo_call (va_runIN (As := (st.take n).reverse.map (jv b b0)) (rest := rest.map (jv b b0)) (g := F0 m pc ls (st.map (jv b b0))) (Ts := jm_gw) ⟨hx, hb, hml, hown, hts⟩ hM ⟨va_cnB n hts (jws_good hy0 hy) hwq rfl rfl (hov.2.2 _ (m3 (Or.inr (Or.inl rfl)))) (hts _ y2) ⟨y5.1, y5.2, m1⟩ hRo, k2, hts _ k1⟩ ⟨jblind, hPc⟩ rfl hnl hl hstack (hcat _ hcc) (jq_len rfl (by decide) hlen hd) ⟨hcm, hsm⟩) hS kk2
          · cases hc
        · cases hc
      · cases hc
    · cases hc
  | invokestatic idx =>
    simp only [jcall] at hc
    split at hc
    · next kd y' n hm =>
      split at hc
      · next hkd =>
        cases hc
        obtain ⟨m1, m2, m3, m4, m5, m6⟩ := jm_mth_ok _ _ _ _ _ hm
        have k1 := m6 hkd.1
        have hstack : st.map (jv b b0) = ((st.take n).reverse.map (jv b b0)).reverse ++ (st.drop n).map (jv b b0) := by
          conv => lhs; rw [← List.take_append_drop n st]
          rw [List.map_append, List.map_reverse, List.reverse_reverse]
        have hnl : ((st.take n).reverse.map (jv b b0)).length = n := by
          rw [List.length_map, List.length_reverse, List.length_take]; omega
        rcases hkd.1 with rfl | rfl
        · exact jgo_call (va_runS (As := (st.take n).reverse.map (jv b b0)) (rest := (st.drop n).map (jv b b0)) (g := F0 m pc ls (st.map (jv b b0))) (Ts := jm_gw) ⟨hx, hb, hml, hown, hts⟩ hM ⟨callB_of n hts (jws_good hy0 hy) rfl rfl rfl (hts _ y2) (hts _ (m2 (Or.inr (Or.inr rfl)))) ⟨y5.1, y5.2, m1⟩ hRo, hts _ k1⟩ ⟨jblind, hPc⟩ rfl hnl hl hstack (hcat _ hkd.2.2) (jq_len rfl (by decide) hlen hd) ⟨hcm, hsm⟩) hS kk2
        · exact jgo_call (va_runSN (As := (st.take n).reverse.map (jv b b0)) (rest := (st.drop n).map (jv b b0)) (g := F0 m pc ls (st.map (jv b b0))) (Ts := jm_gw) ⟨hx, hb, hml, hown, hts⟩ hM ⟨va_cnB n hts (jws_good hy0 hy) rfl rfl rfl (hov.2.2 _ (m3 (Or.inr (Or.inr rfl)))) (hts _ y2) ⟨y5.1, y5.2, m1⟩ hRo, hts _ k1, trivial⟩ ⟨jblind, hPc⟩ rfl hnl hl hstack (hcat _ hkd.2.2) (jq_len rfl (by decide) hlen hd) ⟨hcm, hsm⟩) hS kk2
      · cases hc
    · cases hc
  | _ => cases hc
end JRUN
end
section
theorem jm_same {h : List jC} : h.length ≤ h.length ∧ jsl h ≤ jsl h := ⟨Nat.le_refl _, Nat.le_refl _⟩
theorem jm_set {h : List jC} {a : Nat} {c0 c9 : jC} (ha : h[a]? = some c0) (hz : jsz c9 = jsz c0) : h.length ≤ (h.set a c9).length ∧ jsl h ≤ jsl (h.set a c9) := by
  rw [List.length_set, jsl_set h a c0 c9 ha hz]
  exact jm_same
theorem jm_app {h g : List jC} : h.length ≤ (h ++ g).length ∧ jsl h ≤ jsl (h ++ g) := by
  rw [List.length_append, jsl_app]
  exact ⟨Nat.le_add_right _ _, Nat.le_add_right _ _⟩
set_option maxHeartbeats 4000000 in
theorem jH_mono {L : Nat} {xs : Nat → Int32} {il ini : Bool} {k pc : Nat} {lv : jL} {st : List Value} {h : List jC} {i : Instr} {r : Nat × jL × List Value × List jC} (hs : jH L xs il ini k pc lv st h i = some r) : r.2.1 = lv ∧ h.length ≤ r.2.2.2.length ∧ jsl h ≤ jsl r.2.2.2 := by
  cases i with
  | getfield idx =>
    simp only [jH] at hs
    split at hs
    · split at hs
      · next ci f ci' fs hf ha =>
        split at hs
        · cases hv : fs[f]? with
          | none => rw [hv] at hs; cases hs
          | some v => rw [hv] at hs; cases hs; exact ⟨rfl, jm_same⟩
        · cases hs
      · cases hs
    · cases hs
  | putfield idx =>
    simp only [jH] at hs
    split at hs
    · split at hs
      · next ci f ci' fs hf ha =>
        split at hs
        · next he =>
          cases hs
          exact ⟨rfl, jm_set ha (by simp [jsz])⟩
        · cases hs
      · cases hs
    · cases hs
  | iaload =>
    simp only [jH] at hs
    split at hs
    · split at hs
      · split at hs
        · cases hs; exact ⟨rfl, jm_same⟩
        · cases hs
      · cases hs
    · split at hs
      · cases hs; exact ⟨rfl, jm_same⟩
      · cases hs
    · cases hs
  | baload =>
    simp only [jH] at hs
    split at hs
    · split at hs
      · split at hs
        · cases hs; exact ⟨rfl, jm_same⟩
        · cases hs
      · cases hs
    · cases hs
  | aaload =>
    simp only [jH] at hs
    split at hs
    · split at hs
      · split at hs
        · cases hs; exact ⟨rfl, jm_same⟩
        · cases hs
      · cases hs
    · cases hs
  | arraylength =>
    simp only [jH] at hs
    split at hs
    · split at hs
      · split at hs
        · cases hs; exact ⟨rfl, jm_same⟩
        · cases hs
      · cases hs
    · split at hs
      · cases hs; exact ⟨rfl, jm_same⟩
      · cases hs
    · cases hs
  | iastore =>
    simp only [jH] at hs
    split at hs
    · split at hs
      · next ha =>
        split at hs
        · cases hs; exact ⟨rfl, jm_set ha rfl⟩
        · cases hs
      · cases hs
    · cases hs
  | bastore =>
    simp only [jH] at hs
    split at hs
    · split at hs
      · next ha =>
        split at hs
        · cases hs; exact ⟨rfl, jm_set ha rfl⟩
        · cases hs
      · cases hs
    · cases hs
  | aastore =>
    simp only [jH] at hs
    split at hs
    · split at hs
      · next ha hv =>
        split at hs
        · cases hs; exact ⟨rfl, jm_set ha rfl⟩
        · cases hs
      · cases hs
    · cases hs
  | new idx =>
    simp only [jH] at hs
    split at hs
    · cases hs; exact ⟨rfl, jm_app⟩
    · cases hs
  | newarray ty =>
    simp only [jH] at hs
    split at hs
    · split at hs
      · split at hs
        · cases hs; exact ⟨rfl, jm_app⟩
        · cases hs; exact ⟨rfl, jm_app⟩
        · cases hs
      · cases hs
    · cases hs
  | anewarray idx =>
    simp only [jH] at hs
    split at hs
    · split at hs
      · cases hs; exact ⟨rfl, jm_app⟩
      · cases hs
    · cases hs
  | multianewarray idx dm =>
    by_cases hdm : dm = 2
    · subst hdm
      simp only [jH] at hs
      split at hs
      · split at hs
        · cases hs
          exact ⟨rfl, Nat.le_trans jm_app.1 jm_app.1, Nat.le_trans jm_app.2 jm_app.2⟩
        · cases hs
      · cases hs
    · have : jH L xs il ini k pc lv st h (.multianewarray idx dm) = none := by
        unfold jH
        split <;> simp_all
      rw [this] at hs
      cases hs
  | invokestatic idx =>
    simp only [jH] at hs
    split at hs
    · split at hs
      · split at hs
        · cases hs; exact ⟨rfl, jm_same⟩
        · cases hs
      · cases hs
    · split at hs
      · split at hs
        · next ho ha0 ha =>
          split at hs
          · cases hs; exact ⟨rfl, jm_set ha rfl⟩
          · cases hs
        · cases hs
      · cases hs
  | invokespecial idx =>
    simp only [jH] at hs
    split at hs
    · split at hs
      · cases hs; exact ⟨rfl, jm_same⟩
      · cases hs
    · cases hs
  | _ => cases hs
set_option maxHeartbeats 4000000 in
/-- THE INTERPRETER IS SOUND: what it answers the machine answers -/
theorem jrun_ok (l : Launch) (hmna : jMna l) (D : va_G) (dA : Nat → ClassId) (b b0 L : Nat) (xs : Nat → Int32) : ∀ (n d mi pc : Nat) (lv : jL) (st : List Value) (h : List jC) (r : Option Value) (h' : List jC), jrun L xs n d mi pc lv st h = some (r, h') →
    (h.length ≤ h'.length ∧ jsl h ≤ jsl h') ∧ jBody l D dA b b0 L xs d mi pc lv st h r h' := by
  intro n
  induction n with
  | zero => intro d mi pc lv st h r h' hs; cases hs
  | succ n ih =>
    intro d mi pc lv st h r h' hs
    unfold jrun at hs
    split at hs
    · cases hs
    · next i len hi =>
      have hd := jm_ins_ok _ _ _ _ hi
      split at hs
      · next hlen =>
        split at hs
        · next r0 he =>
          cases hs
          refine ⟨jm_same, ?_⟩
          intro p e R s m args below meth c H locs cells slots Q ls cx hl hW hS hfr hlo hc hsl kret
          have h1 := jend_st he
          subst h1
          have := kret pc ls H locs i (jq_len (jend_len he) (by decide) hlen hd) he hW hS
          simpa using this
        · next hne =>
          split at hs
          · next y as rest d' hcl =>
            split at hs
            · next hy =>
              split at hs
              · next r1 h1 hr1 =>
                obtain ⟨m1, b1⟩ := ih d' y 0 (lv_args 0 as) [] h r1 h1 hr1
                obtain ⟨m2, b2⟩ := ih (d' + 1) mi (pc + 3) lv (r1.toList ++ rest) h1 r h' hs
                refine ⟨⟨Nat.le_trans m1.1 m2.1, Nat.le_trans m1.2 m2.2⟩, ?_⟩
                intro p e R s m args below meth c H locs cells slots Q ls cx hl hW hS hfr hlo hc hsl kret
                have hM := jmet hy.2.1 hy.1 hy.2.2 b1
                refine jcall_ok cx hl.1 hW hS hlen hd hcl hy.1 hy.2.1 hM hfr hlo (by omega) (by omega) ?_
                intro H1 locs1 hW1 hS1
                refine b2 p e R s m args below meth c H1 locs1 _ _ Q ls cx hl hW1 hS1 hfr hlo (by omega) (by omega) ?_
                intro pc' ls' H' locs' i' q1 q2 q3 q4
                have := kret pc' ls' H' locs' i' q1 q2 q3 q4
                rw [show cells + (h1.length - h.length) + (h'.length - h1.length) = cells + (h'.length - h.length) by omega, show slots + (jsl h1 - jsl h) + (jsl h' - jsl h1) = slots + (jsl h' - jsl h) by omega]
                exact this
              · cases hs
            · cases hs
          · cases hs
          · next hcl =>
            split at hs
            · next pc1 lv1 st1 h1 hst =>
              obtain ⟨m2, b2⟩ := ih _ mi pc1 lv1 st1 h1 r h' hs
              unfold jstep at hst
              split at hst
              · next pc2 lv2 st2 hA =>
                cases hst
                refine ⟨m2, ?_⟩
                intro p e R s m args below meth c H locs cells slots Q ls cx hl hW hS hfr hlo hc hsl kret
                refine ja_ok cx.1 cx.2.1 cx.2.2.2.1 (fun idx v hv => cx.2.2.2.2.1 _ (jm_lng_ok _ _ _ hv)) hlen hd hA hl ?_
                intro ls' hl'
                exact b2 p e R s m args below meth c H locs cells slots Q ls' cx hl' hW hS hfr hlo hc hsl kret
              · next hA =>
                split at hst
                · cases hst
                · next hd0 =>
                  obtain ⟨e1, g1, g2⟩ := jH_mono hst
                  dsimp only at e1 g1 g2
                  subst e1
                  refine ⟨⟨Nat.le_trans g1 m2.1, Nat.le_trans g2 m2.2⟩, ?_⟩
                  intro p e R s m args below meth c H locs cells slots Q ls cx hl hW hS hfr hlo hc hsl kret
                  have m21 := m2.1
                  have m22 := m2.2
                  refine jh_ok hmna cx hW hS hl.1 (by omega) (by omega) hlen hd hst (by dsimp only; omega) (by dsimp only; omega) ?_
                  intro H1 locs1 hW1 hS1
                  dsimp only at hW1 ⊢
                  refine b2 p e R s m args below meth c H1 locs1 _ _ Q ls cx hl hW1 hS1 hfr hlo (by omega) (by omega) ?_
                  intro pc' ls' H' locs' i' q1 q2 q3 q4
                  have := kret pc' ls' H' locs' i' q1 q2 q3 q4
                  rw [show cells + (h1.length - h.length) + (h'.length - h1.length) = cells + (h'.length - h.length) by omega, show slots + (jsl h1 - jsl h) + (jsl h' - jsl h1) = slots + (jsl h' - jsl h) by omega]
                  exact this
            · cases hs
      · cases hs
end
section
/-! THE CLAIM OUT OF ONE WALK OF THE LAW'S BODY. Your part is whole_start (and what it stands on); all else here is the same for every law, but numbers. -/
def R_law : String := "SealProbeLaw"
def lw_P (b : Addr) (xs : List Int32) (args : Array Value) (s : State) : Prop := args = #[.ref b] ∧ s.IntsAt b xs ∧ xs.length ≤ 2560 ∧ (Jvm.Cond.and given_1 narrow_1).before args s = true
def lw_Q (_ : Array Value) (s : State) (o : Outcome) (t : State) : Prop := o = .returned (some (.int 1)) ∧ Framed s o t [] 600000 7302250
def lw_Z (below : List Frame) (a : Array Value) (s : State) : State → Prop := fun t => ∃ o, t.status = .running ∧ Ended t below o ∧ lw_Q a s o t
/-- the law's own end, with 1 on the stack, nothing written that was there before, its room as the claim has it -/
theorem lw_ret {p : Program} {l : Launch} {e : Env} {s : State} {m : MethodId} {below : List Frame} {meth : Method} {c : Code} {b : Nat} (hx : p.tables.exec = Jvm.exec) (hb : c.code = code) (hr : meth.sig.returnType = ret) (hlocks : meth.locks = false) {pc : Nat} {H : Heap} {ls : Array Slot} (hdg : decode code pc = .ok (.ireturn, 1)) : W p l e room_1 s m #[Value.ref b] below meth c H [] 600000 7302250 (lw_Z below #[Value.ref b] s) (F0 m pc ls [.int 1]) := by
  intro T hT X
  obtain ⟨fs, hret, hrun, hended, hW, hframe⟩ := X.leave (v := some (.int 1)) (hlocks := hlocks) (fun h => by rw [hr] at h; cases h)
  have hmeth' : T.vm.method? m = some meth := X.method'
  refine ⟨T.setFrames fs, ?_, .returned (some (.int 1)), hrun, hended, rfl, ⟨_, rfl⟩, hW, hframe⟩
  jvm_step X.here [X.here.top, hx, hb, hdg, hmeth', hr, ret, narrow_b1]
  (try refine ⟨rfl, ?_⟩); (try refine ⟨rfl, ?_⟩)
  first | (intro acts; rw [hret _ acts rfl rfl rfl]) | rw [hret _ _ rfl rfl rfl]
  exact Steps.refl _
/-- what holds at the law's entry: the machine, the code, the tables' words (any of lw_tbl by 'hts w (by decide +kernel)'), the script of L ints xs at the cell b, what the Statement gives of the start (any of its parts by flat_of_before) -/
def lw_At (p : Program) (s : State) (m : MethodId) (meth : Method) (c : Code) (b L : Nat) (xs : Nat → Int32) : Prop :=
  p.tables.exec = Jvm.exec ∧ c.code = code ∧ meth.sig.returnType = ret ∧ c.maxLocals = 4 ∧ s.vm.findClass R_law = some m.cls ∧ (∀ w ∈ lw_tbl, w.before #[Value.ref b] s = true) ∧ va_X b L xs s s.heap ∧ b < s.heap.size ∧ meth.locks = false ∧ (Jvm.Cond.and given_1 narrow_1).before #[Value.ref b] s = true
end
section
theorem jst_arr {s : State} {args : Array Value} {ty : FieldType} (h : (Cond.arrayClass ty).before args s = true) : ∃ cA : ClassId, ArrOfT s cA ty ∧ s.vm.findClass ("[" ++ ty.toString) = some cA := by
  obtain ⟨cA, kA, comp, h1, h2, h3⟩ := Cond.arrayClass_spec h
  exact ⟨cA, fun n z => ⟨fun k h => (by cases h), kA, h2, comp, h3⟩, h1⟩
theorem jst_ao {s : State} {C : String} (h : va_AO C s) : ∃ cA : ClassId, ArrOfT s cA (.object C) ∧ va_RA s cA (.object C) := by
  obtain ⟨comp, c, k, h1, h2, h3, h4, h5⟩ := Cond.arrayOver_spec h
  exact ⟨c, fun n z => ⟨fun k h => (by cases h), k, h3, comp, h4⟩, k, comp, h3, h4, h1, h5⟩
theorem jst_aoA {s : State} (h : (Cond.arrayOver (.array .int)).before #[] s = true) : ∃ cA : ClassId, ArrOfT s cA (.array .int) ∧ s.vm.findClass ("[" ++ (FieldType.array .int).toString) = some cA := by
  obtain ⟨comp, c, k, h1, h2, h3, h4, h5⟩ := arrayOverA_spec h
  exact ⟨c, fun n z => ⟨fun k h => (by cases h), k, h3, comp, h4⟩, h5⟩
theorem jst_K {s : State} {args : Array Value} (hts : ∀ w ∈ jm_gw, w.before args s = true) (hov : jov s) : ∃ (D : va_G) (dA : Nat → ClassId), va_K D vwCl (jtys dA) s := by
  have hc : ∀ ci : Nat, ∃ (cC : ClassId) (iS : Nat → Nat), ∀ q : vw_C, vwCl[ci]? = some q → u_Kn s q.1 q.2.1 q.2.2 cC iS := by
    intro ci
    cases hq : vwCl[ci]? with
    | none => exact ⟨0, fun _ => 0, fun q h => by cases h⟩
    | some q =>
      obtain ⟨C, T, N⟩ := q
      obtain ⟨k1, k2, k3, k4, -⟩ := jm_cl_ok ci C T N hq
      obtain ⟨cC, iS, hK⟩ := u_known (n := N) hts k1 (hts _ k4)
      exact ⟨cC, iS, fun q h => by cases h; exact hK⟩
  have ha : ∀ t : Nat, ∃ cA : ClassId, t < jm_nat → ArrOfT s cA (jm_aty t) ∧ va_RA s cA (jm_aty t) := by
    intro t
    by_cases ht : t < jm_nat
    · by_cases h0 : t = 0
      · subst h0
        obtain ⟨cA, g1, g2⟩ := jst_arr (hts _ jm_ar.1)
        exact ⟨cA, fun _ => ⟨g1, g2⟩⟩
      · by_cases h1 : t = 1
        · subst h1
          obtain ⟨cA, g1, g2⟩ := jst_arr (hts _ jm_ar.2)
          exact ⟨cA, fun _ => ⟨g1, g2⟩⟩
        · rcases jm_atyk t (by omega) ht with ⟨C, hC, he⟩ | he
          · obtain ⟨cA, g1, g2⟩ := jst_ao (hov.1 C hC)
            exact ⟨cA, fun _ => by rw [he]; exact ⟨g1, g2⟩⟩
          · obtain ⟨cA, g1, g2⟩ := jst_aoA hov.2.1
            exact ⟨cA, fun _ => by rw [he]; exact ⟨g1, g2⟩⟩
    · exact ⟨0, fun h => absurd h ht⟩
  obtain ⟨dC, hdC⟩ := Classical.axiomOfChoice hc
  obtain ⟨dI, hdI⟩ := Classical.axiomOfChoice hdC
  obtain ⟨dA, hdA⟩ := Classical.axiomOfChoice ha
  refine ⟨(dC, dI), dA, fun ci q hq => hdI ci q hq, fun k q hk => ?_⟩
  unfold jtys at hk
  rw [List.getElem?_map] at hk
  by_cases hk2 : k < jm_nat
  · rw [List.getElem?_range hk2] at hk
    cases hk
    exact hdA k hk2
  · rw [List.getElem?_eq_none (by rw [List.length_range]; omega)] at hk
    cases hk
theorem jst_ov {s : State} {args : Array Value} (hts : ∀ w ∈ lw_tbl, w.before args s = true) : jov s := by
  refine ⟨fun C hC => va_AO.of (hts _ (jm_over_ok C hC)), hts _ jm_overA, fun w hw => ?_⟩
  have h1 := hts _ (jm_nest_in w hw)
  obtain ⟨a, i, x, h, rfl⟩ := jm_nest_ok w hw
  exact va_Nw.of rfl h1
/-- what is left of the claim: the interpreter answers 1 on every script -/
def jAns (N : Nat) : Prop := ∀ (L : Nat) (xs : Nat → Int32), L ≤ N → ∃ (n d : Nat) (h' : List jC), jrun L xs n d 0 0 [(0, .retAddr 0)] [] [] = some (some (.int 1), h') ∧ d ≤ 2048 ∧ h'.length ≤ 600000 ∧ jsl h' ≤ 7302250
theorem jstart {p : Program} {e : Env} {s : State} {m : MethodId} {below : List Frame} {meth : Method} {c : Code} (l : Launch) (hmna : jMna l) {b L : Nat} {xs : Nat → Int32} (hrun : ∃ (n d : Nat) (h' : List jC), jrun L xs n d 0 0 [(0, .retAddr 0)] [] [] = some (some (.int 1), h') ∧ d ≤ 2048 ∧ h'.length ≤ 600000 ∧ jsl h' ≤ 7302250) (C0 : lw_At p s m meth c b L xs) : W p l e room_1 s m #[Value.ref b] below meth c s.heap [] 0 0 (lw_Z below #[Value.ref b] s) (entryFrame m ([Value.ref b] : List Value).toArray 4) := by
  obtain ⟨hx, hb, hr, hml, hown, hts, hX, hbl, hlocks, hgv⟩ := C0
  obtain ⟨n, d, h', hj, hd, hc1, hc2⟩ := hrun
  have hgw : ∀ w ∈ jm_gw, w.before #[Value.ref b] s = true := fun w hw => hts w (List.mem_filter.mp hw).1
  have hov := jst_ov hts
  obtain ⟨D, dA, hK⟩ := jst_K hgw hov
  have cx : jcx D dA b s.heap.size L xs p s m #[Value.ref b] meth c 0 := ⟨hx, hb, hml, hown, hgw, hK, hov, fun h => (by cases h), fun _ => ⟨hX, hbl, hbl⟩, Nat.le_refl _⟩
  have hl := lv_entry ([.ref b]) (n := 4) (Nat.le_of_ble_eq_true rfl)
  rw [lg_entry_eq]
  refine (jrun_ok l hmna D dA b s.heap.size L xs n d 0 0 _ _ _ _ _ hj).2 p e room_1 s m _ below meth c s.heap [] 0 0 _ _ cx hl ⟨fun k q h => by simp [jw] at h, by simp⟩ va_S.rf hd (by show 40 * d ≤ 84000; omega) (by show 0 + (h'.length - 0) ≤ 600000; omega) (by show 0 + (jsl h' - 0) ≤ 7302250; omega) ?_
  intro pc' ls' H' locs' i' hdd he hW hS
  refine va_forget (fun q hq => hS.2.2 q hq) ?_
  refine W.widen (k := 600000) (n := 7302250) (by show 0 + (h'.length - 0) ≤ 600000; omega) (by show 0 + (jsl h' - 0) ≤ 7302250; omega) ?_
  have hi : i' = .ireturn := by
    unfold jend at he
    split at he
    · rfl
    · next h9 _ => simp at h9
    · next h9 _ => simp at h9
    · next h9 _ => simp at h9
    · next h9 _ => simp at h9
    · cases he
  subst hi
  exact lw_ret hx hb hr hlocks hdd
end
section
theorem jmna_outer (c : ClassId) (N h0 : Nat) : ∀ i : Nat, Jvm.Free.Multi.outerC c N h0 i = arrV c N (fun j => va_rf (if j < i then some (h0 + 1 + j) else none))
  | 0 => by
    show ({ cls := c, slots := Array.replicate N .null, vm := .none } : Cell) = _
    rw [arrV_new]
    exact congrArg (arrV c N) (funext fun j => by simp [va_rf])
  | i + 1 => by
    show (Jvm.Free.Multi.outerC c N h0 i).setSlot i (.ref (h0 + 1 + i)) = _
    rw [jmna_outer c N h0 i, arrV_store]
    refine congrArg (arrV c N) (funext fun j => ?_)
    by_cases e : j = i
    · subst e
      simp [updV, va_rf]
    · have : (j < i + 1) = (j < i) := propext ⟨fun h => by omega, fun h => by omega⟩
      simp [updV, e, this]
theorem jmna (l : Launch) : jMna l := by
  intro p e R s m args below meth c H locs cells slots Q D dA b b0 L mi pc xs ls rest h idx t n w cx hW hS hq hn hw hn2 hw2 hd hcells hslots kk
  obtain ⟨hx, hb, hml, hown, hts, hK, hov, hin, hX, hbs⟩ := cx
  obtain ⟨t2, ht, hty, hlk, har⟩ := jm_mna_ok _ _ _ hq
  intro T hT X
  obtain ⟨vm₁, cA, comp, -, fA, fC, hO, -, X', step⟩ := X.multianewarray2F hx (ty := .int) hown (hts _ hlk) hov.2.1 (hts _ har) (g := F0 m pc ls (.int w :: .int n :: rest)) rfl (by rw [hb]; exact hd) rfl hn hw (by omega) (by show w.toNatClampNeg * 4 ≤ _; omega) (by omega) rfl rfl hcells hslots
  have hTh : (T.setVm vm₁).heap = H := hT
  have hK1 := (hK.2 t.1 _ (jtys_get ht)).2
  rw [hty] at hK1
  have hcA : cA = dA t.1 := Option.some.inj (fA.symm.trans hK1)
  have hK0 := (hK.2 0 _ (jtys_get (dA := dA) (t := 0) (Nat.lt_of_lt_of_le (by decide) jm_nat2))).2
  have hcy : comp = dA 0 := Option.some.inj (fC.symm.trans hK0)
  subst hcA
  subst hcy
  generalize hF : Jvm.Free.Multi.fill (T.setVm vm₁) (dA t.1) (dA 0) n.toNatClampNeg w.toNatClampNeg (defaultValue .int) n.toNatClampNeg = F at X' step
  obtain ⟨f1, f2, -, -⟩ := Jvm.Free.Multi.fill_facts (T.setVm vm₁) (dA t.1) (dA 0) n.toNatClampNeg w.toNatClampNeg (defaultValue .int) n.toNatClampNeg
  rw [hF, hTh] at f1 f2
  have hold : ∀ x : Nat, x < H.size → F.heap[x]? = H[x]? := fun x hx9 => by
    have := Jvm.Free.Multi.fill_old (T.setVm vm₁) (dA t.1) (dA 0) n.toNatClampNeg w.toNatClampNeg (defaultValue .int) (a := x) (by rw [hTh]; exact hx9) n.toNatClampNeg
    rw [hF, hTh] at this
    exact this
  have hrow : ∀ j : Nat, j < n.toNatClampNeg → F.heap[H.size + 1 + j]? = some (arrV (dA 0) w.toNatClampNeg (fun _ => .int 0)) := fun j hj => by
    have := Jvm.Free.Multi.fill_inner (T.setVm vm₁) (dA t.1) (dA 0) n.toNatClampNeg w.toNatClampNeg (defaultValue .int) n.toNatClampNeg j hj
    rw [hF, hTh] at this
    rw [this]
    show some ({ cls := dA 0, slots := Array.replicate w.toNatClampNeg (.int 0), vm := .none } : Cell) = _
    rw [arrV_new]
  rw [jmna_outer] at f2
  have hsz := hW.2
  have hWd : jWd D dA b b0 ((h ++ [.inl (t.1, n.toNatClampNeg, .inr (.inr (.inr (.inr (fun i => if i < n.toNatClampNeg then some (h.length + 1 + i) else none)))))]) ++ List.replicate n.toNatClampNeg (.inl (0, w.toNatClampNeg, .inl (fun _ => 0)))) F.heap := by
    refine ⟨fun k q hk => ?_, by rw [f1, hsz, List.length_append, List.length_append, List.length_replicate]; simp only [List.length_cons, List.length_nil]; omega⟩
    obtain ⟨c', hc', rfl⟩ := jw_inv hk
    by_cases h1 : k < h.length
    · rw [List.getElem?_append_left (by rw [List.length_append]; omega), List.getElem?_append_left h1] at hc'
      exact (hW.at hc').kept (hold _ (by show b0 + k < H.size; omega))
    · by_cases h2 : k = h.length
      · subst h2
        rw [List.getElem?_append_left (by rw [List.length_append]; simp), List.getElem?_append_right (Nat.le_refl _), Nat.sub_self] at hc'
        cases hc'
        show F.heap[b0 + h.length]? = some (arrV (dA t.1) n.toNatClampNeg (fun i => va_rf ((if i < n.toNatClampNeg then some (h.length + 1 + i) else none).map (fun a => b0 + a))))
        rw [← hsz, f2]
        refine congrArg (fun g => some (arrV (dA t.1) n.toNatClampNeg g)) (funext fun j => ?_)
        by_cases hj : j < n.toNatClampNeg
        · rw [if_pos hj, if_pos hj, hsz]
          exact congrArg Value.ref (show b0 + h.length + 1 + j = b0 + (h.length + 1 + j) by omega)
        · rw [if_neg hj, if_neg hj]
          rfl
      · rw [List.getElem?_append_right (by rw [List.length_append]; simp; omega)] at hc'
        rw [List.length_append, List.getElem?_replicate] at hc'
        simp only [List.length_cons, List.length_nil] at hc'
        split at hc'
        · next hlt =>
          cases hc'
          show F.heap[b0 + k]? = some (arrV (dA 0) w.toNatClampNeg (fun _ => .int 0))
          have := hrow (k - (h.length + 1)) (by omega)
          rw [hsz, show b0 + h.length + 1 + (k - (h.length + 1)) = b0 + k by omega] at this
          exact this
        · cases hc'
  obtain ⟨t9, a1, b1⟩ := kk F.heap locs hWd ⟨by rw [f1]; have := hS.1; omega, fun x h1 h2 => (hold x (Nat.lt_of_lt_of_le h1 hS.1)).trans (hS.2.1 x h1 h2), hS.2.2⟩ F rfl (by
    rw [show cells + (1 + n.toNatClampNeg) = cells + 1 + n.toNatClampNeg by omega, show slots + (n.toNatClampNeg + n.toNatClampNeg * w.toNatClampNeg) = slots + n.toNatClampNeg + n.toNatClampNeg * w.toNatClampNeg by omega]
    exact X')
  refine ⟨t9, step t9 ?_, b1⟩
  have e : T.heap.size = b0 + h.length := by rw [hT]; exact hsz
  rw [e]
  exact a1
end
section
/-! fuel; and the interpreter with summaries of methods -/
theorem jrun_succ (L : Nat) (xs : Nat → Int32) : ∀ (n d mi pc : Nat) (lv : jL) (st : List Value) (h : List jC) (r : Option Value × List jC), jrun L xs n d mi pc lv st h = some r → jrun L xs (n + 1) d mi pc lv st h = some r := by
  intro n
  induction n with
  | zero => intro d mi pc lv st h r hs; cases hs
  | succ n ih =>
    intro d mi pc lv st h r hs
    rw [jrun] at hs
    rw [jrun]
    cases hi : jm_ins mi pc with
    | none => rw [hi] at hs; cases hs
    | some q =>
      obtain ⟨i, len⟩ := q
      rw [hi] at hs
      dsimp only at hs ⊢
      by_cases hl : jlen i = 0 ∨ len = jlen i
      · rw [if_pos hl] at hs ⊢
        cases he : jend mi st i with
        | some r0 => rw [he] at hs; exact hs
        | none =>
          rw [he] at hs
          dsimp only at hs ⊢
          cases hc : jcall (jm_own mi) st h i with
          | some q =>
            obtain ⟨y, as, rest⟩ := q
            rw [hc] at hs
            cases d with
            | zero => cases hs
            | succ d' =>
              dsimp only at hs ⊢
              by_cases hy : y ≠ 0 ∧ y < jm_n ∧ (lg_sl as).length ≤ jm_maxL y
              · rw [if_pos hy] at hs ⊢
                cases hr : jrun L xs n d' y 0 (lv_args 0 as) [] h with
                | none => rw [hr] at hs; cases hs
                | some q1 =>
                  obtain ⟨r1, h1⟩ := q1
                  rw [hr] at hs
                  rw [ih _ _ _ _ _ _ _ hr]
                  exact ih _ _ _ _ _ _ _ hs
              · rw [if_neg hy] at hs; cases hs
          | none =>
            rw [hc] at hs
            dsimp only at hs ⊢
            cases hst : jstep L xs d mi pc lv st h i len with
            | none => rw [hst] at hs; cases hs
            | some q =>
              obtain ⟨pc1, lv1, st1, h1⟩ := q
              rw [hst] at hs
              exact ih _ _ _ _ _ _ _ hs
      · rw [if_neg hl] at hs; cases hs
theorem jrun_le {L : Nat} {xs : Nat → Int32} {n n' d mi pc : Nat} {lv : jL} {st : List Value} {h : List jC} {r : Option Value × List jC} (hn : n ≤ n') (hs : jrun L xs n d mi pc lv st h = some r) : jrun L xs n' d mi pc lv st h = some r := by
  induction hn with
  | refl => exact hs
  | step _ ih => exact jrun_succ L xs _ _ _ _ _ _ _ _ ih
/-- a method's run from its entry, whatever the fuel -/
def jMR (L : Nat) (xs : Nat → Int32) (d y : Nat) (as : List Value) (h : List jC) (r : Option Value × List jC) : Prop := ∃ n, jrun L xs n d y 0 (lv_args 0 as) [] h = some r
abbrev jSm : Type := Nat → List Value → List jC → Option (Option Value × List jC)
/-- summaries: what a method answers and leaves, at every depth from dep on -/
def jSmOK (L : Nat) (xs : Nat → Int32) (dep : Nat → Nat) (S : jSm) : Prop := ∀ (y : Nat) (as : List Value) (h : List jC) (r : Option Value × List jC), S y as h = some r → ∀ d, dep y ≤ d → jMR L xs d y as h r
/-- the interpreter, a method with a summary by its summary -/
def qrun (dep : Nat → Nat) (S : jSm) (L : Nat) (xs : Nat → Int32) : Nat → Nat → Nat → Nat → jL → List Value → List jC → Option (Option Value × List jC)
  | 0, _, _, _, _, _, _ => none
  | n + 1, d, mi, pc, lv, st, h => match jm_ins mi pc with
    | none => none
    | some (i, len) => if jlen i = 0 ∨ len = jlen i then
        (match jend mi st i with
        | some r => some (r, h)
        | none => match jcall (jm_own mi) st h i, d with
          | some (y, as, rest), d' + 1 => if y ≠ 0 ∧ y < jm_n ∧ (lg_sl as).length ≤ jm_maxL y then
              (match (if dep y ≤ d' then S y as h else none) with
              | some (r, h1) => qrun dep S L xs n (d' + 1) mi (pc + 3) lv (r.toList ++ rest) h1
              | none => match qrun dep S L xs n d' y 0 (lv_args 0 as) [] h with
                | some (r, h1) => qrun dep S L xs n (d' + 1) mi (pc + 3) lv (r.toList ++ rest) h1
                | none => none) else none
          | some _, 0 => none
          | none, d => match jstep L xs d mi pc lv st h i len with
            | some (pc', lv', st', h') => qrun dep S L xs n d mi pc' lv' st' h'
            | none => none) else none
theorem jrun_call {L : Nat} {xs : Nat → Int32} {n1 n2 d mi pc : Nat} {lv : jL} {st : List Value} {h : List jC} {i : Instr} {len y : Nat} {as rest : List Value} {r1 : Option Value} {h1 : List jC} {r : Option Value × List jC} (hi : jm_ins mi pc = some (i, len)) (hl : jlen i = 0 ∨ len = jlen i) (he : jend mi st i = none) (hc : jcall (jm_own mi) st h i = some (y, as, rest)) (hy : y ≠ 0 ∧ y < jm_n ∧ (lg_sl as).length ≤ jm_maxL y)
    (h1r : jrun L xs n1 d y 0 (lv_args 0 as) [] h = some (r1, h1)) (h2r : jrun L xs n2 (d + 1) mi (pc + 3) lv (r1.toList ++ rest) h1 = some r) : jrun L xs (n1 + n2 + 1) (d + 1) mi pc lv st h = some r := by
  rw [jrun, hi]
  dsimp only
  rw [if_pos hl, he]
  dsimp only
  rw [hc]
  dsimp only
  rw [if_pos hy, jrun_le (Nat.le_add_right n1 n2) h1r]
  exact jrun_le (Nat.le_add_left n2 n1) h2r
theorem qrun_ok (dep : Nat → Nat) (S : jSm) (L : Nat) (xs : Nat → Int32) (hS : jSmOK L xs dep S) : ∀ (n d mi pc : Nat) (lv : jL) (st : List Value) (h : List jC) (r : Option Value × List jC), qrun dep S L xs n d mi pc lv st h = some r → ∃ n', jrun L xs n' d mi pc lv st h = some r := by
  intro n
  induction n with
  | zero => intro d mi pc lv st h r hs; cases hs
  | succ n ih =>
    intro d mi pc lv st h r hs
    rw [qrun] at hs
    cases hi : jm_ins mi pc with
    | none => rw [hi] at hs; cases hs
    | some q =>
      obtain ⟨i, len⟩ := q
      rw [hi] at hs
      dsimp only at hs
      by_cases hl : jlen i = 0 ∨ len = jlen i
      · rw [if_pos hl] at hs
        cases he : jend mi st i with
        | some r0 =>
          rw [he] at hs
          refine ⟨1, ?_⟩
          rw [jrun, hi]
          dsimp only
          rw [if_pos hl, he]
          exact hs
        | none =>
          rw [he] at hs
          dsimp only at hs
          cases hc : jcall (jm_own mi) st h i with
          | some q =>
            obtain ⟨y, as, rest⟩ := q
            rw [hc] at hs
            cases d with
            | zero => cases hs
            | succ d' =>
              dsimp only at hs
              by_cases hy : y ≠ 0 ∧ y < jm_n ∧ (lg_sl as).length ≤ jm_maxL y
              · rw [if_pos hy] at hs
                split at hs
                · next r1 h1 hsm =>
                  have hdp : dep y ≤ d' := by
                    by_cases hd : dep y ≤ d'
                    · exact hd
                    · rw [if_neg hd] at hsm; cases hsm
                  rw [if_pos hdp] at hsm
                  obtain ⟨n1, hn1⟩ := hS y as h _ hsm d' hdp
                  obtain ⟨n2, hn2⟩ := ih _ _ _ _ _ _ _ hs
                  exact ⟨_, jrun_call hi hl he hc hy hn1 hn2⟩
                · split at hs
                  · next r1 h1 hq =>
                    obtain ⟨n1, hn1⟩ := ih _ _ _ _ _ _ _ hq
                    obtain ⟨n2, hn2⟩ := ih _ _ _ _ _ _ _ hs
                    exact ⟨_, jrun_call hi hl he hc hy hn1 hn2⟩
                  · cases hs
              · rw [if_neg hy] at hs; cases hs
          | none =>
            rw [hc] at hs
            dsimp only at hs
            cases hst : jstep L xs d mi pc lv st h i len with
            | none => rw [hst] at hs; cases hs
            | some q =>
              obtain ⟨pc1, lv1, st1, h1⟩ := q
              rw [hst] at hs
              obtain ⟨n2, hn2⟩ := ih _ _ _ _ _ _ _ hs
              refine ⟨n2 + 1, ?_⟩
              rw [jrun, hi]
              dsimp only
              rw [if_pos hl, he]
              dsimp only
              rw [hc]
              dsimp only
              rw [hst]
              exact hn2
      · rw [if_neg hl] at hs; cases hs
end
section
/-! a run from a place in a method, whatever the fuel -/
def jG (L : Nat) (xs : Nat → Int32) (d mi pc : Nat) (lv : jL) (st : List Value) (h : List jC) (r : Option Value × List jC) : Prop := ∃ n, jrun L xs n d mi pc lv st h = some r
section JG
variable {L : Nat} {xs : Nat → Int32} {d mi pc : Nat} {lv : jL} {st : List Value} {h : List jC} {r : Option Value × List jC}
theorem jG_seg (k : Nat) {pc' : Nat} {lv' : jL} {st' : List Value} {h' : List jC} (e : ∀ N, jrun L xs (N + k) d mi pc lv st h = jrun L xs N d mi pc' lv' st' h') (g : jG L xs d mi pc' lv' st' h' r) : jG L xs d mi pc lv st h r := by
  obtain ⟨n, hn⟩ := g
  exact ⟨n + k, by rw [e]; exact hn⟩
theorem jG_step {i : Instr} {len pc' : Nat} {lv' : jL} {st' : List Value} {h' : List jC} (hi : jm_ins mi pc = some (i, len)) (hl : jlen i = 0 ∨ len = jlen i) (he : jend mi st i = none) (hc : jcall (jm_own mi) st h i = none) (hs : jstep L xs d mi pc lv st h i len = some (pc', lv', st', h')) (g : jG L xs d mi pc' lv' st' h' r) : jG L xs d mi pc lv st h r := by
  obtain ⟨n, hn⟩ := g
  refine ⟨n + 1, ?_⟩
  rw [jrun, hi]
  dsimp only
  rw [if_pos hl, he]
  dsimp only
  rw [hc]
  dsimp only
  rw [hs]
  exact hn
theorem jG_ret {i : Instr} {len : Nat} {v : Option Value} (hi : jm_ins mi pc = some (i, len)) (hl : jlen i = 0 ∨ len = jlen i) (he : jend mi st i = some v) : jG L xs d mi pc lv st h (v, h) := by
  refine ⟨1, ?_⟩
  rw [jrun, hi]
  dsimp only
  rw [if_pos hl, he]
theorem jG_call {i : Instr} {len y : Nat} {as rest : List Value} {r1 : Option Value} {h1 : List jC} (hi : jm_ins mi pc = some (i, len)) (hl : jlen i = 0 ∨ len = jlen i) (he : jend mi st i = none) (hc : jcall (jm_own mi) st h i = some (y, as, rest)) (hy : y ≠ 0 ∧ y < jm_n ∧ (lg_sl as).length ≤ jm_maxL y)
    (hm : jMR L xs d y as h (r1, h1)) (g : jG L xs (d + 1) mi (pc + 3) lv (r1.toList ++ rest) h1 r) : jG L xs (d + 1) mi pc lv st h r := by
  obtain ⟨n1, hn1⟩ := hm
  obtain ⟨n2, hn2⟩ := g
  exact ⟨_, jrun_call hi hl he hc hy hn1 hn2⟩
theorem jG_iast {x j : Int32} {a n : Nat} {f : Nat → Int32} {rest : List Value} (hi : jm_ins mi pc = some (.iastore, 1)) (ha : h[a]? = some (.inl (0, n, .inl f))) (hj : jin j n = true) (g : jG L xs (d + 1) mi (pc + 1) lv rest (h.set a (.inl (0, n, .inl (upd f j.toNatClampNeg x)))) r) : jG L xs (d + 1) mi pc lv (.int x :: .int j :: .ref a :: rest) h r :=
  jG_step hi (Or.inr rfl) rfl rfl (by
    show (if d + 1 = 0 then none else jH L xs (decide (mi = 0)) (jm_ini mi) (jm_own mi) pc lv (.int x :: .int j :: .ref a :: rest) h .iastore) = _
    rw [if_neg (Nat.succ_ne_zero d)]
    simp only [jH, ha, hj]
    rfl) g
end JG
def jm_fill : Nat := 227
theorem jfill_loop (L : Nat) (xs : Nat → Int32) (d a n : Nat) (v : Int32) (hn : n < 2 ^ 31) : ∀ (m i : Nat) (f : Nat → Int32) (h : List jC), i + m = n → h[a]? = some (.inl (0, n, .inl f)) → jG L xs (d + 1) 227 5 [(2, .int (nI i)), (3, .int (nI n)), (0, .ref a), (1, .int v)] [] h (none, h.set a (.inl (0, n, .inl (fun j => if i ≤ j ∧ j < n then v else f j)))) := by
  intro m
  induction m with
  | zero =>
    intro i f h hi ha
    have hin : i = n := by omega
    subst hin
    refine jG_seg 3 (pc' := 20) (lv' := [(2, .int (nI i)), (3, .int (nI i)), (0, .ref a), (1, .int v)]) (st' := []) (h' := h) (fun N => ?_) ?_
    · have e : jcmp .ge (nI i) (nI i) = true := decide_eq_true (Int32.le_refl _)
      show jrun L xs N (d + 1) 227 (if jcmp .ge (nI i) (nI i) then 20 else 10) _ _ _ = _
      rw [e]
      rfl
    · have e : h.set a (.inl (0, i, .inl (fun j => if i ≤ j ∧ j < i then v else f j))) = h := by
        have hf : (fun j => if i ≤ j ∧ j < i then v else f j) = f := funext fun j => if_neg (by omega)
        rw [hf]
        have hl := (List.getElem?_eq_some_iff.mp ha)
        obtain ⟨hlt, he⟩ := hl
        rw [← he]
        exact List.set_getElem_self hlt
      rw [e]
      exact jG_ret (i := .return_) (len := 1) rfl (Or.inr rfl) rfl
  | succ m ih =>
    intro i f h hi ha
    have hlt : i < n := by omega
    have e : jcmp .ge (nI i) (nI n) = false := decide_eq_false (nI_ge hlt hn)
    refine jG_seg 6 (pc' := 13) (lv' := [(2, .int (nI i)), (3, .int (nI n)), (0, .ref a), (1, .int v)]) (st' := [.int v, .int (nI i), .ref a]) (h' := h) (fun N => ?_) ?_
    · show jrun L xs (N + 3) (d + 1) 227 (if jcmp .ge (nI i) (nI n) then 20 else 10) _ _ _ = _
      rw [e]
      rfl
    · refine jG_iast rfl ha (decide_eq_true (nI_in hlt hn)) ?_
      rw [nI_clamp (Nat.lt_trans hlt hn)]
      refine jG_seg 2 (pc' := 5) (lv' := [(2, .int (nI i + 1)), (3, .int (nI n)), (0, .ref a), (1, .int v)]) (st' := []) (fun N => rfl) ?_
      rw [← nI_succ]
      have hl := (List.getElem?_eq_some_iff.mp ha).1
      have := ih (i + 1) (upd f i v) (h.set a (.inl (0, n, .inl (upd f i v)))) (by omega) (List.getElem?_set_self hl)
      rw [List.set_set] at this
      have hf : (fun j => if i + 1 ≤ j ∧ j < n then v else upd f i v j) = (fun j => if i ≤ j ∧ j < n then v else f j) := by
        funext j
        by_cases hj : j = i
        · subst hj
          rw [if_neg (by omega), if_pos ⟨Nat.le_refl _, hlt⟩, pk_us]
        · rw [pk_un hj]
          by_cases h1 : i ≤ j ∧ j < n
          · rw [if_pos h1, if_pos (by omega)]
          · rw [if_neg h1, if_neg (by omega)]
      rw [hf] at this
      exact this
end
section
/-! the interpreter over a fixed shape: which cells there are, and their references, is T; σ k j is the int at place j of cell k -/
abbrev kS : Type := Nat → Nat → Int32
def kval (f : Nat → Int32) (j : Nat) (v : Value) : Value := match v with
  | .int _ => .int (f j)
  | v => v
def kR (t c : jC) (f : Nat → Int32) : Prop := match t, c with
  | .inr (ci, ts), .inr (ci', fs) => ci' = ci ∧ fs = ts.mapIdx (kval f)
  | .inl (t, n, .inl _), .inl (t', n', .inl g) => t' = t ∧ n' = n ∧ ∀ j, j < n → g j = f j
  | .inl (t, n, .inr (.inr (.inr (.inr g)))), .inl (t', n', .inr (.inr (.inr (.inr g')))) => t' = t ∧ n' = n ∧ ∀ j, j < n → g' j = g j
  | _, _ => False
def kE (T : List jC) (σ : kS) (h : List jC) : Prop := h.length = T.length ∧ ∀ (k : Nat) (t : jC), T[k]? = some t → ∃ c, h[k]? = some c ∧ kR t c (σ k)
theorem kE.set {T : List jC} {σ : kS} {h : List jC} (hE : kE T σ h) {a : Nat} {t c : jC} {f : Nat → Int32} (ha : T[a]? = some t) (hR : kR t c f) : kE T (va_up σ a f) (h.set a c) := by
  refine ⟨by rw [List.length_set]; exact hE.1, ?_⟩
  intro k t' hk
  obtain ⟨c0, h0, hr⟩ := hE.2 k t' hk
  by_cases e : k = a
  · subst e
    cases ha.symm.trans hk
    exact ⟨c, List.getElem?_set_self (List.getElem?_eq_some_iff.mp h0).1, by simp [va_up]; exact hR⟩
  · exact ⟨c0, by rw [List.getElem?_set_ne (Ne.symm e)]; exact h0, by simp [va_up, e]; exact hr⟩
theorem kE.obj {T : List jC} {σ : kS} {h : List jC} (hE : kE T σ h) {a ci : Nat} {ts : List Value} (ha : T[a]? = some (.inr (ci, ts))) : h[a]? = some (.inr (ci, ts.mapIdx (kval (σ a)))) := by
  obtain ⟨c, h0, hr⟩ := hE.2 a _ ha
  obtain q | ⟨ci', fs⟩ := c
  · exact hr.elim
  · obtain ⟨rfl, rfl⟩ := hr
    exact h0
theorem kE.arr {T : List jC} {σ : kS} {h : List jC} (hE : kE T σ h) {a t n : Nat} {g0 : Nat → Int32} (ha : T[a]? = some (.inl (t, n, .inl g0))) : ∃ g, h[a]? = some (.inl (t, n, .inl g)) ∧ ∀ j, j < n → g j = σ a j := by
  obtain ⟨c, h0, hr⟩ := hE.2 a _ ha
  obtain ⟨t', n', g | g | g | g | g⟩ | q := c
  · obtain ⟨rfl, rfl, hg⟩ := hr
    exact ⟨g, h0, hg⟩
  all_goals exact hr.elim
theorem kE.refs {T : List jC} {σ : kS} {h : List jC} (hE : kE T σ h) {a t n : Nat} {g0 : Nat → Option Nat} (ha : T[a]? = some (.inl (t, n, .inr (.inr (.inr (.inr g0)))))) : ∃ g, h[a]? = some (.inl (t, n, .inr (.inr (.inr (.inr g))))) ∧ ∀ j, j < n → g j = g0 j := by
  obtain ⟨c, h0, hr⟩ := hE.2 a _ ha
  obtain ⟨t', n', g | g | g | g | g⟩ | q := c
  · exact hr.elim
  · exact hr.elim
  · exact hr.elim
  · exact hr.elim
  · obtain ⟨rfl, rfl, hg⟩ := hr
    exact ⟨g, h0, hg⟩
  · exact hr.elim
theorem kmap_set {ts : List Value} {f : Nat → Int32} {j : Nat} {x y : Int32} (h : ts[j]? = some (.int y)) : (ts.mapIdx (kval f)).set j (.int x) = ts.mapIdx (kval (upd f j x)) := by
  apply List.ext_getElem?
  intro k
  rw [List.getElem?_mapIdx]
  by_cases e : k = j
  · subst e
    rw [List.getElem?_set_self (by rw [List.length_mapIdx]; exact (List.getElem?_eq_some_iff.mp h).1), h]
    simp [kval, upd]
  · rw [List.getElem?_set_ne (Ne.symm e), List.getElem?_mapIdx]
    cases ts[k]? with
    | none => rfl
    | some v => cases v <;> simp [kval, upd, e]
theorem kR_sz {t c : jC} {f : Nat → Int32} (h : kR t c f) : jsz c = jsz t := by
  obtain ⟨t, n, g | g | g | g | g⟩ | ⟨ci, ts⟩ := t <;> obtain ⟨t', n', g' | g' | g' | g' | g'⟩ | ⟨ci', fs⟩ := c <;> first | exact h.elim | skip
  · exact h.2.1
  · exact h.2.1
  · obtain ⟨-, rfl⟩ := h
    exact List.length_mapIdx
theorem kE.sl {T : List jC} {σ : kS} {h : List jC} (hE : kE T σ h) : jsl h = jsl T := by
  have : h.map jsz = T.map jsz := by
    apply List.ext_getElem?
    intro k
    rw [List.getElem?_map, List.getElem?_map]
    cases hk : T[k]? with
    | none =>
      have h1 : T.length ≤ k := List.getElem?_eq_none_iff.mp hk
      rw [List.getElem?_eq_none (by rw [hE.1]; exact h1)]
    | some t =>
      obtain ⟨c, h0, hr⟩ := hE.2 k t hk
      rw [h0]
      show some (jsz c) = some (jsz t)
      rw [kR_sz hr]
  unfold jsl
  rw [this]
abbrev kQ : Type := Option (Nat × jL × List Value × kS)
def kH (T : List jC) (L : Nat) (xs : Nat → Int32) (isLaw : Bool) (k pc : Nat) (lv : jL) (st : List Value) (σ : kS) (i : Instr) : kQ := match i with
  | .getfield idx => match st with
    | .ref a :: st => match jm_fld k idx, T[a]? with
      | some (ci, f), some (.inr (ci', ts)) => if ci = ci' then (match ts[f]? with
          | some v => some (pc + 3, lv, kval (σ a) f v :: st, σ)
          | none => none) else none
      | _, _ => none
    | _ => none
  | .putfield idx => match st with
    | .int x :: .ref a :: st => match jm_fld k idx, T[a]? with
      | some (ci, f), some (.inr (ci', ts)) => (match ts[f]? with
          | some (.int _) => if ci = ci' ∧ jfit (jm_ty ci f) (.int x) = true ∧ jm_fin ci f = false then some (pc + 3, lv, st, va_up σ a (upd (σ a) f x)) else none
          | _ => none)
      | _, _ => none
    | _ => none
  | .iaload => match st with
    | .int j :: .ref a :: st => match T[a]? with
      | some (.inl (t, n, .inl _)) => if t = 0 ∧ jin j n = true then some (pc + 1, lv, .int (σ a j.toNatClampNeg) :: st, σ) else none
      | _ => none
    | .int j :: .retAddr _ :: st => if isLaw = true ∧ jin j L = true then some (pc + 1, lv, .int (xs j.toNatClampNeg) :: st, σ) else none
    | _ => none
  | .baload => match st with
    | .int j :: .ref a :: st => match T[a]? with
      | some (.inl (t, n, .inl _)) => if t = 1 ∧ jin j n = true then some (pc + 1, lv, .int (σ a j.toNatClampNeg) :: st, σ) else none
      | _ => none
    | _ => none
  | .aaload => match st with
    | .int j :: .ref a :: st => match T[a]? with
      | some (.inl (t, n, .inr (.inr (.inr (.inr f))))) => if 2 ≤ t ∧ t < jm_nat ∧ jin j n = true then some (pc + 1, lv, jrf (f j.toNatClampNeg) :: st, σ) else none
      | _ => none
    | _ => none
  | .arraylength => match st with
    | .ref a :: st => match T[a]? with
      | some (.inl (t, n, .inl _)) => if t < jm_nat then some (pc + 1, lv, .int (Int32.ofNat n) :: st, σ) else none
      | _ => none
    | .retAddr _ :: st => if isLaw = true then some (pc + 1, lv, .int (Int32.ofNat L) :: st, σ) else none
    | _ => none
  | .iastore => match st with
    | .int x :: .int j :: .ref a :: st => match T[a]? with
      | some (.inl (t, n, .inl _)) => if t = 0 ∧ jin j n = true then some (pc + 1, lv, st, va_up σ a (upd (σ a) j.toNatClampNeg x)) else none
      | _ => none
    | _ => none
  | .bastore => match st with
    | .int x :: .int j :: .ref a :: st => match T[a]? with
      | some (.inl (t, n, .inl _)) => if t = 1 ∧ jin j n = true ∧ (x = 0 ∨ x = 1) then some (pc + 1, lv, st, va_up σ a (upd (σ a) j.toNatClampNeg x)) else none
      | _ => none
    | _ => none
  | .invokestatic idx => match jm_mm k idx with
    | some v => (match st with
      | .int y :: .int x :: st => if (st.map fun v => v.category).sum ≤ 8 ∧ (v = 2 → y ≠ 0) then some (pc + 3, lv, .int (jmmv v x y) :: st, σ) else none
      | _ => none)
    | none => match st with
    | .int n :: .int dp :: .ref a :: .int sp :: .ref a0 :: st => match jm_ac k idx, T[a0]?, T[a]? with
      | true, some (.inl (t0, n0, .inl _)), some (.inl (t1, n1, .inl _)) => if t0 = 0 ∧ t1 = 0 ∧ ¬ sp < 0 ∧ ¬ dp < 0 ∧ ¬ n < 0 ∧ sp.toNatClampNeg + n.toNatClampNeg ≤ n0 ∧ dp.toNatClampNeg + n.toNatClampNeg ≤ n1 ∧ (st.map fun v => v.category).sum ≤ 8 then
          some (pc + 3, lv, st, va_up σ a (va_cpy (σ a0) (σ a) sp.toNatClampNeg dp.toNatClampNeg n.toNatClampNeg)) else none
      | _, _, _ => none
    | _ => none
  | _ => none
set_option maxHeartbeats 4000000 in
theorem kH_ok {T : List jC} {L : Nat} {xs : Nat → Int32} {il ini : Bool} {k pc : Nat} {lv : jL} {st : List Value} {σ : kS} {i : Instr} {r : Nat × jL × List Value × kS} {h : List jC} (hE : kE T σ h) (hs : kH T L xs il k pc lv st σ i = some r) : ∃ h', jH L xs il ini k pc lv st h i = some (r.1, r.2.1, r.2.2.1, h') ∧ kE T r.2.2.2 h' := by
  cases i with
  | getfield idx =>
    simp only [kH] at hs
    split at hs
    · split at hs
      · next ci f ci' ts hf ha =>
        split at hs
        · next he =>
          split at hs
          · next v hv =>
            cases hs
            refine ⟨h, ?_, hE⟩
            have := hE.obj ha
            simp only [jH, hf, this, if_pos he, List.getElem?_mapIdx, hv]
            rfl
          · cases hs
        · cases hs
      · cases hs
    · cases hs
  | putfield idx =>
    simp only [kH] at hs
    split at hs
    · next x a st =>
      split at hs
      · next ci f ci' ts hf ha =>
        split at hs
        · next y hv =>
          split at hs
          · next he =>
            obtain ⟨rfl, h1, h2⟩ := he
            cases hs
            have hob := hE.obj ha
            refine ⟨h.set a (.inr (ci, (ts.mapIdx (kval (σ a))).set f (.int x))), ?_, hE.set ha ⟨rfl, kmap_set hv⟩⟩
            simp only [jH, hf, hob, h1, h2, List.length_mapIdx]
            rw [if_pos ⟨trivial, (List.getElem?_eq_some_iff.mp hv).1, trivial, Or.inl trivial⟩]
            rfl
          · cases hs
        · cases hs
      · cases hs
    · cases hs
  | iaload =>
    simp only [kH] at hs
    split at hs
    · split at hs
      · next t n g0 ha =>
        split at hs
        · next he =>
          cases hs
          obtain ⟨g, h0, hg⟩ := hE.arr ha
          refine ⟨h, ?_, hE⟩
          simp only [jH, h0, if_pos he]
          rw [hg _ (Nat.not_le.mp fun q => jin_spec he.2 (Or.inr q))]
        · cases hs
      · cases hs
    · split at hs
      · next he =>
        cases hs
        refine ⟨h, ?_, hE⟩
        simp only [jH, if_pos he]
      · cases hs
    · cases hs
  | baload =>
    simp only [kH] at hs
    split at hs
    · split at hs
      · next t n g0 ha =>
        split at hs
        · next he =>
          cases hs
          obtain ⟨g, h0, hg⟩ := hE.arr ha
          refine ⟨h, ?_, hE⟩
          simp only [jH, h0, if_pos he]
          rw [hg _ (Nat.not_le.mp fun q => jin_spec he.2 (Or.inr q))]
        · cases hs
      · cases hs
    · cases hs
  | aaload =>
    simp only [kH] at hs
    split at hs
    · split at hs
      · next t n g0 ha =>
        split at hs
        · next he =>
          cases hs
          obtain ⟨g, h0, hg⟩ := hE.refs ha
          refine ⟨h, ?_, hE⟩
          simp only [jH, h0, if_pos he]
          rw [hg _ (Nat.not_le.mp fun q => jin_spec he.2.2 (Or.inr q))]
        · cases hs
      · cases hs
    · cases hs
  | arraylength =>
    simp only [kH] at hs
    split at hs
    · split at hs
      · next t n g0 ha =>
        split at hs
        · next he =>
          cases hs
          obtain ⟨g, h0, hg⟩ := hE.arr ha
          refine ⟨h, ?_, hE⟩
          simp only [jH, h0, if_pos he]
        · cases hs
      · cases hs
    · split at hs
      · next he =>
        cases hs
        refine ⟨h, ?_, hE⟩
        simp only [jH, if_pos he]
      · cases hs
    · cases hs
  | iastore =>
    simp only [kH] at hs
    split at hs
    · next x j a st =>
      split at hs
      · next t n g0 ha =>
        split at hs
        · next he =>
          cases hs
          obtain ⟨g, h0, hg⟩ := hE.arr ha
          refine ⟨h.set a (.inl (t, n, .inl (upd g j.toNatClampNeg x))), ?_, hE.set ha ⟨rfl, rfl, fun i hi => ?_⟩⟩
          · simp only [jH, h0, if_pos he]
            rfl
          · unfold upd
            split
            · rfl
            · exact hg i hi
        · cases hs
      · cases hs
    · cases hs
  | bastore =>
    simp only [kH] at hs
    split at hs
    · next x j a st =>
      split at hs
      · next t n g0 ha =>
        split at hs
        · next he =>
          cases hs
          obtain ⟨g, h0, hg⟩ := hE.arr ha
          refine ⟨h.set a (.inl (t, n, .inl (upd g j.toNatClampNeg x))), ?_, hE.set ha ⟨rfl, rfl, fun i hi => ?_⟩⟩
          · simp only [jH, h0, if_pos he]
            rfl
          · unfold upd
            split
            · rfl
            · exact hg i hi
        · cases hs
      · cases hs
    · cases hs
  | invokestatic idx =>
    simp only [kH] at hs
    split at hs
    · next v hv =>
      split at hs
      · split at hs
        · next he =>
          cases hs
          refine ⟨h, ?_, hE⟩
          simp only [jH, hv, if_pos he]
        · cases hs
      · cases hs
    · next hnm =>
      split at hs
      · next n dp a sp a0 st =>
        split at hs
        · next t0 n0 g1 t1 n1 g2 ho ha0 ha =>
          split at hs
          · next he =>
            cases hs
            obtain ⟨f, h0, hf⟩ := hE.arr ha0
            obtain ⟨g, h1, hg⟩ := hE.arr ha
            refine ⟨h.set a (.inl (t1, n1, .inl (va_cpy f g sp.toNatClampNeg dp.toNatClampNeg n.toNatClampNeg))), ?_, hE.set ha ⟨rfl, rfl, fun i hi => ?_⟩⟩
            · simp only [jH, hnm, ho, h0, h1, if_pos he]
              rfl
            · unfold va_cpy
              split
              · next hi2 => exact hf _ (by omega)
              · exact hg i hi
          · cases hs
        · cases hs
      · cases hs
  | _ => cases hs
end
section
theorem kcall_ok {T : List jC} {σ : kS} {h : List jC} (hE : kE T σ h) {k : Nat} {st : List Value} {i : Instr} {x : Nat × List Value × List Value} (hc : jcall k st T i = some x) : jcall k st h i = some x := by
  cases i with
  | invokevirtual idx =>
    simp only [jcall] at hc ⊢
    split at hc
    · next kd y n hm =>
      split at hc
      · next hkd =>
        split at hc
        · next a rest hdr =>
          split at hc
          · next ci ts ha =>
            have := hE.obj ha
            rw [if_pos hkd, this]
            exact hc
          · cases hc
        · cases hc
      · cases hc
    · cases hc
  | invokespecial idx => exact hc
  | invokestatic idx => exact hc
  | _ => cases hc
def kplain (i : Instr) : Bool := match i with
  | .invokevirtual _ => false
  | _ => true
theorem kcall_none {T : List jC} {σ : kS} {h : List jC} (hE : kE T σ h) {k : Nat} {st : List Value} {i : Instr} (hi : kplain i = true) (hc : jcall k st T i = none) : jcall k st h i = none := by
  cases i with
  | invokevirtual idx => cases hi
  | _ => exact hc
/-- one instruction that is no call and no end -/
def kone (T : List jC) (L : Nat) (xs : Nat → Int32) (d mi pc : Nat) (lv : jL) (st : List Value) (σ : kS) : kQ := match jm_ins mi pc with
  | none => none
  | some (i, len) => if (jlen i = 0 ∨ len = jlen i) ∧ kplain i = true then
      (match jend mi st i with
      | some _ => none
      | none => match jcall (jm_own mi) st T i with
        | some _ => none
        | none => match jA (jm_own mi) (jm_maxL mi) pc len lv st i with
          | some (pc', lv', st') => some (pc', lv', st', σ)
          | none => if d = 0 then none else kH T L xs (decide (mi = 0)) (jm_own mi) pc lv st σ i) else none
def kmany (T : List jC) (L : Nat) (xs : Nat → Int32) (d mi : Nat) : Nat → Nat → jL → List Value → kS → kQ
  | 0, pc, lv, st, σ => some (pc, lv, st, σ)
  | n + 1, pc, lv, st, σ => match kone T L xs d mi pc lv st σ with
    | some (pc', lv', st', σ') => kmany T L xs d mi n pc' lv' st' σ'
    | none => none
def kG (T : List jC) (L : Nat) (xs : Nat → Int32) (d mi pc : Nat) (lv : jL) (st : List Value) (σ : kS) (r : Option Value) (σ' : kS) : Prop := ∀ h, kE T σ h → ∃ h', jG L xs d mi pc lv st h (r, h') ∧ kE T σ' h'
/-- a method's run from its entry -/
def kM (T : List jC) (L : Nat) (xs : Nat → Int32) (d y : Nat) (as : List Value) (σ : kS) (r : Option Value) (σ' : kS) : Prop := kG T L xs d y 0 (lv_args 0 as) [] σ r σ'
section KG
variable {T : List jC} {L : Nat} {xs : Nat → Int32} {d mi pc : Nat} {lv : jL} {st : List Value} {σ : kS} {r : Option Value} {σ' : kS}
theorem kG_one {pc1 : Nat} {lv1 : jL} {st1 : List Value} {σ1 : kS} (hs : kone T L xs d mi pc lv st σ = some (pc1, lv1, st1, σ1)) (g : kG T L xs d mi pc1 lv1 st1 σ1 r σ') : kG T L xs d mi pc lv st σ r σ' := by
  intro h hE
  unfold kone at hs
  split at hs
  · cases hs
  · next i len hi =>
    split at hs
    · next hl =>
      split at hs
      · cases hs
      · next he =>
        split at hs
        · cases hs
        · next hc =>
          have hcn := kcall_none hE hl.2 hc
          split at hs
          · next pc2 lv2 st2 hA =>
            cases hs
            obtain ⟨h', g1, g2⟩ := g h hE
            refine ⟨h', jG_step hi hl.1 he hcn ?_ g1, g2⟩
            unfold jstep
            rw [hA]
          · next hA =>
            split at hs
            · cases hs
            · next hd =>
              obtain ⟨h1, q1, q2⟩ := kH_ok (ini := jm_ini mi) hE hs
              obtain ⟨h', g1, g2⟩ := g h1 q2
              refine ⟨h', jG_step hi hl.1 he hcn ?_ g1, g2⟩
              unfold jstep
              rw [hA]
              dsimp only
              rw [if_neg hd]
              exact q1
    · cases hs
theorem kG_many : ∀ (n : Nat) {pc : Nat} {lv : jL} {st : List Value} {σ : kS} {pc1 : Nat} {lv1 : jL} {st1 : List Value} {σ1 : kS}, kmany T L xs d mi n pc lv st σ = some (pc1, lv1, st1, σ1) → kG T L xs d mi pc1 lv1 st1 σ1 r σ' → kG T L xs d mi pc lv st σ r σ'
  | 0, _, _, _, _, _, _, _, _, hs, g => by cases hs; exact g
  | n + 1, _, _, _, _, _, _, _, _, hs, g => by
    unfold kmany at hs
    split at hs
    · next pc2 lv2 st2 σ2 h1 => exact kG_one h1 (kG_many n hs g)
    · cases hs
theorem kG_ret {i : Instr} {len : Nat} (hi : jm_ins mi pc = some (i, len)) (hl : jlen i = 0 ∨ len = jlen i) (he : jend mi st i = some r) : kG T L xs d mi pc lv st σ r σ := fun h hE => ⟨h, jG_ret hi hl he, hE⟩
theorem kG_call {i : Instr} {len y : Nat} {as rest : List Value} {r1 : Option Value} {σ1 : kS} (hi : jm_ins mi pc = some (i, len)) (hl : jlen i = 0 ∨ len = jlen i) (he : jend mi st i = none) (hc : jcall (jm_own mi) st T i = some (y, as, rest)) (hy : y ≠ 0 ∧ y < jm_n ∧ (lg_sl as).length ≤ jm_maxL y)
    (hm : kM T L xs d y as σ r1 σ1) (g : kG T L xs (d + 1) mi (pc + 3) lv (r1.toList ++ rest) σ1 r σ') : kG T L xs (d + 1) mi pc lv st σ r σ' := by
  intro h hE
  obtain ⟨h1, q1, q2⟩ := hm h hE
  obtain ⟨h', g1, g2⟩ := g h1 q2
  exact ⟨h', jG_call hi hl he (kcall_ok hE hc) hy q1 g1, g2⟩
theorem kG_if {c : Bool} {p1 p2 : Nat} (ht : c = true → kG T L xs d mi p1 lv st σ r σ') (hf : c = false → kG T L xs d mi p2 lv st σ r σ') : kG T L xs d mi (if c = true then p1 else p2) lv st σ r σ' := by
  cases c with
  | true => exact ht rfl
  | false => exact hf rfl
theorem kG_iald {j : Int32} {a n : Nat} {g0 : Nat → Int32} {rest : List Value} (hi : jm_ins mi pc = some (.iaload, 1)) (ha : T[a]? = some (.inl (0, n, .inl g0))) (hj : jin j n = true) (g : kG T L xs (d + 1) mi (pc + 1) lv (.int (σ a j.toNatClampNeg) :: rest) σ r σ') : kG T L xs (d + 1) mi pc lv (.int j :: .ref a :: rest) σ r σ' :=
  kG_one (by unfold kone; rw [hi]; simp [jlen, kplain, jend, jcall, jA, kH, ha, hj]) g
theorem kG_bald {j : Int32} {a n : Nat} {g0 : Nat → Int32} {rest : List Value} (hi : jm_ins mi pc = some (.baload, 1)) (ha : T[a]? = some (.inl (1, n, .inl g0))) (hj : jin j n = true) (g : kG T L xs (d + 1) mi (pc + 1) lv (.int (σ a j.toNatClampNeg) :: rest) σ r σ') : kG T L xs (d + 1) mi pc lv (.int j :: .ref a :: rest) σ r σ' :=
  kG_one (by unfold kone; rw [hi]; simp [jlen, kplain, jend, jcall, jA, kH, ha, hj]) g
theorem kG_iast {x j : Int32} {a n : Nat} {g0 : Nat → Int32} {rest : List Value} (hi : jm_ins mi pc = some (.iastore, 1)) (ha : T[a]? = some (.inl (0, n, .inl g0))) (hj : jin j n = true) (g : kG T L xs (d + 1) mi (pc + 1) lv rest (va_up σ a (upd (σ a) j.toNatClampNeg x)) r σ') : kG T L xs (d + 1) mi pc lv (.int x :: .int j :: .ref a :: rest) σ r σ' :=
  kG_one (by unfold kone; rw [hi]; simp [jlen, kplain, jend, jcall, jA, kH, ha, hj]) g
theorem kG_bast {x j : Int32} {a n : Nat} {g0 : Nat → Int32} {rest : List Value} (hi : jm_ins mi pc = some (.bastore, 1)) (ha : T[a]? = some (.inl (1, n, .inl g0))) (hj : jin j n = true) (hx : x = 0 ∨ x = 1) (g : kG T L xs (d + 1) mi (pc + 1) lv rest (va_up σ a (upd (σ a) j.toNatClampNeg x)) r σ') : kG T L xs (d + 1) mi pc lv (.int x :: .int j :: .ref a :: rest) σ r σ' :=
  kG_one (by unfold kone; rw [hi]; simp [jlen, kplain, jend, jcall, jA, kH, ha, hj, hx]) g
theorem kG_aald {j : Int32} {a n t : Nat} {g0 : Nat → Option Nat} {rest : List Value} (hi : jm_ins mi pc = some (.aaload, 1)) (ha : T[a]? = some (.inl (t, n, .inr (.inr (.inr (.inr g0)))))) (h2 : 2 ≤ t) (ht : t < jm_nat) (hj : jin j n = true) (g : kG T L xs (d + 1) mi (pc + 1) lv (jrf (g0 j.toNatClampNeg) :: rest) σ r σ') : kG T L xs (d + 1) mi pc lv (.int j :: .ref a :: rest) σ r σ' :=
  kG_one (by unfold kone; rw [hi]; simp [jlen, kplain, jend, jcall, jA, kH, ha, hj, h2, ht]) g
end KG
end
section
/-! the shape of the heap behind the constructors, printed by program (wip/gen_shape.py); roots: cells 0, 232; 294 cells -/
def kT_0 : List jC := [.inr (10, [.ref 13, .ref 1, .ref 181, .ref 195]), .inr (9, [.ref 2, .ref 3, .ref 4, .ref 5, .ref 6, .ref 7, .ref 8, .ref 9, .ref 10, .ref 11, .ref 12, .int 0]), .inl (0, 1928, .inl (fun _ => 0)), .inl (0, 1928, .inl (fun _ => 0)), .inl (0, 1928, .inl (fun _ => 0)), .inl (0, 1928, .inl (fun _ => 0)), .inl (0, 1928, .inl (fun _ => 0)), .inl (0, 256, .inl (fun _ => 0)), .inl (1, 200, .inl (fun _ => 0)), .inl (1, 200, .inl (fun _ => 0)), .inl (0, 200, .inl (fun _ => 0)), .inl (0, 200, .inl (fun _ => 0)), .inl (0, 200, .inl (fun _ => 0)), .inr (0, [.ref 1, .ref 14, .int 0, .ref 15, .ref 16, .ref 17, .int 0, .ref 18, .int 0, .ref 19, .int 0, .ref 20, .ref 21, .ref 22]), .inl (2, 4, .inr (.inr (.inr (.inr (fun i => ([23, 58, 93, 128] : List Nat)[i]?))))), .inl (0, 4, .inl (fun _ => 0)), .inl (1, 4, .inl (fun _ => 0)), .inl (0, 28, .inl (fun _ => 0)), .inl (3, 6, .inr (.inr (.inr (.inr (fun i => ([163, 166, 169, 172, 175, 178] : List Nat)[i]?))))), .inl (0, 20, .inl (fun _ => 0)), .inl (0, 48, .inl (fun _ => 0)), .inl (0, 24, .inl (fun _ => 0)), .inl (0, 200, .inl (fun _ => 0)), .inr (5, [.ref 24, .ref 25, .ref 26, .int 0, .ref 27, .int 0, .int 0]), .inl (0, 6, .inl (fun _ => 0)), .inl (0, 6, .inl (fun _ => 0)), .inl (1, 6, .inl (fun _ => 0)), .inl (4, 6, .inr (.inr (.inr (.inr (fun i => ([28, 33, 38, 43, 48, 53] : List Nat)[i]?))))), .inr (3, [.int 0, .int 0, .ref 29, .ref 30, .int 0, .ref 31, .ref 32, .int 0]), .inl (0, 6, .inl (fun _ => 0)), .inl (0, 6, .inl (fun _ => 0)), .inl (0, 24, .inl (fun _ => 0)), .inl (0, 7, .inl (fun _ => 0)), .inr (3, [.int 0, .int 0, .ref 34, .ref 35, .int 0, .ref 36, .ref 37, .int 0]), .inl (0, 6, .inl (fun _ => 0)), .inl (0, 6, .inl (fun _ => 0)), .inl (0, 24, .inl (fun _ => 0)), .inl (0, 7, .inl (fun _ => 0)), .inr (3, [.int 0, .int 0, .ref 39, .ref 40, .int 0, .ref 41, .ref 42, .int 0]), .inl (0, 6, .inl (fun _ => 0))]
def kT_1 : List jC := [.inl (0, 6, .inl (fun _ => 0)), .inl (0, 24, .inl (fun _ => 0)), .inl (0, 7, .inl (fun _ => 0)), .inr (3, [.int 0, .int 0, .ref 44, .ref 45, .int 0, .ref 46, .ref 47, .int 0]), .inl (0, 6, .inl (fun _ => 0)), .inl (0, 6, .inl (fun _ => 0)), .inl (0, 24, .inl (fun _ => 0)), .inl (0, 7, .inl (fun _ => 0)), .inr (3, [.int 0, .int 0, .ref 49, .ref 50, .int 0, .ref 51, .ref 52, .int 0]), .inl (0, 6, .inl (fun _ => 0)), .inl (0, 6, .inl (fun _ => 0)), .inl (0, 24, .inl (fun _ => 0)), .inl (0, 7, .inl (fun _ => 0)), .inr (3, [.int 0, .int 0, .ref 54, .ref 55, .int 0, .ref 56, .ref 57, .int 0]), .inl (0, 6, .inl (fun _ => 0)), .inl (0, 6, .inl (fun _ => 0)), .inl (0, 24, .inl (fun _ => 0)), .inl (0, 7, .inl (fun _ => 0)), .inr (5, [.ref 59, .ref 60, .ref 61, .int 0, .ref 62, .int 0, .int 0]), .inl (0, 6, .inl (fun _ => 0)), .inl (0, 6, .inl (fun _ => 0)), .inl (1, 6, .inl (fun _ => 0)), .inl (4, 6, .inr (.inr (.inr (.inr (fun i => ([63, 68, 73, 78, 83, 88] : List Nat)[i]?))))), .inr (3, [.int 0, .int 0, .ref 64, .ref 65, .int 0, .ref 66, .ref 67, .int 0]), .inl (0, 6, .inl (fun _ => 0)), .inl (0, 6, .inl (fun _ => 0)), .inl (0, 24, .inl (fun _ => 0)), .inl (0, 7, .inl (fun _ => 0)), .inr (3, [.int 0, .int 0, .ref 69, .ref 70, .int 0, .ref 71, .ref 72, .int 0]), .inl (0, 6, .inl (fun _ => 0)), .inl (0, 6, .inl (fun _ => 0)), .inl (0, 24, .inl (fun _ => 0)), .inl (0, 7, .inl (fun _ => 0)), .inr (3, [.int 0, .int 0, .ref 74, .ref 75, .int 0, .ref 76, .ref 77, .int 0]), .inl (0, 6, .inl (fun _ => 0)), .inl (0, 6, .inl (fun _ => 0)), .inl (0, 24, .inl (fun _ => 0)), .inl (0, 7, .inl (fun _ => 0)), .inr (3, [.int 0, .int 0, .ref 79, .ref 80, .int 0, .ref 81, .ref 82, .int 0]), .inl (0, 6, .inl (fun _ => 0))]
def kT_2 : List jC := [.inl (0, 6, .inl (fun _ => 0)), .inl (0, 24, .inl (fun _ => 0)), .inl (0, 7, .inl (fun _ => 0)), .inr (3, [.int 0, .int 0, .ref 84, .ref 85, .int 0, .ref 86, .ref 87, .int 0]), .inl (0, 6, .inl (fun _ => 0)), .inl (0, 6, .inl (fun _ => 0)), .inl (0, 24, .inl (fun _ => 0)), .inl (0, 7, .inl (fun _ => 0)), .inr (3, [.int 0, .int 0, .ref 89, .ref 90, .int 0, .ref 91, .ref 92, .int 0]), .inl (0, 6, .inl (fun _ => 0)), .inl (0, 6, .inl (fun _ => 0)), .inl (0, 24, .inl (fun _ => 0)), .inl (0, 7, .inl (fun _ => 0)), .inr (5, [.ref 94, .ref 95, .ref 96, .int 0, .ref 97, .int 0, .int 0]), .inl (0, 6, .inl (fun _ => 0)), .inl (0, 6, .inl (fun _ => 0)), .inl (1, 6, .inl (fun _ => 0)), .inl (4, 6, .inr (.inr (.inr (.inr (fun i => ([98, 103, 108, 113, 118, 123] : List Nat)[i]?))))), .inr (3, [.int 0, .int 0, .ref 99, .ref 100, .int 0, .ref 101, .ref 102, .int 0]), .inl (0, 6, .inl (fun _ => 0)), .inl (0, 6, .inl (fun _ => 0)), .inl (0, 24, .inl (fun _ => 0)), .inl (0, 7, .inl (fun _ => 0)), .inr (3, [.int 0, .int 0, .ref 104, .ref 105, .int 0, .ref 106, .ref 107, .int 0]), .inl (0, 6, .inl (fun _ => 0)), .inl (0, 6, .inl (fun _ => 0)), .inl (0, 24, .inl (fun _ => 0)), .inl (0, 7, .inl (fun _ => 0)), .inr (3, [.int 0, .int 0, .ref 109, .ref 110, .int 0, .ref 111, .ref 112, .int 0]), .inl (0, 6, .inl (fun _ => 0)), .inl (0, 6, .inl (fun _ => 0)), .inl (0, 24, .inl (fun _ => 0)), .inl (0, 7, .inl (fun _ => 0)), .inr (3, [.int 0, .int 0, .ref 114, .ref 115, .int 0, .ref 116, .ref 117, .int 0]), .inl (0, 6, .inl (fun _ => 0)), .inl (0, 6, .inl (fun _ => 0)), .inl (0, 24, .inl (fun _ => 0)), .inl (0, 7, .inl (fun _ => 0)), .inr (3, [.int 0, .int 0, .ref 119, .ref 120, .int 0, .ref 121, .ref 122, .int 0]), .inl (0, 6, .inl (fun _ => 0))]
def kT_3 : List jC := [.inl (0, 6, .inl (fun _ => 0)), .inl (0, 24, .inl (fun _ => 0)), .inl (0, 7, .inl (fun _ => 0)), .inr (3, [.int 0, .int 0, .ref 124, .ref 125, .int 0, .ref 126, .ref 127, .int 0]), .inl (0, 6, .inl (fun _ => 0)), .inl (0, 6, .inl (fun _ => 0)), .inl (0, 24, .inl (fun _ => 0)), .inl (0, 7, .inl (fun _ => 0)), .inr (5, [.ref 129, .ref 130, .ref 131, .int 0, .ref 132, .int 0, .int 0]), .inl (0, 6, .inl (fun _ => 0)), .inl (0, 6, .inl (fun _ => 0)), .inl (1, 6, .inl (fun _ => 0)), .inl (4, 6, .inr (.inr (.inr (.inr (fun i => ([133, 138, 143, 148, 153, 158] : List Nat)[i]?))))), .inr (3, [.int 0, .int 0, .ref 134, .ref 135, .int 0, .ref 136, .ref 137, .int 0]), .inl (0, 6, .inl (fun _ => 0)), .inl (0, 6, .inl (fun _ => 0)), .inl (0, 24, .inl (fun _ => 0)), .inl (0, 7, .inl (fun _ => 0)), .inr (3, [.int 0, .int 0, .ref 139, .ref 140, .int 0, .ref 141, .ref 142, .int 0]), .inl (0, 6, .inl (fun _ => 0)), .inl (0, 6, .inl (fun _ => 0)), .inl (0, 24, .inl (fun _ => 0)), .inl (0, 7, .inl (fun _ => 0)), .inr (3, [.int 0, .int 0, .ref 144, .ref 145, .int 0, .ref 146, .ref 147, .int 0]), .inl (0, 6, .inl (fun _ => 0)), .inl (0, 6, .inl (fun _ => 0)), .inl (0, 24, .inl (fun _ => 0)), .inl (0, 7, .inl (fun _ => 0)), .inr (3, [.int 0, .int 0, .ref 149, .ref 150, .int 0, .ref 151, .ref 152, .int 0]), .inl (0, 6, .inl (fun _ => 0)), .inl (0, 6, .inl (fun _ => 0)), .inl (0, 24, .inl (fun _ => 0)), .inl (0, 7, .inl (fun _ => 0)), .inr (3, [.int 0, .int 0, .ref 154, .ref 155, .int 0, .ref 156, .ref 157, .int 0]), .inl (0, 6, .inl (fun _ => 0)), .inl (0, 6, .inl (fun _ => 0)), .inl (0, 24, .inl (fun _ => 0)), .inl (0, 7, .inl (fun _ => 0)), .inr (3, [.int 0, .int 0, .ref 159, .ref 160, .int 0, .ref 161, .ref 162, .int 0]), .inl (0, 6, .inl (fun _ => 0))]
def kT_4 : List jC := [.inl (0, 6, .inl (fun _ => 0)), .inl (0, 24, .inl (fun _ => 0)), .inl (0, 7, .inl (fun _ => 0)), .inr (2, [.int 0, .int 0, .int 0, .int 0, .ref 164, .ref 165, .int 0]), .inl (0, 4, .inl (fun _ => 0)), .inl (0, 4, .inl (fun _ => 0)), .inr (2, [.int 0, .int 0, .int 0, .int 0, .ref 167, .ref 168, .int 0]), .inl (0, 4, .inl (fun _ => 0)), .inl (0, 4, .inl (fun _ => 0)), .inr (2, [.int 0, .int 0, .int 0, .int 0, .ref 170, .ref 171, .int 0]), .inl (0, 4, .inl (fun _ => 0)), .inl (0, 4, .inl (fun _ => 0)), .inr (2, [.int 0, .int 0, .int 0, .int 0, .ref 173, .ref 174, .int 0]), .inl (0, 4, .inl (fun _ => 0)), .inl (0, 4, .inl (fun _ => 0)), .inr (2, [.int 0, .int 0, .int 0, .int 0, .ref 176, .ref 177, .int 0]), .inl (0, 4, .inl (fun _ => 0)), .inl (0, 4, .inl (fun _ => 0)), .inr (2, [.int 0, .int 0, .int 0, .int 0, .ref 179, .ref 180, .int 0]), .inl (0, 4, .inl (fun _ => 0)), .inl (0, 4, .inl (fun _ => 0)), .inr (6, [.ref 13, .ref 1, .ref 186, .ref 182, .ref 183, .ref 184, .ref 185, .int 0, .int 0, .int 0]), .inl (0, 28, .inl (fun _ => 0)), .inl (0, 24, .inl (fun _ => 0)), .inl (0, 4, .inl (fun _ => 0)), .inl (0, 6, .inl (fun _ => 0)), .inr (4, [.ref 1, .int 200, .ref 187, .int 0, .ref 188, .ref 189, .ref 190, .int 0, .ref 191, .ref 192, .ref 193, .ref 194, .int 0, .int 0]), .inl (0, 256, .inl (fun _ => 0)), .inl (0, 776, .inl (fun _ => 0)), .inl (0, 776, .inl (fun _ => 0)), .inl (0, 776, .inl (fun _ => 0)), .inl (0, 1928, .inl (fun _ => 0)), .inl (0, 1928, .inl (fun _ => 0)), .inl (0, 200, .inl (fun _ => 0)), .inl (0, 576, .inl (fun _ => 0)), .inr (7, [.ref 13, .ref 196, .ref 204, .ref 213, .ref 202, .ref 222, .int 0, .int 0, .ref 203, .int (-1), .int 0, .int 0, .int 0]), .inr (8, [.ref 197, .ref 198, .ref 199, .ref 200, .ref 201, .int 0]), .inl (0, 16800, .inl (fun _ => 0)), .inl (0, 600, .inl (fun _ => 0)), .inl (0, 600, .inl (fun _ => 0))]
def kT_5 : List jC := [.inl (0, 600, .inl (fun _ => 0)), .inl (0, 1024, .inl (fun _ => 0)), .inl (0, 28, .inl (fun _ => 0)), .inl (0, 24, .inl (fun _ => 0)), .inr (4, [.ref 1, .int 776, .ref 205, .int 0, .ref 206, .ref 207, .ref 208, .int 0, .ref 209, .ref 210, .ref 211, .ref 212, .int 0, .int 0]), .inl (0, 256, .inl (fun _ => 0)), .inl (0, 776, .inl (fun _ => 0)), .inl (0, 776, .inl (fun _ => 0)), .inl (0, 776, .inl (fun _ => 0)), .inl (0, 1928, .inl (fun _ => 0)), .inl (0, 1928, .inl (fun _ => 0)), .inl (0, 200, .inl (fun _ => 0)), .inl (0, 576, .inl (fun _ => 0)), .inr (4, [.ref 1, .int 1352, .ref 214, .int 0, .ref 215, .ref 216, .ref 217, .int 0, .ref 218, .ref 219, .ref 220, .ref 221, .int 0, .int 0]), .inl (0, 256, .inl (fun _ => 0)), .inl (0, 776, .inl (fun _ => 0)), .inl (0, 776, .inl (fun _ => 0)), .inl (0, 776, .inl (fun _ => 0)), .inl (0, 1928, .inl (fun _ => 0)), .inl (0, 1928, .inl (fun _ => 0)), .inl (0, 200, .inl (fun _ => 0)), .inl (0, 576, .inl (fun _ => 0)), .inr (1, [.ref 1, .ref 204, .ref 202, .int 0, .ref 223, .ref 228, .ref 229, .ref 230, .ref 231]), .inl (5, 4, .inr (.inr (.inr (.inr (fun i => ([224, 225, 226, 227] : List Nat)[i]?))))), .inl (0, 200, .inl (fun _ => 0)), .inl (0, 200, .inl (fun _ => 0)), .inl (0, 200, .inl (fun _ => 0)), .inl (0, 200, .inl (fun _ => 0)), .inl (0, 4, .inl (fun _ => 0)), .inl (0, 6, .inl (fun _ => 0)), .inl (0, 200, .inl (fun _ => 0)), .inl (1, 200, .inl (fun _ => 0)), .inr (11, [.ref 233, .ref 234, .ref 235, .ref 236, .ref 237, .ref 238, .ref 239, .ref 240, .ref 241, .int 0, .int 200, .ref 242, .ref 243, .int 0, .ref 244, .ref 245, .ref 246, .ref 247, .ref 248, .ref 249, .ref 250, .ref 251, .int 0, .ref 252, .ref 253, .ref 254, .int 0, .int 0, .ref 255, .ref 256, .int 0, .ref 257, .ref 258, .ref 259, .ref 260, .ref 261, .ref 262, .ref 263, .ref 264, .ref 265, .ref 266, .ref 267, .ref 268, .ref 269, .ref 270, .ref 271, .int 0, .int 0, .ref 272, .int 0, .int (-1), .ref 273, .int 0, .ref 274, .ref 275, .int 0, .ref 276, .ref 277, .ref 278, .ref 279, .ref 280, .int 0, .ref 281, .ref 282, .ref 283, .ref 284, .ref 285, .ref 286, .ref 287, .int 0, .int 0, .int 0, .int (-6), .ref 288, .ref 289, .ref 290, .ref 291, .ref 292, .ref 293]), .inl (0, 1000, .inl (fun _ => 0)), .inl (0, 1000, .inl (fun _ => 0)), .inl (0, 1000, .inl (fun _ => 0)), .inl (0, 1000, .inl (fun _ => 0)), .inl (1, 1000, .inl (fun _ => 0)), .inl (1, 200, .inl (fun _ => 0)), .inl (0, 200, .inl (fun _ => 0))]
def kT_6 : List jC := [.inl (0, 200, .inl (fun _ => 0)), .inl (0, 200, .inl (fun _ => 0)), .inl (0, 1024, .inl (fun _ => 0)), .inl (0, 1000, .inl (fun _ => 0)), .inl (0, 4, .inl (fun _ => 0)), .inl (0, 24, .inl (fun _ => 0)), .inl (0, 24, .inl (fun _ => 0)), .inl (0, 4, .inl (fun _ => 0)), .inl (0, 24, .inl (fun _ => 0)), .inl (1, 24, .inl (fun _ => 0)), .inl (1, 4, .inl (fun _ => 0)), .inl (0, 24, .inl (fun _ => 0)), .inl (0, 600, .inl (fun _ => 0)), .inl (0, 24, .inl (fun _ => 0)), .inl (0, 20, .inl (fun _ => 0)), .inl (0, 4, .inl (fun _ => 0)), .inl (0, 24, .inl (fun _ => 0)), .inl (1, 6, .inl (fun _ => 0)), .inl (0, 6, .inl (fun _ => 0)), .inl (0, 6, .inl (fun _ => 0)), .inl (0, 6, .inl (fun _ => 0)), .inl (0, 6, .inl (fun _ => 0)), .inl (0, 24, .inl (fun _ => 0)), .inl (0, 24, .inl (fun _ => 0)), .inl (0, 4, .inl (fun _ => 0)), .inl (0, 24, .inl (fun _ => 0)), .inl (1, 200, .inl (fun _ => 0)), .inl (0, 200, .inl (fun _ => 0)), .inl (0, 1000, .inl (fun _ => 0)), .inl (0, 1000, .inl (fun _ => 0)), .inl (0, 1000, .inl (fun _ => 0)), .inl (1, 1000, .inl (fun _ => 0)), .inl (1, 1000, .inl (fun _ => 0)), .inl (0, 4, .inl (fun _ => 0)), .inl (0, 24, .inl (fun _ => 0)), .inl (0, 24, .inl (fun _ => 0)), .inl (0, 4, .inl (fun _ => 0)), .inl (0, 600, .inl (fun _ => 0)), .inl (0, 6, .inl (fun _ => 0)), .inl (0, 600, .inl (fun _ => 0))]
def kT_7 : List jC := [.inl (1, 1000, .inl (fun _ => 0)), .inl (0, 600, .inl (fun _ => 0)), .inl (0, 600, .inl (fun _ => 0)), .inl (0, 600, .inl (fun _ => 0)), .inl (0, 2400, .inl (fun _ => 0)), .inl (0, 14400, .inl (fun _ => 0)), .inl (0, 600, .inl (fun _ => 0)), .inl (0, 600, .inl (fun _ => 0)), .inl (0, 24, .inl (fun _ => 0)), .inl (0, 24, .inl (fun _ => 0)), .inl (0, 4, .inl (fun _ => 0)), .inl (0, 24, .inl (fun _ => 0)), .inl (0, 6, .inl (fun _ => 0)), .inl (0, 6, .inl (fun _ => 0))]
def kT : List jC := kT_0 ++ (kT_1 ++ (kT_2 ++ (kT_3 ++ (kT_4 ++ (kT_5 ++ (kT_6 ++ (kT_7)))))))
end
section
section JF
variable {L : Nat} {xs : Nat → Int32} {d mi pc : Nat} {lv : jL} {st : List Value} {h : List jC} {r : Option Value × List jC}
theorem jG_alen {a n : Nat} {f : Nat → Int32} {rest : List Value} (hi : jm_ins mi pc = some (.arraylength, 1)) (ha : h[a]? = some (.inl (0, n, .inl f))) (g : jG L xs (d + 1) mi (pc + 1) lv (.int (Int32.ofNat n) :: rest) h r) : jG L xs (d + 1) mi pc lv (.ref a :: rest) h r :=
  jG_step hi (Or.inr rfl) rfl rfl (by
    show (if d + 1 = 0 then none else jH L xs (decide (mi = 0)) (jm_ini mi) (jm_own mi) pc lv (.ref a :: rest) h .arraylength) = _
    rw [if_neg (Nat.succ_ne_zero d)]
    simp only [jH, ha]
    rfl) g
end JF
theorem jfill_ok (L : Nat) (xs : Nat → Int32) (d a n : Nat) (v : Int32) (f : Nat → Int32) (h : List jC) (hn : n < 2 ^ 31) (ha : h[a]? = some (.inl (0, n, .inl f))) : jMR L xs (d + 1) 227 [.ref a, .int v] h (none, h.set a (.inl (0, n, .inl (fun j => if j < n then v else f j)))) := by
  show jG L xs (d + 1) 227 0 [(0, .ref a), (1, .int v)] [] h _
  have hl := (List.getElem?_eq_some_iff.mp ha).1
  refine jG_seg 3 (pc' := 3) (lv' := [(2, .int 0), (0, .ref a), (1, .int v)]) (st' := [.ref a]) (h' := h) (fun N => rfl) ?_
  refine jG_alen rfl ha ?_
  refine jG_seg 1 (pc' := 5) (lv' := [(3, .int (nI n)), (2, .int 0), (0, .ref a), (1, .int v)]) (st' := []) (h' := h) (fun N => rfl) ?_
  by_cases h0 : n = 0
  · subst h0
    refine jG_seg 3 (pc' := 20) (lv' := [(3, .int (nI 0)), (2, .int 0), (0, .ref a), (1, .int v)]) (st' := []) (h' := h) (fun N => ?_) ?_
    · have e : jcmp .ge 0 (nI 0) = true := by decide
      show jrun L xs N (d + 1) 227 (if jcmp .ge 0 (nI 0) then 20 else 10) _ _ _ = _
      rw [e]
      rfl
    · have e : h.set a (.inl (0, 0, .inl (fun j => if j < 0 then v else f j))) = h := by
        have hf : (fun j => if j < 0 then v else f j) = f := funext fun j => if_neg (by omega)
        rw [hf]
        obtain ⟨hlt, he⟩ := List.getElem?_eq_some_iff.mp ha
        rw [← he]
        exact List.set_getElem_self hlt
      rw [e]
      exact jG_ret (i := .return_) (len := 1) rfl (Or.inr rfl) rfl
  · have hp : 0 < n := by omega
    have e : jcmp .ge 0 (nI n) = false := decide_eq_false (by rw [← nI_0]; exact nI_ge hp hn)
    refine jG_seg 6 (pc' := 13) (lv' := [(3, .int (nI n)), (2, .int 0), (0, .ref a), (1, .int v)]) (st' := [.int v, .int 0, .ref a]) (h' := h) (fun N => ?_) ?_
    · show jrun L xs (N + 3) (d + 1) 227 (if jcmp .ge 0 (nI n) then 20 else 10) _ _ _ = _
      rw [e]
      rfl
    · refine jG_iast rfl ha (decide_eq_true (by rw [← nI_0]; exact nI_in hp hn)) ?_
      refine jG_seg 2 (pc' := 5) (lv' := [(2, .int (nI 1)), (3, .int (nI n)), (0, .ref a), (1, .int v)]) (st' := []) (fun N => rfl) ?_
      have := jfill_loop L xs d a n v hn (n - 1) 1 (upd f 0 v) (h.set a (.inl (0, n, .inl (upd f 0 v)))) (by omega) (List.getElem?_set_self hl)
      rw [List.set_set] at this
      have hf : (fun j => if 1 ≤ j ∧ j < n then v else upd f 0 v j) = (fun j => if j < n then v else f j) := by
        funext j
        by_cases hj : j = 0
        · subst hj
          rw [if_neg (by omega), if_pos hp, pk_us]
        · rw [pk_un hj]
          by_cases h1 : j < n
          · rw [if_pos h1, if_pos (by omega)]
          · rw [if_neg h1, if_neg (by omega)]
      rw [hf] at this
      exact this
theorem jH_indep {L L' : Nat} {xs xs' : Nat → Int32} {ini : Bool} {k pc : Nat} {lv : jL} {st : List Value} {h : List jC} {i : Instr} : jH L xs false ini k pc lv st h i = jH L' xs' false ini k pc lv st h i := by
  cases i <;> first | rfl | (simp only [jH]; split <;> simp_all)
theorem jrun_indep (L L' : Nat) (xs xs' : Nat → Int32) : ∀ (n d mi pc : Nat) (lv : jL) (st : List Value) (h : List jC), mi ≠ 0 → jrun L xs n d mi pc lv st h = jrun L' xs' n d mi pc lv st h := by
  intro n
  induction n with
  | zero => intro d mi pc lv st h _; rfl
  | succ n ih =>
    intro d mi pc lv st h h0
    rw [jrun, jrun]
    cases hi : jm_ins mi pc with
    | none => rfl
    | some q =>
      obtain ⟨i, len⟩ := q
      dsimp only
      by_cases hl : jlen i = 0 ∨ len = jlen i
      · rw [if_pos hl, if_pos hl]
        cases he : jend mi st i with
        | some r0 => rfl
        | none =>
          dsimp only
          cases hc : jcall (jm_own mi) st h i with
          | some q =>
            obtain ⟨y, as, rest⟩ := q
            cases d with
            | zero => rfl
            | succ d' =>
              dsimp only
              by_cases hy : y ≠ 0 ∧ y < jm_n ∧ (lg_sl as).length ≤ jm_maxL y
              · rw [if_pos hy, if_pos hy, ih d' y 0 _ _ _ hy.1]
                cases hr : jrun L' xs' n d' y 0 (lv_args 0 as) [] h with
                | none => rfl
                | some q1 => exact ih _ _ _ _ _ _ h0
              · rw [if_neg hy, if_neg hy]
          | none =>
            dsimp only
            have hs : jstep L xs d mi pc lv st h i len = jstep L' xs' d mi pc lv st h i len := by
              unfold jstep
              rw [show decide (mi = 0) = false from decide_eq_false h0, jH_indep (L' := L') (xs' := xs')]
            rw [hs]
            cases hst : jstep L' xs' d mi pc lv st h i len with
            | none => rfl
            | some q => exact ih _ _ _ _ _ _ h0
      · rw [if_neg hl, if_neg hl]
end
section
theorem jG_get {L : Nat} {xs : Nat → Int32} {d mi pc : Nat} {lv : jL} {h : List jC} {r : Option Value × List jC} {idx a ci f : Nat} {fs : List Value} {v : Value} {rest : List Value} (hi : jm_ins mi pc = some (.getfield idx, 3)) (hf : jm_fld (jm_own mi) idx = some (ci, f)) (ha : h[a]? = some (.inr (ci, fs))) (hv : fs[f]? = some v) (g : jG L xs (d + 1) mi (pc + 3) lv (v :: rest) h r) : jG L xs (d + 1) mi pc lv (.ref a :: rest) h r :=
  jG_step hi (Or.inr rfl) rfl rfl (by
    show (if d + 1 = 0 then none else jH L xs (decide (mi = 0)) (jm_ini mi) (jm_own mi) pc lv (.ref a :: rest) h (.getfield idx)) = _
    rw [if_neg (Nat.succ_ne_zero d)]
    simp only [jH, hf, ha, hv]
    rfl) g
theorem jempty_loop (L : Nat) (xs : Nat → Int32) (d o a : Nat) (fs : List Value) (hfs : fs[11]? = some (.ref a)) (hoa : o ≠ a) : ∀ (m i : Nat) (f : Nat → Int32) (h : List jC), i + m = 1024 → h[o]? = some (.inr (11, fs)) → h[a]? = some (.inl (0, 1024, .inl f)) → jG L xs (d + 1) 146 2 [(1, .int (nI i)), (0, .ref o)] [] h (none, h.set a (.inl (0, 1024, .inl (fun j => if i ≤ j ∧ j < 1024 then -1 else f j)))) := by
  intro m
  induction m with
  | zero =>
    intro i f h hi ho ha
    have hin : i = 1024 := by omega
    subst hin
    refine jG_seg 3 (pc' := 22) (lv' := [(1, .int (nI 1024)), (0, .ref o)]) (st' := []) (h' := h) (fun N => ?_) ?_
    · have e : jcmp .ge (nI 1024) (Int16.ofInt 1024).toInt32 = true := by decide
      show jrun L xs N (d + 1) 146 (if jcmp .ge (nI 1024) (Int16.ofInt 1024).toInt32 then 22 else 9) _ _ _ = _
      rw [e]
      rfl
    · have e : h.set a (.inl (0, 1024, .inl (fun j => if 1024 ≤ j ∧ j < 1024 then -1 else f j))) = h := by
        have hf : (fun j => if 1024 ≤ j ∧ j < 1024 then -1 else f j) = f := funext fun j => if_neg (by omega)
        rw [hf]
        obtain ⟨hlt, he⟩ := List.getElem?_eq_some_iff.mp ha
        rw [← he]
        exact List.set_getElem_self hlt
      rw [e]
      exact jG_ret (i := .return_) (len := 1) rfl (Or.inr rfl) rfl
  | succ m ih =>
    intro i f h hi ho ha
    have hlt : i < 1024 := by omega
    have h16 : (Int16.ofInt 1024).toInt32 = nI 1024 := by decide
    have e : jcmp .ge (nI i) (Int16.ofInt 1024).toInt32 = false := by rw [h16]; exact decide_eq_false (nI_ge hlt (by decide))
    refine jG_seg 4 (pc' := 10) (lv' := [(1, .int (nI i)), (0, .ref o)]) (st' := [.ref o]) (h' := h) (fun N => ?_) ?_
    · show jrun L xs (N + 1) (d + 1) 146 (if jcmp .ge (nI i) (Int16.ofInt 1024).toInt32 then 22 else 9) _ _ _ = _
      rw [e]
      rfl
    · refine jG_get (idx := 42) rfl rfl ho hfs ?_
      refine jG_seg 2 (pc' := 15) (lv' := [(1, .int (nI i)), (0, .ref o)]) (st' := [.int (-1), .int (nI i), .ref a]) (h' := h) (fun N => rfl) ?_
      refine jG_iast rfl ha (decide_eq_true (nI_in hlt (by decide))) ?_
      rw [nI_clamp (Nat.lt_trans hlt (by decide))]
      refine jG_seg 2 (pc' := 2) (lv' := [(1, .int (nI i + 1)), (0, .ref o)]) (st' := []) (fun N => rfl) ?_
      rw [← nI_succ]
      have hl := (List.getElem?_eq_some_iff.mp ha).1
      have := ih (i + 1) (upd f i (-1)) (h.set a (.inl (0, 1024, .inl (upd f i (-1))))) (by omega) (by rw [List.getElem?_set_ne (Ne.symm hoa)]; exact ho) (List.getElem?_set_self hl)
      rw [List.set_set] at this
      have hf : (fun j => if i + 1 ≤ j ∧ j < 1024 then -1 else upd f i (-1) j) = (fun j => if i ≤ j ∧ j < 1024 then -1 else f j) := by
        funext j
        by_cases hj : j = i
        · subst hj
          rw [if_neg (by omega), if_pos ⟨Nat.le_refl _, hlt⟩, pk_us]
        · rw [pk_un hj]
          by_cases h1 : i ≤ j ∧ j < 1024
          · rw [if_pos h1, if_pos (by omega)]
          · rw [if_neg h1, if_neg (by omega)]
      rw [hf] at this
      exact this
theorem jempty_ok (L : Nat) (xs : Nat → Int32) (d o a : Nat) (fs : List Value) (f : Nat → Int32) (h : List jC) (hfs : fs[11]? = some (.ref a)) (hoa : o ≠ a) (ho : h[o]? = some (.inr (11, fs))) (ha : h[a]? = some (.inl (0, 1024, .inl f))) : jMR L xs (d + 1) 146 [.ref o] h (none, h.set a (.inl (0, 1024, .inl (fun j => if j < 1024 then -1 else f j)))) := by
  show jG L xs (d + 1) 146 0 [(0, .ref o)] [] h _
  refine jG_seg 2 (pc' := 2) (lv' := [(1, .int (nI 0)), (0, .ref o)]) (st' := []) (h' := h) (fun N => rfl) ?_
  have := jempty_loop L xs d o a fs hfs hoa 1024 0 f h rfl ho ha
  have hf : (fun j => if 0 ≤ j ∧ j < 1024 then (-1 : Int32) else f j) = (fun j => if j < 1024 then -1 else f j) := by
    funext j
    by_cases h1 : j < 1024
    · rw [if_pos h1, if_pos ⟨Nat.zero_le _, h1⟩]
    · rw [if_neg h1, if_neg (by omega)]
  rw [hf] at this
  exact this
/-- the summaries that the constructors need -/
def jS0 : jSm := fun y as h => if y = 227 then (match as with
    | [.ref a, .int v] => match h[a]? with
      | some (.inl (t, n, .inl f)) => if t = 0 ∧ n < 100000 then some (none, h.set a (.inl (0, n, .inl (fun j => if j < n then v else f j)))) else none
      | _ => none
    | _ => none)
  else if y = 146 then (match as with
    | [.ref o] => match h[o]? with
      | some (.inr (ci, fs)) => (match (fs[11]? : Option Value) with
        | some (.ref a) => (match h[a]? with
          | some (.inl (t, n, .inl f)) => if ci = 11 ∧ t = 0 ∧ n = 1024 ∧ o ≠ a then some (none, h.set a (.inl (0, 1024, .inl (fun j => if j < 1024 then -1 else f j)))) else none
          | _ => none)
        | _ => none)
      | _ => none
    | _ => none)
  else none
theorem jS0_ok (L : Nat) (xs : Nat → Int32) : jSmOK L xs (fun _ => 1) jS0 := by
  intro y as h r hs d hd
  have hd : 1 ≤ d := hd
  obtain ⟨d, rfl⟩ : ∃ d', d = d' + 1 := ⟨d - 1, by omega⟩
  unfold jS0 at hs
  split at hs
  · next hy =>
    subst hy
    split at hs
    · split at hs
      · next ha =>
        split at hs
        · next he =>
          cases hs
          obtain ⟨rfl, hn⟩ := he
          exact jfill_ok L xs d _ _ _ _ h (Nat.lt_trans hn (by decide)) ha
        · cases hs
      · cases hs
    · cases hs
  · split at hs
    · next hy =>
      subst hy
      split at hs
      · split at hs
        · next ho =>
          split at hs
          · next hfs =>
            split at hs
            · next ha =>
              split at hs
              · next he =>
                cases hs
                obtain ⟨rfl, rfl, rfl, hne⟩ := he
                exact jempty_ok L xs d _ _ _ _ h hfs hne ho ha
              · cases hs
            · cases hs
          · cases hs
        · cases hs
      · cases hs
    · cases hs
end
section
/-! the two constructors, evaluated -/
def jnew (ci : Nat) : jC := .inr (ci, (List.range (jm_nf ci)).map (fun j => defaultValue (jm_ty ci j)))
def jcA : Option (Option Value × List jC) := qrun (fun _ => 1) jS0 0 (fun _ => 0) 20000 200 108 0 [(0, .ref 0)] [] [jnew 10]
def jcB (h : List jC) : Option (Option Value × List jC) := qrun (fun _ => 1) jS0 0 (fun _ => 0) 20000 200 144 0 [(0, .ref 232)] [] (h ++ [jnew 11])
def kshp (t c : jC) : Bool := match t, c with
  | .inr (ci, ts), .inr (ci', fs) => decide (ci' = ci) && decide (fs = ts)
  | .inl (t, n, .inl _), .inl (t', n', .inl _) => decide (t' = t) && decide (n' = n)
  | .inl (t, n, .inr (.inr (.inr (.inr g)))), .inl (t', n', .inr (.inr (.inr (.inr g')))) => decide (t' = t) && (decide (n' = n) && (List.range n).all (fun j => decide (g' j = g j)))
  | _, _ => false
def kcon (c : jC) (j : Nat) : Int32 := match c with
  | .inr (_, fs) => (match (fs[j]? : Option Value) with
    | some (.int x) => x
    | _ => 0)
  | .inl (_, _, .inl g) => g j
  | _ => 0
def kof (h : List jC) : kS := fun k j => match h[k]? with
  | some c => kcon c j
  | none => 0
theorem kself (fs : List Value) : fs = fs.mapIdx (kval (fun j => match (fs[j]? : Option Value) with | some (.int x) => x | _ => 0)) := by
  apply List.ext_getElem?
  intro k
  rw [List.getElem?_mapIdx]
  cases h : fs[k]? with
  | none => rfl
  | some v => cases v <;> simp [kval, h]
theorem kshp_ok {t c : jC} (h : kshp t c = true) : kR t c (kcon c) := by
  unfold kshp at h
  split at h
  · next ci ts ci' fs =>
    rw [Bool.and_eq_true] at h
    have h1 := of_decide_eq_true h.1
    have h2 := of_decide_eq_true h.2
    subst h1
    subst h2
    exact ⟨rfl, kself fs⟩
  · rw [Bool.and_eq_true] at h
    exact ⟨of_decide_eq_true h.1, of_decide_eq_true h.2, fun _ _ => rfl⟩
  · rw [Bool.and_eq_true, Bool.and_eq_true] at h
    exact ⟨of_decide_eq_true h.1, of_decide_eq_true h.2.1, fun j hj => of_decide_eq_true (List.all_eq_true.mp h.2.2 j (List.mem_range.mpr hj))⟩
  · cases h
def kshps : List jC → List jC → Bool
  | [], [] => true
  | t :: ts, c :: cs => kshp t c && kshps ts cs
  | _, _ => false
theorem kshps_ok : ∀ (T h : List jC), kshps T h = true → kE T (kof h) h := by
  have key : ∀ (T h : List jC), kshps T h = true → ∀ (k : Nat) (t : jC), T[k]? = some t → ∃ c, h[k]? = some c ∧ kshp t c = true := by
    intro T
    induction T with
    | nil => intro h _ k t hk; simp at hk
    | cons t0 T ih =>
      intro h hs k t hk
      cases h with
      | nil => cases hs
      | cons c0 h =>
        unfold kshps at hs
        rw [Bool.and_eq_true] at hs
        cases k with
        | zero =>
          simp at hk
          subst hk
          exact ⟨c0, rfl, hs.1⟩
        | succ k =>
          simp at hk
          obtain ⟨c, h1, h2⟩ := ih h hs.2 k t hk
          exact ⟨c, by simpa using h1, h2⟩
  have len : ∀ (T h : List jC), kshps T h = true → h.length = T.length := by
    intro T
    induction T with
    | nil =>
      intro h hs
      cases h with
      | nil => rfl
      | cons c h => cases hs
    | cons t T ih =>
      intro h hs
      cases h with
      | nil => cases hs
      | cons c h =>
        unfold kshps at hs
        rw [Bool.and_eq_true] at hs
        simp [ih h hs.2]
  intro T h hs
  refine ⟨len T h hs, ?_⟩
  intro k t hk
  obtain ⟨c, h1, h2⟩ := key T h hs k t hk
  refine ⟨c, h1, ?_⟩
  have : kof h k = kcon c := by
    funext j
    unfold kof
    rw [h1]
  rw [this]
  exact kshp_ok h2
/-- of the contents: the heads of chains -/
def khd (h : List jC) (k n : Nat) : Bool := match h[k]? with
  | some c => (List.range n).all (fun j => decide (kcon c j = -1))
  | none => false
def kctor : Bool := match jcA with
  | some (none, hA) => decide (hA.length = 232) && (match jcB hA with
    | some (none, hB) => kshps kT hB && (decide (hB.length = 294) && (decide (jsl hB ≤ 1000000) && (khd hB 7 256 && (khd hB 187 256 && (khd hB 205 256 && (khd hB 214 256 && khd hB 242 1024))))))
    | _ => false)
  | _ => false
set_option maxRecDepth 1000000 in
theorem kctor_ok : kctor = true := by decide +kernel
end
section
theorem kof_obj {h : List jC} (hs : kshps kT h = true) {k j ci : Nat} {ts : List Value} {x : Int32} (hk : kT[k]? = some (.inr (ci, ts))) (hj : ts[j]? = some (.int x)) : kof h k j = x := by
  have key : ∀ (T h : List jC), kshps T h = true → ∀ (k : Nat) (t : jC), T[k]? = some t → ∃ c, h[k]? = some c ∧ kshp t c = true := by
    intro T
    induction T with
    | nil => intro h _ k t hk; simp at hk
    | cons t0 T ih =>
      intro h hs k t hk
      cases h with
      | nil => cases hs
      | cons c0 h =>
        unfold kshps at hs
        rw [Bool.and_eq_true] at hs
        cases k with
        | zero =>
          simp at hk
          subst hk
          exact ⟨c0, rfl, hs.1⟩
        | succ k =>
          simp at hk
          obtain ⟨c, h1, h2⟩ := ih h hs.2 k t hk
          exact ⟨c, by simpa using h1, h2⟩
  obtain ⟨c, h1, h2⟩ := key kT h hs k _ hk
  obtain q | ⟨ci', fs⟩ := c
  · cases h2
  · have h3 : (decide (ci' = ci) && decide (fs = ts)) = true := h2
    rw [Bool.and_eq_true] at h3
    have h4 := of_decide_eq_true h3.2
    subst h4
    unfold kof
    rw [h1]
    show (match (fs[j]? : Option Value) with | some (.int x) => x | _ => 0) = x
    rw [hj]
theorem khd_ok {h : List jC} {k n j : Nat} (hh : khd h k n = true) (hj : j < n) : kof h k j = -1 := by
  unfold khd at hh
  unfold kof
  split at hh
  · next c hc =>
    exact of_decide_eq_true (List.all_eq_true.mp hh j (List.mem_range.mpr hj))
  · cases hh
/-- the law from its entry to the head of its loop -/
theorem kstart (L : Nat) (xs : Nat → Int32) : ∃ h0 : List jC, kshps kT h0 = true ∧ h0.length = 294 ∧ jsl h0 ≤ 1000000 ∧ (∀ j, j < 256 → kof h0 7 j = -1) ∧ (∀ j, j < 256 → kof h0 187 j = -1) ∧ (∀ j, j < 256 → kof h0 205 j = -1) ∧ (∀ j, j < 256 → kof h0 214 j = -1) ∧ (∀ j, j < 1024 → kof h0 242 j = -1) ∧
    ∀ r, jG L xs 201 0 18 [(3, .int 0), (2, .ref 232), (1, .ref 0), (0, .retAddr 0)] [] h0 r → jG L xs 201 0 0 [(0, .retAddr 0)] [] [] r := by
  have hk := kctor_ok
  unfold kctor at hk
  split at hk
  · next hA hcA =>
    rw [Bool.and_eq_true] at hk
    obtain ⟨hlA, hk⟩ := hk
    have hlA := of_decide_eq_true hlA
    split at hk
    · next hB hcB =>
      simp only [Bool.and_eq_true] at hk
      obtain ⟨k1, k2, k3, k4, k5, k6, k7, k8⟩ := hk
      refine ⟨hB, k1, of_decide_eq_true k2, of_decide_eq_true k3, fun j hj => khd_ok k4 hj, fun j hj => khd_ok k5 hj, fun j hj => khd_ok k6 hj, fun j hj => khd_ok k7 hj, fun j hj => khd_ok k8 hj, ?_⟩
      intro r hr
      have mA : jMR L xs 200 108 [.ref 0] [jnew 10] (none, hA) := by
        obtain ⟨n, hn⟩ := qrun_ok _ _ _ _ (jS0_ok 0 (fun _ => 0)) _ _ _ _ _ _ _ _ hcA
        exact ⟨n, by rw [← hn]; exact jrun_indep L 0 xs (fun _ => 0) n 200 108 0 _ _ _ (by decide)⟩
      have mB : jMR L xs 200 144 [.ref 232] (hA ++ [jnew 11]) (none, hB) := by
        obtain ⟨n, hn⟩ := qrun_ok _ _ _ _ (jS0_ok 0 (fun _ => 0)) _ _ _ _ _ _ _ _ hcB
        exact ⟨n, by rw [← hn]; exact jrun_indep L 0 xs (fun _ => 0) n 200 144 0 _ _ _ (by decide)⟩
      refine jG_seg 2 (pc' := 4) (lv' := [(0, .retAddr 0)]) (st' := [.ref 0, .ref 0]) (h' := [jnew 10]) (fun N => rfl) ?_
      refine jG_call (i := .invokespecial 9) (len := 3) (y := 108) (as := [.ref 0]) (rest := [.ref 0]) rfl (Or.inr rfl) rfl rfl (by decide +kernel) mA ?_
      refine jG_seg 3 (pc' := 12) (lv' := [(1, .ref 0), (0, .retAddr 0)]) (st' := [.ref hA.length, .ref hA.length]) (h' := hA ++ [jnew 11]) (fun N => rfl) ?_
      rw [hlA]
      refine jG_call (i := .invokespecial 12) (len := 3) (y := 144) (as := [.ref 232]) (rest := [.ref 232]) rfl (Or.inr rfl) rfl rfl (by decide +kernel) mB ?_
      exact jG_seg 3 (pc' := 18) (lv' := [(3, .int 0), (2, .ref 232), (1, .ref 0), (0, .retAddr 0)]) (st' := []) (h' := hB) (fun N => rfl) hr
    · cases hk
  · cases hk
/-- what is left: from the loop's head, over the fixed shape, the law answers 1 -/
def kAns (N : Nat) : Prop := ∀ (L : Nat) (xs : Nat → Int32), L ≤ N → ∀ h0 : List jC, kshps kT h0 = true → (∀ j, j < 256 → kof h0 7 j = -1) → (∀ j, j < 256 → kof h0 187 j = -1) → (∀ j, j < 256 → kof h0 205 j = -1) → (∀ j, j < 256 → kof h0 214 j = -1) → (∀ j, j < 1024 → kof h0 242 j = -1) → ∃ σ', kG kT L xs 201 0 18 [(3, .int 0), (2, .ref 232), (1, .ref 0), (0, .retAddr 0)] [] (kof h0) (some (.int 1)) σ'
theorem kAns_ok {N : Nat} (h : kAns N) : jAns N := by
  intro L xs hL
  obtain ⟨h0, k1, k2, k3, k4, k5, k6, k7, k8, hr⟩ := kstart L xs
  obtain ⟨σ', hg⟩ := h L xs hL h0 k1 k4 k5 k6 k7 k8
  have hE := kshps_ok kT h0 k1
  obtain ⟨h', g1, g2⟩ := hg h0 hE
  obtain ⟨n, hn⟩ := hr _ g1
  refine ⟨n, 201, h', hn, by decide, ?_, ?_⟩
  · rw [g2.1, ← hE.1, k2]
    decide
  · rw [g2.sl, ← hE.sl]
    omega
end
section
/-! triples: from here, over the fixed shape, the method ends with an answer and contents of which Q holds -/
def kX (T : List jC) (L : Nat) (xs : Nat → Int32) (d mi pc : Nat) (lv : jL) (st : List Value) (σ : kS) (Q : Option Value → kS → Prop) : Prop := ∀ h, kE T σ h → ∃ r σ' h', jG L xs d mi pc lv st h (r, h') ∧ kE T σ' h' ∧ Q r σ'
def kXM (T : List jC) (L : Nat) (xs : Nat → Int32) (d y : Nat) (as : List Value) (σ : kS) (Q : Option Value → kS → Prop) : Prop := kX T L xs d y 0 (lv_args 0 as) [] σ Q
def kyok (y : Nat) (as : List Value) : Bool := decide (y ≠ 0) && (decide (y < jm_n) && decide ((lg_sl as).length ≤ jm_maxL y))
theorem kyok_ok {y : Nat} {as : List Value} (h : kyok y as = true) : y ≠ 0 ∧ y < jm_n ∧ (lg_sl as).length ≤ jm_maxL y := by
  unfold kyok at h
  rw [Bool.and_eq_true, Bool.and_eq_true] at h
  exact ⟨of_decide_eq_true h.1, of_decide_eq_true h.2.1, of_decide_eq_true h.2.2⟩
section KX
variable {T : List jC} {L : Nat} {xs : Nat → Int32} {d mi pc : Nat} {lv : jL} {st : List Value} {σ : kS} {Q : Option Value → kS → Prop}
theorem kX_one {pc1 : Nat} {lv1 : jL} {st1 : List Value} {σ1 : kS} (hs : kone T L xs d mi pc lv st σ = some (pc1, lv1, st1, σ1)) (g : kX T L xs d mi pc1 lv1 st1 σ1 Q) : kX T L xs d mi pc lv st σ Q := by
  intro h hE
  unfold kone at hs
  split at hs
  · cases hs
  · next i len hi =>
    split at hs
    · next hl =>
      split at hs
      · cases hs
      · next he =>
        split at hs
        · cases hs
        · next hc =>
          have hcn := kcall_none hE hl.2 hc
          split at hs
          · next pc2 lv2 st2 hA =>
            cases hs
            obtain ⟨r, σ', h', g1, g2⟩ := g h hE
            refine ⟨r, σ', h', jG_step hi hl.1 he hcn ?_ g1, g2⟩
            unfold jstep
            rw [hA]
          · next hA =>
            split at hs
            · cases hs
            · next hd =>
              obtain ⟨h1, q1, q2⟩ := kH_ok (ini := jm_ini mi) hE hs
              obtain ⟨r, σ', h', g1, g2⟩ := g h1 q2
              refine ⟨r, σ', h', jG_step hi hl.1 he hcn ?_ g1, g2⟩
              unfold jstep
              rw [hA]
              dsimp only
              rw [if_neg hd]
              exact q1
    · cases hs
theorem kX_ret {i : Instr} {len : Nat} {r : Option Value} (hi : jm_ins mi pc = some (i, len)) (hl : jlen i = 0 ∨ len = jlen i) (he : jend mi st i = some r) (hq : Q r σ) : kX T L xs d mi pc lv st σ Q := fun h hE => ⟨r, σ, h, jG_ret hi hl he, hE, hq⟩
theorem kX_cal {i : Instr} {len y : Nat} {as rest : List Value} {Q1 : Option Value → kS → Prop} (hm : kXM T L xs d y as σ Q1) (hi : jm_ins mi pc = some (i, len)) (hl : jlen i = 0 ∨ len = jlen i) (he : jend mi st i = none) (hc : jcall (jm_own mi) st T i = some (y, as, rest)) (hy : kyok y as = true)
    (g : ∀ r1 σ1, Q1 r1 σ1 → kX T L xs (d + 1) mi (pc + 3) lv (r1.toList ++ rest) σ1 Q) : kX T L xs (d + 1) mi pc lv st σ Q := by
  intro h hE
  obtain ⟨r1, σ1, h1, q1, q2, q3⟩ := hm h hE
  obtain ⟨r, σ', h', g1, g2⟩ := g r1 σ1 q3 h1 q2
  exact ⟨r, σ', h', jG_call hi hl he (kcall_ok hE hc) (kyok_ok hy) q1 g1, g2⟩
theorem kX_if {c : Bool} {p1 p2 : Nat} (ht : c = true → kX T L xs d mi p1 lv st σ Q) (hf : c = false → kX T L xs d mi p2 lv st σ Q) : kX T L xs d mi (if c = true then p1 else p2) lv st σ Q := by
  cases c with
  | true => exact ht rfl
  | false => exact hf rfl
theorem kX_post {Q1 : Option Value → kS → Prop} (g : kX T L xs d mi pc lv st σ Q1) (hq : ∀ r σ', Q1 r σ' → Q r σ') : kX T L xs d mi pc lv st σ Q := by
  intro h hE
  obtain ⟨r, σ', h', g1, g2, g3⟩ := g h hE
  exact ⟨r, σ', h', g1, g2, hq _ _ g3⟩
theorem kX_iald {j : Int32} {a n : Nat} {g0 : Nat → Int32} {rest : List Value} (hi : jm_ins mi pc = some (.iaload, 1)) (ha : T[a]? = some (.inl (0, n, .inl g0))) (hj : jin j n = true) (g : kX T L xs (d + 1) mi (pc + 1) lv (.int (σ a j.toNatClampNeg) :: rest) σ Q) : kX T L xs (d + 1) mi pc lv (.int j :: .ref a :: rest) σ Q :=
  kX_one (by unfold kone; rw [hi]; simp [jlen, kplain, jend, jcall, jA, kH, ha, hj]) g
theorem kX_bald {j : Int32} {a n : Nat} {g0 : Nat → Int32} {rest : List Value} (hi : jm_ins mi pc = some (.baload, 1)) (ha : T[a]? = some (.inl (1, n, .inl g0))) (hj : jin j n = true) (g : kX T L xs (d + 1) mi (pc + 1) lv (.int (σ a j.toNatClampNeg) :: rest) σ Q) : kX T L xs (d + 1) mi pc lv (.int j :: .ref a :: rest) σ Q :=
  kX_one (by unfold kone; rw [hi]; simp [jlen, kplain, jend, jcall, jA, kH, ha, hj]) g
theorem kX_iast {x j : Int32} {a n : Nat} {g0 : Nat → Int32} {rest : List Value} (hi : jm_ins mi pc = some (.iastore, 1)) (ha : T[a]? = some (.inl (0, n, .inl g0))) (hj : jin j n = true) (g : kX T L xs (d + 1) mi (pc + 1) lv rest (va_up σ a (upd (σ a) j.toNatClampNeg x)) Q) : kX T L xs (d + 1) mi pc lv (.int x :: .int j :: .ref a :: rest) σ Q :=
  kX_one (by unfold kone; rw [hi]; simp [jlen, kplain, jend, jcall, jA, kH, ha, hj]) g
theorem kX_bast {x j : Int32} {a n : Nat} {g0 : Nat → Int32} {rest : List Value} (hi : jm_ins mi pc = some (.bastore, 1)) (ha : T[a]? = some (.inl (1, n, .inl g0))) (hj : jin j n = true) (hx : x = 0 ∨ x = 1) (g : kX T L xs (d + 1) mi (pc + 1) lv rest (va_up σ a (upd (σ a) j.toNatClampNeg x)) Q) : kX T L xs (d + 1) mi pc lv (.int x :: .int j :: .ref a :: rest) σ Q :=
  kX_one (by unfold kone; rw [hi]; simp [jlen, kplain, jend, jcall, jA, kH, ha, hj, hx]) g
theorem kX_aald {j : Int32} {a n t : Nat} {g0 : Nat → Option Nat} {rest : List Value} (hi : jm_ins mi pc = some (.aaload, 1)) (ha : T[a]? = some (.inl (t, n, .inr (.inr (.inr (.inr g0)))))) (h2 : 2 ≤ t) (ht : t < jm_nat) (hj : jin j n = true) (g : kX T L xs (d + 1) mi (pc + 1) lv (jrf (g0 j.toNatClampNeg) :: rest) σ Q) : kX T L xs (d + 1) mi pc lv (.int j :: .ref a :: rest) σ Q :=
  kX_one (by unfold kone; rw [hi]; simp [jlen, kplain, jend, jcall, jA, kH, ha, hj, h2, ht]) g
end KX
theorem kX_fill {T : List jC} (L : Nat) (xs : Nat → Int32) (d : Nat) {a n : Nat} {g0 : Nat → Int32} (v : Int32) (σ : kS) (ha : T[a]? = some (.inl (0, n, .inl g0))) (hn : n < 2 ^ 31) : kXM T L xs (d + 1) 227 [.ref a, .int v] σ (fun r σ' => r = none ∧ σ' = va_up σ a (fun j => if j < n then v else σ a j)) := by
  intro h hE
  obtain ⟨g, h0, hg⟩ := hE.arr ha
  refine ⟨none, _, _, jfill_ok L xs d a n v g h hn h0, hE.set ha ⟨rfl, rfl, fun j hj => ?_⟩, rfl, rfl⟩
  show (if j < n then v else g j) = (if j < n then v else σ a j)
  rw [if_pos hj, if_pos hj]
theorem kX_of {T : List jC} {L : Nat} {xs : Nat → Int32} {d mi pc : Nat} {lv : jL} {st : List Value} {σ σ0 : kS} {r0 : Option Value} (g : kX T L xs d mi pc lv st σ (fun r σ' => r = r0 ∧ σ' = σ0)) : kG T L xs d mi pc lv st σ r0 σ0 := by
  intro h hE
  obtain ⟨r, σ', h', g1, g2, rfl, rfl⟩ := g h hE
  exact ⟨h', g1, g2⟩
/-- a switch whose number is outside -/
theorem kX_tabO {T : List jC} {L : Nat} {xs : Nat → Int32} {d mi pc : Nat} {lv : jL} {rest : List Value} {σ : kS} {Q : Option Value → kS → Prop} {dflt lo hi : Int} {offs : Array Int} {len t : Nat} {x : Int32} (hi' : jm_ins mi pc = some (.tableswitch dflt lo hi offs, len)) (ho : x.toInt < lo ∨ hi < x.toInt) (ht : jt pc dflt = some t) (g : kX T L xs d mi t lv rest σ Q) : kX T L xs d mi pc lv (.int x :: rest) σ Q :=
  kX_one (by unfold kone; rw [hi']; simp [jlen, kplain, jend, jcall, jA, jgo, ho, ht]) g
theorem kp_out {w : Int32} (n : Nat) (h : ∀ k, k < n → w ≠ nI k) (hn : n < 2 ^ 31) : w.toInt < 0 ∨ (n : Int) - 1 < w.toInt := by
  rcases pk_ix w hn with h1 | h1 | ⟨j, h1, h2⟩
  · left
    have := Int32.lt_iff_toInt_lt.mp h1
    simpa using this
  · right
    have := Int32.le_iff_toInt_le.mp h1
    rw [nI_toInt hn] at this
    omega
  · exact absurd h2 (h j h1)
end
section
/-! tools: branches, updates, comparisons over numbers, loops by a measure, locals in any order -/
section KIF
variable {T : List jC} {L : Nat} {xs : Nat → Int32} {d mi pc : Nat} {lv : jL} {st : List Value} {σ : kS} {Q : Option Value → kS → Prop}
theorem kX_ifT {c : Bool} {p1 p2 : Nat} (h : c = true) (g : kX T L xs d mi p1 lv st σ Q) : kX T L xs d mi (if c = true then p1 else p2) lv st σ Q := by
  rw [if_pos h]
  exact g
theorem kX_ifF {c : Bool} {p1 p2 : Nat} (h : c = false) (g : kX T L xs d mi p2 lv st σ Q) : kX T L xs d mi (if c = true then p1 else p2) lv st σ Q := by
  rw [if_neg (by rw [h]; exact Bool.false_ne_true)]
  exact g
end KIF
theorem kup_up (σ : kS) (a : Nat) (f g : Nat → Int32) : va_up (va_up σ a f) a g = va_up σ a g := by
  funext k
  unfold va_up
  split
  · rfl
  · rfl
theorem kup_self (σ : kS) (a : Nat) : va_up σ a (σ a) = σ := by
  funext k
  unfold va_up
  split
  · next h => rw [h]
  · rfl
theorem kup_at (σ : kS) (a : Nat) (f : Nat → Int32) : va_up σ a f a = f := if_pos rfl
theorem kup_ne {σ : kS} {a b : Nat} {f : Nat → Int32} (h : b ≠ a) : va_up σ a f b = σ b := if_neg h
theorem kup_comm (σ : kS) {a b : Nat} (h : a ≠ b) (f g : Nat → Int32) : va_up (va_up σ a f) b g = va_up (va_up σ b g) a f := by
  funext k
  unfold va_up
  split
  · next e =>
    subst e
    rw [if_neg (Ne.symm h)]
  · rfl
theorem jinN {k n : Nat} (h : k < n) (hn : n ≤ 100000) : jin (nI k) n = true := decide_eq_true (nI_in h (by omega))
theorem jeq_rf (x : Int32) : jcmp .eq x x = true := decide_eq_true rfl
theorem qge {x y : Int32} (q : jcmp .ge x y = true) (a b : Nat) (hx : x = nI a := by first | rfl | decide) (hy : y = nI b := by first | rfl | decide) (ha : a < 2147483648 := by omega) (hb : b < 2147483648 := by omega) : b ≤ a := by
  subst hx hy
  exact (nI_leI hb ha).mp (of_decide_eq_true q)
theorem qgeF {x y : Int32} (q : jcmp .ge x y = false) (a b : Nat) (hx : x = nI a := by first | rfl | decide) (hy : y = nI b := by first | rfl | decide) (ha : a < 2147483648 := by omega) (hb : b < 2147483648 := by omega) : a < b := by
  subst hx hy
  exact Nat.not_le.mp (fun h => of_decide_eq_false q ((nI_leI hb ha).mpr h))
theorem qlt {x y : Int32} (q : jcmp .lt x y = true) (a b : Nat) (hx : x = nI a := by first | rfl | decide) (hy : y = nI b := by first | rfl | decide) (ha : a < 2147483648 := by omega) (hb : b < 2147483648 := by omega) : a < b := by
  subst hx hy
  exact (nI_ltI ha hb).mp (of_decide_eq_true q)
theorem qltF {x y : Int32} (q : jcmp .lt x y = false) (a b : Nat) (hx : x = nI a := by first | rfl | decide) (hy : y = nI b := by first | rfl | decide) (ha : a < 2147483648 := by omega) (hb : b < 2147483648 := by omega) : b ≤ a := by
  subst hx hy
  exact Nat.not_lt.mp (fun h => of_decide_eq_false q ((nI_ltI ha hb).mpr h))
theorem qgt {x y : Int32} (q : jcmp .gt x y = true) (a b : Nat) (hx : x = nI a := by first | rfl | decide) (hy : y = nI b := by first | rfl | decide) (ha : a < 2147483648 := by omega) (hb : b < 2147483648 := by omega) : b < a := by
  subst hx hy
  exact (nI_ltI hb ha).mp (of_decide_eq_true q)
theorem qgtF {x y : Int32} (q : jcmp .gt x y = false) (a b : Nat) (hx : x = nI a := by first | rfl | decide) (hy : y = nI b := by first | rfl | decide) (ha : a < 2147483648 := by omega) (hb : b < 2147483648 := by omega) : a ≤ b := by
  subst hx hy
  exact Nat.not_lt.mp (fun h => of_decide_eq_false q ((nI_ltI hb ha).mpr h))
theorem qle {x y : Int32} (q : jcmp .le x y = true) (a b : Nat) (hx : x = nI a := by first | rfl | decide) (hy : y = nI b := by first | rfl | decide) (ha : a < 2147483648 := by omega) (hb : b < 2147483648 := by omega) : a ≤ b := by
  subst hx hy
  exact (nI_leI ha hb).mp (of_decide_eq_true q)
theorem qleF {x y : Int32} (q : jcmp .le x y = false) (a b : Nat) (hx : x = nI a := by first | rfl | decide) (hy : y = nI b := by first | rfl | decide) (ha : a < 2147483648 := by omega) (hb : b < 2147483648 := by omega) : b < a := by
  subst hx hy
  exact Nat.not_le.mp (fun h => of_decide_eq_false q ((nI_leI ha hb).mpr h))
theorem qeq {x y : Int32} (q : jcmp .eq x y = true) : x = y := of_decide_eq_true q
theorem qeqF {x y : Int32} (q : jcmp .eq x y = false) : x ≠ y := of_decide_eq_false q
theorem qne {x y : Int32} (q : jcmp .ne x y = true) : x ≠ y := of_decide_eq_true q
theorem qneF {x y : Int32} (q : jcmp .ne x y = false) : x = y := Decidable.of_not_not (of_decide_eq_false q)
theorem nI_inj {a b : Nat} (h : nI a = nI b) (ha : a < 2147483648 := by omega) (hb : b < 2147483648 := by omega) : a = b := (nI_eq ha hb).mp h
theorem nI_ne {a b : Nat} (h : a ≠ b) (ha : a < 2147483648 := by omega) (hb : b < 2147483648 := by omega) : nI a ≠ nI b := fun e => h ((nI_eq ha hb).mp e)
theorem nI_m1 {a : Nat} (ha : a < 2147483648 := by omega) : nI a ≠ -1 := by
  intro e
  have h := nI_pos (n := a) ha
  rw [e] at h
  exact h (by decide)
theorem jend_b {mi : Nat} {x : Int32} (hr : jm_ret mi = some .boolean) (hx : x = 0 ∨ x = 1) : jend mi [.int x] .ireturn = some (some (.int x)) := by
  unfold jend
  rw [hr]
  have h : jfit .boolean (.int x) = true := decide_eq_true hx
  dsimp only
  rw [if_pos h]
section KN
variable {T : List jC} {L : Nat} {xs : Nat → Int32} {d mi pc : Nat} {lv : jL} {st : List Value} {σ : kS} {Q : Option Value → kS → Prop}
/-- array accesses at a number -/
theorem kX_ialdN {j : Int32} {a n : Nat} {g0 : Nat → Int32} {rest : List Value} (hi : jm_ins mi pc = some (.iaload, 1)) (ha : T[a]? = some (.inl (0, n, .inl g0))) (hn : n ≤ 100000) (k : Nat) (hj : j = nI k) (hk : k < n) (g : kX T L xs (d + 1) mi (pc + 1) lv (.int (σ a k) :: rest) σ Q) : kX T L xs (d + 1) mi pc lv (.int j :: .ref a :: rest) σ Q := by
  subst hj
  exact kX_iald hi ha (jinN hk hn) (by rw [nI_clamp (by omega)]; exact g)
theorem kX_baldN {j : Int32} {a n : Nat} {g0 : Nat → Int32} {rest : List Value} (hi : jm_ins mi pc = some (.baload, 1)) (ha : T[a]? = some (.inl (1, n, .inl g0))) (hn : n ≤ 100000) (k : Nat) (hj : j = nI k) (hk : k < n) (g : kX T L xs (d + 1) mi (pc + 1) lv (.int (σ a k) :: rest) σ Q) : kX T L xs (d + 1) mi pc lv (.int j :: .ref a :: rest) σ Q := by
  subst hj
  exact kX_bald hi ha (jinN hk hn) (by rw [nI_clamp (by omega)]; exact g)
theorem kX_iastN {x j : Int32} {a n : Nat} {g0 : Nat → Int32} {rest : List Value} (hi : jm_ins mi pc = some (.iastore, 1)) (ha : T[a]? = some (.inl (0, n, .inl g0))) (hn : n ≤ 100000) (k : Nat) (hj : j = nI k) (hk : k < n) (g : kX T L xs (d + 1) mi (pc + 1) lv rest (va_up σ a (upd (σ a) k x)) Q) : kX T L xs (d + 1) mi pc lv (.int x :: .int j :: .ref a :: rest) σ Q := by
  subst hj
  exact kX_iast hi ha (jinN hk hn) (by rw [nI_clamp (by omega)]; exact g)
theorem kX_bastN {x j : Int32} {a n : Nat} {g0 : Nat → Int32} {rest : List Value} (hi : jm_ins mi pc = some (.bastore, 1)) (ha : T[a]? = some (.inl (1, n, .inl g0))) (hn : n ≤ 100000) (k : Nat) (hj : j = nI k) (hk : k < n) (hx : x = 0 ∨ x = 1) (g : kX T L xs (d + 1) mi (pc + 1) lv rest (va_up σ a (upd (σ a) k x)) Q) : kX T L xs (d + 1) mi pc lv (.int x :: .int j :: .ref a :: rest) σ Q := by
  subst hj
  exact kX_bast hi ha (jinN hk hn) hx (by rw [nI_clamp (by omega)]; exact g)
theorem kX_aaldN {j : Int32} {a n t r : Nat} {g0 : Nat → Option Nat} {rest : List Value} (hi : jm_ins mi pc = some (.aaload, 1)) (ha : T[a]? = some (.inl (t, n, .inr (.inr (.inr (.inr g0)))))) (hn : n ≤ 100000) (h2 : 2 ≤ t) (ht : t < jm_nat) (k : Nat) (hj : j = nI k) (hk : k < n) (hr : g0 k = some r) (g : kX T L xs (d + 1) mi (pc + 1) lv (.ref r :: rest) σ Q) : kX T L xs (d + 1) mi pc lv (.int j :: .ref a :: rest) σ Q := by
  subst hj
  refine kX_aald hi ha h2 ht (jinN hk hn) ?_
  rw [nI_clamp (by omega), hr]
  exact g
theorem kX_ialdV {j v : Int32} {a n : Nat} {g0 : Nat → Int32} {rest : List Value} (hi : jm_ins mi pc = some (.iaload, 1)) (ha : T[a]? = some (.inl (0, n, .inl g0))) (hn : n ≤ 100000) (k : Nat) (hj : j = nI k) (hk : k < n) (hv : σ a k = v) (g : kX T L xs (d + 1) mi (pc + 1) lv (.int v :: rest) σ Q) : kX T L xs (d + 1) mi pc lv (.int j :: .ref a :: rest) σ Q :=
  kX_ialdN hi ha hn k hj hk (by rw [hv]; exact g)
theorem kX_baldV {j v : Int32} {a n : Nat} {g0 : Nat → Int32} {rest : List Value} (hi : jm_ins mi pc = some (.baload, 1)) (ha : T[a]? = some (.inl (1, n, .inl g0))) (hn : n ≤ 100000) (k : Nat) (hj : j = nI k) (hk : k < n) (hv : σ a k = v) (g : kX T L xs (d + 1) mi (pc + 1) lv (.int v :: rest) σ Q) : kX T L xs (d + 1) mi pc lv (.int j :: .ref a :: rest) σ Q :=
  kX_baldN hi ha hn k hj hk (by rw [hv]; exact g)
/-- the int on top, by another name -/
theorem kX_top {x y : Int32} {rest : List Value} (e : x = y) (g : kX T L xs d mi pc lv (.int y :: rest) σ Q) : kX T L xs d mi pc lv (.int x :: rest) σ Q := by
  rw [e]
  exact g
/-- fields of an object whose cell is a number that isn't printed -/
theorem kX_getN {a ci f idx : Nat} {ts : List Value} {v : Value} {rest : List Value} (hi : jm_ins mi pc = some (.getfield idx, 3)) (hf : jm_fld (jm_own mi) idx = some (ci, f)) (ha : T[a]? = some (.inr (ci, ts))) (hv : ts[f]? = some v) (g : kX T L xs (d + 1) mi (pc + 3) lv (kval (σ a) f v :: rest) σ Q) : kX T L xs (d + 1) mi pc lv (.ref a :: rest) σ Q :=
  kX_one (by unfold kone; rw [hi]; simp [jlen, kplain, jend, jcall, jA, kH, hf, ha, hv]) g
theorem kX_putN {a ci f idx : Nat} {ts : List Value} {x y : Int32} {rest : List Value} (hi : jm_ins mi pc = some (.putfield idx, 3)) (hf : jm_fld (jm_own mi) idx = some (ci, f)) (ha : T[a]? = some (.inr (ci, ts))) (hv : ts[f]? = some (.int y)) (hx : jfit (jm_ty ci f) (.int x) = true) (hfin : jm_fin ci f = false) (g : kX T L xs (d + 1) mi (pc + 3) lv rest (va_up σ a (upd (σ a) f x)) Q) : kX T L xs (d + 1) mi pc lv (.int x :: .ref a :: rest) σ Q :=
  kX_one (by unfold kone; rw [hi]; simp [jlen, kplain, jend, jcall, jA, kH, hf, ha, hv, hx, hfin]) g
/-- a loop: what holds at its head, and a number that goes down -/
theorem kX_while {α : Type} (lv : α → jL) (τ : α → kS) (Inv : α → Prop) (μ : α → Nat) (step : ∀ a, Inv a → (∀ b, Inv b → μ b < μ a → kX T L xs d mi pc (lv b) [] (τ b) Q) → kX T L xs d mi pc (lv a) [] (τ a) Q) (a : α) (h : Inv a) : kX T L xs d mi pc (lv a) [] (τ a) Q := by
  have key : ∀ (n : Nat) (a : α), μ a < n → Inv a → kX T L xs d mi pc (lv a) [] (τ a) Q := by
    intro n
    induction n with
    | zero => intro a h; omega
    | succ n ih => exact fun a h hI => step a hI (fun b hb hl => ih b (by omega) hb)
  exact key (μ a + 1) a (by omega) h
end KN
/-! the order of the locals does not matter -/
def nk : jL → Bool
  | [] => true
  | q :: r => !(r.any (fun p => p.1 == q.1)) && nk r
theorem nk_none {i : Nat} : ∀ {r : jL}, r.any (fun p => p.1 == i) = false → jl r i = none := by
  intro r h
  unfold jl
  rw [List.find?_eq_none.mpr (fun p hp => by
    have := List.any_eq_false.mp h p hp
    exact this)]
  rfl
theorem any_filter {r : jL} {i : Nat} (p : Nat × Value → Bool) (h : r.any (fun p => p.1 == i) = false) : (r.filter p).any (fun p => p.1 == i) = false := by
  rw [List.any_eq_false] at h ⊢
  exact fun x hx => h x (List.mem_filter.mp hx).1
theorem nk_filter (p : Nat × Value → Bool) : ∀ {r : jL}, nk r = true → nk (r.filter p) = true
  | [], _ => rfl
  | q :: r, h => by
    unfold nk at h
    rw [Bool.and_eq_true] at h
    rw [List.filter_cons]
    split
    · unfold nk
      rw [any_filter p (by simpa using h.1), nk_filter p h.2]
      rfl
    · exact nk_filter p h.2
theorem jl_cons (q : Nat × Value) (r : jL) (i : Nat) : jl (q :: r) i = if q.1 = i then some q.2 else jl r i := by
  unfold jl
  rw [List.find?_cons]
  by_cases h : q.1 = i
  · rw [if_pos h]
    simp [h]
  · rw [if_neg h]
    have : (q.1 == i) = false := by simpa using h
    rw [this]
theorem jl_filter (p : Nat × Value → Bool) : ∀ {r : jL}, nk r = true → ∀ i, jl (r.filter p) i = (jl r i).bind (fun v => if p (i, v) = true then some v else none)
  | [], _, _ => rfl
  | q :: r, h, i => by
    unfold nk at h
    rw [Bool.and_eq_true] at h
    have ih := jl_filter p h.2 i
    rw [List.filter_cons, jl_cons]
    by_cases e : q.1 = i
    · rw [if_pos e]
      have hn : r.any (fun p => p.1 == i) = false := by rw [← e]; simpa using h.1
      split
      · next hp =>
        rw [jl_cons, if_pos e]
        show some q.2 = if p (i, q.2) = true then some q.2 else none
        rw [← e]
        exact (if_pos hp).symm
      · next hp =>
        rw [nk_none (any_filter p hn)]
        show none = if p (i, q.2) = true then some q.2 else none
        rw [← e]
        exact (if_neg hp).symm
    · rw [if_neg e]
      split
      · rw [jl_cons, if_neg e]
        exact ih
      · exact ih
/-- a has what b has -/
def lvS (a b : jL) : Prop := nk a = true ∧ nk b = true ∧ ∀ i v, jl b i = some v → jl a i = some v
theorem lvS_js1 {a b : jL} (h : lvS a b) (i : Nat) (v : Value) : lvS (js1 a i v) (js1 b i v) := by
  obtain ⟨h1, h2, h3⟩ := h
  have hh : ∀ r : jL, ((r.filter (fun q => !(q.1 == i) && !(q.1 + 1 == i && q.2.category == 2))).any (fun p => p.1 == i)) = false := fun r => by
    rw [List.any_eq_false]
    intro x hx
    have := (List.mem_filter.mp hx).2
    simp at this
    simpa using this.1
  refine ⟨?_, ?_, fun k w => ?_⟩
  · unfold js1 nk
    rw [hh, nk_filter _ h1]
    rfl
  · unfold js1 nk
    rw [hh, nk_filter _ h2]
    rfl
  · unfold js1
    rw [jl_cons, jl_cons, jl_filter _ h1, jl_filter _ h2]
    split
    · exact id
    · intro q
      obtain ⟨u, q1, q2⟩ := Option.bind_eq_some_iff.mp q
      rw [h3 k u q1]
      exact q2
theorem lvS_js2 {a b : jL} (h : lvS a b) (i : Nat) (v : Value) : lvS (js2 a i v) (js2 b i v) := by
  obtain ⟨h1, h2, h3⟩ := h
  have hh : ∀ r : jL, ((r.filter (fun q => !(q.1 == i) && (!(q.1 == i + 1) && !(q.1 + 1 == i && q.2.category == 2)))).any (fun p => p.1 == i)) = false := fun r => by
    rw [List.any_eq_false]
    intro x hx
    have := (List.mem_filter.mp hx).2
    simp at this
    simpa using this.1
  refine ⟨?_, ?_, fun k w => ?_⟩
  · unfold js2 nk
    rw [hh, nk_filter _ h1]
    rfl
  · unfold js2 nk
    rw [hh, nk_filter _ h2]
    rfl
  · unfold js2
    rw [jl_cons, jl_cons, jl_filter _ h1, jl_filter _ h2]
    split
    · exact id
    · intro q
      obtain ⟨u, q1, q2⟩ := Option.bind_eq_some_iff.mp q
      rw [h3 k u q1]
      exact q2
theorem jA_lv {k mL pc len : Nat} {a b : jL} {st : List Value} {i : Instr} (h : lvS a b) {pc' : Nat} {b' : jL} {st' : List Value} (q : jA k mL pc len b st i = some (pc', b', st')) : ∃ a', jA k mL pc len a st i = some (pc', a', st') ∧ lvS a' b' := by
  have hld : ∀ i b0 v, jld b i b0 = some v → jld a i b0 = some v := fun i b0 v q => by
    unfold jld at q ⊢
    cases hb : jl b i with
    | none => rw [hb] at q; cases q
    | some w => rw [hb] at q; rw [h.2.2 i w hb]; exact q
  have hldl : ∀ i v, jldl b i = some v → jldl a i = some v := fun i v q => by
    unfold jldl at q ⊢
    cases hb : jl b i with
    | none => rw [hb] at q; cases q
    | some w => rw [hb] at q; rw [h.2.2 i w hb]; exact q
  have hpush : ∀ (l : Nat) (v w : Option Value), (∀ z, v = some z → w = some z) → jpush pc l b st v = some (pc', b', st') → ∃ a', jpush pc l a st w = some (pc', a', st') ∧ lvS a' b' := fun l v w hvw q => by
    cases v with
    | none => cases q
    | some v => rw [hvw v rfl]; cases q; exact ⟨a, rfl, h⟩
  have hst1 : ∀ (l j : Nat) (b0 : Bool), jst1 mL pc l b j b0 st = some (pc', b', st') → ∃ a', jst1 mL pc l a j b0 st = some (pc', a', st') ∧ lvS a' b' := fun l j b0 q => by
    unfold jst1 at q ⊢
    split at q
    · split at q
      · next hc => cases q; exact ⟨_, if_pos hc, lvS_js1 h _ _⟩
      · cases q
    · split at q
      · next hc => cases q; exact ⟨_, if_pos hc, lvS_js1 h _ _⟩
      · cases q
    · split at q
      · next hc => cases q; exact ⟨_, if_pos hc, lvS_js1 h _ _⟩
      · cases q
    · cases q
  have hst2 : ∀ (l j : Nat), jst2 mL pc l b j st = some (pc', b', st') → ∃ a', jst2 mL pc l a j st = some (pc', a', st') ∧ lvS a' b' := fun l j q => by
    unfold jst2 at q ⊢
    split at q
    · split at q
      · next hc => cases q; exact ⟨_, if_pos hc, lvS_js2 h _ _⟩
      · cases q
    · cases q
  have hgo : ∀ (s : List Value) (o : Int), jgo pc b s o = some (pc', b', st') → ∃ a', jgo pc a s o = some (pc', a', st') ∧ lvS a' b' := fun s o q => by
    unfold jgo at q ⊢
    cases hj : jt pc o with
    | none => rw [hj] at q; cases q
    | some t => rw [hj] at q; cases q; exact ⟨a, rfl, h⟩
  have hbr : ∀ (s : List Value) (o : Int) (c : Bool), jbr pc b s o c = some (pc', b', st') → ∃ a', jbr pc a s o c = some (pc', a', st') ∧ lvS a' b' := fun s o c q => by
    unfold jbr at q ⊢
    cases hj : jt pc o with
    | none => rw [hj] at q; cases q
    | some t => rw [hj] at q; cases q; exact ⟨a, rfl, h⟩
  have hbin : ∀ (f : Int32 → Int32 → Int32), jbin pc b f st = some (pc', b', st') → ∃ a', jbin pc a f st = some (pc', a', st') ∧ lvS a' b' := fun f q => by
    unfold jbin at q ⊢
    split at q
    · cases q; exact ⟨a, rfl, h⟩
    · cases q
  have hbil : ∀ (f : Int64 → Int64 → Int64), jbil pc b f st = some (pc', b', st') → ∃ a', jbil pc a f st = some (pc', a', st') ∧ lvS a' b' := fun f q => by
    unfold jbil at q ⊢
    split at q
    · cases q; exact ⟨a, rfl, h⟩
    · cases q
  cases i with
  | iinc j n =>
    simp only [jA] at q ⊢
    cases hb : jld b j true with
    | none => rw [hb] at q; cases q
    | some w =>
      rw [hb] at q
      rw [hld _ _ _ hb]
      cases w with
      | int z =>
        dsimp only at q ⊢
        split at q
        · next hc => cases q; exact ⟨_, if_pos hc, lvS_js1 h _ _⟩
        · cases q
      | _ => cases q
  | idiv =>
    simp only [jA] at q ⊢
    split at q
    · split at q
      · cases q
      · next hc => cases q; exact ⟨a, if_neg hc, h⟩
    · cases q
  | irem =>
    simp only [jA] at q ⊢
    split at q
    · split at q
      · cases q
      · next hc => cases q; exact ⟨a, if_neg hc, h⟩
    · cases q
  | ineg => simp only [jA] at q ⊢; split at q; (· cases q; exact ⟨a, rfl, h⟩); (· cases q)
  | i2l => simp only [jA] at q ⊢; split at q; (· cases q; exact ⟨a, rfl, h⟩); (· cases q)
  | l2i => simp only [jA] at q ⊢; split at q; (· cases q; exact ⟨a, rfl, h⟩); (· cases q)
  | lcmp => simp only [jA] at q ⊢; split at q; (· cases q; exact ⟨a, rfl, h⟩); (· cases q)
  | dup =>
    simp only [jA] at q ⊢
    split at q
    · split at q
      · next hc => cases q; exact ⟨a, if_pos hc, h⟩
      · cases q
    · cases q
  | pop =>
    simp only [jA] at q ⊢
    split at q
    · split at q
      · next hc => cases q; exact ⟨a, if_pos hc, h⟩
      · cases q
    · cases q
  | dup2 =>
    simp only [jA] at q ⊢
    split at q
    · split at q
      · next hc => cases q; exact ⟨a, if_pos hc, h⟩
      · cases q
    · cases q
  | ifCond c o => simp only [jA] at q ⊢; split at q; (· exact hbr _ _ _ q); (· cases q)
  | if_icmp c o => simp only [jA] at q ⊢; split at q; (· exact hbr _ _ _ q); (· cases q)
  | ifnull o =>
    simp only [jA] at q ⊢
    split at q
    · exact hgo _ _ q
    · cases q; exact ⟨a, rfl, h⟩
    · cases q
  | ifnonnull o =>
    simp only [jA] at q ⊢
    split at q
    · exact hgo _ _ q
    · cases q; exact ⟨a, rfl, h⟩
    · cases q
  | tableswitch dflt lo hi offs =>
    simp only [jA] at q ⊢
    split at q
    · split at q
      · next hc =>
        rw [if_pos hc]
        exact hgo _ _ q
      · next hc =>
        rw [if_neg hc]
        split at q
        · exact hgo _ _ q
        · cases q
    · cases q
  | iload j => exact hpush _ _ _ (hld j true) q
  | iload_n j => exact hpush _ _ _ (hld j true) q
  | aload j => exact hpush _ _ _ (hld j false) q
  | aload_n j => exact hpush _ _ _ (hld j false) q
  | lload j => exact hpush _ _ _ (hldl j) q
  | lload_n j => exact hpush _ _ _ (hldl j) q
  | iconst j => exact hpush _ _ _ (fun _ e => e) q
  | bipush j => exact hpush _ _ _ (fun _ e => e) q
  | sipush j => exact hpush _ _ _ (fun _ e => e) q
  | lconst j => exact hpush _ _ _ (fun _ e => e) q
  | ldc2_w j => exact hpush _ _ _ (fun _ e => e) q
  | aconst_null => exact hpush _ _ _ (fun _ e => e) q
  | istore j => exact hst1 _ _ _ q
  | istore_n j => exact hst1 _ _ _ q
  | astore j => exact hst1 _ _ _ q
  | astore_n j => exact hst1 _ _ _ q
  | lstore j => exact hst2 _ _ q
  | lstore_n j => exact hst2 _ _ q
  | goto o => exact hgo _ _ q
  | _ => first | exact hbin _ q | exact hbil _ q | cases q
/-- an instruction of the heap is none of the others -/
theorem jA_heap {L : Nat} {xs : Nat → Int32} {il ini : Bool} {k k' mL pc pc2 len : Nat} {st st2 : List Value} {h : List jC} {i : Instr} (a b : jL) {r : Nat × jL × List Value × List jC} (q : jH L xs il ini k' pc2 b st2 h i = some r) : jA k mL pc len a st i = none := by
  cases i <;> first | rfl | cases q
theorem jH_lv {L : Nat} {xs : Nat → Int32} {il ini : Bool} {k pc : Nat} {st : List Value} {h : List jC} {i : Instr} (a b : jL) : jH L xs il ini k pc b st h i = (jH L xs il ini k pc a st h i).map (fun r => (r.1, b, r.2.2)) := by
  cases i with
  | getfield idx =>
    simp only [jH]
    split
    · split
      · split
        · rw [Option.map_map]
          rfl
        · rfl
      · rfl
    · rfl
  | putfield idx =>
    simp only [jH, jset]
    split
    · split
      · split <;> rfl
      · rfl
    · rfl
  | iaload =>
    simp only [jH]
    split
    · split
      · split <;> rfl
      · rfl
    · split <;> rfl
    · rfl
  | baload =>
    simp only [jH]
    split
    · split
      · split <;> rfl
      · rfl
    · rfl
  | aaload =>
    simp only [jH]
    split
    · split
      · split <;> rfl
      · rfl
    · rfl
  | arraylength =>
    simp only [jH]
    split
    · split
      · split <;> rfl
      · rfl
    · split <;> rfl
    · rfl
  | iastore =>
    simp only [jH, jset]
    split
    · split
      · split <;> rfl
      · rfl
    · rfl
  | bastore =>
    simp only [jH, jset]
    split
    · split
      · split <;> rfl
      · rfl
    · rfl
  | aastore =>
    simp only [jH, jset]
    split
    · split
      · split <;> rfl
      · rfl
    · rfl
  | new idx =>
    simp only [jH]
    split <;> rfl
  | newarray ty =>
    simp only [jH]
    split
    · split
      · split <;> rfl
      · rfl
    · rfl
  | anewarray idx =>
    simp only [jH]
    split
    · split <;> rfl
    · rfl
  | multianewarray idx n =>
    by_cases hn : n = 2
    · subst hn
      simp only [jH]
      split
      · split <;> rfl
      · rfl
    · have e : ∀ c : jL, jH L xs il ini k pc c st h (.multianewarray idx n) = none := fun c => by
        unfold jH
        split <;> first
          | rfl
          | (next hh => cases hh)
          | (next hh => cases hh; exact absurd rfl hn)
          | simp_all
      rw [e a, e b]
      rfl
  | invokestatic idx =>
    simp only [jH, jset]
    split
    · split
      · split <;> rfl
      · rfl
    · split
      · split
        · split <;> rfl
        · rfl
      · rfl
  | invokespecial idx =>
    simp only [jH]
    split
    · split <;> rfl
    · rfl
  | _ => rfl
theorem jrun_lv (L : Nat) (xs : Nat → Int32) : ∀ (n d mi pc : Nat) (a b : jL) (st : List Value) (h : List jC) (r : Option Value × List jC), lvS a b → jrun L xs n d mi pc b st h = some r → jrun L xs n d mi pc a st h = some r := by
  intro n
  induction n with
  | zero => intro _ _ _ _ _ _ _ _ _ q; cases q
  | succ n ih =>
    intro d mi pc a b st h r hE q
    rw [jrun] at q ⊢
    split at q
    · cases q
    · next i len hi =>
      split at q
      · next hl =>
        rw [if_pos hl]
        split at q
        · exact q
        · next he =>
          split at q
          · next y as rest d' hc =>
            split at q
            · next hy =>
              rw [if_pos hy]
              split at q
              · next r1 h1 hm => exact ih _ _ _ _ _ _ _ _ hE q
              · cases q
            · cases q
          · cases q
          · next d9 x9 d8 hc =>
            split at q
            · next pc' b' st' h' hs =>
              unfold jstep at hs
              cases hA : jA (jm_own mi) (jm_maxL mi) pc len b st i with
              | some z =>
                obtain ⟨p1, b1, s1⟩ := z
                rw [hA] at hs
                cases hs
                obtain ⟨a1, q1, q2⟩ := jA_lv hE hA
                have e : jstep L xs d9 mi pc a st h i len = some (pc', a1, st', h) := by unfold jstep; rw [q1]
                rw [e]
                exact ih _ _ _ _ _ _ _ _ q2 q
              | none =>
                rw [hA] at hs
                dsimp only at hs
                split at hs
                · cases hs
                · next hd =>
                  have e1 := jH_lv (L := L) (xs := xs) (il := decide (mi = 0)) (ini := jm_ini mi) (k := jm_own mi) (pc := pc) (st := st) (h := h) (i := i) b a
                  rw [hs] at e1
                  have e2 := jH_lv (L := L) (xs := xs) (il := decide (mi = 0)) (ini := jm_ini mi) (k := jm_own mi) (pc := pc) (st := st) (h := h) (i := i) b b
                  rw [hs] at e2
                  cases e2
                  have e : jstep L xs d9 mi pc a st h i len = some (pc', a, st', h') := by
                    unfold jstep
                    rw [jA_heap a b hs]
                    dsimp only
                    rw [if_neg hd, e1]
                    rfl
                  rw [e]
                  exact ih _ _ _ _ _ _ _ _ hE q
            · cases q
      · cases q
/-- fewer locals, in any order -/
theorem kX_lv {T : List jC} {L : Nat} {xs : Nat → Int32} {d mi pc : Nat} {a : jL} {st : List Value} {σ : kS} {Q : Option Value → kS → Prop} (b : jL) (ka : nk a = true) (kb : nk b = true) (e : b.map (fun q => jl a q.1) = b.map (fun q => some q.2)) (g : kX T L xs d mi pc b st σ Q) : kX T L xs d mi pc a st σ Q := by
  have hE : lvS a b := ⟨ka, kb, fun i v hv => by
    unfold jl at hv
    obtain ⟨p, hp, rfl⟩ := Option.map_eq_some_iff.mp hv
    have hm := List.mem_of_find?_eq_some hp
    have hi := List.find?_some hp
    simp only [beq_iff_eq] at hi
    have := List.map_inj_left.mp e p hm
    rw [← hi]
    exact this⟩
  intro h hk
  obtain ⟨r, σ', h', ⟨n, hn⟩, g2⟩ := g h hk
  exact ⟨r, σ', h', ⟨n, jrun_lv L xs n d mi pc a b st h _ hE hn⟩, g2⟩
theorem kX_st {T : List jC} {L : Nat} {xs : Nat → Int32} {d mi pc : Nat} {lv : jL} {st : List Value} {σ : kS} {Q : Option Value → kS → Prop} (σ' : kS) (e : σ = σ') (g : kX T L xs d mi pc lv st σ' Q) : kX T L xs d mi pc lv st σ Q := by
  rw [e]
  exact g
theorem kX_to {T : List jC} {L : Nat} {xs : Nat → Int32} {d mi pc : Nat} {a : jL} {st : List Value} {σ : kS} {Q : Option Value → kS → Prop} (b : jL) (σ' : kS) (ka : nk a = true) (kb : nk b = true) (e : b.map (fun q => jl a q.1) = b.map (fun q => some q.2)) (es : σ = σ') (g : kX T L xs d mi pc b st σ' Q) : kX T L xs d mi pc a st σ Q := by
  rw [es]
  exact kX_lv b ka kb e g
end
section
/-! TERMS as they lie in three rows (kind, first, second); what is told of one by going down -/
def fN (x : Int32) : Nat := x.toNatClampNeg
theorem fN_nI {k : Nat} (h : k < 2147483648) : fN (nI k) = k := nI_clamp h
/-- t is a TERM whose parts are of V; AG: what may be an AGENT -/
def tOk (V AG : Nat → Prop) (K F S : Nat → Int32) (t : Nat) : Prop :=
  (∃ k, k ≤ 3 ∧ K t = nI k ∧ F t = -1 ∧ S t = -1) ∨
  (∃ k x y, (k = 4 ∨ k = 5 ∨ ((k = 6 ∨ k = 8) ∧ AG y)) ∧ K t = nI k ∧ F t = nI x ∧ S t = nI y ∧ x < t ∧ y < t ∧ V x ∧ V y) ∨
  (∃ k x, (k = 9 ∨ (k = 7 ∧ AG x)) ∧ K t = nI k ∧ F t = nI x ∧ S t = -1 ∧ x < t ∧ V x)
/-- a fold over what a TERM is of -/
def tF {α : Type} (lf : Nat → α) (nd : Nat → α → Option α → α) (K F S : Nat → Int32) : Nat → Nat → α
  | 0, t => lf t
  | f + 1, t => if fN (K t) ≤ 3 then lf t else nd (fN (K t)) (tF lf nd K F S f (fN (F t))) (if S t = -1 then none else some (tF lf nd K F S f (fN (S t))))
theorem tF_fuel {α : Type} {lf : Nat → α} {nd : Nat → α → Option α → α} {V AG : Nat → Prop} {K F S : Nat → Int32} (hV : ∀ t, V t → t < 100000 ∧ tOk V AG K F S t) : ∀ (f g t : Nat), V t → t < f → t < g → tF lf nd K F S f t = tF lf nd K F S g t := by
  intro f
  induction f with
  | zero => intro g t _ h; omega
  | succ f ih =>
    intro g t ht h1 h2
    obtain ⟨g, rfl⟩ : ∃ g', g = g' + 1 := ⟨g - 1, by omega⟩
    unfold tF
    rcases (hV t ht).2 with ⟨k, h3, hk, -, -⟩ | ⟨k, x, y, h3, hk, hx, hy, h4, h5, h6, h7⟩ | ⟨k, x, h3, hk, hx, hy, h4, h6⟩
    · rw [hk, fN_nI (by omega), if_pos h3, if_pos h3]
    · have hk9 : k ≤ 8 := by omega
      have := (hV t ht).1
      have hk3 : ¬ k ≤ 3 := by omega
      have hy1 : nI y ≠ -1 := nI_m1 (by omega)
      rw [hk, fN_nI (show k < 2147483648 by omega), if_neg hk3, if_neg hk3, hx, hy, if_neg hy1, if_neg hy1, fN_nI (show x < 2147483648 by omega), fN_nI (show y < 2147483648 by omega), ih g x h6 (by omega) (by omega), ih g y h7 (by omega) (by omega)]
    · have hk9 : k ≤ 9 := by omega
      have := (hV t ht).1
      have hk3 : ¬ k ≤ 3 := by omega
      rw [hk, fN_nI (show k < 2147483648 by omega), if_neg hk3, if_neg hk3, hx, hy, if_pos rfl, if_pos rfl, fN_nI (show x < 2147483648 by omega), ih g x h6 (by omega) (by omega)]
/-- of the TERM t -/
def tA {α : Type} (lf : Nat → α) (nd : Nat → α → Option α → α) (K F S : Nat → Int32) (t : Nat) : α := tF lf nd K F S (t + 1) t
section TA
variable {α : Type} {lf : Nat → α} {nd : Nat → α → Option α → α} {V AG : Nat → Prop} {K F S : Nat → Int32}
theorem tA_0 {t k : Nat} (hk : K t = nI k) (h3 : k ≤ 3) : tA lf nd K F S t = lf t := by
  unfold tA tF
  rw [hk, fN_nI (by omega), if_pos h3]
theorem tA_2 (hV : ∀ t, V t → t < 100000 ∧ tOk V AG K F S t) {t k x y : Nat} (hk : K t = nI k) (hx : F t = nI x) (hy : S t = nI y) (h3 : 3 < k) (hk9 : k ≤ 9) (h4 : x < t) (h5 : y < t) (h6 : V x) (h7 : V y) : tA lf nd K F S t = nd k (tA lf nd K F S x) (some (tA lf nd K F S y)) := by
  have h8 := (hV x h6).1
  have h9 := (hV y h7).1
  unfold tA
  have hk3 : ¬ k ≤ 3 := by omega
  have hy1 : nI y ≠ -1 := nI_m1 (by omega)
  rw [tF, hk, fN_nI (show k < 2147483648 by omega), if_neg hk3, hx, hy, if_neg hy1, fN_nI (show x < 2147483648 by omega), fN_nI (show y < 2147483648 by omega), tF_fuel hV t (x + 1) x h6 (by omega) (by omega), tF_fuel hV t (y + 1) y h7 (by omega) (by omega)]
theorem tA_1 (hV : ∀ t, V t → t < 100000 ∧ tOk V AG K F S t) {t k x : Nat} (hk : K t = nI k) (hx : F t = nI x) (hy : S t = -1) (h3 : 3 < k) (hk9 : k ≤ 9) (h4 : x < t) (h6 : V x) : tA lf nd K F S t = nd k (tA lf nd K F S x) none := by
  have h8 := (hV x h6).1
  unfold tA
  have hk3 : ¬ k ≤ 3 := by omega
  rw [tF, hk, fN_nI (show k < 2147483648 by omega), if_neg hk3, hx, hy, if_pos rfl, fN_nI (show x < 2147483648 by omega), tF_fuel hV t (x + 1) x h6 (by omega) (by omega)]
/-- what is told of t hangs on what stands at V alone -/
theorem tA_congr {K' F' S' : Nat → Int32} {lf' : Nat → α} (hV : ∀ t, V t → t < 100000 ∧ tOk V AG K F S t) (hK : ∀ t, V t → K' t = K t ∧ F' t = F t ∧ S' t = S t ∧ lf' t = lf t) : ∀ t, V t → tA lf' nd K' F' S' t = tA lf nd K F S t := by
  intro t
  induction t using Nat.strongRecOn with
  | _ t ih =>
    intro ht
    obtain ⟨e1, e2, e3, e4⟩ := hK t ht
    have hV' : ∀ t, V t → t < 100000 ∧ tOk V AG K' F' S' t := fun t ht => by
      obtain ⟨e1, e2, e3, -⟩ := hK t ht
      refine ⟨(hV t ht).1, ?_⟩
      have := (hV t ht).2
      unfold tOk at this ⊢
      rw [e1, e2, e3]
      exact this
    rcases (hV t ht).2 with ⟨k, h3, hk, -, -⟩ | ⟨k, x, y, h3, hk, hx, hy, h4, h5, h6, h7⟩ | ⟨k, x, h3, hk, hx, hy, h4, h6⟩
    · rw [tA_0 (e1.trans hk) h3, tA_0 hk h3, e4]
    · rw [tA_2 hV' (e1.trans hk) (e2.trans hx) (e3.trans hy) (by omega) (by omega) h4 h5 h6 h7, tA_2 hV hk hx hy (by omega) (by omega) h4 h5 h6 h7, ih x h4 h6, ih y h5 h7]
    · rw [tA_1 hV' (e1.trans hk) (e2.trans hx) (e3.trans hy) (by omega) (by omega) h4 h6, tA_1 hV hk hx hy (by omega) (by omega) h4 h6, ih x h4 h6]
end TA
/-- SIZE -/
def tsz (K F S : Nat → Int32) (t : Nat) : Nat := tA (fun _ => 1) (fun _ a b => 1 + a + b.getD 0) K F S t
/-- GROUND -/
def tgd (K F S : Nat → Int32) (t : Nat) : Bool := tA (fun t => decide (K t ≠ nI 3)) (fun _ a b => a && b.getD true) K F S t
def bI (b : Bool) : Int32 := if b then 1 else 0
theorem bI_01 (b : Bool) : bI b = 0 ∨ bI b = 1 := by cases b <;> decide
theorem bI_ne (b : Bool) : bI b ≠ 0 ↔ b = true := by cases b <;> decide
theorem bI_eq (b : Bool) : bI b = 0 ↔ b = false := by cases b <;> decide
end
section
/-! tops of chains, chains -/
/-- x is the number of the largest below bd of which P holds, or -1 -/
def isTop (P : Nat → Prop) (bd : Nat) (x : Int32) : Prop := (x = -1 ∧ ∀ t, t < bd → ¬ P t) ∨ ∃ t, t < bd ∧ x = nI t ∧ P t ∧ ∀ t', t < t' → t' < bd → ¬ P t'
def hcP (M B : Nat) (V : Nat → Prop) (pl : Nat → Nat) (hd nx : Nat → Int32) : Prop := (∀ h, h < M → isTop (fun t => V t ∧ pl t = h) B (hd h)) ∧ ∀ t, V t → isTop (fun t' => V t' ∧ pl t' = pl t) t (nx t)
theorem isTop_congr {P P' : Nat → Prop} {bd : Nat} {x : Int32} (h : ∀ t, t < bd → (P t ↔ P' t)) (g : isTop P bd x) : isTop P' bd x := by
  rcases g with ⟨g1, g2⟩ | ⟨t, g1, g2, g3, g4⟩
  · exact Or.inl ⟨g1, fun t ht hp => g2 t ht ((h t ht).mpr hp)⟩
  · exact Or.inr ⟨t, g1, g2, (h t g1).mp g3, fun t' h1 h2 hp => g4 t' h1 h2 ((h t' h2).mpr hp)⟩
theorem isTop_wide {P : Nat → Prop} {bd bd' : Nat} {x : Int32} (h : bd ≤ bd') (hn : ∀ t, bd ≤ t → t < bd' → ¬ P t) (g : isTop P bd x) : isTop P bd' x := by
  rcases g with ⟨g1, g2⟩ | ⟨t, g1, g2, g3, g4⟩
  · exact Or.inl ⟨g1, fun t ht => by
      by_cases hb : t < bd
      · exact g2 t hb
      · exact hn t (by omega) ht⟩
  · exact Or.inr ⟨t, by omega, g2, g3, fun t' h1 h2 => by
      by_cases hb : t' < bd
      · exact g4 t' h1 hb
      · exact hn t' (by omega) h2⟩
theorem hcP_congr {M B : Nat} {V V' : Nat → Prop} {pl pl' : Nat → Nat} {hd nx : Nat → Int32} (hV : ∀ t, V t ↔ V' t) (hp : ∀ t, V t → pl t = pl' t) (g : hcP M B V pl hd nx) : hcP M B V' pl' hd nx := by
  have key : ∀ h t, (V t ∧ pl t = h) ↔ (V' t ∧ pl' t = h) := fun h t => ⟨fun q => ⟨(hV t).mp q.1, by rw [← hp t q.1]; exact q.2⟩, fun q => ⟨(hV t).mpr q.1, by rw [hp t ((hV t).mpr q.1)]; exact q.2⟩⟩
  refine ⟨fun h hh => isTop_congr (fun t _ => key h t) (g.1 h hh), fun t ht => ?_⟩
  have := g.2 t ((hV t).mpr ht)
  rw [hp t ((hV t).mpr ht)] at this
  exact isTop_congr (fun t' _ => key _ t') this
theorem hcP_pop {M B : Nat} {V : Nat → Prop} {pl : Nat → Nat} {hd nx : Nat → Int32} {t : Nat} (g : hcP M B V pl hd nx) (ht : V t) (hm : ∀ t', V t' → t' ≤ t) (hb : t < B) : hcP M B (fun t' => V t' ∧ t' ≠ t) pl (upd hd (pl t) (nx t)) nx := by
  refine ⟨fun h hh => ?_, fun t1 h1 => ?_⟩
  · by_cases e : h = pl t
    · subst e
      rw [pk_us]
      refine isTop_wide (Nat.le_of_lt hb) (fun t2 h2 h3 q => ?_) (isTop_congr (fun t2 h2 => ⟨fun q => ⟨⟨q.1, by omega⟩, q.2⟩, fun q => ⟨q.1.1, q.2⟩⟩) (g.2 t ht))
      have := hm t2 q.1.1
      exact q.1.2 (by omega)
    · rw [pk_un e]
      exact isTop_congr (fun t2 h2 => ⟨fun q => ⟨⟨q.1, fun h => e (by rw [← q.2, h])⟩, q.2⟩, fun q => ⟨q.1.1, q.2⟩⟩) (g.1 h hh)
  · refine isTop_congr (fun t2 h2 => ⟨fun q => ⟨⟨q.1, ?_⟩, q.2⟩, fun q => ⟨q.1.1, q.2⟩⟩) (g.2 t1 h1.1)
    have := hm t1 h1.1
    omega
theorem hcP_push {M B : Nat} {V : Nat → Prop} {pl : Nat → Nat} {hd nx : Nat → Int32} {t : Nat} (g : hcP M B V pl hd nx) (hm : ∀ t', V t' → t' < t) (hb : t < B) (hp : pl t < M) : hcP M B (fun t' => V t' ∨ t' = t) pl (upd hd (pl t) (nI t)) (upd nx t (hd (pl t))) := by
  refine ⟨fun h hh => ?_, fun t1 h1 => ?_⟩
  · by_cases e : h = pl t
    · subst e
      rw [pk_us]
      refine Or.inr ⟨t, hb, rfl, ⟨Or.inr rfl, rfl⟩, fun t' h1 h2 q => ?_⟩
      rcases q.1 with q | q
      · have := hm t' q
        omega
      · omega
    · rw [pk_un e]
      exact isTop_congr (fun t2 h2 => ⟨fun q => ⟨Or.inl q.1, q.2⟩, fun q => ⟨q.1.elim id (fun h => absurd (by rw [← q.2, h]) e), q.2⟩⟩) (g.1 h hh)
  · rcases h1 with h1 | rfl
    · have hlt := hm t1 h1
      rw [pk_un (by omega)]
      exact isTop_congr (fun t2 h2 => ⟨fun q => ⟨Or.inl q.1, q.2⟩, fun q => ⟨q.1.elim id (fun h => by omega), q.2⟩⟩) (g.2 t1 h1)
    · rw [pk_us]
      have := g.1 (pl t1) hp
      rcases this with ⟨q1, q2⟩ | ⟨t2, q1, q2, q3, q4⟩
      · exact Or.inl ⟨q1, fun t2 h2 q => q2 t2 (by omega) ⟨q.1.elim id (fun h => by omega), q.2⟩⟩
      · exact Or.inr ⟨t2, hm t2 q3.1, q2, ⟨Or.inl q3.1, q3.2⟩, fun t3 h3 h4 q => q4 t3 h3 (by omega) ⟨q.1.elim id (fun h => by omega), q.2⟩⟩
end
section
/-! the reference: places, find -/
def mIs (σ : kS) (t : Nat) (w a b : Int32) : Prop := σ 233 t = w ∧ σ 234 t = a ∧ σ 235 t = b
def mPl (w a b : Int32) : Int32 := (w * (Int16.ofInt 7919).toInt32 + a * (Int16.ofInt 263).toInt32 + b * (Int8.ofInt 31).toInt32) &&& (Int16.ofInt 1023).toInt32
theorem mPl_ok (w a b : Int32) : ∃ h, h < 1024 ∧ mPl w a b = nI h := pk_andE _ (m := (Int16.ofInt 1023).toInt32) 10 (by decide)
def mpl (w a b : Int32) : Nat := (mPl w a b).toNatClampNeg
theorem mpl_lt (w a b : Int32) : mpl w a b < 1024 := by
  obtain ⟨h, h1, h2⟩ := mPl_ok w a b
  unfold mpl
  rw [h2, nI_clamp (by omega)]
  exact h1
theorem mpl_eq (w a b : Int32) : mPl w a b = nI (mpl w a b) := by
  obtain ⟨h, h1, h2⟩ := mPl_ok w a b
  unfold mpl
  rw [h2, nI_clamp (by omega)]
set_option maxRecDepth 100000 in
set_option maxHeartbeats 4000000 in
theorem mr_place (L : Nat) (xs : Nat → Int32) (d : Nat) (σ : kS) (w a b : Int32) : kXM kT L xs d 147 [.int w, .int a, .int b] σ (fun r σ' => r = some (.int (nI (mpl w a b))) ∧ σ = σ') := by
  unfold kXM
  repeat refine kX_one rfl ?_
  refine kX_ret (i := .ireturn) (len := 1) rfl (Or.inr rfl) rfl (⟨by rw [← mpl_eq]; rfl, rfl⟩)
def mFnd (σ : kS) (P : Nat → Prop) (w a b : Int32) (r : Option Value) : Prop := (r = some (.int (-1)) ∧ ∀ t, P t → ¬ mIs σ t w a b) ∨ ∃ t, t < 1000 ∧ r = some (.int (nI t)) ∧ P t ∧ mIs σ t w a b
/-- the place of a TERM in the reference's table -/
def mpt (σ : kS) (t : Nat) : Nat := mpl (σ 233 t) (σ 234 t) (σ 235 t)
set_option maxRecDepth 100000 in
set_option maxHeartbeats 4000000 in
theorem mr_find_loop (L : Nat) (xs : Nat → Int32) (d : Nat) (σ : kS) (w a b : Int32) (P : Nat → Prop) (hP : ∀ t, P t → t < 1000 ∧ isTop P t (σ 243 t)) : ∀ q : Nat × Int32, (q.1 ≤ 1000 ∧ isTop P q.1 q.2 ∧ ∀ t, P t → q.1 ≤ t → ¬ mIs σ t w a b) → kX kT L xs (d + 1) 148 13 [(4, .int q.2), (0, .ref 232), (1, .int w), (2, .int a), (3, .int b)] [] σ (fun r σ' => σ = σ' ∧ mFnd σ P w a b r) := by
  refine kX_while (fun q : Nat × Int32 => [(4, .int q.2), (0, .ref 232), (1, .int w), (2, .int a), (3, .int b)]) (fun _ => σ) _ (fun q => q.1) ?_
  rintro ⟨bd, x⟩ ⟨hb, hx, hm⟩ ih
  dsimp only at hb hx hm ih ⊢
  rcases hx with ⟨rfl, h1⟩ | ⟨t, h1, rfl, hPt, h2⟩
  · repeat refine kX_one rfl ?_
    refine kX_ret (i := .ireturn) (len := 1) rfl (Or.inr rfl) rfl (⟨rfl, Or.inl ⟨rfl, fun t ht => ?_⟩⟩)
    by_cases h : t < bd
    · exact absurd ht (h1 t h)
    · exact hm t ht (by omega)
  · obtain ⟨ht, hn⟩ := hP t hPt
    have hno : ¬ mIs σ t w a b → kX kT L xs (d + 1) 148 51 [(4, .int (nI t)), (0, .ref 232), (1, .int w), (2, .int a), (3, .int b)] [] σ (fun r σ' => σ = σ' ∧ mFnd σ P w a b r) := by
      intro hne
      repeat refine kX_one rfl ?_
      refine kX_ialdN rfl rfl (by decide) (t) (by first | rfl | decide) (ht) ?_
      iterate 2 (refine kX_one rfl ?_)
      refine ih (t, _) ⟨by omega, hn, fun t2 g1 g2 => ?_⟩ h1
      rcases Nat.lt_trichotomy t2 t with g | g | g
      · exact absurd g (by simp only at g2; omega)
      · subst g
        exact hne
      · by_cases g3 : t2 < bd
        · exact absurd g1 (h2 t2 g g3)
        · exact hm t2 g1 (by omega)
    iterate 2 (refine kX_one rfl ?_)
    repeat refine kX_one rfl ?_
    refine kX_ifF (decide_eq_false (nI_pos (by omega))) ?_
    repeat refine kX_one rfl ?_
    refine kX_ialdN rfl rfl (by decide) (t) (by first | rfl | decide) (ht) ?_
    repeat refine kX_one rfl ?_
    repeat refine kX_one rfl ?_
    refine kX_if (fun q1 => hno (fun e => qne q1 e.1)) (fun q1 => ?_)
    repeat refine kX_one rfl ?_
    refine kX_ialdN rfl rfl (by decide) (t) (by first | rfl | decide) (ht) ?_
    repeat refine kX_one rfl ?_
    repeat refine kX_one rfl ?_
    refine kX_if (fun q2 => hno (fun e => qne q2 e.2.1)) (fun q2 => ?_)
    repeat refine kX_one rfl ?_
    refine kX_ialdN rfl rfl (by decide) (t) (by first | rfl | decide) (ht) ?_
    repeat refine kX_one rfl ?_
    repeat refine kX_one rfl ?_
    refine kX_if (fun q3 => ?_) (fun q3 => hno (fun e => qeqF q3 e.2.2))
    repeat refine kX_one rfl ?_
    refine kX_ret (i := .ireturn) (len := 1) rfl (Or.inr rfl) rfl (⟨rfl, Or.inr ⟨t, ht, rfl, hPt, qneF q1, qneF q2, qeq q3⟩⟩)
set_option maxRecDepth 100000 in
set_option maxHeartbeats 4000000 in
theorem mr_find (L : Nat) (xs : Nat → Int32) (d : Nat) (σ : kS) (w a b : Int32) (V : Nat → Prop) (hV : ∀ t, V t → t < 1000) (hc : hcP 1024 1000 V (mpt σ) (σ 242) (σ 243)) : kXM kT L xs (d + 1) 148 [.ref 232, .int w, .int a, .int b] σ (fun r σ' => σ = σ' ∧ mFnd σ V w a b r) := by
  unfold kXM
  repeat refine kX_one rfl ?_
  refine kX_cal (mr_place L xs d σ w a b) rfl (Or.inr rfl) rfl rfl rfl (fun r1 σ1 q1 => ?_)
  obtain ⟨rfl, rfl⟩ := q1
  refine kX_ialdN rfl rfl (by decide) (mpl w a b) rfl (mpl_lt w a b) ?_
  iterate 1 (refine kX_one rfl ?_)
  refine kX_lv [(4, .int (σ 242 (mpl w a b))), (0, .ref 232), (1, .int w), (2, .int a), (3, .int b)] rfl rfl rfl ?_
  refine kX_post (mr_find_loop L xs d σ w a b (fun t => V t ∧ mpt σ t = mpl w a b) (fun t ht => ⟨hV t ht.1, by have := hc.2 t ht.1; rw [ht.2] at this; exact this⟩) (1000, _) ⟨Nat.le_refl _, hc.1 _ (mpl_lt w a b), fun t ht h => absurd (hV t ht.1) (by simp only at h; omega)⟩) (fun r σ' q => ⟨q.1, ?_⟩)
  rcases q.2 with ⟨q1, q2⟩ | ⟨t, q1, q2, q3, q4⟩
  · exact Or.inl ⟨q1, fun t ht hi => q2 t ⟨ht, by unfold mpt; rw [hi.1, hi.2.1, hi.2.2]⟩ hi⟩
  · exact Or.inr ⟨t, q1, q2, q3.1, q4⟩
set_option maxRecDepth 100000 in
set_option maxHeartbeats 4000000 in
theorem mr_release_loop (L : Nat) (xs : Nat → Int32) (d : Nat) (σ : kS) (V : Nat → Prop) (f : Nat) (hf : 200 ≤ f) (hf2 : f ≤ 1000) (Q : Option Value → kS → Prop)
    (he : ∀ hd x, hcP 1024 1000 (fun t => V t ∧ t < f) (mpt σ) hd (σ 243) → kX kT L xs (d + 1) 151 50 [(2, .int x), (0, .ref 232), (1, .int (nI f))] [] (va_up σ 242 hd) Q) :
    ∀ q : Nat × (Nat → Int32), (f ≤ q.1 + 1 ∧ q.1 < 1000 ∧ (∀ t, f ≤ t → t ≤ q.1 → V t) ∧ hcP 1024 1000 (fun t => V t ∧ t ≤ q.1) (mpt σ) q.2 (σ 243)) → kX kT L xs (d + 1) 151 7 [(2, .int (nI q.1)), (0, .ref 232), (1, .int (nI f))] [] (va_up σ 242 q.2) Q := by
  refine kX_while (fun q : Nat × (Nat → Int32) => [(2, .int (nI q.1)), (0, .ref 232), (1, .int (nI f))]) (fun q => va_up σ 242 q.2) _ (fun q => q.1) ?_
  rintro ⟨c, hd⟩ ⟨hb, h1, h2, h3⟩ ih
  dsimp only at hb h1 h2 h3 ih ⊢
  iterate 3 (refine kX_one rfl ?_)
  refine kX_if (fun q => ?_) (fun q => ?_)
  · have q := qlt q c f
    exact he hd _ (hcP_congr (fun t => ⟨fun q => ⟨q.1, by have := q.2; omega⟩, fun q => ⟨q.1, by have := q.2; omega⟩⟩) (fun _ _ => rfl) h3)
  · have q := qltF q c f
    repeat refine kX_one rfl ?_
    refine kX_ialdN rfl rfl (by decide) (c) (by first | rfl | decide) (h1) ?_
    repeat refine kX_one rfl ?_
    refine kX_ialdN rfl rfl (by decide) (c) (by first | rfl | decide) (h1) ?_
    repeat refine kX_one rfl ?_
    refine kX_ialdN rfl rfl (by decide) (c) (by first | rfl | decide) (h1) ?_
    refine kX_cal (mr_place L xs d _ _ _ _) rfl (Or.inr rfl) rfl rfl rfl (fun r1 σ1 q1 => ?_)
    obtain ⟨rfl, rfl⟩ := q1
    repeat refine kX_one rfl ?_
    refine kX_ialdN rfl rfl (by decide) (c) (by first | rfl | decide) (h1) ?_
    refine kX_iastN rfl rfl (by decide) (mpl _ _ _) rfl (mpl_lt _ _ _) ?_
    iterate 2 (refine kX_one rfl ?_)
    rw [kup_up]
    have hV : V c := h2 c (by omega) (by omega)
    obtain ⟨c, rfl⟩ : ∃ c', c = c' + 1 := ⟨c - 1, by omega⟩
    have := ih (c, upd hd (mpt σ (c + 1)) (σ 243 (c + 1))) ⟨by simp only; omega, by simp only; omega, fun t g1 g2 => h2 t g1 (by simp only at g2; omega), (hcP_congr (fun t => ⟨fun q => ⟨q.1.1, by have := q.1.2; have := q.2; simp only; omega⟩, fun q => ⟨⟨q.1, by have := q.2; simp only at this; omega⟩, by have := q.2; simp only at this; omega⟩⟩) (fun _ _ => rfl) (hcP_pop h3 ⟨hV, Nat.le_refl _⟩ (fun t' q => q.2) h1))⟩ (by simp only; omega)
    rw [← pk_m1] at this
    exact this
end
section
/-! a table of TERMS that holds together; one more TERM -/
def tbW (V AG : Nat → Prop) (K F S Z : Nat → Int32) : Prop := (∀ t, V t → t < 100000 ∧ tOk V AG K F S t) ∧ (∀ t, V t → Z t = nI (tsz K F S t)) ∧ ∀ t u, V t → V u → 3 < fN (K t) → K t = K u → F t = F u → S t = S u → t = u
theorem tOk_mono {V V' AG AG' : Nat → Prop} {K F S K' F' S' : Nat → Int32} {t : Nat} (hV : ∀ x, x < t → V x → V' x) (hA : ∀ x, x < t → AG x → AG' x) (e1 : K' t = K t) (e2 : F' t = F t) (e3 : S' t = S t) (h : tOk V AG K F S t) : tOk V' AG' K' F' S' t := by
  unfold tOk
  rw [e1, e2, e3]
  rcases h with ⟨k, h3, hk, h4, h5⟩ | ⟨k, x, y, h3, hk, hx, hy, h4, h5, h6, h7⟩ | ⟨k, x, h3, hk, hx, hy, h4, h6⟩
  · exact Or.inl ⟨k, h3, hk, h4, h5⟩
  · refine Or.inr (Or.inl ⟨k, x, y, ?_, hk, hx, hy, h4, h5, hV x h4 h6, hV y h5 h7⟩)
    rcases h3 with h3 | h3 | ⟨h3, h8⟩
    · exact Or.inl h3
    · exact Or.inr (Or.inl h3)
    · exact Or.inr (Or.inr ⟨h3, hA y h5 h8⟩)
  · refine Or.inr (Or.inr ⟨k, x, ?_, hk, hx, hy, h4, hV x h4 h6⟩)
    rcases h3 with h3 | ⟨h3, h8⟩
    · exact Or.inl h3
    · exact Or.inr ⟨h3, hA x h4 h8⟩
theorem tb_valid {V AG AG' : Nat → Prop} {K F S : Nat → Int32} {t : Nat} {w a c : Int32} (hW : ∀ t, V t → t < 100000 ∧ tOk V AG K F S t) (hm : ∀ u, V u → u < t) (ht : t < 100000) (hA : ∀ y, AG y → AG' y) (hn : tOk V AG' (upd K t w) (upd F t a) (upd S t c) t) :
    ∀ u, (V u ∨ u = t) → u < 100000 ∧ tOk (fun u => V u ∨ u = t) AG' (upd K t w) (upd F t a) (upd S t c) u := by
  intro u hu
  rcases hu with hu | rfl
  · have hl := hm u hu
    exact ⟨(hW u hu).1, tOk_mono (fun x _ h => Or.inl h) (fun x _ => hA x) (pk_un (by omega)) (pk_un (by omega)) (pk_un (by omega)) (hW u hu).2⟩
  · exact ⟨ht, tOk_mono (fun x _ h => Or.inl h) (fun x _ h => h) rfl rfl rfl hn⟩
/-- what is told of the old ones stays -/
theorem tb_old {α : Type} {lf lf' : Nat → α} {nd : Nat → α → Option α → α} {V AG : Nat → Prop} {K F S : Nat → Int32} {t : Nat} {w a c : Int32} (hW : ∀ t, V t → t < 100000 ∧ tOk V AG K F S t) (hm : ∀ u, V u → u < t) (hl : ∀ u, V u → lf' u = lf u) : ∀ u, V u → tA lf' nd (upd K t w) (upd F t a) (upd S t c) u = tA lf nd K F S u :=
  tA_congr hW (fun u hu => by
    have := hm u hu
    exact ⟨pk_un (by omega), pk_un (by omega), pk_un (by omega), hl u hu⟩)
theorem tb_push {V AG AG' : Nat → Prop} {K F S Z : Nat → Int32} {t : Nat} {w a c : Int32} (hW : tbW V AG K F S Z) (hm : ∀ u, V u → u < t) (ht : t < 100000) (hA : ∀ y, AG y → AG' y) (hn : tOk V AG' (upd K t w) (upd F t a) (upd S t c) t)
    (hu : 3 < fN w → ∀ u, V u → ¬ (K u = w ∧ F u = a ∧ S u = c)) : tbW (fun u => V u ∨ u = t) AG' (upd K t w) (upd F t a) (upd S t c) (upd Z t (nI (tsz (upd K t w) (upd F t a) (upd S t c) t))) := by
  refine ⟨tb_valid hW.1 hm ht hA hn, fun u h => ?_, fun u v h1 h2 h3 h4 h5 h6 => ?_⟩
  · rcases h with h | rfl
    · have := hm u h
      rw [pk_un (by omega), hW.2.1 u h]
      exact congrArg nI (tb_old hW.1 hm (fun _ _ => rfl) u h).symm
    · exact pk_us
  · rcases h1 with h1 | rfl
    · have l1 := hm u h1
      rw [pk_un (by omega)] at h3 h4 h5 h6
      rcases h2 with h2 | rfl
      · have l2 := hm v h2
        rw [pk_un (by omega)] at h4 h5 h6
        exact hW.2.2 u v h1 h2 h3 h4 h5 h6
      · rw [pk_us] at h4 h5 h6
        exact absurd ⟨h4, h5, h6⟩ (hu (by rw [← h4]; exact h3) u h1)
    · rcases h2 with h2 | rfl
      · have l2 := hm v h2
        rw [pk_us] at h3 h4 h5 h6
        rw [pk_un (by omega)] at h4 h5 h6
        exact absurd ⟨h4.symm, h5.symm, h6.symm⟩ (hu h3 v h2)
      · rfl
/-- of what a new TERM is: kind k, first x, second y (or none), all below bd -/
def tNw (k : Nat) (a c : Int32) (x y bd : Nat) : Prop := (k ≤ 3 ∧ a = -1 ∧ c = -1) ∨ ((k = 4 ∨ k = 5 ∨ k = 6 ∨ k = 8) ∧ a = nI x ∧ c = nI y ∧ x < bd ∧ y < bd) ∨ ((k = 7 ∨ k = 9) ∧ a = nI x ∧ c = -1 ∧ x < bd)
theorem tOk_new {V AG : Nat → Prop} {K F S : Nat → Int32} {t k x y : Nat} {a c : Int32} (h : tNw k a c x y t) (hx : 3 < k → V x) (hy : k = 4 ∨ k = 5 ∨ k = 6 ∨ k = 8 → V y) (h6 : k = 6 ∨ k = 8 → AG y) (h7 : k = 7 → AG x) : tOk V AG (upd K t (nI k)) (upd F t a) (upd S t c) t := by
  unfold tOk
  rw [pk_us, pk_us, pk_us]
  rcases h with ⟨h1, h2, h3⟩ | ⟨h1, h2, h3, h4, h5⟩ | ⟨h1, h2, h3, h4⟩
  · exact Or.inl ⟨k, h1, rfl, h2, h3⟩
  · refine Or.inr (Or.inl ⟨k, x, y, ?_, rfl, h2, h3, h4, h5, hx (by omega), hy h1⟩)
    rcases h1 with h1 | h1 | h1 | h1
    · exact Or.inl h1
    · exact Or.inr (Or.inl h1)
    · exact Or.inr (Or.inr ⟨Or.inl h1, h6 (Or.inl h1)⟩)
    · exact Or.inr (Or.inr ⟨Or.inr h1, h6 (Or.inr h1)⟩)
  · refine Or.inr (Or.inr ⟨k, x, ?_, rfl, h2, h3, h4, hx (by omega)⟩)
    rcases h1 with h1 | h1
    · exact Or.inr ⟨h1, h7 h1⟩
    · exact Or.inl h1
/-- any fold of the new TERM, by those of its parts -/
def tNd {α : Type} (nd : Nat → α → Option α → α) (l : α) (k : Nat) (a b : α) : α := if k ≤ 3 then l else if k = 7 ∨ k = 9 then nd k a none else nd k a (some b)
theorem tA_new {α : Type} {lf lf' : Nat → α} {nd : Nat → α → Option α → α} {V AG AG' : Nat → Prop} {K F S : Nat → Int32} {t k x y : Nat} {a c : Int32} (hW : ∀ t, V t → t < 100000 ∧ tOk V AG K F S t) (hm : ∀ u, V u → u < t) (ht : t < 100000) (hA : ∀ y, AG y → AG' y) (hl : ∀ u, V u → lf' u = lf u) (h : tNw k a c x y t) (hx : 3 < k → V x) (hy : k = 4 ∨ k = 5 ∨ k = 6 ∨ k = 8 → V y) (h6 : k = 6 ∨ k = 8 → AG' y) (h7 : k = 7 → AG' x) :
    tA lf' nd (upd K t (nI k)) (upd F t a) (upd S t c) t = tNd nd (lf' t) k (tA lf nd K F S x) (tA lf nd K F S y) := by
  have hV := tb_valid hW hm ht hA (tOk_new (K := K) (F := F) (S := S) h hx hy h6 h7)
  have ho := fun u hu => tb_old (lf := lf) (lf' := lf') (nd := nd) (w := nI k) (a := a) (c := c) hW hm hl u hu
  unfold tNd
  rcases h with ⟨h1, h2, h3⟩ | ⟨h1, h2, h3, h4, h5⟩ | ⟨h1, h2, h3, h4⟩
  · rw [if_pos h1]
    exact tA_0 pk_us h1
  · rw [if_neg (by omega), if_neg (by omega), tA_2 (x := x) (y := y) hV pk_us (pk_us.trans h2) (pk_us.trans h3) (by omega) (by omega) h4 h5 (Or.inl (hx (by omega))) (Or.inl (hy h1)), ho x (hx (by omega)), ho y (hy h1)]
  · rw [if_neg (by omega), if_pos h1, tA_1 (x := x) hV pk_us (pk_us.trans h2) (pk_us.trans h3) (by omega) (by omega) h4 (Or.inl (hx (by omega))), ho x (hx (by omega))]
theorem tNw_9 {k x y bd : Nat} {a c : Int32} (h : tNw k a c x y bd) : k ≤ 9 := by
  rcases h with h | h | h <;> omega
theorem tNw_x {k x y bd : Nat} {a c : Int32} (h : tNw k a c x y bd) (hk : 3 < k) : a = nI x ∧ x < bd := by
  rcases h with h | h | h
  · omega
  · exact ⟨h.2.1, h.2.2.2.1⟩
  · exact ⟨h.2.1, h.2.2.2⟩
theorem tNw_y {k x y bd : Nat} {a c : Int32} (h : tNw k a c x y bd) (hk : k = 4 ∨ k = 5 ∨ k = 6 ∨ k = 8) : c = nI y ∧ y < bd := by
  rcases h with h | h | h
  · omega
  · exact ⟨h.2.2.1, h.2.2.2.2⟩
  · omega
theorem tNw_mono {k x y bd bd' : Nat} {a c : Int32} (h : tNw k a c x y bd) (hb : bd ≤ bd') : tNw k a c x y bd' := by
  rcases h with h | h | h
  · exact Or.inl h
  · exact Or.inr (Or.inl ⟨h.1, h.2.1, h.2.2.1, by omega, by omega⟩)
  · exact Or.inr (Or.inr ⟨h.1, h.2.1, h.2.2.1, by omega⟩)
end
section
/-! the reference's table: sizeOf, lay, release, last, made -/
def mv (n b t : Nat) : Prop := t < n ∨ (200 ≤ t ∧ t < b)
def mAG (σ : kS) (n y : Nat) : Prop := y < n ∧ (σ 233 y = nI 0 ∨ (σ 233 y = nI 3 ∧ σ 240 y = nI 0))
def mTb (σ : kS) (n b : Nat) : Prop := n ≤ 200 ∧ 200 ≤ b ∧ b ≤ 1000 ∧ σ 232 9 = nI n ∧ σ 232 10 = nI b ∧ tbW (mv n b) (mAG σ n) (σ 233) (σ 234) (σ 235) (σ 236) ∧ (∀ t, mv n b t → σ 237 t = bI (tgd (σ 233) (σ 234) (σ 235) t)) ∧
  hcP 1024 1000 (fun t => mv n b t ∧ 3 < fN (σ 233 t)) (mpt σ) (σ 242) (σ 243) ∧ (∀ t, 200 ≤ t → t < b → 3 < fN (σ 233 t)) ∧ ∀ t, t < n → tsz (σ 233) (σ 234) (σ 235) t ≤ 24
def msz (Z : Nat → Int32) (k x y : Nat) : Int32 := if k ≤ 3 then nI 1 else if k = 7 then nI 2 else if k = 4 ∨ k = 5 then nI 1 + Z x + Z y else if k = 9 then nI 1 + Z x + 0 else nI 1 + Z x + nI 1
set_option maxRecDepth 100000 in
set_option maxHeartbeats 4000000 in
theorem mr_size (L : Nat) (xs : Nat → Int32) (d : Nat) (σ : kS) (k : Nat) (a c : Int32) (x y : Nat) (h : tNw k a c x y 1000) : kXM kT L xs (d + 1) 150 [.ref 232, .int (nI k), .int a, .int c] σ (fun r σ' => r = some (.int (msz (σ 236) k x y)) ∧ σ = σ') := by
  have hk9 : k ≤ 9 := by rcases h with h | h | h <;> omega
  unfold kXM
  repeat refine kX_one rfl ?_
  repeat refine kX_one rfl ?_
  refine kX_if (fun q => ?_) (fun q => ?_)
  · have q := qgt q k 3
    have ha := tNw_x h q
    repeat refine kX_one rfl ?_
    repeat refine kX_one rfl ?_
    refine kX_if (fun q2 => ?_) (fun q2 => ?_)
    · have q2 : k ≠ 7 := fun e => qne q2 (by rw [e]; decide)
      repeat refine kX_one rfl ?_
      refine kX_ialdN rfl rfl (by decide) x ha.1 ha.2 ?_
      repeat refine kX_one rfl ?_
      have tail : ∀ v : Int32, (v = if k = 4 ∨ k = 5 then σ 236 y else if k = 9 then 0 else nI 1) → kX kT L xs (d + 1) 150 53 [(0, .ref 232), (1, .int (nI k)), (2, .int a), (3, .int c)] [.int v, .int (nI 1 + σ 236 x)] σ (fun r σ' => r = some (.int (msz (σ 236) k x y)) ∧ σ = σ') := by
        intro v hv
        subst hv
        repeat refine kX_one rfl ?_
        refine kX_ret (i := .ireturn) (len := 1) rfl (Or.inr rfl) rfl ⟨?_, rfl⟩
        unfold msz
        repeat' split
        all_goals first | rfl | omega
      have t45 : k = 4 ∨ k = 5 → kX kT L xs (d + 1) 150 33 [(0, .ref 232), (1, .int (nI k)), (2, .int a), (3, .int c)] [.int (nI 1 + σ 236 x)] σ (fun r σ' => r = some (.int (msz (σ 236) k x y)) ∧ σ = σ') := by
        intro h45
        have hc := tNw_y h (by omega)
        repeat refine kX_one rfl ?_
        refine kX_ialdN rfl rfl (by decide) y hc.1 hc.2 ?_
        iterate 1 (refine kX_one rfl ?_)
        exact tail _ (by split <;> first | rfl | omega)
      repeat refine kX_one rfl ?_
      refine kX_if (fun q3 => ?_) (fun q3 => ?_)
      · exact t45 (Or.inl (nI_inj (qeq q3)))
      · have q3 : k ≠ 4 := fun e => qeqF q3 (by rw [e]; decide)
        repeat refine kX_one rfl ?_
        repeat refine kX_one rfl ?_
        refine kX_if (fun q4 => ?_) (fun q4 => ?_)
        · have q4 : k ≠ 5 := fun e => qne q4 (by rw [e]; decide)
          repeat refine kX_one rfl ?_
          repeat refine kX_one rfl ?_
          refine kX_if (fun q5 => ?_) (fun q5 => ?_)
          · have q5 : k ≠ 9 := fun e => qne q5 (by rw [e]; decide)
            iterate 1 (refine kX_one rfl ?_)
            exact tail _ (by (repeat' split) <;> first | rfl | omega)
          · have q5 : k = 9 := nI_inj (qneF q5)
            iterate 2 (refine kX_one rfl ?_)
            exact tail _ (by (repeat' split) <;> first | rfl | omega)
        · exact t45 (Or.inr (nI_inj (qneF q4)))
    · have q2 : k = 7 := nI_inj (qneF q2)
      repeat refine kX_one rfl ?_
      refine kX_ret (i := .ireturn) (len := 1) rfl (Or.inr rfl) rfl ⟨?_, rfl⟩
      unfold msz
      repeat' split
      all_goals first | rfl | omega
  · have q := qgtF q k 3
    repeat refine kX_one rfl ?_
    refine kX_ret (i := .ireturn) (len := 1) rfl (Or.inr rfl) rfl ⟨?_, rfl⟩
    unfold msz
    repeat' split
    all_goals first | rfl | omega
def mgv (G : Nat → Int32) (k x y : Nat) : Int32 := if k = 3 then 0 else if k < 3 then 1 else if G x = 0 then 0 else if k = 7 ∨ k = 9 then 1 else if G y = 0 then 0 else 1
def mLy (σ : kS) (t : Nat) (w a c z g : Int32) : kS := va_up (va_up (va_up (va_up (va_up σ 233 (upd (σ 233) t w)) 234 (upd (σ 234) t a)) 235 (upd (σ 235) t c)) 236 (upd (σ 236) t z)) 237 (upd (σ 237) t g)
def mLay (σ : kS) (t k : Nat) (a c : Int32) (x y : Nat) : kS := if k ≤ 3 then mLy σ t (nI k) a c (msz (σ 236) k x y) (mgv (σ 237) k x y) else
  va_up (va_up (mLy σ t (nI k) a c (msz (σ 236) k x y) (mgv (σ 237) k x y)) 243 (upd (σ 243) t (σ 242 (mpl (nI k) a c)))) 242 (upd (σ 242) (mpl (nI k) a c) (nI t))
set_option maxRecDepth 100000 in
set_option maxHeartbeats 4000000 in
theorem mr_lay (L : Nat) (xs : Nat → Int32) (d : Nat) (σ : kS) (t k : Nat) (a c : Int32) (x y : Nat) (h : tNw k a c x y t) (ht : t < 1000) : kXM kT L xs (d + 2) 149 [.ref 232, .int (nI t), .int (nI k), .int a, .int c] σ (fun r σ' => r = none ∧ σ' = mLay σ t k a c x y) := by
  have hk9 : k ≤ 9 := by rcases h with h | h | h <;> omega
  have h' := tNw_mono h (Nat.le_of_lt ht)
  unfold kXM
  repeat refine kX_one rfl ?_
  refine kX_iastN rfl rfl (by decide) (t) (by first | rfl | decide) (ht) ?_
  repeat refine kX_one rfl ?_
  refine kX_iastN rfl rfl (by decide) (t) (by first | rfl | decide) (ht) ?_
  repeat refine kX_one rfl ?_
  refine kX_iastN rfl rfl (by decide) (t) (by first | rfl | decide) (ht) ?_
  repeat refine kX_one rfl ?_
  refine kX_cal (mr_size L xs d _ k a c x y h') rfl (Or.inr rfl) rfl rfl rfl (fun r1 σ1 q1 => ?_)
  obtain ⟨rfl, rfl⟩ := q1
  refine kX_iastN rfl rfl (by decide) (t) (by first | rfl | decide) (ht) ?_
  repeat refine kX_one rfl ?_
  have tail : ∀ g : Int32, g = mgv (σ 237) k x y → kX kT L xs (d + 2) 149 79 [(0, .ref 232), (1, .int (nI t)), (2, .int (nI k)), (3, .int a), (4, .int c)] [.int g, .int (nI t), .ref 237] (va_up (va_up (va_up (va_up σ 233 (upd (σ 233) t (nI k))) 234 (upd (σ 234) t a)) 235 (upd (σ 235) t c)) 236 (upd (σ 236) t (msz (σ 236) k x y))) (fun r σ' => r = none ∧ σ' = mLay σ t k a c x y) := by
    intro g hg
    have hg01 : g = 0 ∨ g = 1 := by
      subst hg
      unfold mgv
      repeat' split
      all_goals first | exact Or.inl rfl | exact Or.inr rfl
    refine kX_bastN rfl rfl (by decide) (t) (by first | rfl | decide) (ht) (hg01) ?_
    iterate 2 (refine kX_one rfl ?_)
    repeat refine kX_one rfl ?_
    refine kX_if (fun q => ?_) (fun q => ?_)
    · have q := qle q k 3
      refine kX_ret (i := .return_) (len := 1) rfl (Or.inr rfl) rfl ⟨rfl, ?_⟩
      unfold mLay
      rw [if_pos q, ← hg]
      rfl
    · have q := qleF q k 3
      repeat refine kX_one rfl ?_
      refine kX_cal (mr_place L xs (d + 1) _ _ _ _) rfl (Or.inr rfl) rfl rfl rfl (fun r1 σ1 q1 => ?_)
      obtain ⟨rfl, rfl⟩ := q1
      repeat refine kX_one rfl ?_
      refine kX_ialdN rfl rfl (by decide) (mpl (nI k) a c) rfl (mpl_lt _ _ _) ?_
      refine kX_iastN rfl rfl (by decide) (t) (by first | rfl | decide) (ht) ?_
      repeat refine kX_one rfl ?_
      refine kX_iastN rfl rfl (by decide) (mpl (nI k) a c) rfl (mpl_lt _ _ _) ?_
      refine kX_ret (i := .return_) (len := 1) rfl (Or.inr rfl) rfl ⟨rfl, ?_⟩
      unfold mLay
      rw [if_neg (show ¬ k ≤ 3 by omega), ← hg]
      rfl
  repeat refine kX_one rfl ?_
  refine kX_if (fun q => ?_) (fun q => ?_)
  · have q : k = 3 := nI_inj (qeq q)
    iterate 1 (refine kX_one rfl ?_)
    exact tail _ (by unfold mgv; (repeat' split) <;> first | rfl | omega | contradiction)
  · have q3 : k ≠ 3 := fun e => qeqF q (by rw [e]; decide)
    repeat refine kX_one rfl ?_
    rcases h with ⟨h1, rfl, rfl⟩ | ⟨h1, rfl, rfl, h4, h5⟩ | ⟨h1, rfl, rfl, h4⟩
    · iterate 4 (refine kX_one rfl ?_)
      exact tail _ (by unfold mgv; (repeat' split) <;> first | rfl | omega | contradiction)
    · repeat refine kX_one rfl ?_
      refine kX_ifF (decide_eq_false (nI_pos (by omega))) ?_
      repeat refine kX_one rfl ?_
      refine kX_baldN rfl rfl (by decide) (x) (by first | rfl | decide) (by omega) ?_
      repeat refine kX_one rfl ?_
      refine kX_if (fun q1 => ?_) (fun q1 => ?_)
      · have q1 : σ 237 x = 0 := qeq q1
        iterate 1 (refine kX_one rfl ?_)
        exact tail _ (by unfold mgv; (repeat' split) <;> first | rfl | omega | contradiction)
      · have q1 : σ 237 x ≠ 0 := qeqF q1
        iterate 1 (refine kX_one rfl ?_)
        repeat refine kX_one rfl ?_
        refine kX_ifF (decide_eq_false (nI_pos (by omega))) ?_
        repeat refine kX_one rfl ?_
        refine kX_baldN rfl rfl (by decide) (y) (by first | rfl | decide) (by omega) ?_
        repeat refine kX_one rfl ?_
        refine kX_if (fun q2 => ?_) (fun q2 => ?_)
        · have q2 : σ 237 y = 0 := qeq q2
          iterate 1 (refine kX_one rfl ?_)
          exact tail _ (by unfold mgv; (repeat' split) <;> first | rfl | omega | contradiction)
        · have q2 : σ 237 y ≠ 0 := qeqF q2
          iterate 2 (refine kX_one rfl ?_)
          exact tail _ (by unfold mgv; (repeat' split) <;> first | rfl | omega | contradiction)
    · repeat refine kX_one rfl ?_
      refine kX_ifF (decide_eq_false (nI_pos (by omega))) ?_
      repeat refine kX_one rfl ?_
      refine kX_baldN rfl rfl (by decide) (x) (by first | rfl | decide) (by omega) ?_
      repeat refine kX_one rfl ?_
      refine kX_if (fun q1 => ?_) (fun q1 => ?_)
      · have q1 : σ 237 x = 0 := qeq q1
        iterate 1 (refine kX_one rfl ?_)
        exact tail _ (by unfold mgv; (repeat' split) <;> first | rfl | omega | contradiction)
      · have q1 : σ 237 x ≠ 0 := qeqF q1
        iterate 4 (refine kX_one rfl ?_)
        exact tail _ (by unfold mgv; (repeat' split) <;> first | rfl | omega | contradiction)
end
section
/-! the reference's table: release, last, made keep it whole -/
/-- what release leaves -/
def mRel (σ : kS) (f : Nat) (hd : Nat → Int32) : kS := va_up (va_up σ 242 hd) 232 (upd (upd (σ 232) 10 (nI f)) 49 (if σ 232 49 < nI f then σ 232 49 else nI f))
theorem tbW_sub {V V' AG : Nat → Prop} {K F S Z : Nat → Int32} (h : tbW V AG K F S Z) (h1 : ∀ t, V' t → V t) (h2 : ∀ t x, V' t → x < t → V x → V' x) : tbW V' AG K F S Z :=
  ⟨fun t ht => ⟨(h.1 t (h1 t ht)).1, tOk_mono (fun x hx hv => h2 t x ht hx hv) (fun _ _ q => q) rfl rfl rfl (h.1 t (h1 t ht)).2⟩, fun t ht => h.2.1 t (h1 t ht), fun t u ht hu => h.2.2 t u (h1 t ht) (h1 u hu)⟩
theorem mRel_Tb {σ : kS} {n b f : Nat} {hd : Nat → Int32} (h : mTb σ n b) (hf : 200 ≤ f) (hb : f ≤ b) (hc : hcP 1024 1000 (fun t => (mv n b t ∧ 3 < fN (σ 233 t)) ∧ t < f) (mpt σ) hd (σ 243)) : mTb (mRel σ f hd) n f := by
  obtain ⟨h1, h2, h3, h4, h5, h6, h7, h8, h9, h10⟩ := h
  have hv : ∀ t, mv n f t ↔ mv n b t ∧ t < f := fun t => by unfold mv; omega
  refine ⟨h1, hf, by omega, h4, rfl, ?_, fun t ht => h7 t ((hv t).mp ht).1, ?_, fun t g1 g2 => h9 t g1 (by omega), h10⟩
  · exact tbW_sub h6 (fun t ht => ((hv t).mp ht).1) (fun t x ht hx q => (hv x).mpr ⟨q, by have := ((hv t).mp ht).2; omega⟩)
  · exact hcP_congr (V' := fun t => mv n f t ∧ 3 < fN (σ 233 t)) (fun t => ⟨fun q => ⟨(hv t).mpr ⟨q.1.1, q.2⟩, q.1.2⟩, fun q => ⟨⟨((hv t).mp q.1).1, q.2⟩, ((hv t).mp q.1).2⟩⟩) (fun _ _ => rfl) hc
set_option maxRecDepth 100000 in
set_option maxHeartbeats 4000000 in
theorem mr_release (L : Nat) (xs : Nat → Int32) (d : Nat) (σ : kS) (n b f : Nat) (h : mTb σ n b) (hf : 200 ≤ f) (hb : f ≤ b) : kXM kT L xs (d + 1) 151 [.ref 232, .int (nI f)] σ (fun r σ' => r = none ∧ ∃ hd, σ' = mRel σ f hd ∧ mTb σ' n f) := by
  have h0 := h
  obtain ⟨h1, h2, h3, h4, h5, h6, h7, h8, h9, h10⟩ := h
  unfold kXM
  have hend : ∀ hd x, hcP 1024 1000 (fun t => (mv n b t ∧ 3 < fN (σ 233 t)) ∧ t < f) (mpt σ) hd (σ 243) → kX kT L xs (d + 1) 151 50 [(2, .int x), (0, .ref 232), (1, .int (nI f))] [] (va_up σ 242 hd) (fun r σ' => r = none ∧ ∃ hd, σ' = mRel σ f hd ∧ mTb σ' n f) := by
    intro hd x hc
    have hH := mRel_Tb h0 hf hb hc
    repeat refine kX_one rfl ?_
    repeat refine kX_one rfl ?_
    refine kX_if (fun q => ?_) (fun q => ?_)
    · have q1 : nI f ≤ σ 232 49 := of_decide_eq_true q
      have e : mRel σ f hd = va_up (va_up σ 242 hd) 232 (upd (upd (σ 232) 10 (nI f)) 49 (nI f)) := by
        unfold mRel
        rw [if_neg (Int32.not_lt.mpr q1)]
      repeat refine kX_one rfl ?_
      rw [kup_up]
      refine kX_ret (i := .return_) (len := 1) rfl (Or.inr rfl) rfl ⟨rfl, hd, e.symm, ?_⟩
      rw [e] at hH
      exact hH
    · have q1 : σ 232 49 < nI f := Int32.not_le.mp (of_decide_eq_false q)
      have e : mRel σ f hd = va_up (va_up σ 242 hd) 232 (upd (upd (σ 232) 10 (nI f)) 49 (σ 232 49)) := by
        unfold mRel
        rw [if_pos q1]
      repeat refine kX_one rfl ?_
      rw [kup_up]
      refine kX_ret (i := .return_) (len := 1) rfl (Or.inr rfl) rfl ⟨rfl, hd, e.symm, ?_⟩
      rw [e] at hH
      exact hH
  iterate 5 (refine kX_one rfl ?_)
  rw [h5]
  obtain ⟨c, rfl⟩ : ∃ c, b = c + 1 := ⟨b - 1, by omega⟩
  have := mr_release_loop L xs d σ (fun t => mv n (c + 1) t ∧ 3 < fN (σ 233 t)) f hf (by omega) _ hend (c, σ 242) ⟨by simp only; omega, by simp only; omega, fun t g1 g2 => ⟨Or.inr (by simp only at g2; omega), h9 t (by omega) (by simp only at g2; omega)⟩, hcP_congr (fun t => ⟨fun q => ⟨q, by have := q.1; unfold mv at this; simp only; omega⟩, fun q => q.1⟩) (fun _ _ => rfl) h8⟩
  rw [← nI_pred] at this
  rw [kup_self] at this
  exact this
/-- the new TERM's own words -/
theorem mTb_new {σ : kS} {n b t k x y : Nat} {a c : Int32} (h : mTb σ n b) (hm : ∀ u, mv n b u → u < t) (ht : t < 1000) (hw : tNw k a c x y t) (hx : 3 < k → mv n b x) (hy : k = 4 ∨ k = 5 ∨ k = 6 ∨ k = 8 → mv n b y) (h6 : k = 6 ∨ k = 8 → mAG σ n y) (h7 : k = 7 → mAG σ n x) :
    msz (σ 236) k x y = nI (tsz (upd (σ 233) t (nI k)) (upd (σ 234) t a) (upd (σ 235) t c) t) ∧ mgv (σ 237) k x y = bI (tgd (upd (σ 233) t (nI k)) (upd (σ 234) t a) (upd (σ 235) t c) t) := by
  obtain ⟨h1, h2, h3, h4, h5, hW, hG, -⟩ := h
  have hk9 : k ≤ 9 := by rcases hw with h | h | h <;> omega
  have hag : ∀ z, mAG σ n z → mv n b z ∧ tsz (σ 233) (σ 234) (σ 235) z = 1 := fun z hz => by
    refine ⟨Or.inl hz.1, ?_⟩
    rcases hz.2 with e | ⟨e, -⟩
    · exact tA_0 e (by omega)
    · exact tA_0 e (by omega)
  constructor
  · unfold tsz
    rw [tA_new (lf := fun _ => 1) (nd := fun _ a b => 1 + a + b.getD 0) hW.1 hm (by omega) (fun _ q => q) (fun _ _ => rfl) hw hx hy h6 h7]
    unfold msz tNd
    split
    · rfl
    · next h3 =>
      have ex := hW.2.1 x (hx (by omega))
      split
      · next e7 =>
        rw [if_pos (Or.inl e7)]
        have := (hag x (h7 e7)).2
        unfold tsz at this
        rw [this]
        rfl
      · next e7 =>
        split
        · next e45 =>
          rw [if_neg (show ¬ (k = 7 ∨ k = 9) by omega), ex, hW.2.1 y (hy (by omega)), nI_add, nI_add]
          rfl
        · next e45 =>
          split
          · next e9 =>
            rw [if_pos (Or.inr e9), ex, ← nI_0, nI_add, nI_add]
            rfl
          · next e9 =>
            have e68 : k = 6 ∨ k = 8 := by rcases hw with h | h | h <;> omega
            have := (hag y (h6 e68)).2
            unfold tsz at this
            rw [if_neg (show ¬ (k = 7 ∨ k = 9) by omega), ex, nI_add, nI_add, this]
            rfl
  · unfold tgd
    rw [tA_new (lf := fun t => decide (σ 233 t ≠ nI 3)) (nd := fun _ a b => a && b.getD true) hW.1 hm (by omega) (fun _ q => q) (fun u hu => by rw [pk_un (by have := hm u hu; omega)]) hw hx hy h6 h7]
    unfold mgv tNd
    rw [pk_us]
    split
    · next e3 =>
      subst e3
      rfl
    · next e3 =>
      split
      · next e =>
        rw [if_pos (show k ≤ 3 by omega)]
        have : nI k ≠ nI 3 := nI_ne (by omega)
        rw [decide_eq_true this]
        rfl
      · next e =>
        rw [if_neg (show ¬ k ≤ 3 by omega)]
        have ex := hG x (hx (by omega))
        unfold tgd at ex
        rw [ex]
        split
        · next g0 =>
          rw [bI_eq] at g0
          rw [g0]
          split <;> rfl
        · next g0 =>
          have g0 := (bI_ne _).mp g0
          rw [g0]
          split
          · rfl
          · next e7 =>
            have ey := hG y (hy (by rcases hw with h | h | h <;> omega))
            unfold tgd at ey
            rw [ey]
            split
            · next g1 =>
              rw [bI_eq] at g1
              rw [g1]
              rfl
            · next g1 =>
              have g1 := (bI_ne _).mp g1
              rw [g1]
              rfl
/-- the table with one TERM more -/
theorem mTb_lay {σ : kS} {n b t k x y n' b' : Nat} {a c : Int32} (h : mTb σ n b) (hm : ∀ u, mv n b u → u < t) (hv : ∀ u, mv n' b' u ↔ mv n b u ∨ u = t) (ht : t < 1000) (hw : tNw k a c x y t) (hx : 3 < k → mv n b x) (hy : k = 4 ∨ k = 5 ∨ k = 6 ∨ k = 8 → mv n b y) (h6 : k = 6 ∨ k = 8 → mAG σ n y) (h7 : k = 7 → mAG σ n x)
    (hu : 3 < k → ∀ u, mv n b u → ¬ mIs σ u (nI k) a c) (hn : n ≤ n') (τ : Nat → Int32) (e1 : τ 9 = nI n') (e2 : τ 10 = nI b') (hb : n' ≤ 200 ∧ 200 ≤ b' ∧ b' ≤ 1000) (h3 : 200 ≤ t → 3 < k) (h24 : t < n' → tsz (upd (σ 233) t (nI k)) (upd (σ 234) t a) (upd (σ 235) t c) t ≤ 24) :
    mTb (va_up (mLay σ t k a c x y) 232 τ) n' b' := by
  have hk9 : k ≤ 9 := by rcases hw with h | h | h <;> omega
  obtain ⟨ez, eg⟩ := mTb_new h hm ht hw hx hy h6 h7
  have h0 := h
  obtain ⟨g1, g2, g3, g4, g5, hW, hG, hC, hB, hS⟩ := h
  have hA : ∀ z, mAG σ n z → mAG (va_up (mLay σ t k a c x y) 232 τ) n' z := fun z hz => by
    have hzt := hm z (Or.inl hz.1)
    refine ⟨by have := hz.1; omega, ?_⟩
    have e : (va_up (mLay σ t k a c x y) 232 τ) 233 = upd (σ 233) t (nI k) := by unfold mLay; split <;> rfl
    have e' : (va_up (mLay σ t k a c x y) 232 τ) 240 = σ 240 := by unfold mLay; split <;> rfl
    rw [e, e', pk_un (by omega)]
    exact hz.2
  have hp := tb_push hW hm (by omega) hA (tOk_new hw hx hy (fun e => hA _ (h6 e)) (fun e => hA _ (h7 e))) (fun hk u hu' hi => hu (by rw [fN_nI (by omega)] at hk; exact hk) u hu' hi)
  rw [← ez] at hp
  have hgd : ∀ u, mv n' b' u → upd (σ 237) t (mgv (σ 237) k x y) u = bI (tgd (upd (σ 233) t (nI k)) (upd (σ 234) t a) (upd (σ 235) t c) u) := fun u hu' => by
    rcases (hv u).mp hu' with q | rfl
    · have := hm u q
      rw [pk_un (by omega), hG u q]
      exact congrArg bI (tb_old hW.1 hm (fun u hu => by rw [pk_un (by have := hm u hu; omega)]) u q).symm
    · rw [pk_us]
      exact eg
  have hW' : tbW (mv n' b') (mAG (va_up (mLay σ t k a c x y) 232 τ) n') (upd (σ 233) t (nI k)) (upd (σ 234) t a) (upd (σ 235) t c) (upd (σ 236) t (msz (σ 236) k x y)) := tbW_sub hp (fun u q => (hv u).mp q) (fun u z _ _ q => (hv z).mpr q)
  have hb3 : ∀ u, 200 ≤ u → u < b' → 3 < fN (upd (σ 233) t (nI k) u) := fun u q1 q2 => by
    rcases (hv u).mp (Or.inr ⟨q1, q2⟩) with q | rfl
    · have := hm u q
      rw [pk_un (by omega)]
      unfold mv at q
      exact hB u q1 (by omega)
    · rw [pk_us, fN_nI (by omega)]
      exact h3 q1
  have h24' : ∀ u, u < n' → tsz (upd (σ 233) t (nI k)) (upd (σ 234) t a) (upd (σ 235) t c) u ≤ 24 := fun u q => by
    rcases (hv u).mp (Or.inl q) with q1 | rfl
    · have := hm u q1
      have e : tsz (upd (σ 233) t (nI k)) (upd (σ 234) t a) (upd (σ 235) t c) u = tsz (σ 233) (σ 234) (σ 235) u := tb_old hW.1 hm (fun _ _ => rfl) u q1
      rw [e]
      by_cases hun : u < n
      · exact hS u hun
      · exfalso
        unfold mv at q1
        omega
    · exact h24 q
  have hch : hcP 1024 1000 (fun u => mv n' b' u ∧ 3 < fN (upd (σ 233) t (nI k) u)) (fun u => mpl (upd (σ 233) t (nI k) u) (upd (σ 234) t a u) (upd (σ 235) t c u)) (if k ≤ 3 then σ 242 else upd (σ 242) (mpl (nI k) a c) (nI t)) (if k ≤ 3 then σ 243 else upd (σ 243) t (σ 242 (mpl (nI k) a c))) := by
    have hpl : ∀ u, (mv n b u ∧ 3 < fN (σ 233 u)) → mpt σ u = mpl (upd (σ 233) t (nI k) u) (upd (σ 234) t a u) (upd (σ 235) t c u) := fun u q => by
      have := hm u q.1
      rw [pk_un (by omega), pk_un (by omega), pk_un (by omega)]
      rfl
    split
    · next h3 =>
      refine hcP_congr (fun u => ⟨fun q => ⟨(hv u).mpr (Or.inl q.1), ?_⟩, fun q => ?_⟩) hpl hC
      · rw [pk_un (by have := hm u q.1; omega)]
        exact q.2
      · rcases (hv u).mp q.1 with q1 | rfl
        · have q2 := q.2
          rw [pk_un (by have := hm u q1; omega)] at q2
          exact ⟨q1, q2⟩
        · have q2 := q.2
          rw [pk_us, fN_nI (by omega)] at q2
          omega
    · next h3 =>
      have hC2 : hcP 1024 1000 (fun u => mv n b u ∧ 3 < fN (σ 233 u)) (fun u => mpl (upd (σ 233) t (nI k) u) (upd (σ 234) t a u) (upd (σ 235) t c u)) (σ 242) (σ 243) := hcP_congr (fun _ => Iff.rfl) hpl hC
      have := hcP_push (t := t) hC2 (fun u q => hm u q.1) ht (mpl_lt _ _ _)
      rw [pk_us, pk_us, pk_us] at this
      refine hcP_congr (fun u => ⟨fun q => ?_, fun q => ?_⟩) (fun _ _ => rfl) this
      · rcases q with q | rfl
        · refine ⟨(hv u).mpr (Or.inl q.1), ?_⟩
          rw [pk_un (by have := hm u q.1; omega)]
          exact q.2
        · refine ⟨(hv u).mpr (Or.inr rfl), ?_⟩
          rw [pk_us, fN_nI (by omega)]
          omega
      · rcases (hv u).mp q.1 with q1 | rfl
        · have q2 := q.2
          rw [pk_un (by have := hm u q1; omega)] at q2
          exact Or.inl ⟨q1, q2⟩
        · exact Or.inr rfl
  unfold mLay at hA hW' ⊢
  split at hch
  · next hk3 =>
    rw [if_pos hk3] at hW' ⊢
    exact ⟨hb.1, hb.2.1, hb.2.2, e1, e2, hW', hgd, hch, hb3, h24'⟩
  · next hk3 =>
    rw [if_neg hk3] at hW' ⊢
    exact ⟨hb.1, hb.2.1, hb.2.2, e1, e2, hW', hgd, hch, hb3, h24'⟩
/-- contents with another table -/
def mU (σ : kS) (K F S Z G nx hd o : Nat → Int32) : kS := va_up (va_up (va_up (va_up (va_up (va_up (va_up (va_up σ 233 K) 234 F) 235 S) 236 Z) 237 G) 243 nx) 242 hd) 232 o
theorem mU_of {σ τ : kS} (h : ∀ c, c ≠ 233 → c ≠ 234 → c ≠ 235 → c ≠ 236 → c ≠ 237 → c ≠ 243 → c ≠ 242 → c ≠ 232 → τ c = σ c) : τ = mU σ (τ 233) (τ 234) (τ 235) (τ 236) (τ 237) (τ 243) (τ 242) (τ 232) := by
  funext c
  unfold mU va_up
  repeat' split
  all_goals first | (next e => rw [e]) | skip
  next h1 h2 h3 h4 h5 h6 h7 h8 => exact h c h8 h7 h6 h5 h4 h3 h2 h1
def mO (o : Nat → Int32) (n : Nat) (jd : Int32) : Nat → Int32 := upd (upd (upd (upd o 10 (nI 200)) 49 jd) 47 0) 9 (nI (n + 1))
set_option maxRecDepth 100000 in
set_option maxHeartbeats 4000000 in
theorem mr_last (L : Nat) (xs : Nat → Int32) (d : Nat) (σ : kS) (n b k : Nat) (a c : Int32) (x y : Nat) (h : mTb σ n b) (hn : n < 200) (hw : tNw k a c x y n) (h6 : k = 6 ∨ k = 8 → mAG σ n y) (h7 : k = 7 → mAG σ n x) (hu : 3 < k → ∀ u, u < n → ¬ mIs σ u (nI k) a c) (h24 : msz (σ 236) k x y ≤ nI 24) :
    kXM kT L xs (d + 3) 152 [.ref 232, .int (nI k), .int a, .int c] σ (fun r σ' => r = some (.int (nI n)) ∧ ∃ z g nx hd jd, σ' = mU σ (upd (σ 233) n (nI k)) (upd (σ 234) n a) (upd (σ 235) n c) (upd (σ 236) n z) (upd (σ 237) n g) nx hd (mO (σ 232) n jd) ∧ mTb σ' (n + 1) 200) := by
  unfold kXM
  have hb := h.2.1
  repeat refine kX_one rfl ?_
  refine kX_cal (mr_release L xs (d + 1) σ n b 200 h (by decide) hb) rfl (Or.inr rfl) rfl rfl rfl (fun r1 σ1 q1 => ?_)
  obtain ⟨rfl, hd, rfl, hT⟩ := q1
  iterate 6 (refine kX_one rfl ?_)
  refine kX_top (hT.2.2.2.1) ?_
  repeat refine kX_one rfl ?_
  refine kX_cal (mr_lay L xs d _ n k a c x y hw (by omega)) rfl (Or.inr rfl) rfl rfl rfl (fun r1 σ1 q1 => ?_)
  obtain ⟨rfl, rfl⟩ := q1
  have hT2 : mTb (va_up (mRel σ 200 hd) 232 (upd (mRel σ 200 hd 232) 47 (Int32.ofInt 0))) n 200 := hT
  have hterm : mLay (va_up (mRel σ 200 hd) 232 (upd (mRel σ 200 hd 232) 47 (Int32.ofInt 0))) n k a c x y 232 9 = nI n := by
    have := hT.2.2.2.1
    unfold mLay
    split <;> exact this
  iterate 3 (refine kX_one rfl ?_)
  refine kX_top (hterm) ?_
  repeat refine kX_one rfl ?_
  have hm : ∀ u, mv n 200 u → u < n := fun u q => by unfold mv at q; omega
  have hmx : 3 < k → mv n 200 x := fun q => Or.inl (by rcases hw with h | h | h <;> omega)
  have hmy : k = 4 ∨ k = 5 ∨ k = 6 ∨ k = 8 → mv n 200 y := fun q => Or.inl (by rcases hw with h | h | h <;> omega)
  have hnew := mTb_new hT2 hm (by omega) hw hmx hmy h6 h7
  have hz : msz (σ 236) k x y = nI (tsz (upd (σ 233) n (nI k)) (upd (σ 234) n a) (upd (σ 235) n c) n) := hnew.1
  have hsz : ∀ t, t < n → tsz (σ 233) (σ 234) (σ 235) t ≤ 24 := h.2.2.2.2.2.2.2.2.2
  have hle : tsz (upd (σ 233) n (nI k)) (upd (σ 234) n a) (upd (σ 235) n c) n ≤ 24 := by
    have hb : tsz (upd (σ 233) n (nI k)) (upd (σ 234) n a) (upd (σ 235) n c) n < 100 := by
      unfold tsz
      have hV0 : ∀ t, mv n 200 t → t < 100000 ∧ tOk (mv n 200) (mAG σ n) (σ 233) (σ 234) (σ 235) t := hT2.2.2.2.2.2.1.1
      rw [tA_new (lf := fun _ => 1) (nd := fun _ a b => 1 + a + b.getD 0) hV0 hm (by omega) (fun _ q => q) (fun _ _ => rfl) hw hmx hmy h6 h7]
      unfold tNd
      split
      · omega
      · next h3 =>
        have hx9 := hsz x (by rcases hw with h | h | h <;> omega)
        unfold tsz at hx9
        split
        · show 1 + tA (fun _ => 1) (fun _ a b => 1 + a + b.getD 0) (σ 233) (σ 234) (σ 235) x + 0 < 100
          omega
        · next e =>
          have hy9 := hsz y (by rcases hw with h | h | h <;> omega)
          unfold tsz at hy9
          show 1 + tA (fun _ => 1) (fun _ a b => 1 + a + b.getD 0) (σ 233) (σ 234) (σ 235) x + tA (fun _ => 1) (fun _ a b => 1 + a + b.getD 0) (σ 233) (σ 234) (σ 235) y < 100
          omega
    rw [hz] at h24
    exact (nI_leI (by omega) (by decide)).mp h24
  have hF := mTb_lay hT2 hm (n' := n + 1) (b' := 200) (fun u => by unfold mv; omega) (by omega) hw hmx hmy h6 h7 (fun q u hu' => hu q u (hm u hu')) (by omega) (mO (σ 232) n ((mRel σ 200 hd) 232 49)) rfl rfl ⟨by omega, by omega, by omega⟩ (fun q => by omega) (fun _ => hle)
  have eO : (upd (mLay (va_up (mRel σ 200 hd) 232 (upd (mRel σ 200 hd 232) 47 (Int32.ofInt 0))) n k a c x y 232) 9 (nI n + Int32.ofInt 1)) = mO (σ 232) n ((mRel σ 200 hd) 232 49) := by
    have e1 : nI n + Int32.ofInt 1 = nI (n + 1) := nI_1 n
    rw [e1]
    unfold mLay
    split <;> (funext j; unfold mO mLy mRel upd va_up; simp only []; repeat' split) <;> first | rfl | omega
  refine kX_st (va_up (mLay (va_up (mRel σ 200 hd) 232 (upd (mRel σ 200 hd 232) 47 (Int32.ofInt 0))) n k a c x y) 232 (mO (σ 232) n ((mRel σ 200 hd) 232 49))) (congrArg (va_up _ 232) eO) ?_
  refine kX_ret (i := .ireturn) (len := 1) rfl (Or.inr rfl) rfl ⟨?_, ?_⟩
  · show some (Value.int (upd (mLay (va_up (mRel σ 200 hd) 232 (upd (mRel σ 200 hd 232) 47 (Int32.ofInt 0))) n k a c x y 232) 9 (nI n + Int32.ofInt 1) 9 - Int32.ofInt 1)) = _
    rw [pk_us, show nI n + Int32.ofInt 1 = nI (n + 1) from nI_1 n]
    exact congrArg (fun z => some (Value.int z)) (nI_pred n)
  · refine ⟨msz (σ 236) k x y, mgv (σ 237) k x y, (if k ≤ 3 then σ 243 else upd (σ 243) n (hd (mpl (nI k) a c))), (if k ≤ 3 then hd else upd hd (mpl (nI k) a c) (nI n)), (mRel σ 200 hd) 232 49, ?_, hF⟩
    have := mU_of (σ := σ) (τ := va_up (mLay (va_up (mRel σ 200 hd) 232 (upd (mRel σ 200 hd 232) 47 (Int32.ofInt 0))) n k a c x y) 232 (mO (σ 232) n ((mRel σ 200 hd) 232 49))) (fun c h1 h2 h3 h4 h5 h6 h7 h8 => by
      unfold mLay
      split <;> simp [mLy, mRel, va_up, h1, h2, h3, h4, h5, h6, h7, h8])
    rw [this]
    unfold mLay
    split <;> rfl
end
section
/-! the reference's table: made, oldOrNew, isTerm -/
theorem mcp_iff {σ : kS} {n b : Nat} (h : mTb σ n b) {k : Nat} {a c : Int32} (hk : 3 < k) (hk9 : k ≤ 9) {t : Nat} (ht : mv n b t) (hi : mIs σ t (nI k) a c) : mv n b t ∧ 3 < fN (σ 233 t) := ⟨ht, by rw [hi.1, fN_nI (by omega)]; exact hk⟩
theorem mTb_find {σ : kS} {n b : Nat} (h : mTb σ n b) (L : Nat) (xs : Nat → Int32) (d : Nat) (k : Nat) (a c : Int32) (hk : 3 < k) (hk9 : k ≤ 9) : kXM kT L xs (d + 1) 148 [.ref 232, .int (nI k), .int a, .int c] σ (fun r σ' => σ = σ' ∧ ((r = some (.int (-1)) ∧ ∀ t, mv n b t → ¬ mIs σ t (nI k) a c) ∨ ∃ t, r = some (.int (nI t)) ∧ mv n b t ∧ mIs σ t (nI k) a c)) := by
  have hb := h.2.2.1
  have hn := h.1
  refine kX_post (mr_find L xs d σ (nI k) a c _ (fun t q => by have := q.1; unfold mv at this; omega) h.2.2.2.2.2.2.2.1) (fun r σ' q => ⟨q.1, ?_⟩)
  rcases q.2 with ⟨q1, q2⟩ | ⟨t, q1, q2, q3, q4⟩
  · exact Or.inl ⟨q1, fun t ht hi => q2 t (mcp_iff h hk hk9 ht hi) hi⟩
  · exact Or.inr ⟨t, q2, q3.1, q4⟩
set_option maxRecDepth 100000 in
set_option maxHeartbeats 4000000 in
theorem mr_made (L : Nat) (xs : Nat → Int32) (d : Nat) (σ : kS) (n b k : Nat) (a c : Int32) (x y : Nat) (h : mTb σ n b) (hb : b < 1000) (hk : 3 < k) (hw : tNw k a c x y b) (hx : mv n b x) (hy : k = 4 ∨ k = 5 ∨ k = 6 ∨ k = 8 → mv n b y) (h6 : k = 6 ∨ k = 8 → mAG σ n y) (h7 : k = 7 → mAG σ n x) :
    kXM kT L xs (d + 3) 153 [.ref 232, .int (nI k), .int a, .int c] σ (fun r σ' => ∃ t, r = some (.int (nI t)) ∧ ((mv n b t ∧ mIs σ t (nI k) a c ∧ σ = σ') ∨ (t = b ∧ (∀ u, mv n b u → ¬ mIs σ u (nI k) a c) ∧ (∃ z g nx hd, σ' = mU σ (upd (σ 233) b (nI k)) (upd (σ 234) b a) (upd (σ 235) b c) (upd (σ 236) b z) (upd (σ 237) b g) nx hd (upd (σ 232) 10 (nI (b + 1)))) ∧ mTb σ' n (b + 1)))) := by
  unfold kXM
  have hk9 : k ≤ 9 := by rcases hw with h | h | h <;> omega
  repeat refine kX_one rfl ?_
  refine kX_cal (mTb_find h L xs (d + 1) k a c hk hk9) rfl (Or.inr rfl) rfl rfl rfl (fun r1 σ1 q1 => ?_)
  obtain ⟨rfl, q1⟩ := q1
  rcases q1 with ⟨rfl, hno⟩ | ⟨t, rfl, ht, hi⟩
  · repeat refine kX_one rfl ?_
    rw [h.2.2.2.2.1]
    refine kX_cal (mr_lay L xs d σ b k a c x y hw hb) rfl (Or.inr rfl) rfl rfl rfl (fun r1 σ1 q1 => ?_)
    obtain ⟨rfl, rfl⟩ := q1
    have h2 := h.2.1
    have h1 := h.1
    have hbe : mLay σ b k a c x y 232 10 = nI b := by
      have := h.2.2.2.2.1
      unfold mLay
      split <;> exact this
    iterate 3 (refine kX_one rfl ?_)
    refine kX_top (hbe) ?_
    iterate 2 (refine kX_one rfl ?_)
    refine kX_top (nI_1 b) ?_
    repeat refine kX_one rfl ?_
    have hm : ∀ u, mv n b u → u < b := fun u q => by unfold mv at q; omega
    have e232 : mLay σ b k a c x y 232 = σ 232 := by unfold mLay; split <;> rfl
    refine kX_st (va_up (mLay σ b k a c x y) 232 (upd (σ 232) 10 (nI (b + 1)))) (congrArg (fun z => va_up (mLay σ b k a c x y) 232 (upd z 10 (nI (b + 1)))) e232) ?_
    have hF := mTb_lay h hm (n' := n) (b' := b + 1) (fun u => by unfold mv; omega) hb hw (fun _ => hx) hy h6 h7 (fun _ u hu => hno u hu) (Nat.le_refl _) (upd (σ 232) 10 (nI (b + 1))) h.2.2.2.1 rfl ⟨h1, by omega, by omega⟩ (fun _ => hk) (fun q => by omega)
    refine kX_ret (i := .ireturn) (len := 1) rfl (Or.inr rfl) rfl ⟨b, rfl, Or.inr ⟨rfl, hno, ⟨msz (σ 236) k x y, mgv (σ 237) k x y, upd (σ 243) b (σ 242 (mpl (nI k) a c)), upd (σ 242) (mpl (nI k) a c) (nI b), ?_⟩, hF⟩⟩
    unfold mLay
    rw [if_neg (show ¬ k ≤ 3 by omega)]
    rfl
  · have hb3 := h.2.2.1
    have h1 := h.1
    repeat refine kX_one rfl ?_
    repeat refine kX_one rfl ?_
    refine kX_ifT (by show jcmp .ge (nI t) 0 = true; exact decide_eq_true (nI_pos' (by unfold mv at ht; omega))) ?_
    repeat refine kX_one rfl ?_
    refine kX_ret (i := .ireturn) (len := 1) rfl (Or.inr rfl) rfl (⟨t, rfl, Or.inl ⟨ht, hi, rfl⟩⟩)
theorem lcmp_lt {a b : Int64} : lg_cmp a b < 0 ↔ a < b := by
  unfold lg_cmp
  split
  · next h =>
    refine ⟨fun q => absurd q (by decide), fun q => ?_⟩
    have h1 := Int64.lt_iff_toInt_lt.mp h
    have h2 := Int64.lt_iff_toInt_lt.mp q
    omega
  · next h =>
    split
    · next e =>
      refine ⟨fun q => absurd q (by decide), fun q => ?_⟩
      have h2 := Int64.lt_iff_toInt_lt.mp q
      rw [e] at h2
      omega
    · next e =>
      refine ⟨fun _ => ?_, fun _ => by decide⟩
      refine Int64.lt_iff_toInt_lt.mpr ?_
      have h1 : ¬ b.toInt < a.toInt := fun q => h (Int64.lt_iff_toInt_lt.mpr q)
      have h2 : a.toInt ≠ b.toInt := fun q => e (Int64.toInt_inj.mp q)
      omega
theorem lcmp_gt {a b : Int64} : 0 < lg_cmp a b ↔ b < a := by
  unfold lg_cmp
  split
  · next h => exact ⟨fun _ => h, fun _ => by decide⟩
  · next h =>
    split
    · exact ⟨fun q => absurd q (by decide), fun q => absurd q h⟩
    · exact ⟨fun q => absurd q (by decide), fun q => absurd q h⟩
set_option maxRecDepth 100000 in
set_option maxHeartbeats 4000000 in
theorem mr_in (L : Nat) (xs : Nat → Int32) (d : Nat) (σ : kS) (v lo hi : Int64) : kXM kT L xs d 145 [.long v, .long lo, .long hi] σ (fun r σ' => r = some (.int (bI (decide (¬ v < lo ∧ ¬ hi < v)))) ∧ σ = σ') := by
  unfold kXM
  repeat refine kX_one rfl ?_
  repeat refine kX_one rfl ?_
  refine kX_if (fun q => ?_) (fun q => ?_)
  · have q := lcmp_lt.mp (of_decide_eq_true q)
    repeat refine kX_one rfl ?_
    refine kX_ret (i := .ireturn) (len := 1) rfl (Or.inr rfl) rfl (⟨by rw [decide_eq_false (fun h => h.1 q)]; rfl, rfl⟩)
  · have q : ¬ v < lo := fun h => of_decide_eq_false q (lcmp_lt.mpr h)
    repeat refine kX_one rfl ?_
    repeat refine kX_one rfl ?_
    refine kX_if (fun q2 => ?_) (fun q2 => ?_)
    · have q2 := lcmp_gt.mp (of_decide_eq_true q2)
      repeat refine kX_one rfl ?_
      refine kX_ret (i := .ireturn) (len := 1) rfl (Or.inr rfl) rfl (⟨by rw [decide_eq_false (fun h => h.2 q2)]; rfl, rfl⟩)
    · have q2 : ¬ hi < v := fun h => of_decide_eq_false q2 (lcmp_gt.mpr h)
      repeat refine kX_one rfl ?_
      refine kX_ret (i := .ireturn) (len := 1) rfl (Or.inr rfl) rfl (⟨by rw [decide_eq_true ⟨q, q2⟩]; rfl, rfl⟩)
/-- x is a number below n -/
def isN (x : Int32) (n : Nat) : Prop := ∃ j, j < n ∧ x = nI j
theorem i64_lt (x y : Int32) : x.toInt64 < y.toInt64 ↔ x < y := by
  rw [Int64.lt_iff_toInt_lt, Int32.lt_iff_toInt_lt, Int32.toInt_toInt64, Int32.toInt_toInt64]
theorem in_N {x : Int32} {n : Nat} (hn : n < 1000000) : (¬ x.toInt64 < (0 : Int32).toInt64 ∧ ¬ (nI n - 1).toInt64 < x.toInt64) ↔ isN x n := by
  rw [i64_lt, i64_lt]
  constructor
  · rintro ⟨h1, h2⟩
    obtain ⟨j, hj, rfl⟩ := nI_of h1
    refine ⟨j, ?_, rfl⟩
    refine Nat.not_le.mp (fun h => h2 ?_)
    rw [Int32.lt_iff_toInt_lt, nI_toInt hj]
    have := pk_sub_toInt (a := n) (b := 1) (by omega) (by omega)
    rw [show (nI n - 1).toInt = (nI n - nI 1).toInt from rfl, this]
    omega
  · rintro ⟨j, hj, rfl⟩
    refine ⟨nI_pos (by omega), fun h => ?_⟩
    rw [Int32.lt_iff_toInt_lt, nI_toInt (by omega)] at h
    have := pk_sub_toInt (a := n) (b := 1) (by omega) (by omega)
    rw [show (nI n - 1).toInt = (nI n - nI 1).toInt from rfl, this] at h
    omega
noncomputable def isB (P : Prop) : Int32 := @ite _ P (Classical.propDecidable P) 1 0
theorem isB_T {P : Prop} (h : P) : isB P = 1 := by unfold isB; exact if_pos h
theorem isB_F {P : Prop} (h : ¬ P) : isB P = 0 := by unfold isB; exact if_neg h
theorem isB_ne {P : Prop} : isB P ≠ 0 ↔ P := by
  by_cases h : P
  · rw [isB_T h]
    exact ⟨fun _ => h, fun _ => by decide⟩
  · rw [isB_F h]
    exact ⟨fun q => absurd rfl q, fun q => absurd q h⟩
theorem isB_dec {P : Prop} {_ : Decidable P} : bI (decide P) = isB P := by
  by_cases h : P
  · rw [isB_T h, decide_eq_true h]; rfl
  · rw [isB_F h, decide_eq_false h]; rfl
set_option maxRecDepth 100000 in
set_option maxHeartbeats 4000000 in
theorem mr_isTerm (L : Nat) (xs : Nat → Int32) (d : Nat) (σ : kS) (n : Nat) (x : Int32) (h : σ 232 9 = nI n) (hn : n < 1000000) : kXM kT L xs (d + 1) 154 [.ref 232, .int x] σ (fun r σ' => r = some (.int (isB (isN x n))) ∧ σ = σ') := by
  unfold kXM
  repeat refine kX_one rfl ?_
  refine kX_cal (mr_in L xs d σ _ _ _) rfl (Or.inr rfl) rfl rfl rfl (fun r1 σ1 q1 => ?_)
  obtain ⟨rfl, rfl⟩ := q1
  refine kX_ret (i := .ireturn) (len := 1) rfl (Or.inr rfl) (jend_b rfl (bI_01 _)) ⟨?_, rfl⟩
  rw [isB_dec, ← in_N hn, ← h]
  rfl
end
section
/-! the reference: TERMS made by calls -/
theorem mU_mU (σ : kS) (K F S Z G nx hd o K' F' S' Z' G' nx' hd' o' : Nat → Int32) : mU (mU σ K F S Z G nx hd o) K' F' S' Z' G' nx' hd' o' = mU σ K' F' S' Z' G' nx' hd' o' :=
  mU_of (σ := σ) (τ := mU (mU σ K F S Z G nx hd o) K' F' S' Z' G' nx' hd' o') (fun c h1 h2 h3 h4 h5 h6 h7 h8 => by
    simp [mU, va_up, h1, h2, h3, h4, h5, h6, h7, h8])
/-- σ' is σ with the TERM (k, a, c) at n -/
def mNw (σ σ' : kS) (n k : Nat) (a c : Int32) : Prop := ∃ z g nx hd jd, σ' = mU σ (upd (σ 233) n (nI k)) (upd (σ 234) n a) (upd (σ 235) n c) (upd (σ 236) n z) (upd (σ 237) n g) nx hd (mO (σ 232) n jd) ∧ mTb σ' (n + 1) 200
def mO0 (o : Nat → Int32) (jd : Int32) : Nat → Int32 := upd (upd (upd o 10 (nI 200)) 49 jd) 47 0
/-- σ' is σ without those that have no number, and without a row -/
def mRs (σ σ' : kS) (n : Nat) : Prop := ∃ hd jd, σ' = mU σ (σ 233) (σ 234) (σ 235) (σ 236) (σ 237) (σ 243) hd (mO0 (σ 232) jd) ∧ mTb σ' n 200
theorem mO_mO0 (o : Nat → Int32) (n : Nat) (jd jd' : Int32) : mO (mO0 o jd) n jd' = mO o n jd' := by
  funext j
  unfold mO mO0 upd
  repeat' split
  all_goals first | rfl | omega
theorem mNw_Rs {σ τ σ' : kS} {n k : Nat} {a c : Int32} (h1 : mRs σ τ n) (h2 : mNw τ σ' n k a c) : mNw σ σ' n k a c := by
  obtain ⟨hd, jd, rfl, hT⟩ := h1
  obtain ⟨z, g, nx, hd2, jd2, rfl, hT2⟩ := h2
  refine ⟨z, g, nx, hd2, jd2, ?_, hT2⟩
  rw [mU_mU]
  have e : mO (mU σ (σ 233) (σ 234) (σ 235) (σ 236) (σ 237) (σ 243) hd (mO0 (σ 232) jd) 232) n jd2 = mO (σ 232) n jd2 := mO_mO0 _ _ _ _
  rw [e]
  rfl
set_option maxRecDepth 100000 in
set_option maxHeartbeats 4000000 in
theorem mr_oldOrNew (L : Nat) (xs : Nat → Int32) (d : Nat) (σ : kS) (n b k : Nat) (a c : Int32) (x y : Nat) (h : mTb σ n b) (hk : 3 < k) (hw : tNw k a c x y n) (h6 : k = 6 ∨ k = 8 → mAG σ n y) (h7 : k = 7 → mAG σ n x) :
    kXM kT L xs (d + 4) 157 [.ref 232, .int (nI k), .int a, .int c] σ (fun r σ' =>
      (¬ msz (σ 236) k x y ≤ nI 24 ∧ r = some (.int (-2)) ∧ σ = σ') ∨
      (msz (σ 236) k x y ≤ nI 24 ∧ (∃ t, t < n ∧ mIs σ t (nI k) a c ∧ r = some (.int (nI t))) ∧ σ = σ') ∨
      (msz (σ 236) k x y ≤ nI 24 ∧ (∀ t, t < n → ¬ mIs σ t (nI k) a c) ∧ n = 200 ∧ r = some (.int (-4)) ∧ (σ = σ' ∨ mRs σ σ' n)) ∨
      (msz (σ 236) k x y ≤ nI 24 ∧ (∀ t, t < n → ¬ mIs σ t (nI k) a c) ∧ n < 200 ∧ r = some (.int (nI n)) ∧ mNw σ σ' n k a c)) := by
  have hk9 : k ≤ 9 := by rcases hw with h | h | h <;> omega
  have hn := h.1
  have hw' : tNw k a c x y 1000 := tNw_mono hw (by omega)
  unfold kXM
  repeat refine kX_one rfl ?_
  refine kX_cal (mr_size L xs (d + 2) σ k a c x y hw') rfl (Or.inr rfl) rfl rfl rfl (fun r1 σ1 q1 => ?_)
  obtain ⟨rfl, rfl⟩ := q1
  repeat refine kX_one rfl ?_
  repeat refine kX_one rfl ?_
  refine kX_if (fun q => ?_) (fun q => ?_)
  · have q : msz (σ 236) k x y ≤ nI 24 := of_decide_eq_true q
    repeat refine kX_one rfl ?_
    refine kX_cal (mTb_find h L xs (d + 2) k a c hk hk9) rfl (Or.inr rfl) rfl rfl rfl (fun r1 σ1 q1 => ?_)
    obtain ⟨rfl, q1⟩ := q1
    /- behind the search: t is -1, in contents that are σ or without the unnumbered -/
    have tail : ∀ τ, (σ = τ ∨ mRs σ τ n) → (∀ t, t < n → ¬ mIs σ t (nI k) a c) → ∀ lv, lv = [(4, Value.int (-1)), (0, .ref 232), (1, .int (nI k)), (2, .int a), (3, .int c)] → kX kT L xs (d + 4) 157 47 lv [] τ (fun r σ' =>
      (¬ msz (σ 236) k x y ≤ nI 24 ∧ r = some (.int (-2)) ∧ σ = σ') ∨
      (msz (σ 236) k x y ≤ nI 24 ∧ (∃ t, t < n ∧ mIs σ t (nI k) a c ∧ r = some (.int (nI t))) ∧ σ = σ') ∨
      (msz (σ 236) k x y ≤ nI 24 ∧ (∀ t, t < n → ¬ mIs σ t (nI k) a c) ∧ n = 200 ∧ r = some (.int (-4)) ∧ (σ = σ' ∨ mRs σ σ' n)) ∨
      (msz (σ 236) k x y ≤ nI 24 ∧ (∀ t, t < n → ¬ mIs σ t (nI k) a c) ∧ n < 200 ∧ r = some (.int (nI n)) ∧ mNw σ σ' n k a c)) := by
      intro τ hτ hno lv hlv
      subst hlv
      have hT : ∃ b', mTb τ n b' := by
        rcases hτ with rfl | ⟨hd, jd, -, hT⟩
        · exact ⟨b, h⟩
        · exact ⟨200, hT⟩
      obtain ⟨b', hT⟩ := hT
      repeat refine kX_one rfl ?_
      repeat refine kX_one rfl ?_
      refine kX_if (fun q2 => ?_) (fun q2 => ?_)
      · have q2 : n ≠ 200 := fun e => qne q2 (by rw [hT.2.2.2.1, e]; decide)
        repeat refine kX_one rfl ?_
        have hcond : (k = 6 ∨ k = 8 → mAG τ n y) ∧ (k = 7 → mAG τ n x) ∧ (3 < k → ∀ u, u < n → ¬ mIs τ u (nI k) a c) ∧ msz (τ 236) k x y ≤ nI 24 := by
          rcases hτ with rfl | ⟨hd, jd, rfl, -⟩
          · exact ⟨h6, h7, fun _ => hno, q⟩
          · exact ⟨h6, h7, fun _ => hno, q⟩
        refine kX_cal (mr_last L xs d τ n b' k a c x y hT (by omega) hw hcond.1 hcond.2.1 hcond.2.2.1 hcond.2.2.2) rfl (Or.inr rfl) rfl rfl rfl (fun r1 σ1 q1 => ?_)
        obtain ⟨rfl, hnew⟩ := q1
        repeat refine kX_one rfl ?_
        refine kX_ret (i := .ireturn) (len := 1) rfl (Or.inr rfl) rfl (Or.inr (Or.inr (Or.inr ⟨q, hno, by omega, rfl, ?_⟩)))
        rcases hτ with rfl | hτ
        · exact hnew
        · exact mNw_Rs hτ hnew
      · have q2 : n = 200 := nI_inj (hT.2.2.2.1.symm.trans (qneF q2))
        repeat refine kX_one rfl ?_
        refine kX_ret (i := .ireturn) (len := 1) rfl (Or.inr rfl) rfl (Or.inr (Or.inr (Or.inl ⟨q, hno, q2, rfl, hτ⟩)))
    rcases q1 with ⟨rfl, hno⟩ | ⟨t, rfl, ht, hi⟩
    · iterate 4 (refine kX_one rfl ?_)
      exact tail σ (Or.inl rfl) (fun t ht => hno t (Or.inl ht)) _ rfl
    · have ht1 : t < 1000 := by have := h.2.2.1; unfold mv at ht; omega
      iterate 3 (refine kX_one rfl ?_)
      repeat refine kX_one rfl ?_
      refine kX_if (fun q2 => ?_) (fun q2 => ?_)
      · have q2 := qlt q2 t 200
        iterate 1 (refine kX_one rfl ?_)
        repeat refine kX_one rfl ?_
        refine kX_ifF (decide_eq_false (nI_pos (by omega))) ?_
        repeat refine kX_one rfl ?_
        refine kX_ret (i := .ireturn) (len := 1) rfl (Or.inr rfl) rfl (Or.inr (Or.inl ⟨q, ⟨t, by unfold mv at ht; omega, hi, rfl⟩, rfl⟩))
      · have q2 := qltF q2 t 200
        repeat refine kX_one rfl ?_
        refine kX_cal (mr_release L xs (d + 2) σ n b 200 h (by decide) h.2.1) rfl (Or.inr rfl) rfl rfl rfl (fun r1 σ1 q1 => ?_)
        obtain ⟨rfl, hd, rfl, hT⟩ := q1
        iterate 5 (refine kX_one rfl ?_)
        refine kX_lv [(4, Value.int (-1)), (0, .ref 232), (1, .int (nI k)), (2, .int a), (3, .int c)] rfl rfl rfl ?_
        refine tail (va_up (mRel σ 200 hd) 232 (upd (mRel σ 200 hd 232) 47 (Int32.ofInt 0))) (Or.inr ⟨hd, (mRel σ 200 hd) 232 49, ?_, hT⟩) (fun u hu hi2 => ?_) _ rfl
        · have := mU_of (σ := σ) (τ := va_up (mRel σ 200 hd) 232 (upd (mRel σ 200 hd 232) 47 (Int32.ofInt 0))) (fun c h1 h2 h3 h4 h5 h6 h7 h8 => by
            simp [mRel, va_up, h1, h2, h3, h4, h5, h6, h7, h8])
          rw [this]
          have e : (va_up (mRel σ 200 hd) 232 (upd (mRel σ 200 hd 232) 47 (Int32.ofInt 0))) 232 = mO0 (σ 232) ((mRel σ 200 hd) 232 49) := rfl
          rw [e]
          rfl
        · have := h.2.2.2.2.2.1.2.2 t u ht (Or.inl hu) (mcp_iff h hk hk9 ht hi).2 (hi.1.trans hi2.1.symm) (hi.2.1.trans hi2.2.1.symm) (hi.2.2.trans hi2.2.2.symm)
          omega
  · have q : ¬ msz (σ 236) k x y ≤ nI 24 := of_decide_eq_false q
    repeat refine kX_one rfl ?_
    refine kX_ret (i := .ireturn) (len := 1) rfl (Or.inr rfl) rfl (Or.inl ⟨q, rfl, rfl⟩)
set_option maxRecDepth 100000 in
set_option maxHeartbeats 4000000 in
theorem mr_agent (L : Nat) (xs : Nat → Int32) (d : Nat) (σ : kS) (n b : Nat) (h : mTb σ n b) (v : Int32) (hv : v = 0 ∨ v = 1) : kXM kT L xs (d + 4) 155 [.ref 232, .int v] σ (fun r σ' => (n = 200 ∧ r = some (.int (-4)) ∧ σ = σ') ∨ (n < 200 ∧ r = some (.int (nI n)) ∧ ∃ τ, mNw σ τ n 0 (-1) (-1) ∧ σ' = va_up τ 238 (upd (σ 238) n v))) := by
  unfold kXM
  repeat refine kX_one rfl ?_
  have hn := h.1
  repeat refine kX_one rfl ?_
  refine kX_if (fun q => ?_) (fun q => ?_)
  · have q : n ≠ 200 := fun e => qne q (by rw [h.2.2.2.1, e]; decide)
    repeat refine kX_one rfl ?_
    refine kX_cal (mr_last L xs d σ n b 0 (-1) (-1) 0 0 h (by omega) (Or.inl ⟨by omega, rfl, rfl⟩) (by omega) (by omega) (by omega) (show nI 1 ≤ nI 24 by decide)) rfl (Or.inr rfl) rfl rfl rfl (fun r1 σ1 q1 => ?_)
    obtain ⟨rfl, hnew⟩ := q1
    repeat refine kX_one rfl ?_
    refine kX_bastN rfl rfl (by decide) (n) (by first | rfl | decide) (by omega) (hv) ?_
    repeat refine kX_one rfl ?_
    refine kX_ret (i := .ireturn) (len := 1) rfl (Or.inr rfl) rfl (Or.inr ⟨by omega, rfl, σ1, hnew, ?_⟩)
    obtain ⟨z, g, nx, hd, jd, rfl, -⟩ := hnew
    rfl
  · have q : n = 200 := nI_inj (h.2.2.2.1.symm.trans (qneF q))
    repeat refine kX_one rfl ?_
    refine kX_ret (i := .ireturn) (len := 1) rfl (Or.inr rfl) rfl (Or.inl ⟨q, rfl, rfl⟩)
end
section
/-! lists that lie in rows; the VARIABLES in a TERM -/
def lst (A : Nat → Int32) (l : List Nat) : Prop := ∀ i (h : i < l.length), A i = nI (l[i]'h)
theorem lst_nil (A : Nat → Int32) : lst A [] := fun i h => absurd h (Nat.not_lt_zero i)
theorem lst_push {A : Nat → Int32} {l : List Nat} (h : lst A l) (x : Nat) : lst (upd A l.length (nI x)) (l ++ [x]) := by
  intro i hi
  rw [List.length_append] at hi
  simp only [List.length_cons, List.length_nil] at hi
  by_cases e : i = l.length
  · subst e
    rw [pk_us]
    simp
  · have hl : i < l.length := by omega
    rw [pk_un e, h i hl, List.getElem_append_left hl]
theorem lst_pop {A : Nat → Int32} {l : List Nat} {x : Nat} (h : lst A (l ++ [x])) : A l.length = nI x ∧ lst A l := by
  constructor
  · have := h l.length (by simp)
    rw [this]
    simp
  · intro i hi
    have := h i (by rw [List.length_append]; simp; omega)
    rw [this, List.getElem_append_left hi]
/-- each one once, as it comes first -/
def ddl (acc l : List Nat) : List Nat := l.foldl (fun a x => if x ∈ a then a else a ++ [x]) acc
theorem ddl_app (acc l m : List Nat) : ddl acc (l ++ m) = ddl (ddl acc l) m := List.foldl_append
theorem ddl_cons (acc : List Nat) (x : Nat) (l : List Nat) : ddl acc (x :: l) = ddl (if x ∈ acc then acc else acc ++ [x]) l := rfl
/-- the VARIABLES in a TERM, from left to right -/
def tvs (K F S : Nat → Int32) (t : Nat) : List Nat := tA (fun t => if K t = nI 3 then [t] else []) (fun _ a b => a ++ b.getD []) K F S t
section TVS
variable {V AG : Nat → Prop} {K F S : Nat → Int32}
theorem tsz_pos (hV : ∀ t, V t → t < 100000 ∧ tOk V AG K F S t) {t : Nat} (ht : V t) : 1 ≤ tsz K F S t := by
  unfold tsz
  rcases (hV t ht).2 with ⟨k, h3, hk, -, -⟩ | ⟨k, x, y, h3, hk, hx, hy, h4, h5, h6, h7⟩ | ⟨k, x, h3, hk, hx, hy, h4, h6⟩
  · rw [tA_0 hk h3]
    omega
  · rw [tA_2 hV hk hx hy (by omega) (by omega) h4 h5 h6 h7]
    omega
  · rw [tA_1 hV hk hx hy (by omega) (by omega) h4 h6]
    omega
/-- GROUND: no VARIABLE in it -/
theorem tgd_tvs (hV : ∀ t, V t → t < 100000 ∧ tOk V AG K F S t) : ∀ t, V t → (tgd K F S t = true ↔ tvs K F S t = []) := by
  intro t
  induction t using Nat.strongRecOn with
  | _ t ih =>
    intro ht
    unfold tgd tvs
    rcases (hV t ht).2 with ⟨k, h3, hk, -, -⟩ | ⟨k, x, y, h3, hk, hx, hy, h4, h5, h6, h7⟩ | ⟨k, x, h3, hk, hx, hy, h4, h6⟩
    · rw [tA_0 hk h3, tA_0 hk h3]
      by_cases e : K t = nI 3
      · simp [e]
      · simp [e]
    · rw [tA_2 hV hk hx hy (by omega) (by omega) h4 h5 h6 h7, tA_2 hV hk hx hy (by omega) (by omega) h4 h5 h6 h7]
      have i1 := ih x h4 h6
      have i2 := ih y h5 h7
      unfold tgd tvs at i1 i2
      simp only [Option.getD_some, Bool.and_eq_true, List.append_eq_nil_iff, i1, i2]
    · rw [tA_1 hV hk hx hy (by omega) (by omega) h4 h6, tA_1 hV hk hx hy (by omega) (by omega) h4 h6]
      have i1 := ih x h4 h6
      unfold tgd tvs at i1
      simp only [Option.getD_none, Bool.and_true, List.append_nil, i1]
/-- what is in the row is a VARIABLE of V -/
theorem tvs_mem (hV : ∀ t, V t → t < 100000 ∧ tOk V AG K F S t) : ∀ t, V t → ∀ v ∈ tvs K F S t, V v ∧ K v = nI 3 ∧ v ≤ t := by
  intro t
  induction t using Nat.strongRecOn with
  | _ t ih =>
    intro ht v hv
    unfold tvs at hv
    rcases (hV t ht).2 with ⟨k, h3, hk, -, -⟩ | ⟨k, x, y, h3, hk, hx, hy, h4, h5, h6, h7⟩ | ⟨k, x, h3, hk, hx, hy, h4, h6⟩
    · rw [tA_0 hk h3] at hv
      split at hv
      · next e =>
        rw [List.mem_singleton] at hv
        subst hv
        exact ⟨ht, e, Nat.le_refl _⟩
      · cases hv
    · rw [tA_2 hV hk hx hy (by omega) (by omega) h4 h5 h6 h7] at hv
      rcases List.mem_append.mp hv with q | q
      · have := ih x h4 h6 v q
        exact ⟨this.1, this.2.1, by omega⟩
      · have := ih y h5 h7 v q
        exact ⟨this.1, this.2.1, by omega⟩
    · rw [tA_1 hV hk hx hy (by omega) (by omega) h4 h6] at hv
      rcases List.mem_append.mp hv with q | q
      · have := ih x h4 h6 v q
        exact ⟨this.1, this.2.1, by omega⟩
      · cases q
end TVS
/-- contents behind findVariables -/
def fvS (σ : kS) (W ST : Nat → Int32) (m : Int32) : kS := va_up (va_up (va_up σ 252 W) 251 ST) 232 (upd (σ 232) 22 m)
set_option maxRecDepth 100000 in
set_option maxHeartbeats 4000000 in
theorem mr_fv_in (L : Nat) (xs : Nat → Int32) (d : Nat) (σ : kS) (W ST : Nat → Int32) (acc : List Nat) (n t : Nat) (tv : Int32) (hl : lst ST acc) (ha : acc.length ≤ 24) (ht : t < 1000) (h1000 : ∀ x ∈ acc, x < 1000) (Q : Option Value → kS → Prop)
    (he : kX kT L xs (d + 1) 164 82 [(4, .int (isB (t ∈ acc))), (0, .ref 232), (1, .int tv), (2, .int (nI n)), (3, .int (nI t))] [] (fvS σ W ST (nI acc.length)) Q) :
    ∀ k : Nat, k ≤ acc.length → kX kT L xs (d + 1) 164 44 [(5, .int (nI k)), (4, .int (isB (∃ i, i < k ∧ acc[i]? = some t))), (3, .int (nI t)), (2, .int (nI n)), (0, .ref 232), (1, .int tv)] [] (fvS σ W ST (nI acc.length)) Q := by
  refine kX_while (fun k : Nat => [(5, .int (nI k)), (4, .int (isB (∃ i, i < k ∧ acc[i]? = some t))), (3, .int (nI t)), (2, .int (nI n)), (0, .ref 232), (1, .int tv)]) (fun _ => fvS σ W ST (nI acc.length)) _ (fun k => acc.length - k) ?_
  intro k hk ih
  iterate 4 (refine kX_one rfl ?_)
  repeat refine kX_one rfl ?_
  refine kX_if (fun q => ?_) (fun q => ?_)
  · have q := qge q k acc.length
    have e : isB (∃ i, i < k ∧ acc[i]? = some t) = isB (t ∈ acc) := by
      have : (∃ i, i < k ∧ acc[i]? = some t) ↔ t ∈ acc := by
        rw [List.mem_iff_getElem?]
        exact ⟨fun ⟨i, _, h⟩ => ⟨i, h⟩, fun ⟨i, h⟩ => ⟨i, by have := (List.getElem?_eq_some_iff.mp h).1; omega, h⟩⟩
      rw [propext this]
    rw [e]
    refine kX_lv ([(4, .int (isB (t ∈ acc))), (0, .ref 232), (1, .int tv), (2, .int (nI n)), (3, .int (nI t))]) rfl rfl rfl ?_
    exact he
  · have q := qgeF q k acc.length
    have hgo : ∀ v : Int32, v = isB (∃ i, i < k + 1 ∧ acc[i]? = some t) → kX kT L xs (d + 1) 164 74 [(5, .int (nI k)), (4, .int (isB (∃ i, i < k ∧ acc[i]? = some t))), (3, .int (nI t)), (2, .int (nI n)), (0, .ref 232), (1, .int tv)] [.int v] (fvS σ W ST (nI acc.length)) Q := by
      intro v hv
      subst hv
      iterate 3 (refine kX_one rfl ?_)
      have := ih (k + 1) q (by omega)
      rw [← nI_1] at this
      exact this
    iterate 1 (refine kX_one rfl ?_)
    repeat refine kX_one rfl ?_
    refine kX_if (fun q2 => ?_) (fun q2 => ?_)
    · have q2 := isB_ne.mp (qne q2)
      obtain ⟨i, hi, hi2⟩ := q2
      iterate 2 (refine kX_one rfl ?_)
      exact hgo _ (isB_T ⟨i, by omega, hi2⟩).symm
    · have q2 : ¬ ∃ i, i < k ∧ acc[i]? = some t := fun h => isB_ne.mpr h (qneF q2)
      repeat refine kX_one rfl ?_
      refine kX_ialdN rfl rfl (by decide) (k) (by first | rfl | decide) (by omega) ?_
      iterate 1 (refine kX_one rfl ?_)
      have hk2 : ST k = nI acc[k] := hl k q
      have hlt := h1000 acc[k] (List.getElem_mem q)
      repeat refine kX_one rfl ?_
      refine kX_if (fun q3 => ?_) (fun q3 => ?_)
      · have q3 : ST k ≠ nI t := qne q3
        iterate 1 (refine kX_one rfl ?_)
        refine hgo _ (isB_F ?_).symm
        rintro ⟨i, hi, hi2⟩
        by_cases e : i = k
        · subst e
          rw [List.getElem?_eq_getElem q] at hi2
          rw [hk2, Option.some.inj hi2] at q3
          exact q3 rfl
        · exact q2 ⟨i, by omega, hi2⟩
      · have q3 : ST k = nI t := qneF q3
        iterate 2 (refine kX_one rfl ?_)
        refine hgo _ (isB_T ⟨k, by omega, ?_⟩).symm
        rw [List.getElem?_eq_getElem q]
        exact congrArg some (nI_inj (hk2.symm.trans q3))
theorem snoc_cases (l : List Nat) : l = [] ∨ ∃ l0 x, l = l0 ++ [x] := by
  induction l with
  | nil => exact Or.inl rfl
  | cons a l ih =>
    rcases ih with rfl | ⟨l0, x, rfl⟩
    · exact Or.inr ⟨[], a, rfl⟩
    · exact Or.inr ⟨a :: l0, x, rfl⟩
theorem sum_len {f : Nat → Nat} : ∀ (l : List Nat), (∀ x ∈ l, 1 ≤ f x) → l.length ≤ (l.map f).sum
  | [], _ => Nat.le_refl _
  | a :: l, h => by
    have h1 := h a List.mem_cons_self
    have h2 := sum_len l (fun x hx => h x (List.mem_cons_of_mem _ hx))
    simp only [List.length_cons, List.map_cons, List.sum_cons]
    omega
set_option maxRecDepth 100000 in
set_option maxHeartbeats 4000000 in
theorem mr_findVariables (L : Nat) (xs : Nat → Int32) (d : Nat) (σ : kS) (n b t : Nat) (h : mTb σ n b) (ht : t < n) : kXM kT L xs (d + 1) 164 [.ref 232, .int (nI t)] σ (fun r σ' => r = none ∧ ∃ W ST, σ' = fvS σ W ST (nI (ddl [] (tvs (σ 233) (σ 234) (σ 235) t)).length) ∧ lst ST (ddl [] (tvs (σ 233) (σ 234) (σ 235) t)) ∧ (ddl [] (tvs (σ 233) (σ 234) (σ 235) t)).length ≤ 24) := by
  obtain ⟨hn, hb1, hb2, -, -, hW, hG, -, -, hS⟩ := h
  have hV := hW.1
  have h1000 : ∀ x, mv n b x → x < 1000 := fun x q => by unfold mv at q; omega
  unfold kXM
  generalize hz : tsz (σ 233) (σ 234) (σ 235) = sz at hS
  have hpos : ∀ x, mv n b x → 1 ≤ sz x := fun x q => by rw [← hz]; exact tsz_pos hV q
  iterate 9 (refine kX_one rfl ?_)
  refine kX_iastN rfl rfl (by decide) (0) (by first | rfl | decide) (by decide) ?_
  have loop := kX_while (T := kT) (L := L) (xs := xs) (d := d + 1) (mi := 164) (pc := 14) (Q := fun r σ' => r = none ∧ ∃ W ST, σ' = fvS σ W ST (nI (ddl [] (tvs (σ 233) (σ 234) (σ 235) t)).length) ∧ lst ST (ddl [] (tvs (σ 233) (σ 234) (σ 235) t)) ∧ (ddl [] (tvs (σ 233) (σ 234) (σ 235) t)).length ≤ 24)
    (fun q : List Nat × List Nat × (Nat → Int32) × (Nat → Int32) => [(2, .int (nI q.1.length)), (0, .ref 232), (1, .int (nI t))])
    (fun q => fvS σ q.2.2.1 q.2.2.2 (nI q.2.1.length))
    (fun q => lst q.2.2.1 q.1 ∧ lst q.2.2.2 q.2.1 ∧ (∀ x ∈ q.1, mv n b x) ∧ q.2.1.length + (q.1.map sz).sum ≤ 24 ∧ ddl q.2.1 ((q.1.reverse.map (tvs (σ 233) (σ 234) (σ 235))).flatten) = ddl [] (tvs (σ 233) (σ 234) (σ 235) t) ∧ ∀ x ∈ q.2.1, mv n b x)
    (fun q => (q.1.map sz).sum) ?_ ([t], [], upd (σ 252) 0 (nI t), σ 251) ⟨lst_push (lst_nil _) t, lst_nil _, fun x hx => by rw [List.mem_singleton] at hx; subst hx; exact Or.inl ht, by simp; exact hS t ht, by simp, fun x hx => by cases hx⟩
  · refine kX_to _ _ rfl rfl rfl ?_ loop
    funext c; unfold fvS va_up; repeat' split
    all_goals first | rfl | omega | (subst_vars; rfl) | (funext j; unfold upd; repeat' split; all_goals first | rfl | omega | (subst_vars; rfl))
  · rintro ⟨l, acc, W, ST⟩ ⟨i1, i2, i3, i4, i5, i6⟩ ih
    dsimp only at i1 i2 i3 i4 i5 i6 ih ⊢
    rcases snoc_cases l with rfl | ⟨l0, x, rfl⟩
    · iterate 2 (refine kX_one rfl ?_)
      refine kX_ret (i := .return_) (len := 1) rfl (Or.inr rfl) rfl ⟨rfl, W, ST, ?_, ?_, ?_⟩
      · have : acc = ddl [] (tvs (σ 233) (σ 234) (σ 235) t) := i5
        rw [← this]
      · have : acc = ddl [] (tvs (σ 233) (σ 234) (σ 235) t) := i5
        rw [← this]
        exact i2
      · have : acc = ddl [] (tvs (σ 233) (σ 234) (σ 235) t) := i5
        rw [← this]
        omega
    · have hx : mv n b x := i3 x (by simp)
      have hx1 := h1000 x hx
      have hxp := hpos x hx
      obtain ⟨w1, w2⟩ := lst_pop i1
      have hs : ((l0 ++ [x]).map sz).sum = (l0.map sz).sum + sz x := by simp
      rw [hs] at i4 ih
      have hl0 := sum_len l0 (fun z hz => hpos z (i3 z (by simp [hz])))
      have i3' : ∀ z ∈ l0, mv n b z := fun z hz => i3 z (by simp [hz])
      have e5 : ((l0 ++ [x]).reverse.map (tvs (σ 233) (σ 234) (σ 235))).flatten = tvs (σ 233) (σ 234) (σ 235) x ++ (l0.reverse.map (tvs (σ 233) (σ 234) (σ 235))).flatten := by simp
      rw [e5, ddl_app] at i5
      have elen : nI (l0 ++ [x]).length = nI (l0.length + 1) := by simp
      rw [elen]
      iterate 1 (refine kX_one rfl ?_)
      repeat refine kX_one rfl ?_
      refine kX_ifF (decide_eq_false (nI_nle (by omega) (by omega))) ?_
      iterate 4 (refine kX_one rfl ?_)
      refine kX_ialdN rfl rfl (by decide) l0.length (pk_m1 _) (by omega) ?_
      rw [show fvS σ W ST (nI acc.length) 252 l0.length = nI x from w1, show nI (l0.length + 1) + Int32.ofInt (-1) = nI l0.length from pk_m1 _]
      iterate 4 (refine kX_one rfl ?_)
      refine kX_ialdN rfl rfl (by decide) (x) (by first | rfl | decide) (hx1) ?_
      iterate 1 (refine kX_one rfl ?_)
      have hback : ∀ (τ : kS) (l' acc' : List Nat) (W' ST' : Nat → Int32), τ = fvS σ W' ST' (nI acc'.length) → lst W' l' → lst ST' acc' → (∀ x ∈ l', mv n b x) → acc'.length + (l'.map sz).sum ≤ 24 → (l'.map sz).sum < (l0.map sz).sum + sz x → ddl acc' ((l'.reverse.map (tvs (σ 233) (σ 234) (σ 235))).flatten) = ddl [] (tvs (σ 233) (σ 234) (σ 235) t) → (∀ x ∈ acc', mv n b x) → ∀ lv, nk lv = true → ([(2, Value.int (nI l'.length)), (0, .ref 232), (1, .int (nI t))] : jL).map (fun q => jl lv q.1) = ([(2, Value.int (nI l'.length)), (0, .ref 232), (1, .int (nI t))] : jL).map (fun q => some q.2) → kX kT L xs (d + 1) 164 158 lv [] τ (fun r σ' => r = none ∧ ∃ W ST, σ' = fvS σ W ST (nI (ddl [] (tvs (σ 233) (σ 234) (σ 235) t)).length) ∧ lst ST (ddl [] (tvs (σ 233) (σ 234) (σ 235) t)) ∧ (ddl [] (tvs (σ 233) (σ 234) (σ 235) t)).length ≤ 24) := by
        intro τ l' acc' W' ST' e j1 j2 j3 j4 j5 j6 j7 lv hk hlv
        refine kX_lv _ hk rfl hlv ?_
        rw [e]
        iterate 1 (refine kX_one rfl ?_)
        exact ih (l', acc', W', ST') ⟨j1, j2, j3, j4, j6, j7⟩ j5
      repeat refine kX_one rfl ?_
      refine kX_if (fun q => ?_) (fun q => ?_)
      · have q : σ 233 x ≠ nI 3 := qne q
        iterate 3 (refine kX_one rfl ?_)
        refine kX_baldN rfl rfl (by decide) (x) (by first | rfl | decide) (hx1) ?_
        rw [show fvS σ W ST (nI acc.length) 237 x = bI (tgd (σ 233) (σ 234) (σ 235) x) from hG x hx]
        repeat refine kX_one rfl ?_
        refine kX_if (fun q2 => ?_) (fun q2 => ?_)
        · have q2 := (bI_ne _).mp (qne q2)
          rw [(tgd_tvs hV x hx).mp q2] at i5
          exact hback _ l0 acc W ST rfl w2 i2 i3' (by omega) (by omega) i5 i6 _ rfl rfl
        · have q2 := (bI_eq _).mp (qneF q2)
          rcases (hV x hx).2 with ⟨k, h3, hk, -, -⟩ | ⟨k, y, z, h3, hk, hy, hz2, h4, h5, h6, h7⟩ | ⟨k, y, h3, hk, hy, hz2, h4, h6⟩
          · exfalso
            unfold tgd at q2
            rw [tA_0 hk h3] at q2
            exact of_decide_eq_false q2 q
          · have e6 : tvs (σ 233) (σ 234) (σ 235) x = tvs (σ 233) (σ 234) (σ 235) y ++ tvs (σ 233) (σ 234) (σ 235) z := by
              unfold tvs
              rw [tA_2 hV hk hy hz2 (by omega) (by omega) h4 h5 h6 h7]
              rfl
            have e7 : sz x = 1 + sz y + sz z := by
              rw [← hz]
              unfold tsz
              rw [tA_2 hV hk hy hz2 (by omega) (by omega) h4 h5 h6 h7]
              rfl
            iterate 3 (refine kX_one rfl ?_)
            refine kX_ialdN rfl rfl (by decide) (x) (by first | rfl | decide) (hx1) ?_
            rw [show fvS σ W ST (nI acc.length) 235 x = nI z from hz2]
            repeat refine kX_one rfl ?_
            refine kX_ifF (decide_eq_false (nI_pos (by have := h1000 z h7; omega))) ?_
            iterate 6 (refine kX_one rfl ?_)
            refine kX_ialdN rfl rfl (by decide) (x) (by first | rfl | decide) (hx1) ?_
            rw [show fvS σ W ST (nI acc.length) 235 x = nI z from hz2]
            refine kX_iastN rfl rfl (by decide) (l0.length) (by first | rfl | decide) (by omega) ?_
            iterate 7 (refine kX_one rfl ?_)
            refine kX_ialdN rfl rfl (by decide) (x) (by first | rfl | decide) (hx1) ?_
            rw [show (va_up (fvS σ W ST (nI acc.length)) 252 (upd (fvS σ W ST (nI acc.length) 252) l0.length (nI z))) 234 x = nI y from hy]
            refine kX_iastN rfl rfl (by decide) (l0.length + 1) (nI_1 _) (by omega) ?_
            iterate 1 (refine kX_one rfl ?_)
            refine hback _ (l0 ++ [z] ++ [y]) acc (upd (upd W l0.length (nI z)) (l0 ++ [z]).length (nI y)) ST ?_ (lst_push (lst_push w2 z) y) i2 ?_ ?_ ?_ ?_ i6 _ rfl ?_
            · rw [show (l0 ++ [z]).length = l0.length + 1 by simp]
              funext c; unfold fvS va_up; repeat' split
              all_goals first | rfl | omega | (subst_vars; rfl) | (funext j; unfold upd; repeat' split; all_goals first | rfl | omega | (subst_vars; rfl))
            · intro u hu
              simp only [List.mem_append, List.mem_singleton] at hu
              rcases hu with (hu | rfl) | rfl
              · exact i3' u hu
              · exact h7
              · exact h6
            · simp only [List.map_append, List.sum_append, List.map_cons, List.map_nil, List.sum_cons, List.sum_nil]
              omega
            · simp only [List.map_append, List.sum_append, List.map_cons, List.map_nil, List.sum_cons, List.sum_nil]
              omega
            · rw [e6, ddl_app] at i5
              rw [show ((l0 ++ [z] ++ [y]).reverse.map (tvs (σ 233) (σ 234) (σ 235))).flatten = tvs (σ 233) (σ 234) (σ 235) y ++ (tvs (σ 233) (σ 234) (σ 235) z ++ (l0.reverse.map (tvs (σ 233) (σ 234) (σ 235))).flatten) by simp, ddl_app, ddl_app]
              exact i5
            · rw [show nI (l0 ++ [z] ++ [y]).length = nI l0.length + 1 + 1 by rw [nI_1, nI_1]; simp]
              rfl
          · have e6 : tvs (σ 233) (σ 234) (σ 235) x = tvs (σ 233) (σ 234) (σ 235) y := by
              unfold tvs
              rw [tA_1 hV hk hy hz2 (by omega) (by omega) h4 h6]
              exact List.append_nil _
            have e7 : sz x = 1 + sz y := by
              rw [← hz]
              unfold tsz
              rw [tA_1 hV hk hy hz2 (by omega) (by omega) h4 h6]
              rfl
            iterate 3 (refine kX_one rfl ?_)
            refine kX_ialdN rfl rfl (by decide) (x) (by first | rfl | decide) (hx1) ?_
            rw [show fvS σ W ST (nI acc.length) 235 x = -1 from hz2]
            iterate 7 (refine kX_one rfl ?_)
            refine kX_ialdN rfl rfl (by decide) (x) (by first | rfl | decide) (hx1) ?_
            rw [show fvS σ W ST (nI acc.length) 234 x = nI y from hy]
            refine kX_iastN rfl rfl (by decide) (l0.length) (by first | rfl | decide) (by omega) ?_
            iterate 1 (refine kX_one rfl ?_)
            refine hback _ (l0 ++ [y]) acc (upd W l0.length (nI y)) ST ?_ (lst_push w2 y) i2 ?_ ?_ ?_ ?_ i6 _ rfl ?_
            · funext c; unfold fvS va_up; repeat' split
              all_goals first | rfl | omega | (subst_vars; rfl) | (funext j; unfold upd; repeat' split; all_goals first | rfl | omega | (subst_vars; rfl))
            · intro u hu
              simp only [List.mem_append, List.mem_singleton] at hu
              rcases hu with hu | rfl
              · exact i3' u hu
              · exact h6
            · simp only [List.map_append, List.sum_append, List.map_cons, List.map_nil, List.sum_cons, List.sum_nil]
              omega
            · simp only [List.map_append, List.sum_append, List.map_cons, List.map_nil, List.sum_cons, List.sum_nil]
              omega
            · rw [e6] at i5
              rw [show ((l0 ++ [y]).reverse.map (tvs (σ 233) (σ 234) (σ 235))).flatten = tvs (σ 233) (σ 234) (σ 235) y ++ (l0.reverse.map (tvs (σ 233) (σ 234) (σ 235))).flatten by simp, ddl_app]
              exact i5
            · rw [show nI (l0 ++ [y]).length = nI l0.length + 1 by rw [nI_1]; simp]
              rfl
      · have q : σ 233 x = nI 3 := qneF q
        have e6 : tvs (σ 233) (σ 234) (σ 235) x = [x] := by
          unfold tvs
          rw [tA_0 q (by omega), if_pos q]
        rw [e6, ddl_cons] at i5
        iterate 4 (refine kX_one rfl ?_)
        have hin := mr_fv_in L xs d σ W ST acc l0.length x (nI t) i2 (by omega) hx1 (fun z hz => h1000 z (i6 z hz)) (fun r σ' => r = none ∧ ∃ W ST, σ' = fvS σ W ST (nI (ddl [] (tvs (σ 233) (σ 234) (σ 235) t)).length) ∧ lst ST (ddl [] (tvs (σ 233) (σ 234) (σ 235) t)) ∧ (ddl [] (tvs (σ 233) (σ 234) (σ 235) t)).length ≤ 24) ?_ 0 (Nat.zero_le _)
        · rw [isB_F (fun ⟨i, hi, _⟩ => absurd hi (Nat.not_lt_zero i)), nI_0] at hin
          exact hin
        · iterate 1 (refine kX_one rfl ?_)
          repeat refine kX_one rfl ?_
          refine kX_if (fun q2 => ?_) (fun q2 => ?_)
          · have q2 := isB_ne.mp (qne q2)
            rw [if_pos q2] at i5
            iterate 1 (refine kX_one rfl ?_)
            exact hback _ l0 acc W ST rfl w2 i2 i3' (by omega) (by omega) i5 i6 _ rfl rfl
          · have q2 : x ∉ acc := fun hh => isB_ne.mpr hh (qneF q2)
            rw [if_neg q2] at i5
            iterate 5 (refine kX_one rfl ?_)
            refine kX_iastN rfl rfl (by decide) (acc.length) (by first | rfl | decide) (by omega) ?_
            iterate 7 (refine kX_one rfl ?_)
            refine hback _ l0 (acc ++ [x]) W (upd ST acc.length (nI x)) ?_ w2 (lst_push i2 x) i3' (by simp; omega) (by omega) i5 (fun u hu => ?_) _ rfl rfl
            · rw [show (acc ++ [x]).length = acc.length + 1 by simp, ← nI_1]
              funext c; unfold fvS va_up; repeat' split
              all_goals first | rfl | omega | (subst_vars; rfl) | (funext j; unfold upd; repeat' split; all_goals first | rfl | omega | (subst_vars; rfl))
            · rcases List.mem_append.mp hu with hu | hu
              · exact i6 u hu
              · rw [List.mem_singleton] at hu
                subst hu
                exact hx
end
section
/-! what a TERM is, as a tree; which trees a row makes -/
def vnd (k : Nat) (a : Jvm.Term) (b : Option Jvm.Term) : Jvm.Term := match b with
  | some b => if k = 4 then .add a b else if k = 5 then .sub a b else if k = 6 then .mul a b else .div a b
  | none => if k = 7 then .length a else .sum a
def tvl (K F S : Nat → Int32) (t : Nat) : Jvm.Term := tA (fun t => .arg t) vnd K F S t
theorem tvl_0 {K F S : Nat → Int32} {t k : Nat} (hk : K t = nI k) (h3 : k ≤ 3) : tvl K F S t = .arg t := tA_0 hk h3
section TVL
variable {V AG : Nat → Prop} {K F S : Nat → Int32}
theorem tvl_2 (hV : ∀ t, V t → t < 100000 ∧ tOk V AG K F S t) {t k x y : Nat} (hk : K t = nI k) (hx : F t = nI x) (hy : S t = nI y) (h3 : 3 < k) (hk9 : k ≤ 9) (h4 : x < t) (h5 : y < t) (h6 : V x) (h7 : V y) : tvl K F S t = vnd k (tvl K F S x) (some (tvl K F S y)) := tA_2 hV hk hx hy h3 hk9 h4 h5 h6 h7
theorem tvl_1 (hV : ∀ t, V t → t < 100000 ∧ tOk V AG K F S t) {t k x : Nat} (hk : K t = nI k) (hx : F t = nI x) (hy : S t = -1) (h3 : 3 < k) (hk9 : k ≤ 9) (h4 : x < t) (h6 : V x) : tvl K F S t = vnd k (tvl K F S x) none := tA_1 hV hk hx hy h3 hk9 h4 h6
/-- one tree, one TERM -/
theorem tvl_inj (hV : ∀ t, V t → t < 100000 ∧ tOk V AG K F S t) (hu : ∀ t u, V t → V u → 3 < fN (K t) → K t = K u → F t = F u → S t = S u → t = u) : ∀ t u, V t → V u → tvl K F S t = tvl K F S u → t = u := by
  intro t
  induction t using Nat.strongRecOn with
  | _ t ih =>
    intro u ht hu' e
    rcases (hV t ht).2 with ⟨k, h3, hk, -, -⟩ | ⟨k, x, y, h3, hk, hx, hy, h4, h5, h6, h7⟩ | ⟨k, x, h3, hk, hx, hy, h4, h6⟩
    · rw [tvl_0 hk h3] at e
      rcases (hV u hu').2 with ⟨k', h3', hk', -, -⟩ | ⟨k', x', y', h3', hk', hx', hy', h4', h5', h6', h7'⟩ | ⟨k', x', h3', hk', hx', hy', h4', h6'⟩
      · rw [tvl_0 hk' h3'] at e
        exact Jvm.Term.arg.inj e
      · rw [tvl_2 hV hk' hx' hy' (by omega) (by omega) h4' h5' h6' h7'] at e
        unfold vnd at e
        dsimp only at e
        repeat' split at e
        all_goals cases e
      · rw [tvl_1 hV hk' hx' hy' (by omega) (by omega) h4' h6'] at e
        unfold vnd at e
        dsimp only at e
        repeat' split at e
        all_goals cases e
    · rw [tvl_2 hV hk hx hy (by omega) (by omega) h4 h5 h6 h7] at e
      rcases (hV u hu').2 with ⟨k', h3', hk', -, -⟩ | ⟨k', x', y', h3', hk', hx', hy', h4', h5', h6', h7'⟩ | ⟨k', x', h3', hk', hx', hy', h4', h6'⟩
      · rw [tvl_0 hk' h3'] at e
        unfold vnd at e
        dsimp only at e
        repeat' split at e
        all_goals cases e
      · rw [tvl_2 hV hk' hx' hy' (by omega) (by omega) h4' h5' h6' h7'] at e
        have key : k = k' ∧ tvl K F S x = tvl K F S x' ∧ tvl K F S y = tvl K F S y' := by
          unfold vnd at e
          dsimp only at e
          repeat' split at e
          all_goals first | (cases e; exact ⟨by omega, by assumption, by assumption⟩) | (injection e with e1 e2; exact ⟨by omega, e1, e2⟩) | cases e
        obtain ⟨rfl, e1, e2⟩ := key
        have := ih x h4 x' h6 h6' e1
        subst this
        have := ih y h5 y' h7 h7' e2
        subst this
        exact hu t u ht hu' (by rw [hk, fN_nI (by omega)]; omega) (hk.trans hk'.symm) (hx.trans hx'.symm) (hy.trans hy'.symm)
      · rw [tvl_1 hV hk' hx' hy' (by omega) (by omega) h4' h6'] at e
        unfold vnd at e
        dsimp only at e
        repeat' split at e
        all_goals cases e
    · rw [tvl_1 hV hk hx hy (by omega) (by omega) h4 h6] at e
      rcases (hV u hu').2 with ⟨k', h3', hk', -, -⟩ | ⟨k', x', y', h3', hk', hx', hy', h4', h5', h6', h7'⟩ | ⟨k', x', h3', hk', hx', hy', h4', h6'⟩
      · rw [tvl_0 hk' h3'] at e
        unfold vnd at e
        dsimp only at e
        repeat' split at e
        all_goals cases e
      · rw [tvl_2 hV hk' hx' hy' (by omega) (by omega) h4' h5' h6' h7'] at e
        unfold vnd at e
        dsimp only at e
        repeat' split at e
        all_goals cases e
      · rw [tvl_1 hV hk' hx' hy' (by omega) (by omega) h4' h6'] at e
        have key : k = k' ∧ tvl K F S x = tvl K F S x' := by
          unfold vnd at e
          dsimp only at e
          repeat' split at e
          all_goals first | (injection e with e1; exact ⟨by omega, e1⟩) | cases e
        obtain ⟨rfl, e1⟩ := key
        have := ih x h4 x' h6 h6' e1
        subst this
        exact hu t u ht hu' (by rw [hk, fN_nI (by omega)]; omega) (hk.trans hk'.symm) (hx.trans hx'.symm) (hy.trans hy'.symm)
end TVL
/-- an AGENT that is not HONEST -/
def vnh (H : Nat → Int32) (a : Jvm.Term) : Prop := ∃ x, a = .arg x ∧ H x = 0
/-- what a row MAKES -/
def vmk (R : Jvm.Term → Prop) (A : Nat → Prop) (H : Nat → Int32) : Jvm.Term → Prop
  | .arg t => R (.arg t) ∨ A t
  | .add a b => R (.add a b) ∨ (vmk R A H a ∧ vmk R A H b)
  | .sub a b => R (.sub a b) ∨ (vmk R A H a ∧ vmk R A H b)
  | .mul a b => R (.mul a b) ∨ vmk R A H a
  | .sum a => R (.sum a) ∨ vmk R A H a
  | .length a => R (.length a) ∨ vnh H a
  | .div a b => R (.div a b) ∨ (vmk R A H a ∧ (vnh H b ∨ R (.length b)))
  | _ => False
end
section
/-! the reference's row -/
/-- how many below m -/
noncomputable def cnt (f : Nat → Prop) : Nat → Nat
  | 0 => 0
  | m + 1 => cnt f m + @ite _ (f m) (Classical.propDecidable _) 1 0
theorem cnt_le (f : Nat → Prop) : ∀ m, cnt f m ≤ m
  | 0 => Nat.le_refl _
  | m + 1 => by
    have := cnt_le f m
    unfold cnt
    split <;> omega
theorem cnt_lt {f : Nat → Prop} {t : Nat} (hf : ¬ f t) : ∀ m, t < m → cnt f m < m
  | 0, h => by omega
  | m + 1, h => by
    unfold cnt
    by_cases e : t = m
    · subst e
      have := cnt_le f t
      rw [if_neg hf]
      omega
    · have := cnt_lt hf m (by omega)
      split <;> omega
theorem cnt_congr {f g : Nat → Prop} : ∀ m, (∀ t, t < m → (f t ↔ g t)) → cnt f m = cnt g m
  | 0, _ => rfl
  | m + 1, h => by
    have h1 := cnt_congr m (fun t ht => h t (by omega))
    have h2 := propext (h m (by omega))
    unfold cnt
    rw [h1, h2]
theorem cnt_add {f g : Nat → Prop} {t : Nat} (hf : ¬ f t) (hg : ∀ u, g u ↔ f u ∨ u = t) : ∀ m, t < m → cnt g m = cnt f m + 1
  | 0, h => by omega
  | m + 1, h => by
    unfold cnt
    by_cases e : t = m
    · subst e
      have h1 : cnt g t = cnt f t := cnt_congr t (fun u hu => by rw [hg u]; exact ⟨fun q => q.elim id (fun q => by omega), Or.inl⟩)
      rw [h1, if_pos ((hg t).mpr (Or.inr rfl)), if_neg hf]
    · have h1 := cnt_add hf hg m (by omega)
      have h2 : g m = f m := propext (by rw [hg m]; exact ⟨fun q => q.elim id (fun q => absurd q.symm e), Or.inl⟩)
      rw [h1, h2]
      omega
abbrev rwT : Type := List (Nat × Int32 × Int32)
def rwI (l : rwT) (t : Nat) : Prop := ∃ q ∈ l, q.1 = t
/-- the row l lies there: TERMS of V, each once -/
def mRq (σ : kS) (V : Nat → Prop) (l : rwT) : Prop := σ 232 46 = nI l.length ∧ (∀ i (h : i < l.length), σ 268 i = nI (l[i]'h).1 ∧ σ 269 i = (l[i]'h).2.1 ∧ σ 270 i = (l[i]'h).2.2) ∧ (∀ t, rwI l t → V t) ∧ (∀ t, t < 1000 → σ 271 t = isB (rwI l t)) ∧ cnt (rwI l) 1000 = l.length
noncomputable def rwA (l : rwT) (t : Nat) (w p : Int32) : rwT := @ite _ (rwI l t) (Classical.propDecidable _) l (l ++ [(t, w, p)])
theorem rwI_app {l : rwT} {t u : Nat} {w p : Int32} : rwI (l ++ [(t, w, p)]) u ↔ rwI l u ∨ u = t := by
  unfold rwI
  constructor
  · rintro ⟨q, hq, rfl⟩
    rcases List.mem_append.mp hq with h | h
    · exact Or.inl ⟨q, h, rfl⟩
    · rw [List.mem_singleton] at h
      subst h
      exact Or.inr rfl
  · rintro (⟨q, hq, rfl⟩ | rfl)
    · exact ⟨q, List.mem_append_left _ hq, rfl⟩
    · exact ⟨(u, w, p), by simp, rfl⟩
/-- contents with another row -/
def mRu (σ : kS) (I R H M : Nat → Int32) (o : Nat → Int32) : kS := va_up (va_up (va_up (va_up (va_up σ 271 I) 268 R) 269 H) 270 M) 232 o
theorem mRq_len {σ : kS} {V : Nat → Prop} {l : rwT} (h : mRq σ V l) : l.length ≤ 1000 := by
  rw [← h.2.2.2.2]
  exact cnt_le _ _
set_option maxRecDepth 100000 in
set_option maxHeartbeats 4000000 in
theorem mr_comes (L : Nat) (xs : Nat → Int32) (d : Nat) (σ : kS) (V : Nat → Prop) (l : rwT) (t : Nat) (w p : Int32) (h : mRq σ V l) (ht : t < 1000) (hv : V t) : kXM kT L xs (d + 1) 178 [.ref 232, .int (nI t), .int w, .int p] σ (fun r σ' => r = none ∧ mRq σ' V (rwA l t w p) ∧ ∃ I R H M, σ' = mRu σ I R H M (upd (σ 232) 46 (nI (rwA l t w p).length))) := by
  obtain ⟨h1, h2, h3, h4, h5⟩ := h
  unfold kXM
  repeat refine kX_one rfl ?_
  refine kX_baldN rfl rfl (by decide) (t) (by first | rfl | decide) (ht) ?_
  rw [h4 t ht]
  repeat refine kX_one rfl ?_
  refine kX_if (fun q => ?_) (fun q => ?_)
  · have q := isB_ne.mp (qne q)
    have e : rwA l t w p = l := if_pos q
    refine kX_ret (i := .return_) (len := 1) rfl (Or.inr rfl) rfl ⟨rfl, ?_, σ 271, σ 268, σ 269, σ 270, ?_⟩
    · rw [e]
      exact ⟨h1, h2, h3, h4, h5⟩
    · rw [e]
      funext c; unfold mRu va_up; repeat' split
      all_goals first | rfl | (next e => subst e; rfl) | skip
      all_goals (next e => subst e; funext j; unfold upd; split; (· next e2 => rw [e2]; exact h1); (· rfl))
  · have q : ¬ rwI l t := fun hh => isB_ne.mpr hh (qneF q)
    have e : rwA l t w p = l ++ [(t, w, p)] := if_neg q
    have hlen : l.length < 1000 := by
      rw [← h5]
      exact cnt_lt q _ ht
    repeat refine kX_one rfl ?_
    refine kX_bastN rfl rfl (by decide) (t) (by first | rfl | decide) (ht) (Or.inr rfl) ?_
    repeat refine kX_one rfl ?_
    refine kX_iastN rfl rfl (by decide) l.length h1 hlen ?_
    repeat refine kX_one rfl ?_
    refine kX_iastN rfl rfl (by decide) l.length h1 hlen ?_
    repeat refine kX_one rfl ?_
    refine kX_iastN rfl rfl (by decide) l.length h1 hlen ?_
    repeat refine kX_one rfl ?_
    refine kX_ret (i := .return_) (len := 1) rfl (Or.inr rfl) rfl ⟨rfl, ?_, upd (σ 271) t 1, upd (σ 268) l.length (nI t), upd (σ 269) l.length w, upd (σ 270) l.length p, ?_⟩
    · rw [e]
      refine ⟨?_, fun i hi => ?_, fun u hu => ?_, fun u hu => ?_, ?_⟩
      · rw [List.length_append]
        show σ 232 46 + Int32.ofInt 1 = nI (l.length + 1)
        rw [h1]
        exact nI_1 _
      · rw [List.length_append] at hi
        simp only [List.length_cons, List.length_nil] at hi
        by_cases ei : i = l.length
        · subst ei
          refine ⟨?_, ?_, ?_⟩
          · show upd (σ 268) l.length (nI t) l.length = _
            rw [pk_us]
            simp
          · show upd (σ 269) l.length w l.length = _
            rw [pk_us]
            simp
          · show upd (σ 270) l.length p l.length = _
            rw [pk_us]
            simp
        · have hil : i < l.length := by omega
          rw [List.getElem_append_left hil]
          refine ⟨?_, ?_, ?_⟩
          · show upd (σ 268) l.length (nI t) i = _
            rw [pk_un ei]
            exact (h2 i hil).1
          · show upd (σ 269) l.length w i = _
            rw [pk_un ei]
            exact (h2 i hil).2.1
          · show upd (σ 270) l.length p i = _
            rw [pk_un ei]
            exact (h2 i hil).2.2
      · rcases rwI_app.mp hu with hu | rfl
        · exact h3 u hu
        · exact hv
      · show upd (σ 271) t (Int32.ofInt 1) u = _
        by_cases eu : u = t
        · subst eu
          rw [pk_us, isB_T (rwI_app.mpr (Or.inr rfl))]
          rfl
        · rw [pk_un eu, h4 u hu]
          have : rwI (l ++ [(t, w, p)]) u ↔ rwI l u := by
            rw [rwI_app]
            exact ⟨fun q => q.elim id (fun q => absurd q eu), Or.inl⟩
          rw [propext this]
      · rw [cnt_add (t := t) q (fun u => rwI_app) 1000 ht, h5, List.length_append]
        rfl
    · rw [e, List.length_append]
      have e1 : nI (l.length + [(t, w, p)].length) = σ 232 46 + Int32.ofInt 1 := by
        rw [h1]
        exact (nI_1 _).symm
      rw [e1]
      rfl
end
section
/-! the reference: what the row makes -/
def mR (σ : kS) (l : rwT) (g : Jvm.Term) : Prop := ∃ t, rwI l t ∧ tvl (σ 233) (σ 234) (σ 235) t = g
def mA (σ : kS) (t : Nat) : Prop := t < 200 ∧ σ 233 t = nI 0
def mMk (σ : kS) (l : rwT) (t : Nat) : Prop := tgd (σ 233) (σ 234) (σ 235) t = true ∧ vmk (mR σ l) (mA σ) (σ 238) (tvl (σ 233) (σ 234) (σ 235) t)
/-- TERMS of the table that are GROUND -/
def mvG (σ : kS) (n b t : Nat) : Prop := mv n b t ∧ tgd (σ 233) (σ 234) (σ 235) t = true
theorem mTb_inj {σ : kS} {n b t u : Nat} (h : mTb σ n b) (ht : mv n b t) (hu : mv n b u) (e : tvl (σ 233) (σ 234) (σ 235) t = tvl (σ 233) (σ 234) (σ 235) u) : t = u := tvl_inj h.2.2.2.2.2.1.1 h.2.2.2.2.2.1.2.2 t u ht hu e
theorem mR_iff {σ : kS} {n b : Nat} {l : rwT} (h : mTb σ n b) (hl : ∀ t, rwI l t → mvG σ n b t) {t : Nat} (ht : mv n b t) : mR σ l (tvl (σ 233) (σ 234) (σ 235) t) ↔ rwI l t :=
  ⟨fun ⟨u, hu, e⟩ => by rw [← mTb_inj h (hl u hu).1 ht e]; exact hu, fun q => ⟨t, q, rfl⟩⟩
/-- the PRIVATE of an AGENT among the TERMS -/
theorem tvl_priv {V AG : Nat → Prop} {K F S : Nat → Int32} (hV : ∀ t, V t → t < 100000 ∧ tOk V AG K F S t) {t y : Nat} (ht : V t) (e : tvl K F S t = .length (.arg y)) : K t = nI 7 ∧ F t = nI y ∧ S t = -1 := by
  rcases (hV t ht).2 with ⟨k, h3, hk, -, -⟩ | ⟨k, x, z, h3, hk, hx, hy, h4, h5, h6, h7⟩ | ⟨k, x, h3, hk, hx, hy, h4, h6⟩
  · rw [tvl_0 hk h3] at e
    cases e
  · rw [tvl_2 hV hk hx hy (by omega) (by omega) h4 h5 h6 h7] at e
    unfold vnd at e
    dsimp only at e
    repeat' split at e
    all_goals cases e
  · rw [tvl_1 hV hk hx hy (by omega) (by omega) h4 h6] at e
    unfold vnd at e
    dsimp only at e
    split at e
    · next e7 =>
      injection e with e
      subst e7
      refine ⟨hk, ?_, hy⟩
      rcases (hV x h6).2 with ⟨k, h3, hk, -, -⟩ | ⟨k, x', z, h3, hk, hx', hy', h4', h5, h6', h7⟩ | ⟨k, x', h3, hk, hx', hy', h4', h6'⟩
      · rw [tvl_0 hk h3] at e
        rw [hx, Jvm.Term.arg.inj e]
      · rw [tvl_2 hV hk hx' hy' (by omega) (by omega) h4' h5 h6' h7] at e
        unfold vnd at e
        dsimp only at e
        repeat' split at e
        all_goals cases e
      · rw [tvl_1 hV hk hx' hy' (by omega) (by omega) h4' h6'] at e
        unfold vnd at e
        dsimp only at e
        repeat' split at e
        all_goals cases e
    · cases e
set_option maxRecDepth 100000 in
set_option maxHeartbeats 4000000 in
theorem mr_hasPrivate (L : Nat) (xs : Nat → Int32) (d : Nat) (σ : kS) (n b : Nat) (l : rwT) (y : Nat) (h : mTb σ n b) (hq : mRq σ (mvG σ n b) l) (hy : y < n) (hk : σ 233 y = nI 0) : kXM kT L xs (d + 2) 180 [.ref 232, .int (nI y)] σ (fun r σ' => r = some (.int (isB (vnh (σ 238) (.arg y) ∨ mR σ l (.length (.arg y))))) ∧ σ = σ') := by
  have hn := h.1
  have hb := h.2.2.1
  have hV := h.2.2.2.2.2.1.1
  unfold kXM
  repeat refine kX_one rfl ?_
  refine kX_cal (mTb_find h L xs d 7 (nI y) (-1) (by decide) (by decide)) rfl (Or.inr rfl) rfl rfl rfl (fun r1 σ1 q1 => ?_)
  obtain ⟨rfl, q1⟩ := q1
  have e1 : ∀ t, mv n b t → (mIs σ t (nI 7) (nI y) (-1) ↔ tvl (σ 233) (σ 234) (σ 235) t = .length (.arg y)) := fun t ht => by
    constructor
    · rintro ⟨i1, i2, i3⟩
      have hyv : mv n b y := Or.inl hy
      have hlt : y < t := by
        rcases (hV t ht).2 with ⟨k, h3, hk', -, -⟩ | ⟨k, x, z, h3, hk', hx, hz, h4, h5, h6, h7⟩ | ⟨k, x, h3, hk', hx, hz, h4, h6⟩
        · have := nI_inj (i1.symm.trans hk')
          omega
        · have := nI_inj (i1.symm.trans hk')
          omega
        · have : y = x := nI_inj (i2.symm.trans hx) (by omega) (by have := (hV x h6).1; omega)
          omega
      rw [tvl_1 hV i1 i2 i3 (by decide) (by decide) hlt hyv, tvl_0 hk (by decide)]
      rfl
    · intro e
      exact tvl_priv hV ht e
  have hv0 : vnh (σ 238) (.arg y) ↔ σ 238 y = 0 := ⟨fun ⟨x, e, hx⟩ => by rw [Jvm.Term.arg.inj e]; exact hx, fun q => ⟨y, rfl, q⟩⟩
  rcases q1 with ⟨rfl, hno⟩ | ⟨t, rfl, ht, hi⟩
  · have hR : ¬ mR σ l (.length (.arg y)) := fun ⟨t, ht, e⟩ => hno t (hq.2.2.1 t ht).1 ((e1 t (hq.2.2.1 t ht).1).mpr e)
    repeat refine kX_one rfl ?_
    refine kX_baldN rfl rfl (by decide) (y) (by first | rfl | decide) (by omega) ?_
    repeat refine kX_one rfl ?_
    refine kX_if (fun q => ?_) (fun q => ?_)
    · have q := qeq q
      repeat refine kX_one rfl ?_
      refine kX_ret (i := .ireturn) (len := 1) rfl (Or.inr rfl) rfl (⟨by rw [isB_T (Or.inl (hv0.mpr q))]; rfl, rfl⟩)
    · have q := qeqF q
      repeat refine kX_one rfl ?_
      refine kX_ret (i := .ireturn) (len := 1) rfl (Or.inr rfl) rfl (⟨by rw [isB_F (fun z => z.elim (fun z => q (hv0.mp z)) hR)]; rfl, rfl⟩)
  · have ht1 : t < 1000 := by unfold mv at ht; omega
    have hR : mR σ l (.length (.arg y)) ↔ rwI l t := by
      rw [← (e1 t ht).mp hi]
      exact mR_iff h hq.2.2.1 ht
    repeat refine kX_one rfl ?_
    refine kX_baldN rfl rfl (by decide) (y) (by first | rfl | decide) (by omega) ?_
    repeat refine kX_one rfl ?_
    refine kX_if (fun q => ?_) (fun q => ?_)
    · have q := qeq q
      repeat refine kX_one rfl ?_
      refine kX_ret (i := .ireturn) (len := 1) rfl (Or.inr rfl) rfl (⟨by rw [isB_T (Or.inl (hv0.mpr q))]; rfl, rfl⟩)
    · have q := qeqF q
      iterate 1 (refine kX_one rfl ?_)
      repeat refine kX_one rfl ?_
      refine kX_ifF (decide_eq_false (nI_pos (by omega))) ?_
      repeat refine kX_one rfl ?_
      refine kX_baldN rfl rfl (by decide) (t) (by first | rfl | decide) (ht1) ?_
      rw [hq.2.2.2.1 t ht1]
      repeat refine kX_one rfl ?_
      refine kX_if (fun q2 => ?_) (fun q2 => ?_)
      · have q2 : ¬ rwI l t := fun z => isB_ne.mpr z (qeq q2)
        repeat refine kX_one rfl ?_
        refine kX_ret (i := .ireturn) (len := 1) rfl (Or.inr rfl) rfl (⟨by rw [isB_F (fun z => z.elim (fun z => q (hv0.mp z)) (fun z => q2 (hR.mp z)))]; rfl, rfl⟩)
      · have q2 : rwI l t := isB_ne.mp (qeqF q2)
        repeat refine kX_one rfl ?_
        refine kX_ret (i := .ireturn) (len := 1) rfl (Or.inr rfl) rfl (⟨by rw [isB_T (Or.inr (hR.mpr q2))]; rfl, rfl⟩)
theorem tgd_2 {V AG : Nat → Prop} {K F S : Nat → Int32} (hV : ∀ t, V t → t < 100000 ∧ tOk V AG K F S t) {t k x y : Nat} (hk : K t = nI k) (hx : F t = nI x) (hy : S t = nI y) (h3 : 3 < k) (hk9 : k ≤ 9) (h4 : x < t) (h5 : y < t) (h6 : V x) (h7 : V y) : tgd K F S t = (tgd K F S x && tgd K F S y) := tA_2 hV hk hx hy h3 hk9 h4 h5 h6 h7
theorem tgd_1 {V AG : Nat → Prop} {K F S : Nat → Int32} (hV : ∀ t, V t → t < 100000 ∧ tOk V AG K F S t) {t k x : Nat} (hk : K t = nI k) (hx : F t = nI x) (hy : S t = -1) (h3 : 3 < k) (hk9 : k ≤ 9) (h4 : x < t) (h6 : V x) : tgd K F S t = tgd K F S x := by
  have : tgd K F S t = (tgd K F S x && true) := tA_1 hV hk hx hy h3 hk9 h4 h6
  rw [this, Bool.and_true]
theorem tgd_0 {K F S : Nat → Int32} {t k : Nat} (hk : K t = nI k) (h3 : k ≤ 3) : tgd K F S t = decide (k ≠ 3) := by
  have : tgd K F S t = decide (K t ≠ nI 3) := tA_0 hk h3
  rw [this, hk]
  by_cases e : k = 3
  · subst e; rfl
  · rw [decide_eq_true e, decide_eq_true (nI_ne e)]
set_option maxRecDepth 100000 in
set_option maxHeartbeats 4000000 in
theorem mr_isMade (L : Nat) (xs : Nat → Int32) (d : Nat) (σ : kS) (n b : Nat) (l : rwT) (t : Nat) (h : mTb σ n b) (hq : mRq σ (mvG σ n b) l) (ht : mv n b t) (hmk : ∀ x, x < t → mv n b x → σ 272 x = isB (mMk σ l x)) : kXM kT L xs (d + 3) 181 [.ref 232, .int (nI t)] σ (fun r σ' => r = some (.int (isB (mMk σ l t))) ∧ σ = σ') := by
  have hn := h.1
  have hb := h.2.2.1
  have hV := h.2.2.2.2.2.1.1
  have hG := h.2.2.2.2.2.2.1
  have ht1 : t < 1000 := by unfold mv at ht; omega
  have hR := fun u (hu : mv n b u) => mR_iff h hq.2.2.1 hu
  have h1000 : ∀ x, mv n b x → x < 1000 := fun x q => by unfold mv at q; omega
  have h01 : ∀ P : Prop, isB P = 0 ∨ isB P = 1 := fun P => by
    by_cases hp : P
    · exact Or.inr (isB_T hp)
    · exact Or.inl (isB_F hp)
  unfold kXM
  repeat refine kX_one rfl ?_
  refine kX_baldN rfl rfl (by decide) (t) (by first | rfl | decide) (ht1) ?_
  rw [hq.2.2.2.1 t ht1]
  repeat refine kX_one rfl ?_
  refine kX_if (fun q => ?_) (fun q => ?_)
  · have q : ¬ rwI l t := fun z => isB_ne.mpr z (qeq q)
    have qR : ¬ mR σ l (tvl (σ 233) (σ 234) (σ 235) t) := fun z => q ((hR t ht).mp z)
    repeat refine kX_one rfl ?_
    refine kX_baldN rfl rfl (by decide) (t) (by first | rfl | decide) (ht1) ?_
    rw [hG t ht]
    repeat refine kX_one rfl ?_
    refine kX_if (fun q2 => ?_) (fun q2 => ?_)
    · have q2 := (bI_ne _).mp (qne q2)
      repeat refine kX_one rfl ?_
      refine kX_ialdN rfl rfl (by decide) (t) (by first | rfl | decide) (ht1) ?_
      have red : ∀ r : Int32, r = isB (vmk (mR σ l) (mA σ) (σ 238) (tvl (σ 233) (σ 234) (σ 235) t)) → (some (Value.int r) = some (.int (isB (mMk σ l t))) ∧ σ = σ) := fun r hr => by
        refine ⟨?_, rfl⟩
        rw [hr]
        have : mMk σ l t ↔ vmk (mR σ l) (mA σ) (σ 238) (tvl (σ 233) (σ 234) (σ 235) t) := ⟨fun z => z.2, fun z => ⟨q2, z⟩⟩
        rw [propext this]
      rcases (hV t ht).2 with ⟨k, h3, hk, -, -⟩ | ⟨k, x, y, h3, hk, hx, hy, h4, h5, h6, h7⟩ | ⟨k, x, h3, hk, hx, hy, h4, h6⟩
      · rw [hk]
        rw [tvl_0 hk h3] at qR red
        have ht200 : t < 200 := by
          refine Nat.not_le.mp (fun hge => ?_)
          have h9 := h.2.2.2.2.2.2.2.2.1 t hge (by unfold mv at ht; omega)
          rw [hk, fN_nI (by omega)] at h9
          omega
        obtain rfl | rfl | rfl | rfl : k = 0 ∨ k = 1 ∨ k = 2 ∨ k = 3 := by omega
        · repeat refine kX_one rfl ?_
          refine kX_ret (i := .ireturn) (len := 1) rfl (Or.inr rfl) rfl (red _ (isB_T (Or.inr ⟨ht200, hk⟩)).symm)
        · repeat refine kX_one rfl ?_
          refine kX_ret (i := .ireturn) (len := 1) rfl (Or.inr rfl) rfl (red _ (isB_F (fun z => z.elim qR (fun z => absurd (hk.symm.trans z.2) (by decide)))).symm)
        · repeat refine kX_one rfl ?_
          refine kX_ret (i := .ireturn) (len := 1) rfl (Or.inr rfl) rfl (red _ (isB_F (fun z => z.elim qR (fun z => absurd (hk.symm.trans z.2) (by decide)))).symm)
        · rw [tgd_0 hk h3] at q2
          exact absurd rfl (of_decide_eq_true q2)
      · rw [hk]
        have hgxy := tgd_2 hV hk hx hy (by omega) (by omega) h4 h5 h6 h7
        rw [q2] at hgxy
        have hgx : tgd (σ 233) (σ 234) (σ 235) x = true := by
          have := hgxy.symm
          rw [Bool.and_eq_true] at this
          exact this.1
        have hgy : tgd (σ 233) (σ 234) (σ 235) y = true := by
          have := hgxy.symm
          rw [Bool.and_eq_true] at this
          exact this.2
        have mx : mMk σ l x ↔ vmk (mR σ l) (mA σ) (σ 238) (tvl (σ 233) (σ 234) (σ 235) x) := ⟨fun z => z.2, fun z => ⟨hgx, z⟩⟩
        have my : mMk σ l y ↔ vmk (mR σ l) (mA σ) (σ 238) (tvl (σ 233) (σ 234) (σ 235) y) := ⟨fun z => z.2, fun z => ⟨hgy, z⟩⟩
        rw [tvl_2 hV hk hx hy (by omega) (by omega) h4 h5 h6 h7] at qR red
        have two : ∀ g : Jvm.Term, (vmk (mR σ l) (mA σ) (σ 238) g ↔ vmk (mR σ l) (mA σ) (σ 238) (tvl (σ 233) (σ 234) (σ 235) x) ∧ vmk (mR σ l) (mA σ) (σ 238) (tvl (σ 233) (σ 234) (σ 235) y)) → (∀ r : Int32, r = isB (vmk (mR σ l) (mA σ) (σ 238) g) → (some (Value.int r) = some (.int (isB (mMk σ l t))) ∧ σ = σ)) →
            kX kT L xs (d + 3) 181 86 [(0, .ref 232), (1, .int (nI t))] [] σ (fun r σ' => r = some (.int (isB (mMk σ l t))) ∧ σ = σ') := by
          intro g hg redg
          repeat refine kX_one rfl ?_
          refine kX_ialdN rfl rfl (by decide) (t) (by first | rfl | decide) (ht1) ?_
          rw [hx]
          refine kX_baldN rfl rfl (by decide) (x) (by first | rfl | decide) (h1000 x h6) ?_
          rw [hmk x h4 h6]
          repeat refine kX_one rfl ?_
          refine kX_if (fun q3 => ?_) (fun q3 => ?_)
          · have q3 : ¬ mMk σ l x := fun z => isB_ne.mpr z (qeq q3)
            repeat refine kX_one rfl ?_
            refine kX_ret (i := .ireturn) (len := 1) rfl (Or.inr rfl) rfl (redg _ (isB_F (fun z => q3 (mx.mpr (hg.mp z).1))).symm)
          · have q3 : mMk σ l x := isB_ne.mp (qeqF q3)
            repeat refine kX_one rfl ?_
            refine kX_ialdN rfl rfl (by decide) (t) (by first | rfl | decide) (ht1) ?_
            rw [hy]
            refine kX_baldN rfl rfl (by decide) (y) (by first | rfl | decide) (h1000 y h7) ?_
            rw [hmk y h5 h7]
            repeat refine kX_one rfl ?_
            refine kX_if (fun q4 => ?_) (fun q4 => ?_)
            · have q4 : ¬ mMk σ l y := fun z => isB_ne.mpr z (qeq q4)
              repeat refine kX_one rfl ?_
              refine kX_ret (i := .ireturn) (len := 1) rfl (Or.inr rfl) rfl (redg _ (isB_F (fun z => q4 (my.mpr (hg.mp z).2))).symm)
            · have q4 : mMk σ l y := isB_ne.mp (qeqF q4)
              repeat refine kX_one rfl ?_
              refine kX_ret (i := .ireturn) (len := 1) rfl (Or.inr rfl) rfl (redg _ (isB_T (hg.mpr ⟨mx.mp q3, my.mp q4⟩)).symm)
        rcases h3 with rfl | rfl | ⟨h3, hag⟩
        · iterate 1 (refine kX_one rfl ?_)
          exact two (Jvm.Term.add (tvl (σ 233) (σ 234) (σ 235) x) (tvl (σ 233) (σ 234) (σ 235) y)) ⟨fun z => Or.elim z (fun z => absurd z qR) id, Or.inr⟩ red
        · iterate 1 (refine kX_one rfl ?_)
          exact two (Jvm.Term.sub (tvl (σ 233) (σ 234) (σ 235) x) (tvl (σ 233) (σ 234) (σ 235) y)) ⟨fun z => Or.elim z (fun z => absurd z qR) id, Or.inr⟩ red
        · have hy0 : σ 233 y = nI 0 := by
            rcases hag.2 with e | ⟨e, -⟩
            · exact e
            · rw [tgd_0 e (by decide)] at hgy
              exact absurd rfl (of_decide_eq_true hgy)
          rcases h3 with rfl | rfl
          · repeat refine kX_one rfl ?_
            refine kX_ialdN rfl rfl (by decide) (t) (by first | rfl | decide) (ht1) ?_
            rw [hx]
            refine kX_baldN rfl rfl (by decide) (x) (by first | rfl | decide) (h1000 x h6) ?_
            rw [hmk x h4 h6]
            refine kX_ret (i := .ireturn) (len := 1) rfl (Or.inr rfl) (jend_b rfl (h01 _)) (red _ (by rw [propext mx]; exact congrArg isB (propext ⟨Or.inr, fun z => z.elim (fun z => absurd z qR) id⟩)))
          · repeat refine kX_one rfl ?_
            refine kX_ialdN rfl rfl (by decide) (t) (by first | rfl | decide) (ht1) ?_
            rw [hx]
            refine kX_baldN rfl rfl (by decide) (x) (by first | rfl | decide) (h1000 x h6) ?_
            rw [hmk x h4 h6]
            rw [tvl_0 hy0 (by decide)] at qR red
            repeat refine kX_one rfl ?_
            refine kX_if (fun q3 => ?_) (fun q3 => ?_)
            · have q3 : ¬ mMk σ l x := fun z => isB_ne.mpr z (qeq q3)
              repeat refine kX_one rfl ?_
              refine kX_ret (i := .ireturn) (len := 1) rfl (Or.inr rfl) rfl (red _ (isB_F (fun z => z.elim qR (fun z => q3 (mx.mpr z.1)))).symm)
            · have q3 : mMk σ l x := isB_ne.mp (qeqF q3)
              repeat refine kX_one rfl ?_
              refine kX_ialdN rfl rfl (by decide) (t) (by first | rfl | decide) (ht1) ?_
              rw [hy]
              refine kX_cal (mr_hasPrivate L xs d σ n b l y h hq hag.1 hy0) rfl (Or.inr rfl) rfl rfl rfl (fun r1 σ1 q1 => ?_)
              obtain ⟨rfl, rfl⟩ := q1
              repeat refine kX_one rfl ?_
              refine kX_if (fun q4 => ?_) (fun q4 => ?_)
              · have q4 := fun z => isB_ne.mpr z (qeq q4)
                repeat refine kX_one rfl ?_
                refine kX_ret (i := .ireturn) (len := 1) rfl (Or.inr rfl) rfl (red _ (isB_F (fun z => z.elim qR (fun z => q4 z.2))).symm)
              · have q4 := isB_ne.mp (qeqF q4)
                repeat refine kX_one rfl ?_
                refine kX_ret (i := .ireturn) (len := 1) rfl (Or.inr rfl) rfl (red _ (isB_T (Or.inr ⟨mx.mp q3, q4⟩)).symm)
      · rw [hk]
        have hgx := tgd_1 hV hk hx hy (by omega) (by omega) h4 h6
        rw [q2] at hgx
        have mx : mMk σ l x ↔ vmk (mR σ l) (mA σ) (σ 238) (tvl (σ 233) (σ 234) (σ 235) x) := ⟨fun z => z.2, fun z => ⟨hgx.symm, z⟩⟩
        rw [tvl_1 hV hk hx hy (by omega) (by omega) h4 h6] at qR red
        rcases h3 with rfl | ⟨rfl, hag⟩
        · repeat refine kX_one rfl ?_
          refine kX_ialdN rfl rfl (by decide) (t) (by first | rfl | decide) (ht1) ?_
          rw [hx]
          refine kX_baldN rfl rfl (by decide) (x) (by first | rfl | decide) (h1000 x h6) ?_
          rw [hmk x h4 h6]
          refine kX_ret (i := .ireturn) (len := 1) rfl (Or.inr rfl) (jend_b rfl (h01 _)) (red _ (by rw [propext mx]; exact congrArg isB (propext ⟨Or.inr, fun z => z.elim (fun z => absurd z qR) id⟩)))
        · have hx0 : σ 233 x = nI 0 := by
            rcases hag.2 with e | ⟨e, -⟩
            · exact e
            · rw [tgd_0 e (by decide)] at hgx
              exact absurd rfl (of_decide_eq_true hgx.symm)
          rw [tvl_0 hx0 (by decide)] at qR red
          have hv0 : vnh (σ 238) (.arg x) ↔ σ 238 x = 0 := ⟨fun ⟨z, e, hz⟩ => by rw [Jvm.Term.arg.inj e]; exact hz, fun q => ⟨x, rfl, q⟩⟩
          repeat refine kX_one rfl ?_
          refine kX_ialdN rfl rfl (by decide) (t) (by first | rfl | decide) (ht1) ?_
          rw [hx]
          refine kX_baldN rfl rfl (by decide) (x) (by first | rfl | decide) (by have := hag.1; omega) ?_
          repeat refine kX_one rfl ?_
          refine kX_if (fun q3 => ?_) (fun q3 => ?_)
          · have q3 := qne q3
            repeat refine kX_one rfl ?_
            refine kX_ret (i := .ireturn) (len := 1) rfl (Or.inr rfl) rfl (red _ (isB_F (fun z => z.elim qR (fun z => q3 (hv0.mp z)))).symm)
          · have q3 := qneF q3
            repeat refine kX_one rfl ?_
            refine kX_ret (i := .ireturn) (len := 1) rfl (Or.inr rfl) rfl (red _ (isB_T (Or.inr (hv0.mpr q3))).symm)
    · have q2 := (bI_eq _).mp (qneF q2)
      repeat refine kX_one rfl ?_
      refine kX_ret (i := .ireturn) (len := 1) rfl (Or.inr rfl) rfl (⟨by rw [isB_F (fun z => absurd z.1 (by rw [q2]; decide))]; rfl, rfl⟩)
  · have q : rwI l t := isB_ne.mp (qeqF q)
    repeat refine kX_one rfl ?_
    refine kX_ret (i := .ireturn) (len := 1) rfl (Or.inr rfl) rfl ⟨?_, rfl⟩
    have hm : mMk σ l t := by
      refine ⟨(hq.2.2.1 t q).2, ?_⟩
      have hRt := (hR t ht).mpr q
      have hgt := (hq.2.2.1 t q).2
      rcases (hV t ht).2 with ⟨k, h3, hk, -, -⟩ | ⟨k, x, y, h3, hk, hx, hy, h4, h5, h6, h7⟩ | ⟨k, x, h3, hk, hx, hy, h4, h6⟩
      · rw [tvl_0 hk h3] at hRt ⊢
        exact Or.inl hRt
      · rw [tvl_2 hV hk hx hy (by omega) (by omega) h4 h5 h6 h7] at hRt ⊢
        rcases h3 with rfl | rfl | ⟨rfl | rfl, -⟩
        · exact Or.inl hRt
        · exact Or.inl hRt
        · exact Or.inl hRt
        · exact Or.inl hRt
      · rw [tvl_1 hV hk hx hy (by omega) (by omega) h4 h6] at hRt ⊢
        rcases h3 with rfl | ⟨rfl, -⟩
        · exact Or.inl hRt
        · exact Or.inl hRt
    rw [isB_T hm]
    rfl
/-- what was judged of the row l holds -/
def mJd (σ : kS) (n b : Nat) (l : rwT) : Prop := (σ 232 50 = -1 ∨ ∃ r0, r0 ≤ l.length ∧ σ 232 50 = nI r0) ∧ (σ 232 50 = nI l.length → ∃ j, σ 232 49 = nI j ∧ 200 ≤ j ∧ j ≤ b ∧ ∀ t, mv n b t → t < j → σ 272 t = isB (mMk σ l t))
def cmS (σ : kS) (M o : Nat → Int32) : kS := va_up (va_up σ 272 M) 232 o
theorem isB_01 (P : Prop) : isB P = 0 ∨ isB P = 1 := by
  by_cases hp : P
  · exact Or.inr (isB_T hp)
  · exact Or.inl (isB_F hp)
set_option maxRecDepth 100000 in
set_option maxHeartbeats 4000000 in
theorem mr_canMake (L : Nat) (xs : Nat → Int32) (d : Nat) (σ : kS) (n b : Nat) (l : rwT) (t : Nat) (h : mTb σ n b) (hq : mRq σ (mvG σ n b) l) (hj : mJd σ n b l) (ht : mv n b t) : kXM kT L xs (d + 4) 182 [.ref 232, .int (nI t)] σ (fun r σ' => r = some (.int (isB (mMk σ l t))) ∧ ∃ M, σ' = cmS σ M (upd (upd (σ 232) 49 (nI b)) 50 (nI l.length)) ∧ mJd σ' n b l) := by
  have hn := h.1
  have hb2 := h.2.1
  have hb := h.2.2.1
  have hl := mRq_len hq
  have ht1 : t < 1000 := by unfold mv at ht; omega
  have hend : ∀ q : Nat × (Nat → Int32), (200 ≤ q.1 ∧ q.1 ≤ b ∧ ∀ u, mv n b u → u < q.1 → q.2 u = isB (mMk σ l u)) → kX kT L xs (d + 4) 182 53 [(0, .ref 232), (1, .int (nI t))] [] (cmS σ q.2 (upd (upd (σ 232) 49 (nI q.1)) 50 (nI l.length))) (fun r σ' => r = some (.int (isB (mMk σ l t))) ∧ ∃ M, σ' = cmS σ M (upd (upd (σ 232) 49 (nI b)) 50 (nI l.length)) ∧ mJd σ' n b l) := by
    refine kX_while (fun q : Nat × (Nat → Int32) => [(0, .ref 232), (1, .int (nI t))]) (fun q => cmS σ q.2 (upd (upd (σ 232) 49 (nI q.1)) 50 (nI l.length))) _ (fun q => b - q.1) ?_
    rintro ⟨j, M⟩ ⟨h1, h2, h3⟩ ih
    dsimp only at h1 h2 h3 ih ⊢
    iterate 4 (refine kX_one rfl ?_)
    refine kX_top (h.2.2.2.2.1) ?_
    repeat refine kX_one rfl ?_
    refine kX_if (fun q => ?_) (fun q => ?_)
    · have q := qge q j b
      obtain rfl : j = b := by omega
      repeat refine kX_one rfl ?_
      refine kX_baldN rfl rfl (by decide) (t) (by first | rfl | decide) (ht1) ?_
      rw [show cmS σ M (upd (upd (σ 232) 49 (nI j)) 50 (nI l.length)) 272 t = isB (mMk σ l t) from h3 t ht (by unfold mv at ht; omega)]
      refine kX_ret (i := .ireturn) (len := 1) rfl (Or.inr rfl) (jend_b rfl (isB_01 _)) (⟨rfl, M, rfl, Or.inr ⟨l.length, Nat.le_refl _, rfl⟩, fun _ => ⟨j, rfl, h1, Nat.le_refl _, h3⟩⟩)
    · have q := qgeF q j b
      repeat refine kX_one rfl ?_
      refine kX_cal (mr_isMade L xs d _ n b l j (show mTb (cmS σ M (upd (upd (σ 232) 49 (nI j)) 50 (nI l.length))) n b from h) (show mRq (cmS σ M (upd (upd (σ 232) 49 (nI j)) 50 (nI l.length))) (mvG σ n b) l from hq) (Or.inr ⟨h1, q⟩) (fun x hx hv => h3 x hv hx)) rfl (Or.inr rfl) rfl rfl rfl (fun r1 σ1 q1 => ?_)
      obtain ⟨rfl, rfl⟩ := q1
      refine kX_bastN rfl rfl (by decide) (j) (by first | rfl | decide) (by omega) (isB_01 _) ?_
      iterate 7 (refine kX_one rfl ?_)
      have := ih (j + 1, upd M j (isB (mMk σ l j))) ⟨by omega, by simp only; omega, fun u hu hlt => by
        simp only at hlt ⊢
        by_cases e : u = j
        · subst e
          exact pk_us
        · rw [pk_un e]
          exact h3 u hu (by omega)⟩ (by simp only; omega)
      refine kX_st _ ?_ this
      rw [← nI_1]
      funext c; unfold cmS va_up; repeat' split
      all_goals first | rfl | omega | (subst_vars; rfl) | (funext j; unfold upd; repeat' split; all_goals first | rfl | omega | (subst_vars; rfl))
  unfold kXM
  iterate 4 (refine kX_one rfl ?_)
  refine kX_top (hq.1) ?_
  repeat refine kX_one rfl ?_
  refine kX_if (fun q => ?_) (fun q => ?_)
  · have q := qeq q
    obtain ⟨j, j1, j2, j3, j4⟩ := hj.2 q
    have := hend (j, σ 272) ⟨j2, j3, j4⟩
    refine kX_st _ ?_ this
    have e : upd (upd (σ 232) 49 (nI j)) 50 (nI l.length) = σ 232 := by
      funext z
      unfold upd
      split
      · next e => rw [e]; exact q.symm
      · split
        · next e => rw [e]; exact j1.symm
        · rfl
    rw [e]
    funext c; unfold cmS va_up; repeat' split
    all_goals first | rfl | (next e => rw [e])
  · iterate 2 (refine kX_one rfl ?_)
    have loop := kX_while (T := kT) (L := L) (xs := xs) (d := d + 4) (mi := 182) (pc := 13) (Q := fun r σ' => r = some (.int (isB (mMk σ l t))) ∧ ∃ M, σ' = cmS σ M (upd (upd (σ 232) 49 (nI b)) 50 (nI l.length)) ∧ mJd σ' n b l)
      (fun q : Nat × (Nat → Int32) => [(2, .int (nI q.1)), (0, .ref 232), (1, .int (nI t))]) (fun q => va_up σ 272 q.2) (fun q => q.1 ≤ n ∧ ∀ u, u < q.1 → q.2 u = isB (mMk σ l u)) (fun q => n - q.1) ?_ (0, σ 272) ⟨Nat.zero_le _, fun u hu => absurd hu (Nat.not_lt_zero u)⟩
    · rw [kup_self] at loop
      exact loop
    · rintro ⟨k, M⟩ ⟨h1, h2⟩ ih
      dsimp only at h1 h2 ih ⊢
      iterate 3 (refine kX_one rfl ?_)
      refine kX_top (h.2.2.2.1) ?_
      repeat refine kX_one rfl ?_
      refine kX_if (fun q => ?_) (fun q => ?_)
      · have q := qge q k n
        obtain rfl : k = n := by omega
        iterate 6 (refine kX_one rfl ?_)
        refine kX_top (hq.1) ?_
        iterate 1 (refine kX_one rfl ?_)
        have := hend (200, M) ⟨Nat.le_refl _, hb2, fun u hu hlt => h2 u (by unfold mv at hu; simp only at hlt; omega)⟩
        refine kX_to _ _ rfl rfl rfl ?_ this
        funext c; unfold cmS va_up; repeat' split
        all_goals first | rfl | omega | (subst_vars; rfl) | (funext j; unfold upd; repeat' split; all_goals first | rfl | omega | (subst_vars; rfl))
      · have q := qgeF q k n
        repeat refine kX_one rfl ?_
        refine kX_cal (mr_isMade L xs d _ n b l k (show mTb (va_up σ 272 M) n b from h) (show mRq (va_up σ 272 M) (mvG σ n b) l from hq) (Or.inl q) (fun x hx hv => h2 x hx)) rfl (Or.inr rfl) rfl rfl rfl (fun r1 σ1 q1 => ?_)
        obtain ⟨rfl, rfl⟩ := q1
        refine kX_bastN rfl rfl (by decide) (k) (by first | rfl | decide) (by omega) (isB_01 _) ?_
        iterate 2 (refine kX_one rfl ?_)
        rw [kup_up]
        have := ih (k + 1, upd M k (isB (mMk σ l k))) ⟨q, fun u hlt => by
          simp only at hlt ⊢
          by_cases e : u = k
          · subst e
            exact pk_us
          · rw [pk_un e]
            exact h2 u (by omega)⟩ (by simp only; omega)
        rw [← nI_1] at this
        exact this
end
section
/-! the reference: the row taken apart -/
def rwS (σ : kS) (Mk I R H M o : Nat → Int32) : kS := va_up (va_up (va_up (va_up (va_up (va_up σ 272 Mk) 271 I) 268 R) 269 H) 270 M) 232 o
theorem rwS_of {σ τ : kS} (h : ∀ c, c ≠ 272 → c ≠ 271 → c ≠ 268 → c ≠ 269 → c ≠ 270 → c ≠ 232 → τ c = σ c) : τ = rwS σ (τ 272) (τ 271) (τ 268) (τ 269) (τ 270) (τ 232) := by
  funext c
  unfold rwS va_up
  repeat' split
  all_goals first | (next e => rw [e]) | skip
  next h1 h2 h3 h4 h5 h6 => exact h c h6 h5 h4 h3 h2 h1
theorem rwS_rwS (σ : kS) (a b c d e f a' b' c' d' e' f' : Nat → Int32) : rwS (rwS σ a b c d e f) a' b' c' d' e' f' = rwS σ a' b' c' d' e' f' :=
  rwS_of (σ := σ) (τ := rwS (rwS σ a b c d e f) a' b' c' d' e' f') (fun c h1 h2 h3 h4 h5 h6 => by
    simp [rwS, va_up, h1, h2, h3, h4, h5, h6])
/-- nothing else has changed but the row and what was judged -/
def rwF (σ τ : kS) : Prop := (∃ Mk I R H M o, τ = rwS σ Mk I R H M o) ∧ ∀ j, j ≠ 49 → j ≠ 50 → j ≠ 46 → τ 232 j = σ 232 j
theorem rwF_refl (σ : kS) : rwF σ σ := ⟨⟨_, _, _, _, _, _, rwS_of (fun _ _ _ _ _ _ _ => rfl)⟩, fun _ _ _ _ => rfl⟩
theorem rwF_trans {σ τ ρ : kS} (h1 : rwF σ τ) (h2 : rwF τ ρ) : rwF σ ρ := by
  obtain ⟨⟨a, b, c, d, e, f, rfl⟩, g1⟩ := h1
  obtain ⟨⟨a', b', c', d', e', f', rfl⟩, g2⟩ := h2
  exact ⟨⟨a', b', c', d', e', f', rwS_rwS _ _ _ _ _ _ _ _ _ _ _ _ _⟩, fun j h1 h2 h3 => (g2 j h1 h2 h3).trans (g1 j h1 h2 h3)⟩
theorem rwF_mRu {σ : kS} {I R H M : Nat → Int32} {x : Int32} : rwF σ (mRu σ I R H M (upd (σ 232) 46 x)) := by
  refine ⟨⟨σ 272, I, R, H, M, upd (σ 232) 46 x, ?_⟩, fun j _ _ h3 => ?_⟩
  · funext c; unfold mRu rwS va_up; repeat' split
    all_goals first | rfl | omega | (subst_vars; rfl) | (funext j; unfold upd; repeat' split; all_goals first | rfl | omega | (subst_vars; rfl))
  · show upd (σ 232) 46 x j = _
    exact pk_un h3
theorem rwF_cmS {σ : kS} {M : Nat → Int32} {x y : Int32} : rwF σ (cmS σ M (upd (upd (σ 232) 49 x) 50 y)) := by
  refine ⟨⟨M, σ 271, σ 268, σ 269, σ 270, upd (upd (σ 232) 49 x) 50 y, ?_⟩, fun j h1 h2 _ => ?_⟩
  · funext c; unfold cmS rwS va_up; repeat' split
    all_goals first | rfl | omega | (subst_vars; rfl) | (funext j; unfold upd; repeat' split; all_goals first | rfl | omega | (subst_vars; rfl))
  · show upd (upd (σ 232) 49 x) 50 y j = _
    rw [pk_un h2, pk_un h1]
theorem rwF_Tb {σ τ : kS} {n b : Nat} (h : rwF σ τ) (hT : mTb σ n b) : mTb τ n b := by
  obtain ⟨⟨Mk, I, R, H, M, o, rfl⟩, g⟩ := h
  obtain ⟨h1, h2, h3, h4, h5, h6⟩ := hT
  exact ⟨h1, h2, h3, (g _ (by decide) (by decide) (by decide)).trans h4, (g _ (by decide) (by decide) (by decide)).trans h5, h6⟩
theorem rwA_len {l : rwT} {t : Nat} {w p : Int32} : rwA l t w p = l ∨ rwA l t w p = l ++ [(t, w, p)] := by
  unfold rwA
  split
  · exact Or.inl rfl
  · exact Or.inr rfl
/-- what was judged of a shorter row says nothing of a longer one -/
theorem mJd_comes {σ : kS} {n b : Nat} {l : rwT} {I R H M : Nat → Int32} {t : Nat} {w p : Int32} (hl : l.length ≤ 1000) (h : mJd σ n b l) : mJd (mRu σ I R H M (upd (σ 232) 46 (nI (rwA l t w p).length))) n b (rwA l t w p) := by
  rcases rwA_len (l := l) (t := t) (w := w) (p := p) with e | e
  · rw [e]
    exact h
  · rw [e]
    refine ⟨?_, fun q => ?_⟩
    · rcases h.1 with h1 | ⟨r0, h1, h2⟩
      · exact Or.inl h1
      · exact Or.inr ⟨r0, by rw [List.length_append]; omega, h2⟩
    · exfalso
      rw [List.length_append] at q
      have q' : σ 232 50 = nI (l.length + 1) := q
      rcases h.1 with h1 | ⟨r0, h1, h2⟩
      · rw [h1] at q'
        exact nI_m1 (by omega) q'.symm
      · rw [h2] at q'
        have := nI_inj q'
        omega
noncomputable def cit {α : Type} (P : Prop) (a b : α) : α := @ite _ P (Classical.propDecidable P) a b
theorem cit_T {α : Type} {P : Prop} {a b : α} (h : P) : cit P a b = a := by unfold cit; exact if_pos h
theorem cit_F {α : Type} {P : Prop} {a b : α} (h : ¬ P) : cit P a b = b := by unfold cit; exact if_neg h
/-- the PRIVATE of an AGENT is had -/
def mHp (σ : kS) (l : rwT) (y : Nat) : Prop := vnh (σ 238) (.arg y) ∨ mR σ l (.length (.arg y))
noncomputable def tkT (σ : kS) (l : rwT) (p t : Nat) : rwT := if σ 233 t = nI 4 then rwA (rwA l (fN (σ 234 t)) (nI 2) (nI p)) (fN (σ 235 t)) (nI 3) (nI p)
  else if σ 233 t = nI 5 then cit (mMk σ l (fN (σ 235 t))) (rwA l (fN (σ 234 t)) (nI 4) (nI p)) l
  else if σ 233 t = nI 6 then cit (mHp σ l (fN (σ 235 t))) (rwA l (fN (σ 234 t)) (nI 5) (nI p)) l
  else if σ 233 t = nI 8 then rwA l (fN (σ 234 t)) (nI 6) (nI p) else l
/-- place p of the row l is taken apart -/
noncomputable def tkR (σ : kS) (l : rwT) (p : Nat) : rwT := match l[p]? with
  | some q => tkT σ l p q.1
  | none => l
set_option maxRecDepth 100000 in
set_option maxHeartbeats 4000000 in
theorem mr_takeApart (L : Nat) (xs : Nat → Int32) (d : Nat) (σ : kS) (n b : Nat) (l : rwT) (p : Nat) (h : mTb σ n b) (hq : mRq σ (mvG σ n b) l) (hj : mJd σ n b l) (hp : p < l.length) : kXM kT L xs (d + 5) 184 [.ref 232, .int (nI p)] σ (fun r σ' => r = none ∧ rwF σ σ' ∧ mRq σ' (mvG σ n b) (tkR σ l p) ∧ mJd σ' n b (tkR σ l p)) := by
  have hn := h.1
  have hb := h.2.2.1
  have hV := h.2.2.2.2.2.1.1
  have hl := mRq_len hq
  have h1000 : ∀ x, mv n b x → x < 1000 := fun x q => by unfold mv at q; omega
  obtain ⟨t, ht⟩ : ∃ t, (l[p]'hp).1 = t := ⟨_, rfl⟩
  have hR : tkR σ l p = tkT σ l p t := by
    unfold tkR
    rw [List.getElem?_eq_getElem hp]
    rw [← ht]
  have hrow : σ 268 p = nI t := by rw [← ht]; exact (hq.2.1 p hp).1
  have htv : mvG σ n b t := hq.2.2.1 t ⟨l[p]'hp, List.getElem_mem hp, ht⟩
  have ht1 := h1000 t htv.1
  rw [hR]
  /- one that comes -/
  have hcome : ∀ (τ : kS) (l1 : rwT) (x : Nat) (w : Int32) (pc : Nat) (lv : jL), rwF σ τ → mRq τ (mvG σ n b) l1 → mJd τ n b l1 → mvG σ n b x → kXM kT L xs (d + 4) 178 [.ref 232, .int (nI x), .int w, .int (nI p)] τ (fun r σ' => r = none ∧ rwF σ σ' ∧ mRq σ' (mvG σ n b) (rwA l1 x w (nI p)) ∧ mJd σ' n b (rwA l1 x w (nI p))) := by
    intro τ l1 x w _ _ f1 f2 f3 f4
    refine kX_post (mr_comes L xs (d + 3) τ (mvG σ n b) l1 x w (nI p) f2 (h1000 x f4.1) f4) ?_
    rintro r σ' ⟨rfl, g1, I, R, H, M, rfl⟩
    exact ⟨rfl, rwF_trans f1 rwF_mRu, g1, mJd_comes (mRq_len f2) f3⟩
  unfold kXM
  repeat refine kX_one rfl ?_
  refine kX_ialdV rfl rfl (by decide) (p) (by first | rfl | decide) (by omega) (hrow) ?_
  repeat refine kX_one rfl ?_
  refine kX_ialdN rfl rfl (by decide) (t) (by first | rfl | decide) (ht1) ?_
  rcases (hV t htv.1).2 with ⟨k, h3, hk, -, -⟩ | ⟨k, x, y, h3, hk, hx, hy, h4, h5, h6, h7⟩ | ⟨k, x, h3, hk, hx, hy, h4, h6⟩
  · have e : tkT σ l p t = l := by
      unfold tkT
      rw [hk]
      rw [if_neg (nI_ne (by omega)), if_neg (nI_ne (by omega)), if_neg (nI_ne (by omega)), if_neg (nI_ne (by omega))]
    rw [e]
    refine kX_top (hk) ?_
    obtain rfl | rfl | rfl | rfl : k = 0 ∨ k = 1 ∨ k = 2 ∨ k = 3 := by omega
    all_goals (repeat refine kX_one rfl ?_)
    all_goals exact kX_ret (i := .return_) (len := 1) rfl (Or.inr rfl) rfl ⟨rfl, rwF_refl σ, hq, hj⟩
  · have hg := htv.2
    rw [tgd_2 hV hk hx hy (by omega) (by omega) h4 h5 h6 h7, Bool.and_eq_true] at hg
    have hxv : mvG σ n b x := ⟨h6, hg.1⟩
    have hyv : mvG σ n b y := ⟨h7, hg.2⟩
    have hx1 := h1000 x h6
    have hy1 := h1000 y h7
    have ex : fN (σ 234 t) = x := by rw [hx]; exact fN_nI (by omega)
    have ey : fN (σ 235 t) = y := by rw [hy]; exact fN_nI (by omega)
    refine kX_top (hk) ?_
    rcases h3 with rfl | rfl | ⟨h3, hag⟩
    · have e : tkT σ l p t = rwA (rwA l x (nI 2) (nI p)) y (nI 3) (nI p) := by
        unfold tkT
        rw [if_pos hk, ex, ey]
      rw [e]
      repeat refine kX_one rfl ?_
      refine kX_ialdV rfl rfl (by decide) (t) (by first | rfl | decide) (ht1) (hx) ?_
      repeat refine kX_one rfl ?_
      refine kX_cal (hcome σ l x (nI 2) 0 [] (rwF_refl σ) hq hj hxv) rfl (Or.inr rfl) rfl rfl rfl (fun r1 σ1 q1 => ?_)
      obtain ⟨rfl, f1, f2, f3⟩ := q1
      have hy' : σ1 235 t = nI y := by
        obtain ⟨⟨_, _, _, _, _, _, rfl⟩, -⟩ := f1
        exact hy
      repeat refine kX_one rfl ?_
      refine kX_ialdV rfl rfl (by decide) (t) (by first | rfl | decide) (ht1) (hy') ?_
      repeat refine kX_one rfl ?_
      refine kX_cal (hcome σ1 _ y (nI 3) 0 [] f1 f2 f3 hyv) rfl (Or.inr rfl) rfl rfl rfl (fun r1 σ2 q1 => ?_)
      obtain ⟨rfl, q1⟩ := q1
      repeat refine kX_one rfl ?_
      refine kX_ret (i := .return_) (len := 1) rfl (Or.inr rfl) rfl (⟨rfl, q1⟩)
    · have e : tkT σ l p t = cit (mMk σ l y) (rwA l x (nI 4) (nI p)) l := by
        unfold tkT
        rw [if_neg (by rw [hk]; decide), if_pos hk, ex, ey]
      rw [e]
      repeat refine kX_one rfl ?_
      refine kX_ialdV rfl rfl (by decide) (t) (by first | rfl | decide) (ht1) (hx) ?_
      refine kX_baldV rfl rfl (by decide) (x) (by first | rfl | decide) (hx1) (hq.2.2.2.1 x hx1) ?_
      repeat refine kX_one rfl ?_
      refine kX_if (fun q => ?_) (fun q => ?_)
      · have q := isB_ne.mp (qne q)
        have e2 : cit (mMk σ l y) (rwA l x (nI 4) (nI p)) l = l := by
          by_cases hm : mMk σ l y
          · rw [cit_T hm]
            exact if_pos q
          · exact cit_F hm
        rw [e2]
        refine kX_ret (i := .return_) (len := 1) rfl (Or.inr rfl) rfl (⟨rfl, rwF_refl σ, hq, hj⟩)
      · repeat refine kX_one rfl ?_
        refine kX_ialdV rfl rfl (by decide) (t) (by first | rfl | decide) (ht1) (hy) ?_
        refine kX_cal (mr_canMake L xs d σ n b l y h hq hj h7) rfl (Or.inr rfl) rfl rfl rfl (fun r1 σ1 q1 => ?_)
        obtain ⟨rfl, M, rfl, f3⟩ := q1
        repeat refine kX_one rfl ?_
        refine kX_if (fun q2 => ?_) (fun q2 => ?_)
        · have q2 : ¬ mMk σ l y := fun z => isB_ne.mpr z (qeq q2)
          rw [cit_F q2]
          refine kX_ret (i := .return_) (len := 1) rfl (Or.inr rfl) rfl (⟨rfl, rwF_cmS, hq, f3⟩)
        · have q2 := isB_ne.mp (qeqF q2)
          rw [cit_T q2]
          repeat refine kX_one rfl ?_
          refine kX_ialdV rfl rfl (by decide) (t) (by first | rfl | decide) (ht1) (hx) ?_
          repeat refine kX_one rfl ?_
          refine kX_cal (hcome _ l x (nI 4) 0 [] rwF_cmS hq f3 hxv) rfl (Or.inr rfl) rfl rfl rfl (fun r1 σ2 q1 => ?_)
          obtain ⟨rfl, q1⟩ := q1
          repeat refine kX_one rfl ?_
          refine kX_ret (i := .return_) (len := 1) rfl (Or.inr rfl) rfl (⟨rfl, q1⟩)
    · have hy0 : σ 233 y = nI 0 := by
        rcases hag.2 with e | ⟨e, -⟩
        · exact e
        · rw [tgd_0 e (by decide)] at hg
          exact absurd rfl (of_decide_eq_true hg.2)
      rcases h3 with rfl | rfl
      · have e : tkT σ l p t = cit (mHp σ l y) (rwA l x (nI 5) (nI p)) l := by
          unfold tkT
          rw [if_neg (by rw [hk]; decide), if_neg (by rw [hk]; decide), if_pos hk, ex, ey]
        rw [e]
        repeat refine kX_one rfl ?_
        refine kX_ialdV rfl rfl (by decide) (t) (by first | rfl | decide) (ht1) (hy) ?_
        refine kX_cal (mr_hasPrivate L xs (d + 2) σ n b l y h hq hag.1 hy0) rfl (Or.inr rfl) rfl rfl rfl (fun r1 σ1 q1 => ?_)
        obtain ⟨rfl, rfl⟩ := q1
        repeat refine kX_one rfl ?_
        refine kX_if (fun q2 => ?_) (fun q2 => ?_)
        · have q2 : ¬ mHp σ l y := fun z => isB_ne.mpr z (qeq q2)
          rw [cit_F q2]
          refine kX_ret (i := .return_) (len := 1) rfl (Or.inr rfl) rfl (⟨rfl, rwF_refl σ, hq, hj⟩)
        · have q2 : mHp σ l y := isB_ne.mp (qeqF q2)
          rw [cit_T q2]
          repeat refine kX_one rfl ?_
          refine kX_ialdV rfl rfl (by decide) (t) (by first | rfl | decide) (ht1) (hx) ?_
          repeat refine kX_one rfl ?_
          refine kX_cal (hcome σ l x (nI 5) 0 [] (rwF_refl σ) hq hj hxv) rfl (Or.inr rfl) rfl rfl rfl (fun r1 σ2 q1 => ?_)
          obtain ⟨rfl, q1⟩ := q1
          repeat refine kX_one rfl ?_
          refine kX_ret (i := .return_) (len := 1) rfl (Or.inr rfl) rfl (⟨rfl, q1⟩)
      · have e : tkT σ l p t = rwA l x (nI 6) (nI p) := by
          unfold tkT
          rw [if_neg (by rw [hk]; decide), if_neg (by rw [hk]; decide), if_neg (by rw [hk]; decide), if_pos hk, ex]
        rw [e]
        repeat refine kX_one rfl ?_
        refine kX_ialdV rfl rfl (by decide) (t) (by first | rfl | decide) (ht1) (hx) ?_
        repeat refine kX_one rfl ?_
        refine kX_cal (hcome σ l x (nI 6) 0 [] (rwF_refl σ) hq hj hxv) rfl (Or.inr rfl) rfl rfl rfl (fun r1 σ2 q1 => ?_)
        obtain ⟨rfl, q1⟩ := q1
        repeat refine kX_one rfl ?_
        refine kX_ret (i := .return_) (len := 1) rfl (Or.inr rfl) rfl (⟨rfl, q1⟩)
  · have e : tkT σ l p t = l := by
      unfold tkT
      rw [hk]
      rw [if_neg (nI_ne (by omega)), if_neg (nI_ne (by omega)), if_neg (nI_ne (by omega)), if_neg (nI_ne (by omega))]
    rw [e]
    refine kX_top (hk) ?_
    rcases h3 with rfl | ⟨rfl, -⟩
    all_goals (repeat refine kX_one rfl ?_)
    all_goals exact kX_ret (i := .return_) (len := 1) rfl (Or.inr rfl) rfl ⟨rfl, rwF_refl σ, hq, hj⟩
end
section
/-! the reference: the row from its beginning to its end -/
noncomputable def psR (σ : kS) : Nat → Nat → rwT → rwT
  | 0, _, l => l
  | f + 1, p, l => if p < l.length then psR σ f (p + 1) (tkR σ l p) else l
noncomputable def enR (σ : kS) : Nat → rwT → rwT
  | 0, l => l
  | f + 1, l => if l.length < (psR σ 1001 0 l).length then enR σ f (psR σ 1001 0 l) else psR σ 1001 0 l
theorem tkR_len (σ : kS) (l : rwT) (p : Nat) : l.length ≤ (tkR σ l p).length := by
  have hA : ∀ (l : rwT) t w q, l.length ≤ (rwA l t w q).length := fun l t w q => by
    rcases rwA_len (l := l) (t := t) (w := w) (p := q) with e | e
    · rw [e]
      exact Nat.le_refl _
    · rw [e, List.length_append]
      omega
  unfold tkR
  split
  · unfold tkT cit
    repeat' split
    all_goals first | exact Nat.le_refl _ | exact hA _ _ _ _ | exact Nat.le_trans (hA _ _ _ _) (hA _ _ _ _)
  · exact Nat.le_refl _
theorem psR_len (σ : kS) : ∀ (f p : Nat) (l : rwT), l.length ≤ (psR σ f p l).length
  | 0, _, _ => Nat.le_refl _
  | f + 1, p, l => by
    unfold psR
    split
    · exact Nat.le_trans (tkR_len σ l p) (psR_len σ f (p + 1) _)
    · exact Nat.le_refl _
/-- the row's functions hang on the table alone -/
theorem rwF_tkR {σ τ : kS} (h : rwF σ τ) (l : rwT) (p : Nat) : tkR τ l p = tkR σ l p := by
  obtain ⟨⟨_, _, _, _, _, _, rfl⟩, -⟩ := h
  rfl
theorem rwF_mvG {σ τ : kS} (h : rwF σ τ) (n b : Nat) : mvG τ n b = mvG σ n b := by
  obtain ⟨⟨_, _, _, _, _, _, rfl⟩, -⟩ := h
  rfl
set_option maxRecDepth 100000 in
set_option maxHeartbeats 4000000 in
theorem mr_endRow (L : Nat) (xs : Nat → Int32) (d : Nat) (σ : kS) (n b : Nat) (l : rwT) (h : mTb σ n b) (hq : mRq σ (mvG σ n b) l) (hj : mJd σ n b l) : kXM kT L xs (d + 6) 183 [.ref 232] σ (fun r σ' => r = none ∧ rwF σ σ' ∧ mRq σ' (mvG σ n b) (enR σ 1001 l) ∧ mJd σ' n b (enR σ 1001 l)) := by
  unfold kXM
  /- one time through -/
  have inner : ∀ (l0 : rwT) (τ0 : kS) (Q : Option Value → kS → Prop), rwF σ τ0 → mRq τ0 (mvG σ n b) l0 → mJd τ0 n b l0 →
      (∀ τ, rwF σ τ → mRq τ (mvG σ n b) (psR σ 1001 0 l0) → mJd τ n b (psR σ 1001 0 l0) → kX kT L xs (d + 6) 183 32 [(0, .ref 232), (2, .int (nI l0.length))] [] τ Q) →
      kX kT L xs (d + 6) 183 13 [(3, .int (nI 0)), (2, .int (nI l0.length)), (0, .ref 232)] [] τ0 Q := by
    intro l0 τ0 Q i1 i2 i3 he
    refine kX_while (fun q : Nat × rwT × kS => [(3, .int (nI q.1)), (2, .int (nI l0.length)), (0, .ref 232)]) (fun q => q.2.2) (fun q => q.1 ≤ q.2.1.length ∧ rwF σ q.2.2 ∧ mRq q.2.2 (mvG σ n b) q.2.1 ∧ mJd q.2.2 n b q.2.1 ∧ psR σ (1001 - q.1) q.1 q.2.1 = psR σ 1001 0 l0) (fun q => 1001 - q.1) ?_ (0, l0, τ0) ⟨Nat.zero_le _, i1, i2, i3, rfl⟩
    rintro ⟨p, l1, τ⟩ ⟨j1, j2, j3, j4, j5⟩ ih
    dsimp only at j1 j2 j3 j4 j5 ih ⊢
    have hl1 := mRq_len j3
    iterate 3 (refine kX_one rfl ?_)
    refine kX_top (j3.1) ?_
    repeat refine kX_one rfl ?_
    refine kX_if (fun q => ?_) (fun q => ?_)
    · have q := qge q p l1.length
      have e : psR σ (1001 - p) p l1 = l1 := by
        rw [show 1001 - p = (1000 - p) + 1 by omega]
        unfold psR
        rw [if_neg (by omega)]
      rw [e] at j5
      subst j5
      refine kX_lv ([(0, .ref 232), (2, .int (nI l0.length))]) rfl rfl rfl ?_
      exact he τ j2 j3 j4
    · have q := qgeF q p l1.length
      have e : psR σ (1001 - p) p l1 = psR σ (1001 - (p + 1)) (p + 1) (tkR σ l1 p) := by
        rw [show 1001 - p = (1001 - (p + 1)) + 1 by omega, psR, if_pos q]
      rw [e] at j5
      repeat refine kX_one rfl ?_
      have hG := rwF_mvG j2 n b
      refine kX_cal (mr_takeApart L xs d τ n b l1 p (rwF_Tb j2 h) (by rw [hG]; exact j3) j4 q) rfl (Or.inr rfl) rfl rfl rfl (fun r1 σ1 q1 => ?_)
      obtain ⟨rfl, f1, f2, f3⟩ := q1
      rw [rwF_tkR j2] at f2 f3
      rw [hG] at f2
      iterate 2 (refine kX_one rfl ?_)
      have := ih (p + 1, tkR σ l1 p, σ1) ⟨by have := tkR_len σ l1 p; simp only; omega, rwF_trans j2 f1, f2, f3, j5⟩ (by simp only; omega)
      rw [← nI_1] at this
      exact this
  iterate 2 (refine kX_one rfl ?_)
  refine kX_lv [(1, .int (isB True)), (0, .ref 232)] rfl rfl (by rw [isB_T trivial]; rfl) ?_
  refine kX_while (fun q : Prop × Nat × rwT × kS => [(1, .int (isB q.1)), (0, .ref 232)]) (fun q => q.2.2.2) (fun q => rwF σ q.2.2.2 ∧ mRq q.2.2.2 (mvG σ n b) q.2.2.1 ∧ mJd q.2.2.2 n b q.2.2.1 ∧ ((¬ q.1 ∧ q.2.2.1 = enR σ 1001 l) ∨ (q.1 ∧ 0 < q.2.1 ∧ 1001 ≤ q.2.1 + q.2.2.1.length ∧ enR σ q.2.1 q.2.2.1 = enR σ 1001 l))) (fun q => q.2.1) ?_ (True, 1001, l, σ) ⟨rwF_refl σ, hq, hj, Or.inr ⟨trivial, by simp only; omega, by simp only; omega, rfl⟩⟩
  rintro ⟨P, f, l1, τ⟩ ⟨j1, j2, j3, j4⟩ ih
  dsimp only at j1 j2 j3 j4 ih ⊢
  repeat refine kX_one rfl ?_
  refine kX_if (fun q => ?_) (fun q => ?_)
  · have q : ¬ P := fun z => isB_ne.mpr z (qeq q)
    rcases j4 with ⟨-, rfl⟩ | ⟨j4, -⟩
    · refine kX_ret (i := .return_) (len := 1) rfl (Or.inr rfl) rfl (⟨rfl, j1, j2, j3⟩)
    · exact absurd j4 q
  · have q : P := isB_ne.mp (qeqF q)
    rcases j4 with ⟨j4, -⟩ | ⟨-, f0, f1, f2⟩
    · exact absurd q j4
    · have hl1 := mRq_len j2
      iterate 2 (refine kX_one rfl ?_)
      refine kX_top (j2.1) ?_
      iterate 3 (refine kX_one rfl ?_)
      refine kX_lv [(3, .int (nI 0)), (2, .int (nI l1.length)), (0, .ref 232)] rfl rfl rfl ?_
      refine inner l1 τ _ j1 j2 j3 (fun τ2 k1 k2 k3 => ?_)
      have hl2 := mRq_len k2
      obtain ⟨f, rfl⟩ : ∃ g, f = g + 1 := ⟨f - 1, by omega⟩
      have hlen := psR_len σ 1001 0 l1
      rw [enR] at f2
      iterate 2 (refine kX_one rfl ?_)
      refine kX_top (k2.1) ?_
      repeat refine kX_one rfl ?_
      refine kX_if (fun q2 => ?_) (fun q2 => ?_)
      · have q2 := qle q2 (psR σ 1001 0 l1).length l1.length
        rw [if_neg (by omega)] at f2
        iterate 3 (refine kX_one rfl ?_)
        refine kX_lv [(1, .int (isB False)), (0, .ref 232)] rfl rfl (by rw [isB_F id]; rfl) ?_
        exact ih (False, f, psR σ 1001 0 l1, τ2) ⟨k1, k2, k3, Or.inl ⟨id, f2⟩⟩ (by simp only; omega)
      · have q2 := qleF q2 (psR σ 1001 0 l1).length l1.length
        rw [if_pos (by omega)] at f2
        iterate 4 (refine kX_one rfl ?_)
        refine kX_lv [(1, .int (isB True)), (0, .ref 232)] rfl rfl (by rw [isB_T trivial]; rfl) ?_
        exact ih (True, f, psR σ 1001 0 l1, τ2) ⟨k1, k2, k3, Or.inr ⟨trivial, by simp only; omega, by simp only; omega, f2⟩⟩ (by simp only; omega)
end
section
/-! the reference: the row begins -/
theorem cnt_zero {f : Nat → Prop} (h : ∀ t, ¬ f t) : ∀ m, cnt f m = 0
  | 0 => rfl
  | m + 1 => by
    unfold cnt
    rw [cnt_zero h m, if_neg (h m)]
/-- σ without those that have no number -/
def mRl (σ : kS) (hd : Nat → Int32) (jd : Int32) : kS := va_up (va_up σ 242 hd) 232 (upd (upd (σ 232) 10 (nI 200)) 49 jd)
/-- what is known at first -/
def mKn (σ : kS) (n : Nat) (kl : List Nat) : Prop := σ 232 26 = nI kl.length ∧ kl.length ≤ 20 ∧ lst (σ 254) kl ∧ ∀ t ∈ kl, t < n ∧ tgd (σ 233) (σ 234) (σ 235) t = true
noncomputable def knR (kl : List Nat) : rwT := kl.foldl (fun l t => rwA l t (nI 0) (-6)) []
theorem knR_snoc (kl : List Nat) (t : Nat) : knR (kl ++ [t]) = rwA (knR kl) t (nI 0) (-6) := by
  unfold knR
  rw [List.foldl_append]
  rfl
set_option maxRecDepth 100000 in
set_option maxHeartbeats 4000000 in
theorem mr_beginRow (L : Nat) (xs : Nat → Int32) (d : Nat) (σ : kS) (n b : Nat) (kl : List Nat) (h : mTb σ n b) (hk : mKn σ n kl) : kXM kT L xs (d + 2) 179 [.ref 232] σ (fun r σ' => r = none ∧ (∃ hd jd, rwF (mRl σ hd jd) σ' ∧ mTb (mRl σ hd jd) n 200) ∧ mRq σ' (mvG σ n 200) (knR kl) ∧ mJd σ' n 200 (knR kl)) := by
  obtain ⟨k1, k2, k3, k4⟩ := hk
  have hn := h.1
  unfold kXM
  repeat refine kX_one rfl ?_
  refine kX_cal (mr_release L xs d σ n b 200 h (by decide) h.2.1) rfl (Or.inr rfl) rfl rfl rfl (fun r1 σ1 q1 => ?_)
  obtain ⟨rfl, hd, rfl, hT⟩ := q1
  generalize hjd : (if σ 232 49 < nI 200 then σ 232 49 else nI 200) = jd at hT
  have hT' : mTb (mRl σ hd jd) n 200 := by
    have : mRl σ hd jd = mRel σ 200 hd := by unfold mRl mRel; rw [hjd]
    rw [this]
    exact hT
  iterate 8 (refine kX_one rfl ?_)
  refine kX_to [(1, .int (nI 0)), (0, .ref 232)] (va_up (mRl σ hd jd) 232 (upd (upd (mRl σ hd jd 232) 46 (nI 0)) 50 (-1))) rfl rfl rfl ?_ ?_
  · unfold mRl mRel
    rw [hjd]
    funext c; unfold  va_up; repeat' split
    all_goals first | rfl | omega | (subst_vars; rfl) | (funext j; unfold upd; repeat' split; all_goals first | rfl | omega | (subst_vars; rfl))
  have l1 := kX_while (T := kT) (L := L) (xs := xs) (d := d + 2) (mi := 179) (pc := 19) (Q := fun r σ' => r = none ∧ (∃ hd jd, rwF (mRl σ hd jd) σ' ∧ mTb (mRl σ hd jd) n 200) ∧ mRq σ' (mvG σ n 200) (knR kl) ∧ mJd σ' n 200 (knR kl))
    (fun q : Nat × (Nat → Int32) => [(1, .int (nI q.1)), (0, .ref 232)]) (fun q => va_up (va_up (mRl σ hd jd) 232 (upd (upd (mRl σ hd jd 232) 46 (nI 0)) 50 (-1))) 271 q.2) (fun q => q.1 ≤ 1000 ∧ ∀ t, t < q.1 → q.2 t = 0) (fun q => 1000 - q.1) ?_ (0, σ 271) ⟨Nat.zero_le _, fun t ht => absurd ht (Nat.not_lt_zero t)⟩
  · refine kX_st _ ?_ l1
    funext c; unfold mRl va_up; repeat' split
    all_goals first | rfl | omega | (subst_vars; rfl) | (funext j; unfold upd; repeat' split; all_goals first | rfl | omega | (subst_vars; rfl))
  · rintro ⟨i, f⟩ ⟨i1, i2⟩ ih
    dsimp only at i1 i2 ih ⊢
    repeat refine kX_one rfl ?_
    refine kX_if (fun q => ?_) (fun q => ?_)
    · have q := qge q i 1000
      obtain rfl : i = 1000 := by omega
      iterate 2 (refine kX_one rfl ?_)
      have l2 := kX_while (T := kT) (L := L) (xs := xs) (d := d + 2) (mi := 179) (pc := 41) (Q := fun r σ' => r = none ∧ (∃ hd jd, rwF (mRl σ hd jd) σ' ∧ mTb (mRl σ hd jd) n 200) ∧ mRq σ' (mvG σ n 200) (knR kl) ∧ mJd σ' n 200 (knR kl))
        (fun q : Nat × kS => [(1, .int (nI q.1)), (0, .ref 232)]) (fun q => q.2) (fun q => q.1 ≤ kl.length ∧ rwF (mRl σ hd jd) q.2 ∧ mRq q.2 (mvG σ n 200) (knR (kl.take q.1)) ∧ q.2 232 50 = -1) (fun q => kl.length - q.1) ?_ (0, va_up (va_up (mRl σ hd jd) 232 (upd (upd (mRl σ hd jd 232) 46 (nI 0)) 50 (-1))) 271 f) ⟨Nat.zero_le _, ?_, ?_, rfl⟩
      · refine kX_lv _ rfl rfl ?_ l2
        rfl
      · rintro ⟨i, τ⟩ ⟨j1, j2, j3, j4⟩ ih2
        dsimp only at j1 j2 j3 j4 ih2 ⊢
        have hkn : τ 232 26 = nI kl.length := (j2.2 _ (by decide) (by decide) (by decide)).trans k1
        have hkl : τ 254 = σ 254 := by
          obtain ⟨⟨_, _, _, _, _, _, rfl⟩, -⟩ := j2
          rfl
        iterate 3 (refine kX_one rfl ?_)
        refine kX_top (hkn) ?_
        repeat refine kX_one rfl ?_
        refine kX_if (fun q => ?_) (fun q => ?_)
        · have q := qge q i kl.length
          obtain rfl : i = kl.length := by omega
          rw [List.take_length] at j3
          refine kX_ret (i := .return_) (len := 1) rfl (Or.inr rfl) rfl ⟨rfl, ⟨hd, jd, j2, hT'⟩, j3, Or.inl j4, fun q => ?_⟩
          rw [j4] at q
          exact absurd q.symm (nI_m1 (by have := mRq_len j3; omega))
        · have q := qgeF q i kl.length
          have hki := k4 kl[i] (List.getElem_mem q)
          repeat refine kX_one rfl ?_
          refine kX_ialdV (v := nI kl[i]) rfl rfl (by decide) i rfl (by omega) (by rw [hkl]; exact k3 i q) ?_
          repeat refine kX_one rfl ?_
          refine kX_cal (mr_comes L xs d τ (mvG σ n 200) (knR (kl.take i)) kl[i] (nI 0) (-6) j3 (by omega) ⟨Or.inl hki.1, hki.2⟩) rfl (Or.inr rfl) rfl rfl rfl (fun r1 σ1 q1 => ?_)
          obtain ⟨rfl, f1, I, R, H, M, rfl⟩ := q1
          iterate 2 (refine kX_one rfl ?_)
          have := ih2 (i + 1, mRu τ I R H M (upd (τ 232) 46 (nI (rwA (knR (kl.take i)) kl[i] (nI 0) (-6)).length))) ⟨by simp only; omega, rwF_trans j2 rwF_mRu, by
            simp only
            rw [List.take_succ_eq_append_getElem q, knR_snoc]
            exact f1, j4⟩ (by simp only; omega)
          rw [← nI_1] at this
          exact this
      · show rwF (mRl σ hd jd) (va_up (va_up (mRl σ hd jd) 232 (upd (upd (mRl σ hd jd 232) 46 (nI 0)) 50 (-1))) 271 f)
        refine ⟨⟨σ 272, f, σ 268, σ 269, σ 270, upd (upd (mRl σ hd jd 232) 46 (nI 0)) 50 (-1), ?_⟩, fun j h1 h2 h3 => ?_⟩
        · funext c; unfold mRl rwS va_up; repeat' split
          all_goals first | rfl | omega | (subst_vars; rfl) | (funext j; unfold upd; repeat' split; all_goals first | rfl | omega | (subst_vars; rfl))
        · show upd (upd (mRl σ hd jd 232) 46 (nI 0)) 50 (-1) j = _
          rw [pk_un h2, pk_un h3]
      · refine ⟨rfl, fun i hi => absurd hi (Nat.not_lt_zero i), fun t ht => ?_, fun t ht => ?_, ?_⟩
        · obtain ⟨q, hq, -⟩ := ht
          cases hq
        · show f t = _
          rw [i2 t ht, isB_F]
          rintro ⟨q, hq, -⟩
          cases hq
        · exact cnt_zero (fun t ht => by obtain ⟨q, hq, -⟩ := ht; cases hq) 1000
    · have q := qgeF q i 1000
      repeat refine kX_one rfl ?_
      refine kX_bastN rfl rfl (by decide) (i) (by first | rfl | decide) (by omega) (Or.inl rfl) ?_
      iterate 2 (refine kX_one rfl ?_)
      rw [kup_up]
      have := ih (i + 1, upd f i 0) ⟨by simp only; omega, fun t ht => by
        simp only at ht ⊢
        by_cases e : t = i
        · subst e
          exact pk_us
        · rw [pk_un e]
          exact i2 t (by omega)⟩ (by simp only; omega)
      rw [← nI_1] at this
      exact this
end
section
/-! the reference: a TERM whose VARIABLES stand for something -/
theorem mTb_is2 {σ : kS} {n b t k x y : Nat} (h : mTb σ n b) (ht : mv n b t) (hi : mIs σ t (nI k) (nI x) (nI y)) (hk : 3 < k) (hk9 : k ≤ 9) (hx : x < 1000) (hy : y < 1000) : tvl (σ 233) (σ 234) (σ 235) t = vnd k (tvl (σ 233) (σ 234) (σ 235) x) (some (tvl (σ 233) (σ 234) (σ 235) y)) ∧ tgd (σ 233) (σ 234) (σ 235) t = (tgd (σ 233) (σ 234) (σ 235) x && tgd (σ 233) (σ 234) (σ 235) y) := by
  have hV := h.2.2.2.2.2.1.1
  rcases (hV t ht).2 with ⟨k', h3, hk', -, -⟩ | ⟨k', x', y', h3, hk', hx', hy', h4, h5, h6, h7⟩ | ⟨k', x', h3, hk', hx', hy', h4, h6⟩
  · have := nI_inj (hi.1.symm.trans hk')
    omega
  · have e1 := (hV x' h6).1
    have e2 := (hV y' h7).1
    obtain rfl : k = k' := nI_inj (hi.1.symm.trans hk')
    obtain rfl : x = x' := nI_inj (hi.2.1.symm.trans hx')
    obtain rfl : y = y' := nI_inj (hi.2.2.symm.trans hy')
    exact ⟨tvl_2 hV hk' hx' hy' hk hk9 h4 h5 h6 h7, tgd_2 hV hk' hx' hy' hk hk9 h4 h5 h6 h7⟩
  · exact absurd (hi.2.2.symm.trans hy') (nI_m1 (by omega))
theorem mTb_is1 {σ : kS} {n b t k x : Nat} (h : mTb σ n b) (ht : mv n b t) (hi : mIs σ t (nI k) (nI x) (-1)) (hk : 3 < k) (hk9 : k ≤ 9) (hx : x < 1000) : tvl (σ 233) (σ 234) (σ 235) t = vnd k (tvl (σ 233) (σ 234) (σ 235) x) none ∧ tgd (σ 233) (σ 234) (σ 235) t = tgd (σ 233) (σ 234) (σ 235) x := by
  have hV := h.2.2.2.2.2.1.1
  rcases (hV t ht).2 with ⟨k', h3, hk', -, -⟩ | ⟨k', x', y', h3, hk', hx', hy', h4, h5, h6, h7⟩ | ⟨k', x', h3, hk', hx', hy', h4, h6⟩
  · have := nI_inj (hi.1.symm.trans hk')
    omega
  · have e2 := (hV y' h7).1
    exact absurd (hy'.symm.trans hi.2.2) (nI_m1 (by omega))
  · have e1 := (hV x' h6).1
    obtain rfl : k = k' := nI_inj (hi.1.symm.trans hk')
    obtain rfl : x = x' := nI_inj (hi.2.1.symm.trans hx')
    exact ⟨tvl_1 hV hk' hx' hy' hk hk9 h4 h6, tgd_1 hV hk' hx' hy' hk hk9 h4 h6⟩
/-- what a VARIABLE's TERM stands for in the session s -/
def mVl (σ : kS) (s u : Nat) : Nat := fN (σ 265 (6 * s + fN (σ 241 u)))
/-- a TERM whose VARIABLES stand as in the session s -/
def tin (σ : kS) (s t : Nat) : Jvm.Term := tA (fun u => if σ 233 u = nI 3 then tvl (σ 233) (σ 234) (σ 235) (mVl σ s u) else .arg u) vnd (σ 233) (σ 234) (σ 235) t
/-- all VARIABLES of the TERM t stand for GROUND TERMS, those for AGENTS for AGENTS -/
def mSt (σ : kS) (n s t : Nat) : Prop := ∀ u ∈ tvs (σ 233) (σ 234) (σ 235) t, ∃ p z, p < 6 ∧ z < n ∧ σ 241 u = nI p ∧ σ 265 (6 * s + p) = nI z ∧ tgd (σ 233) (σ 234) (σ 235) z = true ∧ (σ 240 u = nI 0 → σ 233 z = nI 0)
/-- contents with a longer table -/
def exS (σ : kS) (K F S Z G nx hd N I : Nat → Int32) (b : Nat) : kS := va_up (va_up (mU σ K F S Z G nx hd (upd (σ 232) 10 (nI b))) 266 N) 267 I
theorem exS_of {σ τ : kS} (h : ∀ c, c ≠ 233 → c ≠ 234 → c ≠ 235 → c ≠ 236 → c ≠ 237 → c ≠ 243 → c ≠ 242 → c ≠ 232 → c ≠ 266 → c ≠ 267 → τ c = σ c) {b : Nat} (hb : τ 232 = upd (σ 232) 10 (nI b)) : τ = exS σ (τ 233) (τ 234) (τ 235) (τ 236) (τ 237) (τ 243) (τ 242) (τ 266) (τ 267) b := by
  funext c
  unfold exS mU va_up
  repeat' split
  all_goals first | (next e => rw [e]) | skip
  · next h1 h2 e => rw [e, hb]
  · next h1 h2 h3 h4 h5 h6 h7 h8 h9 h10 => exact h c h10 h9 h8 h7 h6 h5 h4 h3 h2 h1
/-- the table has grown to b', the old TERMS are as they were -/
def mEx (σ τ : kS) (n b b' : Nat) : Prop := mTb τ n b' ∧ b ≤ b' ∧ (∀ u, u < b → τ 233 u = σ 233 u ∧ τ 234 u = σ 234 u ∧ τ 235 u = σ 235 u) ∧ ∃ K F S Z G nx hd N I, τ = exS σ K F S Z G nx hd N I b'
theorem mEx_trans {σ τ ρ : kS} {n b b' b'' : Nat} (h1 : mEx σ τ n b b') (h2 : mEx τ ρ n b' b'') : mEx σ ρ n b b'' := by
  obtain ⟨a1, a2, a3, K, F, S, Z, G, nx, hd, N, I, rfl⟩ := h1
  obtain ⟨c1, c2, c3, K', F', S', Z', G', nx', hd', N', I', rfl⟩ := h2
  refine ⟨c1, by omega, fun u hu => ?_, K', F', S', Z', G', nx', hd', N', I', ?_⟩
  · obtain ⟨p1, p2, p3⟩ := c3 u (by omega)
    obtain ⟨q1, q2, q3⟩ := a3 u hu
    exact ⟨p1.trans q1, p2.trans q2, p3.trans q3⟩
  · have := exS_of (σ := σ) (τ := exS (exS σ K F S Z G nx hd N I b') K' F' S' Z' G' nx' hd' N' I' b'') (b := b'') (fun c h1 h2 h3 h4 h5 h6 h7 h8 h9 h10 => by simp [exS, mU, va_up, h1, h2, h3, h4, h5, h6, h7, h8, h9, h10]) (by
      funext j
      show upd (upd (σ 232) 10 (nI b')) 10 (nI b'') j = _
      unfold upd
      split <;> rfl)
    rw [this]
    rfl
theorem mEx_tvl {σ τ : kS} {n b b' : Nat} (h0 : mTb σ n b) (h : mEx σ τ n b b') {u : Nat} (hu : mv n b u) : tvl (τ 233) (τ 234) (τ 235) u = tvl (σ 233) (σ 234) (σ 235) u ∧ tgd (τ 233) (τ 234) (τ 235) u = tgd (σ 233) (σ 234) (σ 235) u :=
  have hlt : ∀ t, mv n b t → t < b := fun t ht => by have := h0.1; have := h0.2.1; unfold mv at ht; omega
  ⟨tA_congr h0.2.2.2.2.2.1.1 (fun t ht => ⟨(h.2.2.1 t (hlt t ht)).1, (h.2.2.1 t (hlt t ht)).2.1, (h.2.2.1 t (hlt t ht)).2.2, rfl⟩) u hu, tA_congr h0.2.2.2.2.2.1.1 (fun t ht => ⟨(h.2.2.1 t (hlt t ht)).1, (h.2.2.1 t (hlt t ht)).2.1, (h.2.2.1 t (hlt t ht)).2.2, by rw [(h.2.2.1 t (hlt t ht)).1]⟩) u hu⟩
theorem mEx_refl {σ : kS} {n b : Nat} (h : mTb σ n b) {τ : kS} {N I : Nat → Int32} (e : τ = va_up (va_up σ 266 N) 267 I) : mEx σ τ n b b := by
  subst e
  refine ⟨h, Nat.le_refl _, fun u _ => ⟨rfl, rfl, rfl⟩, σ 233, σ 234, σ 235, σ 236, σ 237, σ 243, σ 242, N, I, ?_⟩
  have := exS_of (σ := σ) (τ := va_up (va_up σ 266 N) 267 I) (b := b) (fun c h1 h2 h3 h4 h5 h6 h7 h8 h9 h10 => by simp [va_up, h9, h10]) (by
    funext j
    show σ 232 j = _
    unfold upd
    split
    · next e => rw [e]; exact h.2.2.2.2.1
    · rfl)
  rw [this]
  rfl
end
section
/-! the reference: one -/
theorem tin_2 {σ : kS} {n b s t k x y : Nat} (h : mTb σ n b) (hk : σ 233 t = nI k) (hx : σ 234 t = nI x) (hy : σ 235 t = nI y) (h3 : 3 < k) (hk9 : k ≤ 9) (h4 : x < t) (h5 : y < t) (h6 : mv n b x) (h7 : mv n b y) : tin σ s t = vnd k (tin σ s x) (some (tin σ s y)) := tA_2 h.2.2.2.2.2.1.1 hk hx hy h3 hk9 h4 h5 h6 h7
theorem tin_1 {σ : kS} {n b s t k x : Nat} (h : mTb σ n b) (hk : σ 233 t = nI k) (hx : σ 234 t = nI x) (hy : σ 235 t = -1) (h3 : 3 < k) (hk9 : k ≤ 9) (h4 : x < t) (h6 : mv n b x) : tin σ s t = vnd k (tin σ s x) none := tA_1 h.2.2.2.2.2.1.1 hk hx hy h3 hk9 h4 h6
theorem tin_gd {σ : kS} {n b s : Nat} (h : mTb σ n b) : ∀ t, mv n b t → tgd (σ 233) (σ 234) (σ 235) t = true → tin σ s t = tvl (σ 233) (σ 234) (σ 235) t := by
  have hV := h.2.2.2.2.2.1.1
  intro t
  induction t using Nat.strongRecOn with
  | _ t ih =>
    intro ht hg
    rcases (hV t ht).2 with ⟨k, h3, hk, -, -⟩ | ⟨k, x, y, h3, hk, hx, hy, h4, h5, h6, h7⟩ | ⟨k, x, h3, hk, hx, hy, h4, h6⟩
    · rw [tgd_0 hk h3] at hg
      have h3' := of_decide_eq_true hg
      rw [tvl_0 hk h3]
      unfold tin
      rw [tA_0 hk h3, if_neg]
      rw [hk]
      exact nI_ne h3'
    · rw [tgd_2 hV hk hx hy (by omega) (by omega) h4 h5 h6 h7, Bool.and_eq_true] at hg
      rw [tin_2 h hk hx hy (by omega) (by omega) h4 h5 h6 h7, tvl_2 hV hk hx hy (by omega) (by omega) h4 h5 h6 h7, ih x h4 h6 hg.1, ih y h5 h7 hg.2]
    · rw [tgd_1 hV hk hx hy (by omega) (by omega) h4 h6] at hg
      rw [tin_1 h hk hx hy (by omega) (by omega) h4 h6, tvl_1 hV hk hx hy (by omega) (by omega) h4 h6, ih x h4 h6 hg]
/-- u' is what the TERM u is in the session s -/
def mIn (σ τ : kS) (n b s u u' : Nat) : Prop := mv n b u' ∧ tvl (τ 233) (τ 234) (τ 235) u' = tin σ s u ∧ tgd (τ 233) (τ 234) (τ 235) u' = true ∧ (mAG σ n u → u' < n ∧ σ 233 u' = nI 0)
theorem mIn_ex {σ τ ρ : kS} {n b b' s u u' : Nat} (hT : mTb τ n b) (h : mIn σ τ n b s u u') (hE : mEx τ ρ n b b') : mIn σ ρ n b' s u u' := by
  obtain ⟨h1, h2, h3, h4⟩ := h
  obtain ⟨e1, e2⟩ := mEx_tvl hT hE h1
  exact ⟨by have := hE.2.1; unfold mv at h1 ⊢; omega, e1.trans h2, e2.trans h3, h4⟩
theorem ix6 (s p : Nat) : (Int8.ofInt 6).toInt32 * nI s + nI p = nI (6 * s + p) := by
  rw [show (Int8.ofInt 6).toInt32 = nI 6 from rfl, pk_mul, nI_add]
theorem mEx_made {τ ρ : kS} {n b : Nat} {w a c z g : Int32} {nx hd : Nat → Int32} (hT : mTb τ n b) (g2 : mTb ρ n (b + 1)) (e : ρ = mU τ (upd (τ 233) b w) (upd (τ 234) b a) (upd (τ 235) b c) (upd (τ 236) b z) (upd (τ 237) b g) nx hd (upd (τ 232) 10 (nI (b + 1)))) : mEx τ ρ n b (b + 1) := by
  refine ⟨g2, by omega, fun v hv => ?_, ρ 233, ρ 234, ρ 235, ρ 236, ρ 237, ρ 243, ρ 242, ρ 266, ρ 267, ?_⟩
  · rw [e]
    exact ⟨pk_un (by omega), pk_un (by omega), pk_un (by omega)⟩
  · refine exS_of (fun c h1 h2 h3 h4 h5 h6 h7 h8 h9 h10 => ?_) ?_
    · rw [e]
      simp [mU, va_up, h1, h2, h3, h4, h5, h6, h7, h8]
    · rw [e]
      rfl
set_option maxRecDepth 100000 in
set_option maxHeartbeats 4000000 in
theorem mr_one (L : Nat) (xs : Nat → Int32) (d : Nat) (σ τ : kS) (n b b' s t : Nat) (h0 : mTb σ n b) (hE : mEx σ τ n b b') (hb : b' < 1000) (hs : s < 4) (ht : t < n) (hst : mSt σ n s t)
    (hx : ∀ k x, 3 < k → k ≤ 9 → x < 1000 → σ 233 t = nI k → σ 234 t = nI x → ∃ x', τ 267 x = nI x' ∧ mIn σ τ n b' s x x') (hy : ∀ y, y < 1000 → σ 235 t = nI y → ∃ y', τ 267 y = nI y' ∧ mIn σ τ n b' s y y') :
    kXM kT L xs (d + 4) 177 [.ref 232, .int (nI s), .int (nI t)] τ (fun r ρ => ∃ u b'', r = some (.int (nI u)) ∧ mEx τ ρ n b' b'' ∧ b'' ≤ b' + 1 ∧ mIn σ ρ n b'' s t u ∧ ρ 266 = τ 266 ∧ ρ 267 = τ 267) := by
  have hn := h0.1
  have hV := h0.2.2.2.2.2.1.1
  have hT := hE.1
  have htv : mv n b t := Or.inl ht
  have htv' : mv n b' t := Or.inl ht
  have hb0 := h0.2.1
  obtain ⟨eK, eF, eS⟩ := hE.2.2.1 t (by omega)
  obtain ⟨et, eg⟩ := mEx_tvl h0 hE htv
  have hGt : τ 237 t = bI (tgd (σ 233) (σ 234) (σ 235) t) := by rw [← eg]; exact hT.2.2.2.2.2.2.1 t htv'
  have same : mEx τ τ n b' b' := mEx_refl hT (N := τ 266) (I := τ 267) (by rw [kup_self, kup_self])
  have hoth : τ 265 = σ 265 ∧ τ 241 = σ 241 ∧ τ 240 = σ 240 := by
    obtain ⟨-, -, -, K, F, S, Z, G, nx, hd, N, I, rfl⟩ := hE
    exact ⟨rfl, rfl, rfl⟩
  have hold : ∀ z, z < n → τ 233 z = σ 233 z := fun z hz => (hE.2.2.1 z (by omega)).1
  unfold kXM
  repeat refine kX_one rfl ?_
  refine kX_baldV rfl rfl (by decide) (t) (by first | rfl | decide) (by omega) (hGt) ?_
  repeat refine kX_one rfl ?_
  refine kX_if (fun q => ?_) (fun q => ?_)
  · have q := (bI_eq _).mp (qeq q)
    repeat refine kX_one rfl ?_
    refine kX_ialdV (v := σ 233 t) rfl rfl (by decide) t rfl (by omega) eK ?_
    repeat refine kX_one rfl ?_
    refine kX_if (fun q2 => ?_) (fun q2 => ?_)
    · have q2 : σ 233 t ≠ nI 3 := qne q2
      repeat refine kX_one rfl ?_
      refine kX_ialdV (v := σ 233 t) rfl rfl (by decide) t rfl (by omega) eK ?_
      rcases (hV t htv).2 with ⟨k, h3, hk, -, -⟩ | ⟨k, x, y, h3, hk, hfx, hsy, h4, h5, h6, h7⟩ | ⟨k, x, h3, hk, hfx, hsy, h4, h6⟩
      · exfalso
        rw [tgd_0 hk h3] at q
        have := of_decide_eq_false q
        exact q2 (by rw [hk, Decidable.of_not_not this])
      · obtain ⟨x', ex, ix⟩ := hx k x (by omega) (by omega) (by omega) hk hfx
        obtain ⟨y', ey, iy⟩ := hy y (by omega) hsy
        have hx' : x' < b' := by have q9 := ix.1; have := hT.2.1; unfold mv at q9; omega
        have hy' : y' < b' := by have q9 := iy.1; have := hT.2.1; unfold mv at q9; omega
        refine kX_top (hk) ?_
        iterate 5 (refine kX_one rfl ?_)
        refine kX_ialdV (v := nI x) rfl rfl (by decide) t rfl (by omega) (eF.trans hfx) ?_
        refine kX_ialdV (v := nI x') rfl rfl (by decide) x rfl (by omega) ex ?_
        iterate 3 (refine kX_one rfl ?_)
        refine kX_ialdV (v := nI y) rfl rfl (by decide) t rfl (by omega) (eS.trans hsy) ?_
        repeat refine kX_one rfl ?_
        refine kX_ifT (decide_eq_true (nI_pos' (by omega))) ?_
        iterate 5 (refine kX_one rfl ?_)
        refine kX_ialdV (v := nI y) rfl rfl (by decide) t rfl (by omega) (eS.trans hsy) ?_
        refine kX_ialdV (v := nI y') rfl rfl (by decide) y rfl (by omega) ey ?_
        have hag : (k = 6 ∨ k = 8) → mAG σ n y := fun e => by
          rcases h3 with h3 | h3 | h3
          · omega
          · omega
          · exact h3.2
        refine kX_cal (mr_made L xs d τ n b' k (nI x') (nI y') x' y' hT hb (by omega) (Or.inr (Or.inl ⟨by omega, rfl, rfl, hx', hy'⟩)) ix.1 (fun _ => iy.1) (fun e => ⟨(iy.2.2.2 (hag e)).1, Or.inl ((hold _ (iy.2.2.2 (hag e)).1).trans (iy.2.2.2 (hag e)).2)⟩) (fun e => by omega)) rfl (Or.inr rfl) rfl rfl rfl (fun r1 ρ q1 => ?_)
        obtain ⟨u, rfl, q1⟩ := q1
        have hnag : mAG σ n t → u < n ∧ σ 233 u = nI 0 := fun hz => by
          exfalso
          rcases hz.2 with e | ⟨e, -⟩
          · have := nI_inj (hk.symm.trans e)
            omega
          · exact q2 e
        rcases q1 with ⟨g1, g2, rfl⟩ | ⟨rfl, g1, ⟨z, g, nx, hd, e⟩, g2⟩
        · obtain ⟨i1, i2⟩ := mTb_is2 hT g1 g2 (by omega) (by omega) (by have := hT.2.2.1; omega) (by have := hT.2.2.1; omega)
          refine kX_ret (i := .ireturn) (len := 1) rfl (Or.inr rfl) rfl ⟨u, b', rfl, same, by omega, ⟨g1, ?_, ?_, hnag⟩, rfl, rfl⟩
          · rw [i1, ix.2.1, iy.2.1, tin_2 h0 hk hfx hsy (by omega) (by omega) h4 h5 h6 h7]
          · rw [i2, ix.2.2.1, iy.2.2.1]
            rfl
        · have hE2 : mEx τ ρ n u (u + 1) := mEx_made hT g2 e
          have hu' : mv n (u + 1) u := by have := hT.2.1; exact Or.inr ⟨by omega, by omega⟩
          have hmi : mIs ρ u (nI k) (nI x') (nI y') := by
            rw [e]
            exact ⟨pk_us, pk_us, pk_us⟩
          obtain ⟨i1, i2⟩ := mTb_is2 g2 hu' hmi (by omega) (by omega) (by omega) (by omega)
          have jx := mIn_ex hT ix hE2
          have jy := mIn_ex hT iy hE2
          refine kX_ret (i := .ireturn) (len := 1) rfl (Or.inr rfl) rfl ⟨u, u + 1, rfl, hE2, by omega, ⟨hu', ?_, ?_, hnag⟩, ?_, ?_⟩
          · rw [i1, jx.2.1, jy.2.1, tin_2 h0 hk hfx hsy (by omega) (by omega) h4 h5 h6 h7]
          · rw [i2, jx.2.2.1, jy.2.2.1]
            rfl
          · rw [e]
            rfl
          · rw [e]
            rfl
      · obtain ⟨x', ex, ix⟩ := hx k x (by omega) (by omega) (by omega) hk hfx
        have hx' : x' < b' := by have q9 := ix.1; have := hT.2.1; unfold mv at q9; omega
        refine kX_top (hk) ?_
        iterate 5 (refine kX_one rfl ?_)
        refine kX_ialdV (v := nI x) rfl rfl (by decide) t rfl (by omega) (eF.trans hfx) ?_
        refine kX_ialdV (v := nI x') rfl rfl (by decide) x rfl (by omega) ex ?_
        iterate 3 (refine kX_one rfl ?_)
        refine kX_ialdV (v := -1) rfl rfl (by decide) t rfl (by omega) (eS.trans hsy) ?_
        iterate 3 (refine kX_one rfl ?_)
        have hag : k = 7 → mAG σ n x := fun e => by
          rcases h3 with h3 | h3
          · omega
          · exact h3.2
        refine kX_cal (mr_made L xs d τ n b' k (nI x') (-1) x' 0 hT hb (by omega) (Or.inr (Or.inr ⟨by omega, rfl, rfl, hx'⟩)) ix.1 (fun e => by omega) (fun e => by omega) (fun e => ⟨(ix.2.2.2 (hag e)).1, Or.inl ((hold _ (ix.2.2.2 (hag e)).1).trans (ix.2.2.2 (hag e)).2)⟩)) rfl (Or.inr rfl) rfl rfl rfl (fun r1 ρ q1 => ?_)
        obtain ⟨u, rfl, q1⟩ := q1
        have hnag : mAG σ n t → u < n ∧ σ 233 u = nI 0 := fun hz => by
          exfalso
          rcases hz.2 with e | ⟨e, -⟩
          · have := nI_inj (hk.symm.trans e)
            omega
          · exact q2 e
        rcases q1 with ⟨g1, g2, rfl⟩ | ⟨rfl, g1, ⟨z, g, nx, hd, e⟩, g2⟩
        · obtain ⟨i1, i2⟩ := mTb_is1 hT g1 g2 (by omega) (by omega) (by have := hT.2.2.1; omega)
          refine kX_ret (i := .ireturn) (len := 1) rfl (Or.inr rfl) rfl ⟨u, b', rfl, same, by omega, ⟨g1, ?_, ?_, hnag⟩, rfl, rfl⟩
          · rw [i1, ix.2.1, tin_1 h0 hk hfx hsy (by omega) (by omega) h4 h6]
          · rw [i2, ix.2.2.1]
        · have hE2 : mEx τ ρ n u (u + 1) := mEx_made hT g2 e
          have hu' : mv n (u + 1) u := by have := hT.2.1; exact Or.inr ⟨by omega, by omega⟩
          have hmi : mIs ρ u (nI k) (nI x') (-1) := by
            rw [e]
            exact ⟨pk_us, pk_us, pk_us⟩
          obtain ⟨i1, i2⟩ := mTb_is1 g2 hu' hmi (by omega) (by omega) (by omega)
          have jx := mIn_ex hT ix hE2
          refine kX_ret (i := .ireturn) (len := 1) rfl (Or.inr rfl) rfl ⟨u, u + 1, rfl, hE2, by omega, ⟨hu', ?_, ?_, hnag⟩, ?_, ?_⟩
          · rw [i1, jx.2.1, tin_1 h0 hk hfx hsy (by omega) (by omega) h4 h6]
          · rw [i2, jx.2.2.1]
          · rw [e]
            rfl
          · rw [e]
            rfl
    · have q2 : σ 233 t = nI 3 := qneF q2
      have hu : t ∈ tvs (σ 233) (σ 234) (σ 235) t := by
        unfold tvs
        rw [tA_0 q2 (by decide), if_pos q2]
        exact List.mem_singleton.mpr rfl
      obtain ⟨p, z, hp, hz, e1, e2, e3, e4⟩ := hst t hu
      repeat refine kX_one rfl ?_
      refine kX_ialdV (v := nI p) rfl rfl (by decide) t rfl (by omega) (by rw [hoth.2.1]; exact e1) ?_
      iterate 1 (refine kX_one rfl ?_)
      refine kX_ialdV (v := nI z) rfl rfl (by decide) (6 * s + p) (ix6 s p) (by omega) (by rw [hoth.1]; exact e2) ?_
      iterate 2 (refine kX_one rfl ?_)
      repeat refine kX_one rfl ?_
      refine kX_ifT (decide_eq_true (nI_pos' (by omega))) ?_
      repeat refine kX_one rfl ?_
      have hzv : mv n b z := Or.inl hz
      obtain ⟨tz, gz⟩ := mEx_tvl h0 hE hzv
      refine kX_ret (i := .ireturn) (len := 1) rfl (Or.inr rfl) rfl ⟨z, b', rfl, same, by omega, ⟨Or.inl hz, ?_, gz.trans e3, fun hag => ⟨hz, ?_⟩⟩, rfl, rfl⟩
      · rw [tz]
        unfold tin
        rw [tA_0 q2 (by decide), if_pos q2]
        unfold mVl
        rw [e1, fN_nI (by omega), e2, fN_nI (by omega)]
      · rcases hag.2 with e | ⟨-, e⟩
        · have := nI_inj (q2.symm.trans e)
          omega
        · exact e4 e
  · have q := (bI_ne _).mp (qeqF q)
    repeat refine kX_one rfl ?_
    refine kX_ret (i := .ireturn) (len := 1) rfl (Or.inr rfl) rfl ⟨t, b', rfl, same, by omega, ⟨htv', ?_, eg.trans q, fun hag => ⟨ht, ?_⟩⟩, rfl, rfl⟩
    · rw [et, tin_gd h0 t htv q]
    · rcases hag.2 with e | ⟨e, -⟩
      · exact e
      · rw [tgd_0 e (by decide)] at q
        exact absurd rfl (of_decide_eq_true q)
end
section
/-! the reference: standsFor -/
/-- all that is in a TERM, and itself -/
def tsl (K F S : Nat → Int32) : Nat → Nat → List Nat
  | 0, t => [t]
  | f + 1, t => t :: (if fN (K t) ≤ 3 then [] else tsl K F S f (fN (F t)) ++ (if S t = -1 then [] else tsl K F S f (fN (S t))))
section TSL
variable {V AG : Nat → Prop} {K F S : Nat → Int32}
theorem tsl_all (hV : ∀ t, V t → t < 100000 ∧ tOk V AG K F S t) : ∀ (f t : Nat), t < f → V t → (tsl K F S f t).length = tsz K F S t ∧ t ∈ tsl K F S f t ∧ ∀ u ∈ tsl K F S f t, V u ∧ u ≤ t ∧ (∀ x, F u = nI x → x < 100000 → x ∈ tsl K F S f t) ∧ (∀ y, S u = nI y → y < 100000 → y ∈ tsl K F S f t) := by
  intro f
  induction f with
  | zero => intro t h; omega
  | succ f ih =>
    intro t hf ht
    have hm1 : ∀ z, z < 100000 → (-1 : Int32) = nI z → False := fun z hz e => nI_m1 (by omega) e.symm
    rcases (hV t ht).2 with ⟨k, h3, hk, hF, hS⟩ | ⟨k, x, y, h3, hk, hx, hy, h4, h5, h6, h7⟩ | ⟨k, x, h3, hk, hx, hy, h4, h6⟩
    · have e : tsl K F S (f + 1) t = [t] := by
        rw [tsl, hk, fN_nI (by omega), if_pos h3]
      have ez : tsz K F S t = 1 := tA_0 hk h3
      rw [e]
      refine ⟨by rw [ez]; rfl, List.mem_singleton.mpr rfl, fun u hu => ?_⟩
      rw [List.mem_singleton] at hu
      subst hu
      exact ⟨ht, Nat.le_refl _, fun x ex hx => (hm1 x hx (hF.symm.trans ex)).elim, fun y ey hy => (hm1 y hy (hS.symm.trans ey)).elim⟩
    · have hk3 : ¬ k ≤ 3 := by omega
      have hx9 := (hV x h6).1
      have hy9 := (hV y h7).1
      have hy1 : nI y ≠ -1 := nI_m1 (by omega)
      have e : tsl K F S (f + 1) t = t :: (tsl K F S f x ++ tsl K F S f y) := by
        rw [tsl, hk, fN_nI (show k < 2147483648 by omega), if_neg hk3, hx, hy, if_neg hy1, fN_nI (show x < 2147483648 by omega), fN_nI (show y < 2147483648 by omega)]
      have ez : tsz K F S t = 1 + tsz K F S x + tsz K F S y := tA_2 hV hk hx hy (by omega) (by omega) h4 h5 h6 h7
      obtain ⟨x1, x2, x3⟩ := ih x (by omega) h6
      obtain ⟨y1, y2, y3⟩ := ih y (by omega) h7
      rw [e]
      refine ⟨by rw [List.length_cons, List.length_append, x1, y1, ez]; omega, List.mem_cons_self, fun u hu => ?_⟩
      rcases List.mem_cons.mp hu with rfl | hu
      · refine ⟨ht, Nat.le_refl _, fun z ez hz => ?_, fun z ez hz => ?_⟩
        · have : x = z := nI_inj (hx.symm.trans ez)
          subst this
          exact List.mem_cons_of_mem _ (List.mem_append_left _ x2)
        · have : y = z := nI_inj (hy.symm.trans ez)
          subst this
          exact List.mem_cons_of_mem _ (List.mem_append_right _ y2)
      · rcases List.mem_append.mp hu with hu | hu
        · obtain ⟨a1, a2, a3, a4⟩ := x3 u hu
          exact ⟨a1, by omega, fun z ez hz => List.mem_cons_of_mem _ (List.mem_append_left _ (a3 z ez hz)), fun z ez hz => List.mem_cons_of_mem _ (List.mem_append_left _ (a4 z ez hz))⟩
        · obtain ⟨a1, a2, a3, a4⟩ := y3 u hu
          exact ⟨a1, by omega, fun z ez hz => List.mem_cons_of_mem _ (List.mem_append_right _ (a3 z ez hz)), fun z ez hz => List.mem_cons_of_mem _ (List.mem_append_right _ (a4 z ez hz))⟩
    · have hk3 : ¬ k ≤ 3 := by omega
      have hx9 := (hV x h6).1
      have e : tsl K F S (f + 1) t = t :: tsl K F S f x := by
        rw [tsl, hk, fN_nI (show k < 2147483648 by omega), if_neg hk3, hx, hy, if_pos rfl, fN_nI (show x < 2147483648 by omega), List.append_nil]
      have ez : tsz K F S t = 1 + tsz K F S x := tA_1 hV hk hx hy (by omega) (by omega) h4 h6
      obtain ⟨x1, x2, x3⟩ := ih x (by omega) h6
      rw [e]
      refine ⟨by rw [List.length_cons, x1, ez]; omega, List.mem_cons_self, fun u hu => ?_⟩
      rcases List.mem_cons.mp hu with rfl | hu
      · refine ⟨ht, Nat.le_refl _, fun z ez hz => ?_, fun z ez hz => (hm1 z hz (hy.symm.trans ez)).elim⟩
        have : x = z := nI_inj (hx.symm.trans ez)
        subst this
        exact List.mem_cons_of_mem _ x2
      · obtain ⟨a1, a2, a3, a4⟩ := x3 u hu
        exact ⟨a1, by omega, fun z ez hz => List.mem_cons_of_mem _ (a3 z ez hz), fun z ez hz => List.mem_cons_of_mem _ (a4 z ez hz)⟩
/-- the VARIABLES of what is in a TERM are in it -/
theorem tsl_tvs (hV : ∀ t, V t → t < 100000 ∧ tOk V AG K F S t) : ∀ (f t : Nat), t < f → V t → ∀ u ∈ tsl K F S f t, ∀ v ∈ tvs K F S u, v ∈ tvs K F S t := by
  intro f
  induction f with
  | zero => intro t h; omega
  | succ f ih =>
    intro t hf ht u hu v hv
    rcases (hV t ht).2 with ⟨k, h3, hk, hF, hS⟩ | ⟨k, x, y, h3, hk, hx, hy, h4, h5, h6, h7⟩ | ⟨k, x, h3, hk, hx, hy, h4, h6⟩
    · rw [tsl, hk, fN_nI (by omega), if_pos h3, List.mem_singleton] at hu
      subst hu
      exact hv
    · have hk3 : ¬ k ≤ 3 := by omega
      have hx9 := (hV x h6).1
      have hy9 := (hV y h7).1
      have hy1 : nI y ≠ -1 := nI_m1 (by omega)
      rw [tsl, hk, fN_nI (show k < 2147483648 by omega), if_neg hk3, hx, hy, if_neg hy1, fN_nI (show x < 2147483648 by omega), fN_nI (show y < 2147483648 by omega)] at hu
      have et : tvs K F S t = tvs K F S x ++ tvs K F S y := tA_2 hV hk hx hy (by omega) (by omega) h4 h5 h6 h7
      rcases List.mem_cons.mp hu with rfl | hu
      · exact hv
      · rw [et]
        rcases List.mem_append.mp hu with hu | hu
        · exact List.mem_append_left _ (ih x (by omega) h6 u hu v hv)
        · exact List.mem_append_right _ (ih y (by omega) h7 u hu v hv)
    · have hk3 : ¬ k ≤ 3 := by omega
      have hx9 := (hV x h6).1
      rw [tsl, hk, fN_nI (show k < 2147483648 by omega), if_neg hk3, hx, hy, if_pos rfl, fN_nI (show x < 2147483648 by omega), List.append_nil] at hu
      have et : tvs K F S t = tvs K F S x ++ [] := tA_1 hV hk hx hy (by omega) (by omega) h4 h6
      rcases List.mem_cons.mp hu with rfl | hu
      · exact hv
      · rw [et, List.append_nil]
        exact ih x (by omega) h6 u hu v hv
end TSL
theorem cnt_mem : ∀ (l : List Nat) (m : Nat), cnt (fun u => u ∈ l) m ≤ l.length
  | [], m => by rw [cnt_zero (fun u hu => by cases hu)]; exact Nat.zero_le _
  | a :: l, m => by
    have ih := cnt_mem l m
    by_cases ha : a ∈ l
    · have : cnt (fun u => u ∈ a :: l) m = cnt (fun u => u ∈ l) m := cnt_congr m (fun t _ => by
        rw [List.mem_cons]
        exact ⟨fun q => q.elim (fun e => by rw [e]; exact ha) id, Or.inr⟩)
      rw [this, List.length_cons]
      omega
    · by_cases hm : a < m
      · have := cnt_add (f := fun u => u ∈ l) (g := fun u => u ∈ a :: l) (t := a) ha (fun u => by rw [List.mem_cons]; exact or_comm) m hm
        rw [this, List.length_cons]
        omega
      · have : cnt (fun u => u ∈ a :: l) m = cnt (fun u => u ∈ l) m := cnt_congr m (fun t ht => by
          rw [List.mem_cons]
          exact ⟨fun q => q.elim (fun e => by omega) id, Or.inr⟩)
        rw [this, List.length_cons]
        omega
theorem cnt_mono {f g : Nat → Prop} (h : ∀ u, f u → g u) : ∀ m, cnt f m ≤ cnt g m
  | 0 => Nat.le_refl _
  | m + 1 => by
    have := cnt_mono h m
    unfold cnt
    by_cases hf : f m
    · rw [if_pos hf, if_pos (h m hf)]
      omega
    · rw [if_neg hf]
      split <;> omega
theorem cnt_up (f : Nat → Prop) : ∀ {m m' : Nat}, m ≤ m' → cnt f m ≤ cnt f m' := by
  intro m m' h
  induction m' with
  | zero =>
    obtain rfl : m = 0 := by omega
    exact Nat.le_refl _
  | succ m' ih =>
    by_cases e : m = m' + 1
    · subst e
      exact Nat.le_refl _
    · have := ih (by omega)
      rw [show cnt f (m' + 1) = cnt f m' + @ite _ (f m') (Classical.propDecidable _) 1 0 from rfl]
      omega
end
section
/-! the reference: standsFor, walked -/
def w1 (q : Nat) : Int32 := if q = 0 then -1 else nI (q - 1)
theorem w1_dec (q : Nat) : nI q + Int32.ofInt (-1) = w1 q := by
  unfold w1
  split
  · next e => subst e; decide
  · next e =>
    obtain ⟨p, rfl⟩ : ∃ p, q = p + 1 := ⟨q - 1, by omega⟩
    exact pk_m1 p
set_option maxRecDepth 100000 in
set_option maxHeartbeats 4000000 in
theorem mr_standsFor (L : Nat) (xs : Nat → Int32) (d : Nat) (σ : kS) (n b s t : Nat) (h : mTb σ n b) (hb : b ≤ 976) (hs : s < 4) (ht : t < n) (hst : mSt σ n s t) : kXM kT L xs (d + 5) 176 [.ref 232, .int (nI s), .int (nI t)] σ (fun r ρ => ∃ u b', r = some (.int (nI u)) ∧ mEx σ ρ n b b' ∧ b' ≤ b + 24 ∧ mv n b' u ∧ tvl (ρ 233) (ρ 234) (ρ 235) u = tin σ s t ∧ tgd (ρ 233) (ρ 234) (ρ 235) u = true) := by
  have hn := h.1
  have hV := h.2.2.2.2.2.1.1
  have htv : mv n b t := Or.inl ht
  have hGt := h.2.2.2.2.2.2.1 t htv
  obtain ⟨l1, l2, l3⟩ := tsl_all hV (t + 1) t (by omega) htv
  have l4 := tsl_tvs hV (t + 1) t (by omega) htv
  have hsz : (tsl (σ 233) (σ 234) (σ 235) (t + 1) t).length ≤ 24 := by
    rw [l1]
    exact h.2.2.2.2.2.2.2.2.2 t ht
  generalize tsl (σ 233) (σ 234) (σ 235) (t + 1) t = Ls at l1 l2 l3 l4 hsz
  unfold kXM
  repeat refine kX_one rfl ?_
  refine kX_baldV rfl rfl (by decide) (t) (by first | rfl | decide) (by omega) (hGt) ?_
  repeat refine kX_one rfl ?_
  refine kX_if (fun q => ?_) (fun q => ?_)
  · /- the third loop -/
    have loop3 : ∀ N : Nat → Int32, (∀ u, u ≤ t → N u = 0 ∨ N u = 1) → N t = 1 → (∀ u, u ≤ t → N u ≠ 0 → u ∈ Ls) → (∀ u, u ≤ t → N u ≠ 0 → (∀ x, σ 234 u = nI x → x < 1000 → N x ≠ 0) ∧ ∀ y, σ 235 u = nI y → y < 1000 → N y ≠ 0) → ∀ I : Nat → Int32,
        kX kT L xs (d + 5) 176 103 [(3, .int (nI 0)), (0, .ref 232), (1, .int (nI s)), (2, .int (nI t))] [] (va_up (va_up σ 266 N) 267 I) (fun r ρ => ∃ u b', r = some (.int (nI u)) ∧ mEx σ ρ n b b' ∧ b' ≤ b + 24 ∧ mv n b' u ∧ tvl (ρ 233) (ρ 234) (ρ 235) u = tin σ s t ∧ tgd (ρ 233) (ρ 234) (ρ 235) u = true) := by
      intro N n1 n2 n3 n4 I
      have hc24 : ∀ i, i ≤ t + 1 → cnt (fun u => u ≤ t ∧ N u ≠ 0) i ≤ 24 := fun i hi => Nat.le_trans (cnt_mono (fun u hu => n3 u hu.1 hu.2) i) (Nat.le_trans (cnt_mem Ls i) hsz)
      refine kX_while (fun q : Nat × Nat × kS => [(3, .int (nI q.1)), (0, .ref 232), (1, .int (nI s)), (2, .int (nI t))]) (fun q => q.2.2) (fun q => q.1 ≤ t + 1 ∧ mEx σ q.2.2 n b q.2.1 ∧ q.2.1 ≤ b + cnt (fun u => u ≤ t ∧ N u ≠ 0) q.1 ∧ q.2.2 266 = N ∧ ∀ u, u < q.1 → N u ≠ 0 → ∃ u', q.2.2 267 u = nI u' ∧ mIn σ q.2.2 n q.2.1 s u u') (fun q => t + 1 - q.1) ?_ (0, b, va_up (va_up σ 266 N) 267 I) ⟨Nat.zero_le _, mEx_refl h rfl, Nat.le_refl _, rfl, fun u hu => absurd hu (Nat.not_lt_zero u)⟩
      rintro ⟨i, b', τ⟩ ⟨i1, i2, i3, i4, i5⟩ ih
      dsimp only at i1 i2 i3 i4 i5 ih ⊢
      have hc := hc24 i i1
      repeat refine kX_one rfl ?_
      refine kX_if (fun q2 => ?_) (fun q2 => ?_)
      · have q2 := qgt q2 i t
        obtain ⟨u', e1, e2⟩ := i5 t q2 (by rw [n2]; decide)
        repeat refine kX_one rfl ?_
        refine kX_ialdV (v := nI u') rfl rfl (by decide) t rfl (by omega) e1 ?_
        refine kX_ret (i := .ireturn) (len := 1) rfl (Or.inr rfl) rfl (⟨u', b', rfl, i2, by omega, e2.1, e2.2.1, e2.2.2.1⟩)
      · have q2 := qgtF q2 i t
        repeat refine kX_one rfl ?_
        refine kX_baldV (v := N i) rfl rfl (by decide) i rfl (by omega) (by rw [i4]) ?_
        repeat refine kX_one rfl ?_
        refine kX_if (fun q3 => ?_) (fun q3 => ?_)
        · have q3 : N i = 0 := qeq q3
          iterate 2 (refine kX_one rfl ?_)
          have := ih (i + 1, b', τ) ⟨by simp only; omega, i2, Nat.le_trans i3 (Nat.add_le_add_left (cnt_up _ (by simp only; omega)) b), i4, fun u hu hN => i5 u (by
            simp only at hu
            have : u ≠ i := fun e => hN (by rw [e]; exact q3)
            omega) hN⟩ (by simp only; omega)
          rw [← nI_1] at this
          exact this
        · have q3 : N i ≠ 0 := qeqF q3
          have hiL := n3 i q2 q3
          obtain ⟨a1, a2, -, -⟩ := l3 i hiL
          have hin : i < n := by omega
          have hcs : cnt (fun u => u ≤ t ∧ N u ≠ 0) (i + 1) = cnt (fun u => u ≤ t ∧ N u ≠ 0) i + 1 := by
            rw [show cnt (fun u => u ≤ t ∧ N u ≠ 0) (i + 1) = cnt (fun u => u ≤ t ∧ N u ≠ 0) i + @ite _ (i ≤ t ∧ N i ≠ 0) (Classical.propDecidable _) 1 0 from rfl, if_pos ⟨q2, q3⟩]
          have hc2 := hc24 (i + 1) (by omega)
          have hcl := n4 i q2 q3
          have hok := (hV i a1).2
          have hstI : mSt σ n s i := fun u hu => hst u (l4 i hiL u hu)
          repeat refine kX_one rfl ?_
          refine kX_cal (mr_one L xs d σ τ n b b' s i h i2 (by omega) hs hin hstI (fun k x hk3 hk9 hx1 ek ex => ?_) (fun y hy1 ey => ?_)) rfl (Or.inr rfl) rfl rfl rfl (fun r1 ρ q1 => ?_)
          · rcases hok with ⟨k', h3, hk', -, -⟩ | ⟨k', x', y', h3, hk', hx', hy', h4, h5, h6, h7⟩ | ⟨k', x', h3, hk', hx', hy', h4, h6⟩
            · have := nI_inj (ek.symm.trans hk')
              omega
            · have e9 := (hV x' h6).1
              have : x = x' := nI_inj (ex.symm.trans hx')
              exact i5 x (by omega) (hcl.1 x ex hx1)
            · have e9 := (hV x' h6).1
              have : x = x' := nI_inj (ex.symm.trans hx')
              exact i5 x (by omega) (hcl.1 x ex hx1)
          · rcases hok with ⟨k', h3, hk', hF', hS'⟩ | ⟨k', x', y', h3, hk', hx', hy', h4, h5, h6, h7⟩ | ⟨k', x', h3, hk', hx', hy', h4, h6⟩
            · exact absurd (hS'.symm.trans ey).symm (nI_m1 (by omega))
            · have e9 := (hV y' h7).1
              have : y = y' := nI_inj (ey.symm.trans hy')
              exact i5 y (by omega) (hcl.2 y ey hy1)
            · exact absurd (hy'.symm.trans ey).symm (nI_m1 (by omega))
          · obtain ⟨u, b'', rfl, f1, f2, f3, f4, f5⟩ := q1
            refine kX_iastN rfl rfl (by decide) (i) (by first | rfl | decide) (by omega) ?_
            iterate 2 (refine kX_one rfl ?_)
            have hE : mEx ρ (va_up ρ 267 (upd (ρ 267) i (nI u))) n b'' b'' := mEx_refl f1.1 (N := ρ 266) (I := upd (ρ 267) i (nI u)) (by rw [kup_self])
            have hE2 := mEx_trans f1 hE
            have := ih (i + 1, b'', va_up ρ 267 (upd (ρ 267) i (nI u))) ⟨by simp only; omega, mEx_trans i2 hE2, by simp only; omega, by
              show ρ 266 = N
              rw [f4, i4], fun v hv hN => by
              simp only at hv ⊢
              by_cases e : v = i
              · subst e
                exact ⟨u, pk_us, mIn_ex f1.1 f3 hE⟩
              · obtain ⟨v', g1, g2⟩ := i5 v (by omega) hN
                refine ⟨v', ?_, mIn_ex i2.1 g2 hE2⟩
                show upd (ρ 267) i (nI u) v = _
                rw [pk_un e, f5]
                exact g1⟩ (by simp only; omega)
            rw [← nI_1] at this
            exact this
    /- the second loop -/
    have loop2 : ∀ N : Nat → Int32, (∀ u, u ≤ t → N u = 0 ∨ N u = 1) → N t = 1 → (∀ u, u ≤ t → N u ≠ 0 → u ∈ Ls) →
        kX kT L xs (d + 5) 176 40 [(3, .int (w1 (t + 1))), (0, .ref 232), (1, .int (nI s)), (2, .int (nI t))] [] (va_up σ 266 N) (fun r ρ => ∃ u b', r = some (.int (nI u)) ∧ mEx σ ρ n b b' ∧ b' ≤ b + 24 ∧ mv n b' u ∧ tvl (ρ 233) (ρ 234) (ρ 235) u = tin σ s t ∧ tgd (ρ 233) (ρ 234) (ρ 235) u = true) := by
      intro N0 n1 n2 n3
      refine kX_while (fun q : Nat × (Nat → Int32) => [(3, .int (w1 q.1)), (0, .ref 232), (1, .int (nI s)), (2, .int (nI t))]) (fun q => va_up σ 266 q.2) (fun q => q.1 ≤ t + 1 ∧ (∀ u, u ≤ t → q.2 u = 0 ∨ q.2 u = 1) ∧ q.2 t = 1 ∧ (∀ u, u ≤ t → q.2 u ≠ 0 → u ∈ Ls) ∧ ∀ u, q.1 ≤ u → u ≤ t → q.2 u ≠ 0 → (∀ x, σ 234 u = nI x → x < 1000 → q.2 x ≠ 0) ∧ ∀ y, σ 235 u = nI y → y < 1000 → q.2 y ≠ 0) (fun q => q.1) ?_ (t + 1, N0) ⟨Nat.le_refl _, n1, n2, n3, fun u h1 h2 => by simp only at h1; omega⟩
      rintro ⟨q, N⟩ ⟨i1, i2, i3, i4, i5⟩ ih
      dsimp only at i1 i2 i3 i4 i5 ih ⊢
      cases q with
      | zero =>
        iterate 4 (refine kX_one rfl ?_)
        refine kX_to [(3, .int (nI 0)), (0, .ref 232), (1, .int (nI s)), (2, .int (nI t))] (va_up (va_up σ 266 N) 267 (σ 267)) rfl rfl rfl ?_ (loop3 N i2 i3 i4 (fun u hu => i5 u (Nat.zero_le _) hu) (σ 267))
        funext c; unfold  va_up; repeat' split
        all_goals first | rfl | omega | (subst_vars; rfl) | (funext j; unfold upd; repeat' split; all_goals first | rfl | omega | (subst_vars; rfl))
      | succ q =>
        have ew : w1 (q + 1) = nI q := by unfold w1; rw [if_neg (by omega)]; rfl
        rw [ew]
        iterate 2 (refine kX_one rfl ?_)
        repeat refine kX_one rfl ?_
        refine kX_ifF (decide_eq_false (nI_pos (by omega))) ?_
        repeat refine kX_one rfl ?_
        refine kX_baldN rfl rfl (by decide) (q) (by first | rfl | decide) (by omega) ?_
        have back : ∀ (N' : Nat → Int32), (∀ u, u ≤ t → N' u = 0 ∨ N' u = 1) → N' t = 1 → (∀ u, u ≤ t → N' u ≠ 0 → u ∈ Ls) → (∀ u, q ≤ u → u ≤ t → N' u ≠ 0 → (∀ x, σ 234 u = nI x → x < 1000 → N' x ≠ 0) ∧ ∀ y, σ 235 u = nI y → y < 1000 → N' y ≠ 0) → kX kT L xs (d + 5) 176 95 [(3, .int (nI q)), (0, .ref 232), (1, .int (nI s)), (2, .int (nI t))] [] (va_up σ 266 N') (fun r ρ => ∃ u b', r = some (.int (nI u)) ∧ mEx σ ρ n b b' ∧ b' ≤ b + 24 ∧ mv n b' u ∧ tvl (ρ 233) (ρ 234) (ρ 235) u = tin σ s t ∧ tgd (ρ 233) (ρ 234) (ρ 235) u = true) := by
          intro N' m1 m2 m3 m4
          iterate 2 (refine kX_one rfl ?_)
          have := ih (q, N') ⟨by simp only; omega, m1, m2, m3, m4⟩ (by simp only; omega)
          rw [← w1_dec] at this
          exact this
        repeat refine kX_one rfl ?_
        refine kX_if (fun q3 => ?_) (fun q3 => ?_)
        · have q3 : N q = 0 := qeq q3
          exact back N i2 i3 i4 (fun u h1 h2 h3 => i5 u (by
            have : u ≠ q := fun e => h3 (by rw [e]; exact q3)
            omega) h2 h3)
        · have q3 : N q ≠ 0 := qeqF q3
          have hqL := i4 q (by omega) q3
          obtain ⟨a1, a2, a3, a4⟩ := l3 q hqL
          have mono : ∀ (x : Nat), ∀ u, N u ≠ 0 → upd N x 1 u ≠ 0 := fun x u hu => by
            unfold upd
            split
            · decide
            · exact hu
          rcases (hV q a1).2 with ⟨k, h3, hk, hF, hS⟩ | ⟨k, x, y, h3, hk, hx, hy, h4, h5, h6, h7⟩ | ⟨k, x, h3, hk, hx, hy, h4, h6⟩
          · repeat refine kX_one rfl ?_
            refine kX_ialdV (v := -1) rfl rfl (by decide) q rfl (by omega) hF ?_
            repeat refine kX_one rfl ?_
            refine kX_ialdV (v := -1) rfl rfl (by decide) q rfl (by omega) hS ?_
            iterate 1 (refine kX_one rfl ?_)
            refine back N i2 i3 i4 (fun u h1 h2 h3 => ?_)
            by_cases e : u = q
            · subst e
              exact ⟨fun x ex hx => absurd (hF.symm.trans ex).symm (nI_m1 (by omega)), fun y ey hy => absurd (hS.symm.trans ey).symm (nI_m1 (by omega))⟩
            · exact i5 u (by omega) h2 h3
          · repeat refine kX_one rfl ?_
            refine kX_ialdV (v := nI x) rfl rfl (by decide) q rfl (by omega) hx ?_
            repeat refine kX_one rfl ?_
            refine kX_ifF (decide_eq_false (nI_pos (by omega))) ?_
            repeat refine kX_one rfl ?_
            refine kX_ialdV (v := nI x) rfl rfl (by decide) q rfl (by omega) hx ?_
            iterate 1 (refine kX_one rfl ?_)
            refine kX_bastN rfl rfl (by decide) (x) (by first | rfl | decide) (by omega) (Or.inr rfl) ?_
            repeat refine kX_one rfl ?_
            refine kX_ialdV (v := nI y) rfl rfl (by decide) q rfl (by omega) hy ?_
            repeat refine kX_one rfl ?_
            refine kX_ifF (decide_eq_false (nI_pos (by omega))) ?_
            repeat refine kX_one rfl ?_
            refine kX_ialdV (v := nI y) rfl rfl (by decide) q rfl (by omega) hy ?_
            iterate 1 (refine kX_one rfl ?_)
            refine kX_bastN rfl rfl (by decide) (y) (by first | rfl | decide) (by omega) (Or.inr rfl) ?_
            rw [kup_up, kup_up]
            refine back (upd (upd N x 1) y 1) (fun u hu => ?_) ?_ (fun u hu hN => ?_) (fun u h1 h2 h3 => ?_)
            · unfold upd
              split
              · exact Or.inr rfl
              · split
                · exact Or.inr rfl
                · exact i2 u hu
            · rw [pk_un (by omega), pk_un (by omega)]
              exact i3
            · by_cases ey : u = y
              · subst ey
                exact a4 u hy (by omega)
              · rw [pk_un ey] at hN
                by_cases ex : u = x
                · subst ex
                  exact a3 u hx (by omega)
                · rw [pk_un ex] at hN
                  exact i4 u hu hN
            · by_cases e : u = q
              · subst e
                refine ⟨fun z ez hz => ?_, fun z ez hz => ?_⟩
                · have : x = z := nI_inj (hx.symm.trans ez)
                  subst this
                  unfold upd
                  split
                  · decide
                  · rw [if_pos rfl]
                    decide
                · have : y = z := nI_inj (hy.symm.trans ez)
                  subst this
                  rw [pk_us]
                  decide
              · have hu0 : N u ≠ 0 := by
                  rw [pk_un (by omega), pk_un (by omega)] at h3
                  exact h3
                obtain ⟨g1, g2⟩ := i5 u (by omega) h2 hu0
                have up : ∀ z, N z ≠ 0 → upd (upd N x 1) y 1 z ≠ 0 := fun z hz => by
                  unfold upd
                  split
                  · decide
                  · split
                    · decide
                    · exact hz
                exact ⟨fun z ez hz => up z (g1 z ez hz), fun z ez hz => up z (g2 z ez hz)⟩
          · repeat refine kX_one rfl ?_
            refine kX_ialdV (v := nI x) rfl rfl (by decide) q rfl (by omega) hx ?_
            repeat refine kX_one rfl ?_
            refine kX_ifF (decide_eq_false (nI_pos (by omega))) ?_
            repeat refine kX_one rfl ?_
            refine kX_ialdV (v := nI x) rfl rfl (by decide) q rfl (by omega) hx ?_
            iterate 1 (refine kX_one rfl ?_)
            refine kX_bastN rfl rfl (by decide) (x) (by first | rfl | decide) (by omega) (Or.inr rfl) ?_
            repeat refine kX_one rfl ?_
            refine kX_ialdV (v := -1) rfl rfl (by decide) q rfl (by omega) hy ?_
            iterate 1 (refine kX_one rfl ?_)
            rw [kup_up]
            refine back (upd N x 1) (fun u hu => ?_) ?_ (fun u hu hN => ?_) (fun u h1 h2 h3 => ?_)
            · unfold upd
              split
              · exact Or.inr rfl
              · exact i2 u hu
            · rw [pk_un (by omega)]
              exact i3
            · by_cases ex : u = x
              · subst ex
                exact a3 u hx (by omega)
              · rw [pk_un ex] at hN
                exact i4 u hu hN
            · by_cases e : u = q
              · subst e
                refine ⟨fun z ez hz => ?_, fun z ez hz => absurd (hy.symm.trans ez).symm (nI_m1 (by omega))⟩
                have : x = z := nI_inj (hx.symm.trans ez)
                subst this
                rw [pk_us]
                decide
              · have hu0 : N u ≠ 0 := by
                  rw [pk_un (by omega)] at h3
                  exact h3
                obtain ⟨g1, g2⟩ := i5 u (by omega) h2 hu0
                exact ⟨fun z ez hz => mono x z (g1 z ez hz), fun z ez hz => mono x z (g2 z ez hz)⟩
    /- the first loop -/
    iterate 2 (refine kX_one rfl ?_)
    have loop1 := kX_while (T := kT) (L := L) (xs := xs) (d := d + 5) (mi := 176) (pc := 13) (Q := fun r ρ => ∃ u b', r = some (.int (nI u)) ∧ mEx σ ρ n b b' ∧ b' ≤ b + 24 ∧ mv n b' u ∧ tvl (ρ 233) (ρ 234) (ρ 235) u = tin σ s t ∧ tgd (ρ 233) (ρ 234) (ρ 235) u = true)
      (fun q : Nat × (Nat → Int32) => [(3, .int (nI q.1)), (0, .ref 232), (1, .int (nI s)), (2, .int (nI t))]) (fun q => va_up σ 266 q.2) (fun q => q.1 ≤ t + 1 ∧ ∀ u, u < q.1 → q.2 u = 0) (fun q => t + 1 - q.1) ?_ (0, σ 266) ⟨Nat.zero_le _, fun u hu => absurd hu (Nat.not_lt_zero u)⟩
    · rw [kup_self] at loop1
      exact loop1
    · rintro ⟨i, N⟩ ⟨i1, i2⟩ ih
      dsimp only at i1 i2 ih ⊢
      repeat refine kX_one rfl ?_
      refine kX_if (fun q2 => ?_) (fun q2 => ?_)
      · have q2 := qgt q2 i t
        repeat refine kX_one rfl ?_
        refine kX_bastN rfl rfl (by decide) (t) (by first | rfl | decide) (by omega) (Or.inr rfl) ?_
        iterate 2 (refine kX_one rfl ?_)
        rw [kup_up]
        have := loop2 (upd N t 1) (fun u hu => by
          by_cases e : u = t
          · subst e
            exact Or.inr pk_us
          · rw [pk_un e]
            exact Or.inl (i2 u (by omega))) pk_us (fun u hu hN => by
          by_cases e : u = t
          · subst e
            exact l2
          · rw [pk_un e] at hN
            exact absurd (i2 u (by omega)) hN)
        have ew : w1 (t + 1) = nI t := by unfold w1; rw [if_neg (by omega)]; rfl
        rw [ew] at this
        exact this
      · have q2 := qgtF q2 i t
        repeat refine kX_one rfl ?_
        refine kX_bastN rfl rfl (by decide) (i) (by first | rfl | decide) (by omega) (Or.inl rfl) ?_
        iterate 2 (refine kX_one rfl ?_)
        rw [kup_up]
        have := ih (i + 1, upd N i 0) ⟨by simp only; omega, fun u hu => by
          simp only at hu ⊢
          by_cases e : u = i
          · subst e
            exact pk_us
          · rw [pk_un e]
            exact i2 u (by omega)⟩ (by simp only; omega)
        rw [← nI_1] at this
        exact this
  · have q := (bI_ne _).mp (qeqF q)
    repeat refine kX_one rfl ?_
    refine kX_ret (i := .ireturn) (len := 1) rfl (Or.inr rfl) rfl (⟨t, b, rfl, mEx_refl h (N := σ 266) (I := σ 267) (by rw [kup_self, kup_self]), by omega, htv, (tin_gd h t htv q).symm, q⟩)
end
section
/-! rows as trees; rows while the table grows -/
abbrev trT : Type := List (Jvm.Term × Int32 × Int32)
noncomputable def trA (l : trT) (g : Jvm.Term) (w p : Int32) : trT := cit (∃ q ∈ l, q.1 = g) l (l ++ [(g, w, p)])
/-- a row's TERMS as trees -/
def rwM (σ : kS) (l : rwT) : trT := l.map (fun q => (tvl (σ 233) (σ 234) (σ 235) q.1, q.2))
theorem rwM_mem {σ : kS} {l : rwT} {g : Jvm.Term} : (∃ q ∈ rwM σ l, q.1 = g) ↔ mR σ l g := by
  unfold rwM mR rwI
  constructor
  · rintro ⟨q, hq, rfl⟩
    obtain ⟨p, hp, rfl⟩ := List.mem_map.mp hq
    exact ⟨p.1, ⟨p, hp, rfl⟩, rfl⟩
  · rintro ⟨t, ⟨p, hp, rfl⟩, e⟩
    exact ⟨_, List.mem_map.mpr ⟨p, hp, rfl⟩, e⟩
theorem rwM_A {σ : kS} {n b : Nat} {l : rwT} {t : Nat} {w p : Int32} (h : mTb σ n b) (hl : ∀ t, rwI l t → mvG σ n b t) (ht : mv n b t) : rwM σ (rwA l t w p) = trA (rwM σ l) (tvl (σ 233) (σ 234) (σ 235) t) w p := by
  unfold trA rwA
  by_cases hi : rwI l t
  · rw [if_pos hi, cit_T (rwM_mem.mpr ((mR_iff h hl ht).mpr hi))]
  · rw [if_neg hi, cit_F (fun q => hi ((mR_iff h hl ht).mp (rwM_mem.mp q)))]
    unfold rwM
    rw [List.map_append]
    rfl
theorem rwI_A {l : rwT} {t u : Nat} {w p : Int32} (h : rwI (rwA l t w p) u) : rwI l u ∨ u = t := by
  unfold rwA at h
  split at h
  · exact Or.inl h
  · exact rwI_app.mp h
/-- the table grows: the row stays -/
theorem mRq_ex {σ τ : kS} {n b b' : Nat} {l : rwT} (h0 : mTb σ n b) (hE : mEx σ τ n b b') (h : mRq σ (mvG σ n b) l) : mRq τ (mvG τ n b') l ∧ rwM τ l = rwM σ l := by
  have hm : ∀ t, mvG σ n b t → mvG τ n b' t := fun t ht => ⟨by have := ht.1; have := hE.2.1; unfold mv at *; omega, (mEx_tvl h0 hE ht.1).2.trans ht.2⟩
  have hrw : rwM τ l = rwM σ l := by
    unfold rwM
    refine List.map_congr_left (fun q hq => ?_)
    rw [(mEx_tvl h0 hE (h.2.2.1 q.1 ⟨q, hq, rfl⟩).1).1]
  refine ⟨?_, hrw⟩
  obtain ⟨h1, h2, h3, h4, h5⟩ := h
  obtain ⟨-, -, -, K, F, S, Z, G, nx, hd, N, I, rfl⟩ := hE
  exact ⟨h1, h2, fun t ht => hm t (h3 t ht), h4, h5⟩
theorem mMk_ex {σ τ : kS} {n b b' : Nat} {l : rwT} (h0 : mTb σ n b) (hE : mEx σ τ n b b') (hl : ∀ t, rwI l t → mvG σ n b t) {t : Nat} (ht : mv n b t) : mMk τ l t ↔ mMk σ l t := by
  obtain ⟨e1, e2⟩ := mEx_tvl h0 hE ht
  unfold mMk
  rw [e1, e2]
  have hR : mR τ l = mR σ l := by
    funext g
    refine propext ⟨fun ⟨u, hu, e⟩ => ⟨u, hu, by rw [← e, (mEx_tvl h0 hE (hl u hu).1).1]⟩, fun ⟨u, hu, e⟩ => ⟨u, hu, by rw [← e, (mEx_tvl h0 hE (hl u hu).1).1]⟩⟩
  have hH : τ 238 = σ 238 := by
    obtain ⟨-, -, -, K, F, S, Z, G, nx, hd, N, I, rfl⟩ := hE
    rfl
  rw [hR, hH]
  refine and_congr_right (fun hg => ?_)
  /- AGENTS are old -/
  have key : ∀ u, mv n b u → tgd (σ 233) (σ 234) (σ 235) u = true → (vmk (mR σ l) (mA τ) (σ 238) (tvl (σ 233) (σ 234) (σ 235) u) ↔ vmk (mR σ l) (mA σ) (σ 238) (tvl (σ 233) (σ 234) (σ 235) u)) := by
    have hV := h0.2.2.2.2.2.1.1
    intro u
    induction u using Nat.strongRecOn with
    | _ u ih =>
      intro hu hgu
      rcases (hV u hu).2 with ⟨k, h3, hk, -, -⟩ | ⟨k, x, y, h3, hk, hx, hy, h4, h5, h6, h7⟩ | ⟨k, x, h3, hk, hx, hy, h4, h6⟩
      · rw [tvl_0 hk h3]
        unfold vmk mA
        rw [(hE.2.2.1 u (by have := h0.1; have := h0.2.1; unfold mv at hu; omega)).1]
      · rw [tgd_2 hV hk hx hy (by omega) (by omega) h4 h5 h6 h7, Bool.and_eq_true] at hgu
        rw [tvl_2 hV hk hx hy (by omega) (by omega) h4 h5 h6 h7]
        have ix := ih x h4 h6 hgu.1
        have iy := ih y h5 h7 hgu.2
        rcases h3 with rfl | rfl | ⟨rfl | rfl, -⟩
        · show (_ ∨ (_ ∧ _)) ↔ (_ ∨ (_ ∧ _))
          rw [ix, iy]
        · show (_ ∨ (_ ∧ _)) ↔ (_ ∨ (_ ∧ _))
          rw [ix, iy]
        · show (_ ∨ _) ↔ (_ ∨ _)
          rw [ix]
        · show (_ ∨ (_ ∧ _)) ↔ (_ ∨ (_ ∧ _))
          rw [ix]
      · rw [tgd_1 hV hk hx hy (by omega) (by omega) h4 h6] at hgu
        rw [tvl_1 hV hk hx hy (by omega) (by omega) h4 h6]
        have ix := ih x h4 h6 hgu
        rcases h3 with rfl | ⟨rfl, -⟩
        · show (_ ∨ _) ↔ (_ ∨ _)
          rw [ix]
        · exact Iff.rfl
  exact key t ht hg
theorem mJd_ex {σ τ : kS} {n b b' : Nat} {l : rwT} (h0 : mTb σ n b) (hE : mEx σ τ n b b') (hl : ∀ t, rwI l t → mvG σ n b t) (h : mJd σ n b l) : mJd τ n b' l := by
  have e232 : ∀ j, j ≠ 10 → τ 232 j = σ 232 j := fun j hj => by
    obtain ⟨-, -, -, K, F, S, Z, G, nx, hd, N, I, rfl⟩ := hE
    exact pk_un hj
  have emk : τ 272 = σ 272 := by
    obtain ⟨-, -, -, K, F, S, Z, G, nx, hd, N, I, rfl⟩ := hE
    rfl
  obtain ⟨h1, h2⟩ := h
  refine ⟨by rw [e232 _ (by decide)]; exact h1, fun q => ?_⟩
  rw [e232 _ (by decide)] at q
  obtain ⟨j, j1, j2, j3, j4⟩ := h2 q
  refine ⟨j, by rw [e232 _ (by decide)]; exact j1, j2, by have := hE.2.1; omega, fun t ht htj => ?_⟩
  have htb : mv n b t := by unfold mv at ht ⊢; omega
  rw [emk, j4 t htb htj, propext (mMk_ex h0 hE hl htb)]
/-- what a row of trees MAKES -/
def trI (l : trT) (g : Jvm.Term) : Prop := ∃ q ∈ l, q.1 = g
noncomputable def trK (A : Nat → Prop) (H : Nat → Int32) (l : trT) (p : Nat) : trT := match l[p]? with
  | some (.add a b, _) => trA (trA l a (nI 2) (nI p)) b (nI 3) (nI p)
  | some (.sub a b, _) => cit (vmk (trI l) A H b) (trA l a (nI 4) (nI p)) l
  | some (.mul a b, _) => cit (vnh H b ∨ trI l (.length b)) (trA l a (nI 5) (nI p)) l
  | some (.div a _, _) => trA l a (nI 6) (nI p)
  | _ => l
noncomputable def trP (A : Nat → Prop) (H : Nat → Int32) : Nat → Nat → trT → trT
  | 0, _, l => l
  | f + 1, p, l => if p < l.length then trP A H f (p + 1) (trK A H l p) else l
noncomputable def trE (A : Nat → Prop) (H : Nat → Int32) : Nat → trT → trT
  | 0, l => l
  | f + 1, l => if l.length < (trP A H 1001 0 l).length then trE A H f (trP A H 1001 0 l) else trP A H 1001 0 l
theorem rwM_I (σ : kS) (l : rwT) : trI (rwM σ l) = mR σ l := funext fun g => propext rwM_mem
theorem rwM_K {σ : kS} {n b : Nat} {l : rwT} {p : Nat} (h : mTb σ n b) (hl : ∀ t, rwI l t → mvG σ n b t) (hp : p < l.length) : rwM σ (tkR σ l p) = trK (mA σ) (σ 238) (rwM σ l) p ∧ ∀ t, rwI (tkR σ l p) t → mvG σ n b t := by
  have hV := h.2.2.2.2.2.1.1
  obtain ⟨t, ht⟩ : ∃ t, (l[p]'hp).1 = t := ⟨_, rfl⟩
  have htv : mvG σ n b t := hl t ⟨l[p]'hp, List.getElem_mem hp, ht⟩
  have hR : tkR σ l p = tkT σ l p t := by
    unfold tkR
    rw [List.getElem?_eq_getElem hp]
    rw [← ht]
  have hM : (rwM σ l)[p]? = some (tvl (σ 233) (σ 234) (σ 235) t, (l[p]'hp).2) := by
    unfold rwM
    rw [List.getElem?_map, List.getElem?_eq_getElem hp]
    rw [← ht]
    rfl
  rw [hR]
  unfold trK
  rw [hM]
  have hA : ∀ (l1 : rwT) (x : Nat) (w q : Int32), (∀ t, rwI l1 t → mvG σ n b t) → mvG σ n b x → ∀ u, rwI (rwA l1 x w q) u → mvG σ n b u := fun l1 x w q h1 h2 u hu => by
    rcases rwI_A hu with hu | rfl
    · exact h1 u hu
    · exact h2
  rcases (hV t htv.1).2 with ⟨k, h3, hk, -, -⟩ | ⟨k, x, y, h3, hk, hx, hy, h4, h5, h6, h7⟩ | ⟨k, x, h3, hk, hx, hy, h4, h6⟩
  · have e : tkT σ l p t = l := by
      unfold tkT
      rw [hk, if_neg (nI_ne (by omega)), if_neg (nI_ne (by omega)), if_neg (nI_ne (by omega)), if_neg (nI_ne (by omega))]
    rw [e, tvl_0 hk h3]
    exact ⟨rfl, hl⟩
  · have hg := htv.2
    rw [tgd_2 hV hk hx hy (by omega) (by omega) h4 h5 h6 h7, Bool.and_eq_true] at hg
    have hxv : mvG σ n b x := ⟨h6, hg.1⟩
    have hyv : mvG σ n b y := ⟨h7, hg.2⟩
    have ex : fN (σ 234 t) = x := by rw [hx]; exact fN_nI (by have := (hV x h6).1; omega)
    have ey : fN (σ 235 t) = y := by rw [hy]; exact fN_nI (by have := (hV y h7).1; omega)
    rw [tvl_2 hV hk hx hy (by omega) (by omega) h4 h5 h6 h7]
    have hmy : mMk σ l y ↔ vmk (trI (rwM σ l)) (mA σ) (σ 238) (tvl (σ 233) (σ 234) (σ 235) y) := by
      rw [rwM_I]
      exact ⟨fun q => q.2, fun q => ⟨hg.2, q⟩⟩
    rcases h3 with rfl | rfl | ⟨h3, hag⟩
    · have e : tkT σ l p t = rwA (rwA l x (nI 2) (nI p)) y (nI 3) (nI p) := by
        unfold tkT
        rw [if_pos hk, ex, ey]
      rw [e]
      refine ⟨?_, hA _ _ _ _ (hA _ _ _ _ hl hxv) hyv⟩
      show _ = trA (trA (rwM σ l) (tvl (σ 233) (σ 234) (σ 235) x) (nI 2) (nI p)) (tvl (σ 233) (σ 234) (σ 235) y) (nI 3) (nI p)
      rw [rwM_A h (hA _ _ _ _ hl hxv) h7, rwM_A h hl h6]
    · have e : tkT σ l p t = cit (mMk σ l y) (rwA l x (nI 4) (nI p)) l := by
        unfold tkT
        rw [if_neg (by rw [hk]; decide), if_pos hk, ex, ey]
      rw [e]
      show rwM σ (cit _ _ _) = cit (vmk (trI (rwM σ l)) (mA σ) (σ 238) (tvl (σ 233) (σ 234) (σ 235) y)) (trA (rwM σ l) (tvl (σ 233) (σ 234) (σ 235) x) (nI 4) (nI p)) (rwM σ l) ∧ _
      by_cases hm : mMk σ l y
      · rw [cit_T hm, cit_T (hmy.mp hm), rwM_A h hl h6]
        exact ⟨rfl, hA _ _ _ _ hl hxv⟩
      · rw [cit_F hm, cit_F (fun q => hm (hmy.mpr q))]
        exact ⟨rfl, hl⟩
    · have hy0 : σ 233 y = nI 0 := by
        rcases hag.2 with e | ⟨e, -⟩
        · exact e
        · rw [tgd_0 e (by decide)] at hg
          exact absurd rfl (of_decide_eq_true hg.2)
      rcases h3 with rfl | rfl
      · have e : tkT σ l p t = cit (mHp σ l y) (rwA l x (nI 5) (nI p)) l := by
          unfold tkT
          rw [if_neg (by rw [hk]; decide), if_neg (by rw [hk]; decide), if_pos hk, ex, ey]
        rw [e]
        show rwM σ (cit _ _ _) = cit (vnh (σ 238) (tvl (σ 233) (σ 234) (σ 235) y) ∨ trI (rwM σ l) (.length (tvl (σ 233) (σ 234) (σ 235) y))) (trA (rwM σ l) (tvl (σ 233) (σ 234) (σ 235) x) (nI 5) (nI p)) (rwM σ l) ∧ _
        rw [tvl_0 hy0 (by decide), rwM_I]
        by_cases hm : mHp σ l y
        · rw [cit_T hm, cit_T (show vnh (σ 238) (.arg y) ∨ mR σ l (.length (.arg y)) from hm), rwM_A h hl h6]
          exact ⟨rfl, hA _ _ _ _ hl hxv⟩
        · rw [cit_F hm, cit_F (show ¬ (vnh (σ 238) (.arg y) ∨ mR σ l (.length (.arg y))) from hm)]
          exact ⟨rfl, hl⟩
      · have e : tkT σ l p t = rwA l x (nI 6) (nI p) := by
          unfold tkT
          rw [if_neg (by rw [hk]; decide), if_neg (by rw [hk]; decide), if_neg (by rw [hk]; decide), if_pos hk, ex]
        rw [e]
        refine ⟨?_, hA _ _ _ _ hl hxv⟩
        show _ = trA (rwM σ l) (tvl (σ 233) (σ 234) (σ 235) x) (nI 6) (nI p)
        rw [rwM_A h hl h6]
  · have e : tkT σ l p t = l := by
      unfold tkT
      rw [hk, if_neg (nI_ne (by omega)), if_neg (nI_ne (by omega)), if_neg (nI_ne (by omega)), if_neg (nI_ne (by omega))]
    rw [e, tvl_1 hV hk hx hy (by omega) (by omega) h4 h6]
    rcases h3 with rfl | ⟨rfl, -⟩
    · exact ⟨rfl, hl⟩
    · exact ⟨rfl, hl⟩
theorem rwM_len (σ : kS) (l : rwT) : (rwM σ l).length = l.length := List.length_map ..
theorem rwM_P {σ : kS} {n b : Nat} (h : mTb σ n b) : ∀ (f p : Nat) (l : rwT), (∀ t, rwI l t → mvG σ n b t) → rwM σ (psR σ f p l) = trP (mA σ) (σ 238) f p (rwM σ l) ∧ ∀ t, rwI (psR σ f p l) t → mvG σ n b t
  | 0, _, l, hl => ⟨rfl, hl⟩
  | f + 1, p, l, hl => by
    unfold psR trP
    rw [rwM_len]
    by_cases hp : p < l.length
    · rw [if_pos hp, if_pos hp]
      obtain ⟨k1, k2⟩ := rwM_K h hl hp
      rw [← k1]
      exact rwM_P h f (p + 1) (tkR σ l p) k2
    · rw [if_neg hp, if_neg hp]
      exact ⟨rfl, hl⟩
theorem rwM_E {σ : kS} {n b : Nat} (h : mTb σ n b) : ∀ (f : Nat) (l : rwT), (∀ t, rwI l t → mvG σ n b t) → rwM σ (enR σ f l) = trE (mA σ) (σ 238) f (rwM σ l) ∧ ∀ t, rwI (enR σ f l) t → mvG σ n b t
  | 0, l, hl => ⟨rfl, hl⟩
  | f + 1, l, hl => by
    obtain ⟨k1, k2⟩ := rwM_P h 1001 0 l hl
    have e1 : (trP (mA σ) (σ 238) 1001 0 (rwM σ l)).length = (psR σ 1001 0 l).length := by rw [← k1, rwM_len]
    unfold enR trE
    rw [rwM_len, e1]
    by_cases hp : l.length < (psR σ 1001 0 l).length
    · rw [if_pos hp, if_pos hp, ← k1]
      exact rwM_E h f _ k2
    · rw [if_neg hp, if_neg hp]
      exact ⟨k1, k2⟩
end
section
/-! the reference's state: ROLES, SESSIONS, where these stand -/
def mRo (σ : kS) (n R : Nat) : Prop := R ≤ 4 ∧ σ 232 13 = nI R ∧
  (∀ r, r < R → (∃ v, v ≤ 6 ∧ σ 244 r = nI v) ∧ ∃ e, e ≤ 6 ∧ σ 247 r = nI e) ∧
  (∀ r k, r < R → k < fN (σ 244 r) → ∃ t so as, t < n ∧ σ 245 (6 * r + k) = nI t ∧ σ 233 t = nI 3 ∧ σ 239 t = nI r ∧ σ 241 t = nI k ∧ so ≤ 3 ∧ σ 240 t = nI so ∧ as ≤ 2 ∧ σ 246 (6 * r + k) = nI as ∧ (as = 0 → so = 0) ∧ (as = 1 → so = 1 ∨ so = 2)) ∧
  (∀ t, t < n → σ 233 t = nI 3 → ∃ r k, r < R ∧ k < fN (σ 244 r) ∧ σ 245 (6 * r + k) = nI t) ∧
  (∀ r e, r < R → e < fN (σ 247 r) → ∃ t, t < n ∧ σ 248 (6 * r + e) = nI t ∧ (∀ u ∈ tvs (σ 233) (σ 234) (σ 235) t, σ 239 u = nI r) ∧
    (σ 249 (6 * r + e) ≠ 0 → ∀ u ∈ tvs (σ 233) (σ 234) (σ 235) t, σ 246 (6 * r + fN (σ 241 u)) = nI 2 → ∃ e', e' < e ∧ σ 249 (6 * r + e') = 0 ∧ u ∈ tvs (σ 233) (σ 234) (σ 235) (fN (σ 248 (6 * r + e')))))
/-- VARIABLE k of the role r in the session s: it stands for nothing (one that is RECEIVED, or none), or for a GROUND TERM of its SORT -/
def mVk (σ : kS) (n r s k : Nat) : Prop := (σ 265 (6 * s + k) = -6 ∧ (k < fN (σ 244 r) → σ 246 (6 * r + k) = nI 2)) ∨ ∃ z, z < n ∧ σ 265 (6 * s + k) = nI z ∧ tgd (σ 233) (σ 234) (σ 235) z = true ∧ k < fN (σ 244 r) ∧ (σ 240 (fN (σ 245 (6 * r + k))) = nI 3 ∨ σ 240 (fN (σ 245 (6 * r + k))) = σ 233 z)
/-- where the session s stands: dn EVENTS done -/
def mSn (σ : kS) (n R s dn : Nat) : Prop := ∃ r, r < R ∧ σ 255 s = nI r ∧ σ 264 s = nI dn ∧ dn ≤ fN (σ 247 r) ∧ (∀ k, k < 6 → mVk σ n r s k) ∧ ∀ e, e < dn → mSt σ n s (fN (σ 248 (6 * r + e)))
/-- SESSIONS as they were made -/
def mSe (σ : kS) (n R S : Nat) : Prop := S ≤ 4 ∧ σ 232 27 = nI S ∧ ∀ s, s < S → ∃ r, r < R ∧ σ 255 s = nI r ∧ σ 250 r ≠ 0 ∧ ∀ k, k < fN (σ 244 r) → ∃ as, σ 246 (6 * r + k) = nI as ∧ ((as = 2 ∧ σ 256 (6 * s + k) = -6) ∨ (as < 2 ∧ ∃ z, z < n ∧ σ 256 (6 * s + k) = nI z ∧ σ 233 z = σ 240 (fN (σ 245 (6 * r + k)))))
/-- the RUN: by whom its EVENTS were done -/
def mRn (σ : kS) (n R S : Nat) (ds : List Nat) : Prop := σ 232 55 = nI ds.length ∧ lst (σ 274) ds ∧ (∀ s ∈ ds, s < S) ∧ ∀ s, s < S → mSn σ n R s (ds.count s)
def rowC : List Nat := [233, 234, 235, 236, 237, 243, 242, 266, 267, 272, 271, 268, 269, 270, 276, 232]
def rowJ : List Nat := [10, 49, 50, 46, 47]
/-- nothing has changed but the row and what it is made of -/
def mFr (σ τ : kS) (n : Nat) : Prop := (∀ c, c ∉ rowC → τ c = σ c) ∧ (∀ j, j ∉ rowJ → τ 232 j = σ 232 j) ∧ ∀ u, u < 200 → τ 233 u = σ 233 u ∧ τ 234 u = σ 234 u ∧ τ 235 u = σ 235 u
theorem mFr_refl (σ : kS) (n : Nat) : mFr σ σ n := ⟨fun _ _ => rfl, fun _ _ => rfl, fun _ _ => ⟨rfl, rfl, rfl⟩⟩
theorem mFr_trans {σ τ ρ : kS} {n : Nat} (h1 : mFr σ τ n) (h2 : mFr τ ρ n) : mFr σ ρ n :=
  ⟨fun c hc => (h2.1 c hc).trans (h1.1 c hc), fun j hj => (h2.2.1 j hj).trans (h1.2.1 j hj), fun u hu => ⟨(h2.2.2 u hu).1.trans (h1.2.2 u hu).1, (h2.2.2 u hu).2.1.trans (h1.2.2 u hu).2.1, (h2.2.2 u hu).2.2.trans (h1.2.2 u hu).2.2⟩⟩
theorem mFr_rwF {σ τ : kS} {n : Nat} (h : rwF σ τ) : mFr σ τ n := by
  obtain ⟨⟨Mk, I, R, H, M, o, rfl⟩, g⟩ := h
  refine ⟨fun c hc => ?_, fun j hj => ?_, fun u hu => ⟨rfl, rfl, rfl⟩⟩
  · simp only [rowC, List.mem_cons, List.not_mem_nil, or_false, not_or] at hc
    simp [rwS, va_up, hc]
  · simp only [rowJ, List.mem_cons, List.not_mem_nil, or_false, not_or] at hj
    exact g j hj.2.1 hj.2.2.1 hj.2.2.2.1
theorem mFr_ex {σ τ : kS} {n b b' : Nat} (h : mEx σ τ n b b') (hb : 200 ≤ b) : mFr σ τ n := by
  obtain ⟨h1, h2, h3, K, F, S, Z, G, nx, hd, N, I, rfl⟩ := h
  refine ⟨fun c hc => ?_, fun j hj => ?_, fun u hu => h3 u (by omega)⟩
  · simp only [rowC, List.mem_cons, List.not_mem_nil, or_false, not_or] at hc
    simp [exS, mU, va_up, hc]
  · simp only [rowJ, List.mem_cons, List.not_mem_nil, or_false, not_or] at hj
    exact pk_un hj.1
theorem mFr_Rl (σ : kS) (n : Nat) (hd : Nat → Int32) (jd : Int32) : mFr σ (mRl σ hd jd) n := by
  refine ⟨fun c hc => ?_, fun j hj => ?_, fun u hu => ⟨rfl, rfl, rfl⟩⟩
  · simp only [rowC, List.mem_cons, List.not_mem_nil, or_false, not_or] at hc
    simp [mRl, va_up, hc]
  · simp only [rowJ, List.mem_cons, List.not_mem_nil, or_false, not_or] at hj
    show upd (upd (σ 232) 10 (nI 200)) 49 jd j = _
    rw [pk_un hj.2.1, pk_un hj.1]
theorem mFr_sent (σ : kS) (n : Nat) (f : Nat → Int32) : mFr σ (va_up σ 276 f) n := by
  refine ⟨fun c hc => ?_, fun j hj => rfl, fun u hu => ⟨rfl, rfl, rfl⟩⟩
  simp only [rowC, List.mem_cons, List.not_mem_nil, or_false, not_or] at hc
  simp [va_up, hc]
theorem mFr_rit (σ : kS) (n : Nat) (x : Int32) : mFr σ (va_up σ 232 (upd (σ 232) 47 x)) n := by
  refine ⟨fun c hc => ?_, fun j hj => ?_, fun u hu => ⟨rfl, rfl, rfl⟩⟩
  · simp only [rowC, List.mem_cons, List.not_mem_nil, or_false, not_or] at hc
    simp [va_up, hc]
  · simp only [rowJ, List.mem_cons, List.not_mem_nil, or_false, not_or] at hj
    show upd (σ 232) 47 x j = _
    exact pk_un hj.2.2.2.2
/-- what is told of numbered TERMS -/
theorem mTb_num {σ : kS} {n b : Nat} (h : mTb σ n b) : ∀ t, t < n → t < 100000 ∧ tOk (fun u => u < n) (mAG σ n) (σ 233) (σ 234) (σ 235) t := fun t ht => by
  have hV := h.2.2.2.2.2.1.1 t (Or.inl ht)
  exact ⟨hV.1, tOk_mono (fun x hx _ => by omega) (fun _ _ q => q) rfl rfl rfl hV.2⟩
theorem mFr_all {σ τ : kS} {n b t : Nat} (h : mTb σ n b) (hF : mFr σ τ n) (ht : t < n) : tvl (τ 233) (τ 234) (τ 235) t = tvl (σ 233) (σ 234) (σ 235) t ∧ tgd (τ 233) (τ 234) (τ 235) t = tgd (σ 233) (σ 234) (σ 235) t ∧ tvs (τ 233) (τ 234) (τ 235) t = tvs (σ 233) (σ 234) (σ 235) t := by
  have h200 := h.1
  have hF2 : ∀ u, u < n → τ 233 u = σ 233 u ∧ τ 234 u = σ 234 u ∧ τ 235 u = σ 235 u := fun u hu => hF.2.2 u (by omega)
  refine ⟨tA_congr (mTb_num h) (fun u hu => ⟨(hF2 u hu).1, (hF2 u hu).2.1, (hF2 u hu).2.2, rfl⟩) t ht, tA_congr (mTb_num h) (fun u hu => ⟨(hF2 u hu).1, (hF2 u hu).2.1, (hF2 u hu).2.2, by rw [(hF2 u hu).1]⟩) t ht, tA_congr (mTb_num h) (fun u hu => ⟨(hF2 u hu).1, (hF2 u hu).2.1, (hF2 u hu).2.2, by rw [(hF2 u hu).1]⟩) t ht⟩
theorem mFr_St {σ τ : kS} {n b s t : Nat} (h : mTb σ n b) (hF : mFr σ τ n) (ht : t < n) (hs : mSt σ n s t) : mSt τ n s t := by
  intro u hu
  rw [(mFr_all h hF ht).2.2] at hu
  obtain ⟨p, z, h1, h2, h3, h4, h5, h6⟩ := hs u hu
  refine ⟨p, z, h1, h2, ?_, ?_, (mFr_all h hF h2).2.1.trans h5, ?_⟩
  · rw [hF.1 241 (by decide)]
    exact h3
  · rw [hF.1 265 (by decide)]
    exact h4
  · rw [hF.1 240 (by decide), (hF.2.2 z (by have := h.1; omega)).1]
    exact h6
theorem mFr_Ro {σ τ : kS} {n b R : Nat} (h : mTb σ n b) (hF : mFr σ τ n) (hR : mRo σ n R) : mRo τ n R := by
  obtain ⟨h1, h2, h3, h4, h5, h6⟩ := hR
  have c := fun c (hc : c ∉ rowC) => hF.1 c hc
  refine ⟨h1, (hF.2.1 _ (by decide)).trans h2, ?_, ?_, ?_, ?_⟩
  · rw [c 244 (by decide), c 247 (by decide)]
    exact h3
  · rw [c 244 (by decide), c 245 (by decide), c 239 (by decide), c 241 (by decide), c 240 (by decide), c 246 (by decide)]
    intro r k hr hk
    obtain ⟨t, so, as, a1, a2, a3, a4⟩ := h4 r k hr hk
    exact ⟨t, so, as, a1, a2, ((hF.2.2 t (by have := h.1; omega)).1).trans a3, a4⟩
  · rw [c 244 (by decide), c 245 (by decide)]
    intro t ht hk
    exact h5 t ht ((hF.2.2 t (by have := h.1; omega)).1.symm.trans hk)
  · rw [c 247 (by decide), c 248 (by decide), c 239 (by decide), c 249 (by decide), c 246 (by decide), c 241 (by decide)]
    intro r e hr he
    obtain ⟨t, a1, a2, a3, a4⟩ := h6 r e hr he
    refine ⟨t, a1, a2, ?_, ?_⟩
    · rw [(mFr_all h hF a1).2.2]
      exact a3
    · rw [(mFr_all h hF a1).2.2]
      intro hs u hu ha
      obtain ⟨e', b1, b2, b3⟩ := a4 hs u hu ha
      refine ⟨e', b1, b2, ?_⟩
      obtain ⟨t', d1, d2, -⟩ := h6 r e' hr (by omega)
      rw [d2, fN_nI (by have := h.1; omega)] at b3 ⊢
      rw [(mFr_all h hF d1).2.2]
      exact b3
theorem mFr_Sn {σ τ : kS} {n b R s dn : Nat} (h : mTb σ n b) (hR : mRo σ n R) (hF : mFr σ τ n) (hS : mSn σ n R s dn) : mSn τ n R s dn := by
  obtain ⟨r, h1, h2, h3, h4, h5, h6⟩ := hS
  have c := fun c (hc : c ∉ rowC) => hF.1 c hc
  refine ⟨r, h1, ?_, ?_, ?_, fun k hk => ?_, fun e he => ?_⟩
  · rw [c 255 (by decide)]; exact h2
  · rw [c 264 (by decide)]; exact h3
  · rw [c 247 (by decide)]; exact h4
  · have := h5 k hk
    unfold mVk at this ⊢
    rw [c 265 (by decide), c 244 (by decide), c 246 (by decide), c 240 (by decide), c 245 (by decide)]
    rcases this with q | ⟨z, q1, q2, q3, q4, q5⟩
    · exact Or.inl q
    · refine Or.inr ⟨z, q1, q2, (mFr_all h hF q1).2.1.trans q3, q4, ?_⟩
      rw [(hF.2.2 z (by have := h.1; omega)).1]
      exact q5
  · rw [c 248 (by decide)]
    obtain ⟨t, d1, d2, -⟩ := hR.2.2.2.2.2 r e h1 (by omega)
    have := h6 e he
    rw [d2, fN_nI (by have := h.1; omega)] at this ⊢
    exact mFr_St h hF d1 this
theorem mFr_Rn {σ τ : kS} {n b R S : Nat} {ds : List Nat} (h : mTb σ n b) (hR : mRo σ n R) (hF : mFr σ τ n) (hS : mRn σ n R S ds) : mRn τ n R S ds := by
  obtain ⟨h1, h2, h3, h4⟩ := hS
  refine ⟨(hF.2.1 _ (by decide)).trans h1, ?_, h3, fun s hs => mFr_Sn h hR hF (h4 s hs)⟩
  rw [hF.1 274 (by decide)]
  exact h2
theorem mFr_Se {σ τ : kS} {n b R S : Nat} (h : mTb σ n b) (hF : mFr σ τ n) (hS : mSe σ n R S) : mSe τ n R S := by
  obtain ⟨h1, h2, h3⟩ := hS
  have c := fun c (hc : c ∉ rowC) => hF.1 c hc
  refine ⟨h1, (hF.2.1 _ (by decide)).trans h2, ?_⟩
  rw [c 255 (by decide), c 250 (by decide), c 244 (by decide), c 246 (by decide), c 256 (by decide), c 240 (by decide), c 245 (by decide)]
  intro s hs
  obtain ⟨r, a1, a2, a3, a4⟩ := h3 s hs
  refine ⟨r, a1, a2, a3, fun k hk => ?_⟩
  obtain ⟨as, b1, b2⟩ := a4 k hk
  refine ⟨as, b1, ?_⟩
  rcases b2 with b2 | ⟨b2, z, b3, b4, b5⟩
  · exact Or.inl b2
  · exact Or.inr ⟨b2, z, b3, b4, (hF.2.2 z (by have := h.1; omega)).1.trans b5⟩
theorem mFr_Kn {σ τ : kS} {n b : Nat} {kl : List Nat} (h : mTb σ n b) (hF : mFr σ τ n) (hK : mKn σ n kl) : mKn τ n kl := by
  obtain ⟨h1, h2, h3, h4⟩ := hK
  refine ⟨(hF.2.1 _ (by decide)).trans h1, h2, ?_, fun t ht => ⟨(h4 t ht).1, (mFr_all h hF (h4 t ht).1).2.1.trans (h4 t ht).2⟩⟩
  rw [hF.1 254 (by decide)]
  exact h3
end
section
/-! the reference: the row of the RUN -/
theorem tvs_sub2 {σ : kS} {n b t k x y : Nat} (h : mTb σ n b) (hk : σ 233 t = nI k) (hx : σ 234 t = nI x) (hy : σ 235 t = nI y) (h3 : 3 < k) (hk9 : k ≤ 9) (h4 : x < t) (h5 : y < t) (ht : t < n) : tvs (σ 233) (σ 234) (σ 235) t = tvs (σ 233) (σ 234) (σ 235) x ++ tvs (σ 233) (σ 234) (σ 235) y := tA_2 (mTb_num h) hk hx hy h3 hk9 h4 h5 (show x < n by omega) (show y < n by omega)
theorem mFr_tin {σ τ : kS} {n b s : Nat} (h : mTb σ n b) (hF : mFr σ τ n) : ∀ t, t < n → mSt σ n s t → tin τ s t = tin σ s t := by
  have hn := h.1
  have hF2 : ∀ u, u < n → τ 233 u = σ 233 u ∧ τ 234 u = σ 234 u ∧ τ 235 u = σ 235 u := fun u hu => hF.2.2 u (by omega)
  have hV := mTb_num h
  have hV' : ∀ t, t < n → t < 100000 ∧ tOk (fun u => u < n) (mAG σ n) (τ 233) (τ 234) (τ 235) t := fun t ht => by
    obtain ⟨e1, e2, e3⟩ := hF2 t ht
    exact ⟨(hV t ht).1, tOk_mono (fun _ _ q => q) (fun _ _ q => q) e1 e2 e3 (hV t ht).2⟩
  intro t
  induction t using Nat.strongRecOn with
  | _ t ih =>
    intro ht hst
    obtain ⟨e1, e2, e3⟩ := hF2 t ht
    rcases (hV t ht).2 with ⟨k, h3, hk, -, -⟩ | ⟨k, x, y, h3, hk, hx, hy, h4, h5, h6, h7⟩ | ⟨k, x, h3, hk, hx, hy, h4, h6⟩
    · unfold tin
      rw [tA_0 (e1.trans hk) h3, tA_0 hk h3, e1]
      by_cases hk3 : σ 233 t = nI 3
      · rw [if_pos hk3, if_pos hk3]
        have hu : t ∈ tvs (σ 233) (σ 234) (σ 235) t := by
          unfold tvs
          rw [tA_0 hk h3, if_pos hk3]
          exact List.mem_singleton.mpr rfl
        obtain ⟨p, z, hp, hz, a1, a2, a3, a4⟩ := hst t hu
        have ev : mVl τ s t = z := by
          unfold mVl
          rw [hF.1 241 (by decide), hF.1 265 (by decide), a1, fN_nI (by omega), a2, fN_nI (by omega)]
        have ev' : mVl σ s t = z := by
          unfold mVl
          rw [a1, fN_nI (by omega), a2, fN_nI (by omega)]
        rw [ev, ev']
        exact (mFr_all h hF hz).1
      · rw [if_neg hk3, if_neg hk3]
    · have evs : tvs (σ 233) (σ 234) (σ 235) t = tvs (σ 233) (σ 234) (σ 235) x ++ tvs (σ 233) (σ 234) (σ 235) y := tA_2 hV hk hx hy (by omega) (by omega) h4 h5 h6 h7
      have ix := ih x h4 h6 (fun u hu => hst u (by rw [evs]; exact List.mem_append_left _ hu))
      have iy := ih y h5 h7 (fun u hu => hst u (by rw [evs]; exact List.mem_append_right _ hu))
      unfold tin at ix iy ⊢
      rw [tA_2 hV' (e1.trans hk) (e2.trans hx) (e3.trans hy) (by omega) (by omega) h4 h5 h6 h7, tA_2 hV hk hx hy (by omega) (by omega) h4 h5 h6 h7, ix, iy]
    · have evs : tvs (σ 233) (σ 234) (σ 235) t = tvs (σ 233) (σ 234) (σ 235) x ++ [] := tA_1 hV hk hx hy (by omega) (by omega) h4 h6
      have ix := ih x h4 h6 (fun u hu => hst u (by rw [evs]; exact List.mem_append_left _ hu))
      unfold tin at ix ⊢
      rw [tA_1 hV' (e1.trans hk) (e2.trans hx) (e3.trans hy) (by omega) (by omega) h4 h6, tA_1 hV hk hx hy (by omega) (by omega) h4 h6, ix]
/-- a row l in the making, as the trees tr -/
def mBd (σ τ : kS) (n b : Nat) (l : rwT) (tr : trT) : Prop := mFr σ τ n ∧ mTb τ n b ∧ mRq τ (mvG τ n b) l ∧ mJd τ n b l ∧ rwM τ l = tr
theorem mBd_comes {σ τ ρ : kS} {n b b' u : Nat} {l : rwT} {tr : trT} {I R H M : Nat → Int32} {w p : Int32} (h : mBd σ τ n b l tr) (hE : mEx τ ρ n b b') (hu : mv n b' u) (hg : tgd (ρ 233) (ρ 234) (ρ 235) u = true) (hq : mRq (mRu ρ I R H M (upd (ρ 232) 46 (nI (rwA l u w p).length))) (mvG ρ n b') (rwA l u w p)) :
    mBd σ (mRu ρ I R H M (upd (ρ 232) 46 (nI (rwA l u w p).length))) n b' (rwA l u w p) (trA tr (tvl (ρ 233) (ρ 234) (ρ 235) u) w p) := by
  obtain ⟨h1, h2, h3, h4, h5⟩ := h
  obtain ⟨g1, g2⟩ := mRq_ex h2 hE h3
  have g3 := mJd_ex h2 hE h3.2.2.1 h4
  have hF : rwF ρ (mRu ρ I R H M (upd (ρ 232) 46 (nI (rwA l u w p).length))) := rwF_mRu
  refine ⟨mFr_trans h1 (mFr_trans (mFr_ex hE h2.2.1) (mFr_rwF hF)), rwF_Tb hF hE.1, hq, mJd_comes (mRq_len g1) g3, ?_⟩
  show rwM ρ (rwA l u w p) = _
  rw [rwM_A hE.1 g1.2.2.1 hu, g2, h5]
/-- what is known at first, as trees -/
noncomputable def trKn (σ : kS) (kl : List Nat) : trT := kl.foldl (fun l t => trA l (tvl (σ 233) (σ 234) (σ 235) t) (nI 0) (-6)) []
theorem rwM_Kn {σ : kS} {n b : Nat} (h : mTb σ n b) : ∀ kl : List Nat, (∀ t ∈ kl, t < n ∧ tgd (σ 233) (σ 234) (σ 235) t = true) → rwM σ (knR kl) = trKn σ kl ∧ ∀ t, rwI (knR kl) t → mvG σ n b t := by
  intro kl
  have key : ∀ (kl : List Nat) (l : rwT) (tr : trT), (∀ t ∈ kl, t < n ∧ tgd (σ 233) (σ 234) (σ 235) t = true) → rwM σ l = tr → (∀ t, rwI l t → mvG σ n b t) → rwM σ (kl.foldl (fun l t => rwA l t (nI 0) (-6)) l) = kl.foldl (fun l t => trA l (tvl (σ 233) (σ 234) (σ 235) t) (nI 0) (-6)) tr ∧ ∀ t, rwI (kl.foldl (fun l t => rwA l t (nI 0) (-6)) l) t → mvG σ n b t := by
    intro kl
    induction kl with
    | nil => exact fun l tr _ e hl => ⟨e, hl⟩
    | cons a kl ih =>
      intro l tr hk e hl
      have ha := hk a List.mem_cons_self
      refine ih _ _ (fun t ht => hk t (List.mem_cons_of_mem _ ht)) ?_ (fun t ht => ?_)
      · rw [rwM_A h hl (Or.inl ha.1), e]
      · rcases rwI_A ht with ht | rfl
        · exact hl t ht
        · exact ⟨Or.inl ha.1, ha.2⟩
  exact fun hk => key kl [] [] hk rfl (fun t ht => by obtain ⟨q, hq, -⟩ := ht; cases hq)
/-- the EVENT of the session s behind c of them -/
def mEv (σ : kS) (s c : Nat) : Nat := 6 * fN (σ 255 s) + c
/-- what was sent in the first k EVENTS of the RUN -/
noncomputable def trSn (σ : kS) (ds : List Nat) (tr : trT) : Nat → trT
  | 0 => tr
  | k + 1 => cit (σ 249 (mEv σ (ds.getD k 0) ((ds.take k).count (ds.getD k 0))) ≠ 0) (trA (trSn σ ds tr k) (tin σ (ds.getD k 0) (fN (σ 248 (mEv σ (ds.getD k 0) ((ds.take k).count (ds.getD k 0)))))) (nI 1) (-6)) (trSn σ ds tr k)
/-- the row of the RUN, as trees -/
noncomputable def trRun (σ : kS) (kl ds : List Nat) : trT := trE (mA σ) (σ 238) 1001 (trSn σ ds (trKn σ kl) ds.length)
theorem count_take_le (ds : List Nat) (s k : Nat) : (ds.take k).count s ≤ ds.count s := (List.take_sublist k ds).count_le s
theorem mRn_len {σ : kS} {n R S : Nat} {ds : List Nat} (hR : mRo σ n R) (hS4 : S ≤ 4) (h : mRn σ n R S ds) : ds.length ≤ 24 := by
  have hc : ∀ s, ds.count s ≤ 6 := fun s => by
    by_cases hs : s < S
    · obtain ⟨r, h1, -, -, h4, -⟩ := h.2.2.2 s hs
      obtain ⟨-, e, he, ee⟩ := hR.2.2.1 r h1
      rw [ee, fN_nI (by omega)] at h4
      omega
    · have : ds.count s = 0 := List.count_eq_zero.mpr (fun q => hs (h.2.2.1 s q))
      omega
  have key : ∀ (l : List Nat), (∀ s ∈ l, s < 4) → l.length = l.count 0 + l.count 1 + l.count 2 + l.count 3 := by
    intro l
    induction l with
    | nil => intro _; rfl
    | cons a l ih =>
      intro hl
      have h1 := ih (fun s hs => hl s (List.mem_cons_of_mem _ hs))
      have ha := hl a List.mem_cons_self
      rw [List.length_cons, h1, List.count_cons, List.count_cons, List.count_cons, List.count_cons]
      obtain rfl | rfl | rfl | rfl : a = 0 ∨ a = 1 ∨ a = 2 ∨ a = 3 := by omega
      all_goals simp
      all_goals omega
  rw [key ds (fun s hs => by have := h.2.2.1 s hs; omega)]
  have := hc 0
  have := hc 1
  have := hc 2
  have := hc 3
  omega
set_option maxRecDepth 100000 in
set_option maxHeartbeats 4000000 in
theorem mr_runRow (L : Nat) (xs : Nat → Int32) (d : Nat) (σ : kS) (n b R S : Nat) (kl ds : List Nat) (h : mTb σ n b) (hk : mKn σ n kl) (hR : mRo σ n R) (hS4 : S ≤ 4) (hS : mRn σ n R S ds) (hz : σ 232 47 = 0) : kXM kT L xs (d + 7) 190 [.ref 232] σ (fun r σ' => r = none ∧ σ' 232 47 = 1 ∧ ∃ b' l, b' ≤ 776 ∧ mBd σ σ' n b' l (trRun σ kl ds)) := by
  have hn := h.1
  have hlen := mRn_len hR hS4 hS
  unfold kXM
  iterate 2 (refine kX_one rfl ?_)
  refine kX_top (hz) ?_
  iterate 2 (refine kX_one rfl ?_)
  refine kX_cal (mr_beginRow L xs (d + 4) σ n b kl h hk) rfl (Or.inr rfl) rfl rfl rfl (fun r1 σ1 q1 => ?_)
  obtain ⟨rfl, ⟨hd, jd, f1, f0⟩, f2, f3⟩ := q1
  have hF1 : mFr σ σ1 n := mFr_trans (mFr_Rl σ n hd jd) (mFr_rwF f1)
  have hT1 : mTb σ1 n 200 := rwF_Tb f1 f0
  have hg1 : mvG σ1 n 200 = mvG σ n 200 := by
    rw [rwF_mvG f1]
    rfl
  have hB1 : mBd σ σ1 n 200 (knR kl) (trKn σ kl) := by
    refine ⟨hF1, hT1, by rw [hg1]; exact f2, f3, ?_⟩
    have e := (rwM_Kn f0 kl hk.2.2.2).1
    obtain ⟨⟨Mk, I, RR, H, M, o, rfl⟩, -⟩ := f1
    exact e
  iterate 2 (refine kX_one rfl ?_)
  /- the counters -/
  have loopA := kX_while (T := kT) (L := L) (xs := xs) (d := d + 7) (mi := 190) (pc := 14) (Q := fun r σ' => r = none ∧ σ' 232 47 = 1 ∧ ∃ b' l, b' ≤ 776 ∧ mBd σ σ' n b' l (trRun σ kl ds))
    (fun q : Nat × (Nat → Int32) => [(1, .int (nI q.1)), (0, .ref 232)]) (fun q => va_up σ1 276 q.2) (fun q => q.1 ≤ 4 ∧ ∀ u, u < q.1 → q.2 u = 0) (fun q => 4 - q.1) ?_ (0, σ1 276) ⟨Nat.zero_le _, fun u hu => absurd hu (Nat.not_lt_zero u)⟩
  · rw [kup_self] at loopA
    exact loopA
  · rintro ⟨i, f⟩ ⟨i1, i2⟩ ih
    dsimp only at i1 i2 ih ⊢
    repeat refine kX_one rfl ?_
    refine kX_if (fun q => ?_) (fun q => ?_)
    · have q := qge q i 4
      obtain rfl : i = 4 := by omega
      iterate 2 (refine kX_one rfl ?_)
      have hB2 : mBd σ (va_up σ1 276 f) n 200 (knR kl) (trKn σ kl) := ⟨mFr_trans hF1 (mFr_sent σ1 n f), hT1, hB1.2.2.1, hB1.2.2.2.1, hB1.2.2.2.2⟩
      have loopB := kX_while (T := kT) (L := L) (xs := xs) (d := d + 7) (mi := 190) (pc := 34) (Q := fun r σ' => r = none ∧ σ' 232 47 = 1 ∧ ∃ b' l, b' ≤ 776 ∧ mBd σ σ' n b' l (trRun σ kl ds))
        (fun q : Nat × Nat × rwT × kS => [(1, .int (nI q.1)), (0, .ref 232)]) (fun q => q.2.2.2) (fun q => q.1 ≤ ds.length ∧ q.2.1 ≤ 200 + 24 * q.1 ∧ mBd σ q.2.2.2 n q.2.1 q.2.2.1 (trSn σ ds (trKn σ kl) q.1) ∧ ∀ s, s < 4 → q.2.2.2 276 s = nI ((ds.take q.1).count s)) (fun q => ds.length - q.1) ?_ (0, 200, knR kl, va_up σ1 276 f) ⟨Nat.zero_le _, by simp only; omega, hB2, fun s hs => i2 s hs⟩
      · exact loopB
      · rintro ⟨k, b', l, τ⟩ ⟨j1, j2, j3, j4⟩ ih2
        dsimp only at j1 j2 j3 j4 ih2 ⊢
        have hRn := mFr_Rn h hR j3.1 hS
        have hRo := mFr_Ro h j3.1 hR
        iterate 3 (refine kX_one rfl ?_)
        refine kX_top (hRn.1) ?_
        repeat refine kX_one rfl ?_
        refine kX_if (fun q2 => ?_) (fun q2 => ?_)
        · have q2 := qge q2 k ds.length
          obtain rfl : k = ds.length := by omega
          repeat refine kX_one rfl ?_
          refine kX_cal (mr_endRow L xs d τ n b' l j3.2.1 j3.2.2.1 j3.2.2.2.1) rfl (Or.inr rfl) rfl rfl rfl (fun r1 σ2 q1 => ?_)
          obtain ⟨rfl, e1, e2, e3⟩ := q1
          repeat refine kX_one rfl ?_
          refine kX_ret (i := .return_) (len := 1) rfl (Or.inr rfl) rfl ⟨rfl, rfl, b', enR τ 1001 l, by omega, mFr_trans (mFr_trans j3.1 (mFr_rwF e1)) (mFr_rit σ2 n 1), ?_, ?_, e3, ?_⟩
          · have hTb : mTb σ2 n b' := rwF_Tb e1 j3.2.1
            exact hTb
          · have hg := rwF_mvG e1 n b'
            have e2' : mRq σ2 (mvG σ2 n b') (enR τ 1001 l) := by rw [hg]; exact e2
            exact e2'
          · show rwM σ2 (enR τ 1001 l) = _
            have hr : rwM σ2 (enR τ 1001 l) = rwM τ (enR τ 1001 l) := by
              obtain ⟨⟨Mk, I, RR, H, M, o, rfl⟩, -⟩ := e1
              rfl
            rw [hr, (rwM_E j3.2.1 1001 l j3.2.2.1.2.2.1).1, j3.2.2.2.2]
            unfold trRun
            have hA : mA τ = mA σ := funext fun t => propext ⟨fun q => ⟨q.1, (j3.1.2.2 t q.1).1.symm.trans q.2⟩, fun q => ⟨q.1, (j3.1.2.2 t q.1).1.trans q.2⟩⟩
            rw [hA, j3.1.1 238 (by decide)]
        · have q2 := qgeF q2 k ds.length
          obtain ⟨s, hsd⟩ : ∃ s, ds[k] = s := ⟨_, rfl⟩
          have hsS : s < S := by rw [← hsd]; exact hS.2.2.1 _ (List.getElem_mem q2)
          have hs4 : s < 4 := by omega
          have hgd : ds.getD k 0 = s := by rw [List.getD_eq_getElem?_getD, List.getElem?_eq_getElem q2]; exact hsd
          have hcnt : (ds.take (k + 1)).count s = (ds.take k).count s + 1 := by
            rw [List.take_succ_eq_append_getElem q2, List.count_append, hsd]
            simp
          have hlt : (ds.take k).count s < ds.count s := by
            have := count_take_le ds s (k + 1)
            omega
          obtain ⟨r, r1, r2, r3, r4, r5, r6⟩ := hS.2.2.2 s hsS
          obtain ⟨-, ev, he6, hev⟩ := hR.2.2.1 r r1
          have hcn : (ds.take k).count s < 6 := by
            rw [hev, fN_nI (by omega)] at r4
            omega
          have hR4 := hR.1
          obtain ⟨t, t1, t2, -, -⟩ := hR.2.2.2.2.2 r ((ds.take k).count s) r1 (by omega)
          have hst := r6 _ hlt
          rw [t2, fN_nI (by omega)] at hst
          have hmev : mEv σ s ((ds.take k).count s) = 6 * r + (ds.take k).count s := by
            unfold mEv
            rw [r2, fN_nI (by omega)]
          repeat refine kX_one rfl ?_
          refine kX_ialdV (v := nI s) rfl rfl (by decide) k rfl (by omega) (by rw [← hsd]; exact hRn.2.1 k q2) ?_
          repeat refine kX_one rfl ?_
          refine kX_ialdV (v := nI r) rfl rfl (by decide) s rfl (by omega) (by rw [j3.1.1 255 (by decide)]; exact r2) ?_
          repeat refine kX_one rfl ?_
          refine kX_ialdV (v := nI ((ds.take k).count s)) rfl rfl (by decide) s rfl (by omega) (j4 s hs4) ?_
          iterate 1 (refine kX_one rfl ?_)
          refine kX_top (ix6 r _) ?_
          repeat refine kX_one rfl ?_
          refine kX_baldV (v := σ 249 (6 * r + (ds.take k).count s)) rfl rfl (by decide) _ rfl (by omega) (by rw [j3.1.1 249 (by decide)]) ?_
          /- behind the EVENT -/
          have back : ∀ (τ2 : kS) (b2 : Nat) (l2 : rwT), b2 ≤ b' + 24 → mBd σ τ2 n b2 l2 (trSn σ ds (trKn σ kl) (k + 1)) → (∀ s, s < 4 → τ2 276 s = nI ((ds.take k).count s)) → kX kT L xs (d + 7) 190 93 [(2, .int (nI s)), (1, .int (nI k)), (0, .ref 232)] [] τ2 (fun r σ' => r = none ∧ σ' 232 47 = 1 ∧ ∃ b' l, b' ≤ 776 ∧ mBd σ σ' n b' l (trRun σ kl ds)) := by
            intro τ2 b2 l2 g1 g2 g3
            repeat refine kX_one rfl ?_
            refine kX_ialdV (v := nI ((ds.take k).count s)) rfl rfl (by decide) s rfl (by omega) (g3 s hs4) ?_
            iterate 2 (refine kX_one rfl ?_)
            refine kX_top (nI_1 _) ?_
            refine kX_iastN rfl rfl (by decide) (s) (by first | rfl | decide) (by omega) ?_
            iterate 2 (refine kX_one rfl ?_)
            have := ih2 (k + 1, b2, l2, va_up τ2 276 (upd (τ2 276) s (nI ((ds.take k).count s + 1)))) ⟨by simp only; omega, by simp only; omega, ⟨mFr_trans g2.1 (mFr_sent τ2 n _), g2.2⟩, fun s' hs' => by
              simp only
              show upd (τ2 276) s (nI ((ds.take k).count s + 1)) s' = _
              by_cases e : s' = s
              · subst e
                rw [pk_us, hcnt]
              · rw [pk_un e, g3 s' hs', List.take_succ_eq_append_getElem q2, List.count_append, hsd]
                have : [s].count s' = 0 := by simp [Ne.symm e]
                rw [this, Nat.add_zero]⟩ (by simp only; omega)
            rw [← nI_1] at this
            exact kX_lv _ rfl rfl rfl this
          repeat refine kX_one rfl ?_
          refine kX_if (fun q3 => ?_) (fun q3 => ?_)
          · have q3 : σ 249 (6 * r + (ds.take k).count s) = 0 := qeq q3
            refine kX_lv [(2, .int (nI s)), (1, .int (nI k)), (0, .ref 232)] rfl rfl rfl ?_
            refine back τ b' l (by omega) ?_ j4
            have e : trSn σ ds (trKn σ kl) (k + 1) = trSn σ ds (trKn σ kl) k := by
              rw [trSn, hgd, hmev]
              exact cit_F (fun z => z q3)
            rw [e]
            exact j3
          · have q3 : σ 249 (6 * r + (ds.take k).count s) ≠ 0 := qeqF q3
            have e : trSn σ ds (trKn σ kl) (k + 1) = trA (trSn σ ds (trKn σ kl) k) (tin σ s t) (nI 1) (-6) := by
              rw [trSn, hgd, hmev, cit_T q3, t2, fN_nI (by omega)]
            repeat refine kX_one rfl ?_
            refine kX_ialdV (v := nI t) rfl rfl (by decide) _ rfl (by omega) (by rw [j3.1.1 248 (by decide)]; exact t2) ?_
            refine kX_cal (mr_standsFor L xs (d + 1) τ n b' s t j3.2.1 (by omega) hs4 t1 (mFr_St h j3.1 t1 hst)) rfl (Or.inr rfl) rfl rfl rfl (fun r1 ρ q1 => ?_)
            obtain ⟨u, b2, rfl, g1, g2, g3, g4, g5⟩ := q1
            obtain ⟨m1, m2⟩ := mRq_ex j3.2.1 g1 j3.2.2.1
            repeat refine kX_one rfl ?_
            refine kX_cal (mr_comes L xs (d + 5) ρ (mvG ρ n b2) l u (nI 1) (-6) m1 (by have := g1.1.2.2.1; unfold mv at g3; omega) ⟨g3, g5⟩) rfl (Or.inr rfl) rfl rfl rfl (fun r1 σ2 q1 => ?_)
            obtain ⟨rfl, c1, I, RR, H, M, rfl⟩ := q1
            have hB3 := mBd_comes j3 g1 g3 g5 c1
            rw [g4, mFr_tin h j3.1 t t1 hst, ← e] at hB3
            refine kX_lv [(2, .int (nI s)), (1, .int (nI k)), (0, .ref 232)] rfl rfl rfl ?_
            refine back _ b2 _ g2 hB3 (fun s' hs' => ?_)
            show ρ 276 s' = _
            have : ρ 276 = τ 276 := by
              obtain ⟨-, -, -, K, F, SS, Z, G, nx, hd, N, II, rfl⟩ := g1
              rfl
            rw [this]
            exact j4 s' hs'
    · have q := qgeF q i 4
      repeat refine kX_one rfl ?_
      refine kX_iastN rfl rfl (by decide) (i) (by first | rfl | decide) (by omega) ?_
      iterate 2 (refine kX_one rfl ?_)
      rw [kup_up]
      have := ih (i + 1, upd f i 0) ⟨by simp only; omega, fun u hu => by
        simp only at hu ⊢
        by_cases e : u = i
        · subst e
          exact pk_us
        · rw [pk_un e]
          exact i2 u (by omega)⟩ (by simp only; omega)
      rw [← nI_1] at this
      exact this
end
