section
-- ===== PART A: goes FIRST, ahead of the names: the tables' words, and 'selects' of the private methods out of them =====
/-- a private method of a class that the tables say can be made, by its rows of tables_1 -/
def lw_okq (q : MethodName × Nat) : Prop := (q.1.cls ≠ "java/lang/invoke/MethodHandle" ∧ q.1.cls ≠ "java/lang/invoke/VarHandle") ∧ Cond.instantiable q.1.cls q.2 ∈ tables_1 ∧ Cond.privateMethod q.1 ∈ tables_1 ∧ Cond.instanceMethod q.1 ∈ tables_1
theorem lw_p0 : lw_okq (⟨"SealProbe$Terms", "put", "(III)I"⟩, 12) := ⟨⟨by decide +kernel, by decide +kernel⟩, List.mem_of_getElem? (i := 25) (by decide +kernel), List.mem_of_getElem? (i := 550) (by decide +kernel), List.mem_of_getElem? (i := 551) (by decide +kernel)⟩
theorem lw_p1 : lw_okq (⟨"SealProbe", "compound", "(III)I"⟩, 4) := ⟨⟨by decide +kernel, by decide +kernel⟩, List.mem_of_getElem? (i := 17) (by decide +kernel), List.mem_of_getElem? (i := 572) (by decide +kernel), List.mem_of_getElem? (i := 573) (by decide +kernel)⟩
theorem lw_p2 : lw_okq (⟨"SealProbe$Bench", "listVariables", "(I)I"⟩, 14) := ⟨⟨by decide +kernel, by decide +kernel⟩, List.mem_of_getElem? (i := 116) (by decide +kernel), List.mem_of_getElem? (i := 653) (by decide +kernel), List.mem_of_getElem? (i := 654) (by decide +kernel)⟩
theorem lw_p3 : lw_okq (⟨"SealProbe$Bench", "bindIn", "(LSealProbe$Role;LSealProbe$Event;)V"⟩, 14) := ⟨⟨by decide +kernel, by decide +kernel⟩, List.mem_of_getElem? (i := 116) (by decide +kernel), List.mem_of_getElem? (i := 670) (by decide +kernel), List.mem_of_getElem? (i := 671) (by decide +kernel)⟩
theorem lw_p4 : lw_okq (⟨"SealProbe$Event", "markParts", "(LSealProbe$Terms;[I)V"⟩, 8) := ⟨⟨by decide +kernel, by decide +kernel⟩, List.mem_of_getElem? (i := 132) (by decide +kernel), List.mem_of_getElem? (i := 678) (by decide +kernel), List.mem_of_getElem? (i := 679) (by decide +kernel)⟩
theorem lw_p5 : lw_okq (⟨"SealProbe$Event", "levelOf", "(LSealProbe$Terms;[II)I"⟩, 8) := ⟨⟨by decide +kernel, by decide +kernel⟩, List.mem_of_getElem? (i := 132) (by decide +kernel), List.mem_of_getElem? (i := 691) (by decide +kernel), List.mem_of_getElem? (i := 692) (by decide +kernel)⟩
theorem lw_p6 : lw_okq (⟨"SealProbe$Run", "gather", "()V"⟩, 10) := ⟨⟨by decide +kernel, by decide +kernel⟩, List.mem_of_getElem? (i := 309) (by decide +kernel), List.mem_of_getElem? (i := 806) (by decide +kernel), List.mem_of_getElem? (i := 807) (by decide +kernel)⟩
theorem lw_p7 : lw_okq (⟨"SealProbe$Knowledge", "has", "(I)Z"⟩, 14) := ⟨⟨by decide +kernel, by decide +kernel⟩, List.mem_of_getElem? (i := 315) (by decide +kernel), List.mem_of_getElem? (i := 823) (by decide +kernel), List.mem_of_getElem? (i := 824) (by decide +kernel)⟩
theorem lw_p8 : lw_okq (⟨"SealProbe$Run", "eventOf", "(II)LSealProbe$Event;"⟩, 10) := ⟨⟨by decide +kernel, by decide +kernel⟩, List.mem_of_getElem? (i := 309) (by decide +kernel), List.mem_of_getElem? (i := 829) (by decide +kernel), List.mem_of_getElem? (i := 830) (by decide +kernel)⟩
theorem lw_p9 : lw_okq (⟨"SealProbe$Knowledge", "groundOf", "(I[III)I"⟩, 14) := ⟨⟨by decide +kernel, by decide +kernel⟩, List.mem_of_getElem? (i := 315) (by decide +kernel), List.mem_of_getElem? (i := 833) (by decide +kernel), List.mem_of_getElem? (i := 834) (by decide +kernel)⟩
theorem lw_p10 : lw_okq (⟨"SealProbe$Knowledge", "findOrPut", "(III)I"⟩, 14) := ⟨⟨by decide +kernel, by decide +kernel⟩, List.mem_of_getElem? (i := 315) (by decide +kernel), List.mem_of_getElem? (i := 838) (by decide +kernel), List.mem_of_getElem? (i := 839) (by decide +kernel)⟩
theorem lw_p11 : lw_okq (⟨"SealProbe$Knowledge", "takeApartAt", "(I)Z"⟩, 14) := ⟨⟨by decide +kernel, by decide +kernel⟩, List.mem_of_getElem? (i := 315) (by decide +kernel), List.mem_of_getElem? (i := 852) (by decide +kernel), List.mem_of_getElem? (i := 853) (by decide +kernel)⟩
theorem lw_p12 : lw_okq (⟨"SealProbe$Knowledge", "canMake", "(II)Z"⟩, 14) := ⟨⟨by decide +kernel, by decide +kernel⟩, List.mem_of_getElem? (i := 315) (by decide +kernel), List.mem_of_getElem? (i := 857) (by decide +kernel), List.mem_of_getElem? (i := 858) (by decide +kernel)⟩
theorem lw_p13 : lw_okq (⟨"SealProbe$Run", "matches", "(III)Z"⟩, 10) := ⟨⟨by decide +kernel, by decide +kernel⟩, List.mem_of_getElem? (i := 309) (by decide +kernel), List.mem_of_getElem? (i := 874) (by decide +kernel), List.mem_of_getElem? (i := 875) (by decide +kernel)⟩
theorem lw_p14 : lw_okq (⟨"SealProbe$Run", "mayStand", "(II)Z"⟩, 10) := ⟨⟨by decide +kernel, by decide +kernel⟩, List.mem_of_getElem? (i := 309) (by decide +kernel), List.mem_of_getElem? (i := 879) (by decide +kernel), List.mem_of_getElem? (i := 880) (by decide +kernel)⟩
theorem lw_p15 : lw_okq (⟨"SealProbe", "numbered", "(LSealProbe$Knowledge;I)I"⟩, 4) := ⟨⟨by decide +kernel, by decide +kernel⟩, List.mem_of_getElem? (i := 17) (by decide +kernel), List.mem_of_getElem? (i := 892) (by decide +kernel), List.mem_of_getElem? (i := 893) (by decide +kernel)⟩
def lw_privs_1 : List (MethodName × Nat) := [(⟨"SealProbe$Terms", "put", "(III)I"⟩, 12), (⟨"SealProbe", "compound", "(III)I"⟩, 4), (⟨"SealProbe$Bench", "listVariables", "(I)I"⟩, 14), (⟨"SealProbe$Bench", "bindIn", "(LSealProbe$Role;LSealProbe$Event;)V"⟩, 14), (⟨"SealProbe$Event", "markParts", "(LSealProbe$Terms;[I)V"⟩, 8), (⟨"SealProbe$Event", "levelOf", "(LSealProbe$Terms;[II)I"⟩, 8), (⟨"SealProbe$Run", "gather", "()V"⟩, 10), (⟨"SealProbe$Knowledge", "has", "(I)Z"⟩, 14), (⟨"SealProbe$Run", "eventOf", "(II)LSealProbe$Event;"⟩, 10), (⟨"SealProbe$Knowledge", "groundOf", "(I[III)I"⟩, 14), (⟨"SealProbe$Knowledge", "findOrPut", "(III)I"⟩, 14), (⟨"SealProbe$Knowledge", "takeApartAt", "(I)Z"⟩, 14), (⟨"SealProbe$Knowledge", "canMake", "(II)Z"⟩, 14), (⟨"SealProbe$Run", "matches", "(III)Z"⟩, 10), (⟨"SealProbe$Run", "mayStand", "(II)Z"⟩, 10), (⟨"SealProbe", "numbered", "(LSealProbe$Knowledge;I)I"⟩, 4)]
theorem lw_r1 : ∀ q ∈ lw_privs_1, lw_okq q := List.forall_mem_cons.mpr ⟨lw_p0, List.forall_mem_cons.mpr ⟨lw_p1, List.forall_mem_cons.mpr ⟨lw_p2, List.forall_mem_cons.mpr ⟨lw_p3, List.forall_mem_cons.mpr ⟨lw_p4, List.forall_mem_cons.mpr ⟨lw_p5, List.forall_mem_cons.mpr ⟨lw_p6, List.forall_mem_cons.mpr ⟨lw_p7, List.forall_mem_cons.mpr ⟨lw_p8, List.forall_mem_cons.mpr ⟨lw_p9, List.forall_mem_cons.mpr ⟨lw_p10, List.forall_mem_cons.mpr ⟨lw_p11, List.forall_mem_cons.mpr ⟨lw_p12, List.forall_mem_cons.mpr ⟨lw_p13, List.forall_mem_cons.mpr ⟨lw_p14, List.forall_mem_cons.mpr ⟨lw_p15, fun _ h => absurd h List.not_mem_nil⟩⟩⟩⟩⟩⟩⟩⟩⟩⟩⟩⟩⟩⟩⟩⟩
theorem lw_p16 : lw_okq (⟨"SealProbe$Knowledge", "want", "(I)V"⟩, 14) := ⟨⟨by decide +kernel, by decide +kernel⟩, List.mem_of_getElem? (i := 315) (by decide +kernel), List.mem_of_getElem? (i := 900) (by decide +kernel), List.mem_of_getElem? (i := 901) (by decide +kernel)⟩
theorem lw_p17 : lw_okq (⟨"SealProbe$Knowledge", "isUnnumbered", "(I)Z"⟩, 14) := ⟨⟨by decide +kernel, by decide +kernel⟩, List.mem_of_getElem? (i := 315) (by decide +kernel), List.mem_of_getElem? (i := 904) (by decide +kernel), List.mem_of_getElem? (i := 905) (by decide +kernel)⟩
theorem lw_p18 : lw_okq (⟨"SealProbe$Knowledge", "giveNumber", "(II)I"⟩, 14) := ⟨⟨by decide +kernel, by decide +kernel⟩, List.mem_of_getElem? (i := 315) (by decide +kernel), List.mem_of_getElem? (i := 908) (by decide +kernel), List.mem_of_getElem? (i := 909) (by decide +kernel)⟩
theorem lw_p19 : lw_okq (⟨"SealProbe$Bench", "leaks", "(LSealProbe$Claim;[IILSealProbe$Knowledge;)Z"⟩, 14) := ⟨⟨by decide +kernel, by decide +kernel⟩, List.mem_of_getElem? (i := 116) (by decide +kernel), List.mem_of_getElem? (i := 935) (by decide +kernel), List.mem_of_getElem? (i := 936) (by decide +kernel)⟩
theorem lw_p20 : lw_okq (⟨"SealProbe$Bench", "canPartner", "(LSealProbe$Claim;[IIII)Z"⟩, 14) := ⟨⟨by decide +kernel, by decide +kernel⟩, List.mem_of_getElem? (i := 116) (by decide +kernel), List.mem_of_getElem? (i := 941) (by decide +kernel), List.mem_of_getElem? (i := 942) (by decide +kernel)⟩
theorem lw_p21 : lw_okq (⟨"SealProbe$Bench", "isPartner", "(LSealProbe$Claim;[IIII)Z"⟩, 14) := ⟨⟨by decide +kernel, by decide +kernel⟩, List.mem_of_getElem? (i := 116) (by decide +kernel), List.mem_of_getElem? (i := 949) (by decide +kernel), List.mem_of_getElem? (i := 950) (by decide +kernel)⟩
theorem lw_p22 : lw_okq (⟨"SealProbe$Chooser", "addOption", "(II)V"⟩, 9) := ⟨⟨by decide +kernel, by decide +kernel⟩, List.mem_of_getElem? (i := 443) (by decide +kernel), List.mem_of_getElem? (i := 975) (by decide +kernel), List.mem_of_getElem? (i := 976) (by decide +kernel)⟩
theorem lw_p23 : lw_okq (⟨"SealProbe$Search", "reach", "(IILSealProbe$Knowledge;)V"⟩, 13) := ⟨⟨by decide +kernel, by decide +kernel⟩, List.mem_of_getElem? (i := 404) (by decide +kernel), List.mem_of_getElem? (i := 991) (by decide +kernel), List.mem_of_getElem? (i := 992) (by decide +kernel)⟩
theorem lw_p24 : lw_okq (⟨"SealProbe$Search", "tracePath", "(I)V"⟩, 13) := ⟨⟨by decide +kernel, by decide +kernel⟩, List.mem_of_getElem? (i := 404) (by decide +kernel), List.mem_of_getElem? (i := 1008) (by decide +kernel), List.mem_of_getElem? (i := 1009) (by decide +kernel)⟩
theorem lw_p25 : lw_okq (⟨"SealProbe$Search", "tryWays", "(IILSealProbe$Event;)V"⟩, 13) := ⟨⟨by decide +kernel, by decide +kernel⟩, List.mem_of_getElem? (i := 404) (by decide +kernel), List.mem_of_getElem? (i := 1021) (by decide +kernel), List.mem_of_getElem? (i := 1022) (by decide +kernel)⟩
theorem lw_p26 : lw_okq (⟨"SealProbe$Chooser", "choose", "(LSealProbe$Event;II)V"⟩, 9) := ⟨⟨by decide +kernel, by decide +kernel⟩, List.mem_of_getElem? (i := 443) (by decide +kernel), List.mem_of_getElem? (i := 1033) (by decide +kernel), List.mem_of_getElem? (i := 1034) (by decide +kernel)⟩
theorem lw_p27 : lw_okq (⟨"SealProbe$Chooser", "valueOf", "(I)I"⟩, 9) := ⟨⟨by decide +kernel, by decide +kernel⟩, List.mem_of_getElem? (i := 443) (by decide +kernel), List.mem_of_getElem? (i := 1045) (by decide +kernel), List.mem_of_getElem? (i := 1046) (by decide +kernel)⟩
theorem lw_p28 : lw_okq (⟨"SealProbe$Chooser", "canCompose", "(I)Z"⟩, 9) := ⟨⟨by decide +kernel, by decide +kernel⟩, List.mem_of_getElem? (i := 443) (by decide +kernel), List.mem_of_getElem? (i := 1051) (by decide +kernel), List.mem_of_getElem? (i := 1052) (by decide +kernel)⟩
theorem lw_p29 : lw_okq (⟨"SealProbe$States", "isSame", "([III)Z"⟩, 6) := ⟨⟨by decide +kernel, by decide +kernel⟩, List.mem_of_getElem? (i := 410) (by decide +kernel), List.mem_of_getElem? (i := 1060) (by decide +kernel), List.mem_of_getElem? (i := 1061) (by decide +kernel)⟩
theorem lw_p30 : lw_okq (⟨"SealProbeModel", "emptyTable", "()V"⟩, 79) := ⟨⟨by decide +kernel, by decide +kernel⟩, List.mem_of_getElem? (i := 1114) (by decide +kernel), List.mem_of_getElem? (i := 1120) (by decide +kernel), List.mem_of_getElem? (i := 1121) (by decide +kernel)⟩
theorem lw_p31 : lw_okq (⟨"SealProbeModel", "last", "(III)I"⟩, 79) := ⟨⟨by decide +kernel, by decide +kernel⟩, List.mem_of_getElem? (i := 1114) (by decide +kernel), List.mem_of_getElem? (i := 1366) (by decide +kernel), List.mem_of_getElem? (i := 1367) (by decide +kernel)⟩
def lw_privs_2 : List (MethodName × Nat) := [(⟨"SealProbe$Knowledge", "want", "(I)V"⟩, 14), (⟨"SealProbe$Knowledge", "isUnnumbered", "(I)Z"⟩, 14), (⟨"SealProbe$Knowledge", "giveNumber", "(II)I"⟩, 14), (⟨"SealProbe$Bench", "leaks", "(LSealProbe$Claim;[IILSealProbe$Knowledge;)Z"⟩, 14), (⟨"SealProbe$Bench", "canPartner", "(LSealProbe$Claim;[IIII)Z"⟩, 14), (⟨"SealProbe$Bench", "isPartner", "(LSealProbe$Claim;[IIII)Z"⟩, 14), (⟨"SealProbe$Chooser", "addOption", "(II)V"⟩, 9), (⟨"SealProbe$Search", "reach", "(IILSealProbe$Knowledge;)V"⟩, 13), (⟨"SealProbe$Search", "tracePath", "(I)V"⟩, 13), (⟨"SealProbe$Search", "tryWays", "(IILSealProbe$Event;)V"⟩, 13), (⟨"SealProbe$Chooser", "choose", "(LSealProbe$Event;II)V"⟩, 9), (⟨"SealProbe$Chooser", "valueOf", "(I)I"⟩, 9), (⟨"SealProbe$Chooser", "canCompose", "(I)Z"⟩, 9), (⟨"SealProbe$States", "isSame", "([III)Z"⟩, 6), (⟨"SealProbeModel", "emptyTable", "()V"⟩, 79), (⟨"SealProbeModel", "last", "(III)I"⟩, 79)]
theorem lw_r2 : ∀ q ∈ lw_privs_2, lw_okq q := List.forall_mem_cons.mpr ⟨lw_p16, List.forall_mem_cons.mpr ⟨lw_p17, List.forall_mem_cons.mpr ⟨lw_p18, List.forall_mem_cons.mpr ⟨lw_p19, List.forall_mem_cons.mpr ⟨lw_p20, List.forall_mem_cons.mpr ⟨lw_p21, List.forall_mem_cons.mpr ⟨lw_p22, List.forall_mem_cons.mpr ⟨lw_p23, List.forall_mem_cons.mpr ⟨lw_p24, List.forall_mem_cons.mpr ⟨lw_p25, List.forall_mem_cons.mpr ⟨lw_p26, List.forall_mem_cons.mpr ⟨lw_p27, List.forall_mem_cons.mpr ⟨lw_p28, List.forall_mem_cons.mpr ⟨lw_p29, List.forall_mem_cons.mpr ⟨lw_p30, List.forall_mem_cons.mpr ⟨lw_p31, fun _ h => absurd h List.not_mem_nil⟩⟩⟩⟩⟩⟩⟩⟩⟩⟩⟩⟩⟩⟩⟩⟩
theorem lw_p32 : lw_okq (⟨"SealProbeModel", "release", "(I)V"⟩, 79) := ⟨⟨by decide +kernel, by decide +kernel⟩, List.mem_of_getElem? (i := 1114) (by decide +kernel), List.mem_of_getElem? (i := 1370) (by decide +kernel), List.mem_of_getElem? (i := 1371) (by decide +kernel)⟩
theorem lw_p33 : lw_okq (⟨"SealProbeModel", "lay", "(IIII)V"⟩, 79) := ⟨⟨by decide +kernel, by decide +kernel⟩, List.mem_of_getElem? (i := 1114) (by decide +kernel), List.mem_of_getElem? (i := 1377) (by decide +kernel), List.mem_of_getElem? (i := 1378) (by decide +kernel)⟩
theorem lw_p34 : lw_okq (⟨"SealProbeModel", "sizeOf", "(III)I"⟩, 79) := ⟨⟨by decide +kernel, by decide +kernel⟩, List.mem_of_getElem? (i := 1114) (by decide +kernel), List.mem_of_getElem? (i := 1381) (by decide +kernel), List.mem_of_getElem? (i := 1382) (by decide +kernel)⟩
theorem lw_p35 : lw_okq (⟨"SealProbeModel", "isTerm", "(I)Z"⟩, 79) := ⟨⟨by decide +kernel, by decide +kernel⟩, List.mem_of_getElem? (i := 1114) (by decide +kernel), List.mem_of_getElem? (i := 1397) (by decide +kernel), List.mem_of_getElem? (i := 1398) (by decide +kernel)⟩
theorem lw_p36 : lw_okq (⟨"SealProbeModel", "oldOrNew", "(III)I"⟩, 79) := ⟨⟨by decide +kernel, by decide +kernel⟩, List.mem_of_getElem? (i := 1114) (by decide +kernel), List.mem_of_getElem? (i := 1401) (by decide +kernel), List.mem_of_getElem? (i := 1402) (by decide +kernel)⟩
theorem lw_p37 : lw_okq (⟨"SealProbeModel", "find", "(III)I"⟩, 79) := ⟨⟨by decide +kernel, by decide +kernel⟩, List.mem_of_getElem? (i := 1114) (by decide +kernel), List.mem_of_getElem? (i := 1405) (by decide +kernel), List.mem_of_getElem? (i := 1406) (by decide +kernel)⟩
theorem lw_p38 : lw_okq (⟨"SealProbeModel", "isRole", "(I)Z"⟩, 79) := ⟨⟨by decide +kernel, by decide +kernel⟩, List.mem_of_getElem? (i := 1114) (by decide +kernel), List.mem_of_getElem? (i := 1427) (by decide +kernel), List.mem_of_getElem? (i := 1428) (by decide +kernel)⟩
theorem lw_p39 : lw_okq (⟨"SealProbeModel", "findVariables", "(I)V"⟩, 79) := ⟨⟨by decide +kernel, by decide +kernel⟩, List.mem_of_getElem? (i := 1114) (by decide +kernel), List.mem_of_getElem? (i := 1436) (by decide +kernel), List.mem_of_getElem? (i := 1437) (by decide +kernel)⟩
theorem lw_p40 : lw_okq (⟨"SealProbeModel", "isReceived", "(II)Z"⟩, 79) := ⟨⟨by decide +kernel, by decide +kernel⟩, List.mem_of_getElem? (i := 1114) (by decide +kernel), List.mem_of_getElem? (i := 1440) (by decide +kernel), List.mem_of_getElem? (i := 1441) (by decide +kernel)⟩
theorem lw_p41 : lw_okq (⟨"SealProbeModel", "forget", "()V"⟩, 79) := ⟨⟨by decide +kernel, by decide +kernel⟩, List.mem_of_getElem? (i := 1114) (by decide +kernel), List.mem_of_getElem? (i := 1448) (by decide +kernel), List.mem_of_getElem? (i := 1449) (by decide +kernel)⟩
theorem lw_p42 : lw_okq (⟨"SealProbeModel", "howManyAs", "(II)I"⟩, 79) := ⟨⟨by decide +kernel, by decide +kernel⟩, List.mem_of_getElem? (i := 1114) (by decide +kernel), List.mem_of_getElem? (i := 1456) (by decide +kernel), List.mem_of_getElem? (i := 1457) (by decide +kernel)⟩
theorem lw_p43 : lw_okq (⟨"SealProbeModel", "claim", "(ZIII)I"⟩, 79) := ⟨⟨by decide +kernel, by decide +kernel⟩, List.mem_of_getElem? (i := 1114) (by decide +kernel), List.mem_of_getElem? (i := 1464) (by decide +kernel), List.mem_of_getElem? (i := 1465) (by decide +kernel)⟩
theorem lw_p44 : lw_okq (⟨"SealProbeModel", "begins", "()V"⟩, 79) := ⟨⟨by decide +kernel, by decide +kernel⟩, List.mem_of_getElem? (i := 1114) (by decide +kernel), List.mem_of_getElem? (i := 1480) (by decide +kernel), List.mem_of_getElem? (i := 1481) (by decide +kernel)⟩
theorem lw_p45 : lw_okq (⟨"SealProbeModel", "isSession", "(I)Z"⟩, 79) := ⟨⟨by decide +kernel, by decide +kernel⟩, List.mem_of_getElem? (i := 1114) (by decide +kernel), List.mem_of_getElem? (i := 1492) (by decide +kernel), List.mem_of_getElem? (i := 1493) (by decide +kernel)⟩
theorem lw_p46 : lw_okq (⟨"SealProbeModel", "nextEvent", "(I)I"⟩, 79) := ⟨⟨by decide +kernel, by decide +kernel⟩, List.mem_of_getElem? (i := 1114) (by decide +kernel), List.mem_of_getElem? (i := 1496) (by decide +kernel), List.mem_of_getElem? (i := 1497) (by decide +kernel)⟩
theorem lw_p47 : lw_okq (⟨"SealProbeModel", "does", "(II)V"⟩, 79) := ⟨⟨by decide +kernel, by decide +kernel⟩, List.mem_of_getElem? (i := 1114) (by decide +kernel), List.mem_of_getElem? (i := 1500) (by decide +kernel), List.mem_of_getElem? (i := 1501) (by decide +kernel)⟩
def lw_privs_3 : List (MethodName × Nat) := [(⟨"SealProbeModel", "release", "(I)V"⟩, 79), (⟨"SealProbeModel", "lay", "(IIII)V"⟩, 79), (⟨"SealProbeModel", "sizeOf", "(III)I"⟩, 79), (⟨"SealProbeModel", "isTerm", "(I)Z"⟩, 79), (⟨"SealProbeModel", "oldOrNew", "(III)I"⟩, 79), (⟨"SealProbeModel", "find", "(III)I"⟩, 79), (⟨"SealProbeModel", "isRole", "(I)Z"⟩, 79), (⟨"SealProbeModel", "findVariables", "(I)V"⟩, 79), (⟨"SealProbeModel", "isReceived", "(II)Z"⟩, 79), (⟨"SealProbeModel", "forget", "()V"⟩, 79), (⟨"SealProbeModel", "howManyAs", "(II)I"⟩, 79), (⟨"SealProbeModel", "claim", "(ZIII)I"⟩, 79), (⟨"SealProbeModel", "begins", "()V"⟩, 79), (⟨"SealProbeModel", "isSession", "(I)Z"⟩, 79), (⟨"SealProbeModel", "nextEvent", "(I)I"⟩, 79), (⟨"SealProbeModel", "does", "(II)V"⟩, 79)]
theorem lw_r3 : ∀ q ∈ lw_privs_3, lw_okq q := List.forall_mem_cons.mpr ⟨lw_p32, List.forall_mem_cons.mpr ⟨lw_p33, List.forall_mem_cons.mpr ⟨lw_p34, List.forall_mem_cons.mpr ⟨lw_p35, List.forall_mem_cons.mpr ⟨lw_p36, List.forall_mem_cons.mpr ⟨lw_p37, List.forall_mem_cons.mpr ⟨lw_p38, List.forall_mem_cons.mpr ⟨lw_p39, List.forall_mem_cons.mpr ⟨lw_p40, List.forall_mem_cons.mpr ⟨lw_p41, List.forall_mem_cons.mpr ⟨lw_p42, List.forall_mem_cons.mpr ⟨lw_p43, List.forall_mem_cons.mpr ⟨lw_p44, List.forall_mem_cons.mpr ⟨lw_p45, List.forall_mem_cons.mpr ⟨lw_p46, List.forall_mem_cons.mpr ⟨lw_p47, fun _ h => absurd h List.not_mem_nil⟩⟩⟩⟩⟩⟩⟩⟩⟩⟩⟩⟩⟩⟩⟩⟩
theorem lw_p48 : lw_okq (⟨"SealProbeModel", "runRow", "()V"⟩, 79) := ⟨⟨by decide +kernel, by decide +kernel⟩, List.mem_of_getElem? (i := 1114) (by decide +kernel), List.mem_of_getElem? (i := 1504) (by decide +kernel), List.mem_of_getElem? (i := 1505) (by decide +kernel)⟩
theorem lw_p49 : lw_okq (⟨"SealProbeModel", "beginRow", "()V"⟩, 79) := ⟨⟨by decide +kernel, by decide +kernel⟩, List.mem_of_getElem? (i := 1114) (by decide +kernel), List.mem_of_getElem? (i := 1508) (by decide +kernel), List.mem_of_getElem? (i := 1509) (by decide +kernel)⟩
theorem lw_p50 : lw_okq (⟨"SealProbeModel", "comes", "(III)V"⟩, 79) := ⟨⟨by decide +kernel, by decide +kernel⟩, List.mem_of_getElem? (i := 1114) (by decide +kernel), List.mem_of_getElem? (i := 1512) (by decide +kernel), List.mem_of_getElem? (i := 1513) (by decide +kernel)⟩
theorem lw_p51 : lw_okq (⟨"SealProbeModel", "standsFor", "(II)I"⟩, 79) := ⟨⟨by decide +kernel, by decide +kernel⟩, List.mem_of_getElem? (i := 1114) (by decide +kernel), List.mem_of_getElem? (i := 1516) (by decide +kernel), List.mem_of_getElem? (i := 1517) (by decide +kernel)⟩
theorem lw_p52 : lw_okq (⟨"SealProbeModel", "one", "(II)I"⟩, 79) := ⟨⟨by decide +kernel, by decide +kernel⟩, List.mem_of_getElem? (i := 1114) (by decide +kernel), List.mem_of_getElem? (i := 1520) (by decide +kernel), List.mem_of_getElem? (i := 1521) (by decide +kernel)⟩
theorem lw_p53 : lw_okq (⟨"SealProbeModel", "made", "(III)I"⟩, 79) := ⟨⟨by decide +kernel, by decide +kernel⟩, List.mem_of_getElem? (i := 1114) (by decide +kernel), List.mem_of_getElem? (i := 1524) (by decide +kernel), List.mem_of_getElem? (i := 1525) (by decide +kernel)⟩
theorem lw_p54 : lw_okq (⟨"SealProbeModel", "endRow", "()V"⟩, 79) := ⟨⟨by decide +kernel, by decide +kernel⟩, List.mem_of_getElem? (i := 1114) (by decide +kernel), List.mem_of_getElem? (i := 1528) (by decide +kernel), List.mem_of_getElem? (i := 1529) (by decide +kernel)⟩
theorem lw_p55 : lw_okq (⟨"SealProbeModel", "takeApart", "(I)V"⟩, 79) := ⟨⟨by decide +kernel, by decide +kernel⟩, List.mem_of_getElem? (i := 1114) (by decide +kernel), List.mem_of_getElem? (i := 1532) (by decide +kernel), List.mem_of_getElem? (i := 1533) (by decide +kernel)⟩
theorem lw_p56 : lw_okq (⟨"SealProbeModel", "canMake", "(I)Z"⟩, 79) := ⟨⟨by decide +kernel, by decide +kernel⟩, List.mem_of_getElem? (i := 1114) (by decide +kernel), List.mem_of_getElem? (i := 1536) (by decide +kernel), List.mem_of_getElem? (i := 1537) (by decide +kernel)⟩
theorem lw_p57 : lw_okq (⟨"SealProbeModel", "isMade", "(I)Z"⟩, 79) := ⟨⟨by decide +kernel, by decide +kernel⟩, List.mem_of_getElem? (i := 1114) (by decide +kernel), List.mem_of_getElem? (i := 1540) (by decide +kernel), List.mem_of_getElem? (i := 1541) (by decide +kernel)⟩
theorem lw_p58 : lw_okq (⟨"SealProbeModel", "hasPrivate", "(I)Z"⟩, 79) := ⟨⟨by decide +kernel, by decide +kernel⟩, List.mem_of_getElem? (i := 1114) (by decide +kernel), List.mem_of_getElem? (i := 1544) (by decide +kernel), List.mem_of_getElem? (i := 1545) (by decide +kernel)⟩
theorem lw_p59 : lw_okq (⟨"SealProbeModel", "bindsTo", "(III)I"⟩, 79) := ⟨⟨by decide +kernel, by decide +kernel⟩, List.mem_of_getElem? (i := 1114) (by decide +kernel), List.mem_of_getElem? (i := 1552) (by decide +kernel), List.mem_of_getElem? (i := 1553) (by decide +kernel)⟩
theorem lw_p60 : lw_okq (⟨"SealProbeModel", "lasting", "(I)I"⟩, 79) := ⟨⟨by decide +kernel, by decide +kernel⟩, List.mem_of_getElem? (i := 1114) (by decide +kernel), List.mem_of_getElem? (i := 1565) (by decide +kernel), List.mem_of_getElem? (i := 1566) (by decide +kernel)⟩
theorem lw_p61 : lw_okq (⟨"SealProbeModel", "findOrder", "(I)V"⟩, 79) := ⟨⟨by decide +kernel, by decide +kernel⟩, List.mem_of_getElem? (i := 1114) (by decide +kernel), List.mem_of_getElem? (i := 1569) (by decide +kernel), List.mem_of_getElem? (i := 1570) (by decide +kernel)⟩
theorem lw_p62 : lw_okq (⟨"SealProbeModel", "isOpen", "(I)Z"⟩, 79) := ⟨⟨by decide +kernel, by decide +kernel⟩, List.mem_of_getElem? (i := 1114) (by decide +kernel), List.mem_of_getElem? (i := 1573) (by decide +kernel), List.mem_of_getElem? (i := 1574) (by decide +kernel)⟩
theorem lw_p63 : lw_okq (⟨"SealProbeModel", "inOrder", "(I)I"⟩, 79) := ⟨⟨by decide +kernel, by decide +kernel⟩, List.mem_of_getElem? (i := 1114) (by decide +kernel), List.mem_of_getElem? (i := 1577) (by decide +kernel), List.mem_of_getElem? (i := 1578) (by decide +kernel)⟩
def lw_privs_4 : List (MethodName × Nat) := [(⟨"SealProbeModel", "runRow", "()V"⟩, 79), (⟨"SealProbeModel", "beginRow", "()V"⟩, 79), (⟨"SealProbeModel", "comes", "(III)V"⟩, 79), (⟨"SealProbeModel", "standsFor", "(II)I"⟩, 79), (⟨"SealProbeModel", "one", "(II)I"⟩, 79), (⟨"SealProbeModel", "made", "(III)I"⟩, 79), (⟨"SealProbeModel", "endRow", "()V"⟩, 79), (⟨"SealProbeModel", "takeApart", "(I)V"⟩, 79), (⟨"SealProbeModel", "canMake", "(I)Z"⟩, 79), (⟨"SealProbeModel", "isMade", "(I)Z"⟩, 79), (⟨"SealProbeModel", "hasPrivate", "(I)Z"⟩, 79), (⟨"SealProbeModel", "bindsTo", "(III)I"⟩, 79), (⟨"SealProbeModel", "lasting", "(I)I"⟩, 79), (⟨"SealProbeModel", "findOrder", "(I)V"⟩, 79), (⟨"SealProbeModel", "isOpen", "(I)Z"⟩, 79), (⟨"SealProbeModel", "inOrder", "(I)I"⟩, 79)]
theorem lw_r4 : ∀ q ∈ lw_privs_4, lw_okq q := List.forall_mem_cons.mpr ⟨lw_p48, List.forall_mem_cons.mpr ⟨lw_p49, List.forall_mem_cons.mpr ⟨lw_p50, List.forall_mem_cons.mpr ⟨lw_p51, List.forall_mem_cons.mpr ⟨lw_p52, List.forall_mem_cons.mpr ⟨lw_p53, List.forall_mem_cons.mpr ⟨lw_p54, List.forall_mem_cons.mpr ⟨lw_p55, List.forall_mem_cons.mpr ⟨lw_p56, List.forall_mem_cons.mpr ⟨lw_p57, List.forall_mem_cons.mpr ⟨lw_p58, List.forall_mem_cons.mpr ⟨lw_p59, List.forall_mem_cons.mpr ⟨lw_p60, List.forall_mem_cons.mpr ⟨lw_p61, List.forall_mem_cons.mpr ⟨lw_p62, List.forall_mem_cons.mpr ⟨lw_p63, fun _ h => absurd h List.not_mem_nil⟩⟩⟩⟩⟩⟩⟩⟩⟩⟩⟩⟩⟩⟩⟩⟩
theorem lw_p64 : lw_okq (⟨"SealProbeModel", "lastOf", "(II)I"⟩, 79) := ⟨⟨by decide +kernel, by decide +kernel⟩, List.mem_of_getElem? (i := 1114) (by decide +kernel), List.mem_of_getElem? (i := 1581) (by decide +kernel), List.mem_of_getElem? (i := 1582) (by decide +kernel)⟩
theorem lw_p65 : lw_okq (⟨"SealProbeModel", "isBroken", "(I)Z"⟩, 79) := ⟨⟨by decide +kernel, by decide +kernel⟩, List.mem_of_getElem? (i := 1114) (by decide +kernel), List.mem_of_getElem? (i := 1597) (by decide +kernel), List.mem_of_getElem? (i := 1598) (by decide +kernel)⟩
theorem lw_p66 : lw_okq (⟨"SealProbeModel", "isLost", "(I)Z"⟩, 79) := ⟨⟨by decide +kernel, by decide +kernel⟩, List.mem_of_getElem? (i := 1114) (by decide +kernel), List.mem_of_getElem? (i := 1601) (by decide +kernel), List.mem_of_getElem? (i := 1602) (by decide +kernel)⟩
theorem lw_p67 : lw_okq (⟨"SealProbeModel", "isHonest", "(I)Z"⟩, 79) := ⟨⟨by decide +kernel, by decide +kernel⟩, List.mem_of_getElem? (i := 1114) (by decide +kernel), List.mem_of_getElem? (i := 1605) (by decide +kernel), List.mem_of_getElem? (i := 1606) (by decide +kernel)⟩
theorem lw_p68 : lw_okq (⟨"SealProbeModel", "isApart", "(I)Z"⟩, 79) := ⟨⟨by decide +kernel, by decide +kernel⟩, List.mem_of_getElem? (i := 1114) (by decide +kernel), List.mem_of_getElem? (i := 1609) (by decide +kernel), List.mem_of_getElem? (i := 1610) (by decide +kernel)⟩
theorem lw_p69 : lw_okq (⟨"SealProbeModel", "fits", "(III)Z"⟩, 79) := ⟨⟨by decide +kernel, by decide +kernel⟩, List.mem_of_getElem? (i := 1114) (by decide +kernel), List.mem_of_getElem? (i := 1613) (by decide +kernel), List.mem_of_getElem? (i := 1614) (by decide +kernel)⟩
theorem lw_p70 : lw_okq (⟨"SealProbeModel", "comesToBe", "(II)I"⟩, 79) := ⟨⟨by decide +kernel, by decide +kernel⟩, List.mem_of_getElem? (i := 1114) (by decide +kernel), List.mem_of_getElem? (i := 1625) (by decide +kernel), List.mem_of_getElem? (i := 1626) (by decide +kernel)⟩
theorem lw_p71 : lw_okq (⟨"SealProbeModel", "isThere", "()Z"⟩, 79) := ⟨⟨by decide +kernel, by decide +kernel⟩, List.mem_of_getElem? (i := 1114) (by decide +kernel), List.mem_of_getElem? (i := 1629) (by decide +kernel), List.mem_of_getElem? (i := 1630) (by decide +kernel)⟩
theorem lw_p72 : lw_okq (⟨"SealProbeModel", "stateRow", "()V"⟩, 79) := ⟨⟨by decide +kernel, by decide +kernel⟩, List.mem_of_getElem? (i := 1114) (by decide +kernel), List.mem_of_getElem? (i := 1633) (by decide +kernel), List.mem_of_getElem? (i := 1634) (by decide +kernel)⟩
theorem lw_p73 : lw_okq (⟨"SealProbeModel", "goesOn", "(I)I"⟩, 79) := ⟨⟨by decide +kernel, by decide +kernel⟩, List.mem_of_getElem? (i := 1114) (by decide +kernel), List.mem_of_getElem? (i := 1637) (by decide +kernel), List.mem_of_getElem? (i := 1638) (by decide +kernel)⟩
theorem lw_p74 : lw_okq (⟨"SealProbeModel", "takeState", "(I)V"⟩, 79) := ⟨⟨by decide +kernel, by decide +kernel⟩, List.mem_of_getElem? (i := 1114) (by decide +kernel), List.mem_of_getElem? (i := 1641) (by decide +kernel), List.mem_of_getElem? (i := 1642) (by decide +kernel)⟩
theorem lw_p75 : lw_okq (⟨"SealProbeModel", "receives", "(III)I"⟩, 79) := ⟨⟨by decide +kernel, by decide +kernel⟩, List.mem_of_getElem? (i := 1114) (by decide +kernel), List.mem_of_getElem? (i := 1645) (by decide +kernel), List.mem_of_getElem? (i := 1646) (by decide +kernel)⟩
theorem lw_p76 : lw_okq (⟨"SealProbeModel", "howMany", "(I)I"⟩, 79) := ⟨⟨by decide +kernel, by decide +kernel⟩, List.mem_of_getElem? (i := 1114) (by decide +kernel), List.mem_of_getElem? (i := 1649) (by decide +kernel), List.mem_of_getElem? (i := 1650) (by decide +kernel)⟩
theorem lw_p77 : lw_okq (⟨"SealProbeModel", "isOfSort", "(II)Z"⟩, 79) := ⟨⟨by decide +kernel, by decide +kernel⟩, List.mem_of_getElem? (i := 1114) (by decide +kernel), List.mem_of_getElem? (i := 1653) (by decide +kernel), List.mem_of_getElem? (i := 1654) (by decide +kernel)⟩
theorem lw_p78 : lw_okq (⟨"SealProbeModel", "nextOf", "(II)I"⟩, 79) := ⟨⟨by decide +kernel, by decide +kernel⟩, List.mem_of_getElem? (i := 1114) (by decide +kernel), List.mem_of_getElem? (i := 1659) (by decide +kernel), List.mem_of_getElem? (i := 1660) (by decide +kernel)⟩
theorem lw_p79 : lw_okq (⟨"SealProbeModel", "noteAttack", "()V"⟩, 79) := ⟨⟨by decide +kernel, by decide +kernel⟩, List.mem_of_getElem? (i := 1114) (by decide +kernel), List.mem_of_getElem? (i := 1663) (by decide +kernel), List.mem_of_getElem? (i := 1664) (by decide +kernel)⟩
def lw_privs_5 : List (MethodName × Nat) := [(⟨"SealProbeModel", "lastOf", "(II)I"⟩, 79), (⟨"SealProbeModel", "isBroken", "(I)Z"⟩, 79), (⟨"SealProbeModel", "isLost", "(I)Z"⟩, 79), (⟨"SealProbeModel", "isHonest", "(I)Z"⟩, 79), (⟨"SealProbeModel", "isApart", "(I)Z"⟩, 79), (⟨"SealProbeModel", "fits", "(III)Z"⟩, 79), (⟨"SealProbeModel", "comesToBe", "(II)I"⟩, 79), (⟨"SealProbeModel", "isThere", "()Z"⟩, 79), (⟨"SealProbeModel", "stateRow", "()V"⟩, 79), (⟨"SealProbeModel", "goesOn", "(I)I"⟩, 79), (⟨"SealProbeModel", "takeState", "(I)V"⟩, 79), (⟨"SealProbeModel", "receives", "(III)I"⟩, 79), (⟨"SealProbeModel", "howMany", "(I)I"⟩, 79), (⟨"SealProbeModel", "isOfSort", "(II)Z"⟩, 79), (⟨"SealProbeModel", "nextOf", "(II)I"⟩, 79), (⟨"SealProbeModel", "noteAttack", "()V"⟩, 79)]
theorem lw_r5 : ∀ q ∈ lw_privs_5, lw_okq q := List.forall_mem_cons.mpr ⟨lw_p64, List.forall_mem_cons.mpr ⟨lw_p65, List.forall_mem_cons.mpr ⟨lw_p66, List.forall_mem_cons.mpr ⟨lw_p67, List.forall_mem_cons.mpr ⟨lw_p68, List.forall_mem_cons.mpr ⟨lw_p69, List.forall_mem_cons.mpr ⟨lw_p70, List.forall_mem_cons.mpr ⟨lw_p71, List.forall_mem_cons.mpr ⟨lw_p72, List.forall_mem_cons.mpr ⟨lw_p73, List.forall_mem_cons.mpr ⟨lw_p74, List.forall_mem_cons.mpr ⟨lw_p75, List.forall_mem_cons.mpr ⟨lw_p76, List.forall_mem_cons.mpr ⟨lw_p77, List.forall_mem_cons.mpr ⟨lw_p78, List.forall_mem_cons.mpr ⟨lw_p79, fun _ h => absurd h List.not_mem_nil⟩⟩⟩⟩⟩⟩⟩⟩⟩⟩⟩⟩⟩⟩⟩⟩
def lw_privs : List (MethodName × Nat) := lw_privs_1 ++ (lw_privs_2 ++ (lw_privs_3 ++ (lw_privs_4 ++ (lw_privs_5))))
def lw_tbl : List Cond := k2_sels lw_privs ++ tables_1
theorem lw_privs_ok : ∀ q ∈ lw_privs, lw_okq q := by
  show ∀ q ∈ lw_privs_1 ++ (lw_privs_2 ++ (lw_privs_3 ++ (lw_privs_4 ++ (lw_privs_5)))), lw_okq q
  exact List.forall_mem_append.mpr ⟨lw_r1, List.forall_mem_append.mpr ⟨lw_r2, List.forall_mem_append.mpr ⟨lw_r3, List.forall_mem_append.mpr ⟨lw_r4, lw_r5⟩⟩⟩⟩
end
section
def RX0 : String := "SealProbe$Bench"
def TX0 : u_T := fun k => match k with
  | 0 => ("SealProbe$Bench", "terms", "LSealProbe$Terms;", true)
  | 1 => ("SealProbe$Bench", "roles", "[LSealProbe$Role;", true)
  | 2 => ("SealProbe$Bench", "roleCount", "I", false)
  | 3 => ("SealProbe$Bench", "sessionRole", "[I", true)
  | 4 => ("SealProbe$Bench", "sessionHonest", "[Z", true)
  | 5 => ("SealProbe$Bench", "opening", "[I", true)
  | 6 => ("SealProbe$Bench", "sessionCount", "I", false)
  | 7 => ("SealProbe$Bench", "claims", "[LSealProbe$Claim;", true)
  | 8 => ("SealProbe$Bench", "claimCount", "I", false)
  | 9 => ("SealProbe$Bench", "known", "[I", true)
  | 10 => ("SealProbe$Bench", "knownCount", "I", false)
  | 11 => ("SealProbe$Bench", "stack", "[I", true)
  | 12 => ("SealProbe$Bench", "variables", "[I", true)
  | _ => ("SealProbe$Bench", "level", "[I", true)
def tyX0 : Nat → FieldType := fun k => match k with
  | 0 => .object "SealProbe$Terms"
  | 1 => .array (.object "SealProbe$Role")
  | 2 => .int
  | 3 => .array .int
  | 4 => .array .boolean
  | 5 => .array .int
  | 6 => .int
  | 7 => .array (.object "SealProbe$Claim")
  | 8 => .int
  | 9 => .array .int
  | 10 => .int
  | 11 => .array .int
  | 12 => .array .int
  | _ => .array .int
abbrev wsX00 : List Cond := u_ws RX0 TX0 14
theorem nmX0 : ∀ a, a < 14 → ∀ b, b < 14 → a ≠ b → (TX0 a).2.1 ≠ (TX0 b).2.1 := by decide +kernel
theorem tyX0_ok : ∀ k, k < 14 → parseFieldDescriptor (TX0 k).2.2.1 = some (tyX0 k) := by decide +kernel
abbrev cX0_init : ByteArray := prog_2_method_1_code
def yX0_init : MethodName := ⟨RX0, "<init>", "(LSealProbe$Terms;)V"⟩
abbrev cX0_empty : ByteArray := prog_2_method_2_code
def yX0_empty : MethodName := ⟨RX0, "empty", "()V"⟩
abbrev cX0_hasRole : ByteArray := prog_2_method_3_code
def yX0_hasRole : MethodName := ⟨RX0, "hasRole", "(I)Z"⟩
abbrev cX0_hasSession : ByteArray := prog_2_method_4_code
def yX0_hasSession : MethodName := ⟨RX0, "hasSession", "(I)Z"⟩
abbrev cX0_hasClaim : ByteArray := prog_2_method_5_code
def yX0_hasClaim : MethodName := ⟨RX0, "hasClaim", "(I)Z"⟩
abbrev cX0_hasVariable : ByteArray := prog_2_method_6_code
def yX0_hasVariable : MethodName := ⟨RX0, "hasVariable", "(II)Z"⟩
abbrev cX0_newRole : ByteArray := prog_2_method_7_code
def yX0_newRole : MethodName := ⟨RX0, "newRole", "()I"⟩
abbrev cX0_mayBeEvent : ByteArray := prog_2_method_8_code
def yX0_mayBeEvent : MethodName := ⟨RX0, "mayBeEvent", "(IZI)Z"⟩
abbrev cX0_newEvent : ByteArray := prog_2_method_9_code
def yX0_newEvent : MethodName := ⟨RX0, "newEvent", "(LSealProbe$Role;ZI)I"⟩
abbrev cX0_bindIn : ByteArray := prog_2_method_10_code
def yX0_bindIn : MethodName := ⟨RX0, "bindIn", "(LSealProbe$Role;LSealProbe$Event;)V"⟩
abbrev cX0_listVariables : ByteArray := prog_2_method_11_code
def yX0_listVariables : MethodName := ⟨RX0, "listVariables", "(I)I"⟩
abbrev cX0_isKnown : ByteArray := prog_2_method_12_code
def yX0_isKnown : MethodName := ⟨RX0, "isKnown", "(I)Z"⟩
abbrev cX0_learn : ByteArray := prog_2_method_13_code
def yX0_learn : MethodName := ⟨RX0, "learn", "(I)I"⟩
abbrev cX0_newSession : ByteArray := prog_2_method_14_code
def yX0_newSession : MethodName := ⟨RX0, "newSession", "(IIII)I"⟩
abbrev cX0_newClaim : ByteArray := prog_2_method_15_code
def yX0_newClaim : MethodName := ⟨RX0, "newClaim", "(ZIII)I"⟩
abbrev cX0_doneBy : ByteArray := prog_2_method_16_code
def yX0_doneBy : MethodName := ⟨RX0, "doneBy", "([III)I"⟩
abbrev cX0_valueOf : ByteArray := prog_2_method_17_code
def yX0_valueOf : MethodName := ⟨RX0, "valueOf", "([IIII)I"⟩
abbrev cX0_due : ByteArray := prog_2_method_18_code
def yX0_due : MethodName := ⟨RX0, "due", "([III)LSealProbe$Event;"⟩
abbrev cX0_hasDoneAll : ByteArray := prog_2_method_19_code
def yX0_hasDoneAll : MethodName := ⟨RX0, "hasDoneAll", "([III)Z"⟩
abbrev cX0_allHaveDoneAll : ByteArray := prog_2_method_20_code
def yX0_allHaveDoneAll : MethodName := ⟨RX0, "allHaveDoneAll", "([II)Z"⟩
abbrev cX0_beginKnowledge : ByteArray := prog_2_method_21_code
def yX0_beginKnowledge : MethodName := ⟨RX0, "beginKnowledge", "(LSealProbe$Knowledge;)V"⟩
abbrev cX0_fillKnowledge : ByteArray := prog_2_method_22_code
def yX0_fillKnowledge : MethodName := ⟨RX0, "fillKnowledge", "(LSealProbe$Knowledge;[II)V"⟩
abbrev cX0_hasSecrets : ByteArray := prog_2_method_23_code
def yX0_hasSecrets : MethodName := ⟨RX0, "hasSecrets", "()Z"⟩
abbrev cX0_breaks : ByteArray := prog_2_method_24_code
def yX0_breaks : MethodName := ⟨RX0, "breaks", "(I[IILSealProbe$Knowledge;)Z"⟩
abbrev cX0_leaks : ByteArray := prog_2_method_25_code
def yX0_leaks : MethodName := ⟨RX0, "leaks", "(LSealProbe$Claim;[IILSealProbe$Knowledge;)Z"⟩
abbrev cX0_canPartner : ByteArray := prog_2_method_26_code
def yX0_canPartner : MethodName := ⟨RX0, "canPartner", "(LSealProbe$Claim;[IIII)Z"⟩
abbrev cX0_isPartner : ByteArray := prog_2_method_27_code
def yX0_isPartner : MethodName := ⟨RX0, "isPartner", "(LSealProbe$Claim;[IIII)Z"⟩
def RX1 : String := "SealProbe$Chooser"
def TX1 : u_T := fun k => match k with
  | 0 => ("SealProbe$Chooser", "terms", "LSealProbe$Terms;", true)
  | 1 => ("SealProbe$Chooser", "intruder", "LSealProbe$Knowledge;", true)
  | 2 => ("SealProbe$Chooser", "draft", "[I", true)
  | 3 => ("SealProbe$Chooser", "values", "I", false)
  | 4 => ("SealProbe$Chooser", "options", "[[I", true)
  | 5 => ("SealProbe$Chooser", "optionCount", "[I", true)
  | 6 => ("SealProbe$Chooser", "choice", "[I", true)
  | 7 => ("SealProbe$Chooser", "is", "[I", true)
  | _ => ("SealProbe$Chooser", "can", "[Z", true)
def tyX1 : Nat → FieldType := fun k => match k with
  | 0 => .object "SealProbe$Terms"
  | 1 => .object "SealProbe$Knowledge"
  | 2 => .array .int
  | 3 => .int
  | 4 => .array (.array .int)
  | 5 => .array .int
  | 6 => .array .int
  | 7 => .array .int
  | _ => .array .boolean
abbrev wsX10 : List Cond := u_ws RX1 TX1 9
theorem nmX1 : ∀ a, a < 9 → ∀ b, b < 9 → a ≠ b → (TX1 a).2.1 ≠ (TX1 b).2.1 := by decide +kernel
theorem tyX1_ok : ∀ k, k < 9 → parseFieldDescriptor (TX1 k).2.2.1 = some (tyX1 k) := by decide +kernel
abbrev cX1_init : ByteArray := prog_3_method_1_code
def yX1_init : MethodName := ⟨RX1, "<init>", "(LSealProbe$Knowledge;[I)V"⟩
abbrev cX1_listOptions : ByteArray := prog_3_method_2_code
def yX1_listOptions : MethodName := ⟨RX1, "listOptions", "()V"⟩
abbrev cX1_addOption : ByteArray := prog_3_method_3_code
def yX1_addOption : MethodName := ⟨RX1, "addOption", "(II)V"⟩
abbrev cX1_waysOf : ByteArray := prog_3_method_4_code
def yX1_waysOf : MethodName := ⟨RX1, "waysOf", "(LSealProbe$Event;)J"⟩
abbrev cX1_first : ByteArray := prog_3_method_5_code
def yX1_first : MethodName := ⟨RX1, "first", "(LSealProbe$Event;I)I"⟩
abbrev cX1_next : ByteArray := prog_3_method_6_code
def yX1_next : MethodName := ⟨RX1, "next", "(LSealProbe$Event;)I"⟩
abbrev cX1_choose : ByteArray := prog_3_method_7_code
def yX1_choose : MethodName := ⟨RX1, "choose", "(LSealProbe$Event;II)V"⟩
abbrev cX1_weigh : ByteArray := prog_3_method_8_code
def yX1_weigh : MethodName := ⟨RX1, "weigh", "(LSealProbe$Event;I)Z"⟩
abbrev cX1_valueOf : ByteArray := prog_3_method_9_code
def yX1_valueOf : MethodName := ⟨RX1, "valueOf", "(I)I"⟩
abbrev cX1_canCompose : ByteArray := prog_3_method_10_code
def yX1_canCompose : MethodName := ⟨RX1, "canCompose", "(I)Z"⟩
def RX2 : String := "SealProbe$Claim"
def TX2 : u_T := fun k => match k with
  | 0 => ("SealProbe$Claim", "secret", "Z", false)
  | 1 => ("SealProbe$Claim", "roleB", "I", false)
  | 2 => ("SealProbe$Claim", "roleA", "I", false)
  | 3 => ("SealProbe$Claim", "number", "I", false)
  | 4 => ("SealProbe$Claim", "ofB", "[I", true)
  | 5 => ("SealProbe$Claim", "ofA", "[I", true)
  | _ => ("SealProbe$Claim", "joined", "I", false)
def tyX2 : Nat → FieldType := fun k => match k with
  | 0 => .boolean
  | 1 => .int
  | 2 => .int
  | 3 => .int
  | 4 => .array .int
  | 5 => .array .int
  | _ => .int
abbrev wsX20 : List Cond := u_ws RX2 TX2 7
theorem nmX2 : ∀ a, a < 7 → ∀ b, b < 7 → a ≠ b → (TX2 a).2.1 ≠ (TX2 b).2.1 := by decide +kernel
theorem tyX2_ok : ∀ k, k < 7 → parseFieldDescriptor (TX2 k).2.2.1 = some (tyX2 k) := by decide +kernel
abbrev cX2_init : ByteArray := prog_4_method_1_code
def yX2_init : MethodName := ⟨RX2, "<init>", "()V"⟩
abbrev cX2_tie : ByteArray := prog_4_method_2_code
def yX2_tie : MethodName := ⟨RX2, "tie", "(II)I"⟩
def RX3 : String := "SealProbe$Event"
def TX3 : u_T := fun k => match k with
  | 0 => ("SealProbe$Event", "sends", "Z", false)
  | 1 => ("SealProbe$Event", "term", "I", false)
  | 2 => ("SealProbe$Event", "binds", "[I", true)
  | 3 => ("SealProbe$Event", "bindSort", "[I", true)
  | 4 => ("SealProbe$Event", "bindCount", "I", false)
  | 5 => ("SealProbe$Event", "parts", "[I", true)
  | 6 => ("SealProbe$Event", "partsFrom", "[I", true)
  | _ => ("SealProbe$Event", "partCount", "I", false)
def tyX3 : Nat → FieldType := fun k => match k with
  | 0 => .boolean
  | 1 => .int
  | 2 => .array .int
  | 3 => .array .int
  | 4 => .int
  | 5 => .array .int
  | 6 => .array .int
  | _ => .int
abbrev wsX30 : List Cond := u_ws RX3 TX3 8
theorem nmX3 : ∀ a, a < 8 → ∀ b, b < 8 → a ≠ b → (TX3 a).2.1 ≠ (TX3 b).2.1 := by decide +kernel
theorem tyX3_ok : ∀ k, k < 8 → parseFieldDescriptor (TX3 k).2.2.1 = some (tyX3 k) := by decide +kernel
abbrev cX3_init : ByteArray := prog_5_method_1_code
def yX3_init : MethodName := ⟨RX3, "<init>", "()V"⟩
abbrev cX3_plan : ByteArray := prog_5_method_2_code
def yX3_plan : MethodName := ⟨RX3, "plan", "(LSealProbe$Terms;[I)V"⟩
abbrev cX3_markParts : ByteArray := prog_5_method_3_code
def yX3_markParts : MethodName := ⟨RX3, "markParts", "(LSealProbe$Terms;[I)V"⟩
abbrev cX3_levelOf : ByteArray := prog_5_method_4_code
def yX3_levelOf : MethodName := ⟨RX3, "levelOf", "(LSealProbe$Terms;[II)I"⟩
def RX4 : String := "SealProbe$Knowledge"
def TX4 : u_T := fun k => match k with
  | 0 => ("SealProbe$Knowledge", "terms", "LSealProbe$Terms;", true)
  | 1 => ("SealProbe$Knowledge", "stretch", "I", true)
  | 2 => ("SealProbe$Knowledge", "head", "[I", true)
  | 3 => ("SealProbe$Knowledge", "unnumbered", "I", false)
  | 4 => ("SealProbe$Knowledge", "row", "[I", true)
  | 5 => ("SealProbe$Knowledge", "how", "[I", true)
  | 6 => ("SealProbe$Knowledge", "from", "[I", true)
  | 7 => ("SealProbe$Knowledge", "length", "I", false)
  | 8 => ("SealProbe$Knowledge", "inRow", "[I", true)
  | 9 => ("SealProbe$Knowledge", "makeable", "[I", true)
  | 10 => ("SealProbe$Knowledge", "privateOf", "[I", true)
  | 11 => ("SealProbe$Knowledge", "wanted", "[I", true)
  | 12 => ("SealProbe$Knowledge", "starts", "I", false)
  | _ => ("SealProbe$Knowledge", "whole", "Z", false)
def tyX4 : Nat → FieldType := fun k => match k with
  | 0 => .object "SealProbe$Terms"
  | 1 => .int
  | 2 => .array .int
  | 3 => .int
  | 4 => .array .int
  | 5 => .array .int
  | 6 => .array .int
  | 7 => .int
  | 8 => .array .int
  | 9 => .array .int
  | 10 => .array .int
  | 11 => .array .int
  | 12 => .int
  | _ => .boolean
abbrev wsX40 : List Cond := u_ws RX4 TX4 14
theorem nmX4 : ∀ a, a < 14 → ∀ b, b < 14 → a ≠ b → (TX4 a).2.1 ≠ (TX4 b).2.1 := by decide +kernel
theorem tyX4_ok : ∀ k, k < 14 → parseFieldDescriptor (TX4 k).2.2.1 = some (tyX4 k) := by decide +kernel
abbrev cX4_init : ByteArray := prog_6_method_1_code
def yX4_init : MethodName := ⟨RX4, "<init>", "(LSealProbe$Terms;I)V"⟩
abbrev cX4_start : ByteArray := prog_6_method_2_code
def yX4_start : MethodName := ⟨RX4, "start", "()V"⟩
abbrev cX4_isUnnumbered : ByteArray := prog_6_method_3_code
def yX4_isUnnumbered : MethodName := ⟨RX4, "isUnnumbered", "(I)Z"⟩
abbrev cX4_has : ByteArray := prog_6_method_4_code
def yX4_has : MethodName := ⟨RX4, "has", "(I)Z"⟩
abbrev cX4_find : ByteArray := prog_6_method_5_code
def yX4_find : MethodName := ⟨RX4, "find", "(III)I"⟩
abbrev cX4_findOrPut : ByteArray := prog_6_method_6_code
def yX4_findOrPut : MethodName := ⟨RX4, "findOrPut", "(III)I"⟩
abbrev cX4_groundOf : ByteArray := prog_6_method_7_code
def yX4_groundOf : MethodName := ⟨RX4, "groundOf", "(I[III)I"⟩
abbrev cX4_add : ByteArray := prog_6_method_8_code
def yX4_add : MethodName := ⟨RX4, "add", "(III)Z"⟩
abbrev cX4_takeApart : ByteArray := prog_6_method_9_code
def yX4_takeApart : MethodName := ⟨RX4, "takeApart", "()V"⟩
abbrev cX4_takeApartAt : ByteArray := prog_6_method_10_code
def yX4_takeApartAt : MethodName := ⟨RX4, "takeApartAt", "(I)Z"⟩
abbrev cX4_hasPrivateOf : ByteArray := prog_6_method_11_code
def yX4_hasPrivateOf : MethodName := ⟨RX4, "hasPrivateOf", "(I)Z"⟩
abbrev cX4_canMake : ByteArray := prog_6_method_12_code
def yX4_canMake : MethodName := ⟨RX4, "canMake", "(II)Z"⟩
abbrev cX4_missingFor : ByteArray := prog_6_method_13_code
def yX4_missingFor : MethodName := ⟨RX4, "missingFor", "(I)I"⟩
abbrev cX4_want : ByteArray := prog_6_method_14_code
def yX4_want : MethodName := ⟨RX4, "want", "(I)V"⟩
abbrev cX4_giveNumber : ByteArray := prog_6_method_15_code
def yX4_giveNumber : MethodName := ⟨RX4, "giveNumber", "(II)I"⟩
def RX5 : String := "SealProbe$Role"
def TX5 : u_T := fun k => match k with
  | 0 => ("SealProbe$Role", "as", "[I", true)
  | 1 => ("SealProbe$Role", "sort", "[I", true)
  | 2 => ("SealProbe$Role", "received", "[Z", true)
  | 3 => ("SealProbe$Role", "variableCount", "I", false)
  | 4 => ("SealProbe$Role", "events", "[LSealProbe$Event;", true)
  | 5 => ("SealProbe$Role", "eventCount", "I", false)
  | _ => ("SealProbe$Role", "closed", "Z", false)
def tyX5 : Nat → FieldType := fun k => match k with
  | 0 => .array .int
  | 1 => .array .int
  | 2 => .array .boolean
  | 3 => .int
  | 4 => .array (.object "SealProbe$Event")
  | 5 => .int
  | _ => .boolean
abbrev wsX50 : List Cond := u_ws RX5 TX5 7
theorem nmX5 : ∀ a, a < 7 → ∀ b, b < 7 → a ≠ b → (TX5 a).2.1 ≠ (TX5 b).2.1 := by decide +kernel
theorem tyX5_ok : ∀ k, k < 7 → parseFieldDescriptor (TX5 k).2.2.1 = some (tyX5 k) := by decide +kernel
abbrev cX5_init : ByteArray := prog_7_method_1_code
def yX5_init : MethodName := ⟨RX5, "<init>", "()V"⟩
abbrev cX5_empty : ByteArray := prog_7_method_2_code
def yX5_empty : MethodName := ⟨RX5, "empty", "()V"⟩
abbrev cX5_tell : ByteArray := prog_7_method_3_code
def yX5_tell : MethodName := ⟨RX5, "tell", "(II)V"⟩
abbrev cX5_has : ByteArray := prog_7_method_4_code
def yX5_has : MethodName := ⟨RX5, "has", "(I)Z"⟩
abbrev cX5_waitsFor : ByteArray := prog_7_method_5_code
def yX5_waitsFor : MethodName := ⟨RX5, "waitsFor", "(I)Z"⟩
abbrev cX5_countOf : ByteArray := prog_7_method_6_code
def yX5_countOf : MethodName := ⟨RX5, "countOf", "(I)I"⟩
def RX6 : String := "SealProbe$Run"
def TX6 : u_T := fun k => match k with
  | 0 => ("SealProbe$Run", "bench", "LSealProbe$Bench;", true)
  | 1 => ("SealProbe$Run", "terms", "LSealProbe$Terms;", true)
  | 2 => ("SealProbe$Run", "knowledge", "LSealProbe$Knowledge;", true)
  | 3 => ("SealProbe$Run", "at", "[I", true)
  | 4 => ("SealProbe$Run", "movers", "[I", true)
  | 5 => ("SealProbe$Run", "turns", "[I", true)
  | 6 => ("SealProbe$Run", "trial", "[I", true)
  | 7 => ("SealProbe$Run", "count", "I", false)
  | 8 => ("SealProbe$Run", "on", "Z", false)
  | _ => ("SealProbe$Run", "gatheredFor", "I", false)
def tyX6 : Nat → FieldType := fun k => match k with
  | 0 => .object "SealProbe$Bench"
  | 1 => .object "SealProbe$Terms"
  | 2 => .object "SealProbe$Knowledge"
  | 3 => .array .int
  | 4 => .array .int
  | 5 => .array .int
  | 6 => .array .int
  | 7 => .int
  | 8 => .boolean
  | _ => .int
abbrev wsX60 : List Cond := u_ws RX6 TX6 10
theorem nmX6 : ∀ a, a < 10 → ∀ b, b < 10 → a ≠ b → (TX6 a).2.1 ≠ (TX6 b).2.1 := by decide +kernel
theorem tyX6_ok : ∀ k, k < 10 → parseFieldDescriptor (TX6 k).2.2.1 = some (tyX6 k) := by decide +kernel
abbrev cX6_init : ByteArray := prog_8_method_1_code
def yX6_init : MethodName := ⟨RX6, "<init>", "(LSealProbe$Bench;)V"⟩
abbrev cX6_start : ByteArray := prog_8_method_2_code
def yX6_start : MethodName := ⟨RX6, "start", "()V"⟩
abbrev cX6_intruder : ByteArray := prog_8_method_3_code
def yX6_intruder : MethodName := ⟨RX6, "intruder", "()LSealProbe$Knowledge;"⟩
abbrev cX6_gather : ByteArray := prog_8_method_4_code
def yX6_gather : MethodName := ⟨RX6, "gather", "()V"⟩
abbrev cX6_eventOf : ByteArray := prog_8_method_5_code
def yX6_eventOf : MethodName := ⟨RX6, "eventOf", "(II)LSealProbe$Event;"⟩
abbrev cX6_step : ByteArray := prog_8_method_6_code
def yX6_step : MethodName := ⟨RX6, "step", "(I)V"⟩
abbrev cX6_takeBack : ByteArray := prog_8_method_7_code
def yX6_takeBack : MethodName := ⟨RX6, "takeBack", "()I"⟩
abbrev cX6_follow : ByteArray := prog_8_method_8_code
def yX6_follow : MethodName := ⟨RX6, "follow", "(I[II)V"⟩
abbrev cX6_accepts : ByteArray := prog_8_method_9_code
def yX6_accepts : MethodName := ⟨RX6, "accepts", "(ILSealProbe$Event;I)Z"⟩
abbrev cX6_matches : ByteArray := prog_8_method_10_code
def yX6_matches : MethodName := ⟨RX6, "matches", "(III)Z"⟩
abbrev cX6_mayStand : ByteArray := prog_8_method_11_code
def yX6_mayStand : MethodName := ⟨RX6, "mayStand", "(II)Z"⟩
def RX7 : String := "SealProbe$Search"
def TX7 : u_T := fun k => match k with
  | 0 => ("SealProbe$Search", "bench", "LSealProbe$Bench;", true)
  | 1 => ("SealProbe$Search", "states", "LSealProbe$States;", true)
  | 2 => ("SealProbe$Search", "here", "LSealProbe$Knowledge;", true)
  | 3 => ("SealProbe$Search", "there", "LSealProbe$Knowledge;", true)
  | 4 => ("SealProbe$Search", "draft", "[I", true)
  | 5 => ("SealProbe$Search", "chooser", "LSealProbe$Chooser;", true)
  | 6 => ("SealProbe$Search", "width", "I", false)
  | 7 => ("SealProbe$Search", "secrets", "Z", false)
  | 8 => ("SealProbe$Search", "path", "[I", true)
  | 9 => ("SealProbe$Search", "length", "I", false)
  | 10 => ("SealProbe$Search", "ways", "I", false)
  | 11 => ("SealProbe$Search", "finished", "I", false)
  | _ => ("SealProbe$Search", "answer", "I", false)
def tyX7 : Nat → FieldType := fun k => match k with
  | 0 => .object "SealProbe$Bench"
  | 1 => .object "SealProbe$States"
  | 2 => .object "SealProbe$Knowledge"
  | 3 => .object "SealProbe$Knowledge"
  | 4 => .array .int
  | 5 => .object "SealProbe$Chooser"
  | 6 => .int
  | 7 => .boolean
  | 8 => .array .int
  | 9 => .int
  | 10 => .int
  | 11 => .int
  | _ => .int
abbrev wsX70 : List Cond := u_ws RX7 TX7 13
theorem nmX7 : ∀ a, a < 13 → ∀ b, b < 13 → a ≠ b → (TX7 a).2.1 ≠ (TX7 b).2.1 := by decide +kernel
theorem tyX7_ok : ∀ k, k < 13 → parseFieldDescriptor (TX7 k).2.2.1 = some (tyX7 k) := by decide +kernel
abbrev cX7_init : ByteArray := prog_9_method_1_code
def yX7_init : MethodName := ⟨RX7, "<init>", "(LSealProbe$Bench;)V"⟩
abbrev cX7_hasAttack : ByteArray := prog_9_method_2_code
def yX7_hasAttack : MethodName := ⟨RX7, "hasAttack", "()Z"⟩
abbrev cX7_attackBase : ByteArray := prog_9_method_3_code
def yX7_attackBase : MethodName := ⟨RX7, "attackBase", "()I"⟩
abbrev cX7_forget : ByteArray := prog_9_method_4_code
def yX7_forget : MethodName := ⟨RX7, "forget", "()V"⟩
abbrev cX7_start : ByteArray := prog_9_method_5_code
def yX7_start : MethodName := ⟨RX7, "start", "()V"⟩
abbrev cX7_goesOn : ByteArray := prog_9_method_6_code
def yX7_goesOn : MethodName := ⟨RX7, "goesOn", "(I)Z"⟩
abbrev cX7_goThrough : ByteArray := prog_9_method_7_code
def yX7_goThrough : MethodName := ⟨RX7, "goThrough", "(I)V"⟩
abbrev cX7_tryWays : ByteArray := prog_9_method_8_code
def yX7_tryWays : MethodName := ⟨RX7, "tryWays", "(IILSealProbe$Event;)V"⟩
abbrev cX7_reach : ByteArray := prog_9_method_9_code
def yX7_reach : MethodName := ⟨RX7, "reach", "(IILSealProbe$Knowledge;)V"⟩
abbrev cX7_tracePath : ByteArray := prog_9_method_10_code
def yX7_tracePath : MethodName := ⟨RX7, "tracePath", "(I)V"⟩
def RX8 : String := "SealProbe$States"
def TX8 : u_T := fun k => match k with
  | 0 => ("SealProbe$States", "at", "[I", true)
  | 1 => ("SealProbe$States", "parent", "[I", true)
  | 2 => ("SealProbe$States", "mover", "[I", true)
  | 3 => ("SealProbe$States", "next", "[I", true)
  | 4 => ("SealProbe$States", "head", "[I", true)
  | _ => ("SealProbe$States", "count", "I", false)
def tyX8 : Nat → FieldType := fun k => match k with
  | 0 => .array .int
  | 1 => .array .int
  | 2 => .array .int
  | 3 => .array .int
  | 4 => .array .int
  | _ => .int
abbrev wsX80 : List Cond := u_ws RX8 TX8 6
theorem nmX8 : ∀ a, a < 6 → ∀ b, b < 6 → a ≠ b → (TX8 a).2.1 ≠ (TX8 b).2.1 := by decide +kernel
theorem tyX8_ok : ∀ k, k < 6 → parseFieldDescriptor (TX8 k).2.2.1 = some (tyX8 k) := by decide +kernel
abbrev cX8_init : ByteArray := prog_10_method_1_code
def yX8_init : MethodName := ⟨RX8, "<init>", "()V"⟩
abbrev cX8_empty : ByteArray := prog_10_method_2_code
def yX8_empty : MethodName := ⟨RX8, "empty", "()V"⟩
abbrev cX8_slotOf : ByteArray := prog_10_method_3_code
def yX8_slotOf : MethodName := ⟨RX8, "slotOf", "([II)I"⟩
abbrev cX8_has : ByteArray := prog_10_method_4_code
def yX8_has : MethodName := ⟨RX8, "has", "([II)Z"⟩
abbrev cX8_isSame : ByteArray := prog_10_method_5_code
def yX8_isSame : MethodName := ⟨RX8, "isSame", "([III)Z"⟩
abbrev cX8_add : ByteArray := prog_10_method_6_code
def yX8_add : MethodName := ⟨RX8, "add", "([IIII)V"⟩
def RX9 : String := "SealProbe$Terms"
def TX9 : u_T := fun k => match k with
  | 0 => ("SealProbe$Terms", "kind", "[I", true)
  | 1 => ("SealProbe$Terms", "first", "[I", true)
  | 2 => ("SealProbe$Terms", "second", "[I", true)
  | 3 => ("SealProbe$Terms", "size", "[I", true)
  | 4 => ("SealProbe$Terms", "next", "[I", true)
  | 5 => ("SealProbe$Terms", "head", "[I", true)
  | 6 => ("SealProbe$Terms", "ground", "[Z", true)
  | 7 => ("SealProbe$Terms", "honest", "[Z", true)
  | 8 => ("SealProbe$Terms", "role", "[I", true)
  | 9 => ("SealProbe$Terms", "sort", "[I", true)
  | 10 => ("SealProbe$Terms", "place", "[I", true)
  | _ => ("SealProbe$Terms", "count", "I", false)
def tyX9 : Nat → FieldType := fun k => match k with
  | 0 => .array .int
  | 1 => .array .int
  | 2 => .array .int
  | 3 => .array .int
  | 4 => .array .int
  | 5 => .array .int
  | 6 => .array .boolean
  | 7 => .array .boolean
  | 8 => .array .int
  | 9 => .array .int
  | 10 => .array .int
  | _ => .int
abbrev wsX90 : List Cond := u_ws RX9 TX9 12
theorem nmX9 : ∀ a, a < 12 → ∀ b, b < 12 → a ≠ b → (TX9 a).2.1 ≠ (TX9 b).2.1 := by decide +kernel
theorem tyX9_ok : ∀ k, k < 12 → parseFieldDescriptor (TX9 k).2.2.1 = some (tyX9 k) := by decide +kernel
abbrev cX9_init : ByteArray := prog_11_method_1_code
def yX9_init : MethodName := ⟨RX9, "<init>", "()V"⟩
abbrev cX9_empty : ByteArray := prog_11_method_2_code
def yX9_empty : MethodName := ⟨RX9, "empty", "()V"⟩
abbrev cX9_slotOf : ByteArray := prog_11_method_3_code
def yX9_slotOf : MethodName := ⟨RX9, "slotOf", "(III)I"⟩
abbrev cX9_has : ByteArray := prog_11_method_4_code
def yX9_has : MethodName := ⟨RX9, "has", "(I)Z"⟩
abbrev cX9_isFull : ByteArray := prog_11_method_5_code
def yX9_isFull : MethodName := ⟨RX9, "isFull", "()Z"⟩
abbrev cX9_isAgent : ByteArray := prog_11_method_6_code
def yX9_isAgent : MethodName := ⟨RX9, "isAgent", "(I)Z"⟩
abbrev cX9_isHonest : ByteArray := prog_11_method_7_code
def yX9_isHonest : MethodName := ⟨RX9, "isHonest", "(I)Z"⟩
abbrev cX9_mayBeAgent : ByteArray := prog_11_method_8_code
def yX9_mayBeAgent : MethodName := ⟨RX9, "mayBeAgent", "(I)Z"⟩
abbrev cX9_isOpen : ByteArray := prog_11_method_9_code
def yX9_isOpen : MethodName := ⟨RX9, "isOpen", "(I)Z"⟩
abbrev cX9_sizeOf : ByteArray := prog_11_method_10_code
def yX9_sizeOf : MethodName := ⟨RX9, "sizeOf", "(I)I"⟩
abbrev cX9_find : ByteArray := prog_11_method_11_code
def yX9_find : MethodName := ⟨RX9, "find", "(III)I"⟩
abbrev cX9_findFrom : ByteArray := prog_11_method_12_code
def yX9_findFrom : MethodName := ⟨RX9, "findFrom", "(IIII)I"⟩
abbrev cX9_newAtom : ByteArray := prog_11_method_13_code
def yX9_newAtom : MethodName := ⟨RX9, "newAtom", "(IZ)I"⟩
abbrev cX9_newVariable : ByteArray := prog_11_method_14_code
def yX9_newVariable : MethodName := ⟨RX9, "newVariable", "(III)I"⟩
abbrev cX9_newCompound : ByteArray := prog_11_method_15_code
def yX9_newCompound : MethodName := ⟨RX9, "newCompound", "(III)I"⟩
abbrev cX9_put : ByteArray := prog_11_method_16_code
def yX9_put : MethodName := ⟨RX9, "put", "(III)I"⟩
def RX10 : String := "SealProbe"
def TX10 : u_T := fun k => match k with
  | 0 => ("SealProbe", "bench", "LSealProbe$Bench;", true)
  | 1 => ("SealProbe", "terms", "LSealProbe$Terms;", true)
  | 2 => ("SealProbe", "run", "LSealProbe$Run;", true)
  | _ => ("SealProbe", "search", "LSealProbe$Search;", true)
def tyX10 : Nat → FieldType := fun k => match k with
  | 0 => .object "SealProbe$Bench"
  | 1 => .object "SealProbe$Terms"
  | 2 => .object "SealProbe$Run"
  | _ => .object "SealProbe$Search"
abbrev wsX100 : List Cond := u_ws RX10 TX10 4
theorem nmX10 : ∀ a, a < 4 → ∀ b, b < 4 → a ≠ b → (TX10 a).2.1 ≠ (TX10 b).2.1 := by decide +kernel
theorem tyX10_ok : ∀ k, k < 4 → parseFieldDescriptor (TX10 k).2.2.1 = some (tyX10 k) := by decide +kernel
abbrev cX10_init : ByteArray := prog_1_method_1_code
def yX10_init : MethodName := ⟨RX10, "<init>", "()V"⟩
abbrev cX10_agent : ByteArray := prog_1_method_2_code
def yX10_agent : MethodName := ⟨RX10, "agent", "(Z)I"⟩
abbrev cX10_atom : ByteArray := prog_1_method_3_code
def yX10_atom : MethodName := ⟨RX10, "atom", "(I)I"⟩
abbrev cX10_term : ByteArray := prog_1_method_4_code
def yX10_term : MethodName := ⟨RX10, "term", "(III)I"⟩
abbrev cX10_of : ByteArray := prog_1_method_5_code
def yX10_of : MethodName := ⟨RX10, "of", "(III)I"⟩
abbrev cX10_about : ByteArray := prog_1_method_6_code
def yX10_about : MethodName := ⟨RX10, "about", "(II)I"⟩
abbrev cX10_role : ByteArray := prog_1_method_7_code
def yX10_role : MethodName := ⟨RX10, "role", "()I"⟩
abbrev cX10_variable : ByteArray := prog_1_method_8_code
def yX10_variable : MethodName := ⟨RX10, "variable", "(III)I"⟩
abbrev cX10_event : ByteArray := prog_1_method_9_code
def yX10_event : MethodName := ⟨RX10, "event", "(IZI)I"⟩
abbrev cX10_know : ByteArray := prog_1_method_10_code
def yX10_know : MethodName := ⟨RX10, "know", "(I)I"⟩
abbrev cX10_session : ByteArray := prog_1_method_11_code
def yX10_session : MethodName := ⟨RX10, "session", "(IIII)I"⟩
abbrev cX10_secret : ByteArray := prog_1_method_12_code
def yX10_secret : MethodName := ⟨RX10, "secret", "(II)I"⟩
abbrev cX10_agree : ByteArray := prog_1_method_13_code
def yX10_agree : MethodName := ⟨RX10, "agree", "(III)I"⟩
abbrev cX10_join : ByteArray := prog_1_method_14_code
def yX10_join : MethodName := ⟨RX10, "join", "(III)I"⟩
abbrev cX10_begin : ByteArray := prog_1_method_15_code
def yX10_begin : MethodName := ⟨RX10, "begin", "()I"⟩
abbrev cX10_end : ByteArray := prog_1_method_16_code
def yX10_end : MethodName := ⟨RX10, "end", "()I"⟩
abbrev cX10_send : ByteArray := prog_1_method_17_code
def yX10_send : MethodName := ⟨RX10, "send", "(I)I"⟩
abbrev cX10_receive : ByteArray := prog_1_method_18_code
def yX10_receive : MethodName := ⟨RX10, "receive", "(II)I"⟩
abbrev cX10_makes : ByteArray := prog_1_method_19_code
def yX10_makes : MethodName := ⟨RX10, "makes", "(I)I"⟩
abbrev cX10_row : ByteArray := prog_1_method_20_code
def yX10_row : MethodName := ⟨RX10, "row", "(II)I"⟩
abbrev cX10_stands : ByteArray := prog_1_method_21_code
def yX10_stands : MethodName := ⟨RX10, "stands", "(II)I"⟩
abbrev cX10_done : ByteArray := prog_1_method_22_code
def yX10_done : MethodName := ⟨RX10, "done", "(I)I"⟩
abbrev cX10_broken : ByteArray := prog_1_method_23_code
def yX10_broken : MethodName := ⟨RX10, "broken", "(I)I"⟩
abbrev cX10_undo : ByteArray := prog_1_method_24_code
def yX10_undo : MethodName := ⟨RX10, "undo", "()I"⟩
abbrev cX10_search : ByteArray := prog_1_method_25_code
def yX10_search : MethodName := ⟨RX10, "search", "()I"⟩
abbrev cX10_found : ByteArray := prog_1_method_26_code
def yX10_found : MethodName := ⟨RX10, "found", "(I)I"⟩
abbrev cX10_attack : ByteArray := prog_1_method_27_code
def yX10_attack : MethodName := ⟨RX10, "attack", "(I)I"⟩
abbrev cX10_play : ByteArray := prog_1_method_28_code
def yX10_play : MethodName := ⟨RX10, "play", "(I)I"⟩
abbrev cX10_told : ByteArray := prog_1_method_29_code
def yX10_told : MethodName := ⟨RX10, "told", "(I)I"⟩
abbrev cX10_ofRole : ByteArray := prog_1_method_30_code
def yX10_ofRole : MethodName := ⟨RX10, "ofRole", "(II)I"⟩
abbrev cX10_clear : ByteArray := prog_1_method_31_code
def yX10_clear : MethodName := ⟨RX10, "clear", "()I"⟩
abbrev cX10_asNumber : ByteArray := prog_1_method_32_code
def yX10_asNumber : MethodName := ⟨RX10, "asNumber", "(Z)I"⟩
abbrev cX10_orNone : ByteArray := prog_1_method_33_code
def yX10_orNone : MethodName := ⟨RX10, "orNone", "(I)I"⟩
abbrev cX10_maySort : ByteArray := prog_1_method_34_code
def yX10_maySort : MethodName := ⟨RX10, "maySort", "(II)Z"⟩
abbrev cX10_compound : ByteArray := prog_1_method_35_code
def yX10_compound : MethodName := ⟨RX10, "compound", "(III)I"⟩
abbrev cX10_numbered : ByteArray := prog_1_method_36_code
def yX10_numbered : MethodName := ⟨RX10, "numbered", "(LSealProbe$Knowledge;I)I"⟩
def RX11 : String := "SealProbeModel"
def TX11 : u_T := fun k => match k with
  | 0 => ("SealProbeModel", "kind", "[I", true)
  | 1 => ("SealProbeModel", "first", "[I", true)
  | 2 => ("SealProbeModel", "second", "[I", true)
  | 3 => ("SealProbeModel", "size", "[I", true)
  | 4 => ("SealProbeModel", "ground", "[Z", true)
  | 5 => ("SealProbeModel", "honest", "[Z", true)
  | 6 => ("SealProbeModel", "ofRole", "[I", true)
  | 7 => ("SealProbeModel", "sort", "[I", true)
  | 8 => ("SealProbeModel", "ofNumber", "[I", true)
  | 9 => ("SealProbeModel", "terms", "I", false)
  | 10 => ("SealProbeModel", "behind", "I", false)
  | 11 => ("SealProbeModel", "head", "[I", true)
  | 12 => ("SealProbeModel", "next", "[I", true)
  | 13 => ("SealProbeModel", "roles", "I", false)
  | 14 => ("SealProbeModel", "variables", "[I", true)
  | 15 => ("SealProbeModel", "variable", "[I", true)
  | 16 => ("SealProbeModel", "toldAs", "[I", true)
  | 17 => ("SealProbeModel", "events", "[I", true)
  | 18 => ("SealProbeModel", "eventTerm", "[I", true)
  | 19 => ("SealProbeModel", "sending", "[Z", true)
  | 20 => ("SealProbeModel", "closed", "[Z", true)
  | 21 => ("SealProbeModel", "standing", "[I", true)
  | 22 => ("SealProbeModel", "stand", "I", false)
  | 23 => ("SealProbeModel", "waits", "[I", true)
  | 24 => ("SealProbeModel", "asked", "[I", true)
  | 25 => ("SealProbeModel", "known", "[I", true)
  | 26 => ("SealProbeModel", "knows", "I", false)
  | 27 => ("SealProbeModel", "sessions", "I", false)
  | 28 => ("SealProbeModel", "sessionRole", "[I", true)
  | 29 => ("SealProbeModel", "atFirst", "[I", true)
  | 30 => ("SealProbeModel", "claims", "I", false)
  | 31 => ("SealProbeModel", "isSecret", "[Z", true)
  | 32 => ("SealProbeModel", "claimB", "[I", true)
  | 33 => ("SealProbeModel", "claimA", "[I", true)
  | 34 => ("SealProbeModel", "claimN", "[I", true)
  | 35 => ("SealProbeModel", "joins", "[I", true)
  | 36 => ("SealProbeModel", "joinB", "[I", true)
  | 37 => ("SealProbeModel", "joinA", "[I", true)
  | 38 => ("SealProbeModel", "doing", "[I", true)
  | 39 => ("SealProbeModel", "value", "[I", true)
  | 40 => ("SealProbeModel", "needed", "[Z", true)
  | 41 => ("SealProbeModel", "instead", "[I", true)
  | 42 => ("SealProbeModel", "row", "[I", true)
  | 43 => ("SealProbeModel", "how", "[I", true)
  | 44 => ("SealProbeModel", "from", "[I", true)
  | 45 => ("SealProbeModel", "inRow", "[Z", true)
  | 46 => ("SealProbeModel", "rows", "I", false)
  | 47 => ("SealProbeModel", "rowIsThere", "Z", false)
  | 48 => ("SealProbeModel", "makes", "[Z", true)
  | 49 => ("SealProbeModel", "judged", "I", false)
  | 50 => ("SealProbeModel", "judgedRows", "I", false)
  | 51 => ("SealProbeModel", "want", "[I", true)
  | 52 => ("SealProbeModel", "runs", "Z", false)
  | 53 => ("SealProbeModel", "didSession", "[I", true)
  | 54 => ("SealProbeModel", "didBind", "[I", true)
  | 55 => ("SealProbeModel", "did", "I", false)
  | 56 => ("SealProbeModel", "sent", "[I", true)
  | 57 => ("SealProbeModel", "waitsFor", "[I", true)
  | 58 => ("SealProbeModel", "stood", "[I", true)
  | 59 => ("SealProbeModel", "order", "[I", true)
  | 60 => ("SealProbeModel", "isOrdered", "[Z", true)
  | 61 => ("SealProbeModel", "ordered", "I", false)
  | 62 => ("SealProbeModel", "newKind", "[I", true)
  | 63 => ("SealProbeModel", "newFirst", "[I", true)
  | 64 => ("SealProbeModel", "newSecond", "[I", true)
  | 65 => ("SealProbeModel", "stateDone", "[I", true)
  | 66 => ("SealProbeModel", "stateValue", "[I", true)
  | 67 => ("SealProbeModel", "parent", "[I", true)
  | 68 => ("SealProbeModel", "mover", "[I", true)
  | 69 => ("SealProbeModel", "states", "I", false)
  | 70 => ("SealProbeModel", "ways", "I", false)
  | 71 => ("SealProbeModel", "ended", "I", false)
  | 72 => ("SealProbeModel", "attackEvents", "I", false)
  | 73 => ("SealProbeModel", "attackSession", "[I", true)
  | 74 => ("SealProbeModel", "attackState", "[I", true)
  | 75 => ("SealProbeModel", "keptDone", "[I", true)
  | 76 => ("SealProbeModel", "keptValue", "[I", true)
  | 77 => ("SealProbeModel", "open", "[I", true)
  | _ => ("SealProbeModel", "chosen", "[I", true)
def tyX11 : Nat → FieldType := fun k => match k with
  | 0 => .array .int
  | 1 => .array .int
  | 2 => .array .int
  | 3 => .array .int
  | 4 => .array .boolean
  | 5 => .array .boolean
  | 6 => .array .int
  | 7 => .array .int
  | 8 => .array .int
  | 9 => .int
  | 10 => .int
  | 11 => .array .int
  | 12 => .array .int
  | 13 => .int
  | 14 => .array .int
  | 15 => .array .int
  | 16 => .array .int
  | 17 => .array .int
  | 18 => .array .int
  | 19 => .array .boolean
  | 20 => .array .boolean
  | 21 => .array .int
  | 22 => .int
  | 23 => .array .int
  | 24 => .array .int
  | 25 => .array .int
  | 26 => .int
  | 27 => .int
  | 28 => .array .int
  | 29 => .array .int
  | 30 => .int
  | 31 => .array .boolean
  | 32 => .array .int
  | 33 => .array .int
  | 34 => .array .int
  | 35 => .array .int
  | 36 => .array .int
  | 37 => .array .int
  | 38 => .array .int
  | 39 => .array .int
  | 40 => .array .boolean
  | 41 => .array .int
  | 42 => .array .int
  | 43 => .array .int
  | 44 => .array .int
  | 45 => .array .boolean
  | 46 => .int
  | 47 => .boolean
  | 48 => .array .boolean
  | 49 => .int
  | 50 => .int
  | 51 => .array .int
  | 52 => .boolean
  | 53 => .array .int
  | 54 => .array .int
  | 55 => .int
  | 56 => .array .int
  | 57 => .array .int
  | 58 => .array .int
  | 59 => .array .int
  | 60 => .array .boolean
  | 61 => .int
  | 62 => .array .int
  | 63 => .array .int
  | 64 => .array .int
  | 65 => .array .int
  | 66 => .array .int
  | 67 => .array .int
  | 68 => .array .int
  | 69 => .int
  | 70 => .int
  | 71 => .int
  | 72 => .int
  | 73 => .array .int
  | 74 => .array .int
  | 75 => .array .int
  | 76 => .array .int
  | 77 => .array .int
  | _ => .array .int
abbrev wsX110 : List Cond := u_ws RX11 TX11 79
theorem nmX11 : ∀ a, a < 79 → ∀ b, b < 79 → a ≠ b → (TX11 a).2.1 ≠ (TX11 b).2.1 := by decide +kernel
theorem tyX11_ok : ∀ k, k < 79 → parseFieldDescriptor (TX11 k).2.2.1 = some (tyX11 k) := by decide +kernel
abbrev cX11_init : ByteArray := prog_13_method_1_code
def yX11_init : MethodName := ⟨RX11, "<init>", "()V"⟩
abbrev cX11_in : ByteArray := prog_13_method_3_code
def yX11_in : MethodName := ⟨RX11, "in", "(JJJ)Z"⟩
abbrev cX11_emptyTable : ByteArray := prog_13_method_4_code
def yX11_emptyTable : MethodName := ⟨RX11, "emptyTable", "()V"⟩
abbrev cX11_placeOf : ByteArray := prog_13_method_5_code
def yX11_placeOf : MethodName := ⟨RX11, "placeOf", "(III)I"⟩
abbrev cX11_find : ByteArray := prog_13_method_6_code
def yX11_find : MethodName := ⟨RX11, "find", "(III)I"⟩
abbrev cX11_lay : ByteArray := prog_13_method_7_code
def yX11_lay : MethodName := ⟨RX11, "lay", "(IIII)V"⟩
abbrev cX11_sizeOf : ByteArray := prog_13_method_8_code
def yX11_sizeOf : MethodName := ⟨RX11, "sizeOf", "(III)I"⟩
abbrev cX11_release : ByteArray := prog_13_method_9_code
def yX11_release : MethodName := ⟨RX11, "release", "(I)V"⟩
abbrev cX11_last : ByteArray := prog_13_method_10_code
def yX11_last : MethodName := ⟨RX11, "last", "(III)I"⟩
abbrev cX11_made : ByteArray := prog_13_method_11_code
def yX11_made : MethodName := ⟨RX11, "made", "(III)I"⟩
abbrev cX11_isTerm : ByteArray := prog_13_method_12_code
def yX11_isTerm : MethodName := ⟨RX11, "isTerm", "(I)Z"⟩
abbrev cX11_agent : ByteArray := prog_13_method_13_code
def yX11_agent : MethodName := ⟨RX11, "agent", "(Z)I"⟩
abbrev cX11_atom : ByteArray := prog_13_method_14_code
def yX11_atom : MethodName := ⟨RX11, "atom", "(I)I"⟩
abbrev cX11_oldOrNew : ByteArray := prog_13_method_15_code
def yX11_oldOrNew : MethodName := ⟨RX11, "oldOrNew", "(III)I"⟩
abbrev cX11_term : ByteArray := prog_13_method_16_code
def yX11_term : MethodName := ⟨RX11, "term", "(III)I"⟩
abbrev cX11_of : ByteArray := prog_13_method_17_code
def yX11_of : MethodName := ⟨RX11, "of", "(III)I"⟩
abbrev cX11_about : ByteArray := prog_13_method_18_code
def yX11_about : MethodName := ⟨RX11, "about", "(II)I"⟩
abbrev cX11_isRole : ByteArray := prog_13_method_19_code
def yX11_isRole : MethodName := ⟨RX11, "isRole", "(I)Z"⟩
abbrev cX11_role : ByteArray := prog_13_method_20_code
def yX11_role : MethodName := ⟨RX11, "role", "()I"⟩
abbrev cX11_variable : ByteArray := prog_13_method_21_code
def yX11_variable : MethodName := ⟨RX11, "variable", "(III)I"⟩
abbrev cX11_findVariables : ByteArray := prog_13_method_22_code
def yX11_findVariables : MethodName := ⟨RX11, "findVariables", "(I)V"⟩
abbrev cX11_isReceived : ByteArray := prog_13_method_23_code
def yX11_isReceived : MethodName := ⟨RX11, "isReceived", "(II)Z"⟩
abbrev cX11_event : ByteArray := prog_13_method_24_code
def yX11_event : MethodName := ⟨RX11, "event", "(IZI)I"⟩
abbrev cX11_know : ByteArray := prog_13_method_25_code
def yX11_know : MethodName := ⟨RX11, "know", "(I)I"⟩
abbrev cX11_isSession : ByteArray := prog_13_method_26_code
def yX11_isSession : MethodName := ⟨RX11, "isSession", "(I)Z"⟩
abbrev cX11_howManyAs : ByteArray := prog_13_method_27_code
def yX11_howManyAs : MethodName := ⟨RX11, "howManyAs", "(II)I"⟩
abbrev cX11_session : ByteArray := prog_13_method_28_code
def yX11_session : MethodName := ⟨RX11, "session", "(IIII)I"⟩
abbrev cX11_claim : ByteArray := prog_13_method_29_code
def yX11_claim : MethodName := ⟨RX11, "claim", "(ZIII)I"⟩
abbrev cX11_secret : ByteArray := prog_13_method_30_code
def yX11_secret : MethodName := ⟨RX11, "secret", "(II)I"⟩
abbrev cX11_agree : ByteArray := prog_13_method_31_code
def yX11_agree : MethodName := ⟨RX11, "agree", "(III)I"⟩
abbrev cX11_join : ByteArray := prog_13_method_32_code
def yX11_join : MethodName := ⟨RX11, "join", "(III)I"⟩
abbrev cX11_begins : ByteArray := prog_13_method_33_code
def yX11_begins : MethodName := ⟨RX11, "begins", "()V"⟩
abbrev cX11_standsFor : ByteArray := prog_13_method_34_code
def yX11_standsFor : MethodName := ⟨RX11, "standsFor", "(II)I"⟩
abbrev cX11_one : ByteArray := prog_13_method_35_code
def yX11_one : MethodName := ⟨RX11, "one", "(II)I"⟩
abbrev cX11_comes : ByteArray := prog_13_method_36_code
def yX11_comes : MethodName := ⟨RX11, "comes", "(III)V"⟩
abbrev cX11_beginRow : ByteArray := prog_13_method_37_code
def yX11_beginRow : MethodName := ⟨RX11, "beginRow", "()V"⟩
abbrev cX11_hasPrivate : ByteArray := prog_13_method_38_code
def yX11_hasPrivate : MethodName := ⟨RX11, "hasPrivate", "(I)Z"⟩
abbrev cX11_isMade : ByteArray := prog_13_method_39_code
def yX11_isMade : MethodName := ⟨RX11, "isMade", "(I)Z"⟩
abbrev cX11_canMake : ByteArray := prog_13_method_40_code
def yX11_canMake : MethodName := ⟨RX11, "canMake", "(I)Z"⟩
abbrev cX11_endRow : ByteArray := prog_13_method_41_code
def yX11_endRow : MethodName := ⟨RX11, "endRow", "()V"⟩
abbrev cX11_takeApart : ByteArray := prog_13_method_42_code
def yX11_takeApart : MethodName := ⟨RX11, "takeApart", "(I)V"⟩
abbrev cX11_isHonest : ByteArray := prog_13_method_43_code
def yX11_isHonest : MethodName := ⟨RX11, "isHonest", "(I)Z"⟩
abbrev cX11_isLost : ByteArray := prog_13_method_44_code
def yX11_isLost : MethodName := ⟨RX11, "isLost", "(I)Z"⟩
abbrev cX11_fits : ByteArray := prog_13_method_45_code
def yX11_fits : MethodName := ⟨RX11, "fits", "(III)Z"⟩
abbrev cX11_isApart : ByteArray := prog_13_method_46_code
def yX11_isApart : MethodName := ⟨RX11, "isApart", "(I)Z"⟩
abbrev cX11_isBroken : ByteArray := prog_13_method_47_code
def yX11_isBroken : MethodName := ⟨RX11, "isBroken", "(I)Z"⟩
abbrev cX11_runRow : ByteArray := prog_13_method_48_code
def yX11_runRow : MethodName := ⟨RX11, "runRow", "()V"⟩
abbrev cX11_begin : ByteArray := prog_13_method_49_code
def yX11_begin : MethodName := ⟨RX11, "begin", "()I"⟩
abbrev cX11_end : ByteArray := prog_13_method_50_code
def yX11_end : MethodName := ⟨RX11, "end", "()I"⟩
abbrev cX11_nextEvent : ByteArray := prog_13_method_51_code
def yX11_nextEvent : MethodName := ⟨RX11, "nextEvent", "(I)I"⟩
abbrev cX11_does : ByteArray := prog_13_method_52_code
def yX11_does : MethodName := ⟨RX11, "does", "(II)V"⟩
abbrev cX11_send : ByteArray := prog_13_method_53_code
def yX11_send : MethodName := ⟨RX11, "send", "(I)I"⟩
abbrev cX11_bindsTo : ByteArray := prog_13_method_54_code
def yX11_bindsTo : MethodName := ⟨RX11, "bindsTo", "(III)I"⟩
abbrev cX11_receive : ByteArray := prog_13_method_55_code
def yX11_receive : MethodName := ⟨RX11, "receive", "(II)I"⟩
abbrev cX11_makes : ByteArray := prog_13_method_56_code
def yX11_makes : MethodName := ⟨RX11, "makes", "(I)I"⟩
abbrev cX11_findOrder : ByteArray := prog_13_method_57_code
def yX11_findOrder : MethodName := ⟨RX11, "findOrder", "(I)V"⟩
abbrev cX11_isOpen : ByteArray := prog_13_method_58_code
def yX11_isOpen : MethodName := ⟨RX11, "isOpen", "(I)Z"⟩
abbrev cX11_inOrder : ByteArray := prog_13_method_59_code
def yX11_inOrder : MethodName := ⟨RX11, "inOrder", "(I)I"⟩
abbrev cX11_lastOf : ByteArray := prog_13_method_60_code
def yX11_lastOf : MethodName := ⟨RX11, "lastOf", "(II)I"⟩
abbrev cX11_lasting : ByteArray := prog_13_method_61_code
def yX11_lasting : MethodName := ⟨RX11, "lasting", "(I)I"⟩
abbrev cX11_row : ByteArray := prog_13_method_62_code
def yX11_row : MethodName := ⟨RX11, "row", "(II)I"⟩
abbrev cX11_stands : ByteArray := prog_13_method_63_code
def yX11_stands : MethodName := ⟨RX11, "stands", "(II)I"⟩
abbrev cX11_done : ByteArray := prog_13_method_64_code
def yX11_done : MethodName := ⟨RX11, "done", "(I)I"⟩
abbrev cX11_broken : ByteArray := prog_13_method_65_code
def yX11_broken : MethodName := ⟨RX11, "broken", "(I)I"⟩
abbrev cX11_undo : ByteArray := prog_13_method_66_code
def yX11_undo : MethodName := ⟨RX11, "undo", "()I"⟩
abbrev cX11_forget : ByteArray := prog_13_method_67_code
def yX11_forget : MethodName := ⟨RX11, "forget", "()V"⟩
abbrev cX11_takeState : ByteArray := prog_13_method_68_code
def yX11_takeState : MethodName := ⟨RX11, "takeState", "(I)V"⟩
abbrev cX11_stateRow : ByteArray := prog_13_method_69_code
def yX11_stateRow : MethodName := ⟨RX11, "stateRow", "()V"⟩
abbrev cX11_isThere : ByteArray := prog_13_method_70_code
def yX11_isThere : MethodName := ⟨RX11, "isThere", "()Z"⟩
abbrev cX11_comesToBe : ByteArray := prog_13_method_71_code
def yX11_comesToBe : MethodName := ⟨RX11, "comesToBe", "(II)I"⟩
abbrev cX11_isOfSort : ByteArray := prog_13_method_72_code
def yX11_isOfSort : MethodName := ⟨RX11, "isOfSort", "(II)Z"⟩
abbrev cX11_nextOf : ByteArray := prog_13_method_73_code
def yX11_nextOf : MethodName := ⟨RX11, "nextOf", "(II)I"⟩
abbrev cX11_howMany : ByteArray := prog_13_method_74_code
def yX11_howMany : MethodName := ⟨RX11, "howMany", "(I)I"⟩
abbrev cX11_receives : ByteArray := prog_13_method_75_code
def yX11_receives : MethodName := ⟨RX11, "receives", "(III)I"⟩
abbrev cX11_goesOn : ByteArray := prog_13_method_76_code
def yX11_goesOn : MethodName := ⟨RX11, "goesOn", "(I)I"⟩
abbrev cX11_noteAttack : ByteArray := prog_13_method_77_code
def yX11_noteAttack : MethodName := ⟨RX11, "noteAttack", "()V"⟩
abbrev cX11_search : ByteArray := prog_13_method_78_code
def yX11_search : MethodName := ⟨RX11, "search", "()I"⟩
abbrev cX11_found : ByteArray := prog_13_method_79_code
def yX11_found : MethodName := ⟨RX11, "found", "(I)I"⟩
abbrev cX11_attack : ByteArray := prog_13_method_80_code
def yX11_attack : MethodName := ⟨RX11, "attack", "(I)I"⟩
abbrev cX11_play : ByteArray := prog_13_method_81_code
def yX11_play : MethodName := ⟨RX11, "play", "(I)I"⟩
abbrev cX11_told : ByteArray := prog_13_method_82_code
def yX11_told : MethodName := ⟨RX11, "told", "(I)I"⟩
abbrev cX11_ofRole : ByteArray := prog_13_method_83_code
def yX11_ofRole : MethodName := ⟨RX11, "ofRole", "(II)I"⟩
abbrev cX11_clear : ByteArray := prog_13_method_84_code
def yX11_clear : MethodName := ⟨RX11, "clear", "()I"⟩
def RJ9 : String := "java/lang/Math"
abbrev cJ9_floorMod_7cf53 : ByteArray := prog_14_method_50_code
def yJ9_floorMod_7cf53 : MethodName := ⟨RJ9, "floorMod", "(II)I"⟩
abbrev cJ9_max_7cf53 : ByteArray := prog_14_method_65_code
def yJ9_max_7cf53 : MethodName := ⟨RJ9, "max", "(II)I"⟩
abbrev cJ9_min_7cf53 : ByteArray := prog_14_method_69_code
def yJ9_min_7cf53 : MethodName := ⟨RJ9, "min", "(II)I"⟩
def RJ10 : String := "java/lang/System"
def RJ7 : String := "java/util/Arrays"
abbrev cJ7_fill_53178 : ByteArray := prog_16_method_103_code
def yJ7_fill_53178 : MethodName := ⟨RJ7, "fill", "([II)V"⟩
def RL : String := "SealProbeLaw"
abbrev cL_law : ByteArray := code
def yL_law : MethodName := ⟨RL, "law", "([I)Z"⟩
abbrev vwCl : List vw_C := [(RX0, TX0, 14), (RX1, TX1, 9), (RX2, TX2, 7), (RX3, TX3, 8), (RX4, TX4, 14), (RX5, TX5, 7), (RX6, TX6, 10), (RX7, TX7, 13), (RX8, TX8, 6), (RX9, TX9, 12), (RX10, TX10, 4), (RX11, TX11, 79)]
end
section
/-! STUB of the tables: to be printed by program -/
def jm_nm (_ : Nat) : MethodName := yL_law
def jm_code (_ : Nat) : ByteArray := code
def jm_maxL (_ : Nat) : Nat := 4
def jm_ret (_ : Nat) : Option FieldType := some .boolean
def jm_own (_ : Nat) : Nat := 0
def jm_cn (_ : Nat) : String := RL
def jm_ins (_ _ : Nat) : Option (Instr × Nat) := none
def jm_fld (_ _ : Nat) : Option (Nat × Nat) := none
def jm_ty (_ _ : Nat) : FieldType := .int
def jm_mth (_ _ : Nat) : Option (Nat × Nat × Nat) := none
def jm_oi (_ _ : Nat) : Bool := false
def jm_ac (_ _ : Nat) : Bool := false
def jm_new (_ _ : Nat) : Option Nat := none
def jm_anew (_ _ : Nat) : Option Nat := none
def jm_mna (_ _ : Nat) : Option (Nat × Nat) := none
def jm_lng (_ _ : Nat) : Option Int64 := none
def jm_aty (_ : Nat) : FieldType := .int
def jm_n : Nat := 1
def jm_nat : Nat := 6
def jm_nf (_ : Nat) : Nat := 0
def jm_fin (_ _ : Nat) : Bool := false
def jm_ael (_ : Nat) : Option Nat := none
def jm_ini (_ : Nat) : Bool := false
def jm_gw : List Cond := lw_tbl.filter goodWord
theorem jm_aty0 : jm_aty 0 = .int := rfl
theorem jm_aty1 : jm_aty 1 = .boolean := sorry
theorem jm_nat2 : 2 ≤ jm_nat := by decide
theorem jm_aref : ∀ t, 2 ≤ t → t < jm_nat → (jm_aty t).isReference = true := sorry
theorem jm_ael_ok : ∀ t ci, jm_ael t = some ci → ∃ r : vw_C, vwCl[ci]? = some r ∧ jm_aty t = .object r.1 := sorry
theorem jm_cl_ok : ∀ (ci : Nat) (C : String) (T : u_T) (N : Nat), vwCl[ci]? = some (C, T, N) → (∀ w ∈ u_ws C T N, w ∈ jm_gw) ∧ (∀ k, k < N → parseFieldDescriptor (T k).2.2.1 = some (jm_ty ci k)) ∧ (∀ a, a < N → ∀ b, b < N → a ≠ b → (T a).2.1 ≠ (T b).2.1) ∧ Cond.instantiable C N ∈ jm_gw ∧ Cond.initialized C ∈ jm_gw ∧ jm_nf ci = N ∧ (∀ k, k < N → (T k).1 = C ∧ (T k).2.2.2 = jm_fin ci k) ∧ jm_cn ci = C := sorry
theorem jm_fld_ok : ∀ k idx ci f, jm_fld k idx = some (ci, f) → ∃ (C : String) (T : u_T) (N : Nat), vwCl[ci]? = some (C, T, N) ∧ f < N ∧ Cond.fieldLink (jm_cn k) idx C (T f).2.1 (T f).2.2.1 ∈ jm_gw := sorry
theorem jm_new_ok : ∀ k idx ci, jm_new k idx = some ci → ∃ (C : String) (T : u_T) (N : Nat), vwCl[ci]? = some (C, T, N) ∧ Cond.classLink (jm_cn k) idx C ∈ jm_gw := sorry
def jm_over : List String := []
theorem jm_anew_ok : ∀ k idx t, jm_anew k idx = some t → 2 ≤ t ∧ t < jm_nat ∧ ∃ C : String, jm_aty t = .object C ∧ C ∈ jm_over ∧ Cond.classLink (jm_cn k) idx C ∈ jm_gw := sorry
theorem jm_mna_ok : ∀ k idx t, jm_mna k idx = some t → 2 ≤ t.1 ∧ t.1 < jm_nat ∧ jm_aty t.1 = .array .int ∧ Cond.classLink (jm_cn k) idx "[[I" ∈ jm_gw ∧ Cond.arrayClass .int ∈ jm_gw := sorry
theorem jm_ar : Cond.arrayClass .int ∈ jm_gw ∧ Cond.arrayClass .boolean ∈ jm_gw := sorry
theorem jm_lng_ok : ∀ k idx v, jm_lng k idx = some v → Cond.constantLong (jm_cn k) idx v ∈ jm_gw := sorry
theorem jm_oi_ok : ∀ k idx, jm_oi k idx = true → Cond.methodLink (jm_cn k) idx objectInit ∈ jm_gw ∧ Cond.instanceMethod objectInit ∈ jm_gw ∧ Cond.code objectInit ⟨#[0xb1]⟩ 1 none ∈ jm_gw := sorry
theorem jm_ac_ok : ∀ k idx, jm_ac k idx = true → Cond.methodLink (jm_cn k) idx arraycopyName ∈ jm_gw ∧ Cond.native arraycopyName ∈ jm_gw ∧ Cond.static arraycopyName ∈ jm_gw ∧ Cond.initialized "java/lang/System" ∈ jm_gw := sorry
theorem jm_ins_ok : ∀ mi pc i n, jm_ins mi pc = some (i, n) → decode (jm_code mi) pc = .ok (i, n) := sorry
theorem jm_y_ok : ∀ y, y < jm_n → Cond.code (jm_nm y) (jm_code y) (jm_maxL y) (jm_ret y) ∈ jm_gw ∧ Cond.initialized (jm_nm y).cls ∈ jm_gw ∧ plainName (jm_nm y).cls = true ∧ (jm_nm y).cls = jm_cn (jm_own y) ∧ ((jm_nm y).cls ≠ "java/lang/invoke/MethodHandle" ∧ (jm_nm y).cls ≠ "java/lang/invoke/VarHandle") ∧ jm_maxL y ≤ 21 ∧ (jm_ini y = true → (jm_nm y).name = "<init>") := sorry
def jm_nest : List Cond := []
def jm_host : String := "SealProbe"
theorem jm_nest_ok : ∀ w ∈ jm_nest, ∃ a i x h, w = Cond.methodLinkNest a i x h := fun _ h => absurd h List.not_mem_nil
theorem jm_mth_ok : ∀ k idx kd y n, jm_mth k idx = some (kd, y, n) → (parseMethodDescriptor (jm_nm y).desc).map (fun d => d.parameters.length) = some n ∧
    ((kd = 0 ∨ kd = 1 ∨ kd = 2) → Cond.methodLink (jm_cn k) idx (jm_nm y) ∈ jm_gw) ∧ ((kd = 3 ∨ kd = 4 ∨ kd = 5) → Cond.methodLinkNest (jm_cn k) idx (jm_nm y) jm_host ∈ jm_nest) ∧
    ((kd = 0 ∨ kd = 3) → Cond.instanceMethod (jm_nm y) ∈ jm_gw ∧ Cond.selects (jm_nm y).cls (jm_nm y) (jm_nm y) ∈ jm_gw ∧ vwCl[jm_own y]?.map (fun q => q.1) = some (jm_nm y).cls) ∧
    ((kd = 1 ∨ kd = 4) → Cond.instanceMethod (jm_nm y) ∈ jm_gw ∧ (jm_nm y).name = "<init>" ∧ jm_ret y = none) ∧ ((kd = 2 ∨ kd = 5) → Cond.static (jm_nm y) ∈ jm_gw) := sorry
end
section
/-! A small interpreter of decoded instructions. References are numbers of cells; .retAddr stands for the law's script, which is no cell of ours. -/
abbrev jC : Type := (Nat × vp_A) ⊕ (Nat × List Value)
abbrev jL : Type := List (Nat × Value)
def jl (lv : jL) (i : Nat) : Option Value := (lv.find? (fun q => q.1 == i)).map (fun q => q.2)
def js1 (lv : jL) (i : Nat) (v : Value) : jL := (i, v) :: lv.filter (fun q => !(q.1 == i) && !(q.1 + 1 == i && q.2.category == 2))
def js2 (lv : jL) (i : Nat) (v : Value) : jL := (i, v) :: lv.filter (fun q => !(q.1 == i) && (!(q.1 == i + 1) && !(q.1 + 1 == i && q.2.category == 2)))
def jt (pc : Nat) (off : Int) : Option Nat := if 0 ≤ (pc : Int) + off then some ((pc : Int) + off).toNat else none
def jcmp (c : ClassFile.Cond) (x y : Int32) : Bool := match c with
  | .eq => decide (x = y)
  | .ne => decide (¬ x = y)
  | .lt => decide (x < y)
  | .ge => decide (y ≤ x)
  | .gt => decide (y < x)
  | .le => decide (x ≤ y)
/-- a load of one slot: an int, null, a reference -/
def jld (lv : jL) (i : Nat) (isInt : Bool) : Option Value := match jl lv i with
  | some (.int x) => if isInt then some (.int x) else none
  | some (.ref a) => if isInt then none else some (.ref a)
  | some (.retAddr a) => if isInt then none else some (.retAddr a)
  | some .null => if isInt then none else some .null
  | _ => none
def jldl (lv : jL) (i : Nat) : Option Value := match jl lv i with
  | some (.long x) => some (.long x)
  | _ => none
abbrev jR : Type := Option (Nat × jL × List Value)
def jpush (pc len : Nat) (lv : jL) (st : List Value) (v : Option Value) : jR := v.map (fun v => (pc + len, lv, v :: st))
def jst1 (mL pc len : Nat) (lv : jL) (i : Nat) (isInt : Bool) (st : List Value) : jR := match st with
  | .int x :: st => if isInt = true ∧ i < mL then some (pc + len, js1 lv i (.int x), st) else none
  | .ref a :: st => if isInt = false ∧ i < mL then some (pc + len, js1 lv i (.ref a), st) else none
  | .null :: st => if isInt = false ∧ i < mL then some (pc + len, js1 lv i .null, st) else none
  | _ => none
def jst2 (mL pc len : Nat) (lv : jL) (i : Nat) (st : List Value) : jR := match st with
  | .long x :: st => if i + 1 < mL then some (pc + len, js2 lv i (.long x), st) else none
  | _ => none
def jbin (pc : Nat) (lv : jL) (f : Int32 → Int32 → Int32) (st : List Value) : jR := match st with
  | .int y :: .int x :: st => some (pc + 1, lv, .int (f x y) :: st)
  | _ => none
def jbil (pc : Nat) (lv : jL) (f : Int64 → Int64 → Int64) (st : List Value) : jR := match st with
  | .long y :: .long x :: st => some (pc + 1, lv, .long (f x y) :: st)
  | _ => none
def jgo (pc : Nat) (lv : jL) (st : List Value) (off : Int) : jR := (jt pc off).map (fun t => (t, lv, st))
def jbr (pc : Nat) (lv : jL) (st : List Value) (off : Int) (b : Bool) : jR := (jt pc off).map (fun t => (if b then t else pc + 3, lv, st))
/-- instructions that neither read nor change a cell -/
def jA (k mL pc len : Nat) (lv : jL) (st : List Value) (i : Instr) : jR := match i with
  | .iconst n => jpush pc 1 lv st (some (.int (Int32.ofInt n)))
  | .bipush n => jpush pc 2 lv st (some (.int (Int8.ofInt n).toInt32))
  | .sipush n => jpush pc 3 lv st (some (.int (Int16.ofInt n).toInt32))
  | .lconst n => jpush pc 1 lv st (some (.long (Int64.ofNat (n : Nat))))
  | .ldc2_w idx => jpush pc 3 lv st ((jm_lng k idx).map .long)
  | .aconst_null => jpush pc 1 lv st (some .null)
  | .iload i => jpush pc 2 lv st (jld lv i true)
  | .iload_n i => jpush pc 1 lv st (jld lv i true)
  | .aload i => jpush pc 2 lv st (jld lv i false)
  | .aload_n i => jpush pc 1 lv st (jld lv i false)
  | .lload i => jpush pc 2 lv st (jldl lv i)
  | .lload_n i => jpush pc 1 lv st (jldl lv i)
  | .istore i => jst1 mL pc 2 lv i true st
  | .istore_n i => jst1 mL pc 1 lv i true st
  | .astore i => jst1 mL pc 2 lv i false st
  | .astore_n i => jst1 mL pc 1 lv i false st
  | .lstore i => jst2 mL pc 2 lv i st
  | .lstore_n i => jst2 mL pc 1 lv i st
  | .iinc i n => match jld lv i true with
    | some (.int x) => if i < mL then some (pc + 3, js1 lv i (.int (x + Int32.ofInt n)), st) else none
    | _ => none
  | .iadd => jbin pc lv (fun x y => x + y) st
  | .isub => jbin pc lv (fun x y => x - y) st
  | .imul => jbin pc lv (fun x y => x * y) st
  | .iand => jbin pc lv (fun x y => x &&& y) st
  | .ior => jbin pc lv (fun x y => x ||| y) st
  | .ixor => jbin pc lv (fun x y => x ^^^ y) st
  | .ishl => jbin pc lv (fun x y => x <<< (y &&& 31)) st
  | .ishr => jbin pc lv (fun x y => x >>> (y &&& 31)) st
  | .iushr => jbin pc lv (fun x y => (x.toUInt32 >>> (y.toUInt32 &&& Int32.toUInt32 31)).toInt32) st
  | .idiv => match st with
    | .int y :: .int x :: st => if y = 0 then none else some (pc + 1, lv, .int (x / y) :: st)
    | _ => none
  | .irem => match st with
    | .int y :: .int x :: st => if y = 0 then none else some (pc + 1, lv, .int (x - x / y * y) :: st)
    | _ => none
  | .ineg => match st with
    | .int x :: st => some (pc + 1, lv, .int (-x) :: st)
    | _ => none
  | .i2l => match st with
    | .int x :: st => some (pc + 1, lv, .long x.toInt64 :: st)
    | _ => none
  | .l2i => match st with
    | .long x :: st => some (pc + 1, lv, .int x.toInt32 :: st)
    | _ => none
  | .ladd => jbil pc lv (fun x y => x + y) st
  | .lmul => jbil pc lv (fun x y => x * y) st
  | .lcmp => match st with
    | .long y :: .long x :: st => some (pc + 1, lv, .int (lg_cmp x y) :: st)
    | _ => none
  | .dup => match st with
    | v :: st => if v.category = 1 then some (pc + 1, lv, v :: v :: st) else none
    | _ => none
  | .pop => match st with
    | v :: st => if v.category = 1 then some (pc + 1, lv, st) else none
    | _ => none
  | .dup2 => match st with
    | v :: w :: st => if v.category = 1 ∧ w.category = 1 then some (pc + 1, lv, v :: w :: v :: w :: st) else none
    | _ => none
  | .ifCond c off => match st with
    | .int x :: st => jbr pc lv st off (jcmp c x 0)
    | _ => none
  | .if_icmp c off => match st with
    | .int y :: .int x :: st => jbr pc lv st off (jcmp c x y)
    | _ => none
  | .goto off => jgo pc lv st off
  | .ifnull off => match st with
    | .null :: st => jgo pc lv st off
    | .ref _ :: st => some (pc + 3, lv, st)
    | _ => none
  | .ifnonnull off => match st with
    | .ref _ :: st => jgo pc lv st off
    | .null :: st => some (pc + 3, lv, st)
    | _ => none
  | .tableswitch dflt lo hi offs => match st with
    | .int x :: st => if x.toInt < lo ∨ hi < x.toInt then jgo pc lv st dflt else
        match offs[(x.toInt - lo).toNat]? with
        | some off => jgo pc lv st off
        | none => none
    | _ => none
  | _ => none
/-- how long an instruction is (0: any length, or none of ours) -/
def jlen (i : Instr) : Nat := match i with
  | .iconst _ | .lconst _ | .aconst_null | .iload_n _ | .aload_n _ | .lload_n _ | .istore_n _ | .astore_n _ | .lstore_n _ => 1
  | .iadd | .isub | .imul | .iand | .ior | .ixor | .ishl | .ishr | .iushr | .idiv | .irem | .ineg | .i2l | .l2i | .ladd | .lmul | .lcmp | .dup | .pop | .dup2 => 1
  | .bipush _ | .iload _ | .aload _ | .lload _ | .istore _ | .astore _ | .lstore _ | .newarray _ => 2
  | .sipush _ | .ldc2_w _ | .iinc _ _ | .ifCond _ _ | .if_icmp _ _ | .goto _ | .ifnull _ | .ifnonnull _ => 3
  | .getfield _ | .putfield _ | .new _ | .anewarray _ | .invokevirtual _ | .invokespecial _ | .invokestatic _ => 3
  | .iaload | .iastore | .baload | .bastore | .aaload | .aastore | .arraylength | .ireturn | .lreturn | .areturn | .return_ => 1
  | .multianewarray _ _ => 4
  | _ => 0
def jin (i : Int32) (n : Nat) : Bool := decide (¬ (i < 0 ∨ n ≤ i.toNatClampNeg))
/-- which values a place of a type takes -/
def jfit (ty : FieldType) (v : Value) : Bool := match ty, v with
  | .int, .int _ => true
  | .boolean, .int x => decide (x = 0 ∨ x = 1)
  | .long, .long _ => true
  | .object _, .ref _ => true
  | .object _, .null => true
  | .array _, .ref _ => true
  | .array _, .null => true
  | _, _ => false
def jrf (r : Option Nat) : Value := match r with
  | none => .null
  | some a => .ref a
abbrev jS : Type := Option (Nat × jL × List Value × List jC)
/-- the cell at a number, put anew -/
def jset (pc len : Nat) (lv : jL) (st : List Value) (h : List jC) (a : Nat) (c : jC) : jS := some (pc + len, lv, st, h.set a c)
/-- instructions that read, change or make a cell -/
def jH (L : Nat) (xs : Nat → Int32) (isLaw ini : Bool) (k pc : Nat) (lv : jL) (st : List Value) (h : List jC) (i : Instr) : jS := match i with
  | .getfield idx => match st with
    | .ref a :: st => match jm_fld k idx, h[a]? with
      | some (ci, f), some (.inr (ci', fs)) => if ci = ci' then (fs[f]?).map (fun v => (pc + 3, lv, v :: st, h)) else none
      | _, _ => none
    | _ => none
  | .putfield idx => match st with
    | v :: .ref a :: st => match jm_fld k idx, h[a]? with
      | some (ci, f), some (.inr (ci', fs)) => if ci = ci' ∧ f < fs.length ∧ jfit (jm_ty ci f) v = true ∧ (jm_fin ci f = false ∨ ini = true ∧ k = ci) then jset pc 3 lv st h a (.inr (ci, fs.set f v)) else none
      | _, _ => none
    | _ => none
  | .iaload => match st with
    | .int j :: .ref a :: st => match h[a]? with
      | some (.inl (t, n, .inl f)) => if t = 0 ∧ jin j n = true then some (pc + 1, lv, .int (f j.toNatClampNeg) :: st, h) else none
      | _ => none
    | .int j :: .retAddr _ :: st => if isLaw = true ∧ jin j L = true then some (pc + 1, lv, .int (xs j.toNatClampNeg) :: st, h) else none
    | _ => none
  | .baload => match st with
    | .int j :: .ref a :: st => match h[a]? with
      | some (.inl (t, n, .inl f)) => if t = 1 ∧ jin j n = true then some (pc + 1, lv, .int (f j.toNatClampNeg) :: st, h) else none
      | _ => none
    | _ => none
  | .aaload => match st with
    | .int j :: .ref a :: st => match h[a]? with
      | some (.inl (t, n, .inr (.inr (.inr (.inr f))))) => if 2 ≤ t ∧ t < jm_nat ∧ jin j n = true then some (pc + 1, lv, jrf (f j.toNatClampNeg) :: st, h) else none
      | _ => none
    | _ => none
  | .arraylength => match st with
    | .ref a :: st => match h[a]? with
      | some (.inl (t, n, _)) => if t < jm_nat then some (pc + 1, lv, .int (Int32.ofNat n) :: st, h) else none
      | _ => none
    | .retAddr _ :: st => if isLaw = true then some (pc + 1, lv, .int (Int32.ofNat L) :: st, h) else none
    | _ => none
  | .iastore => match st with
    | .int x :: .int j :: .ref a :: st => match h[a]? with
      | some (.inl (t, n, .inl f)) => if t = 0 ∧ jin j n = true then jset pc 1 lv st h a (.inl (t, n, .inl (upd f j.toNatClampNeg x))) else none
      | _ => none
    | _ => none
  | .bastore => match st with
    | .int x :: .int j :: .ref a :: st => match h[a]? with
      | some (.inl (t, n, .inl f)) => if t = 1 ∧ jin j n = true ∧ (x = 0 ∨ x = 1) then jset pc 1 lv st h a (.inl (t, n, .inl (upd f j.toNatClampNeg x))) else none
      | _ => none
    | _ => none
  | .aastore => match st with
    | .ref v :: .int j :: .ref a :: st => match h[a]?, h[v]? with
      | some (.inl (t, n, .inr (.inr (.inr (.inr f))))), some (.inr (ci, _)) => if jm_ael t = some ci ∧ t < jm_nat ∧ jin j n = true then jset pc 1 lv st h a (.inl (t, n, .inr (.inr (.inr (.inr (va_up f j.toNatClampNeg (some v))))))) else none
      | _, _ => none
    | _ => none
  | .new idx => match jm_new k idx with
    | some ci => some (pc + 3, lv, .ref h.length :: st, h ++ [.inr (ci, (List.range (jm_nf ci)).map (fun j => defaultValue (jm_ty ci j)))])
    | none => none
  | .newarray ty => match st with
    | .int n :: st => if ¬ n < 0 ∧ n.toNatClampNeg ≤ 100000 then
        (match newarray.typeOf ty with
        | .int => some (pc + 2, lv, .ref h.length :: st, h ++ [.inl (0, n.toNatClampNeg, .inl (fun _ => 0))])
        | .boolean => some (pc + 2, lv, .ref h.length :: st, h ++ [.inl (1, n.toNatClampNeg, .inl (fun _ => 0))])
        | _ => none) else none
    | _ => none
  | .anewarray idx => match st, jm_anew k idx with
    | .int n :: st, some t => if ¬ n < 0 ∧ n.toNatClampNeg ≤ 100000 then some (pc + 3, lv, .ref h.length :: st, h ++ [.inl (t, n.toNatClampNeg, .inr (.inr (.inr (.inr (fun _ => none)))))]) else none
    | _, _ => none
  | .multianewarray idx 2 => match st, jm_mna k idx with
    | .int w :: .int n :: st, some t => if t.2 = 0 ∧ ¬ n < 0 ∧ ¬ w < 0 ∧ n.toNatClampNeg ≤ 1000 ∧ w.toNatClampNeg ≤ 1000 then
        some (pc + 4, lv, .ref h.length :: st, (h ++ [.inl (t.1, n.toNatClampNeg, .inr (.inr (.inr (.inr (fun i => if i < n.toNatClampNeg then some (h.length + 1 + i) else none)))))]) ++ List.replicate n.toNatClampNeg (.inl (0, w.toNatClampNeg, .inl (fun _ => 0)))) else none
    | _, _ => none
  | .invokestatic idx => match st with
    | .int n :: .int dp :: .ref a :: .int sp :: .ref a0 :: st => match jm_ac k idx, h[a0]?, h[a]? with
      | true, some (.inl (t0, n0, .inl f)), some (.inl (t1, n1, .inl g)) => if t0 = 0 ∧ t1 = 0 ∧ ¬ sp < 0 ∧ ¬ dp < 0 ∧ ¬ n < 0 ∧ sp.toNatClampNeg + n.toNatClampNeg ≤ n0 ∧ dp.toNatClampNeg + n.toNatClampNeg ≤ n1 ∧ (st.map fun v => v.category).sum ≤ 8 then
          jset pc 3 lv st h a (.inl (t1, n1, .inl (va_cpy f g sp.toNatClampNeg dp.toNatClampNeg n.toNatClampNeg))) else none
      | _, _, _ => none
    | _ => none
  | .invokespecial idx => match st with
    | .ref _ :: st => if jm_oi k idx = true ∧ (st.map fun v => v.category).sum ≤ 8 then some (pc + 3, lv, st, h) else none
    | _ => none
  | _ => none
/-- a call: who, its arguments (the receiver first), what stays below them -/
def jcall (k : Nat) (st : List Value) (h : List jC) (i : Instr) : Option (Nat × List Value × List Value) := match i with
  | .invokevirtual idx => match jm_mth k idx with
    | some (kd, y, n) => if (kd = 0 ∨ kd = 3) ∧ n ≤ st.length then
        (match st.drop n with
        | .ref a :: rest => (match h[a]? with
          | some (.inr (ci, _)) => if jm_own y = ci ∧ (rest.map fun v => v.category).sum ≤ 8 then some (y, .ref a :: (st.take n).reverse, rest) else none
          | _ => none)
        | _ => none) else none
    | none => none
  | .invokespecial idx => match jm_mth k idx with
    | some (kd, y, n) => if (kd = 1 ∨ kd = 4) ∧ n ≤ st.length then
        (match st.drop n with
        | .ref a :: rest => if (rest.map fun v => v.category).sum ≤ 8 then some (y, .ref a :: (st.take n).reverse, rest) else none
        | _ => none) else none
    | none => none
  | .invokestatic idx => match jm_mth k idx with
    | some (kd, y, n) => if (kd = 2 ∨ kd = 5) ∧ n ≤ st.length ∧ ((st.drop n).map fun v => v.category).sum ≤ 8 then some (y, (st.take n).reverse, st.drop n) else none
    | none => none
  | _ => none
/-- an end -/
def jend (mi : Nat) (st : List Value) (i : Instr) : Option (Option Value) := match i, st, jm_ret mi with
  | .ireturn, [.int x], some ty => if jfit ty (.int x) = true then some (some (.int x)) else none
  | .lreturn, [.long x], some .long => some (some (.long x))
  | .areturn, [.ref a], some ty => if jfit ty (.ref a) = true then some (some (.ref a)) else none
  | .areturn, [.null], some ty => if jfit ty .null = true then some (some .null) else none
  | .return_, [], none => some none
  | _, _, _ => none
def jstep (L : Nat) (xs : Nat → Int32) (d mi pc : Nat) (lv : jL) (st : List Value) (h : List jC) (i : Instr) (len : Nat) : jS :=
  match jA (jm_own mi) (jm_maxL mi) pc len lv st i with
  | some (pc', lv', st') => some (pc', lv', st', h)
  | none => if d = 0 then none else jH L xs (decide (mi = 0)) (jm_ini mi) (jm_own mi) pc lv st h i
def jrun (L : Nat) (xs : Nat → Int32) : Nat → Nat → Nat → Nat → jL → List Value → List jC → Option (Option Value × List jC)
  | 0, _, _, _, _, _, _ => none
  | n + 1, d, mi, pc, lv, st, h => match jm_ins mi pc with
    | none => none
    | some (i, len) => if jlen i = 0 ∨ len = jlen i then
        (match jend mi st i with
        | some r => some (r, h)
        | none => match jcall (jm_own mi) st h i, d with
          | some (y, as, rest), d' + 1 => if y ≠ 0 ∧ y < jm_n ∧ (lg_sl as).length ≤ jm_maxL y then
              (match jrun L xs n d' y 0 (lv_args 0 as) [] h with
              | some (r, h1) => jrun L xs n (d' + 1) mi (pc + 3) lv (r.toList ++ rest) h1
              | none => none) else none
          | some _, 0 => none
          | none, d => match jstep L xs d mi pc lv st h i len with
            | some (pc', lv', st', h') => jrun L xs n d mi pc' lv' st' h'
            | none => none) else none
end
section
def jv (b b0 : Nat) (v : Value) : Value := match v with
  | .ref a => .ref (b0 + a)
  | .retAddr _ => .ref b
  | v => v
def jlv (b b0 : Nat) (lv : jL) : jL := lv.map (fun q => (q.1, jv b b0 q.2))
theorem jv_cat (b b0 : Nat) (v : Value) : (jv b b0 v).category = v.category := by
  cases v <;> rfl
theorem jl_mem {lv : jL} {i : Nat} {v : Value} (h : jl lv i = some v) : (i, v) ∈ lv := by
  unfold jl at h
  cases hf : lv.find? (fun q => q.1 == i) with
  | none => rw [hf] at h; cases h
  | some q =>
    rw [hf] at h
    have h1 := List.mem_of_find?_eq_some hf
    have h2 := List.find?_some hf
    cases h
    simp at h2
    rw [← h2]
    exact h1
theorem jl_has {b b0 : Nat} {lv : jL} {i : Nat} {v : Value} {ls : Array Slot} {mL : Nat} (hl : lv_has ls mL (jlv b b0 lv)) (h : jl lv i = some v) : ls[i]? = some (.val (jv b b0 v)) :=
  hl.2.2 (i, jv b b0 v) (List.mem_map.mpr ⟨(i, v), jl_mem h, rfl⟩)
theorem jlv_js1 (b b0 : Nat) (lv : jL) (i : Nat) (v : Value) : (i, jv b b0 v) :: (jlv b b0 lv).filter (fun q => !(q.1 == i) && !(q.1 + 1 == i && q.2.category == 2)) = jlv b b0 (js1 lv i v) := by
  unfold jlv js1
  rw [List.filter_map]
  simp only [List.map_cons]
  congr 2
  apply List.filter_congr
  intro q _
  simp [jv_cat]
theorem jlv_js2 (b b0 : Nat) (lv : jL) (i : Nat) (v : Value) : (i, jv b b0 v) :: (jlv b b0 lv).filter (fun q => !(q.1 == i) && (!(q.1 == i + 1) && !(q.1 + 1 == i && q.2.category == 2))) = jlv b b0 (js2 lv i v) := by
  unfold jlv js2
  rw [List.filter_map]
  simp only [List.map_cons]
  congr 2
  apply List.filter_congr
  intro q _
  simp [jv_cat]
theorem jt_spec {pc t : Nat} {off : Int} (h : jt pc off = some t) : (pc : Int) + off = (t : Int) := by
  unfold jt at h
  split at h
  · cases h; omega
  · cases h
section JA
variable {p : Program} {l : Launch} {e : Env} {R : Room} {s : State} {m : MethodId} {args : Array Value} {below : List Frame} {meth : Method} {c : Code} {H : Heap} {locs : List Loc} {cells slots : Nat} {Q : State → Prop}
variable {cc : ByteArray} {b b0 k mL pc len : Nat} {ls : Array Slot} {lv : jL} {st : List Value}
/-- what is to be shown behind a step of kind A -/
def jK (p : Program) (l : Launch) (e : Env) (R : Room) (s : State) (m : MethodId) (args : Array Value) (below : List Frame) (meth : Method) (c : Code) (H : Heap) (locs : List Loc) (cells slots : Nat) (Q : State → Prop) (b b0 mL : Nat) (r : Nat × jL × List Value) : Prop :=
  ∀ ls' : Array Slot, lv_has ls' mL (jlv b b0 r.2.1) → W p l e R s m args below meth c H locs cells slots Q (F0 m r.1 ls' (r.2.2.map (jv b b0)))
theorem jp_push {r : Nat × jL × List Value} {v : Option Value} (hs : jpush pc len lv st v = some r) (hl : lv_has ls mL (jlv b b0 lv)) (kk : jK p l e R s m args below meth c H locs cells slots Q b b0 mL r) : ∃ w, v = some w ∧ W p l e R s m args below meth c H locs cells slots Q (F0 m (pc + len) ls (jv b b0 w :: st.map (jv b b0))) := by
  unfold jpush at hs
  cases v with
  | none => cases hs
  | some w =>
    cases hs
    exact ⟨w, rfl, kk ls hl⟩
theorem jp_bin {r : Nat × jL × List Value} {f : Int32 → Int32 → Int32} (hs : jbin pc lv f st = some r) (hl : lv_has ls mL (jlv b b0 lv)) (kk : jK p l e R s m args below meth c H locs cells slots Q b b0 mL r)
    (row : ∀ (x y : Int32) (rest : List Value), W p l e R s m args below meth c H locs cells slots Q (F0 m (pc + 1) ls (.int (f x y) :: rest)) → W p l e R s m args below meth c H locs cells slots Q (F0 m pc ls (.int y :: .int x :: rest))) : W p l e R s m args below meth c H locs cells slots Q (F0 m pc ls (st.map (jv b b0))) := by
  unfold jbin at hs
  split at hs
  · cases hs
    exact row _ _ _ (kk ls hl)
  · cases hs
theorem jp_bil {r : Nat × jL × List Value} {f : Int64 → Int64 → Int64} (hs : jbil pc lv f st = some r) (hl : lv_has ls mL (jlv b b0 lv)) (kk : jK p l e R s m args below meth c H locs cells slots Q b b0 mL r)
    (row : ∀ (x y : Int64) (rest : List Value), W p l e R s m args below meth c H locs cells slots Q (F0 m (pc + 1) ls (.long (f x y) :: rest)) → W p l e R s m args below meth c H locs cells slots Q (F0 m pc ls (.long y :: .long x :: rest))) : W p l e R s m args below meth c H locs cells slots Q (F0 m pc ls (st.map (jv b b0))) := by
  unfold jbil at hs
  split at hs
  · cases hs
    exact row _ _ _ (kk ls hl)
  · cases hs
theorem jp_go {r : Nat × jL × List Value} {off : Int} (hs : jgo pc lv st off = some r) (hl : lv_has ls mL (jlv b b0 lv)) (kk : jK p l e R s m args below meth c H locs cells slots Q b b0 mL r) : ∃ t : Nat, (pc : Int) + off = (t : Int) ∧ W p l e R s m args below meth c H locs cells slots Q (F0 m t ls (st.map (jv b b0))) := by
  unfold jgo at hs
  cases ht : jt pc off with
  | none => rw [ht] at hs; cases hs
  | some t =>
    rw [ht] at hs
    cases hs
    exact ⟨t, jt_spec ht, kk ls hl⟩
theorem jp_ldi {i : Nat} {w : Value} (h : jld lv i true = some w) : ∃ x, w = .int x ∧ jl lv i = some (.int x) := by
  unfold jld at h
  split at h <;> simp at h
  next x hx => exact ⟨x, h.symm, hx⟩
theorem jp_lda {i : Nat} {w : Value} (h : jld lv i false = some w) : jl lv i = some w ∧ (w = .null ∨ (∃ a, w = .ref a) ∨ ∃ a, w = .retAddr a) := by
  unfold jld at h
  split at h <;> simp at h
  next a ha => subst h; exact ⟨ha, Or.inr (Or.inl ⟨a, rfl⟩)⟩
  next a ha => subst h; exact ⟨ha, Or.inr (Or.inr ⟨a, rfl⟩)⟩
  next ha => subst h; exact ⟨ha, Or.inl rfl⟩
theorem jp_ldl {i : Nat} {w : Value} (h : jldl lv i = some w) : ∃ x, w = .long x ∧ jl lv i = some (.long x) := by
  unfold jldl at h
  split at h <;> simp at h
  next x hx => exact ⟨x, h.symm, hx⟩
end JA
end
section
section JB
variable {p : Program} {l : Launch} {e : Env} {R : Room} {s : State} {m : MethodId} {args : Array Value} {below : List Frame} {meth : Method} {c : Code} {H : Heap} {locs : List Loc} {cells slots : Nat} {Q : State → Prop}
variable {cc : ByteArray} {b b0 k mL pc len : Nat} {ls : Array Slot} {lv : jL} {st : List Value}
theorem jq_len {i : Instr} {n : Nat} (hn : jlen i = n) (h0 : n ≠ 0) (hlen : jlen i = 0 ∨ len = jlen i) (hd : decode cc pc = .ok (i, len)) : decode cc pc = .ok (i, n) := by
  rcases hlen with h | h
  · exact absurd (hn.symm.trans h) h0
  · rw [← hn, ← h]; exact hd
theorem jb_st1i {i : Nat} {r : Nat × jL × List Value} (hs : jst1 mL pc len lv i true st = some r) : ∃ x rest, st = .int x :: rest ∧ i < mL ∧ r = (pc + len, js1 lv i (.int x), rest) := by
  unfold jst1 at hs
  split at hs <;> simp at hs
  next x rest => exact ⟨x, rest, rfl, hs.1, hs.2.symm⟩
theorem jb_st1a {i : Nat} {r : Nat × jL × List Value} (hs : jst1 mL pc len lv i false st = some r) : ∃ v rest, st = v :: rest ∧ (v = .null ∨ ∃ a, v = .ref a) ∧ i < mL ∧ r = (pc + len, js1 lv i v, rest) := by
  unfold jst1 at hs
  split at hs <;> simp at hs
  next a rest => exact ⟨_, rest, rfl, Or.inr ⟨a, rfl⟩, hs.1, hs.2.symm⟩
  next rest => exact ⟨_, rest, rfl, Or.inl rfl, hs.1, hs.2.symm⟩
theorem jb_st2 {i : Nat} {r : Nat × jL × List Value} (hs : jst2 mL pc len lv i st = some r) : ∃ x rest, st = .long x :: rest ∧ i + 1 < mL ∧ r = (pc + len, js2 lv i (.long x), rest) := by
  unfold jst2 at hs
  split at hs <;> simp at hs
  next x rest => exact ⟨x, rest, rfl, hs.1, hs.2.symm⟩

theorem jb_if (hx : p.tables.exec = Jvm.exec) (hb : c.code = cc) {cd : ClassFile.Cond} {off : Int} (hd : decode cc pc = .ok (.ifCond cd off, 3)) {x : Int32} {r : Nat × jL × List Value} (hs : jbr pc lv st off (jcmp cd x 0) = some r) (hl : lv_has ls mL (jlv b b0 lv)) (kk : jK p l e R s m args below meth c H locs cells slots Q b b0 mL r) :
    W p l e R s m args below meth c H locs cells slots Q (F0 m pc ls (.int x :: st.map (jv b b0))) := by
  unfold jbr at hs
  cases ht0 : jt pc off with
  | none => rw [ht0] at hs; cases hs
  | some t =>
    rw [ht0] at hs
    cases hs
    have ht := jt_spec ht0
    have hW := kk ls hl
    dsimp only at hW
    cases cd with
    | eq => exact lv_if_eq hx hb hd ht (fun h => by rw [show jcmp .eq x 0 = true from decide_eq_true h] at hW; exact hW) (fun h => by rw [show jcmp .eq x 0 = false from decide_eq_false h] at hW; exact hW)
    | ne => exact lv_if_ne hx hb hd ht (fun h => by rw [show jcmp .ne x 0 = true from decide_eq_true h] at hW; exact hW) (fun h => by rw [show jcmp .ne x 0 = false from decide_eq_false (fun g => g h)] at hW; exact hW)
    | lt => exact lv_if_lt hx hb hd ht (fun h => by rw [show jcmp .lt x 0 = true from decide_eq_true h] at hW; exact hW) (fun h => by rw [show jcmp .lt x 0 = false from decide_eq_false h] at hW; exact hW)
    | ge => exact lv_if_ge hx hb hd ht (fun h => by rw [show jcmp .ge x 0 = true from decide_eq_true h] at hW; exact hW) (fun h => by rw [show jcmp .ge x 0 = false from decide_eq_false h] at hW; exact hW)
    | gt => exact lv_if_gt hx hb hd ht (fun h => by rw [show jcmp .gt x 0 = true from decide_eq_true h] at hW; exact hW) (fun h => by rw [show jcmp .gt x 0 = false from decide_eq_false h] at hW; exact hW)
    | le => exact lv_if_le hx hb hd ht (fun h => by rw [show jcmp .le x 0 = true from decide_eq_true h] at hW; exact hW) (fun h => by rw [show jcmp .le x 0 = false from decide_eq_false h] at hW; exact hW)
theorem jb_icmp (hx : p.tables.exec = Jvm.exec) (hb : c.code = cc) {cd : ClassFile.Cond} {off : Int} (hd : decode cc pc = .ok (.if_icmp cd off, 3)) {x y : Int32} {r : Nat × jL × List Value} (hs : jbr pc lv st off (jcmp cd x y) = some r) (hl : lv_has ls mL (jlv b b0 lv)) (kk : jK p l e R s m args below meth c H locs cells slots Q b b0 mL r) :
    W p l e R s m args below meth c H locs cells slots Q (F0 m pc ls (.int y :: .int x :: st.map (jv b b0))) := by
  unfold jbr at hs
  cases ht0 : jt pc off with
  | none => rw [ht0] at hs; cases hs
  | some t =>
    rw [ht0] at hs
    cases hs
    have ht := jt_spec ht0
    have hW := kk ls hl
    dsimp only at hW
    cases cd with
    | eq => exact lv_icmp_eq hx hb hd ht (fun h => by rw [show jcmp .eq x y = true from decide_eq_true h] at hW; exact hW) (fun h => by rw [show jcmp .eq x y = false from decide_eq_false h] at hW; exact hW)
    | ne => exact lv_icmp_ne hx hb hd ht (fun h => by rw [show jcmp .ne x y = true from decide_eq_true h] at hW; exact hW) (fun h => by rw [show jcmp .ne x y = false from decide_eq_false (fun g => g h)] at hW; exact hW)
    | lt => exact lv_icmp_lt hx hb hd ht (fun h => by rw [show jcmp .lt x y = true from decide_eq_true h] at hW; exact hW) (fun h => by rw [show jcmp .lt x y = false from decide_eq_false h] at hW; exact hW)
    | ge => exact lv_icmp_ge hx hb hd ht (fun h => by rw [show jcmp .ge x y = true from decide_eq_true h] at hW; exact hW) (fun h => by rw [show jcmp .ge x y = false from decide_eq_false h] at hW; exact hW)
    | gt => exact lv_icmp_gt hx hb hd ht (fun h => by rw [show jcmp .gt x y = true from decide_eq_true h] at hW; exact hW) (fun h => by rw [show jcmp .gt x y = false from decide_eq_false h] at hW; exact hW)
    | le => exact lv_icmp_le hx hb hd ht (fun h => by rw [show jcmp .le x y = true from decide_eq_true h] at hW; exact hW) (fun h => by rw [show jcmp .le x y = false from decide_eq_false h] at hW; exact hW)
set_option maxHeartbeats 4000000 in
theorem ja_ok (hx : p.tables.exec = Jvm.exec) (hb : c.code = cc) (hown : s.vm.findClass (jm_cn k) = some m.cls) (hlng : ∀ (idx : Nat) (v : Int64), jm_lng k idx = some v → (Jvm.Cond.constantLong (jm_cn k) idx v).before args s = true) {i : Instr} (hlen : jlen i = 0 ∨ len = jlen i) (hd : decode cc pc = .ok (i, len)) {r : Nat × jL × List Value}
    (hs : jA k mL pc len lv st i = some r) (hl : lv_has ls mL (jlv b b0 lv)) (kk : jK p l e R s m args below meth c H locs cells slots Q b b0 mL r) :
    W p l e R s m args below meth c H locs cells slots Q (F0 m pc ls (st.map (jv b b0))) := by
  have L1 : ∀ {i : Instr} {n : Nat}, jlen i = n → n ≠ 0 → (jlen i = 0 ∨ len = jlen i) → decode cc pc = .ok (i, len) → decode cc pc = .ok (i, n) := fun a b c d => jq_len a b c d
  cases i with
  | iconst n => exact (let ⟨w, hw, hW⟩ := jp_push hs hl kk; by cases hw; exact lv_iconst hx hb (jq_len rfl (by decide) hlen hd) rfl hW)
  | bipush n => exact (let ⟨w, hw, hW⟩ := jp_push hs hl kk; by cases hw; exact lv_bipush hx hb (jq_len rfl (by decide) hlen hd) rfl hW)
  | sipush n => exact (let ⟨w, hw, hW⟩ := jp_push hs hl kk; by cases hw; exact lv_sipush hx hb (jq_len rfl (by decide) hlen hd) rfl hW)
  | lconst n => exact (let ⟨w, hw, hW⟩ := jp_push hs hl kk; by cases hw; exact lv_lconst hx hb (jq_len rfl (by decide) hlen hd) rfl hW)
  | aconst_null => exact (let ⟨w, hw, hW⟩ := jp_push hs hl kk; by cases hw; exact lv_null hx hb (jq_len rfl (by decide) hlen hd) hW)
  | ldc2_w idx => 
    obtain ⟨w, hw, hW⟩ := jp_push hs hl kk
    cases hv : jm_lng k idx with
    | none => rw [hv] at hw; cases hw
    | some v =>
      rw [hv] at hw
      cases hw
      exact lv_ldc2 hx hb hown (hlng idx v hv) (jq_len rfl (by decide) hlen hd) hW
  | iload i => 
    obtain ⟨w, hw, hW⟩ := jp_push hs hl kk
    obtain ⟨x, rfl, hx1⟩ := jp_ldi hw
    exact lv_iload hx hb (jq_len rfl (by decide) hlen hd) (jl_has hl hx1) hW
  | iload_n i => 
    obtain ⟨w, hw, hW⟩ := jp_push hs hl kk
    obtain ⟨x, rfl, hx1⟩ := jp_ldi hw
    exact lv_iload_n hx hb (jq_len rfl (by decide) hlen hd) rfl (jl_has hl hx1) hW
  | lload i => 
    obtain ⟨w, hw, hW⟩ := jp_push hs hl kk
    obtain ⟨x, rfl, hx1⟩ := jp_ldl hw
    exact lv_lload hx hb (jq_len rfl (by decide) hlen hd) (jl_has hl hx1) hW
  | lload_n i => 
    obtain ⟨w, hw, hW⟩ := jp_push hs hl kk
    obtain ⟨x, rfl, hx1⟩ := jp_ldl hw
    exact lv_lload_n hx hb (jq_len rfl (by decide) hlen hd) rfl (jl_has hl hx1) hW
  | aload i => 
    obtain ⟨w, hw, hW⟩ := jp_push hs hl kk
    obtain ⟨hx1, rfl | ⟨a, rfl⟩ | ⟨a, rfl⟩⟩ := jp_lda hw
    · exact lv_aloadN hx hb (jq_len rfl (by decide) hlen hd) (jl_has hl hx1) hW
    · exact lv_aload hx hb (jq_len rfl (by decide) hlen hd) (jl_has hl hx1) hW
    · exact lv_aload hx hb (jq_len rfl (by decide) hlen hd) (jl_has hl hx1) hW
  | aload_n i => 
    obtain ⟨w, hw, hW⟩ := jp_push hs hl kk
    obtain ⟨hx1, rfl | ⟨a, rfl⟩ | ⟨a, rfl⟩⟩ := jp_lda hw
    · exact lv_aload_nN hx hb (jq_len rfl (by decide) hlen hd) rfl (jl_has hl hx1) hW
    · exact lv_aload_n hx hb (jq_len rfl (by decide) hlen hd) rfl (jl_has hl hx1) hW
    · exact lv_aload_n hx hb (jq_len rfl (by decide) hlen hd) rfl (jl_has hl hx1) hW
  | istore i => 
    obtain ⟨x, rest, rfl, hi, rfl⟩ := jb_st1i hs
    exact lv_istore hx hb (jq_len rfl (by decide) hlen hd) hl hi (jlv_js1 b b0 lv _ (.int x)) (fun ls' h' => kk ls' h')
  | istore_n i => 
    obtain ⟨x, rest, rfl, hi, rfl⟩ := jb_st1i hs
    exact lv_istore_n hx hb (jq_len rfl (by decide) hlen hd) rfl hl hi (jlv_js1 b b0 lv _ (.int x)) (fun ls' h' => kk ls' h')
  | astore i => 
    obtain ⟨v, rest, rfl, rfl | ⟨a, rfl⟩, hi, rfl⟩ := jb_st1a hs
    · exact lv_astoreN hx hb (jq_len rfl (by decide) hlen hd) hl hi (jlv_js1 b b0 lv _ .null) (fun ls' h' => kk ls' h')
    · exact lv_astore hx hb (jq_len rfl (by decide) hlen hd) hl hi (jlv_js1 b b0 lv _ (.ref a)) (fun ls' h' => kk ls' h')
  | astore_n i => 
    obtain ⟨v, rest, rfl, rfl | ⟨a, rfl⟩, hi, rfl⟩ := jb_st1a hs
    · exact lv_astore_nN hx hb (jq_len rfl (by decide) hlen hd) rfl hl hi (jlv_js1 b b0 lv _ .null) (fun ls' h' => kk ls' h')
    · exact lv_astore_n hx hb (jq_len rfl (by decide) hlen hd) rfl hl hi (jlv_js1 b b0 lv _ (.ref a)) (fun ls' h' => kk ls' h')
  | lstore i => 
    obtain ⟨x, rest, rfl, hi, rfl⟩ := jb_st2 hs
    exact lv_lstore hx hb (jq_len rfl (by decide) hlen hd) hl hi (jlv_js2 b b0 lv _ (.long x)) (fun ls' h' => kk ls' h')
  | lstore_n i => 
    obtain ⟨x, rest, rfl, hi, rfl⟩ := jb_st2 hs
    exact lv_lstore_n hx hb (jq_len rfl (by decide) hlen hd) rfl hl hi (jlv_js2 b b0 lv _ (.long x)) (fun ls' h' => kk ls' h')
  | iinc i n => 
    simp only [jA] at hs
    split at hs
    · next x hx1 =>
      split at hs
      · next hi =>
        cases hs
        obtain ⟨x', e', hx2⟩ := jp_ldi hx1
        cases e'
        obtain ⟨k9, hk9⟩ := List.getElem?_of_mem (List.mem_map.mpr ⟨(i, Value.int x), jl_mem hx2, rfl⟩ : (i, jv b b0 (.int x)) ∈ jlv b b0 lv)
        exact lv_iinc hx hb (jq_len rfl (by decide) hlen hd) hl hk9 rfl hi (jlv_js1 b b0 lv _ (.int _)) (fun ls' h' => kk ls' h')
      · cases hs
    · cases hs
  | iadd => exact jp_bin hs hl kk (fun x y rest h => lv_iadd hx hb (jq_len rfl (by decide) hlen hd) h)
  | isub => exact jp_bin hs hl kk (fun x y rest h => lv_isub hx hb (jq_len rfl (by decide) hlen hd) h)
  | imul => exact jp_bin hs hl kk (fun x y rest h => lv_imul hx hb (jq_len rfl (by decide) hlen hd) h)
  | iand => exact jp_bin hs hl kk (fun x y rest h => lv_iand hx hb (jq_len rfl (by decide) hlen hd) h)
  | ior => exact jp_bin hs hl kk (fun x y rest h => lv_ior hx hb (jq_len rfl (by decide) hlen hd) h)
  | ixor => exact jp_bin hs hl kk (fun x y rest h => lv_ixor hx hb (jq_len rfl (by decide) hlen hd) h)
  | ishl => exact jp_bin hs hl kk (fun x y rest h => lv_ishl hx hb (jq_len rfl (by decide) hlen hd) h)
  | ishr => exact jp_bin hs hl kk (fun x y rest h => lv_ishr hx hb (jq_len rfl (by decide) hlen hd) h)
  | iushr => exact jp_bin hs hl kk (fun x y rest h => lv_iushr hx hb (jq_len rfl (by decide) hlen hd) rfl h)
  | ladd => exact jp_bil hs hl kk (fun x y rest h => lv_ladd hx hb (jq_len rfl (by decide) hlen hd) h)
  | lmul => exact jp_bil hs hl kk (fun x y rest h => lv_lmul hx hb (jq_len rfl (by decide) hlen hd) h)
  | idiv => 
    simp only [jA] at hs
    split at hs
    · split at hs
      · cases hs
      · next hy =>
        cases hs
        exact lv_idiv hx hb (jq_len rfl (by decide) hlen hd) hy (kk ls hl)
    · cases hs
  | irem => 
    simp only [jA] at hs
    split at hs
    · split at hs
      · cases hs
      · next hy =>
        cases hs
        exact lv_irem hx hb (jq_len rfl (by decide) hlen hd) hy (kk ls hl)
    · cases hs
  | ineg => 
    simp only [jA] at hs
    split at hs
    · cases hs
      exact lv_ineg hx hb (jq_len rfl (by decide) hlen hd) (kk ls hl)
    · cases hs
  | i2l => 
    simp only [jA] at hs
    split at hs
    · cases hs
      exact lv_i2l hx hb (jq_len rfl (by decide) hlen hd) rfl (kk ls hl)
    · cases hs
  | l2i => 
    simp only [jA] at hs
    split at hs
    · cases hs
      exact lv_l2i hx hb (jq_len rfl (by decide) hlen hd) rfl (kk ls hl)
    · cases hs
  | lcmp => 
    simp only [jA] at hs
    split at hs
    · cases hs
      exact W.lcmp hx hb (jq_len rfl (by decide) hlen hd) (kk ls hl)
    · cases hs
  | dup => 
    simp only [jA] at hs
    split at hs
    · split at hs
      · next hc =>
        cases hs
        exact lv_dup hx hb (jq_len rfl (by decide) hlen hd) ((jv_cat b b0 _).trans hc) (kk ls hl)
      · cases hs
    · cases hs
  | pop => 
    simp only [jA] at hs
    split at hs
    · split at hs
      · next hc =>
        cases hs
        exact lv_pop hx hb (jq_len rfl (by decide) hlen hd) ((jv_cat b b0 _).trans hc) (kk ls hl)
      · cases hs
    · cases hs
  | dup2 => 
    simp only [jA] at hs
    split at hs
    · split at hs
      · next hc =>
        cases hs
        exact lv_dup2_11 hx hb (jq_len rfl (by decide) hlen hd) ((jv_cat b b0 _).trans hc.1) ((jv_cat b b0 _).trans hc.2) (kk ls hl)
      · cases hs
    · cases hs
  | ifCond cd off => 
    simp only [jA] at hs
    split at hs
    · exact jb_if hx hb (jq_len rfl (by decide) hlen hd) hs hl kk
    · cases hs
  | if_icmp cd off => 
    simp only [jA] at hs
    split at hs
    · exact jb_icmp hx hb (jq_len rfl (by decide) hlen hd) hs hl kk
    · cases hs
  | goto off => 
    obtain ⟨t, ht, hW⟩ := jp_go hs hl kk
    exact lv_goto hx hb (jq_len rfl (by decide) hlen hd) ht hW
  | ifnull off => 
    simp only [jA] at hs
    split at hs
    · obtain ⟨t, ht, hW⟩ := jp_go hs hl kk
      exact lv_ifnullN hx hb (jq_len rfl (by decide) hlen hd) ht hW
    · cases hs
      exact lv_ifnull hx hb (jq_len rfl (by decide) hlen hd) (kk ls hl)
    · cases hs
  | ifnonnull off => 
    simp only [jA] at hs
    split at hs
    · obtain ⟨t, ht, hW⟩ := jp_go hs hl kk
      exact lv_ifnonnull hx hb (jq_len rfl (by decide) hlen hd) ht hW
    · cases hs
      exact lv_ifnonnullN hx hb (jq_len rfl (by decide) hlen hd) (kk ls hl)
    · cases hs
  | tableswitch dflt lo hi offs => 
    simp only [jA] at hs
    split at hs
    · split at hs
      · next hc =>
        obtain ⟨t, ht, hW⟩ := jp_go hs hl kk
        exact lv_tableOut hx hb hd hc ht hW
      · next hc =>
        split at hs
        · next off ho =>
          obtain ⟨t, ht, hW⟩ := jp_go hs hl kk
          exact lv_tableIn hx hb hd (fun h => hc (Or.inl h)) (fun h => hc (Or.inr h)) ho ht hW
        · cases hs
    · cases hs
  | _ => cases hs
end JB
end
section
def jx (b0 : Nat) (x : vp_A) : vp_A := match x with
  | (n, .inr (.inr (.inr (.inr f)))) => (n, .inr (.inr (.inr (.inr (fun i => (f i).map (fun a => b0 + a))))))
  | x => x
def je (b b0 : Nat) (dA : Nat → ClassId) (c : jC) : va_E := match c with
  | .inl (t, x) => .inl (dA t, jx b0 x)
  | .inr (ci, fs) => .inr (ci, fs.map (jv b b0))
def jw (b b0 : Nat) (dA : Nat → ClassId) (h : List jC) : va_W := h.mapIdx (fun i c => (b0 + i, je b b0 dA c))
def jtys (dA : Nat → ClassId) : List (ClassId × FieldType) := (List.range jm_nat).map (fun t => (dA t, jm_aty t))
def jWd (D : va_G) (dA : Nat → ClassId) (b b0 : Nat) (h : List jC) (H : Heap) : Prop := va_P D vwCl (jw b b0 dA h) H ∧ H.size = b0 + h.length
theorem jw_get {b b0 : Nat} {dA : Nat → ClassId} {h : List jC} {a : Nat} {c : jC} (hc : h[a]? = some c) : (jw b b0 dA h)[a]? = some (b0 + a, je b b0 dA c) := by
  unfold jw
  rw [List.getElem?_mapIdx, hc]
  rfl
theorem jw_inv {b b0 : Nat} {dA : Nat → ClassId} {h : List jC} {a : Nat} {q : Nat × va_E} (hq : (jw b b0 dA h)[a]? = some q) : ∃ c, h[a]? = some c ∧ q = (b0 + a, je b b0 dA c) := by
  unfold jw at hq
  rw [List.getElem?_mapIdx] at hq
  cases hc : h[a]? with
  | none => rw [hc] at hq; cases hq
  | some c => rw [hc] at hq; cases hq; exact ⟨c, rfl, rfl⟩
theorem jw_D (b b0 : Nat) (dA : Nat → ClassId) (h : List jC) : va_D (fun q => b0 ≤ q) (jw b b0 dA h) := by
  refine ⟨fun i j x y hi hj hxy => ?_, fun k q hk => ?_⟩
  · obtain ⟨_, _, rfl⟩ := jw_inv hi
    obtain ⟨_, _, rfl⟩ := jw_inv hj
    simp at hxy
    exact hxy
  · obtain ⟨_, _, rfl⟩ := jw_inv hk
    exact Nat.le_add_right b0 k
theorem jtys_get {dA : Nat → ClassId} {t : Nat} (ht : t < jm_nat) : (jtys dA)[t]? = some (dA t, jm_aty t) := by
  unfold jtys
  rw [List.getElem?_map, List.getElem?_range ht]
  rfl
theorem jWd.at {D : va_G} {dA : Nat → ClassId} {b b0 : Nat} {h : List jC} {H : Heap} (hW : jWd D dA b b0 h H) {a : Nat} {c : jC} (hc : h[a]? = some c) : va_at D vwCl (b0 + a, je b b0 dA c) H := hW.1 a _ (jw_get hc)
theorem jWd.set {D : va_G} {dA : Nat → ClassId} {b b0 : Nat} {h : List jC} {H H1 : Heap} (hW : jWd D dA b b0 h H) {a : Nat} {c0 c : jC} (hc : h[a]? = some c0) (he : va_at D vwCl (b0 + a, je b b0 dA c) H1) (hz : H1.size = H.size) (oq : ∀ q : Nat, q ≠ b0 + a → H1[q]? = H[q]?) : jWd D dA b b0 (h.set a c) H1 := by
  have hl := (List.getElem?_eq_some_iff.mp hc).1
  refine ⟨fun k q hq => ?_, by rw [hz, hW.2, List.length_set]⟩
  obtain ⟨c', hc', rfl⟩ := jw_inv hq
  by_cases hk : k = a
  · subst hk
    rw [List.getElem?_set_self hl] at hc'
    cases hc'
    exact he
  · rw [List.getElem?_set_ne (Ne.symm hk)] at hc'
    exact (hW.at hc').kept (oq _ (by show b0 + k ≠ b0 + a; omega))
theorem jWd.push {D : va_G} {dA : Nat → ClassId} {b b0 : Nat} {h : List jC} {H H1 : Heap} (hW : jWd D dA b b0 h H) {c : jC} (he : va_at D vwCl (b0 + h.length, je b b0 dA c) H1) (hz : H1.size = H.size + 1) (oq : ∀ q : Nat, q < H.size → H1[q]? = H[q]?) : jWd D dA b b0 (h ++ [c]) H1 := by
  refine ⟨fun k q hq => ?_, by rw [hz, hW.2, List.length_append]; rfl⟩
  obtain ⟨c', hc', rfl⟩ := jw_inv hq
  by_cases hk : k < h.length
  · rw [List.getElem?_append_left hk] at hc'
    exact (hW.at hc').kept (oq _ (by show b0 + k < H.size; rw [hW.2]; omega))
  · rw [List.getElem?_append_right (by omega)] at hc'
    have h0 : k - h.length < 1 := (List.getElem?_eq_some_iff.mp hc').1
    have hk0 : k = h.length := by omega
    subst hk0
    rw [Nat.sub_self] at hc'
    cases hc'
    exact he
theorem jin_spec {i : Int32} {n : Nat} (h : jin i n = true) : vp_in i n := by
  unfold jin at h
  show ¬ (i < 0 ∨ n ≤ i.toNatClampNeg)
  exact of_decide_eq_true h
theorem jfit_ok {ty : FieldType} {v : Value} (b b0 : Nat) (h : jfit ty v = true) : narrow ty (jv b b0 v) = jv b b0 v ∧ fits ty (jv b b0 v) = true := by
  unfold jfit at h
  split at h
  · exact ⟨rfl, rfl⟩
  · next x =>
    rcases of_decide_eq_true h with rfl | rfl
    · exact ⟨show narrow .boolean (.int 0) = .int 0 by decide +kernel, show fits .boolean (.int 0) = true by decide +kernel⟩
    · exact ⟨show narrow .boolean (.int 1) = .int 1 by decide +kernel, show fits .boolean (.int 1) = true by decide +kernel⟩
  · exact ⟨rfl, rfl⟩
  · exact ⟨rfl, rfl⟩
  · exact ⟨rfl, rfl⟩
  · exact ⟨rfl, rfl⟩
  · exact ⟨rfl, rfl⟩
  · cases h
def jsz (c : jC) : Nat := match c with
  | .inl (_, n, _) => n
  | .inr (_, fs) => fs.length
def jsl (h : List jC) : Nat := (h.map jsz).sum
theorem jsl_set : ∀ (h : List jC) (a : Nat) (c0 c : jC), h[a]? = some c0 → jsz c = jsz c0 → jsl (h.set a c) = jsl h
  | [], _, _, _, h1, _ => by simp at h1
  | x :: h, 0, c0, c, h1, h2 => by
    simp at h1
    subst h1
    simp [jsl, h2]
  | x :: h, a + 1, c0, c, h1, h2 => by
    have := jsl_set h a c0 c (by simpa using h1) h2
    simp [jsl] at this ⊢
    exact this
theorem jsl_app (h g : List jC) : jsl (h ++ g) = jsl h + jsl g := by simp [jsl]
theorem jsl_one (c : jC) : jsl [c] = jsz c := by simp [jsl]

def jov (s : State) : Prop := (∀ C ∈ jm_over, va_AO C s) ∧ (Cond.arrayOver (.array .int)).before #[] s = true ∧ ∀ w ∈ jm_nest, va_Nw w s
/-- what stands fixed while a method runs -/
def jcx (D : va_G) (dA : Nat → ClassId) (b b0 L : Nat) (xs : Nat → Int32) (p : Program) (s : State) (m : MethodId) (args : Array Value) (meth : Method) (c : Code) (mi : Nat) : Prop :=
  p.tables.exec = Jvm.exec ∧ c.code = jm_code mi ∧ c.maxLocals = jm_maxL mi ∧ s.vm.findClass (jm_cn (jm_own mi)) = some m.cls ∧ (∀ w ∈ jm_gw, w.before args s = true) ∧ va_K D vwCl (jtys dA) s ∧ jov s ∧ (jm_ini mi = true → meth.name = "<init>") ∧ (mi = 0 → va_X b L xs s s.heap ∧ b < s.heap.size ∧ b < b0) ∧ b0 ≤ s.heap.size
section JH
variable {p : Program} {l : Launch} {e : Env} {R : Room} {s : State} {m : MethodId} {args : Array Value} {below : List Frame} {meth : Method} {c : Code} {H : Heap} {locs : List Loc} {cells slots : Nat} {Q : State → Prop}
variable {D : va_G} {dA : Nat → ClassId} {b b0 L mi pc : Nat} {xs : Nat → Int32} {ls : Array Slot} {rest : List Value} {h : List jC}
theorem jh_get (cx : jcx D dA b b0 L xs p s m args meth c mi) (hW : jWd D dA b b0 h H) {idx a ci f : Nat} {fs : List Value} {v : Value} (hf : jm_fld (jm_own mi) idx = some (ci, f)) (ha : h[a]? = some (.inr (ci, fs))) (hv : fs[f]? = some v) (hd : decode (jm_code mi) pc = .ok (.getfield idx, 3))
    (kk : W p l e R s m args below meth c H locs cells slots Q (F0 m (pc + 3) ls (jv b b0 v :: rest))) : W p l e R s m args below meth c H locs cells slots Q (F0 m pc ls (.ref (b0 + a) :: rest)) := by
  obtain ⟨hx, hb, hml, hown, hts, hK, hov, hin, hX, hbs⟩ := cx
  obtain ⟨C, T, N, hc, hN, hlk⟩ := jm_fld_ok _ _ _ _ hf
  obtain ⟨k1, k2, k3, k4, k5, k6, k7, k8⟩ := jm_cl_ok ci C T N hc
  have hT := (k7 f hN).1
  refine va_get hx hb hts k1 hown hK hW.1 a (jw_get ha) hc f hN (hts _ hlk) (fun x h => by rw [← hT]; exact h) ?_ hd kk
  rw [List.getElem?_map, hv]
  rfl
theorem jh_iald (cx : jcx D dA b b0 L xs p s m args meth c mi) (hW : jWd D dA b b0 h H) {a n : Nat} {f : Nat → Int32} {j : Int32} (ha : h[a]? = some (.inl (0, n, .inl f))) (hj : jin j n = true) (hd : decode (jm_code mi) pc = .ok (.iaload, 1))
    (kk : W p l e R s m args below meth c H locs cells slots Q (F0 m (pc + 1) ls (.int (f j.toNatClampNeg) :: rest))) : W p l e R s m args below meth c H locs cells slots Q (F0 m pc ls (.int j :: .ref (b0 + a) :: rest)) := by
  obtain ⟨hx, hb, hml, hown, hts, hK, hov, hin, hX, hbs⟩ := cx
  have ht := jtys_get (dA := dA) (t := 0) (Nat.lt_of_lt_of_le (by decide) jm_nat2)
  rw [jm_aty0] at ht
  exact va_iald hx hb hK hW.1 a 0 (jw_get ha) ht (jin_spec hj) hd kk
theorem jh_bald (cx : jcx D dA b b0 L xs p s m args meth c mi) (hW : jWd D dA b b0 h H) {a n : Nat} {f : Nat → Int32} {j : Int32} (ha : h[a]? = some (.inl (1, n, .inl f))) (hj : jin j n = true) (hd : decode (jm_code mi) pc = .ok (.baload, 1))
    (kk : W p l e R s m args below meth c H locs cells slots Q (F0 m (pc + 1) ls (.int (f j.toNatClampNeg) :: rest))) : W p l e R s m args below meth c H locs cells slots Q (F0 m pc ls (.int j :: .ref (b0 + a) :: rest)) := by
  obtain ⟨hx, hb, hml, hown, hts, hK, hov, hin, hX, hbs⟩ := cx
  have ht := jtys_get (dA := dA) (t := 1) (Nat.lt_of_lt_of_le (by decide) jm_nat2)
  rw [jm_aty1] at ht
  exact va_zald hx hb hK hW.1 a 1 (jw_get ha) ht (jin_spec hj) hd kk
theorem jh_aald (cx : jcx D dA b b0 L xs p s m args meth c mi) (hW : jWd D dA b b0 h H) {a n t : Nat} {f : Nat → Option Nat} {j : Int32} (ha : h[a]? = some (.inl (t, n, .inr (.inr (.inr (.inr f)))))) (h2 : 2 ≤ t) (ht : t < jm_nat) (hj : jin j n = true) (hd : decode (jm_code mi) pc = .ok (.aaload, 1))
    (kk : W p l e R s m args below meth c H locs cells slots Q (F0 m (pc + 1) ls (jv b b0 (jrf (f j.toNatClampNeg)) :: rest))) : W p l e R s m args below meth c H locs cells slots Q (F0 m pc ls (.int j :: .ref (b0 + a) :: rest)) := by
  obtain ⟨hx, hb, hml, hown, hts, hK, hov, hin, hX, hbs⟩ := cx
  have hr := jm_aref t h2 ht
  have hvi := jin_spec hj
  have hlt : j.toNatClampNeg < n := Nat.not_le.mp fun q => hvi (Or.inr q)
  have hg : ∀ i, va_rf ((f i).map (fun a => b0 + a)) = jv b b0 (jrf (f i)) := fun i => by cases f i <;> rfl
  have hP : H[b0 + a]? = some (arrV (dA t) n (fun i => va_rf ((f i).map (fun a => b0 + a)))) := hW.at ha
  refine W.aald (v := jv b b0 (jrf (f j.toNatClampNeg))) (ty := jm_aty t) hx hb hP ((hK.2 t _ (jtys_get ht)).1 n (fun i => va_rf ((f i).map (fun a => b0 + a)))) hr (fun q => by cases q) (by rw [arrV_size]; exact hvi) (by rw [arrV_read _ _ hlt, hg]) rfl rfl hd kk
theorem jh_alen (cx : jcx D dA b b0 L xs p s m args meth c mi) (hW : jWd D dA b b0 h H) {a n t : Nat} {x : (Nat → Int32) ⊕ (Nat → Int64) ⊕ (Nat → UInt32) ⊕ (Nat → UInt64) ⊕ (Nat → Option Nat)} (ha : h[a]? = some (.inl (t, n, x))) (ht : t < jm_nat) (hd : decode (jm_code mi) pc = .ok (.arraylength, 1))
    (kk : W p l e R s m args below meth c H locs cells slots Q (F0 m (pc + 1) ls (.int (Int32.ofNat n) :: rest))) : W p l e R s m args below meth c H locs cells slots Q (F0 m pc ls (.ref (b0 + a) :: rest)) := by
  obtain ⟨hx, hb, hml, hown, hts, hK, hov, hin, hX, hbs⟩ := cx
  refine va_alen hx hb hK hW.1 a t (jw_get ha) (jtys_get ht) ?_ hd kk
  obtain f | f | f | f | f := x <;> rfl
theorem jh_sld (cx : jcx D dA b b0 L xs p s m args meth c mi) (h0 : mi = 0) (hS : va_S (fun q => b0 ≤ q) s.heap H locs) {j : Int32} (hj : jin j L = true) (hd : decode (jm_code mi) pc = .ok (.iaload, 1))
    (kk : W p l e R s m args below meth c H locs cells slots Q (F0 m (pc + 1) ls (.int (xs j.toNatClampNeg) :: rest))) : W p l e R s m args below meth c H locs cells slots Q (F0 m pc ls (.int j :: .ref b :: rest)) := by
  obtain ⟨hx, hb, hml, hown, hts, hK, hov, hin, hX, hbs⟩ := cx
  obtain ⟨g1, g2, g3⟩ := hX h0
  exact va_sld hx hb g1 g2 (by show ¬ b0 ≤ b; omega) hS (jin_spec hj) hd kk
theorem jh_slen (cx : jcx D dA b b0 L xs p s m args meth c mi) (h0 : mi = 0) (hS : va_S (fun q => b0 ≤ q) s.heap H locs) (hd : decode (jm_code mi) pc = .ok (.arraylength, 1))
    (kk : W p l e R s m args below meth c H locs cells slots Q (F0 m (pc + 1) ls (.int (Int32.ofNat L) :: rest))) : W p l e R s m args below meth c H locs cells slots Q (F0 m pc ls (.ref b :: rest)) := by
  obtain ⟨hx, hb, hml, hown, hts, hK, hov, hin, hX, hbs⟩ := cx
  obtain ⟨g1, g2, g3⟩ := hX h0
  exact va_slen hx hb g1 g2 (by show ¬ b0 ≤ b; omega) hS hd kk
end JH
end
section
section JP
variable {p : Program} {l : Launch} {e : Env} {R : Room} {s : State} {m : MethodId} {args : Array Value} {below : List Frame} {meth : Method} {c : Code} {H : Heap} {locs : List Loc} {cells slots : Nat} {Q : State → Prop}
variable {D : va_G} {dA : Nat → ClassId} {b b0 L mi pc : Nat} {xs : Nat → Int32} {ls : Array Slot} {rest : List Value} {h : List jC}
/-- what is to be shown behind a step that leaves the heap h' -/
def jKH (p : Program) (l : Launch) (e : Env) (R : Room) (s : State) (m : MethodId) (args : Array Value) (below : List Frame) (meth : Method) (c : Code) (cells slots : Nat) (Q : State → Prop) (D : va_G) (dA : Nat → ClassId) (b b0 : Nat) (h' : List jC) (g : JFrame) : Prop :=
  ∀ (H1 : Heap) (locs1 : List Loc), jWd D dA b b0 h' H1 → va_S (fun q => b0 ≤ q) s.heap H1 locs1 → W p l e R s m args below meth c H1 locs1 cells slots Q g
theorem jh_put (cx : jcx D dA b b0 L xs p s m args meth c mi) (hW : jWd D dA b b0 h H) (hS : va_S (fun q => b0 ≤ q) s.heap H locs) {idx a ci f : Nat} {fs : List Value} {v : Value} (hf : jm_fld (jm_own mi) idx = some (ci, f)) (ha : h[a]? = some (.inr (ci, fs))) (hl : f < fs.length) (hv : jfit (jm_ty ci f) v = true) (hfin : jm_fin ci f = false ∨ jm_ini mi = true ∧ jm_own mi = ci) (hd : decode (jm_code mi) pc = .ok (.putfield idx, 3))
    (kk : jKH p l e R s m args below meth c cells slots Q D dA b b0 (h.set a (.inr (ci, fs.set f v))) (F0 m (pc + 3) ls rest)) : W p l e R s m args below meth c H locs cells slots Q (F0 m pc ls (jv b b0 v :: .ref (b0 + a) :: rest)) := by
  obtain ⟨hx, hb, hml, hown, hts, hK, hov, hin, hX, hbs⟩ := cx
  obtain ⟨C, T, N, hc, hN, hlk⟩ := jm_fld_ok _ _ _ _ hf
  obtain ⟨k1, k2, k3, k4, k5, k6, k7, k8⟩ := jm_cl_ok ci C T N hc
  obtain ⟨hT, hFn⟩ := k7 f hN
  obtain ⟨n1, n2⟩ := jfit_ok b b0 hv
  have hap := va_apart (own := C) hts k1 (jm_ty ci) k2 k3 hK hc
  obtain ⟨r, h1, cell, q1, q2, q3, q4⟩ := hW.at ha
  have hr : r = (C, T, N) := Option.some.inj (h1.symm.trans hc)
  subst hr
  obtain ⟨hSl, hfc, kC, hkC, hkind⟩ := hK.1 ci _ hc
  obtain ⟨cf, kf, fi, fd, hi, hsl⟩ := hSl f hN
  have hlay := hts _ (k1 _ (u_in_lay hN))
  have hst := (u_facts hfc hkC (u_lays hts k1 hN) hi).1
  have hll : f < (fs.map (jv b b0)).length := by rw [List.length_map]; exact hl
  have fin : ∀ (H' : Heap) (i9 : Nat), H'[b0 + a]? = some (cell.setSlot fd.slot (jv b b0 v)) → H'.size = H.size → (∀ q, q ≠ b0 + a → H'[q]? = H[q]?) → W p l e R s m args below meth c H' (locs ++ [⟨b0 + a, i9⟩]) cells slots Q (F0 m (pc + 3) ls rest) := by
    intro H' i9 e1 e2 e3
    rw [hsl] at e1
    refine kk H' _ (hW.set ha ?_ e2 e3) (hS.put e2 e3 (Nat.le_add_right b0 a))
    refine ⟨_, hc, ?_⟩
    have := t_OB.to (V := updV (vp_V (fs.map (jv b b0))) f (jv b b0 v)) ⟨_, e1, q2, q3, t_set q4 hap hN (jv b b0 v)⟩ (fun j _ => vp_updV_set hll (jv b b0 v) j)
    rw [← List.map_set] at this
    exact this
  unfold u_lay at hlay
  by_cases hff : (T f).2.2.2 = true
  · rw [if_pos hff] at hlay
    have hii : jm_ini mi = true ∧ jm_own mi = ci := by
      rcases hfin with g | g
      · rw [← hFn, hff] at g; cases g
      · exact g
    have hcf : m.cls = cf := by
      obtain ⟨_, _, c', _, _, _, -, -, hf', -, -, -, hown2, -⟩ := Cond.laysFinal_spec hlay
      have e1 : c' = cf := by have := hi.symm.trans hf'; simp at this; exact this.1.symm
      rw [hT, ← k8, ← hii.2] at hown2
      rw [← e1]; exact Option.some.inj (hown.symm.trans hown2)
    have h6 := u_fits hfc hkC hkind (Or.inr hlay) hi (k2 f hN) n1 n2
    refine W.putFinK hx hb hown (hts _ hlk) (by rw [← hT]; exact hi) hst hcf (hin hii.1) (by rw [q2]; exact h6) q1 q3 (by rw [hsl]; exact k2_hasslot (q4 f hN)) rfl rfl hd fun H' e1 e2 e3 => fin H' _ e1 e2 e3
  · rw [if_neg hff] at hlay
    have h6 := u_store hfc hkC hkind hlay hi (k2 f hN) n1 n2
    refine W.putK hx hb (f := fd) ⟨hown, hts _ hlk, ⟨_, _, _, by rw [← hT]; exact hi⟩, hst⟩ (by rw [q2]; exact h6) q1 q3 (by rw [hsl]; exact k2_hasslot (q4 f hN)) rfl rfl hd fun H' e1 e2 e3 => fin H' _ e1 e2 e3
theorem jh_iast (cx : jcx D dA b b0 L xs p s m args meth c mi) (hW : jWd D dA b b0 h H) (hS : va_S (fun q => b0 ≤ q) s.heap H locs) {a n : Nat} {f : Nat → Int32} {j x : Int32} (ha : h[a]? = some (.inl (0, n, .inl f))) (hj : jin j n = true) (hd : decode (jm_code mi) pc = .ok (.iastore, 1))
    (kk : jKH p l e R s m args below meth c cells slots Q D dA b b0 (h.set a (.inl (0, n, .inl (upd f j.toNatClampNeg x)))) (F0 m (pc + 1) ls rest)) : W p l e R s m args below meth c H locs cells slots Q (F0 m pc ls (.int x :: .int j :: .ref (b0 + a) :: rest)) := by
  obtain ⟨hx, hb, hml, hown, hts, hK, hov, hin, hX, hbs⟩ := cx
  have ht := jtys_get (dA := dA) (t := 0) (Nat.lt_of_lt_of_le (by decide) jm_nat2)
  rw [jm_aty0] at ht
  have hP : H[b0 + a]? = some (arrV (dA 0) n (fun i => .int (f i))) := hW.at ha
  refine W.iast hx hb hP ((hK.2 0 _ ht).1 n (fun i => .int (f i))) (fun q => by cases q) (by rw [arrV_size]; exact jin_spec hj) rfl rfl hd fun H1 e1 z oq => ?_
  refine kk H1 _ (hW.set ha ?_ z oq) (hS.put z oq (Nat.le_add_right b0 a))
  show H1[b0 + a]? = some (arrV (dA 0) n (fun i => .int (upd f j.toNatClampNeg x i)))
  rw [e1, arrV_store]
  refine congrArg (fun g => some (arrV (dA 0) n g)) (funext fun q => ?_)
  by_cases hq : q = j.toNatClampNeg
  · subst hq
    simp [updV, upd]
  · simp [updV, upd, hq]
theorem jh_bast (cx : jcx D dA b b0 L xs p s m args meth c mi) (hW : jWd D dA b b0 h H) (hS : va_S (fun q => b0 ≤ q) s.heap H locs) {a n : Nat} {f : Nat → Int32} {j x : Int32} (ha : h[a]? = some (.inl (1, n, .inl f))) (hj : jin j n = true) (hz : x = 0 ∨ x = 1) (hd : decode (jm_code mi) pc = .ok (.bastore, 1))
    (kk : jKH p l e R s m args below meth c cells slots Q D dA b b0 (h.set a (.inl (1, n, .inl (upd f j.toNatClampNeg x)))) (F0 m (pc + 1) ls rest)) : W p l e R s m args below meth c H locs cells slots Q (F0 m pc ls (.int x :: .int j :: .ref (b0 + a) :: rest)) := by
  obtain ⟨hx, hb, hml, hown, hts, hK, hov, hin, hX, hbs⟩ := cx
  have ht := jtys_get (dA := dA) (t := 1) (Nat.lt_of_lt_of_le (by decide) jm_nat2)
  rw [jm_aty1] at ht
  have hP : H[b0 + a]? = some (arrV (dA 1) n (fun i => .int (f i))) := hW.at ha
  have hnz : narrow .boolean (.int x) = .int x := by
    rcases hz with rfl | rfl <;> decide +kernel
  refine W.zast hx hb hP ((hK.2 1 _ ht).1 n (fun i => .int (f i))) (fun q => by cases q) (by rw [arrV_size]; exact jin_spec hj) rfl rfl hd fun H1 e1 z oq => ?_
  refine kk H1 _ (hW.set ha ?_ z oq) (hS.put z oq (Nat.le_add_right b0 a))
  show H1[b0 + a]? = some (arrV (dA 1) n (fun i => .int (upd f j.toNatClampNeg x i)))
  rw [e1, arrV_store, hnz]
  refine congrArg (fun g => some (arrV (dA 1) n g)) (funext fun q => ?_)
  by_cases hq : q = j.toNatClampNeg
  · subst hq
    simp [updV, upd]
  · simp [updV, upd, hq]
theorem jh_aast (cx : jcx D dA b b0 L xs p s m args meth c mi) (hW : jWd D dA b b0 h H) (hS : va_S (fun q => b0 ≤ q) s.heap H locs) {a n t v ci : Nat} {vs : List Value} {f : Nat → Option Nat} {j : Int32} (ha : h[a]? = some (.inl (t, n, .inr (.inr (.inr (.inr f)))))) (hv : h[v]? = some (.inr (ci, vs))) (he : jm_ael t = some ci) (ht : t < jm_nat) (hj : jin j n = true) (hd : decode (jm_code mi) pc = .ok (.aastore, 1))
    (kk : jKH p l e R s m args below meth c cells slots Q D dA b b0 (h.set a (.inl (t, n, .inr (.inr (.inr (.inr (va_up f j.toNatClampNeg (some v)))))))) (F0 m (pc + 1) ls rest)) : W p l e R s m args below meth c H locs cells slots Q (F0 m pc ls (.ref (b0 + v) :: .int j :: .ref (b0 + a) :: rest)) := by
  obtain ⟨hx, hb, hml, hown, hts, hK, hov, hin, hX, hbs⟩ := cx
  obtain ⟨r, hr, hty⟩ := jm_ael_ok t ci he
  have hvi := jin_spec hj
  have hlt : j.toNatClampNeg < n := Nat.not_le.mp fun q => hvi (Or.inr q)
  have h0 : ¬ j < 0 := fun q => hvi (Or.inl q)
  obtain ⟨r', hr', cellV, g1, g2, g3, -⟩ := hW.at hv
  have hcls := (hK.1 ci r hr).2
  have hK2 := (hK.2 t _ (jtys_get ht)).2
  simp only [hty] at hK2
  obtain ⟨kA, comp, k1, k2, k3, -⟩ := hK2
  have hcomp : comp = D.1 ci := Option.some.inj (k3.symm.trans hcls.1)
  subst hcomp
  obtain ⟨kC, hkC, -⟩ := hcls.2
  have hP : H[b0 + a]? = some (arrV (dA t) n (fun i => va_rf ((f i).map (fun a => b0 + a)))) := hW.at ha
  refine W.aast hx hb hP (fun q h => by cases h) (fun h => by cases h) k1 k2 rfl hkC ⟨h0, by rw [arrV_size]; exact hlt⟩ g1 (fun q h => by rw [g3] at h; cases h) (by rw [g2]; exact hkC) (by rw [g2]; exact va_assign hcls) rfl rfl hd fun H1 e1 z oq => ?_
  refine kk H1 _ (hW.set ha ?_ z oq) (hS.put z oq (Nat.le_add_right b0 a))
  show H1[b0 + a]? = some (arrV (dA t) n (fun i => va_rf ((va_up f j.toNatClampNeg (some v) i).map (fun a => b0 + a))))
  rw [e1, arrV_store]
  refine congrArg (fun g => some (arrV (dA t) n g)) (funext fun q => ?_)
  by_cases hq : q = j.toNatClampNeg
  · subst hq
    simp [updV, va_up, va_rf]
  · simp [updV, va_up, hq]
end JP
end
section
section JN
variable {p : Program} {l : Launch} {e : Env} {R : Room} {s : State} {m : MethodId} {args : Array Value} {below : List Frame} {meth : Method} {c : Code} {H : Heap} {locs : List Loc} {cells slots : Nat} {Q : State → Prop}
variable {D : va_G} {dA : Nat → ClassId} {b b0 L mi pc : Nat} {xs : Nat → Int32} {ls : Array Slot} {rest : List Value} {h : List jC}
theorem jS_push {H1 : Heap} (hS : va_S (fun q => b0 ≤ q) s.heap H locs) (hz : H1.size = H.size + 1) (oq : ∀ q : Nat, q < H.size → H1[q]? = H[q]?) : va_S (fun q => b0 ≤ q) s.heap H1 locs :=
  ⟨Nat.le_trans hS.1 (by omega), fun q h1 h2 => (oq q (Nat.lt_of_lt_of_le h1 hS.1)).trans (hS.2.1 q h1 h2), hS.2.2⟩
theorem jv_def (b b0 : Nat) (ty : FieldType) : jv b b0 (defaultValue ty) = defaultValue ty := by
  cases ty <;> rfl
theorem jh_new (cx : jcx D dA b b0 L xs p s m args meth c mi) (hW : jWd D dA b b0 h H) (hS : va_S (fun q => b0 ≤ q) s.heap H locs) {idx ci : Nat} (hn : jm_new (jm_own mi) idx = some ci) (hd : decode (jm_code mi) pc = .ok (.new idx, 3)) (hcells : cells + 1 ≤ R.cells) (hslots : slots + jm_nf ci ≤ R.slots)
    (kk : jKH p l e R s m args below meth c (cells + 1) (slots + jm_nf ci) Q D dA b b0 (h ++ [.inr (ci, (List.range (jm_nf ci)).map (fun j => defaultValue (jm_ty ci j)))]) (F0 m (pc + 3) ls (.ref (b0 + h.length) :: rest))) : W p l e R s m args below meth c H locs cells slots Q (F0 m pc ls rest) := by
  obtain ⟨hx, hb, hml, hown, hts, hK, hov, hin, hX, hbs⟩ := cx
  obtain ⟨C, T, N, hc, hlk⟩ := jm_new_ok _ _ _ hn
  obtain ⟨k1, k2, k3, k4, k5, k6, k7, k8⟩ := jm_cl_ok ci C T N hc
  subst k6
  have hKn := hK.1 ci _ hc
  refine W.newcK hx hb hown (hts _ hlk) (hts _ k4) (hts _ k5) rfl hd hcells hslots hKn.2.1 hW.2 fun H1 kC hkC e1 z1 o1 => ?_
  have z1' : H1.size = H.size + 1 := by rw [z1, hW.2]
  have o1' : ∀ q : Nat, q < H.size → H1[q]? = H[q]? := fun q hq => o1 q (by rw [← hW.2]; exact hq)
  refine kk H1 _ (hW.push ?_ z1' o1') (jS_push hS z1' o1')
  refine ⟨_, hc, (u_born (jm_ty ci) hts k1 hKn hkC e1 k2).to ?_⟩
  intro j hj
  simp [vp_V, List.getD_eq_getElem?_getD, List.getElem?_map, List.getElem?_range hj, jv_def]
theorem jh_newa (cx : jcx D dA b b0 L xs p s m args meth c mi) (hW : jWd D dA b b0 h H) (hS : va_S (fun q => b0 ≤ q) s.heap H locs) {at9 : ArrayType} {t : Nat} (ht : t < jm_nat) (hty : newarray.typeOf at9 = jm_aty t) (har : Cond.arrayClass (jm_aty t) ∈ jm_gw) (hdv : defaultValue (jm_aty t) = .int 0) (hcb : componentBytes (jm_aty t) ≤ 4) (hra : ∀ (U : State) (cA : ClassId), va_RA U cA (jm_aty t) → U.vm.findClass ("[" ++ (jm_aty t).toString) = some cA) {n : Int32} (hn : ¬ n < 0) (hn2 : n.toNatClampNeg ≤ 100000) (hd : decode (jm_code mi) pc = .ok (.newarray at9, 2)) (hcells : cells + 1 ≤ R.cells) (hslots : slots + n.toNatClampNeg ≤ R.slots)
    (kk : jKH p l e R s m args below meth c (cells + 1) (slots + n.toNatClampNeg) Q D dA b b0 (h ++ [.inl (t, n.toNatClampNeg, .inl (fun _ => 0))]) (F0 m (pc + 2) ls (.ref (b0 + h.length) :: rest))) : W p l e R s m args below meth c H locs cells slots Q (F0 m pc ls (.int n :: rest)) := by
  obtain ⟨hx, hb, hml, hown, hts, hK, hov, hin, hX, hbs⟩ := cx
  have hbytes : n.toNatClampNeg * componentBytes (jm_aty t) ≤ 536870912 := Nat.le_trans (Nat.mul_le_mul hn2 hcb) (by decide)
  refine va_newaK hx hb (by rw [hty]; exact hts _ har) rfl hd rfl hn rfl (by rw [hty]; exact hbytes) hcells hslots hW.2 fun H1 cA e1 z1 o1 hAr hNm => ?_
  have z1' : H1.size = H.size + 1 := by rw [z1, hW.2]
  have o1' : ∀ q : Nat, q < H.size → H1[q]? = H[q]? := fun q hq => o1 q (by rw [← hW.2]; exact hq)
  rw [hty] at e1 hNm
  have hcA : cA = dA t := Option.some.inj (hNm.symm.trans (hra s _ (hK.2 t _ (jtys_get ht)).2))
  subst hcA
  refine kk H1 _ (hW.push ?_ z1' o1') (jS_push hS z1' o1')
  show H1[b0 + h.length]? = some (arrV (dA t) n.toNatClampNeg (fun _ => .int 0))
  rw [e1, hdv]
theorem jh_newq (cx : jcx D dA b b0 L xs p s m args meth c mi) (hW : jWd D dA b b0 h H) (hS : va_S (fun q => b0 ≤ q) s.heap H locs) {idx t : Nat} (hq : jm_anew (jm_own mi) idx = some t) {n : Int32} (hn : ¬ n < 0) (hn2 : n.toNatClampNeg ≤ 100000) (hd : decode (jm_code mi) pc = .ok (.anewarray idx, 3)) (hcells : cells + 1 ≤ R.cells) (hslots : slots + n.toNatClampNeg ≤ R.slots)
    (kk : jKH p l e R s m args below meth c (cells + 1) (slots + n.toNatClampNeg) Q D dA b b0 (h ++ [.inl (t, n.toNatClampNeg, .inr (.inr (.inr (.inr (fun _ => none)))))]) (F0 m (pc + 3) ls (.ref (b0 + h.length) :: rest))) : W p l e R s m args below meth c H locs cells slots Q (F0 m pc ls (.int n :: rest)) := by
  obtain ⟨hx, hb, hml, hown, hts, hK, hov, hin, hX, hbs⟩ := cx
  obtain ⟨t2, ht, C, hty, hC, hlk⟩ := jm_anew_ok _ _ _ hq
  refine W.anew hx hb hown (hts _ hlk) (va_AO.use (hov.1 C hC)) rfl hd rfl hn (by omega) hcells hslots fun cA kA comp f1 f2 f3 f4 => ?_
  generalize hH1 : H.push ({ cls := cA, slots := Array.replicate n.toNatClampNeg .null, vm := .none } : Cell) = H1
  have z1 : H1.size = H.size + 1 := by rw [← hH1, Array.size_push]
  have e1 : H1[H.size]? = some (arrV cA n.toNatClampNeg (fun _ => .null)) := by rw [← hH1, Array.getElem?_push_size, ← arrV_new]
  have o1 : ∀ q : Nat, q < H.size → H1[q]? = H[q]? := fun q hq => by rw [← hH1, Array.getElem?_push, if_neg (Nat.ne_of_lt hq)]
  have hK2 := (hK.2 t _ (jtys_get ht)).2
  simp only [hty] at hK2
  obtain ⟨kA9, comp9, k1, k2, k3, k4⟩ := hK2
  have hcA : cA = dA t := Option.some.inj (f1.symm.trans k4)
  subst hcA
  have := kk H1 locs (hW.push (c := .inl (t, n.toNatClampNeg, .inr (.inr (.inr (.inr (fun _ => none)))))) (by
    show H1[b0 + h.length]? = some (arrV (dA t) n.toNatClampNeg (fun _ => va_rf (Option.map (fun a => b0 + a) none)))
    rw [← hW.2, e1]
    rfl) z1 o1) (jS_push hS z1 o1)
  rw [hW.2]
  exact this
theorem jh_oi (cx : jcx D dA b b0 L xs p s m args meth c mi) (hl : ls.size = jm_maxL mi) {idx : Nat} {a : Nat} (ho : jm_oi (jm_own mi) idx = true) (hd : decode (jm_code mi) pc = .ok (.invokespecial idx, 3)) (hfr : 1 ≤ R.frames) (hlo : 40 ≤ R.locals) (hcat : (rest.map fun v => v.category).sum ≤ 8)
    (kk : W p l e R s m args below meth c H locs cells slots Q (F0 m (pc + 3) ls rest)) : W p l e R s m args below meth c H locs cells slots Q (F0 m pc ls (.ref a :: rest)) := by
  obtain ⟨hx, hb, hml, hown, hts, hK, hov, hin, hX, hbs⟩ := cx
  obtain ⟨g1, g2, g3⟩ := jm_oi_ok _ _ ho
  exact W.objInit hx hb hown (hts _ g1) (hts _ g2) (hts _ g3) rfl (by rw [hml]; exact hl) rfl hd hfr (by show 2 * 0 + _ + 12 ≤ _; omega) kk
end JN
end
section
section JAC
variable {p : Program} {l : Launch} {e : Env} {R : Room} {s : State} {m : MethodId} {args : Array Value} {below : List Frame} {meth : Method} {c : Code} {H : Heap} {locs : List Loc} {cells slots : Nat} {Q : State → Prop}
variable {D : va_G} {dA : Nat → ClassId} {b b0 L mi pc : Nat} {xs : Nat → Int32} {ls : Array Slot} {rest : List Value} {h : List jC}
theorem jn_nn {z : Int32} (hz : ¬ z < 0) : z.toInt = (z.toNatClampNeg : Int) := by
  have h1 : (0 : Int) ≤ z.toInt := by
    have := Int32.not_lt.mp hz
    simpa using Int32.le_iff_toInt_le.mp this
  show z.toInt = ((z.toInt.toNat : Nat) : Int)
  omega
set_option maxHeartbeats 1000000 in
theorem jh_copy (cx : jcx D dA b b0 L xs p s m args meth c mi) (hW : jWd D dA b b0 h H) (hS : va_S (fun q => b0 ≤ q) s.heap H locs) (hl : ls.size = jm_maxL mi) {idx a a0 n0 n1 : Nat} {f g : Nat → Int32} {sp dp n : Int32} (ho : jm_ac (jm_own mi) idx = true) (ha0 : h[a0]? = some (.inl (0, n0, .inl f))) (ha : h[a]? = some (.inl (0, n1, .inl g)))
    (h1 : ¬ sp < 0) (h2 : ¬ dp < 0) (h3 : ¬ n < 0) (h4 : sp.toNatClampNeg + n.toNatClampNeg ≤ n0) (h5 : dp.toNatClampNeg + n.toNatClampNeg ≤ n1) (hd : decode (jm_code mi) pc = .ok (.invokestatic idx, 3)) (hfr : 1 ≤ R.frames) (hlo : 40 ≤ R.locals) (hcat : (rest.map fun v => v.category).sum ≤ 8)
    (kk : jKH p l e R s m args below meth c cells slots Q D dA b b0 (h.set a (.inl (0, n1, .inl (va_cpy f g sp.toNatClampNeg dp.toNatClampNeg n.toNatClampNeg)))) (F0 m (pc + 3) ls rest)) : W p l e R s m args below meth c H locs cells slots Q (F0 m pc ls (.int n :: .int dp :: .ref (b0 + a) :: .int sp :: .ref (b0 + a0) :: rest)) := by
  obtain ⟨hx, hb, hml, hown, hts, hK, hov, hin, hX, hbs⟩ := cx
  obtain ⟨g1, g2, g3, g4⟩ := jm_ac_ok _ _ ho
  have ht := jtys_get (dA := dA) (t := 0) (Nat.lt_of_lt_of_le (by decide) jm_nat2)
  rw [jm_aty0] at ht
  have hc0 : H[b0 + a0]? = some (arrV (dA 0) n0 (fun j => .int (f j))) := hW.at ha0
  have hc1 : H[b0 + a]? = some (arrV (dA 0) n1 (fun j => .int (g j))) := hW.at ha
  intro T hT X
  obtain ⟨-, k0, hk0, cm0, hkk0⟩ := (hK.2 0 _ ht).1 n0 (fun j => .int (f j))
  obtain ⟨-, k1, hk1, cm1, hkk1⟩ := (hK.2 0 _ ht).1 n1 (fun j => .int (g j))
  have hrd : ∀ i, i < n.toNatClampNeg → (arrV (dA 0) n0 (fun j => .int (f j))).slots.getD (sp.toNatClampNeg + i) .null = .int (f (sp.toNatClampNeg + i)) := fun i hi => by
    rw [Array.getD_eq_getD_getElem?, arrV_read _ _ (by omega)]
    rfl
  obtain ⟨vm', X', step⟩ := X.arraycopy hx hown (hts _ g1) (hts _ g2) (hts _ g3) (hts _ g4) (src := b0 + a0) (dst := b0 + a) (srcPos := sp) (destPos := dp) (n := n) (by rw [hT]; exact hc0) (by rw [hT]; exact hc1)
    (fun _ h => by cases h) (fun _ h => by cases h) (fun h => by cases h) (fun h => by cases h) hk0 hk1 hkk0 hkk1 (by simp [refKind]) h1 h2 h3
    (by rw [jn_nn h1, jn_nn h3, arrV_size]; omega)
    (by rw [jn_nn h2, jn_nn h3, arrV_size]; omega)
    (fun vm₁ _ i hi => by rw [hrd i hi]; exact ⟨rfl, trivial⟩)
    (g := F0 m pc ls (.int n :: .int dp :: .ref (b0 + a) :: .int sp :: .ref (b0 + a0) :: rest)) rfl (by rw [hml]; exact hl) (rest := rest) rfl (by rw [hb]; exact hd) hfr (by
      have : nativeFrameWords "java/lang/System" "arraycopy" 5 + 11 ≤ 32 := by decide +kernel
      show 2 * 0 + _ + _ ≤ _
      omega)
  have e1 : copied (arrV (dA 0) n0 (fun j => .int (f j))) (arrV (dA 0) n1 (fun j => .int (g j))) sp dp n = arrV (dA 0) n1 (fun j => .int (va_cpy f g sp.toNatClampNeg dp.toNatClampNeg n.toNatClampNeg j)) := va_copied (fun z => .int z) (dA 0) (dA 0) f g h4
  rw [e1] at X' step
  have hlt : b0 + a < H.size := (Array.getElem?_eq_some_iff.mp hc1).1
  obtain ⟨t, a1, b1⟩ := kk (H.setIfInBounds (b0 + a) (arrV (dA 0) n1 (fun j => .int (va_cpy f g sp.toNatClampNeg dp.toNatClampNeg n.toNatClampNeg j)))) _
    (hW.set ha (show (H.setIfInBounds (b0 + a) (arrV (dA 0) n1 (fun j => .int (va_cpy f g sp.toNatClampNeg dp.toNatClampNeg n.toNatClampNeg j))))[b0 + a]? = some (arrV (dA 0) n1 (fun j => .int (va_cpy f g sp.toNatClampNeg dp.toNatClampNeg n.toNatClampNeg j))) by simp [Array.getElem?_setIfInBounds, hlt]) (by simp) (fun q hq => by simp [Array.getElem?_setIfInBounds, Ne.symm hq]))
    ⟨by simp; exact hS.1, fun q q1 q2 => by
      have hq : ¬ b0 + a = q := fun z => q2 (by show b0 ≤ q; omega)
      simp [Array.getElem?_setIfInBounds, hq]
      exact hS.2.1 q q1 q2, fun q hq => by
      rcases List.mem_append.mp hq with z | z
      · exact hS.2.2 q z
      · obtain ⟨y, -, hy⟩ := List.mem_map.mp z
        rw [← hy]
        exact Nat.le_add_right b0 a⟩ _ (by rw [← hT]; rfl) X'
  exact ⟨t, step t a1, b1⟩
end JAC
end
section
section JHOK
variable {p : Program} {l : Launch} {e : Env} {R : Room} {s : State} {m : MethodId} {args : Array Value} {below : List Frame} {meth : Method} {c : Code} {H : Heap} {locs : List Loc} {cells slots : Nat} {Q : State → Prop}
variable {D : va_G} {dA : Nat → ClassId} {b b0 L mi pc len : Nat} {xs : Nat → Int32} {ls : Array Slot} {lv : jL} {st rest : List Value} {h : List jC}
theorem jh_mna (cx : jcx D dA b b0 L xs p s m args meth c mi) (hW : jWd D dA b b0 h H) (hS : va_S (fun q => b0 ≤ q) s.heap H locs) {idx : Nat} {t : Nat × Nat} (hq : jm_mna (jm_own mi) idx = some t) {n w : Int32} (hn : ¬ n < 0) (hw : ¬ w < 0) (hn2 : n.toNatClampNeg ≤ 1000) (hw2 : w.toNatClampNeg ≤ 1000) (hd : decode (jm_code mi) pc = .ok (.multianewarray idx 2, 4)) (hcells : cells + (1 + n.toNatClampNeg) ≤ R.cells) (hslots : slots + (n.toNatClampNeg + n.toNatClampNeg * w.toNatClampNeg) ≤ R.slots)
    (kk : jKH p l e R s m args below meth c (cells + (1 + n.toNatClampNeg)) (slots + (n.toNatClampNeg + n.toNatClampNeg * w.toNatClampNeg)) Q D dA b b0 ((h ++ [.inl (t.1, n.toNatClampNeg, .inr (.inr (.inr (.inr (fun i => if i < n.toNatClampNeg then some (h.length + 1 + i) else none)))))]) ++ List.replicate n.toNatClampNeg (.inl (0, w.toNatClampNeg, .inl (fun _ => 0)))) (F0 m (pc + 4) ls (.ref (b0 + h.length) :: rest))) : W p l e R s m args below meth c H locs cells slots Q (F0 m pc ls (.int w :: .int n :: rest)) := by
  sorry
theorem jk_same {g : JFrame} (hW : jWd D dA b b0 h H) (hS : va_S (fun q => b0 ≤ q) s.heap H locs) (kk : jKH p l e R s m args below meth c (cells + (h.length - h.length)) (slots + (jsl h - jsl h)) Q D dA b b0 h g) : W p l e R s m args below meth c H locs cells slots Q g := by
  have := kk H locs hW hS
  simpa using this
theorem jk_set {g : JFrame} {a : Nat} {c0 c9 : jC} (ha : h[a]? = some c0) (hz : jsz c9 = jsz c0) (kk : jKH p l e R s m args below meth c (cells + ((h.set a c9).length - h.length)) (slots + (jsl (h.set a c9) - jsl h)) Q D dA b b0 (h.set a c9) g) : jKH p l e R s m args below meth c cells slots Q D dA b b0 (h.set a c9) g := by
  rw [List.length_set, Nat.sub_self, jsl_set h a c0 c9 ha hz, Nat.sub_self] at kk
  exact kk
theorem jk_push {g : JFrame} {c9 : jC} (kk : jKH p l e R s m args below meth c (cells + ((h ++ [c9]).length - h.length)) (slots + (jsl (h ++ [c9]) - jsl h)) Q D dA b b0 (h ++ [c9]) g) : jKH p l e R s m args below meth c (cells + 1) (slots + jsz c9) Q D dA b b0 (h ++ [c9]) g := by
  rw [jsl_app, jsl_one, List.length_append, Nat.add_sub_cancel_left, Nat.add_sub_cancel_left] at kk
  exact kk
theorem jn_push {c9 : jC} (hc : cells + ((h ++ [c9]).length - h.length) ≤ R.cells) (hsl : slots + (jsl (h ++ [c9]) - jsl h) ≤ R.slots) : cells + 1 ≤ R.cells ∧ slots + jsz c9 ≤ R.slots := by
  rw [jsl_app, jsl_one, Nat.add_sub_cancel_left] at hsl
  rw [List.length_append, Nat.add_sub_cancel_left] at hc
  exact ⟨hc, hsl⟩
set_option maxHeartbeats 4000000 in
theorem jh_ok (cx : jcx D dA b b0 L xs p s m args meth c mi) (hW : jWd D dA b b0 h H) (hS : va_S (fun q => b0 ≤ q) s.heap H locs) (hl : ls.size = jm_maxL mi) (hfr : 1 ≤ R.frames) (hlo : 40 ≤ R.locals) {i : Instr} (hlen : jlen i = 0 ∨ len = jlen i) (hd : decode (jm_code mi) pc = .ok (i, len)) {r : Nat × jL × List Value × List jC}
    (hs : jH L xs (decide (mi = 0)) (jm_ini mi) (jm_own mi) pc lv st h i = some r) (hc : cells + (r.2.2.2.length - h.length) ≤ R.cells) (hsl : slots + (jsl r.2.2.2 - jsl h) ≤ R.slots)
    (kk : jKH p l e R s m args below meth c (cells + (r.2.2.2.length - h.length)) (slots + (jsl r.2.2.2 - jsl h)) Q D dA b b0 r.2.2.2 (F0 m r.1 ls (r.2.2.1.map (jv b b0)))) :
    W p l e R s m args below meth c H locs cells slots Q (F0 m pc ls (st.map (jv b b0))) := by
  cases i with
  | getfield idx =>
    simp only [jH] at hs
    split at hs
    · split at hs
      · next ci f ci' fs hf ha =>
        split at hs
        · next he =>
          subst he
          cases hv : fs[f]? with
          | none => rw [hv] at hs; cases hs
          | some v =>
            rw [hv] at hs
            cases hs
            exact jh_get cx hW hf ha hv (jq_len rfl (by decide) hlen hd) (jk_same hW hS kk)
        · cases hs
      · cases hs
    · cases hs
  | putfield idx =>
    simp only [jH] at hs
    split at hs
    · split at hs
      · next ci f ci' fs hf ha =>
        split at hs
        · next he =>
          obtain ⟨rfl, h1, h2, h3⟩ := he
          cases hs
          exact jh_put cx hW hS hf ha h1 h2 h3 (jq_len rfl (by decide) hlen hd) (jk_set ha (by simp [jsz]) kk)
        · cases hs
      · cases hs
    · cases hs
  | iaload =>
    simp only [jH] at hs
    split at hs
    · split at hs
      · next t n f ha =>
        split at hs
        · next he =>
          obtain ⟨rfl, h1⟩ := he
          cases hs
          exact jh_iald cx hW ha h1 (jq_len rfl (by decide) hlen hd) (jk_same hW hS kk)
        · cases hs
      · cases hs
    · split at hs
      · next he =>
        cases hs
        exact jh_sld cx (of_decide_eq_true he.1) hS he.2 (jq_len rfl (by decide) hlen hd) (jk_same hW hS kk)
      · cases hs
    · cases hs
  | baload =>
    simp only [jH] at hs
    split at hs
    · split at hs
      · next t n f ha =>
        split at hs
        · next he =>
          obtain ⟨rfl, h1⟩ := he
          cases hs
          exact jh_bald cx hW ha h1 (jq_len rfl (by decide) hlen hd) (jk_same hW hS kk)
        · cases hs
      · cases hs
    · cases hs
  | aaload =>
    simp only [jH] at hs
    split at hs
    · split at hs
      · next t n f ha =>
        split at hs
        · next he =>
          cases hs
          exact jh_aald cx hW ha he.1 he.2.1 he.2.2 (jq_len rfl (by decide) hlen hd) (jk_same hW hS kk)
        · cases hs
      · cases hs
    · cases hs
  | arraylength =>
    simp only [jH] at hs
    split at hs
    · split at hs
      · next t n x ha =>
        split at hs
        · next he =>
          cases hs
          exact jh_alen cx hW ha he (jq_len rfl (by decide) hlen hd) (jk_same hW hS kk)
        · cases hs
      · cases hs
    · split at hs
      · next he =>
        cases hs
        exact jh_slen cx (of_decide_eq_true he) hS (jq_len rfl (by decide) hlen hd) (jk_same hW hS kk)
      · cases hs
    · cases hs
  | iastore =>
    simp only [jH] at hs
    split at hs
    · split at hs
      · next t n f ha =>
        split at hs
        · next he =>
          obtain ⟨rfl, h1⟩ := he
          cases hs
          exact jh_iast cx hW hS ha h1 (jq_len rfl (by decide) hlen hd) (jk_set ha rfl kk)
        · cases hs
      · cases hs
    · cases hs
  | bastore =>
    simp only [jH] at hs
    split at hs
    · split at hs
      · next t n f ha =>
        split at hs
        · next he =>
          obtain ⟨rfl, h1, h2⟩ := he
          cases hs
          exact jh_bast cx hW hS ha h1 h2 (jq_len rfl (by decide) hlen hd) (jk_set ha rfl kk)
        · cases hs
      · cases hs
    · cases hs
  | aastore =>
    simp only [jH] at hs
    split at hs
    · split at hs
      · next t n f ci vs ha hv =>
        split at hs
        · next he =>
          cases hs
          exact jh_aast cx hW hS ha hv he.1 he.2.1 he.2.2 (jq_len rfl (by decide) hlen hd) (jk_set ha rfl kk)
        · cases hs
      · cases hs
    · cases hs
  | new idx =>
    simp only [jH] at hs
    split at hs
    · next ci hn =>
      cases hs
      obtain ⟨g1, g2⟩ := jn_push hc hsl
      have g3 : jsz (.inr (ci, (List.range (jm_nf ci)).map (fun j => defaultValue (jm_ty ci j)))) = jm_nf ci := by simp [jsz]
      have kk := jk_push kk
      rw [g3] at g2 kk
      exact jh_new cx hW hS hn (jq_len rfl (by decide) hlen hd) g1 g2 kk
    · cases hs
  | newarray ty =>
    simp only [jH] at hs
    split at hs
    · split at hs
      · next he =>
        split at hs
        · next hty =>
          cases hs
          obtain ⟨g1, g2⟩ := jn_push hc hsl
          exact jh_newa cx hW hS (t := 0) (Nat.lt_of_lt_of_le (by decide) jm_nat2) (by rw [jm_aty0]; exact hty) (by rw [jm_aty0]; exact jm_ar.1) (by rw [jm_aty0]; rfl) (by rw [jm_aty0]; decide) (fun U cA hU => by rw [jm_aty0] at hU ⊢; exact hU) he.1 he.2 (jq_len rfl (by decide) hlen hd) g1 g2 (jk_push kk)
        · next hty =>
          cases hs
          obtain ⟨g1, g2⟩ := jn_push hc hsl
          exact jh_newa cx hW hS (t := 1) (Nat.lt_of_lt_of_le (by decide) jm_nat2) (by rw [jm_aty1]; exact hty) (by rw [jm_aty1]; exact jm_ar.2) (by rw [jm_aty1]; rfl) (by rw [jm_aty1]; decide) (fun U cA hU => by rw [jm_aty1] at hU ⊢; exact hU) he.1 he.2 (jq_len rfl (by decide) hlen hd) g1 g2 (jk_push kk)
        · cases hs
      · cases hs
    · cases hs
  | anewarray idx =>
    simp only [jH] at hs
    split at hs
    · next n st t hq =>
      split at hs
      · next he =>
        cases hs
        obtain ⟨g1, g2⟩ := jn_push hc hsl
        exact jh_newq cx hW hS hq he.1 he.2 (jq_len rfl (by decide) hlen hd) g1 g2 (jk_push kk)
      · cases hs
    · cases hs
  | multianewarray idx dm =>
    by_cases hdm : dm = 2
    · subst hdm
      simp only [jH] at hs
      split at hs
      · next w n st t hq =>
        split at hs
        · next he =>
          cases hs
          sorry
        · cases hs
      · cases hs
    · have : jH L xs (decide (mi = 0)) (jm_ini mi) (jm_own mi) pc lv st h (.multianewarray idx dm) = none := by
        unfold jH
        split <;> simp_all
      rw [this] at hs
      cases hs
  | invokestatic idx =>
    simp only [jH] at hs
    split at hs
    · split at hs
      · next t0 n0 f t1 n1 g ho ha0 ha =>
        split at hs
        · next he =>
          obtain ⟨rfl, rfl, h1, h2, h3, h4, h5, h6⟩ := he
          cases hs
          exact jh_copy cx hW hS hl ho ha0 ha h1 h2 h3 h4 h5 (jq_len rfl (by decide) hlen hd) hfr hlo (by simpa [jv_cat, Function.comp_def] using h6) (jk_set ha rfl kk)
        · cases hs
      · cases hs
    · cases hs
  | invokespecial idx =>
    simp only [jH] at hs
    split at hs
    · split at hs
      · next he =>
        cases hs
        exact jh_oi cx hl he.1 (jq_len rfl (by decide) hlen hd) hfr hlo (by simpa [jv_cat, Function.comp_def] using he.2) (jk_same hW hS kk)
      · cases hs
    · cases hs
  | _ => cases hs
end JHOK
end
section
theorem jsl_one' (v : Value) (as : List Value) : (lg_sl (v :: as)).length = (if v.category = 2 then 2 else 1) + (lg_sl as).length := by
  unfold lg_sl
  rw [List.flatMap_cons, List.length_append]
  by_cases h : v.category = 2
  · rw [if_pos h, if_pos h]; rfl
  · rw [if_neg h, if_neg h]; rfl
theorem jsl_lg (b b0 : Nat) : ∀ as : List Value, (lg_sl (as.map (jv b b0))).length = (lg_sl as).length
  | [] => rfl
  | v :: as => by
    rw [List.map_cons, jsl_one', jsl_one', jv_cat, jsl_lg b b0 as]
theorem jlv_args (b b0 : Nat) : ∀ (as : List Value) (k : Nat), lv_args k (as.map (jv b b0)) = jlv b b0 (lv_args k as)
  | [], _ => rfl
  | v :: as, k => by
    simp only [List.map_cons, lv_args, jv_cat, jlv]
    rw [jlv_args b b0 as]
    rfl
theorem jAO_moved {u U : State} (hvm : u.vm.Alike U.vm) (h : (Cond.arrayOver (.array .int)).before #[] u = true) : (Cond.arrayOver (.array .int)).before #[] U = true := by
  obtain ⟨comp, c, k, h1, h2, h3, h4, h5⟩ := arrayOverA_spec h
  obtain ⟨k', hk', he⟩ := hvm.2.2 _ _ h3
  have hi : (U.vm.classes.findIdx? fun (x : Class) => match x.kind with | .array component _ => component == comp | _ => false) = some c := by
    rw [hvm.findIdx?_eq _ (fun _ => rfl)]; exact h2
  have hkind : k'.kind = .array comp (.array .int) := by rw [he]; exact h4
  have f1 : U.vm.findClass (FieldType.array .int).toString = some comp := by rw [hvm.findClass]; exact h1
  have f2 : U.vm.findClass ("[" ++ (FieldType.array .int).toString) = some c := by rw [hvm.findClass]; exact h5
  unfold Cond.before Cond.holds
  simp only [Cond.value]
  rw [f1, Option.bind_some]
  refine (congrArg (fun o : Option Nat => (o.bind (fun c => (U.vm.classes[c]?).map fun (k : Class) => match k.kind with | .array _ ty => decide (ty = FieldType.array .int) && decide (U.vm.findClass ("[" ++ (FieldType.array .int).toString) = some c) | _ => false) == some true)) hi).trans ?_
  simp [hk', hkind, f2]
theorem jov_moved {u U : State} (hW : u.WarmedH U.vm) (h : jov u) : jov U := by
  refine ⟨fun C hC => (h.1 C hC).moved hW.alike, jAO_moved hW.alike h.2.1, fun w hw => ?_⟩
  obtain ⟨a, i, x, h9, rfl⟩ := jm_nest_ok w hw
  exact va_Nw.warmM hW (h.2.2 _ hw)
def jws (y : Nat) : List Cond := Cond.code (jm_nm y) (jm_code y) (jm_maxL y) (jm_ret y) :: jm_gw
theorem jws_good {y : Nat} (hy : y < jm_n) : GoodIn jm_gw (jws y) := by
  intro w hw
  have hm : w ∈ jm_gw := by
    rcases List.mem_cons.mp hw with rfl | h
    · exact (jm_y_ok y hy).1
    · exact h
  exact ⟨hm, good_of_word (List.mem_filter.mp hm).2⟩
def jroom (d mc ms : Nat) : Room := { frames := d, cells := mc, slots := ms, locals := 40 * d }
def jPc (D : va_G) (dA : Nat → ClassId) (b b0 : Nat) (as : List Value) (h : List jC) : Array Value → State → Prop := fun v U => v = (as.map (jv b b0)).toArray ∧ jWd D dA b b0 h U.heap ∧ va_K D vwCl (jtys dA) U ∧ jov U
def jQc (D : va_G) (dA : Nat → ClassId) (b b0 : Nat) (r : Option Value) (h' : List jC) : Array Value → State → Outcome → State → Prop := fun _ st oc t => oc = .returned (r.map (jv b b0)) ∧ jWd D dA b b0 h' t.heap ∧ va_F (fun q => b0 ≤ q) st t
theorem jend_st {mi : Nat} {st : List Value} {i : Instr} {r : Option Value} (h : jend mi st i = some r) : st = r.toList := by
  unfold jend at h
  split at h
  · split at h
    · cases h; rfl
    · cases h
  · cases h; rfl
  · split at h
    · cases h; rfl
    · cases h
  · split at h
    · cases h; rfl
    · cases h
  · cases h; rfl
  · cases h
theorem jend_len {mi : Nat} {st : List Value} {i : Instr} {r : Option Value} (h : jend mi st i = some r) : jlen i = 1 := by
  unfold jend at h
  split at h <;> first | rfl | cases h
/-- what a run of a method's body is to give, from any place in it -/
def jBody (l : Launch) (D : va_G) (dA : Nat → ClassId) (b b0 L : Nat) (xs : Nat → Int32) (d mi pc : Nat) (lv : jL) (st : List Value) (h : List jC) (r : Option Value) (h' : List jC) : Prop :=
  ∀ (p : Program) (e : Env) (R : Room) (s : State) (m : MethodId) (args : Array Value) (below : List Frame) (meth : Method) (c : Code) (H : Heap) (locs : List Loc) (cells slots : Nat) (Q : State → Prop) (ls : Array Slot),
    jcx D dA b b0 L xs p s m args meth c mi → lv_has ls (jm_maxL mi) (jlv b b0 lv) → jWd D dA b b0 h H → va_S (fun q => b0 ≤ q) s.heap H locs → d ≤ R.frames → 40 * d ≤ R.locals → cells + (h'.length - h.length) ≤ R.cells → slots + (jsl h' - jsl h) ≤ R.slots →
    (∀ (pc' : Nat) (ls' : Array Slot) (H' : Heap) (locs' : List Loc) (i' : Instr), decode (jm_code mi) pc' = .ok (i', 1) → jend mi r.toList i' = some r → jWd D dA b b0 h' H' → va_S (fun q => b0 ≤ q) s.heap H' locs' → W p l e R s m args below meth c H' locs' (cells + (h'.length - h.length)) (slots + (jsl h' - jsl h)) Q (F0 m pc' ls' (r.toList.map (jv b b0)))) →
    W p l e R s m args below meth c H locs cells slots Q (F0 m pc ls (st.map (jv b b0)))
theorem jmet {l : Launch} {D : va_G} {dA : Nat → ClassId} {b b0 L : Nat} {xs : Nat → Int32} {d y : Nat} {as : List Value} {h h1 : List jC} {r : Option Value} (hy : y < jm_n) (hy0 : y ≠ 0) (hsl : (lg_sl as).length ≤ jm_maxL y)
    (body : jBody l D dA b b0 L xs d y 0 (lv_args 0 as) [] h r h1) :
    Met l (jm_nm y) (jws y) (jroom d (h1.length - h.length) (jsl h1 - jsl h)) (jPc D dA b b0 as h) (jQc D dA b b0 r h1) (h1.length - h.length) (jsl h1 - jsl h) (fun q => b0 ≤ q) := by
  obtain ⟨y1, y2, y3, y4, y5, y6, y7⟩ := jm_y_ok y hy
  refine Met.ofW (cc := jm_code y) (maxL := jm_maxL y) (ret := jm_ret y) y3 rfl ?_
  intro p e s m args below meth c s₁ B hml hv
  obtain ⟨rfl, hW, hK, hov⟩ := hv
  have hts := atoms_spec (ws := jws y) B.pre
  have hown : s.vm.findClass (jm_nm y).cls = some m.cls := findClass_of_methodNamed B.named
  have hlocks := B.notSynchronized
  have hnm := (name_of_methodNamed B.named B.method).1
  have hx := B.exec
  have hb := B.bytes
  have hr := B.returns
  rw [y4] at hown
  have cx : jcx D dA b b0 L xs p s m (as.map (jv b b0)).toArray meth c y := ⟨B.exec, B.bytes, hml, hown, fun w hw => hts w (List.mem_cons_of_mem _ hw), hK, hov, fun hi => hnm.trans (y7 hi), fun h => absurd h hy0, by rw [hW.2]; exact Nat.le_add_right _ _⟩
  rw [lg_entry_eq]
  have hl := lv_entry (as.map (jv b b0)) (n := jm_maxL y) (by rw [jsl_lg]; exact hsl)
  rw [jlv_args] at hl
  refine body p e _ s m _ below meth c s.heap [] 0 0 _ _ cx hl hW va_S.rf (Nat.le_refl d) (Nat.le_refl _) (by rw [Nat.zero_add]; exact Nat.le_refl _) (by rw [Nat.zero_add]; exact Nat.le_refl _) ?_
  intro pc' ls' H' locs' i' hd he hW' hS'
  rw [Nat.zero_add, Nat.zero_add]
  have fin : ∀ t : State, t.heap = H' → s.WarmedH t.vm → jQc D dA b b0 r h1 (as.map (jv b b0)).toArray s (.returned (r.map (jv b b0))) t := fun t ht _ => ⟨rfl, by rw [ht]; exact hW', hS'.F ht⟩
  unfold jend at he
  split at he
  · next x ty hrt hst =>
    split at he
    · next hf =>
      cases he
      exact W.zret hx hb (hr.trans hst) (jfit_ok b b0 hf).1 fin hS'.2.2 hd
    · cases he
  · next x hrt hst =>
    cases he
    exact W.lret hx hb (hr.trans hst) fin hS'.2.2 hd
  · next a ty hrt hst =>
    split at he
    · next hf =>
      cases he
      refine W.aret hx hb (hr.trans hst) ?_ (Or.inr ⟨_, rfl⟩) fin hS'.2.2 hd
      cases ty <;> simp_all [jfit]
    · cases he
  · next ty hrt hst =>
    split at he
    · next hf =>
      cases he
      refine W.aret hx hb (hr.trans hst) ?_ (Or.inl rfl) fin hS'.2.2 hd
      cases ty <;> simp_all [jfit]
    · cases he
  · next hrt hst =>
    cases he
    exact W.vret hx hb (hr.trans hst) fin hS'.2.2 hd
  · cases he
end
section
theorem jblind {D : va_G} {dA : Nat → ClassId} {b b0 : Nat} {as : List Value} {h : List jC} : FrameBlind (jPc D dA b b0 as h) := by
  intro a U g mk q
  obtain ⟨q1, q2, q3, q4, q5, q6⟩ := q
  refine ⟨q1, q2, va_K.moved (u := U) (U := U.calling g mk a) (Vm.Alike.refl U.vm) q3, fun C hC => (q4 C hC).moved (u := U) (U := U.calling g mk a) (Vm.Alike.refl U.vm), jAO_moved (u := U) (U := U.calling g mk a) (Vm.Alike.refl U.vm) q5, fun w hw => ?_⟩
  obtain ⟨a9, i9, x9, h9, rfl⟩ := jm_nest_ok w hw
  exact va_Nw.same rfl rfl (q6 _ hw)
section JRUN
variable {p : Program} {l : Launch} {e : Env} {R : Room} {s : State} {m : MethodId} {args : Array Value} {below : List Frame} {meth : Method} {c : Code} {H : Heap} {locs : List Loc} {cells slots : Nat} {Q : State → Prop}
variable {D : va_G} {dA : Nat → ClassId} {b b0 L mi pc len : Nat} {xs : Nat → Int32} {ls : Array Slot} {lv : jL} {st rest : List Value} {h h1 : List jC} {r : Option Value} {mc ms : Nat}
theorem jgo_call {a : Array Value} {st0 rest0 : List Value} (hr : va_Run p l e R s m args below meth c H locs cells slots mc ms (F0 m pc ls st0) rest0 (jQc D dA b b0 r h1 a) (fun q => b0 ≤ q)) (hS : va_S (fun q => b0 ≤ q) s.heap H locs)
    (kk : jKH p l e R s m args below meth c (cells + mc) (slots + ms) Q D dA b b0 h1 (F0 m (pc + 3) ls ((r.map (jv b b0)).toList ++ rest0))) : W p l e R s m args below meth c H locs cells slots Q (F0 m pc ls st0) := by
  intro T hT X
  obtain ⟨v, st₀, t, T', L9, h0, X', hL, e1, e2, ⟨hv, hWd, hz, hk⟩, step⟩ := hr T hT X
  cases hv
  rw [h0] at hz hk
  obtain ⟨t2, a1, b1⟩ := kk T'.heap (locs ++ L9) (by rw [e1]; exact hWd) ⟨Nat.le_trans hS.1 (by rw [e1]; exact hz), fun q q1 q2 => by rw [e1, hk q (Nat.lt_of_lt_of_le q1 hS.1) q2]; exact hS.2.1 q q1 q2, fun q hq => by
      rcases List.mem_append.mp hq with z | z
      · exact hS.2.2 q z
      · exact hL q z⟩ T' rfl X'
  exact ⟨t2, step t2 a1, b1⟩
set_option maxHeartbeats 1000000 in
theorem jcall_ok (cx : jcx D dA b b0 L xs p s m args meth c mi) (hl : ls.size = jm_maxL mi) (hW : jWd D dA b b0 h H) (hS : va_S (fun q => b0 ≤ q) s.heap H locs) {i : Instr} (hlen : jlen i = 0 ∨ len = jlen i) (hd : decode (jm_code mi) pc = .ok (i, len)) {y d : Nat} {as : List Value} (hc : jcall (jm_own mi) st h i = some (y, as, rest)) (hy : y < jm_n)
    (hM : Met l (jm_nm y) (jws y) (jroom d mc ms) (jPc D dA b b0 as h) (jQc D dA b b0 r h1) mc ms (fun q => b0 ≤ q)) (hfr : d + 1 ≤ R.frames) (hlo : 40 * (d + 1) ≤ R.locals) (hcm : cells + mc ≤ R.cells) (hsm : slots + ms ≤ R.slots)
    (kk : jKH p l e R s m args below meth c (cells + mc) (slots + ms) Q D dA b b0 h1 (F0 m (pc + 3) ls ((r.toList ++ rest).map (jv b b0)))) : W p l e R s m args below meth c H locs cells slots Q (F0 m pc ls (st.map (jv b b0))) := by
  obtain ⟨hx, hb, hml, hown, hts, hK, hov, hin, hX, hbs⟩ := cx
  obtain ⟨y1, y2, y3, y4, y5, y6, y7⟩ := jm_y_ok y hy
  have hRo : (jroom d mc ms).frames + 1 ≤ R.frames ∧ 8 + (jm_maxL y + 11) + (jroom d mc ms).locals ≤ R.locals := ⟨hfr, by show 8 + (jm_maxL y + 11) + 40 * d ≤ _; omega⟩
  have kk2 : jKH p l e R s m args below meth c (cells + mc) (slots + ms) Q D dA b b0 h1 (F0 m (pc + 3) ls ((r.map (jv b b0)).toList ++ rest.map (jv b b0))) := by
    have e9 : (r.toList ++ rest).map (jv b b0) = (r.map (jv b b0)).toList ++ rest.map (jv b b0) := by cases r <;> simp
    rw [← e9]; exact kk
  have hcat : ∀ v : List Value, (v.map fun v => v.category).sum ≤ 8 → 2 * (F0 m pc ls (st.map (jv b b0))).monitorRoom + ((v.map (jv b b0)).map fun v => v.category).sum ≤ 8 := fun v hv => by
    show 2 * 0 + _ ≤ 8
    rw [List.map_map]
    have : ((fun v => Value.category v) ∘ jv b b0) = fun v => v.category := funext fun v => jv_cat b b0 v
    rw [this]
    omega
  have hPc : ∀ U : State, U.heap = H → s.WarmedH U.vm → jPc D dA b b0 as h (as.map (jv b b0)).toArray U := fun U hU hWm => ⟨rfl, by rw [hU]; exact hW, va_K.moved hWm.alike hK, jov_moved hWm hov⟩
  cases i with
  | invokevirtual idx =>
    simp only [jcall] at hc
    split at hc
    · next kd y' n hm =>
      split at hc
      · next hkd =>
        split at hc
        · next a rest' hdr =>
          split at hc
          · next ci fs ha =>
            split at hc
            · next hcc =>
              cases hc
              obtain ⟨m1, m2, m3, m4, m5, m6⟩ := jm_mth_ok _ _ _ _ _ hm
              obtain ⟨k1, k2, k3⟩ := m4 hkd.1
              have hst : st = st.take n ++ (.ref a :: rest) := by rw [← hdr, List.take_append_drop]
              have hstack : st.map (jv b b0) = ((st.take n).reverse.map (jv b b0)).reverse ++ .ref (b0 + a) :: rest.map (jv b b0) := by
                conv => lhs; rw [hst]
                rw [List.map_append, List.map_reverse, List.reverse_reverse]
                rfl
              have hnl : ((st.take n).reverse.map (jv b b0)).length = n := by
                rw [List.length_map, List.length_reverse, List.length_take]; omega
              obtain ⟨q9, hq9, hq8⟩ : ∃ q9, vwCl[ci]? = some q9 ∧ q9.1 = (jm_nm y).cls := by
                rw [hcc.1] at k3
                cases hv9 : vwCl[ci]? with
                | none => rw [hv9] at k3; cases k3
                | some q9 => rw [hv9] at k3; exact ⟨q9, rfl, Option.some.inj k3⟩
              have hrec := va_recv hK hW.1 hq9 (jw_get ha)
              rw [hq8] at hrec
              rcases hkd.1 with rfl | rfl
              · exact jgo_call (va_runV (As := (st.take n).reverse.map (jv b b0)) (rest := rest.map (jv b b0)) (g := F0 m pc ls (st.map (jv b b0))) (Ts := jm_gw) (C := (jm_nm y).cls) ⟨hx, hb, hml, hown, hts⟩ hM ⟨callB_of n hts (jws_good hy) rfl rfl rfl (hts _ y2) (hts _ (m2 (Or.inl rfl))) ⟨y5.1, y5.2, m1⟩ hRo, hts _ k1, hts _ k2⟩ ⟨jblind, hrec, hPc⟩ rfl hnl hl hstack (hcat _ hcc.2) (jq_len rfl (by decide) hlen hd) ⟨hcm, hsm⟩) hS kk2
              · exact jgo_call (va_runVN (As := (st.take n).reverse.map (jv b b0)) (rest := rest.map (jv b b0)) (g := F0 m pc ls (st.map (jv b b0))) (Ts := jm_gw) (C := (jm_nm y).cls) ⟨hx, hb, hml, hown, hts⟩ hM ⟨va_cnB n hts (jws_good hy) rfl rfl rfl (hov.2.2 _ (m3 (Or.inl rfl))) (hts _ y2) ⟨y5.1, y5.2, m1⟩ hRo, hts _ k1, hts _ k2⟩ ⟨jblind, hrec, hPc⟩ rfl hnl hl hstack (hcat _ hcc.2) (jq_len rfl (by decide) hlen hd) ⟨hcm, hsm⟩) hS kk2
            · cases hc
          · cases hc
        · cases hc
      · cases hc
    · cases hc
  | invokespecial idx =>
    simp only [jcall] at hc
    split at hc
    · next kd y' n hm =>
      split at hc
      · next hkd =>
        split at hc
        · next a rest' hdr =>
          split at hc
          · next hcc =>
            cases hc
            obtain ⟨m1, m2, m3, m4, m5, m6⟩ := jm_mth_ok _ _ _ _ _ hm
            obtain ⟨k1, k2, k3⟩ := m5 hkd.1
            have hst : st = st.take n ++ (.ref a :: rest) := by rw [← hdr, List.take_append_drop]
            have hstack : st.map (jv b b0) = ((st.take n).reverse.map (jv b b0)).reverse ++ .ref (b0 + a) :: rest.map (jv b b0) := by
              conv => lhs; rw [hst]
              rw [List.map_append, List.map_reverse, List.reverse_reverse]
              rfl
            have hnl : ((st.take n).reverse.map (jv b b0)).length = n := by
              rw [List.length_map, List.length_reverse, List.length_take]; omega
            have hwq : jws y = Cond.code (jm_nm y) (jm_code y) (jm_maxL y) none :: jm_gw := by unfold jws; rw [k3]
            rcases hkd.1 with rfl | rfl
            · exact jgo_call (va_runI (As := (st.take n).reverse.map (jv b b0)) (rest := rest.map (jv b b0)) (g := F0 m pc ls (st.map (jv b b0))) (Ts := jm_gw) ⟨hx, hb, hml, hown, hts⟩ hM ⟨callB_of n hts (jws_good hy) hwq rfl rfl (hts _ y2) (hts _ (m2 (Or.inr (Or.inl rfl)))) ⟨y5.1, y5.2, m1⟩ hRo, k2, hts _ k1⟩ ⟨jblind, hPc⟩ rfl hnl hl hstack (hcat _ hcc) (jq_len rfl (by decide) hlen hd) ⟨hcm, hsm⟩) hS kk2
            · exact jgo_call (va_runIN (As := (st.take n).reverse.map (jv b b0)) (rest := rest.map (jv b b0)) (g := F0 m pc ls (st.map (jv b b0))) (Ts := jm_gw) ⟨hx, hb, hml, hown, hts⟩ hM ⟨va_cnB n hts (jws_good hy) hwq rfl rfl (hov.2.2 _ (m3 (Or.inr (Or.inl rfl)))) (hts _ y2) ⟨y5.1, y5.2, m1⟩ hRo, k2, hts _ k1⟩ ⟨jblind, hPc⟩ rfl hnl hl hstack (hcat _ hcc) (jq_len rfl (by decide) hlen hd) ⟨hcm, hsm⟩) hS kk2
          · cases hc
        · cases hc
      · cases hc
    · cases hc
  | invokestatic idx =>
    simp only [jcall] at hc
    split at hc
    · next kd y' n hm =>
      split at hc
      · next hkd =>
        cases hc
        obtain ⟨m1, m2, m3, m4, m5, m6⟩ := jm_mth_ok _ _ _ _ _ hm
        have k1 := m6 hkd.1
        have hstack : st.map (jv b b0) = ((st.take n).reverse.map (jv b b0)).reverse ++ (st.drop n).map (jv b b0) := by
          conv => lhs; rw [← List.take_append_drop n st]
          rw [List.map_append, List.map_reverse, List.reverse_reverse]
        have hnl : ((st.take n).reverse.map (jv b b0)).length = n := by
          rw [List.length_map, List.length_reverse, List.length_take]; omega
        rcases hkd.1 with rfl | rfl
        · exact jgo_call (va_runS (As := (st.take n).reverse.map (jv b b0)) (rest := (st.drop n).map (jv b b0)) (g := F0 m pc ls (st.map (jv b b0))) (Ts := jm_gw) ⟨hx, hb, hml, hown, hts⟩ hM ⟨callB_of n hts (jws_good hy) rfl rfl rfl (hts _ y2) (hts _ (m2 (Or.inr (Or.inr rfl)))) ⟨y5.1, y5.2, m1⟩ hRo, hts _ k1⟩ ⟨jblind, hPc⟩ rfl hnl hl hstack (hcat _ hkd.2.2) (jq_len rfl (by decide) hlen hd) ⟨hcm, hsm⟩) hS kk2
        · exact jgo_call (va_runSN (As := (st.take n).reverse.map (jv b b0)) (rest := (st.drop n).map (jv b b0)) (g := F0 m pc ls (st.map (jv b b0))) (Ts := jm_gw) ⟨hx, hb, hml, hown, hts⟩ hM ⟨va_cnB n hts (jws_good hy) rfl rfl rfl (hov.2.2 _ (m3 (Or.inr (Or.inr rfl)))) (hts _ y2) ⟨y5.1, y5.2, m1⟩ hRo, hts _ k1, trivial⟩ ⟨jblind, hPc⟩ rfl hnl hl hstack (hcat _ hkd.2.2) (jq_len rfl (by decide) hlen hd) ⟨hcm, hsm⟩) hS kk2
      · cases hc
    · cases hc
  | _ => cases hc
end JRUN
end
section
theorem jm_same {h : List jC} : h.length ≤ h.length ∧ jsl h ≤ jsl h := ⟨Nat.le_refl _, Nat.le_refl _⟩
theorem jm_set {h : List jC} {a : Nat} {c0 c9 : jC} (ha : h[a]? = some c0) (hz : jsz c9 = jsz c0) : h.length ≤ (h.set a c9).length ∧ jsl h ≤ jsl (h.set a c9) := by
  rw [List.length_set, jsl_set h a c0 c9 ha hz]
  exact jm_same
theorem jm_app {h g : List jC} : h.length ≤ (h ++ g).length ∧ jsl h ≤ jsl (h ++ g) := by
  rw [List.length_append, jsl_app]
  exact ⟨Nat.le_add_right _ _, Nat.le_add_right _ _⟩
set_option maxHeartbeats 4000000 in
theorem jH_mono {L : Nat} {xs : Nat → Int32} {il ini : Bool} {k pc : Nat} {lv : jL} {st : List Value} {h : List jC} {i : Instr} {r : Nat × jL × List Value × List jC} (hs : jH L xs il ini k pc lv st h i = some r) : r.2.1 = lv ∧ h.length ≤ r.2.2.2.length ∧ jsl h ≤ jsl r.2.2.2 := by
  cases i with
  | getfield idx =>
    simp only [jH] at hs
    split at hs
    · split at hs
      · next ci f ci' fs hf ha =>
        split at hs
        · cases hv : fs[f]? with
          | none => rw [hv] at hs; cases hs
          | some v => rw [hv] at hs; cases hs; exact ⟨rfl, jm_same⟩
        · cases hs
      · cases hs
    · cases hs
  | putfield idx =>
    simp only [jH] at hs
    split at hs
    · split at hs
      · next ci f ci' fs hf ha =>
        split at hs
        · next he =>
          cases hs
          exact ⟨rfl, jm_set ha (by simp [jsz])⟩
        · cases hs
      · cases hs
    · cases hs
  | iaload =>
    simp only [jH] at hs
    split at hs
    · split at hs
      · split at hs
        · cases hs; exact ⟨rfl, jm_same⟩
        · cases hs
      · cases hs
    · split at hs
      · cases hs; exact ⟨rfl, jm_same⟩
      · cases hs
    · cases hs
  | baload =>
    simp only [jH] at hs
    split at hs
    · split at hs
      · split at hs
        · cases hs; exact ⟨rfl, jm_same⟩
        · cases hs
      · cases hs
    · cases hs
  | aaload =>
    simp only [jH] at hs
    split at hs
    · split at hs
      · split at hs
        · cases hs; exact ⟨rfl, jm_same⟩
        · cases hs
      · cases hs
    · cases hs
  | arraylength =>
    simp only [jH] at hs
    split at hs
    · split at hs
      · split at hs
        · cases hs; exact ⟨rfl, jm_same⟩
        · cases hs
      · cases hs
    · split at hs
      · cases hs; exact ⟨rfl, jm_same⟩
      · cases hs
    · cases hs
  | iastore =>
    simp only [jH] at hs
    split at hs
    · split at hs
      · next ha =>
        split at hs
        · cases hs; exact ⟨rfl, jm_set ha rfl⟩
        · cases hs
      · cases hs
    · cases hs
  | bastore =>
    simp only [jH] at hs
    split at hs
    · split at hs
      · next ha =>
        split at hs
        · cases hs; exact ⟨rfl, jm_set ha rfl⟩
        · cases hs
      · cases hs
    · cases hs
  | aastore =>
    simp only [jH] at hs
    split at hs
    · split at hs
      · next ha hv =>
        split at hs
        · cases hs; exact ⟨rfl, jm_set ha rfl⟩
        · cases hs
      · cases hs
    · cases hs
  | new idx =>
    simp only [jH] at hs
    split at hs
    · cases hs; exact ⟨rfl, jm_app⟩
    · cases hs
  | newarray ty =>
    simp only [jH] at hs
    split at hs
    · split at hs
      · split at hs
        · cases hs; exact ⟨rfl, jm_app⟩
        · cases hs; exact ⟨rfl, jm_app⟩
        · cases hs
      · cases hs
    · cases hs
  | anewarray idx =>
    simp only [jH] at hs
    split at hs
    · split at hs
      · cases hs; exact ⟨rfl, jm_app⟩
      · cases hs
    · cases hs
  | multianewarray idx dm =>
    by_cases hdm : dm = 2
    · subst hdm
      simp only [jH] at hs
      split at hs
      · split at hs
        · cases hs
          exact ⟨rfl, Nat.le_trans jm_app.1 jm_app.1, Nat.le_trans jm_app.2 jm_app.2⟩
        · cases hs
      · cases hs
    · have : jH L xs il ini k pc lv st h (.multianewarray idx dm) = none := by
        unfold jH
        split <;> simp_all
      rw [this] at hs
      cases hs
  | invokestatic idx =>
    simp only [jH] at hs
    split at hs
    · split at hs
      · next ho ha0 ha =>
        split at hs
        · cases hs; exact ⟨rfl, jm_set ha rfl⟩
        · cases hs
      · cases hs
    · cases hs
  | invokespecial idx =>
    simp only [jH] at hs
    split at hs
    · split at hs
      · cases hs; exact ⟨rfl, jm_same⟩
      · cases hs
    · cases hs
  | _ => cases hs
set_option maxHeartbeats 4000000 in
/-- THE INTERPRETER IS SOUND: what it answers the machine answers -/
theorem jrun_ok (l : Launch) (D : va_G) (dA : Nat → ClassId) (b b0 L : Nat) (xs : Nat → Int32) : ∀ (n d mi pc : Nat) (lv : jL) (st : List Value) (h : List jC) (r : Option Value) (h' : List jC), jrun L xs n d mi pc lv st h = some (r, h') →
    (h.length ≤ h'.length ∧ jsl h ≤ jsl h') ∧ jBody l D dA b b0 L xs d mi pc lv st h r h' := by
  intro n
  induction n with
  | zero => intro d mi pc lv st h r h' hs; cases hs
  | succ n ih =>
    intro d mi pc lv st h r h' hs
    unfold jrun at hs
    split at hs
    · cases hs
    · next i len hi =>
      have hd := jm_ins_ok _ _ _ _ hi
      split at hs
      · next hlen =>
        split at hs
        · next r0 he =>
          cases hs
          refine ⟨jm_same, ?_⟩
          intro p e R s m args below meth c H locs cells slots Q ls cx hl hW hS hfr hlo hc hsl kret
          have h1 := jend_st he
          subst h1
          have := kret pc ls H locs i (jq_len (jend_len he) (by decide) hlen hd) he hW hS
          simpa using this
        · next hne =>
          split at hs
          · next y as rest d' hcl =>
            split at hs
            · next hy =>
              split at hs
              · next r1 h1 hr1 =>
                obtain ⟨m1, b1⟩ := ih d' y 0 (lv_args 0 as) [] h r1 h1 hr1
                obtain ⟨m2, b2⟩ := ih (d' + 1) mi (pc + 3) lv (r1.toList ++ rest) h1 r h' hs
                refine ⟨⟨Nat.le_trans m1.1 m2.1, Nat.le_trans m1.2 m2.2⟩, ?_⟩
                intro p e R s m args below meth c H locs cells slots Q ls cx hl hW hS hfr hlo hc hsl kret
                have hM := jmet hy.2.1 hy.1 hy.2.2 b1
                refine jcall_ok cx hl.1 hW hS hlen hd hcl hy.2.1 hM hfr hlo (by omega) (by omega) ?_
                intro H1 locs1 hW1 hS1
                refine b2 p e R s m args below meth c H1 locs1 _ _ Q ls cx hl hW1 hS1 hfr hlo (by omega) (by omega) ?_
                intro pc' ls' H' locs' i' q1 q2 q3 q4
                have := kret pc' ls' H' locs' i' q1 q2 q3 q4
                rw [show cells + (h1.length - h.length) + (h'.length - h1.length) = cells + (h'.length - h.length) by omega, show slots + (jsl h1 - jsl h) + (jsl h' - jsl h1) = slots + (jsl h' - jsl h) by omega]
                exact this
              · cases hs
            · cases hs
          · cases hs
          · next hcl =>
            split at hs
            · next pc1 lv1 st1 h1 hst =>
              obtain ⟨m2, b2⟩ := ih _ mi pc1 lv1 st1 h1 r h' hs
              unfold jstep at hst
              split at hst
              · next pc2 lv2 st2 hA =>
                cases hst
                refine ⟨m2, ?_⟩
                intro p e R s m args below meth c H locs cells slots Q ls cx hl hW hS hfr hlo hc hsl kret
                refine ja_ok cx.1 cx.2.1 cx.2.2.2.1 (fun idx v hv => cx.2.2.2.2.1 _ (jm_lng_ok _ _ _ hv)) hlen hd hA hl ?_
                intro ls' hl'
                exact b2 p e R s m args below meth c H locs cells slots Q ls' cx hl' hW hS hfr hlo hc hsl kret
              · next hA =>
                split at hst
                · cases hst
                · next hd0 =>
                  obtain ⟨e1, g1, g2⟩ := jH_mono hst
                  dsimp only at e1 g1 g2
                  subst e1
                  refine ⟨⟨Nat.le_trans g1 m2.1, Nat.le_trans g2 m2.2⟩, ?_⟩
                  intro p e R s m args below meth c H locs cells slots Q ls cx hl hW hS hfr hlo hc hsl kret
                  have m21 := m2.1
                  have m22 := m2.2
                  refine jh_ok cx hW hS hl.1 (by omega) (by omega) hlen hd hst (by dsimp only; omega) (by dsimp only; omega) ?_
                  intro H1 locs1 hW1 hS1
                  dsimp only at hW1 ⊢
                  refine b2 p e R s m args below meth c H1 locs1 _ _ Q ls cx hl hW1 hS1 hfr hlo (by omega) (by omega) ?_
                  intro pc' ls' H' locs' i' q1 q2 q3 q4
                  have := kret pc' ls' H' locs' i' q1 q2 q3 q4
                  rw [show cells + (h1.length - h.length) + (h'.length - h1.length) = cells + (h'.length - h.length) by omega, show slots + (jsl h1 - jsl h) + (jsl h' - jsl h1) = slots + (jsl h' - jsl h) by omega]
                  exact this
            · cases hs
      · cases hs
end
