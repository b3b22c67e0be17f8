section
-- began as PART A of the printed skeleton (a starting text)
-- ===== PART A: goes FIRST, ahead of the names: the tables' words, and 'selects' of the private methods out of them =====
/-- a private method of a class that the tables say can be made, by its rows of tables_1 -/
def lw_okq (q : MethodName × Nat) : Prop := (q.1.cls ≠ "java/lang/invoke/MethodHandle" ∧ q.1.cls ≠ "java/lang/invoke/VarHandle") ∧ Cond.instantiable q.1.cls q.2 ∈ tables_1 ∧ Cond.privateMethod q.1 ∈ tables_1 ∧ Cond.instanceMethod q.1 ∈ tables_1
theorem lw_p0 : lw_okq (⟨"FreePlace$Reader", "skipBlanks", "()V"⟩, 7) := ⟨⟨by decide +kernel, by decide +kernel⟩, List.mem_of_getElem? (i := 25) (by decide +kernel), List.mem_of_getElem? (i := 370) (by decide +kernel), List.mem_of_getElem? (i := 371) (by decide +kernel)⟩
theorem lw_p1 : lw_okq (⟨"FreePlace$Reader", "letterHere", "()I"⟩, 7) := ⟨⟨by decide +kernel, by decide +kernel⟩, List.mem_of_getElem? (i := 25) (by decide +kernel), List.mem_of_getElem? (i := 374) (by decide +kernel), List.mem_of_getElem? (i := 375) (by decide +kernel)⟩
theorem lw_p2 : lw_okq (⟨"FreePlace$Reader", "readClause", "()V"⟩, 7) := ⟨⟨by decide +kernel, by decide +kernel⟩, List.mem_of_getElem? (i := 25) (by decide +kernel), List.mem_of_getElem? (i := 378) (by decide +kernel), List.mem_of_getElem? (i := 379) (by decide +kernel)⟩
theorem lw_p3 : lw_okq (⟨"FreePlace$Reader", "faultOfWord", "(I)I"⟩, 7) := ⟨⟨by decide +kernel, by decide +kernel⟩, List.mem_of_getElem? (i := 25) (by decide +kernel), List.mem_of_getElem? (i := 382) (by decide +kernel), List.mem_of_getElem? (i := 383) (by decide +kernel)⟩
theorem lw_p4 : lw_okq (⟨"FreePlace$Reader", "faultOfLater", "(Z)I"⟩, 7) := ⟨⟨by decide +kernel, by decide +kernel⟩, List.mem_of_getElem? (i := 25) (by decide +kernel), List.mem_of_getElem? (i := 386) (by decide +kernel), List.mem_of_getElem? (i := 387) (by decide +kernel)⟩
theorem lw_p5 : lw_okq (⟨"FreePlace$Reader", "fails", "(II)V"⟩, 7) := ⟨⟨by decide +kernel, by decide +kernel⟩, List.mem_of_getElem? (i := 25) (by decide +kernel), List.mem_of_getElem? (i := 390) (by decide +kernel), List.mem_of_getElem? (i := 391) (by decide +kernel)⟩
theorem lw_p6 : lw_okq (⟨"FreePlace$Reader", "readFineAndWood", "()V"⟩, 7) := ⟨⟨by decide +kernel, by decide +kernel⟩, List.mem_of_getElem? (i := 25) (by decide +kernel), List.mem_of_getElem? (i := 394) (by decide +kernel), List.mem_of_getElem? (i := 395) (by decide +kernel)⟩
theorem lw_p7 : lw_okq (⟨"FreePlace$Reader", "number", "(II)I"⟩, 7) := ⟨⟨by decide +kernel, by decide +kernel⟩, List.mem_of_getElem? (i := 25) (by decide +kernel), List.mem_of_getElem? (i := 398) (by decide +kernel), List.mem_of_getElem? (i := 399) (by decide +kernel)⟩
theorem lw_p8 : lw_okq (⟨"FreePlace$Reader", "readTable", "()V"⟩, 7) := ⟨⟨by decide +kernel, by decide +kernel⟩, List.mem_of_getElem? (i := 25) (by decide +kernel), List.mem_of_getElem? (i := 405) (by decide +kernel), List.mem_of_getElem? (i := 406) (by decide +kernel)⟩
theorem lw_p9 : lw_okq (⟨"FreePlace$Reader", "readWay", "()V"⟩, 7) := ⟨⟨by decide +kernel, by decide +kernel⟩, List.mem_of_getElem? (i := 25) (by decide +kernel), List.mem_of_getElem? (i := 413) (by decide +kernel), List.mem_of_getElem? (i := 414) (by decide +kernel)⟩
theorem lw_p10 : lw_okq (⟨"FreePlace$Reader", "readEnd", "()V"⟩, 7) := ⟨⟨by decide +kernel, by decide +kernel⟩, List.mem_of_getElem? (i := 25) (by decide +kernel), List.mem_of_getElem? (i := 425) (by decide +kernel), List.mem_of_getElem? (i := 426) (by decide +kernel)⟩
theorem lw_p11 : lw_okq (⟨"FreePlace", "emergencyNow", "()I"⟩, 11) := ⟨⟨by decide +kernel, by decide +kernel⟩, List.mem_of_getElem? (i := 17) (by decide +kernel), List.mem_of_getElem? (i := 477) (by decide +kernel), List.mem_of_getElem? (i := 478) (by decide +kernel)⟩
theorem lw_p12 : lw_okq (⟨"FreePlace$Chains", "link", "(III)V"⟩, 5) := ⟨⟨by decide +kernel, by decide +kernel⟩, List.mem_of_getElem? (i := 169) (by decide +kernel), List.mem_of_getElem? (i := 495) (by decide +kernel), List.mem_of_getElem? (i := 496) (by decide +kernel)⟩
theorem lw_p13 : lw_okq (⟨"FreePlace", "joinedNow", "(I)I"⟩, 11) := ⟨⟨by decide +kernel, by decide +kernel⟩, List.mem_of_getElem? (i := 17) (by decide +kernel), List.mem_of_getElem? (i := 518) (by decide +kernel), List.mem_of_getElem? (i := 519) (by decide +kernel)⟩
theorem lw_p14 : lw_okq (⟨"FreePlace$Acts", "comesWithoutChain", "(LFreePlace$Realm;LFreePlace$State;I)I"⟩, 1) := ⟨⟨by decide +kernel, by decide +kernel⟩, List.mem_of_getElem? (i := 192) (by decide +kernel), List.mem_of_getElem? (i := 565) (by decide +kernel), List.mem_of_getElem? (i := 566) (by decide +kernel)⟩
theorem lw_p15 : lw_okq (⟨"FreePlace$Trials", "movesCounted", "(LFreePlace$Realm;I)I"⟩, 4) := ⟨⟨by decide +kernel, by decide +kernel⟩, List.mem_of_getElem? (i := 204) (by decide +kernel), List.mem_of_getElem? (i := 662) (by decide +kernel), List.mem_of_getElem? (i := 663) (by decide +kernel)⟩
def lw_privs_1 : List (MethodName × Nat) := [(⟨"FreePlace$Reader", "skipBlanks", "()V"⟩, 7), (⟨"FreePlace$Reader", "letterHere", "()I"⟩, 7), (⟨"FreePlace$Reader", "readClause", "()V"⟩, 7), (⟨"FreePlace$Reader", "faultOfWord", "(I)I"⟩, 7), (⟨"FreePlace$Reader", "faultOfLater", "(Z)I"⟩, 7), (⟨"FreePlace$Reader", "fails", "(II)V"⟩, 7), (⟨"FreePlace$Reader", "readFineAndWood", "()V"⟩, 7), (⟨"FreePlace$Reader", "number", "(II)I"⟩, 7), (⟨"FreePlace$Reader", "readTable", "()V"⟩, 7), (⟨"FreePlace$Reader", "readWay", "()V"⟩, 7), (⟨"FreePlace$Reader", "readEnd", "()V"⟩, 7), (⟨"FreePlace", "emergencyNow", "()I"⟩, 11), (⟨"FreePlace$Chains", "link", "(III)V"⟩, 5), (⟨"FreePlace", "joinedNow", "(I)I"⟩, 11), (⟨"FreePlace$Acts", "comesWithoutChain", "(LFreePlace$Realm;LFreePlace$State;I)I"⟩, 1), (⟨"FreePlace$Trials", "movesCounted", "(LFreePlace$Realm;I)I"⟩, 4)]
theorem lw_r1 : ∀ q ∈ lw_privs_1, lw_okq q := List.forall_mem_cons.mpr ⟨lw_p0, List.forall_mem_cons.mpr ⟨lw_p1, List.forall_mem_cons.mpr ⟨lw_p2, List.forall_mem_cons.mpr ⟨lw_p3, List.forall_mem_cons.mpr ⟨lw_p4, List.forall_mem_cons.mpr ⟨lw_p5, List.forall_mem_cons.mpr ⟨lw_p6, List.forall_mem_cons.mpr ⟨lw_p7, List.forall_mem_cons.mpr ⟨lw_p8, List.forall_mem_cons.mpr ⟨lw_p9, List.forall_mem_cons.mpr ⟨lw_p10, List.forall_mem_cons.mpr ⟨lw_p11, List.forall_mem_cons.mpr ⟨lw_p12, List.forall_mem_cons.mpr ⟨lw_p13, List.forall_mem_cons.mpr ⟨lw_p14, List.forall_mem_cons.mpr ⟨lw_p15, fun _ h => absurd h List.not_mem_nil⟩⟩⟩⟩⟩⟩⟩⟩⟩⟩⟩⟩⟩⟩⟩⟩
theorem lw_p16 : lw_okq (⟨"FreePlace$Trials", "reachesAll", "(LFreePlace$Realm;II)Z"⟩, 4) := ⟨⟨by decide +kernel, by decide +kernel⟩, List.mem_of_getElem? (i := 204) (by decide +kernel), List.mem_of_getElem? (i := 690) (by decide +kernel), List.mem_of_getElem? (i := 691) (by decide +kernel)⟩
theorem lw_p17 : lw_okq (⟨"FreePlaceModel", "here", "()I"⟩, 35) := ⟨⟨by decide +kernel, by decide +kernel⟩, List.mem_of_getElem? (i := 799) (by decide +kernel), List.mem_of_getElem? (i := 925) (by decide +kernel), List.mem_of_getElem? (i := 926) (by decide +kernel)⟩
theorem lw_p18 : lw_okq (⟨"FreePlaceModel", "takeClause", "()I"⟩, 35) := ⟨⟨by decide +kernel, by decide +kernel⟩, List.mem_of_getElem? (i := 799) (by decide +kernel), List.mem_of_getElem? (i := 929) (by decide +kernel), List.mem_of_getElem? (i := 930) (by decide +kernel)⟩
theorem lw_p19 : lw_okq (⟨"FreePlaceModel", "fails", "(II)I"⟩, 35) := ⟨⟨by decide +kernel, by decide +kernel⟩, List.mem_of_getElem? (i := 799) (by decide +kernel), List.mem_of_getElem? (i := 933) (by decide +kernel), List.mem_of_getElem? (i := 934) (by decide +kernel)⟩
theorem lw_p20 : lw_okq (⟨"FreePlaceModel", "takeLaw", "()I"⟩, 35) := ⟨⟨by decide +kernel, by decide +kernel⟩, List.mem_of_getElem? (i := 799) (by decide +kernel), List.mem_of_getElem? (i := 937) (by decide +kernel), List.mem_of_getElem? (i := 938) (by decide +kernel)⟩
theorem lw_p21 : lw_okq (⟨"FreePlaceModel", "into", "([IIII)I"⟩, 35) := ⟨⟨by decide +kernel, by decide +kernel⟩, List.mem_of_getElem? (i := 799) (by decide +kernel), List.mem_of_getElem? (i := 941) (by decide +kernel), List.mem_of_getElem? (i := 942) (by decide +kernel)⟩
theorem lw_p22 : lw_okq (⟨"FreePlaceModel", "takeNumber", "(II)I"⟩, 35) := ⟨⟨by decide +kernel, by decide +kernel⟩, List.mem_of_getElem? (i := 799) (by decide +kernel), List.mem_of_getElem? (i := 945) (by decide +kernel), List.mem_of_getElem? (i := 946) (by decide +kernel)⟩
theorem lw_p23 : lw_okq (⟨"FreePlaceModel", "takeTable", "()I"⟩, 35) := ⟨⟨by decide +kernel, by decide +kernel⟩, List.mem_of_getElem? (i := 799) (by decide +kernel), List.mem_of_getElem? (i := 951) (by decide +kernel), List.mem_of_getElem? (i := 952) (by decide +kernel)⟩
theorem lw_p24 : lw_okq (⟨"FreePlaceModel", "takeWay", "()I"⟩, 35) := ⟨⟨by decide +kernel, by decide +kernel⟩, List.mem_of_getElem? (i := 799) (by decide +kernel), List.mem_of_getElem? (i := 955) (by decide +kernel), List.mem_of_getElem? (i := 956) (by decide +kernel)⟩
theorem lw_p25 : lw_okq (⟨"FreePlaceModel", "isWayAlready", "(I)Z"⟩, 35) := ⟨⟨by decide +kernel, by decide +kernel⟩, List.mem_of_getElem? (i := 799) (by decide +kernel), List.mem_of_getElem? (i := 959) (by decide +kernel), List.mem_of_getElem? (i := 960) (by decide +kernel)⟩
theorem lw_p26 : lw_okq (⟨"FreePlaceModel", "takeRead", "()V"⟩, 35) := ⟨⟨by decide +kernel, by decide +kernel⟩, List.mem_of_getElem? (i := 799) (by decide +kernel), List.mem_of_getElem? (i := 963) (by decide +kernel), List.mem_of_getElem? (i := 964) (by decide +kernel)⟩
theorem lw_p27 : lw_okq (⟨"FreePlaceModel", "allSit", "()I"⟩, 35) := ⟨⟨by decide +kernel, by decide +kernel⟩, List.mem_of_getElem? (i := 799) (by decide +kernel), List.mem_of_getElem? (i := 975) (by decide +kernel), List.mem_of_getElem? (i := 976) (by decide +kernel)⟩
theorem lw_p28 : lw_okq (⟨"FreePlaceModel", "inspected", "()I"⟩, 35) := ⟨⟨by decide +kernel, by decide +kernel⟩, List.mem_of_getElem? (i := 799) (by decide +kernel), List.mem_of_getElem? (i := 979) (by decide +kernel), List.mem_of_getElem? (i := 980) (by decide +kernel)⟩
theorem lw_p29 : lw_okq (⟨"FreePlaceModel", "free", "(I)I"⟩, 35) := ⟨⟨by decide +kernel, by decide +kernel⟩, List.mem_of_getElem? (i := 799) (by decide +kernel), List.mem_of_getElem? (i := 983) (by decide +kernel), List.mem_of_getElem? (i := 984) (by decide +kernel)⟩
theorem lw_p30 : lw_okq (⟨"FreePlaceModel", "emergency", "()I"⟩, 35) := ⟨⟨by decide +kernel, by decide +kernel⟩, List.mem_of_getElem? (i := 799) (by decide +kernel), List.mem_of_getElem? (i := 987) (by decide +kernel), List.mem_of_getElem? (i := 988) (by decide +kernel)⟩
theorem lw_p31 : lw_okq (⟨"FreePlaceModel", "findAway", "()V"⟩, 35) := ⟨⟨by decide +kernel, by decide +kernel⟩, List.mem_of_getElem? (i := 799) (by decide +kernel), List.mem_of_getElem? (i := 991) (by decide +kernel), List.mem_of_getElem? (i := 992) (by decide +kernel)⟩
def lw_privs_2 : List (MethodName × Nat) := [(⟨"FreePlace$Trials", "reachesAll", "(LFreePlace$Realm;II)Z"⟩, 4), (⟨"FreePlaceModel", "here", "()I"⟩, 35), (⟨"FreePlaceModel", "takeClause", "()I"⟩, 35), (⟨"FreePlaceModel", "fails", "(II)I"⟩, 35), (⟨"FreePlaceModel", "takeLaw", "()I"⟩, 35), (⟨"FreePlaceModel", "into", "([IIII)I"⟩, 35), (⟨"FreePlaceModel", "takeNumber", "(II)I"⟩, 35), (⟨"FreePlaceModel", "takeTable", "()I"⟩, 35), (⟨"FreePlaceModel", "takeWay", "()I"⟩, 35), (⟨"FreePlaceModel", "isWayAlready", "(I)Z"⟩, 35), (⟨"FreePlaceModel", "takeRead", "()V"⟩, 35), (⟨"FreePlaceModel", "allSit", "()I"⟩, 35), (⟨"FreePlaceModel", "inspected", "()I"⟩, 35), (⟨"FreePlaceModel", "free", "(I)I"⟩, 35), (⟨"FreePlaceModel", "emergency", "()I"⟩, 35), (⟨"FreePlaceModel", "findAway", "()V"⟩, 35)]
theorem lw_r2 : ∀ q ∈ lw_privs_2, lw_okq q := List.forall_mem_cons.mpr ⟨lw_p16, List.forall_mem_cons.mpr ⟨lw_p17, List.forall_mem_cons.mpr ⟨lw_p18, List.forall_mem_cons.mpr ⟨lw_p19, List.forall_mem_cons.mpr ⟨lw_p20, List.forall_mem_cons.mpr ⟨lw_p21, List.forall_mem_cons.mpr ⟨lw_p22, List.forall_mem_cons.mpr ⟨lw_p23, List.forall_mem_cons.mpr ⟨lw_p24, List.forall_mem_cons.mpr ⟨lw_p25, List.forall_mem_cons.mpr ⟨lw_p26, List.forall_mem_cons.mpr ⟨lw_p27, List.forall_mem_cons.mpr ⟨lw_p28, List.forall_mem_cons.mpr ⟨lw_p29, List.forall_mem_cons.mpr ⟨lw_p30, List.forall_mem_cons.mpr ⟨lw_p31, fun _ h => absurd h List.not_mem_nil⟩⟩⟩⟩⟩⟩⟩⟩⟩⟩⟩⟩⟩⟩⟩⟩
theorem lw_p32 : lw_okq (⟨"FreePlaceModel", "joined", "(I)I"⟩, 35) := ⟨⟨by decide +kernel, by decide +kernel⟩, List.mem_of_getElem? (i := 799) (by decide +kernel), List.mem_of_getElem? (i := 995) (by decide +kernel), List.mem_of_getElem? (i := 996) (by decide +kernel)⟩
theorem lw_p33 : lw_okq (⟨"FreePlaceModel", "isTable", "(I)Z"⟩, 35) := ⟨⟨by decide +kernel, by decide +kernel⟩, List.mem_of_getElem? (i := 799) (by decide +kernel), List.mem_of_getElem? (i := 1006) (by decide +kernel), List.mem_of_getElem? (i := 1007) (by decide +kernel)⟩
theorem lw_p34 : lw_okq (⟨"FreePlaceModel", "remember", "()V"⟩, 35) := ⟨⟨by decide +kernel, by decide +kernel⟩, List.mem_of_getElem? (i := 799) (by decide +kernel), List.mem_of_getElem? (i := 1019) (by decide +kernel), List.mem_of_getElem? (i := 1020) (by decide +kernel)⟩
theorem lw_p35 : lw_okq (⟨"FreePlaceModel", "guest", "(I)I"⟩, 35) := ⟨⟨by decide +kernel, by decide +kernel⟩, List.mem_of_getElem? (i := 799) (by decide +kernel), List.mem_of_getElem? (i := 1023) (by decide +kernel), List.mem_of_getElem? (i := 1024) (by decide +kernel)⟩
theorem lw_p36 : lw_okq (⟨"FreePlaceModel", "lastOf", "(I)I"⟩, 35) := ⟨⟨by decide +kernel, by decide +kernel⟩, List.mem_of_getElem? (i := 799) (by decide +kernel), List.mem_of_getElem? (i := 1027) (by decide +kernel), List.mem_of_getElem? (i := 1028) (by decide +kernel)⟩
theorem lw_p37 : lw_okq (⟨"FreePlaceModel", "nextOf", "(I)I"⟩, 35) := ⟨⟨by decide +kernel, by decide +kernel⟩, List.mem_of_getElem? (i := 799) (by decide +kernel), List.mem_of_getElem? (i := 1031) (by decide +kernel), List.mem_of_getElem? (i := 1032) (by decide +kernel)⟩
theorem lw_p38 : lw_okq (⟨"FreePlaceModel", "chance", "()V"⟩, 35) := ⟨⟨by decide +kernel, by decide +kernel⟩, List.mem_of_getElem? (i := 799) (by decide +kernel), List.mem_of_getElem? (i := 1058) (by decide +kernel), List.mem_of_getElem? (i := 1059) (by decide +kernel)⟩
theorem lw_p39 : lw_okq (⟨"FreePlaceModel", "draw", "(I)I"⟩, 35) := ⟨⟨by decide +kernel, by decide +kernel⟩, List.mem_of_getElem? (i := 799) (by decide +kernel), List.mem_of_getElem? (i := 1062) (by decide +kernel), List.mem_of_getElem? (i := 1063) (by decide +kernel)⟩
theorem lw_p40 : lw_okq (⟨"FreePlaceModel", "together", "(I)I"⟩, 35) := ⟨⟨by decide +kernel, by decide +kernel⟩, List.mem_of_getElem? (i := 799) (by decide +kernel), List.mem_of_getElem? (i := 1082) (by decide +kernel), List.mem_of_getElem? (i := 1083) (by decide +kernel)⟩
theorem lw_p41 : lw_okq (⟨"FreePlaceModel", "save", "()V"⟩, 35) := ⟨⟨by decide +kernel, by decide +kernel⟩, List.mem_of_getElem? (i := 799) (by decide +kernel), List.mem_of_getElem? (i := 1094) (by decide +kernel), List.mem_of_getElem? (i := 1095) (by decide +kernel)⟩
theorem lw_p42 : lw_okq (⟨"FreePlaceModel", "bothMoves", "(II)I"⟩, 35) := ⟨⟨by decide +kernel, by decide +kernel⟩, List.mem_of_getElem? (i := 799) (by decide +kernel), List.mem_of_getElem? (i := 1098) (by decide +kernel), List.mem_of_getElem? (i := 1099) (by decide +kernel)⟩
theorem lw_p43 : lw_okq (⟨"FreePlaceModel", "putBack", "()V"⟩, 35) := ⟨⟨by decide +kernel, by decide +kernel⟩, List.mem_of_getElem? (i := 799) (by decide +kernel), List.mem_of_getElem? (i := 1102) (by decide +kernel), List.mem_of_getElem? (i := 1103) (by decide +kernel)⟩
theorem lw_p44 : lw_okq (⟨"FreePlaceModel", "findChairs", "(II)I"⟩, 35) := ⟨⟨by decide +kernel, by decide +kernel⟩, List.mem_of_getElem? (i := 799) (by decide +kernel), List.mem_of_getElem? (i := 1111) (by decide +kernel), List.mem_of_getElem? (i := 1112) (by decide +kernel)⟩
theorem lw_p45 : lw_okq (⟨"FreePlaceModel", "buildBy", "(II)Z"⟩, 35) := ⟨⟨by decide +kernel, by decide +kernel⟩, List.mem_of_getElem? (i := 799) (by decide +kernel), List.mem_of_getElem? (i := 1115) (by decide +kernel), List.mem_of_getElem? (i := 1116) (by decide +kernel)⟩
theorem lw_p46 : lw_okq (⟨"FreePlaceModel", "allNear", "(II)Z"⟩, 35) := ⟨⟨by decide +kernel, by decide +kernel⟩, List.mem_of_getElem? (i := 799) (by decide +kernel), List.mem_of_getElem? (i := 1119) (by decide +kernel), List.mem_of_getElem? (i := 1120) (by decide +kernel)⟩
theorem lw_p47 : lw_okq (⟨"FreePlaceModel", "canSpread", "(II)Z"⟩, 35) := ⟨⟨by decide +kernel, by decide +kernel⟩, List.mem_of_getElem? (i := 799) (by decide +kernel), List.mem_of_getElem? (i := 1127) (by decide +kernel), List.mem_of_getElem? (i := 1128) (by decide +kernel)⟩
def lw_privs_3 : List (MethodName × Nat) := [(⟨"FreePlaceModel", "joined", "(I)I"⟩, 35), (⟨"FreePlaceModel", "isTable", "(I)Z"⟩, 35), (⟨"FreePlaceModel", "remember", "()V"⟩, 35), (⟨"FreePlaceModel", "guest", "(I)I"⟩, 35), (⟨"FreePlaceModel", "lastOf", "(I)I"⟩, 35), (⟨"FreePlaceModel", "nextOf", "(I)I"⟩, 35), (⟨"FreePlaceModel", "chance", "()V"⟩, 35), (⟨"FreePlaceModel", "draw", "(I)I"⟩, 35), (⟨"FreePlaceModel", "together", "(I)I"⟩, 35), (⟨"FreePlaceModel", "save", "()V"⟩, 35), (⟨"FreePlaceModel", "bothMoves", "(II)I"⟩, 35), (⟨"FreePlaceModel", "putBack", "()V"⟩, 35), (⟨"FreePlaceModel", "findChairs", "(II)I"⟩, 35), (⟨"FreePlaceModel", "buildBy", "(II)Z"⟩, 35), (⟨"FreePlaceModel", "allNear", "(II)Z"⟩, 35), (⟨"FreePlaceModel", "canSpread", "(II)Z"⟩, 35)]
theorem lw_r3 : ∀ q ∈ lw_privs_3, lw_okq q := List.forall_mem_cons.mpr ⟨lw_p32, List.forall_mem_cons.mpr ⟨lw_p33, List.forall_mem_cons.mpr ⟨lw_p34, List.forall_mem_cons.mpr ⟨lw_p35, List.forall_mem_cons.mpr ⟨lw_p36, List.forall_mem_cons.mpr ⟨lw_p37, List.forall_mem_cons.mpr ⟨lw_p38, List.forall_mem_cons.mpr ⟨lw_p39, List.forall_mem_cons.mpr ⟨lw_p40, List.forall_mem_cons.mpr ⟨lw_p41, List.forall_mem_cons.mpr ⟨lw_p42, List.forall_mem_cons.mpr ⟨lw_p43, List.forall_mem_cons.mpr ⟨lw_p44, List.forall_mem_cons.mpr ⟨lw_p45, List.forall_mem_cons.mpr ⟨lw_p46, List.forall_mem_cons.mpr ⟨lw_p47, fun _ h => absurd h List.not_mem_nil⟩⟩⟩⟩⟩⟩⟩⟩⟩⟩⟩⟩⟩⟩⟩⟩
theorem lw_p48 : lw_okq (⟨"FreePlaceModel", "couldCome", "()I"⟩, 35) := ⟨⟨by decide +kernel, by decide +kernel⟩, List.mem_of_getElem? (i := 799) (by decide +kernel), List.mem_of_getElem? (i := 1145) (by decide +kernel), List.mem_of_getElem? (i := 1146) (by decide +kernel)⟩
theorem lw_p49 : lw_okq (⟨"FreePlaceModel", "movers", "(I)I"⟩, 35) := ⟨⟨by decide +kernel, by decide +kernel⟩, List.mem_of_getElem? (i := 799) (by decide +kernel), List.mem_of_getElem? (i := 1149) (by decide +kernel), List.mem_of_getElem? (i := 1150) (by decide +kernel)⟩
def lw_privs_4 : List (MethodName × Nat) := [(⟨"FreePlaceModel", "couldCome", "()I"⟩, 35), (⟨"FreePlaceModel", "movers", "(I)I"⟩, 35)]
theorem lw_r4 : ∀ q ∈ lw_privs_4, lw_okq q := List.forall_mem_cons.mpr ⟨lw_p48, List.forall_mem_cons.mpr ⟨lw_p49, fun _ h => absurd h List.not_mem_nil⟩⟩
def lw_privs : List (MethodName × Nat) := lw_privs_1 ++ (lw_privs_2 ++ (lw_privs_3 ++ (lw_privs_4)))
def lw_tbl : List Cond := k2_sels lw_privs ++ tables_1
theorem lw_privs_ok : ∀ q ∈ lw_privs, lw_okq q := by
  show ∀ q ∈ lw_privs_1 ++ (lw_privs_2 ++ (lw_privs_3 ++ (lw_privs_4))), lw_okq q
  exact List.forall_mem_append.mpr ⟨lw_r1, List.forall_mem_append.mpr ⟨lw_r2, List.forall_mem_append.mpr ⟨lw_r3, lw_r4⟩⟩⟩
/-- the words that every contract here asks: the tables' words that a call hands on -/
def fp_T : List Cond := lw_tbl.filter goodWord
theorem fp_T_of {w : Cond} (i : Nat) (h : tables_1[i]? = some w) (hg : goodWord w = true) : w ∈ fp_T := List.mem_filter.mpr ⟨List.mem_append_right _ (List.mem_of_getElem? h), hg⟩
theorem fp_T_sel {w : Cond} (i : Nat) (h : (k2_sels lw_privs)[i]? = some w) (hg : goodWord w = true) : w ∈ fp_T := List.mem_filter.mpr ⟨List.mem_append_left _ (List.mem_of_getElem? h), hg⟩
theorem fp_T_sub {w : Cond} (h : w ∈ fp_T) : w ∈ lw_tbl := (List.mem_filter.mp h).1
theorem fp_T_good {w : Cond} (h : w ∈ fp_T) : (w.onTables && w.keeps) = true ∨ ∃ ty, w = .arrayClass ty := good_of_word (List.mem_filter.mp h).2
end
section
-- began as the printed names of this claim (a starting text)
def RX0 : String := "FreePlace$Acts"
def TX0 : u_T := fun k => match k with
  | _ => ("FreePlace$Acts", "chains", "LFreePlace$Chains;", true)
def tyX0 : Nat → FieldType := fun k => match k with
  | _ => .object "FreePlace$Chains"
abbrev wsX00 : List Cond := u_ws RX0 TX0 1
theorem nmX0 : ∀ a, a < 1 → ∀ b, b < 1 → a ≠ b → (TX0 a).2.1 ≠ (TX0 b).2.1 := by decide +kernel
theorem tyX0_ok : ∀ k, k < 1 → parseFieldDescriptor (TX0 k).2.2.1 = some (tyX0 k) := by decide +kernel
abbrev cX0_init : ByteArray := prog_2_method_1_code
def yX0_init : MethodName := ⟨RX0, "<init>", "()V"⟩
abbrev cX0_guestComes : ByteArray := prog_2_method_2_code
def yX0_guestComes : MethodName := ⟨RX0, "guestComes", "(LFreePlace$Realm;LFreePlace$State;I)I"⟩
abbrev cX0_comesWithoutChain : ByteArray := prog_2_method_3_code
def yX0_comesWithoutChain : MethodName := ⟨RX0, "comesWithoutChain", "(LFreePlace$Realm;LFreePlace$State;I)I"⟩
abbrev cX0_drifts : ByteArray := prog_2_method_4_code
def yX0_drifts : MethodName := ⟨RX0, "drifts", "(LFreePlace$Realm;LFreePlace$State;LFreePlace$Draws;I)V"⟩
def RX1 : String := "FreePlace$Book"
def TX1 : u_T := fun k => match k with
  | 0 => ("FreePlace$Book", "count", "I", false)
  | 1 => ("FreePlace$Book", "tables", "[I", true)
  | _ => ("FreePlace$Book", "sits", "[I", true)
def tyX1 : Nat → FieldType := fun k => match k with
  | 0 => .int
  | 1 => .array .int
  | _ => .array .int
abbrev wsX10 : List Cond := u_ws RX1 TX1 3
theorem nmX1 : ∀ a, a < 3 → ∀ b, b < 3 → a ≠ b → (TX1 a).2.1 ≠ (TX1 b).2.1 := by decide +kernel
theorem tyX1_ok : ∀ k, k < 3 → parseFieldDescriptor (TX1 k).2.2.1 = some (tyX1 k) := by decide +kernel
abbrev cX1_init : ByteArray := prog_3_method_1_code
def yX1_init : MethodName := ⟨RX1, "<init>", "()V"⟩
abbrev cX1_forget : ByteArray := prog_3_method_2_code
def yX1_forget : MethodName := ⟨RX1, "forget", "()V"⟩
abbrev cX1_add : ByteArray := prog_3_method_3_code
def yX1_add : MethodName := ⟨RX1, "add", "(II)Z"⟩
abbrev cX1_firstWrong : ByteArray := prog_3_method_4_code
def yX1_firstWrong : MethodName := ⟨RX1, "firstWrong", "(LFreePlace$State;)I"⟩
def RX2 : String := "FreePlace$Chains"
def TX2 : u_T := fun k => match k with
  | 0 => ("FreePlace$Chains", "tables", "I", false)
  | 1 => ("FreePlace$Chains", "joined", "[I", true)
  | 2 => ("FreePlace$Chains", "moves", "[I", true)
  | 3 => ("FreePlace$Chains", "next", "[I", true)
  | _ => ("FreePlace$Chains", "movers", "[I", true)
def tyX2 : Nat → FieldType := fun k => match k with
  | 0 => .int
  | 1 => .array .int
  | 2 => .array .int
  | 3 => .array .int
  | _ => .array .int
abbrev wsX20 : List Cond := u_ws RX2 TX2 5
theorem nmX2 : ∀ a, a < 5 → ∀ b, b < 5 → a ≠ b → (TX2 a).2.1 ≠ (TX2 b).2.1 := by decide +kernel
theorem tyX2_ok : ∀ k, k < 5 → parseFieldDescriptor (TX2 k).2.2.1 = some (tyX2 k) := by decide +kernel
abbrev cX2_init : ByteArray := prog_4_method_1_code
def yX2_init : MethodName := ⟨RX2, "<init>", "()V"⟩
abbrev cX2_measure : ByteArray := prog_4_method_2_code
def yX2_measure : MethodName := ⟨RX2, "measure", "(LFreePlace$Realm;LFreePlace$State;)V"⟩
abbrev cX2_link : ByteArray := prog_4_method_3_code
def yX2_link : MethodName := ⟨RX2, "link", "(III)V"⟩
abbrev cX2_join : ByteArray := prog_4_method_4_code
def yX2_join : MethodName := ⟨RX2, "join", "(LFreePlace$Realm;I)V"⟩
abbrev cX2_around : ByteArray := prog_4_method_5_code
def yX2_around : MethodName := ⟨RX2, "around", "(I)I"⟩
abbrev cX2_within : ByteArray := prog_4_method_6_code
def yX2_within : MethodName := ⟨RX2, "within", "(II)I"⟩
abbrev cX2_hangingTogether : ByteArray := prog_4_method_7_code
def yX2_hangingTogether : MethodName := ⟨RX2, "hangingTogether", "(I)I"⟩
abbrev cX2_movesFrom : ByteArray := prog_4_method_8_code
def yX2_movesFrom : MethodName := ⟨RX2, "movesFrom", "(I)I"⟩
abbrev cX2_moversFrom : ByteArray := prog_4_method_9_code
def yX2_moversFrom : MethodName := ⟨RX2, "moversFrom", "(I)I"⟩
abbrev cX2_tableOf : ByteArray := prog_4_method_10_code
def yX2_tableOf : MethodName := ⟨RX2, "tableOf", "(II)I"⟩
abbrev cX2_withoutChain : ByteArray := prog_4_method_11_code
def yX2_withoutChain : MethodName := ⟨RX2, "withoutChain", "()I"⟩
abbrev cX2_farthest : ByteArray := prog_4_method_12_code
def yX2_farthest : MethodName := ⟨RX2, "farthest", "()I"⟩
def RX3 : String := "FreePlace$Draws"
def TX3 : u_T := fun k => match k with
  | _ => ("FreePlace$Draws", "seed", "I", false)
def tyX3 : Nat → FieldType := fun k => match k with
  | _ => .int
abbrev wsX30 : List Cond := u_ws RX3 TX3 1
theorem nmX3 : ∀ a, a < 1 → ∀ b, b < 1 → a ≠ b → (TX3 a).2.1 ≠ (TX3 b).2.1 := by decide +kernel
theorem tyX3_ok : ∀ k, k < 1 → parseFieldDescriptor (TX3 k).2.2.1 = some (tyX3 k) := by decide +kernel
abbrev cX3_init : ByteArray := prog_5_method_1_code
def yX3_init : MethodName := ⟨RX3, "<init>", "()V"⟩
abbrev cX3_draw : ByteArray := prog_5_method_2_code
def yX3_draw : MethodName := ⟨RX3, "draw", "(I)I"⟩
def RX4 : String := "FreePlace$History"
def TX4 : u_T := fun k => match k with
  | 0 => ("FreePlace$History", "count", "I", false)
  | 1 => ("FreePlace$History", "next", "I", false)
  | _ => ("FreePlace$History", "states", "[LFreePlace$State;", true)
def tyX4 : Nat → FieldType := fun k => match k with
  | 0 => .int
  | 1 => .int
  | _ => .array (.object "FreePlace$State")
abbrev wsX40 : List Cond := u_ws RX4 TX4 3
theorem nmX4 : ∀ a, a < 3 → ∀ b, b < 3 → a ≠ b → (TX4 a).2.1 ≠ (TX4 b).2.1 := by decide +kernel
theorem tyX4_ok : ∀ k, k < 3 → parseFieldDescriptor (TX4 k).2.2.1 = some (tyX4 k) := by decide +kernel
abbrev cX4_init : ByteArray := prog_6_method_1_code
def yX4_init : MethodName := ⟨RX4, "<init>", "()V"⟩
abbrev cX4_forget : ByteArray := prog_6_method_2_code
def yX4_forget : MethodName := ⟨RX4, "forget", "()V"⟩
abbrev cX4_push : ByteArray := prog_6_method_3_code
def yX4_push : MethodName := ⟨RX4, "push", "(LFreePlace$State;)V"⟩
abbrev cX4_pop : ByteArray := prog_6_method_4_code
def yX4_pop : MethodName := ⟨RX4, "pop", "(LFreePlace$State;)Z"⟩
def RX5 : String := "FreePlace$Images"
def TX5 : u_T := fun k => match k with
  | 0 => ("FreePlace$Images", "states", "[LFreePlace$State;", true)
  | 1 => ("FreePlace$Images", "seeds", "[I", true)
  | _ => ("FreePlace$Images", "kept", "[Z", true)
def tyX5 : Nat → FieldType := fun k => match k with
  | 0 => .array (.object "FreePlace$State")
  | 1 => .array .int
  | _ => .array .boolean
abbrev wsX50 : List Cond := u_ws RX5 TX5 3
theorem nmX5 : ∀ a, a < 3 → ∀ b, b < 3 → a ≠ b → (TX5 a).2.1 ≠ (TX5 b).2.1 := by decide +kernel
theorem tyX5_ok : ∀ k, k < 3 → parseFieldDescriptor (TX5 k).2.2.1 = some (tyX5 k) := by decide +kernel
abbrev cX5_init : ByteArray := prog_7_method_1_code
def yX5_init : MethodName := ⟨RX5, "<init>", "()V"⟩
abbrev cX5_has : ByteArray := prog_7_method_2_code
def yX5_has : MethodName := ⟨RX5, "has", "(I)Z"⟩
abbrev cX5_forget : ByteArray := prog_7_method_3_code
def yX5_forget : MethodName := ⟨RX5, "forget", "()V"⟩
abbrev cX5_take : ByteArray := prog_7_method_4_code
def yX5_take : MethodName := ⟨RX5, "take", "(ILFreePlace$State;LFreePlace$Draws;)V"⟩
abbrev cX5_give : ByteArray := prog_7_method_5_code
def yX5_give : MethodName := ⟨RX5, "give", "(ILFreePlace$State;LFreePlace$Draws;)Z"⟩
def RX6 : String := "FreePlace$Reader"
def TX6 : u_T := fun k => match k with
  | 0 => ("FreePlace$Reader", "draft", "LFreePlace$Realm;", true)
  | 1 => ("FreePlace$Reader", "letters", "[C", true)
  | 2 => ("FreePlace$Reader", "length", "I", false)
  | 3 => ("FreePlace$Reader", "at", "I", false)
  | 4 => ("FreePlace$Reader", "numberAt", "I", false)
  | 5 => ("FreePlace$Reader", "fault", "I", false)
  | _ => ("FreePlace$Reader", "place", "I", false)
def tyX6 : Nat → FieldType := fun k => match k with
  | 0 => .object "FreePlace$Realm"
  | 1 => .array .char
  | 2 => .int
  | 3 => .int
  | 4 => .int
  | 5 => .int
  | _ => .int
abbrev wsX60 : List Cond := u_ws RX6 TX6 7
theorem nmX6 : ∀ a, a < 7 → ∀ b, b < 7 → a ≠ b → (TX6 a).2.1 ≠ (TX6 b).2.1 := by decide +kernel
theorem tyX6_ok : ∀ k, k < 7 → parseFieldDescriptor (TX6 k).2.2.1 = some (tyX6 k) := by decide +kernel
abbrev cX6_init : ByteArray := prog_8_method_1_code
def yX6_init : MethodName := ⟨RX6, "<init>", "()V"⟩
abbrev cX6_add : ByteArray := prog_8_method_2_code
def yX6_add : MethodName := ⟨RX6, "add", "(I)Z"⟩
abbrev cX6_reads : ByteArray := prog_8_method_3_code
def yX6_reads : MethodName := ⟨RX6, "reads", "()Z"⟩
abbrev cX6_readClause : ByteArray := prog_8_method_4_code
def yX6_readClause : MethodName := ⟨RX6, "readClause", "()V"⟩
abbrev cX6_faultOfWord : ByteArray := prog_8_method_5_code
def yX6_faultOfWord : MethodName := ⟨RX6, "faultOfWord", "(I)I"⟩
abbrev cX6_faultOfLater : ByteArray := prog_8_method_6_code
def yX6_faultOfLater : MethodName := ⟨RX6, "faultOfLater", "(Z)I"⟩
abbrev cX6_readFineAndWood : ByteArray := prog_8_method_7_code
def yX6_readFineAndWood : MethodName := ⟨RX6, "readFineAndWood", "()V"⟩
abbrev cX6_readTable : ByteArray := prog_8_method_8_code
def yX6_readTable : MethodName := ⟨RX6, "readTable", "()V"⟩
abbrev cX6_readWay : ByteArray := prog_8_method_9_code
def yX6_readWay : MethodName := ⟨RX6, "readWay", "()V"⟩
abbrev cX6_readEnd : ByteArray := prog_8_method_10_code
def yX6_readEnd : MethodName := ⟨RX6, "readEnd", "()V"⟩
abbrev cX6_number : ByteArray := prog_8_method_11_code
def yX6_number : MethodName := ⟨RX6, "number", "(II)I"⟩
abbrev cX6_skipBlanks : ByteArray := prog_8_method_12_code
def yX6_skipBlanks : MethodName := ⟨RX6, "skipBlanks", "()V"⟩
abbrev cX6_letterHere : ByteArray := prog_8_method_13_code
def yX6_letterHere : MethodName := ⟨RX6, "letterHere", "()I"⟩
abbrev cX6_isFigure : ByteArray := prog_8_method_14_code
def yX6_isFigure : MethodName := ⟨RX6, "isFigure", "(I)Z"⟩
abbrev cX6_fails : ByteArray := prog_8_method_15_code
def yX6_fails : MethodName := ⟨RX6, "fails", "(II)V"⟩
def RX7 : String := "FreePlace$Realm"
def TX7 : u_T := fun k => match k with
  | 0 => ("FreePlace$Realm", "there", "Z", false)
  | 1 => ("FreePlace$Realm", "fine", "I", false)
  | 2 => ("FreePlace$Realm", "wood", "I", false)
  | 3 => ("FreePlace$Realm", "tables", "I", false)
  | 4 => ("FreePlace$Realm", "ways", "I", false)
  | 5 => ("FreePlace$Realm", "seats", "[I", true)
  | 6 => ("FreePlace$Realm", "sits", "[I", true)
  | 7 => ("FreePlace$Realm", "from", "[I", true)
  | _ => ("FreePlace$Realm", "to", "[I", true)
def tyX7 : Nat → FieldType := fun k => match k with
  | 0 => .boolean
  | 1 => .int
  | 2 => .int
  | 3 => .int
  | 4 => .int
  | 5 => .array .int
  | 6 => .array .int
  | 7 => .array .int
  | _ => .array .int
abbrev wsX70 : List Cond := u_ws RX7 TX7 9
theorem nmX7 : ∀ a, a < 9 → ∀ b, b < 9 → a ≠ b → (TX7 a).2.1 ≠ (TX7 b).2.1 := by decide +kernel
theorem tyX7_ok : ∀ k, k < 9 → parseFieldDescriptor (TX7 k).2.2.1 = some (tyX7 k) := by decide +kernel
abbrev cX7_init : ByteArray := prog_9_method_1_code
def yX7_init : MethodName := ⟨RX7, "<init>", "()V"⟩
abbrev cX7_forget : ByteArray := prog_9_method_2_code
def yX7_forget : MethodName := ⟨RX7, "forget", "()V"⟩
abbrev cX7_becomes : ByteArray := prog_9_method_3_code
def yX7_becomes : MethodName := ⟨RX7, "becomes", "(LFreePlace$Realm;)V"⟩
abbrev cX7_hasTable : ByteArray := prog_9_method_4_code
def yX7_hasTable : MethodName := ⟨RX7, "hasTable", "(I)Z"⟩
abbrev cX7_hasWay : ByteArray := prog_9_method_5_code
def yX7_hasWay : MethodName := ⟨RX7, "hasWay", "(I)Z"⟩
abbrev cX7_allTables : ByteArray := prog_9_method_6_code
def yX7_allTables : MethodName := ⟨RX7, "allTables", "()I"⟩
abbrev cX7_hasAll : ByteArray := prog_9_method_7_code
def yX7_hasAll : MethodName := ⟨RX7, "hasAll", "(I)Z"⟩
abbrev cX7_joins : ByteArray := prog_9_method_8_code
def yX7_joins : MethodName := ⟨RX7, "joins", "(II)Z"⟩
abbrev cX7_addTable : ByteArray := prog_9_method_9_code
def yX7_addTable : MethodName := ⟨RX7, "addTable", "(II)V"⟩
abbrev cX7_addWay : ByteArray := prog_9_method_10_code
def yX7_addWay : MethodName := ⟨RX7, "addWay", "(II)V"⟩
def RX8 : String := "FreePlace$Sights"
def TX8 : u_T := fun k => match k with
  | 0 => ("FreePlace$Sights", "count", "I", false)
  | 1 => ("FreePlace$Sights", "moved", "I", false)
  | _ => ("FreePlace$Sights", "still", "I", false)
def tyX8 : Nat → FieldType := fun k => match k with
  | 0 => .int
  | 1 => .int
  | _ => .int
abbrev wsX80 : List Cond := u_ws RX8 TX8 3
theorem nmX8 : ∀ a, a < 3 → ∀ b, b < 3 → a ≠ b → (TX8 a).2.1 ≠ (TX8 b).2.1 := by decide +kernel
theorem tyX8_ok : ∀ k, k < 3 → parseFieldDescriptor (TX8 k).2.2.1 = some (tyX8 k) := by decide +kernel
abbrev cX8_init : ByteArray := prog_10_method_1_code
def yX8_init : MethodName := ⟨RX8, "<init>", "()V"⟩
abbrev cX8_forget : ByteArray := prog_10_method_2_code
def yX8_forget : MethodName := ⟨RX8, "forget", "()V"⟩
abbrev cX8_add : ByteArray := prog_10_method_3_code
def yX8_add : MethodName := ⟨RX8, "add", "(IZ)V"⟩
abbrev cX8_fitting : ByteArray := prog_10_method_4_code
def yX8_fitting : MethodName := ⟨RX8, "fitting", "(LFreePlace$Chains;)I"⟩
abbrev cX8_best : ByteArray := prog_10_method_5_code
def yX8_best : MethodName := ⟨RX8, "best", "(LFreePlace$Chains;)I"⟩
abbrev cX8_greatestPart : ByteArray := prog_10_method_6_code
def yX8_greatestPart : MethodName := ⟨RX8, "greatestPart", "(LFreePlace$Chains;II)I"⟩
def RX9 : String := "FreePlace$State"
def TX9 : u_T := fun k => match k with
  | 0 => ("FreePlace$State", "seats", "[I", true)
  | 1 => ("FreePlace$State", "sits", "[I", true)
  | 2 => ("FreePlace$State", "wood", "I", false)
  | 3 => ("FreePlace$State", "shut", "I", false)
  | 4 => ("FreePlace$State", "standing", "I", false)
  | 5 => ("FreePlace$State", "moves", "I", false)
  | 6 => ("FreePlace$State", "crimes", "I", false)
  | 7 => ("FreePlace$State", "fines", "I", false)
  | _ => ("FreePlace$State", "guests", "I", false)
def tyX9 : Nat → FieldType := fun k => match k with
  | 0 => .array .int
  | 1 => .array .int
  | 2 => .int
  | 3 => .int
  | 4 => .int
  | 5 => .int
  | 6 => .int
  | 7 => .int
  | _ => .int
abbrev wsX90 : List Cond := u_ws RX9 TX9 9
theorem nmX9 : ∀ a, a < 9 → ∀ b, b < 9 → a ≠ b → (TX9 a).2.1 ≠ (TX9 b).2.1 := by decide +kernel
theorem tyX9_ok : ∀ k, k < 9 → parseFieldDescriptor (TX9 k).2.2.1 = some (tyX9 k) := by decide +kernel
abbrev cX9_init : ByteArray := prog_11_method_1_code
def yX9_init : MethodName := ⟨RX9, "<init>", "()V"⟩
abbrev cX9_begins : ByteArray := prog_11_method_2_code
def yX9_begins : MethodName := ⟨RX9, "begins", "(LFreePlace$Realm;)V"⟩
abbrev cX9_becomes : ByteArray := prog_11_method_3_code
def yX9_becomes : MethodName := ⟨RX9, "becomes", "(LFreePlace$State;)V"⟩
abbrev cX9_free : ByteArray := prog_11_method_4_code
def yX9_free : MethodName := ⟨RX9, "free", "(I)I"⟩
abbrev cX9_sitting : ByteArray := prog_11_method_5_code
def yX9_sitting : MethodName := ⟨RX9, "sitting", "()I"⟩
abbrev cX9_withFreeBelow : ByteArray := prog_11_method_6_code
def yX9_withFreeBelow : MethodName := ⟨RX9, "withFreeBelow", "(II)I"⟩
abbrev cX9_isShut : ByteArray := prog_11_method_7_code
def yX9_isShut : MethodName := ⟨RX9, "isShut", "(I)Z"⟩
abbrev cX9_setShut : ByteArray := prog_11_method_8_code
def yX9_setShut : MethodName := ⟨RX9, "setShut", "(IZ)V"⟩
abbrev cX9_chairsFor : ByteArray := prog_11_method_9_code
def yX9_chairsFor : MethodName := ⟨RX9, "chairsFor", "(I)I"⟩
def RX10 : String := "FreePlace$Trials"
def TX10 : u_T := fun k => match k with
  | 0 => ("FreePlace$Trials", "chains", "LFreePlace$Chains;", true)
  | 1 => ("FreePlace$Trials", "acts", "LFreePlace$Acts;", true)
  | 2 => ("FreePlace$Trials", "tried", "LFreePlace$State;", true)
  | _ => ("FreePlace$Trials", "near", "[I", true)
def tyX10 : Nat → FieldType := fun k => match k with
  | 0 => .object "FreePlace$Chains"
  | 1 => .object "FreePlace$Acts"
  | 2 => .object "FreePlace$State"
  | _ => .array .int
abbrev wsX100 : List Cond := u_ws RX10 TX10 4
theorem nmX10 : ∀ a, a < 4 → ∀ b, b < 4 → a ≠ b → (TX10 a).2.1 ≠ (TX10 b).2.1 := by decide +kernel
theorem tyX10_ok : ∀ k, k < 4 → parseFieldDescriptor (TX10 k).2.2.1 = some (tyX10 k) := by decide +kernel
abbrev cX10_init : ByteArray := prog_12_method_1_code
def yX10_init : MethodName := ⟨RX10, "<init>", "()V"⟩
abbrev cX10_moreGuests : ByteArray := prog_12_method_2_code
def yX10_moreGuests : MethodName := ⟨RX10, "moreGuests", "(LFreePlace$Realm;LFreePlace$State;I)I"⟩
abbrev cX10_leastFree : ByteArray := prog_12_method_3_code
def yX10_leastFree : MethodName := ⟨RX10, "leastFree", "(LFreePlace$Realm;LFreePlace$State;I)I"⟩
abbrev cX10_movesOfTwo : ByteArray := prog_12_method_4_code
def yX10_movesOfTwo : MethodName := ⟨RX10, "movesOfTwo", "(LFreePlace$Realm;LFreePlace$State;II)I"⟩
abbrev cX10_movesCounted : ByteArray := prog_12_method_5_code
def yX10_movesCounted : MethodName := ⟨RX10, "movesCounted", "(LFreePlace$Realm;I)I"⟩
abbrev cX10_opened : ByteArray := prog_12_method_6_code
def yX10_opened : MethodName := ⟨RX10, "opened", "(LFreePlace$Realm;LFreePlace$State;II)I"⟩
abbrev cX10_reachesAll : ByteArray := prog_12_method_7_code
def yX10_reachesAll : MethodName := ⟨RX10, "reachesAll", "(LFreePlace$Realm;II)Z"⟩
abbrev cX10_isAhead : ByteArray := prog_12_method_8_code
def yX10_isAhead : MethodName := ⟨RX10, "isAhead", "(II)Z"⟩
def RX11 : String := "FreePlace"
def TX11 : u_T := fun k => match k with
  | 0 => ("FreePlace", "reader", "LFreePlace$Reader;", true)
  | 1 => ("FreePlace", "realm", "LFreePlace$Realm;", true)
  | 2 => ("FreePlace", "now", "LFreePlace$State;", true)
  | 3 => ("FreePlace", "chains", "LFreePlace$Chains;", true)
  | 4 => ("FreePlace", "acts", "LFreePlace$Acts;", true)
  | 5 => ("FreePlace", "trials", "LFreePlace$Trials;", true)
  | 6 => ("FreePlace", "sights", "LFreePlace$Sights;", true)
  | 7 => ("FreePlace", "book", "LFreePlace$Book;", true)
  | 8 => ("FreePlace", "draws", "LFreePlace$Draws;", true)
  | 9 => ("FreePlace", "history", "LFreePlace$History;", true)
  | _ => ("FreePlace", "images", "LFreePlace$Images;", true)
def tyX11 : Nat → FieldType := fun k => match k with
  | 0 => .object "FreePlace$Reader"
  | 1 => .object "FreePlace$Realm"
  | 2 => .object "FreePlace$State"
  | 3 => .object "FreePlace$Chains"
  | 4 => .object "FreePlace$Acts"
  | 5 => .object "FreePlace$Trials"
  | 6 => .object "FreePlace$Sights"
  | 7 => .object "FreePlace$Book"
  | 8 => .object "FreePlace$Draws"
  | 9 => .object "FreePlace$History"
  | _ => .object "FreePlace$Images"
abbrev wsX110 : List Cond := u_ws RX11 TX11 11
theorem nmX11 : ∀ a, a < 11 → ∀ b, b < 11 → a ≠ b → (TX11 a).2.1 ≠ (TX11 b).2.1 := by decide +kernel
theorem tyX11_ok : ∀ k, k < 11 → parseFieldDescriptor (TX11 k).2.2.1 = some (tyX11 k) := by decide +kernel
abbrev cX11_init : ByteArray := prog_1_method_1_code
def yX11_init : MethodName := ⟨RX11, "<init>", "()V"⟩
abbrev cX11_feed : ByteArray := prog_1_method_2_code
def yX11_feed : MethodName := ⟨RX11, "feed", "(I)I"⟩
abbrev cX11_realm : ByteArray := prog_1_method_3_code
def yX11_realm : MethodName := ⟨RX11, "realm", "()I"⟩
abbrev cX11_fault : ByteArray := prog_1_method_4_code
def yX11_fault : MethodName := ⟨RX11, "fault", "()I"⟩
abbrev cX11_told : ByteArray := prog_1_method_5_code
def yX11_told : MethodName := ⟨RX11, "told", "(I)I"⟩
abbrev cX11_table : ByteArray := prog_1_method_6_code
def yX11_table : MethodName := ⟨RX11, "table", "(II)I"⟩
abbrev cX11_emergencyNow : ByteArray := prog_1_method_7_code
def yX11_emergencyNow : MethodName := ⟨RX11, "emergencyNow", "()I"⟩
abbrev cX11_joinedNow : ByteArray := prog_1_method_8_code
def yX11_joinedNow : MethodName := ⟨RX11, "joinedNow", "(I)I"⟩
abbrev cX11_way : ByteArray := prog_1_method_9_code
def yX11_way : MethodName := ⟨RX11, "way", "(II)I"⟩
abbrev cX11_come : ByteArray := prog_1_method_10_code
def yX11_come : MethodName := ⟨RX11, "come", "(I)I"⟩
abbrev cX11_go : ByteArray := prog_1_method_11_code
def yX11_go : MethodName := ⟨RX11, "go", "(I)I"⟩
abbrev cX11_build : ByteArray := prog_1_method_12_code
def yX11_build : MethodName := ⟨RX11, "build", "(I)I"⟩
abbrev cX11_breakOne : ByteArray := prog_1_method_13_code
def yX11_breakOne : MethodName := ⟨RX11, "breakOne", "(I)I"⟩
abbrev cX11_shut : ByteArray := prog_1_method_14_code
def yX11_shut : MethodName := ⟨RX11, "shut", "(IZ)I"⟩
abbrev cX11_drift : ByteArray := prog_1_method_15_code
def yX11_drift : MethodName := ⟨RX11, "drift", "(I)I"⟩
abbrev cX11_undo : ByteArray := prog_1_method_16_code
def yX11_undo : MethodName := ⟨RX11, "undo", "()I"⟩
abbrev cX11_chain : ByteArray := prog_1_method_17_code
def yX11_chain : MethodName := ⟨RX11, "chain", "(II)I"⟩
abbrev cX11_more : ByteArray := prog_1_method_18_code
def yX11_more : MethodName := ⟨RX11, "more", "(I)I"⟩
abbrev cX11_far : ByteArray := prog_1_method_19_code
def yX11_far : MethodName := ⟨RX11, "far", "(I)I"⟩
abbrev cX11_two : ByteArray := prog_1_method_20_code
def yX11_two : MethodName := ⟨RX11, "two", "(III)I"⟩
abbrev cX11_chairs : ByteArray := prog_1_method_21_code
def yX11_chairs : MethodName := ⟨RX11, "chairs", "(III)I"⟩
abbrev cX11_spread : ByteArray := prog_1_method_22_code
def yX11_spread : MethodName := ⟨RX11, "spread", "(I)I"⟩
abbrev cX11_quiet : ByteArray := prog_1_method_23_code
def yX11_quiet : MethodName := ⟨RX11, "quiet", "(II)I"⟩
abbrev cX11_see : ByteArray := prog_1_method_24_code
def yX11_see : MethodName := ⟨RX11, "see", "(IZ)I"⟩
abbrev cX11_came : ByteArray := prog_1_method_25_code
def yX11_came : MethodName := ⟨RX11, "came", "()I"⟩
abbrev cX11_look : ByteArray := prog_1_method_26_code
def yX11_look : MethodName := ⟨RX11, "look", "()I"⟩
abbrev cX11_write : ByteArray := prog_1_method_27_code
def yX11_write : MethodName := ⟨RX11, "write", "(II)I"⟩
abbrev cX11_tear : ByteArray := prog_1_method_28_code
def yX11_tear : MethodName := ⟨RX11, "tear", "()I"⟩
abbrev cX11_judge : ByteArray := prog_1_method_29_code
def yX11_judge : MethodName := ⟨RX11, "judge", "()I"⟩
abbrev cX11_seed : ByteArray := prog_1_method_30_code
def yX11_seed : MethodName := ⟨RX11, "seed", "(I)I"⟩
abbrev cX11_keep : ByteArray := prog_1_method_31_code
def yX11_keep : MethodName := ⟨RX11, "keep", "(I)I"⟩
abbrev cX11_goBack : ByteArray := prog_1_method_32_code
def yX11_goBack : MethodName := ⟨RX11, "goBack", "(I)I"⟩
def RX12 : String := "FreePlaceModel"
def TX12 : u_T := fun k => match k with
  | 0 => ("FreePlaceModel", "fine", "I", false)
  | 1 => ("FreePlaceModel", "tables", "I", false)
  | 2 => ("FreePlaceModel", "ways", "I", false)
  | 3 => ("FreePlaceModel", "wayOne", "[I", true)
  | 4 => ("FreePlaceModel", "wayOther", "[I", true)
  | 5 => ("FreePlaceModel", "now", "[I", true)
  | 6 => ("FreePlaceModel", "seed", "I", false)
  | 7 => ("FreePlaceModel", "isRealm", "Z", false)
  | 8 => ("FreePlaceModel", "text", "[I", true)
  | 9 => ("FreePlaceModel", "texted", "I", false)
  | 10 => ("FreePlaceModel", "faultPlace", "I", false)
  | 11 => ("FreePlaceModel", "at0", "I", false)
  | 12 => ("FreePlaceModel", "number", "I", false)
  | 13 => ("FreePlaceModel", "numberAt", "I", false)
  | 14 => ("FreePlaceModel", "readRealm", "Z", false)
  | 15 => ("FreePlaceModel", "readLaw", "[I", true)
  | 16 => ("FreePlaceModel", "readTables", "I", false)
  | 17 => ("FreePlaceModel", "readSeats", "[I", true)
  | 18 => ("FreePlaceModel", "readSit", "[I", true)
  | 19 => ("FreePlaceModel", "readWays", "I", false)
  | 20 => ("FreePlaceModel", "readOne", "[I", true)
  | 21 => ("FreePlaceModel", "readOther", "[I", true)
  | 22 => ("FreePlaceModel", "away", "[I", true)
  | 23 => ("FreePlaceModel", "undos", "I", false)
  | 24 => ("FreePlaceModel", "past", "[I", true)
  | 25 => ("FreePlaceModel", "was", "[I", true)
  | 26 => ("FreePlaceModel", "built", "[I", true)
  | 27 => ("FreePlaceModel", "seen", "I", false)
  | 28 => ("FreePlaceModel", "seenAt", "[I", true)
  | 29 => ("FreePlaceModel", "seenMoved", "[Z", true)
  | 30 => ("FreePlaceModel", "booked", "I", false)
  | 31 => ("FreePlaceModel", "bookAt", "[I", true)
  | 32 => ("FreePlaceModel", "bookSit", "[I", true)
  | 33 => ("FreePlaceModel", "images", "[I", true)
  | _ => ("FreePlaceModel", "isKept", "[Z", true)
def tyX12 : Nat → FieldType := fun k => match k with
  | 0 => .int
  | 1 => .int
  | 2 => .int
  | 3 => .array .int
  | 4 => .array .int
  | 5 => .array .int
  | 6 => .int
  | 7 => .boolean
  | 8 => .array .int
  | 9 => .int
  | 10 => .int
  | 11 => .int
  | 12 => .int
  | 13 => .int
  | 14 => .boolean
  | 15 => .array .int
  | 16 => .int
  | 17 => .array .int
  | 18 => .array .int
  | 19 => .int
  | 20 => .array .int
  | 21 => .array .int
  | 22 => .array .int
  | 23 => .int
  | 24 => .array .int
  | 25 => .array .int
  | 26 => .array .int
  | 27 => .int
  | 28 => .array .int
  | 29 => .array .boolean
  | 30 => .int
  | 31 => .array .int
  | 32 => .array .int
  | 33 => .array .int
  | _ => .array .boolean
abbrev wsX120 : List Cond := u_ws RX12 TX12 35
theorem nmX12 : ∀ a, a < 35 → ∀ b, b < 35 → a ≠ b → (TX12 a).2.1 ≠ (TX12 b).2.1 := by decide +kernel
theorem tyX12_ok : ∀ k, k < 35 → parseFieldDescriptor (TX12 k).2.2.1 = some (tyX12 k) := by decide +kernel
abbrev cX12_init : ByteArray := prog_14_method_1_code
def yX12_init : MethodName := ⟨RX12, "<init>", "()V"⟩
abbrev cX12_in : ByteArray := prog_14_method_3_code
def yX12_in : MethodName := ⟨RX12, "in", "(JJJ)Z"⟩
abbrev cX12_has : ByteArray := prog_14_method_4_code
def yX12_has : MethodName := ⟨RX12, "has", "(II)Z"⟩
abbrev cX12_bits : ByteArray := prog_14_method_5_code
def yX12_bits : MethodName := ⟨RX12, "bits", "(I)I"⟩
abbrev cX12_isTable : ByteArray := prog_14_method_6_code
def yX12_isTable : MethodName := ⟨RX12, "isTable", "(I)Z"⟩
abbrev cX12_feed : ByteArray := prog_14_method_7_code
def yX12_feed : MethodName := ⟨RX12, "feed", "(I)I"⟩
abbrev cX12_here : ByteArray := prog_14_method_8_code
def yX12_here : MethodName := ⟨RX12, "here", "()I"⟩
abbrev cX12_fails : ByteArray := prog_14_method_9_code
def yX12_fails : MethodName := ⟨RX12, "fails", "(II)I"⟩
abbrev cX12_takeNumber : ByteArray := prog_14_method_10_code
def yX12_takeNumber : MethodName := ⟨RX12, "takeNumber", "(II)I"⟩
abbrev cX12_into : ByteArray := prog_14_method_11_code
def yX12_into : MethodName := ⟨RX12, "into", "([IIII)I"⟩
abbrev cX12_takeLaw : ByteArray := prog_14_method_12_code
def yX12_takeLaw : MethodName := ⟨RX12, "takeLaw", "()I"⟩
abbrev cX12_takeTable : ByteArray := prog_14_method_13_code
def yX12_takeTable : MethodName := ⟨RX12, "takeTable", "()I"⟩
abbrev cX12_isWayAlready : ByteArray := prog_14_method_14_code
def yX12_isWayAlready : MethodName := ⟨RX12, "isWayAlready", "(I)Z"⟩
abbrev cX12_takeWay : ByteArray := prog_14_method_15_code
def yX12_takeWay : MethodName := ⟨RX12, "takeWay", "()I"⟩
abbrev cX12_takeClause : ByteArray := prog_14_method_16_code
def yX12_takeClause : MethodName := ⟨RX12, "takeClause", "()I"⟩
abbrev cX12_takeRead : ByteArray := prog_14_method_17_code
def yX12_takeRead : MethodName := ⟨RX12, "takeRead", "()V"⟩
abbrev cX12_realm : ByteArray := prog_14_method_18_code
def yX12_realm : MethodName := ⟨RX12, "realm", "()I"⟩
abbrev cX12_fault : ByteArray := prog_14_method_19_code
def yX12_fault : MethodName := ⟨RX12, "fault", "()I"⟩
abbrev cX12_free : ByteArray := prog_14_method_20_code
def yX12_free : MethodName := ⟨RX12, "free", "(I)I"⟩
abbrev cX12_joined : ByteArray := prog_14_method_21_code
def yX12_joined : MethodName := ⟨RX12, "joined", "(I)I"⟩
abbrev cX12_findAway : ByteArray := prog_14_method_22_code
def yX12_findAway : MethodName := ⟨RX12, "findAway", "()V"⟩
abbrev cX12_nextOf : ByteArray := prog_14_method_23_code
def yX12_nextOf : MethodName := ⟨RX12, "nextOf", "(I)I"⟩
abbrev cX12_lastOf : ByteArray := prog_14_method_24_code
def yX12_lastOf : MethodName := ⟨RX12, "lastOf", "(I)I"⟩
abbrev cX12_allSit : ByteArray := prog_14_method_25_code
def yX12_allSit : MethodName := ⟨RX12, "allSit", "()I"⟩
abbrev cX12_inspected : ByteArray := prog_14_method_26_code
def yX12_inspected : MethodName := ⟨RX12, "inspected", "()I"⟩
abbrev cX12_emergency : ByteArray := prog_14_method_27_code
def yX12_emergency : MethodName := ⟨RX12, "emergency", "()I"⟩
abbrev cX12_told : ByteArray := prog_14_method_28_code
def yX12_told : MethodName := ⟨RX12, "told", "(I)I"⟩
abbrev cX12_table : ByteArray := prog_14_method_29_code
def yX12_table : MethodName := ⟨RX12, "table", "(II)I"⟩
abbrev cX12_way : ByteArray := prog_14_method_30_code
def yX12_way : MethodName := ⟨RX12, "way", "(II)I"⟩
abbrev cX12_remember : ByteArray := prog_14_method_31_code
def yX12_remember : MethodName := ⟨RX12, "remember", "()V"⟩
abbrev cX12_guest : ByteArray := prog_14_method_32_code
def yX12_guest : MethodName := ⟨RX12, "guest", "(I)I"⟩
abbrev cX12_come : ByteArray := prog_14_method_33_code
def yX12_come : MethodName := ⟨RX12, "come", "(I)I"⟩
abbrev cX12_go : ByteArray := prog_14_method_34_code
def yX12_go : MethodName := ⟨RX12, "go", "(I)I"⟩
abbrev cX12_build : ByteArray := prog_14_method_35_code
def yX12_build : MethodName := ⟨RX12, "build", "(I)I"⟩
abbrev cX12_breakOne : ByteArray := prog_14_method_36_code
def yX12_breakOne : MethodName := ⟨RX12, "breakOne", "(I)I"⟩
abbrev cX12_shut : ByteArray := prog_14_method_37_code
def yX12_shut : MethodName := ⟨RX12, "shut", "(IZ)I"⟩
abbrev cX12_draw : ByteArray := prog_14_method_38_code
def yX12_draw : MethodName := ⟨RX12, "draw", "(I)I"⟩
abbrev cX12_chance : ByteArray := prog_14_method_39_code
def yX12_chance : MethodName := ⟨RX12, "chance", "()V"⟩
abbrev cX12_drift : ByteArray := prog_14_method_40_code
def yX12_drift : MethodName := ⟨RX12, "drift", "(I)I"⟩
abbrev cX12_undo : ByteArray := prog_14_method_41_code
def yX12_undo : MethodName := ⟨RX12, "undo", "()I"⟩
abbrev cX12_chain : ByteArray := prog_14_method_42_code
def yX12_chain : MethodName := ⟨RX12, "chain", "(II)I"⟩
abbrev cX12_together : ByteArray := prog_14_method_43_code
def yX12_together : MethodName := ⟨RX12, "together", "(I)I"⟩
abbrev cX12_more : ByteArray := prog_14_method_44_code
def yX12_more : MethodName := ⟨RX12, "more", "(I)I"⟩
abbrev cX12_far : ByteArray := prog_14_method_45_code
def yX12_far : MethodName := ⟨RX12, "far", "(I)I"⟩
abbrev cX12_save : ByteArray := prog_14_method_46_code
def yX12_save : MethodName := ⟨RX12, "save", "()V"⟩
abbrev cX12_putBack : ByteArray := prog_14_method_47_code
def yX12_putBack : MethodName := ⟨RX12, "putBack", "()V"⟩
abbrev cX12_bothMoves : ByteArray := prog_14_method_48_code
def yX12_bothMoves : MethodName := ⟨RX12, "bothMoves", "(II)I"⟩
abbrev cX12_two : ByteArray := prog_14_method_49_code
def yX12_two : MethodName := ⟨RX12, "two", "(III)I"⟩
abbrev cX12_allNear : ByteArray := prog_14_method_50_code
def yX12_allNear : MethodName := ⟨RX12, "allNear", "(II)Z"⟩
abbrev cX12_buildBy : ByteArray := prog_14_method_51_code
def yX12_buildBy : MethodName := ⟨RX12, "buildBy", "(II)Z"⟩
abbrev cX12_findChairs : ByteArray := prog_14_method_52_code
def yX12_findChairs : MethodName := ⟨RX12, "findChairs", "(II)I"⟩
abbrev cX12_chairs : ByteArray := prog_14_method_53_code
def yX12_chairs : MethodName := ⟨RX12, "chairs", "(III)I"⟩
abbrev cX12_canSpread : ByteArray := prog_14_method_54_code
def yX12_canSpread : MethodName := ⟨RX12, "canSpread", "(II)Z"⟩
abbrev cX12_spread : ByteArray := prog_14_method_55_code
def yX12_spread : MethodName := ⟨RX12, "spread", "(I)I"⟩
abbrev cX12_quiet : ByteArray := prog_14_method_56_code
def yX12_quiet : MethodName := ⟨RX12, "quiet", "(II)I"⟩
abbrev cX12_see : ByteArray := prog_14_method_57_code
def yX12_see : MethodName := ⟨RX12, "see", "(IZ)I"⟩
abbrev cX12_movers : ByteArray := prog_14_method_58_code
def yX12_movers : MethodName := ⟨RX12, "movers", "(I)I"⟩
abbrev cX12_couldCome : ByteArray := prog_14_method_59_code
def yX12_couldCome : MethodName := ⟨RX12, "couldCome", "()I"⟩
abbrev cX12_came : ByteArray := prog_14_method_60_code
def yX12_came : MethodName := ⟨RX12, "came", "()I"⟩
abbrev cX12_look : ByteArray := prog_14_method_61_code
def yX12_look : MethodName := ⟨RX12, "look", "()I"⟩
abbrev cX12_write : ByteArray := prog_14_method_62_code
def yX12_write : MethodName := ⟨RX12, "write", "(II)I"⟩
abbrev cX12_tear : ByteArray := prog_14_method_63_code
def yX12_tear : MethodName := ⟨RX12, "tear", "()I"⟩
abbrev cX12_judge : ByteArray := prog_14_method_64_code
def yX12_judge : MethodName := ⟨RX12, "judge", "()I"⟩
abbrev cX12_seed : ByteArray := prog_14_method_65_code
def yX12_seed : MethodName := ⟨RX12, "seed", "(I)I"⟩
abbrev cX12_keep : ByteArray := prog_14_method_66_code
def yX12_keep : MethodName := ⟨RX12, "keep", "(I)I"⟩
abbrev cX12_goBack : ByteArray := prog_14_method_67_code
def yX12_goBack : MethodName := ⟨RX12, "goBack", "(I)I"⟩
def RJ6 : String := "java/lang/Integer"
def TJ6 : u_T := fun k => match k with
  | _ => ("", "", "", false)
def tyJ6 : Nat → FieldType := fun k => match k with
  | _ => .int
abbrev wsJ60 : List Cond := u_ws RJ6 TJ6 0
theorem nmJ6 : ∀ a, a < 0 → ∀ b, b < 0 → a ≠ b → (TJ6 a).2.1 ≠ (TJ6 b).2.1 := by decide +kernel
theorem tyJ6_ok : ∀ k, k < 0 → parseFieldDescriptor (TJ6 k).2.2.1 = some (tyJ6 k) := by decide +kernel
abbrev cJ6_numberOfTrailingZeros_0f7a4 : ByteArray := prog_15_method_48_code
def yJ6_numberOfTrailingZeros_0f7a4 : MethodName := ⟨RJ6, "numberOfTrailingZeros", "(I)I"⟩
abbrev cJ6_bitCount_0f7a4 : ByteArray := prog_15_method_49_code
def yJ6_bitCount_0f7a4 : MethodName := ⟨RJ6, "bitCount", "(I)I"⟩
def RJ9 : String := "java/lang/Math"
def TJ9 : u_T := fun k => match k with
  | _ => ("", "", "", false)
def tyJ9 : Nat → FieldType := fun k => match k with
  | _ => .int
abbrev wsJ90 : List Cond := u_ws RJ9 TJ9 0
theorem nmJ9 : ∀ a, a < 0 → ∀ b, b < 0 → a ≠ b → (TJ9 a).2.1 ≠ (TJ9 b).2.1 := by decide +kernel
theorem tyJ9_ok : ∀ k, k < 0 → parseFieldDescriptor (TJ9 k).2.2.1 = some (tyJ9 k) := by decide +kernel
abbrev cJ9_max_7cf53 : ByteArray := prog_16_method_65_code
def yJ9_max_7cf53 : MethodName := ⟨RJ9, "max", "(II)I"⟩
abbrev cJ9_min_7cf53 : ByteArray := prog_16_method_69_code
def yJ9_min_7cf53 : MethodName := ⟨RJ9, "min", "(II)I"⟩
def RL : String := "FreePlaceLaw"
abbrev cL_law : ByteArray := code
def yL_law : MethodName := ⟨RL, "law", "([I)Z"⟩
abbrev vwCl : List vw_C := [(RX0, TX0, 1), (RX1, TX1, 3), (RX2, TX2, 5), (RX3, TX3, 1), (RX4, TX4, 3), (RX5, TX5, 3), (RX6, TX6, 7), (RX7, TX7, 9), (RX8, TX8, 3), (RX9, TX9, 9), (RX10, TX10, 4), (RX11, TX11, 11), (RX12, TX12, 35)]
end
section
-- the decode rows as printed for this claim (a starting text)
theorem dX0_init_0 : decode cX0_init 0 = .ok (.aload_n 0, 1) := by decide +kernel
theorem dX0_init_1 : decode cX0_init 1 = .ok (.invokespecial 3, 3) := by decide +kernel
theorem dX0_init_4 : decode cX0_init 4 = .ok (.aload_n 0, 1) := by decide +kernel
theorem dX0_init_5 : decode cX0_init 5 = .ok (.new 9, 3) := by decide +kernel
theorem dX0_init_8 : decode cX0_init 8 = .ok (.dup, 1) := by decide +kernel
theorem dX0_init_9 : decode cX0_init 9 = .ok (.invokespecial 11, 3) := by decide +kernel
theorem dX0_init_12 : decode cX0_init 12 = .ok (.putfield 12, 3) := by decide +kernel
theorem dX0_init_15 : decode cX0_init 15 = .ok (.return_, 1) := by decide +kernel
theorem dX0_guestComes_0 : decode cX0_guestComes 0 = .ok (.aload_n 0, 1) := by decide +kernel
theorem dX0_guestComes_1 : decode cX0_guestComes 1 = .ok (.getfield 12, 3) := by decide +kernel
theorem dX0_guestComes_4 : decode cX0_guestComes 4 = .ok (.aload_n 1, 1) := by decide +kernel
theorem dX0_guestComes_5 : decode cX0_guestComes 5 = .ok (.aload_n 2, 1) := by decide +kernel
theorem dX0_guestComes_6 : decode cX0_guestComes 6 = .ok (.invokevirtual 18, 3) := by decide +kernel
theorem dX0_guestComes_9 : decode cX0_guestComes 9 = .ok (.aload_n 2, 1) := by decide +kernel
theorem dX0_guestComes_10 : decode cX0_guestComes 10 = .ok (.dup, 1) := by decide +kernel
theorem dX0_guestComes_11 : decode cX0_guestComes 11 = .ok (.getfield 22, 3) := by decide +kernel
theorem dX0_guestComes_14 : decode cX0_guestComes 14 = .ok (.iconst 1, 1) := by decide +kernel
theorem dX0_guestComes_15 : decode cX0_guestComes 15 = .ok (.iadd, 1) := by decide +kernel
theorem dX0_guestComes_16 : decode cX0_guestComes 16 = .ok (.putfield 22, 3) := by decide +kernel
theorem dX0_guestComes_19 : decode cX0_guestComes 19 = .ok (.aload_n 0, 1) := by decide +kernel
theorem dX0_guestComes_20 : decode cX0_guestComes 20 = .ok (.getfield 12, 3) := by decide +kernel
theorem dX0_guestComes_23 : decode cX0_guestComes 23 = .ok (.iload_n 3, 1) := by decide +kernel
theorem dX0_guestComes_24 : decode cX0_guestComes 24 = .ok (.invokevirtual 28, 3) := by decide +kernel
theorem dX0_guestComes_27 : decode cX0_guestComes 27 = .ok (.istore 4, 2) := by decide +kernel
theorem dX0_guestComes_29 : decode cX0_guestComes 29 = .ok (.aload_n 0, 1) := by decide +kernel
theorem dX0_guestComes_30 : decode cX0_guestComes 30 = .ok (.getfield 12, 3) := by decide +kernel
theorem dX0_guestComes_33 : decode cX0_guestComes 33 = .ok (.iload_n 3, 1) := by decide +kernel
theorem dX0_guestComes_34 : decode cX0_guestComes 34 = .ok (.iload 4, 2) := by decide +kernel
theorem dX0_guestComes_36 : decode cX0_guestComes 36 = .ok (.invokevirtual 32, 3) := by decide +kernel
theorem dX0_guestComes_39 : decode cX0_guestComes 39 = .ok (.istore 5, 2) := by decide +kernel
theorem dX0_guestComes_41 : decode cX0_guestComes 41 = .ok (.iload 5, 2) := by decide +kernel
theorem dX0_guestComes_43 : decode cX0_guestComes 43 = .ok (.iconst (-1), 1) := by decide +kernel
theorem dX0_guestComes_44 : decode cX0_guestComes 44 = .ok (.if_icmp .ne 11, 3) := by decide +kernel
theorem dX0_guestComes_47 : decode cX0_guestComes 47 = .ok (.aload_n 0, 1) := by decide +kernel
theorem dX0_guestComes_48 : decode cX0_guestComes 48 = .ok (.aload_n 1, 1) := by decide +kernel
theorem dX0_guestComes_49 : decode cX0_guestComes 49 = .ok (.aload_n 2, 1) := by decide +kernel
theorem dX0_guestComes_50 : decode cX0_guestComes 50 = .ok (.iload_n 3, 1) := by decide +kernel
theorem dX0_guestComes_51 : decode cX0_guestComes 51 = .ok (.invokevirtual 36, 3) := by decide +kernel
theorem dX0_guestComes_54 : decode cX0_guestComes 54 = .ok (.ireturn, 1) := by decide +kernel
theorem dX0_guestComes_55 : decode cX0_guestComes 55 = .ok (.aload_n 2, 1) := by decide +kernel
theorem dX0_guestComes_56 : decode cX0_guestComes 56 = .ok (.getfield 40, 3) := by decide +kernel
theorem dX0_guestComes_59 : decode cX0_guestComes 59 = .ok (.iload 5, 2) := by decide +kernel
theorem dX0_guestComes_61 : decode cX0_guestComes 61 = .ok (.dup2, 1) := by decide +kernel
theorem dX0_guestComes_62 : decode cX0_guestComes 62 = .ok (.iaload, 1) := by decide +kernel
theorem dX0_guestComes_63 : decode cX0_guestComes 63 = .ok (.iconst 1, 1) := by decide +kernel
theorem dX0_guestComes_64 : decode cX0_guestComes 64 = .ok (.iadd, 1) := by decide +kernel
theorem dX0_guestComes_65 : decode cX0_guestComes 65 = .ok (.iastore, 1) := by decide +kernel
theorem dX0_guestComes_66 : decode cX0_guestComes 66 = .ok (.aload_n 2, 1) := by decide +kernel
theorem dX0_guestComes_67 : decode cX0_guestComes 67 = .ok (.dup, 1) := by decide +kernel
theorem dX0_guestComes_68 : decode cX0_guestComes 68 = .ok (.getfield 44, 3) := by decide +kernel
theorem dX0_guestComes_71 : decode cX0_guestComes 71 = .ok (.iload 4, 2) := by decide +kernel
theorem dX0_guestComes_73 : decode cX0_guestComes 73 = .ok (.iadd, 1) := by decide +kernel
theorem dX0_guestComes_74 : decode cX0_guestComes 74 = .ok (.putfield 44, 3) := by decide +kernel
theorem dX0_guestComes_77 : decode cX0_guestComes 77 = .ok (.iload 4, 2) := by decide +kernel
theorem dX0_guestComes_79 : decode cX0_guestComes 79 = .ok (.ireturn, 1) := by decide +kernel
theorem dX0_comesWithoutChain_0 : decode cX0_comesWithoutChain 0 = .ok (.aload_n 2, 1) := by decide +kernel
theorem dX0_comesWithoutChain_1 : decode cX0_comesWithoutChain 1 = .ok (.iload_n 3, 1) := by decide +kernel
theorem dX0_comesWithoutChain_2 : decode cX0_comesWithoutChain 2 = .ok (.invokevirtual 47, 3) := by decide +kernel
theorem dX0_comesWithoutChain_5 : decode cX0_comesWithoutChain 5 = .ok (.iconst 1, 1) := by decide +kernel
theorem dX0_comesWithoutChain_6 : decode cX0_comesWithoutChain 6 = .ok (.if_icmp .ge 16, 3) := by decide +kernel
theorem dX0_comesWithoutChain_9 : decode cX0_comesWithoutChain 9 = .ok (.aload_n 2, 1) := by decide +kernel
theorem dX0_comesWithoutChain_10 : decode cX0_comesWithoutChain 10 = .ok (.dup, 1) := by decide +kernel
theorem dX0_comesWithoutChain_11 : decode cX0_comesWithoutChain 11 = .ok (.getfield 50, 3) := by decide +kernel
theorem dX0_comesWithoutChain_14 : decode cX0_comesWithoutChain 14 = .ok (.iconst 1, 1) := by decide +kernel
theorem dX0_comesWithoutChain_15 : decode cX0_comesWithoutChain 15 = .ok (.iadd, 1) := by decide +kernel
theorem dX0_comesWithoutChain_16 : decode cX0_comesWithoutChain 16 = .ok (.putfield 50, 3) := by decide +kernel
theorem dX0_comesWithoutChain_19 : decode cX0_comesWithoutChain 19 = .ok (.bipush (-3), 2) := by decide +kernel
theorem dX0_comesWithoutChain_21 : decode cX0_comesWithoutChain 21 = .ok (.ireturn, 1) := by decide +kernel
theorem dX0_comesWithoutChain_22 : decode cX0_comesWithoutChain 22 = .ok (.aload_n 2, 1) := by decide +kernel
theorem dX0_comesWithoutChain_23 : decode cX0_comesWithoutChain 23 = .ok (.getfield 40, 3) := by decide +kernel
theorem dX0_comesWithoutChain_26 : decode cX0_comesWithoutChain 26 = .ok (.iload_n 3, 1) := by decide +kernel
theorem dX0_comesWithoutChain_27 : decode cX0_comesWithoutChain 27 = .ok (.dup2, 1) := by decide +kernel
theorem dX0_comesWithoutChain_28 : decode cX0_comesWithoutChain 28 = .ok (.iaload, 1) := by decide +kernel
theorem dX0_comesWithoutChain_29 : decode cX0_comesWithoutChain 29 = .ok (.iconst 1, 1) := by decide +kernel
theorem dX0_comesWithoutChain_30 : decode cX0_comesWithoutChain 30 = .ok (.iadd, 1) := by decide +kernel
theorem dX0_comesWithoutChain_31 : decode cX0_comesWithoutChain 31 = .ok (.iastore, 1) := by decide +kernel
theorem dX0_comesWithoutChain_32 : decode cX0_comesWithoutChain 32 = .ok (.aload_n 2, 1) := by decide +kernel
theorem dX0_comesWithoutChain_33 : decode cX0_comesWithoutChain 33 = .ok (.dup, 1) := by decide +kernel
theorem dX0_comesWithoutChain_34 : decode cX0_comesWithoutChain 34 = .ok (.getfield 53, 3) := by decide +kernel
theorem dX0_comesWithoutChain_37 : decode cX0_comesWithoutChain 37 = .ok (.iconst 1, 1) := by decide +kernel
theorem dX0_comesWithoutChain_38 : decode cX0_comesWithoutChain 38 = .ok (.iadd, 1) := by decide +kernel
theorem dX0_comesWithoutChain_39 : decode cX0_comesWithoutChain 39 = .ok (.putfield 53, 3) := by decide +kernel
theorem dX0_comesWithoutChain_42 : decode cX0_comesWithoutChain 42 = .ok (.aload_n 2, 1) := by decide +kernel
theorem dX0_comesWithoutChain_43 : decode cX0_comesWithoutChain 43 = .ok (.ldc 56, 2) := by decide +kernel
theorem dX0_comesWithoutChain_45 : decode cX0_comesWithoutChain 45 = .ok (.aload_n 2, 1) := by decide +kernel
theorem dX0_comesWithoutChain_46 : decode cX0_comesWithoutChain 46 = .ok (.getfield 57, 3) := by decide +kernel
theorem dX0_comesWithoutChain_49 : decode cX0_comesWithoutChain 49 = .ok (.aload_n 1, 1) := by decide +kernel
theorem dX0_comesWithoutChain_50 : decode cX0_comesWithoutChain 50 = .ok (.getfield 60, 3) := by decide +kernel
theorem dX0_comesWithoutChain_53 : decode cX0_comesWithoutChain 53 = .ok (.iadd, 1) := by decide +kernel
theorem dX0_comesWithoutChain_54 : decode cX0_comesWithoutChain 54 = .ok (.invokestatic 65, 3) := by decide +kernel
theorem dX0_comesWithoutChain_57 : decode cX0_comesWithoutChain 57 = .ok (.putfield 57, 3) := by decide +kernel
theorem dX0_comesWithoutChain_60 : decode cX0_comesWithoutChain 60 = .ok (.bipush (-2), 2) := by decide +kernel
theorem dX0_comesWithoutChain_62 : decode cX0_comesWithoutChain 62 = .ok (.ireturn, 1) := by decide +kernel
theorem dX0_drifts_0 : decode cX0_drifts 0 = .ok (.aload_n 1, 1) := by decide +kernel
theorem dX0_drifts_1 : decode cX0_drifts 1 = .ok (.getfield 70, 3) := by decide +kernel
theorem dX0_drifts_4 : decode cX0_drifts 4 = .ok (.ifCond .gt 4, 3) := by decide +kernel
theorem dX0_drifts_7 : decode cX0_drifts 7 = .ok (.return_, 1) := by decide +kernel
theorem dX0_drifts_8 : decode cX0_drifts 8 = .ok (.iconst 0, 1) := by decide +kernel
theorem dX0_drifts_9 : decode cX0_drifts 9 = .ok (.istore 5, 2) := by decide +kernel
theorem dX0_drifts_11 : decode cX0_drifts 11 = .ok (.iload 5, 2) := by decide +kernel
theorem dX0_drifts_13 : decode cX0_drifts 13 = .ok (.iload 4, 2) := by decide +kernel
theorem dX0_drifts_15 : decode cX0_drifts 15 = .ok (.if_icmp .ge 60, 3) := by decide +kernel
theorem dX0_drifts_18 : decode cX0_drifts 18 = .ok (.aload_n 3, 1) := by decide +kernel
theorem dX0_drifts_19 : decode cX0_drifts 19 = .ok (.aload_n 1, 1) := by decide +kernel
theorem dX0_drifts_20 : decode cX0_drifts 20 = .ok (.getfield 70, 3) := by decide +kernel
theorem dX0_drifts_23 : decode cX0_drifts 23 = .ok (.invokevirtual 73, 3) := by decide +kernel
theorem dX0_drifts_26 : decode cX0_drifts 26 = .ok (.istore 6, 2) := by decide +kernel
theorem dX0_drifts_28 : decode cX0_drifts 28 = .ok (.aload_n 3, 1) := by decide +kernel
theorem dX0_drifts_29 : decode cX0_drifts 29 = .ok (.iconst 3, 1) := by decide +kernel
theorem dX0_drifts_30 : decode cX0_drifts 30 = .ok (.invokevirtual 73, 3) := by decide +kernel
theorem dX0_drifts_33 : decode cX0_drifts 33 = .ok (.ifCond .eq 15, 3) := by decide +kernel
theorem dX0_drifts_36 : decode cX0_drifts 36 = .ok (.aload_n 0, 1) := by decide +kernel
theorem dX0_drifts_37 : decode cX0_drifts 37 = .ok (.aload_n 1, 1) := by decide +kernel
theorem dX0_drifts_38 : decode cX0_drifts 38 = .ok (.aload_n 2, 1) := by decide +kernel
theorem dX0_drifts_39 : decode cX0_drifts 39 = .ok (.iload 6, 2) := by decide +kernel
theorem dX0_drifts_41 : decode cX0_drifts 41 = .ok (.invokevirtual 78, 3) := by decide +kernel
theorem dX0_drifts_44 : decode cX0_drifts 44 = .ok (.pop, 1) := by decide +kernel
theorem dX0_drifts_45 : decode cX0_drifts 45 = .ok (.goto 24, 3) := by decide +kernel
theorem dX0_drifts_48 : decode cX0_drifts 48 = .ok (.aload_n 2, 1) := by decide +kernel
theorem dX0_drifts_49 : decode cX0_drifts 49 = .ok (.getfield 40, 3) := by decide +kernel
theorem dX0_drifts_52 : decode cX0_drifts 52 = .ok (.iload 6, 2) := by decide +kernel
theorem dX0_drifts_54 : decode cX0_drifts 54 = .ok (.iaload, 1) := by decide +kernel
theorem dX0_drifts_55 : decode cX0_drifts 55 = .ok (.ifCond .le 14, 3) := by decide +kernel
theorem dX0_drifts_58 : decode cX0_drifts 58 = .ok (.aload_n 2, 1) := by decide +kernel
theorem dX0_drifts_59 : decode cX0_drifts 59 = .ok (.getfield 40, 3) := by decide +kernel
theorem dX0_drifts_62 : decode cX0_drifts 62 = .ok (.iload 6, 2) := by decide +kernel
theorem dX0_drifts_64 : decode cX0_drifts 64 = .ok (.dup2, 1) := by decide +kernel
theorem dX0_drifts_65 : decode cX0_drifts 65 = .ok (.iaload, 1) := by decide +kernel
theorem dX0_drifts_66 : decode cX0_drifts 66 = .ok (.iconst 1, 1) := by decide +kernel
theorem dX0_drifts_67 : decode cX0_drifts 67 = .ok (.isub, 1) := by decide +kernel
theorem dX0_drifts_68 : decode cX0_drifts 68 = .ok (.iastore, 1) := by decide +kernel
theorem dX0_drifts_69 : decode cX0_drifts 69 = .ok (.iinc 5 1, 3) := by decide +kernel
theorem dX0_drifts_72 : decode cX0_drifts 72 = .ok (.goto (-61), 3) := by decide +kernel
theorem dX0_drifts_75 : decode cX0_drifts 75 = .ok (.return_, 1) := by decide +kernel
theorem dX1_init_0 : decode cX1_init 0 = .ok (.aload_n 0, 1) := by decide +kernel
theorem dX1_init_1 : decode cX1_init 1 = .ok (.invokespecial 3, 3) := by decide +kernel
theorem dX1_init_4 : decode cX1_init 4 = .ok (.aload_n 0, 1) := by decide +kernel
theorem dX1_init_5 : decode cX1_init 5 = .ok (.bipush 15, 2) := by decide +kernel
theorem dX1_init_7 : decode cX1_init 7 = .ok (.newarray .int, 2) := by decide +kernel
theorem dX1_init_9 : decode cX1_init 9 = .ok (.putfield 9, 3) := by decide +kernel
theorem dX1_init_12 : decode cX1_init 12 = .ok (.aload_n 0, 1) := by decide +kernel
theorem dX1_init_13 : decode cX1_init 13 = .ok (.bipush 15, 2) := by decide +kernel
theorem dX1_init_15 : decode cX1_init 15 = .ok (.newarray .int, 2) := by decide +kernel
theorem dX1_init_17 : decode cX1_init 17 = .ok (.putfield 15, 3) := by decide +kernel
theorem dX1_init_20 : decode cX1_init 20 = .ok (.return_, 1) := by decide +kernel
theorem dX1_forget_0 : decode cX1_forget 0 = .ok (.aload_n 0, 1) := by decide +kernel
theorem dX1_forget_1 : decode cX1_forget 1 = .ok (.iconst 0, 1) := by decide +kernel
theorem dX1_forget_2 : decode cX1_forget 2 = .ok (.putfield 18, 3) := by decide +kernel
theorem dX1_forget_5 : decode cX1_forget 5 = .ok (.return_, 1) := by decide +kernel
theorem dX1_add_0 : decode cX1_add 0 = .ok (.aload_n 0, 1) := by decide +kernel
theorem dX1_add_1 : decode cX1_add 1 = .ok (.getfield 18, 3) := by decide +kernel
theorem dX1_add_4 : decode cX1_add 4 = .ok (.ifCond .lt 12, 3) := by decide +kernel
theorem dX1_add_7 : decode cX1_add 7 = .ok (.aload_n 0, 1) := by decide +kernel
theorem dX1_add_8 : decode cX1_add 8 = .ok (.getfield 18, 3) := by decide +kernel
theorem dX1_add_11 : decode cX1_add 11 = .ok (.bipush 15, 2) := by decide +kernel
theorem dX1_add_13 : decode cX1_add 13 = .ok (.if_icmp .lt 5, 3) := by decide +kernel
theorem dX1_add_16 : decode cX1_add 16 = .ok (.iconst 0, 1) := by decide +kernel
theorem dX1_add_17 : decode cX1_add 17 = .ok (.ireturn, 1) := by decide +kernel
theorem dX1_add_18 : decode cX1_add 18 = .ok (.aload_n 0, 1) := by decide +kernel
theorem dX1_add_19 : decode cX1_add 19 = .ok (.getfield 9, 3) := by decide +kernel
theorem dX1_add_22 : decode cX1_add 22 = .ok (.aload_n 0, 1) := by decide +kernel
theorem dX1_add_23 : decode cX1_add 23 = .ok (.getfield 18, 3) := by decide +kernel
theorem dX1_add_26 : decode cX1_add 26 = .ok (.iload_n 1, 1) := by decide +kernel
theorem dX1_add_27 : decode cX1_add 27 = .ok (.iastore, 1) := by decide +kernel
theorem dX1_add_28 : decode cX1_add 28 = .ok (.aload_n 0, 1) := by decide +kernel
theorem dX1_add_29 : decode cX1_add 29 = .ok (.getfield 15, 3) := by decide +kernel
theorem dX1_add_32 : decode cX1_add 32 = .ok (.aload_n 0, 1) := by decide +kernel
theorem dX1_add_33 : decode cX1_add 33 = .ok (.getfield 18, 3) := by decide +kernel
theorem dX1_add_36 : decode cX1_add 36 = .ok (.iload_n 2, 1) := by decide +kernel
theorem dX1_add_37 : decode cX1_add 37 = .ok (.iastore, 1) := by decide +kernel
theorem dX1_add_38 : decode cX1_add 38 = .ok (.aload_n 0, 1) := by decide +kernel
theorem dX1_add_39 : decode cX1_add 39 = .ok (.dup, 1) := by decide +kernel
theorem dX1_add_40 : decode cX1_add 40 = .ok (.getfield 18, 3) := by decide +kernel
theorem dX1_add_43 : decode cX1_add 43 = .ok (.iconst 1, 1) := by decide +kernel
theorem dX1_add_44 : decode cX1_add 44 = .ok (.iadd, 1) := by decide +kernel
theorem dX1_add_45 : decode cX1_add 45 = .ok (.putfield 18, 3) := by decide +kernel
theorem dX1_add_48 : decode cX1_add 48 = .ok (.iconst 1, 1) := by decide +kernel
theorem dX1_add_49 : decode cX1_add 49 = .ok (.ireturn, 1) := by decide +kernel
theorem dX1_firstWrong_0 : decode cX1_firstWrong 0 = .ok (.iconst 0, 1) := by decide +kernel
theorem dX1_firstWrong_1 : decode cX1_firstWrong 1 = .ok (.istore_n 2, 1) := by decide +kernel
theorem dX1_firstWrong_2 : decode cX1_firstWrong 2 = .ok (.iload_n 2, 1) := by decide +kernel
theorem dX1_firstWrong_3 : decode cX1_firstWrong 3 = .ok (.aload_n 0, 1) := by decide +kernel
theorem dX1_firstWrong_4 : decode cX1_firstWrong 4 = .ok (.getfield 18, 3) := by decide +kernel
theorem dX1_firstWrong_7 : decode cX1_firstWrong 7 = .ok (.if_icmp .ge 43, 3) := by decide +kernel
theorem dX1_firstWrong_10 : decode cX1_firstWrong 10 = .ok (.aload_n 0, 1) := by decide +kernel
theorem dX1_firstWrong_11 : decode cX1_firstWrong 11 = .ok (.getfield 9, 3) := by decide +kernel
theorem dX1_firstWrong_14 : decode cX1_firstWrong 14 = .ok (.iload_n 2, 1) := by decide +kernel
theorem dX1_firstWrong_15 : decode cX1_firstWrong 15 = .ok (.iaload, 1) := by decide +kernel
theorem dX1_firstWrong_16 : decode cX1_firstWrong 16 = .ok (.istore_n 3, 1) := by decide +kernel
theorem dX1_firstWrong_17 : decode cX1_firstWrong 17 = .ok (.iload_n 3, 1) := by decide +kernel
theorem dX1_firstWrong_18 : decode cX1_firstWrong 18 = .ok (.ifCond .lt 26, 3) := by decide +kernel
theorem dX1_firstWrong_21 : decode cX1_firstWrong 21 = .ok (.iload_n 3, 1) := by decide +kernel
theorem dX1_firstWrong_22 : decode cX1_firstWrong 22 = .ok (.bipush 9, 2) := by decide +kernel
theorem dX1_firstWrong_24 : decode cX1_firstWrong 24 = .ok (.if_icmp .ge 20, 3) := by decide +kernel
theorem dX1_firstWrong_27 : decode cX1_firstWrong 27 = .ok (.aload_n 1, 1) := by decide +kernel
theorem dX1_firstWrong_28 : decode cX1_firstWrong 28 = .ok (.getfield 22, 3) := by decide +kernel
theorem dX1_firstWrong_31 : decode cX1_firstWrong 31 = .ok (.iload_n 3, 1) := by decide +kernel
theorem dX1_firstWrong_32 : decode cX1_firstWrong 32 = .ok (.iaload, 1) := by decide +kernel
theorem dX1_firstWrong_33 : decode cX1_firstWrong 33 = .ok (.aload_n 0, 1) := by decide +kernel
theorem dX1_firstWrong_34 : decode cX1_firstWrong 34 = .ok (.getfield 15, 3) := by decide +kernel
theorem dX1_firstWrong_37 : decode cX1_firstWrong 37 = .ok (.iload_n 2, 1) := by decide +kernel
theorem dX1_firstWrong_38 : decode cX1_firstWrong 38 = .ok (.iaload, 1) := by decide +kernel
theorem dX1_firstWrong_39 : decode cX1_firstWrong 39 = .ok (.if_icmp .eq 5, 3) := by decide +kernel
theorem dX1_firstWrong_42 : decode cX1_firstWrong 42 = .ok (.iload_n 2, 1) := by decide +kernel
theorem dX1_firstWrong_43 : decode cX1_firstWrong 43 = .ok (.ireturn, 1) := by decide +kernel
theorem dX1_firstWrong_44 : decode cX1_firstWrong 44 = .ok (.iinc 2 1, 3) := by decide +kernel
theorem dX1_firstWrong_47 : decode cX1_firstWrong 47 = .ok (.goto (-45), 3) := by decide +kernel
theorem dX1_firstWrong_50 : decode cX1_firstWrong 50 = .ok (.iconst (-1), 1) := by decide +kernel
theorem dX1_firstWrong_51 : decode cX1_firstWrong 51 = .ok (.ireturn, 1) := by decide +kernel
theorem dX2_init_0 : decode cX2_init 0 = .ok (.aload_n 0, 1) := by decide +kernel
theorem dX2_init_1 : decode cX2_init 1 = .ok (.invokespecial 3, 3) := by decide +kernel
theorem dX2_init_4 : decode cX2_init 4 = .ok (.aload_n 0, 1) := by decide +kernel
theorem dX2_init_5 : decode cX2_init 5 = .ok (.bipush 9, 2) := by decide +kernel
theorem dX2_init_7 : decode cX2_init 7 = .ok (.newarray .int, 2) := by decide +kernel
theorem dX2_init_9 : decode cX2_init 9 = .ok (.putfield 9, 3) := by decide +kernel
theorem dX2_init_12 : decode cX2_init 12 = .ok (.aload_n 0, 1) := by decide +kernel
theorem dX2_init_13 : decode cX2_init 13 = .ok (.bipush 9, 2) := by decide +kernel
theorem dX2_init_15 : decode cX2_init 15 = .ok (.newarray .int, 2) := by decide +kernel
theorem dX2_init_17 : decode cX2_init 17 = .ok (.putfield 15, 3) := by decide +kernel
theorem dX2_init_20 : decode cX2_init 20 = .ok (.aload_n 0, 1) := by decide +kernel
theorem dX2_init_21 : decode cX2_init 21 = .ok (.bipush 9, 2) := by decide +kernel
theorem dX2_init_23 : decode cX2_init 23 = .ok (.newarray .int, 2) := by decide +kernel
theorem dX2_init_25 : decode cX2_init 25 = .ok (.putfield 18, 3) := by decide +kernel
theorem dX2_init_28 : decode cX2_init 28 = .ok (.aload_n 0, 1) := by decide +kernel
theorem dX2_init_29 : decode cX2_init 29 = .ok (.bipush 9, 2) := by decide +kernel
theorem dX2_init_31 : decode cX2_init 31 = .ok (.newarray .int, 2) := by decide +kernel
theorem dX2_init_33 : decode cX2_init 33 = .ok (.putfield 21, 3) := by decide +kernel
theorem dX2_init_36 : decode cX2_init 36 = .ok (.return_, 1) := by decide +kernel
theorem dX2_measure_0 : decode cX2_measure 0 = .ok (.aload_n 0, 1) := by decide +kernel
theorem dX2_measure_1 : decode cX2_measure 1 = .ok (.aload_n 1, 1) := by decide +kernel
theorem dX2_measure_2 : decode cX2_measure 2 = .ok (.aload_n 2, 1) := by decide +kernel
theorem dX2_measure_3 : decode cX2_measure 3 = .ok (.getfield 24, 3) := by decide +kernel
theorem dX2_measure_6 : decode cX2_measure 6 = .ok (.invokevirtual 30, 3) := by decide +kernel
theorem dX2_measure_9 : decode cX2_measure 9 = .ok (.iconst 0, 1) := by decide +kernel
theorem dX2_measure_10 : decode cX2_measure 10 = .ok (.istore_n 3, 1) := by decide +kernel
theorem dX2_measure_11 : decode cX2_measure 11 = .ok (.iload_n 3, 1) := by decide +kernel
theorem dX2_measure_12 : decode cX2_measure 12 = .ok (.bipush 9, 2) := by decide +kernel
theorem dX2_measure_14 : decode cX2_measure 14 = .ok (.if_icmp .ge 30, 3) := by decide +kernel
theorem dX2_measure_17 : decode cX2_measure 17 = .ok (.aload_n 0, 1) := by decide +kernel
theorem dX2_measure_18 : decode cX2_measure 18 = .ok (.getfield 15, 3) := by decide +kernel
theorem dX2_measure_21 : decode cX2_measure 21 = .ok (.iload_n 3, 1) := by decide +kernel
theorem dX2_measure_22 : decode cX2_measure 22 = .ok (.iconst (-1), 1) := by decide +kernel
theorem dX2_measure_23 : decode cX2_measure 23 = .ok (.iastore, 1) := by decide +kernel
theorem dX2_measure_24 : decode cX2_measure 24 = .ok (.aload_n 0, 1) := by decide +kernel
theorem dX2_measure_25 : decode cX2_measure 25 = .ok (.getfield 18, 3) := by decide +kernel
theorem dX2_measure_28 : decode cX2_measure 28 = .ok (.iload_n 3, 1) := by decide +kernel
theorem dX2_measure_29 : decode cX2_measure 29 = .ok (.iconst (-1), 1) := by decide +kernel
theorem dX2_measure_30 : decode cX2_measure 30 = .ok (.iastore, 1) := by decide +kernel
theorem dX2_measure_31 : decode cX2_measure 31 = .ok (.aload_n 0, 1) := by decide +kernel
theorem dX2_measure_32 : decode cX2_measure 32 = .ok (.getfield 21, 3) := by decide +kernel
theorem dX2_measure_35 : decode cX2_measure 35 = .ok (.iload_n 3, 1) := by decide +kernel
theorem dX2_measure_36 : decode cX2_measure 36 = .ok (.iconst 0, 1) := by decide +kernel
theorem dX2_measure_37 : decode cX2_measure 37 = .ok (.iastore, 1) := by decide +kernel
theorem dX2_measure_38 : decode cX2_measure 38 = .ok (.iinc 3 1, 3) := by decide +kernel
theorem dX2_measure_41 : decode cX2_measure 41 = .ok (.goto (-30), 3) := by decide +kernel
theorem dX2_measure_44 : decode cX2_measure 44 = .ok (.iconst 0, 1) := by decide +kernel
theorem dX2_measure_45 : decode cX2_measure 45 = .ok (.istore_n 3, 1) := by decide +kernel
theorem dX2_measure_46 : decode cX2_measure 46 = .ok (.iconst 0, 1) := by decide +kernel
theorem dX2_measure_47 : decode cX2_measure 47 = .ok (.istore 4, 2) := by decide +kernel
theorem dX2_measure_49 : decode cX2_measure 49 = .ok (.aload_n 1, 1) := by decide +kernel
theorem dX2_measure_50 : decode cX2_measure 50 = .ok (.invokevirtual 34, 3) := by decide +kernel
theorem dX2_measure_53 : decode cX2_measure 53 = .ok (.aload_n 2, 1) := by decide +kernel
theorem dX2_measure_54 : decode cX2_measure 54 = .ok (.iconst 2, 1) := by decide +kernel
theorem dX2_measure_55 : decode cX2_measure 55 = .ok (.aload_n 0, 1) := by decide +kernel
theorem dX2_measure_56 : decode cX2_measure 56 = .ok (.getfield 40, 3) := by decide +kernel
theorem dX2_measure_59 : decode cX2_measure 59 = .ok (.invokevirtual 43, 3) := by decide +kernel
theorem dX2_measure_62 : decode cX2_measure 62 = .ok (.iconst (-1), 1) := by decide +kernel
theorem dX2_measure_63 : decode cX2_measure 63 = .ok (.ixor, 1) := by decide +kernel
theorem dX2_measure_64 : decode cX2_measure 64 = .ok (.iand, 1) := by decide +kernel
theorem dX2_measure_65 : decode cX2_measure 65 = .ok (.istore 5, 2) := by decide +kernel
theorem dX2_measure_67 : decode cX2_measure 67 = .ok (.iconst 0, 1) := by decide +kernel
theorem dX2_measure_68 : decode cX2_measure 68 = .ok (.istore 6, 2) := by decide +kernel
theorem dX2_measure_70 : decode cX2_measure 70 = .ok (.iload 6, 2) := by decide +kernel
theorem dX2_measure_72 : decode cX2_measure 72 = .ok (.bipush 9, 2) := by decide +kernel
theorem dX2_measure_74 : decode cX2_measure 74 = .ok (.if_icmp .ge 46, 3) := by decide +kernel
theorem dX2_measure_77 : decode cX2_measure 77 = .ok (.iload 5, 2) := by decide +kernel
theorem dX2_measure_79 : decode cX2_measure 79 = .ok (.ifCond .eq 41, 3) := by decide +kernel
theorem dX2_measure_82 : decode cX2_measure 82 = .ok (.aload_n 0, 1) := by decide +kernel
theorem dX2_measure_83 : decode cX2_measure 83 = .ok (.iload 5, 2) := by decide +kernel
theorem dX2_measure_85 : decode cX2_measure 85 = .ok (.iload 6, 2) := by decide +kernel
theorem dX2_measure_87 : decode cX2_measure 87 = .ok (.iload_n 3, 1) := by decide +kernel
theorem dX2_measure_88 : decode cX2_measure 88 = .ok (.invokevirtual 47, 3) := by decide +kernel
theorem dX2_measure_91 : decode cX2_measure 91 = .ok (.iload 4, 2) := by decide +kernel
theorem dX2_measure_93 : decode cX2_measure 93 = .ok (.iload 5, 2) := by decide +kernel
theorem dX2_measure_95 : decode cX2_measure 95 = .ok (.ior, 1) := by decide +kernel
theorem dX2_measure_96 : decode cX2_measure 96 = .ok (.istore 4, 2) := by decide +kernel
theorem dX2_measure_98 : decode cX2_measure 98 = .ok (.iload 5, 2) := by decide +kernel
theorem dX2_measure_100 : decode cX2_measure 100 = .ok (.istore_n 3, 1) := by decide +kernel
theorem dX2_measure_101 : decode cX2_measure 101 = .ok (.aload_n 0, 1) := by decide +kernel
theorem dX2_measure_102 : decode cX2_measure 102 = .ok (.iload 5, 2) := by decide +kernel
theorem dX2_measure_104 : decode cX2_measure 104 = .ok (.invokevirtual 51, 3) := by decide +kernel
theorem dX2_measure_107 : decode cX2_measure 107 = .ok (.iload 4, 2) := by decide +kernel
theorem dX2_measure_109 : decode cX2_measure 109 = .ok (.iconst (-1), 1) := by decide +kernel
theorem dX2_measure_110 : decode cX2_measure 110 = .ok (.ixor, 1) := by decide +kernel
theorem dX2_measure_111 : decode cX2_measure 111 = .ok (.iand, 1) := by decide +kernel
theorem dX2_measure_112 : decode cX2_measure 112 = .ok (.istore 5, 2) := by decide +kernel
theorem dX2_measure_114 : decode cX2_measure 114 = .ok (.iinc 6 1, 3) := by decide +kernel
theorem dX2_measure_117 : decode cX2_measure 117 = .ok (.goto (-47), 3) := by decide +kernel
theorem dX2_measure_120 : decode cX2_measure 120 = .ok (.return_, 1) := by decide +kernel
theorem dX2_link_0 : decode cX2_link 0 = .ok (.iconst 0, 1) := by decide +kernel
theorem dX2_link_1 : decode cX2_link 1 = .ok (.istore 4, 2) := by decide +kernel
theorem dX2_link_3 : decode cX2_link 3 = .ok (.iload 4, 2) := by decide +kernel
theorem dX2_link_5 : decode cX2_link 5 = .ok (.aload_n 0, 1) := by decide +kernel
theorem dX2_link_6 : decode cX2_link 6 = .ok (.getfield 40, 3) := by decide +kernel
theorem dX2_link_9 : decode cX2_link 9 = .ok (.if_icmp .ge 80, 3) := by decide +kernel
theorem dX2_link_12 : decode cX2_link 12 = .ok (.iload_n 1, 1) := by decide +kernel
theorem dX2_link_13 : decode cX2_link 13 = .ok (.iload 4, 2) := by decide +kernel
theorem dX2_link_15 : decode cX2_link 15 = .ok (.ishr, 1) := by decide +kernel
theorem dX2_link_16 : decode cX2_link 16 = .ok (.iconst 1, 1) := by decide +kernel
theorem dX2_link_17 : decode cX2_link 17 = .ok (.iand, 1) := by decide +kernel
theorem dX2_link_18 : decode cX2_link 18 = .ok (.ifCond .ne 6, 3) := by decide +kernel
theorem dX2_link_21 : decode cX2_link 21 = .ok (.goto 62, 3) := by decide +kernel
theorem dX2_link_24 : decode cX2_link 24 = .ok (.aload_n 0, 1) := by decide +kernel
theorem dX2_link_25 : decode cX2_link 25 = .ok (.getfield 15, 3) := by decide +kernel
theorem dX2_link_28 : decode cX2_link 28 = .ok (.iload 4, 2) := by decide +kernel
theorem dX2_link_30 : decode cX2_link 30 = .ok (.iload_n 2, 1) := by decide +kernel
theorem dX2_link_31 : decode cX2_link 31 = .ok (.iastore, 1) := by decide +kernel
theorem dX2_link_32 : decode cX2_link 32 = .ok (.aload_n 0, 1) := by decide +kernel
theorem dX2_link_33 : decode cX2_link 33 = .ok (.getfield 9, 3) := by decide +kernel
theorem dX2_link_36 : decode cX2_link 36 = .ok (.iload 4, 2) := by decide +kernel
theorem dX2_link_38 : decode cX2_link 38 = .ok (.iaload, 1) := by decide +kernel
theorem dX2_link_39 : decode cX2_link 39 = .ok (.iload_n 3, 1) := by decide +kernel
theorem dX2_link_40 : decode cX2_link 40 = .ok (.iand, 1) := by decide +kernel
theorem dX2_link_41 : decode cX2_link 41 = .ok (.invokestatic 55, 3) := by decide +kernel
theorem dX2_link_44 : decode cX2_link 44 = .ok (.istore 5, 2) := by decide +kernel
theorem dX2_link_46 : decode cX2_link 46 = .ok (.iload 5, 2) := by decide +kernel
theorem dX2_link_48 : decode cX2_link 48 = .ok (.aload_n 0, 1) := by decide +kernel
theorem dX2_link_49 : decode cX2_link 49 = .ok (.getfield 40, 3) := by decide +kernel
theorem dX2_link_52 : decode cX2_link 52 = .ok (.if_icmp .ge 31, 3) := by decide +kernel
theorem dX2_link_55 : decode cX2_link 55 = .ok (.aload_n 0, 1) := by decide +kernel
theorem dX2_link_56 : decode cX2_link 56 = .ok (.getfield 18, 3) := by decide +kernel
theorem dX2_link_59 : decode cX2_link 59 = .ok (.iload 4, 2) := by decide +kernel
theorem dX2_link_61 : decode cX2_link 61 = .ok (.iload 5, 2) := by decide +kernel
theorem dX2_link_63 : decode cX2_link 63 = .ok (.iastore, 1) := by decide +kernel
theorem dX2_link_64 : decode cX2_link 64 = .ok (.aload_n 0, 1) := by decide +kernel
theorem dX2_link_65 : decode cX2_link 65 = .ok (.getfield 21, 3) := by decide +kernel
theorem dX2_link_68 : decode cX2_link 68 = .ok (.iload 4, 2) := by decide +kernel
theorem dX2_link_70 : decode cX2_link 70 = .ok (.aload_n 0, 1) := by decide +kernel
theorem dX2_link_71 : decode cX2_link 71 = .ok (.getfield 21, 3) := by decide +kernel
theorem dX2_link_74 : decode cX2_link 74 = .ok (.iload 5, 2) := by decide +kernel
theorem dX2_link_76 : decode cX2_link 76 = .ok (.iaload, 1) := by decide +kernel
theorem dX2_link_77 : decode cX2_link 77 = .ok (.iconst 1, 1) := by decide +kernel
theorem dX2_link_78 : decode cX2_link 78 = .ok (.iload 4, 2) := by decide +kernel
theorem dX2_link_80 : decode cX2_link 80 = .ok (.ishl, 1) := by decide +kernel
theorem dX2_link_81 : decode cX2_link 81 = .ok (.ior, 1) := by decide +kernel
theorem dX2_link_82 : decode cX2_link 82 = .ok (.iastore, 1) := by decide +kernel
theorem dX2_link_83 : decode cX2_link 83 = .ok (.iinc 4 1, 3) := by decide +kernel
theorem dX2_link_86 : decode cX2_link 86 = .ok (.goto (-83), 3) := by decide +kernel
theorem dX2_link_89 : decode cX2_link 89 = .ok (.return_, 1) := by decide +kernel
theorem dX2_join_0 : decode cX2_join 0 = .ok (.aload_n 0, 1) := by decide +kernel
theorem dX2_join_1 : decode cX2_join 1 = .ok (.aload_n 1, 1) := by decide +kernel
theorem dX2_join_2 : decode cX2_join 2 = .ok (.getfield 60, 3) := by decide +kernel
theorem dX2_join_5 : decode cX2_join 5 = .ok (.putfield 40, 3) := by decide +kernel
theorem dX2_join_8 : decode cX2_join 8 = .ok (.iconst 0, 1) := by decide +kernel
theorem dX2_join_9 : decode cX2_join 9 = .ok (.istore_n 3, 1) := by decide +kernel
theorem dX2_join_10 : decode cX2_join 10 = .ok (.iload_n 3, 1) := by decide +kernel
theorem dX2_join_11 : decode cX2_join 11 = .ok (.bipush 9, 2) := by decide +kernel
theorem dX2_join_13 : decode cX2_join 13 = .ok (.if_icmp .ge 16, 3) := by decide +kernel
theorem dX2_join_16 : decode cX2_join 16 = .ok (.aload_n 0, 1) := by decide +kernel
theorem dX2_join_17 : decode cX2_join 17 = .ok (.getfield 9, 3) := by decide +kernel
theorem dX2_join_20 : decode cX2_join 20 = .ok (.iload_n 3, 1) := by decide +kernel
theorem dX2_join_21 : decode cX2_join 21 = .ok (.iconst 0, 1) := by decide +kernel
theorem dX2_join_22 : decode cX2_join 22 = .ok (.iastore, 1) := by decide +kernel
theorem dX2_join_23 : decode cX2_join 23 = .ok (.iinc 3 1, 3) := by decide +kernel
theorem dX2_join_26 : decode cX2_join 26 = .ok (.goto (-16), 3) := by decide +kernel
theorem dX2_join_29 : decode cX2_join 29 = .ok (.iconst 0, 1) := by decide +kernel
theorem dX2_join_30 : decode cX2_join 30 = .ok (.istore_n 3, 1) := by decide +kernel
theorem dX2_join_31 : decode cX2_join 31 = .ok (.iload_n 3, 1) := by decide +kernel
theorem dX2_join_32 : decode cX2_join 32 = .ok (.aload_n 1, 1) := by decide +kernel
theorem dX2_join_33 : decode cX2_join 33 = .ok (.getfield 61, 3) := by decide +kernel
theorem dX2_join_36 : decode cX2_join 36 = .ok (.if_icmp .ge 79, 3) := by decide +kernel
theorem dX2_join_39 : decode cX2_join 39 = .ok (.aload_n 1, 1) := by decide +kernel
theorem dX2_join_40 : decode cX2_join 40 = .ok (.getfield 64, 3) := by decide +kernel
theorem dX2_join_43 : decode cX2_join 43 = .ok (.iload_n 3, 1) := by decide +kernel
theorem dX2_join_44 : decode cX2_join 44 = .ok (.iaload, 1) := by decide +kernel
theorem dX2_join_45 : decode cX2_join 45 = .ok (.istore 4, 2) := by decide +kernel
theorem dX2_join_47 : decode cX2_join 47 = .ok (.aload_n 1, 1) := by decide +kernel
theorem dX2_join_48 : decode cX2_join 48 = .ok (.getfield 67, 3) := by decide +kernel
theorem dX2_join_51 : decode cX2_join 51 = .ok (.iload_n 3, 1) := by decide +kernel
theorem dX2_join_52 : decode cX2_join 52 = .ok (.iaload, 1) := by decide +kernel
theorem dX2_join_53 : decode cX2_join 53 = .ok (.istore 5, 2) := by decide +kernel
theorem dX2_join_55 : decode cX2_join 55 = .ok (.iload_n 2, 1) := by decide +kernel
theorem dX2_join_56 : decode cX2_join 56 = .ok (.iload_n 3, 1) := by decide +kernel
theorem dX2_join_57 : decode cX2_join 57 = .ok (.ishr, 1) := by decide +kernel
theorem dX2_join_58 : decode cX2_join 58 = .ok (.iconst 1, 1) := by decide +kernel
theorem dX2_join_59 : decode cX2_join 59 = .ok (.iand, 1) := by decide +kernel
theorem dX2_join_60 : decode cX2_join 60 = .ok (.ifCond .ne 49, 3) := by decide +kernel
theorem dX2_join_63 : decode cX2_join 63 = .ok (.aload_n 1, 1) := by decide +kernel
theorem dX2_join_64 : decode cX2_join 64 = .ok (.iload 4, 2) := by decide +kernel
theorem dX2_join_66 : decode cX2_join 66 = .ok (.invokevirtual 70, 3) := by decide +kernel
theorem dX2_join_69 : decode cX2_join 69 = .ok (.ifCond .eq 40, 3) := by decide +kernel
theorem dX2_join_72 : decode cX2_join 72 = .ok (.aload_n 1, 1) := by decide +kernel
theorem dX2_join_73 : decode cX2_join 73 = .ok (.iload 5, 2) := by decide +kernel
theorem dX2_join_75 : decode cX2_join 75 = .ok (.invokevirtual 70, 3) := by decide +kernel
theorem dX2_join_78 : decode cX2_join 78 = .ok (.ifCond .eq 31, 3) := by decide +kernel
theorem dX2_join_81 : decode cX2_join 81 = .ok (.aload_n 0, 1) := by decide +kernel
theorem dX2_join_82 : decode cX2_join 82 = .ok (.getfield 9, 3) := by decide +kernel
theorem dX2_join_85 : decode cX2_join 85 = .ok (.iload 4, 2) := by decide +kernel
theorem dX2_join_87 : decode cX2_join 87 = .ok (.dup2, 1) := by decide +kernel
theorem dX2_join_88 : decode cX2_join 88 = .ok (.iaload, 1) := by decide +kernel
theorem dX2_join_89 : decode cX2_join 89 = .ok (.iconst 1, 1) := by decide +kernel
theorem dX2_join_90 : decode cX2_join 90 = .ok (.iload 5, 2) := by decide +kernel
theorem dX2_join_92 : decode cX2_join 92 = .ok (.ishl, 1) := by decide +kernel
theorem dX2_join_93 : decode cX2_join 93 = .ok (.ior, 1) := by decide +kernel
theorem dX2_join_94 : decode cX2_join 94 = .ok (.iastore, 1) := by decide +kernel
theorem dX2_join_95 : decode cX2_join 95 = .ok (.aload_n 0, 1) := by decide +kernel
theorem dX2_join_96 : decode cX2_join 96 = .ok (.getfield 9, 3) := by decide +kernel
theorem dX2_join_99 : decode cX2_join 99 = .ok (.iload 5, 2) := by decide +kernel
theorem dX2_join_101 : decode cX2_join 101 = .ok (.dup2, 1) := by decide +kernel
theorem dX2_join_102 : decode cX2_join 102 = .ok (.iaload, 1) := by decide +kernel
theorem dX2_join_103 : decode cX2_join 103 = .ok (.iconst 1, 1) := by decide +kernel
theorem dX2_join_104 : decode cX2_join 104 = .ok (.iload 4, 2) := by decide +kernel
theorem dX2_join_106 : decode cX2_join 106 = .ok (.ishl, 1) := by decide +kernel
theorem dX2_join_107 : decode cX2_join 107 = .ok (.ior, 1) := by decide +kernel
theorem dX2_join_108 : decode cX2_join 108 = .ok (.iastore, 1) := by decide +kernel
theorem dX2_join_109 : decode cX2_join 109 = .ok (.iinc 3 1, 3) := by decide +kernel
theorem dX2_join_112 : decode cX2_join 112 = .ok (.goto (-81), 3) := by decide +kernel
theorem dX2_join_115 : decode cX2_join 115 = .ok (.return_, 1) := by decide +kernel
theorem dX2_around_0 : decode cX2_around 0 = .ok (.iconst 0, 1) := by decide +kernel
theorem dX2_around_1 : decode cX2_around 1 = .ok (.istore_n 2, 1) := by decide +kernel
theorem dX2_around_2 : decode cX2_around 2 = .ok (.iconst 0, 1) := by decide +kernel
theorem dX2_around_3 : decode cX2_around 3 = .ok (.istore_n 3, 1) := by decide +kernel
theorem dX2_around_4 : decode cX2_around 4 = .ok (.iload_n 3, 1) := by decide +kernel
theorem dX2_around_5 : decode cX2_around 5 = .ok (.aload_n 0, 1) := by decide +kernel
theorem dX2_around_6 : decode cX2_around 6 = .ok (.getfield 40, 3) := by decide +kernel
theorem dX2_around_9 : decode cX2_around 9 = .ok (.if_icmp .ge 26, 3) := by decide +kernel
theorem dX2_around_12 : decode cX2_around 12 = .ok (.iload_n 1, 1) := by decide +kernel
theorem dX2_around_13 : decode cX2_around 13 = .ok (.iload_n 3, 1) := by decide +kernel
theorem dX2_around_14 : decode cX2_around 14 = .ok (.ishr, 1) := by decide +kernel
theorem dX2_around_15 : decode cX2_around 15 = .ok (.iconst 1, 1) := by decide +kernel
theorem dX2_around_16 : decode cX2_around 16 = .ok (.iand, 1) := by decide +kernel
theorem dX2_around_17 : decode cX2_around 17 = .ok (.ifCond .eq 12, 3) := by decide +kernel
theorem dX2_around_20 : decode cX2_around 20 = .ok (.iload_n 2, 1) := by decide +kernel
theorem dX2_around_21 : decode cX2_around 21 = .ok (.aload_n 0, 1) := by decide +kernel
theorem dX2_around_22 : decode cX2_around 22 = .ok (.getfield 9, 3) := by decide +kernel
theorem dX2_around_25 : decode cX2_around 25 = .ok (.iload_n 3, 1) := by decide +kernel
theorem dX2_around_26 : decode cX2_around 26 = .ok (.iaload, 1) := by decide +kernel
theorem dX2_around_27 : decode cX2_around 27 = .ok (.ior, 1) := by decide +kernel
theorem dX2_around_28 : decode cX2_around 28 = .ok (.istore_n 2, 1) := by decide +kernel
theorem dX2_around_29 : decode cX2_around 29 = .ok (.iinc 3 1, 3) := by decide +kernel
theorem dX2_around_32 : decode cX2_around 32 = .ok (.goto (-28), 3) := by decide +kernel
theorem dX2_around_35 : decode cX2_around 35 = .ok (.iload_n 2, 1) := by decide +kernel
theorem dX2_around_36 : decode cX2_around 36 = .ok (.ireturn, 1) := by decide +kernel
theorem dX2_within_0 : decode cX2_within 0 = .ok (.iconst 1, 1) := by decide +kernel
theorem dX2_within_1 : decode cX2_within 1 = .ok (.iload_n 1, 1) := by decide +kernel
theorem dX2_within_2 : decode cX2_within 2 = .ok (.ishl, 1) := by decide +kernel
theorem dX2_within_3 : decode cX2_within 3 = .ok (.istore_n 3, 1) := by decide +kernel
theorem dX2_within_4 : decode cX2_within 4 = .ok (.iconst 0, 1) := by decide +kernel
theorem dX2_within_5 : decode cX2_within 5 = .ok (.istore 4, 2) := by decide +kernel
theorem dX2_within_7 : decode cX2_within 7 = .ok (.iload 4, 2) := by decide +kernel
theorem dX2_within_9 : decode cX2_within 9 = .ok (.iload_n 2, 1) := by decide +kernel
theorem dX2_within_10 : decode cX2_within 10 = .ok (.if_icmp .ge 17, 3) := by decide +kernel
theorem dX2_within_13 : decode cX2_within 13 = .ok (.iload_n 3, 1) := by decide +kernel
theorem dX2_within_14 : decode cX2_within 14 = .ok (.aload_n 0, 1) := by decide +kernel
theorem dX2_within_15 : decode cX2_within 15 = .ok (.iload_n 3, 1) := by decide +kernel
theorem dX2_within_16 : decode cX2_within 16 = .ok (.invokevirtual 51, 3) := by decide +kernel
theorem dX2_within_19 : decode cX2_within 19 = .ok (.ior, 1) := by decide +kernel
theorem dX2_within_20 : decode cX2_within 20 = .ok (.istore_n 3, 1) := by decide +kernel
theorem dX2_within_21 : decode cX2_within 21 = .ok (.iinc 4 1, 3) := by decide +kernel
theorem dX2_within_24 : decode cX2_within 24 = .ok (.goto (-17), 3) := by decide +kernel
theorem dX2_within_27 : decode cX2_within 27 = .ok (.iload_n 3, 1) := by decide +kernel
theorem dX2_within_28 : decode cX2_within 28 = .ok (.ireturn, 1) := by decide +kernel
theorem dX2_hangingTogether_0 : decode cX2_hangingTogether 0 = .ok (.aload_n 0, 1) := by decide +kernel
theorem dX2_hangingTogether_1 : decode cX2_hangingTogether 1 = .ok (.iload_n 1, 1) := by decide +kernel
theorem dX2_hangingTogether_2 : decode cX2_hangingTogether 2 = .ok (.bipush 8, 2) := by decide +kernel
theorem dX2_hangingTogether_4 : decode cX2_hangingTogether 4 = .ok (.invokevirtual 74, 3) := by decide +kernel
theorem dX2_hangingTogether_7 : decode cX2_hangingTogether 7 = .ok (.ireturn, 1) := by decide +kernel
theorem dX2_movesFrom_0 : decode cX2_movesFrom 0 = .ok (.iload_n 1, 1) := by decide +kernel
theorem dX2_movesFrom_1 : decode cX2_movesFrom 1 = .ok (.ifCond .lt 20, 3) := by decide +kernel
theorem dX2_movesFrom_4 : decode cX2_movesFrom 4 = .ok (.iload_n 1, 1) := by decide +kernel
theorem dX2_movesFrom_5 : decode cX2_movesFrom 5 = .ok (.aload_n 0, 1) := by decide +kernel
theorem dX2_movesFrom_6 : decode cX2_movesFrom 6 = .ok (.getfield 40, 3) := by decide +kernel
theorem dX2_movesFrom_9 : decode cX2_movesFrom 9 = .ok (.if_icmp .ge 12, 3) := by decide +kernel
theorem dX2_movesFrom_12 : decode cX2_movesFrom 12 = .ok (.aload_n 0, 1) := by decide +kernel
theorem dX2_movesFrom_13 : decode cX2_movesFrom 13 = .ok (.getfield 15, 3) := by decide +kernel
theorem dX2_movesFrom_16 : decode cX2_movesFrom 16 = .ok (.iload_n 1, 1) := by decide +kernel
theorem dX2_movesFrom_17 : decode cX2_movesFrom 17 = .ok (.iaload, 1) := by decide +kernel
theorem dX2_movesFrom_18 : decode cX2_movesFrom 18 = .ok (.goto 4, 3) := by decide +kernel
theorem dX2_movesFrom_21 : decode cX2_movesFrom 21 = .ok (.iconst (-1), 1) := by decide +kernel
theorem dX2_movesFrom_22 : decode cX2_movesFrom 22 = .ok (.ireturn, 1) := by decide +kernel
theorem dX2_moversFrom_0 : decode cX2_moversFrom 0 = .ok (.iload_n 1, 1) := by decide +kernel
theorem dX2_moversFrom_1 : decode cX2_moversFrom 1 = .ok (.ifCond .lt 20, 3) := by decide +kernel
theorem dX2_moversFrom_4 : decode cX2_moversFrom 4 = .ok (.iload_n 1, 1) := by decide +kernel
theorem dX2_moversFrom_5 : decode cX2_moversFrom 5 = .ok (.aload_n 0, 1) := by decide +kernel
theorem dX2_moversFrom_6 : decode cX2_moversFrom 6 = .ok (.getfield 40, 3) := by decide +kernel
theorem dX2_moversFrom_9 : decode cX2_moversFrom 9 = .ok (.if_icmp .ge 12, 3) := by decide +kernel
theorem dX2_moversFrom_12 : decode cX2_moversFrom 12 = .ok (.aload_n 0, 1) := by decide +kernel
theorem dX2_moversFrom_13 : decode cX2_moversFrom 13 = .ok (.getfield 21, 3) := by decide +kernel
theorem dX2_moversFrom_16 : decode cX2_moversFrom 16 = .ok (.iload_n 1, 1) := by decide +kernel
theorem dX2_moversFrom_17 : decode cX2_moversFrom 17 = .ok (.iaload, 1) := by decide +kernel
theorem dX2_moversFrom_18 : decode cX2_moversFrom 18 = .ok (.goto 4, 3) := by decide +kernel
theorem dX2_moversFrom_21 : decode cX2_moversFrom 21 = .ok (.iconst 0, 1) := by decide +kernel
theorem dX2_moversFrom_22 : decode cX2_moversFrom 22 = .ok (.ireturn, 1) := by decide +kernel
theorem dX2_tableOf_0 : decode cX2_tableOf 0 = .ok (.iload_n 2, 1) := by decide +kernel
theorem dX2_tableOf_1 : decode cX2_tableOf 1 = .ok (.ifCond .lt 12, 3) := by decide +kernel
theorem dX2_tableOf_4 : decode cX2_tableOf 4 = .ok (.iload_n 2, 1) := by decide +kernel
theorem dX2_tableOf_5 : decode cX2_tableOf 5 = .ok (.aload_n 0, 1) := by decide +kernel
theorem dX2_tableOf_6 : decode cX2_tableOf 6 = .ok (.iload_n 1, 1) := by decide +kernel
theorem dX2_tableOf_7 : decode cX2_tableOf 7 = .ok (.invokevirtual 77, 3) := by decide +kernel
theorem dX2_tableOf_10 : decode cX2_tableOf 10 = .ok (.if_icmp .le 5, 3) := by decide +kernel
theorem dX2_tableOf_13 : decode cX2_tableOf 13 = .ok (.iconst (-1), 1) := by decide +kernel
theorem dX2_tableOf_14 : decode cX2_tableOf 14 = .ok (.ireturn, 1) := by decide +kernel
theorem dX2_tableOf_15 : decode cX2_tableOf 15 = .ok (.iload_n 1, 1) := by decide +kernel
theorem dX2_tableOf_16 : decode cX2_tableOf 16 = .ok (.istore_n 3, 1) := by decide +kernel
theorem dX2_tableOf_17 : decode cX2_tableOf 17 = .ok (.iconst 0, 1) := by decide +kernel
theorem dX2_tableOf_18 : decode cX2_tableOf 18 = .ok (.istore 4, 2) := by decide +kernel
theorem dX2_tableOf_20 : decode cX2_tableOf 20 = .ok (.iload 4, 2) := by decide +kernel
theorem dX2_tableOf_22 : decode cX2_tableOf 22 = .ok (.iload_n 2, 1) := by decide +kernel
theorem dX2_tableOf_23 : decode cX2_tableOf 23 = .ok (.if_icmp .ge 28, 3) := by decide +kernel
theorem dX2_tableOf_26 : decode cX2_tableOf 26 = .ok (.iload_n 3, 1) := by decide +kernel
theorem dX2_tableOf_27 : decode cX2_tableOf 27 = .ok (.ifCond .lt 24, 3) := by decide +kernel
theorem dX2_tableOf_30 : decode cX2_tableOf 30 = .ok (.iload_n 3, 1) := by decide +kernel
theorem dX2_tableOf_31 : decode cX2_tableOf 31 = .ok (.aload_n 0, 1) := by decide +kernel
theorem dX2_tableOf_32 : decode cX2_tableOf 32 = .ok (.getfield 40, 3) := by decide +kernel
theorem dX2_tableOf_35 : decode cX2_tableOf 35 = .ok (.if_icmp .ge 16, 3) := by decide +kernel
theorem dX2_tableOf_38 : decode cX2_tableOf 38 = .ok (.aload_n 0, 1) := by decide +kernel
theorem dX2_tableOf_39 : decode cX2_tableOf 39 = .ok (.getfield 18, 3) := by decide +kernel
theorem dX2_tableOf_42 : decode cX2_tableOf 42 = .ok (.iload_n 3, 1) := by decide +kernel
theorem dX2_tableOf_43 : decode cX2_tableOf 43 = .ok (.iaload, 1) := by decide +kernel
theorem dX2_tableOf_44 : decode cX2_tableOf 44 = .ok (.istore_n 3, 1) := by decide +kernel
theorem dX2_tableOf_45 : decode cX2_tableOf 45 = .ok (.iinc 4 1, 3) := by decide +kernel
theorem dX2_tableOf_48 : decode cX2_tableOf 48 = .ok (.goto (-28), 3) := by decide +kernel
theorem dX2_tableOf_51 : decode cX2_tableOf 51 = .ok (.iload_n 3, 1) := by decide +kernel
theorem dX2_tableOf_52 : decode cX2_tableOf 52 = .ok (.ireturn, 1) := by decide +kernel
theorem dX2_withoutChain_0 : decode cX2_withoutChain 0 = .ok (.iconst 0, 1) := by decide +kernel
theorem dX2_withoutChain_1 : decode cX2_withoutChain 1 = .ok (.istore_n 1, 1) := by decide +kernel
theorem dX2_withoutChain_2 : decode cX2_withoutChain 2 = .ok (.iconst 0, 1) := by decide +kernel
theorem dX2_withoutChain_3 : decode cX2_withoutChain 3 = .ok (.istore_n 2, 1) := by decide +kernel
theorem dX2_withoutChain_4 : decode cX2_withoutChain 4 = .ok (.iload_n 2, 1) := by decide +kernel
theorem dX2_withoutChain_5 : decode cX2_withoutChain 5 = .ok (.aload_n 0, 1) := by decide +kernel
theorem dX2_withoutChain_6 : decode cX2_withoutChain 6 = .ok (.getfield 40, 3) := by decide +kernel
theorem dX2_withoutChain_9 : decode cX2_withoutChain 9 = .ok (.if_icmp .ge 25, 3) := by decide +kernel
theorem dX2_withoutChain_12 : decode cX2_withoutChain 12 = .ok (.aload_n 0, 1) := by decide +kernel
theorem dX2_withoutChain_13 : decode cX2_withoutChain 13 = .ok (.getfield 15, 3) := by decide +kernel
theorem dX2_withoutChain_16 : decode cX2_withoutChain 16 = .ok (.iload_n 2, 1) := by decide +kernel
theorem dX2_withoutChain_17 : decode cX2_withoutChain 17 = .ok (.iaload, 1) := by decide +kernel
theorem dX2_withoutChain_18 : decode cX2_withoutChain 18 = .ok (.iconst (-1), 1) := by decide +kernel
theorem dX2_withoutChain_19 : decode cX2_withoutChain 19 = .ok (.if_icmp .ne 9, 3) := by decide +kernel
theorem dX2_withoutChain_22 : decode cX2_withoutChain 22 = .ok (.iload_n 1, 1) := by decide +kernel
theorem dX2_withoutChain_23 : decode cX2_withoutChain 23 = .ok (.iconst 1, 1) := by decide +kernel
theorem dX2_withoutChain_24 : decode cX2_withoutChain 24 = .ok (.iload_n 2, 1) := by decide +kernel
theorem dX2_withoutChain_25 : decode cX2_withoutChain 25 = .ok (.ishl, 1) := by decide +kernel
theorem dX2_withoutChain_26 : decode cX2_withoutChain 26 = .ok (.ior, 1) := by decide +kernel
theorem dX2_withoutChain_27 : decode cX2_withoutChain 27 = .ok (.istore_n 1, 1) := by decide +kernel
theorem dX2_withoutChain_28 : decode cX2_withoutChain 28 = .ok (.iinc 2 1, 3) := by decide +kernel
theorem dX2_withoutChain_31 : decode cX2_withoutChain 31 = .ok (.goto (-27), 3) := by decide +kernel
theorem dX2_withoutChain_34 : decode cX2_withoutChain 34 = .ok (.iload_n 1, 1) := by decide +kernel
theorem dX2_withoutChain_35 : decode cX2_withoutChain 35 = .ok (.ireturn, 1) := by decide +kernel
theorem dX2_farthest_0 : decode cX2_farthest 0 = .ok (.iconst (-1), 1) := by decide +kernel
theorem dX2_farthest_1 : decode cX2_farthest 1 = .ok (.istore_n 1, 1) := by decide +kernel
theorem dX2_farthest_2 : decode cX2_farthest 2 = .ok (.iconst 0, 1) := by decide +kernel
theorem dX2_farthest_3 : decode cX2_farthest 3 = .ok (.istore_n 2, 1) := by decide +kernel
theorem dX2_farthest_4 : decode cX2_farthest 4 = .ok (.iload_n 2, 1) := by decide +kernel
theorem dX2_farthest_5 : decode cX2_farthest 5 = .ok (.aload_n 0, 1) := by decide +kernel
theorem dX2_farthest_6 : decode cX2_farthest 6 = .ok (.getfield 40, 3) := by decide +kernel
theorem dX2_farthest_9 : decode cX2_farthest 9 = .ok (.if_icmp .ge 37, 3) := by decide +kernel
theorem dX2_farthest_12 : decode cX2_farthest 12 = .ok (.aload_n 0, 1) := by decide +kernel
theorem dX2_farthest_13 : decode cX2_farthest 13 = .ok (.getfield 15, 3) := by decide +kernel
theorem dX2_farthest_16 : decode cX2_farthest 16 = .ok (.iload_n 2, 1) := by decide +kernel
theorem dX2_farthest_17 : decode cX2_farthest 17 = .ok (.iaload, 1) := by decide +kernel
theorem dX2_farthest_18 : decode cX2_farthest 18 = .ok (.iconst (-1), 1) := by decide +kernel
theorem dX2_farthest_19 : decode cX2_farthest 19 = .ok (.if_icmp .ne 5, 3) := by decide +kernel
theorem dX2_farthest_22 : decode cX2_farthest 22 = .ok (.iload_n 2, 1) := by decide +kernel
theorem dX2_farthest_23 : decode cX2_farthest 23 = .ok (.ireturn, 1) := by decide +kernel
theorem dX2_farthest_24 : decode cX2_farthest 24 = .ok (.aload_n 0, 1) := by decide +kernel
theorem dX2_farthest_25 : decode cX2_farthest 25 = .ok (.getfield 15, 3) := by decide +kernel
theorem dX2_farthest_28 : decode cX2_farthest 28 = .ok (.iload_n 2, 1) := by decide +kernel
theorem dX2_farthest_29 : decode cX2_farthest 29 = .ok (.iaload, 1) := by decide +kernel
theorem dX2_farthest_30 : decode cX2_farthest 30 = .ok (.aload_n 0, 1) := by decide +kernel
theorem dX2_farthest_31 : decode cX2_farthest 31 = .ok (.iload_n 1, 1) := by decide +kernel
theorem dX2_farthest_32 : decode cX2_farthest 32 = .ok (.invokevirtual 77, 3) := by decide +kernel
theorem dX2_farthest_35 : decode cX2_farthest 35 = .ok (.if_icmp .le 5, 3) := by decide +kernel
theorem dX2_farthest_38 : decode cX2_farthest 38 = .ok (.iload_n 2, 1) := by decide +kernel
theorem dX2_farthest_39 : decode cX2_farthest 39 = .ok (.istore_n 1, 1) := by decide +kernel
theorem dX2_farthest_40 : decode cX2_farthest 40 = .ok (.iinc 2 1, 3) := by decide +kernel
theorem dX2_farthest_43 : decode cX2_farthest 43 = .ok (.goto (-39), 3) := by decide +kernel
theorem dX2_farthest_46 : decode cX2_farthest 46 = .ok (.iload_n 1, 1) := by decide +kernel
theorem dX2_farthest_47 : decode cX2_farthest 47 = .ok (.ireturn, 1) := by decide +kernel
theorem dX3_init_0 : decode cX3_init 0 = .ok (.aload_n 0, 1) := by decide +kernel
theorem dX3_init_1 : decode cX3_init 1 = .ok (.invokespecial 1, 3) := by decide +kernel
theorem dX3_init_4 : decode cX3_init 4 = .ok (.return_, 1) := by decide +kernel
theorem dX3_draw_0 : decode cX3_draw 0 = .ok (.aload_n 0, 1) := by decide +kernel
theorem dX3_draw_1 : decode cX3_draw 1 = .ok (.aload_n 0, 1) := by decide +kernel
theorem dX3_draw_2 : decode cX3_draw 2 = .ok (.getfield 7, 3) := by decide +kernel
theorem dX3_draw_5 : decode cX3_draw 5 = .ok (.i2l, 1) := by decide +kernel
theorem dX3_draw_6 : decode cX3_draw 6 = .ok (.ldc2_w 13, 3) := by decide +kernel
theorem dX3_draw_9 : decode cX3_draw 9 = .ok (.lmul, 1) := by decide +kernel
theorem dX3_draw_10 : decode cX3_draw 10 = .ok (.ldc2_w 15, 3) := by decide +kernel
theorem dX3_draw_13 : decode cX3_draw 13 = .ok (.ladd, 1) := by decide +kernel
theorem dX3_draw_14 : decode cX3_draw 14 = .ok (.ldc2_w 17, 3) := by decide +kernel
theorem dX3_draw_17 : decode cX3_draw 17 = .ok (.land, 1) := by decide +kernel
theorem dX3_draw_18 : decode cX3_draw 18 = .ok (.l2i, 1) := by decide +kernel
theorem dX3_draw_19 : decode cX3_draw 19 = .ok (.putfield 7, 3) := by decide +kernel
theorem dX3_draw_22 : decode cX3_draw 22 = .ok (.iload_n 1, 1) := by decide +kernel
theorem dX3_draw_23 : decode cX3_draw 23 = .ok (.ifCond .le 15, 3) := by decide +kernel
theorem dX3_draw_26 : decode cX3_draw 26 = .ok (.aload_n 0, 1) := by decide +kernel
theorem dX3_draw_27 : decode cX3_draw 27 = .ok (.getfield 7, 3) := by decide +kernel
theorem dX3_draw_30 : decode cX3_draw 30 = .ok (.ldc 19, 2) := by decide +kernel
theorem dX3_draw_32 : decode cX3_draw 32 = .ok (.idiv, 1) := by decide +kernel
theorem dX3_draw_33 : decode cX3_draw 33 = .ok (.iload_n 1, 1) := by decide +kernel
theorem dX3_draw_34 : decode cX3_draw 34 = .ok (.irem, 1) := by decide +kernel
theorem dX3_draw_35 : decode cX3_draw 35 = .ok (.goto 4, 3) := by decide +kernel
theorem dX3_draw_38 : decode cX3_draw 38 = .ok (.iconst 0, 1) := by decide +kernel
theorem dX3_draw_39 : decode cX3_draw 39 = .ok (.ireturn, 1) := by decide +kernel
theorem dX4_init_0 : decode cX4_init 0 = .ok (.aload_n 0, 1) := by decide +kernel
theorem dX4_init_1 : decode cX4_init 1 = .ok (.invokespecial 3, 3) := by decide +kernel
theorem dX4_init_4 : decode cX4_init 4 = .ok (.aload_n 0, 1) := by decide +kernel
theorem dX4_init_5 : decode cX4_init 5 = .ok (.bipush 20, 2) := by decide +kernel
theorem dX4_init_7 : decode cX4_init 7 = .ok (.anewarray 9, 3) := by decide +kernel
theorem dX4_init_10 : decode cX4_init 10 = .ok (.putfield 11, 3) := by decide +kernel
theorem dX4_init_13 : decode cX4_init 13 = .ok (.iconst 0, 1) := by decide +kernel
theorem dX4_init_14 : decode cX4_init 14 = .ok (.istore_n 1, 1) := by decide +kernel
theorem dX4_init_15 : decode cX4_init 15 = .ok (.iload_n 1, 1) := by decide +kernel
theorem dX4_init_16 : decode cX4_init 16 = .ok (.bipush 20, 2) := by decide +kernel
theorem dX4_init_18 : decode cX4_init 18 = .ok (.if_icmp .ge 22, 3) := by decide +kernel
theorem dX4_init_21 : decode cX4_init 21 = .ok (.aload_n 0, 1) := by decide +kernel
theorem dX4_init_22 : decode cX4_init 22 = .ok (.getfield 11, 3) := by decide +kernel
theorem dX4_init_25 : decode cX4_init 25 = .ok (.iload_n 1, 1) := by decide +kernel
theorem dX4_init_26 : decode cX4_init 26 = .ok (.new 9, 3) := by decide +kernel
theorem dX4_init_29 : decode cX4_init 29 = .ok (.dup, 1) := by decide +kernel
theorem dX4_init_30 : decode cX4_init 30 = .ok (.invokespecial 17, 3) := by decide +kernel
theorem dX4_init_33 : decode cX4_init 33 = .ok (.aastore, 1) := by decide +kernel
theorem dX4_init_34 : decode cX4_init 34 = .ok (.iinc 1 1, 3) := by decide +kernel
theorem dX4_init_37 : decode cX4_init 37 = .ok (.goto (-22), 3) := by decide +kernel
theorem dX4_init_40 : decode cX4_init 40 = .ok (.return_, 1) := by decide +kernel
theorem dX4_forget_0 : decode cX4_forget 0 = .ok (.aload_n 0, 1) := by decide +kernel
theorem dX4_forget_1 : decode cX4_forget 1 = .ok (.iconst 0, 1) := by decide +kernel
theorem dX4_forget_2 : decode cX4_forget 2 = .ok (.putfield 18, 3) := by decide +kernel
theorem dX4_forget_5 : decode cX4_forget 5 = .ok (.return_, 1) := by decide +kernel
theorem dX4_push_0 : decode cX4_push 0 = .ok (.aload_n 0, 1) := by decide +kernel
theorem dX4_push_1 : decode cX4_push 1 = .ok (.getfield 22, 3) := by decide +kernel
theorem dX4_push_4 : decode cX4_push 4 = .ok (.ifCond .lt 12, 3) := by decide +kernel
theorem dX4_push_7 : decode cX4_push 7 = .ok (.aload_n 0, 1) := by decide +kernel
theorem dX4_push_8 : decode cX4_push 8 = .ok (.getfield 22, 3) := by decide +kernel
theorem dX4_push_11 : decode cX4_push 11 = .ok (.bipush 20, 2) := by decide +kernel
theorem dX4_push_13 : decode cX4_push 13 = .ok (.if_icmp .lt 4, 3) := by decide +kernel
theorem dX4_push_16 : decode cX4_push 16 = .ok (.return_, 1) := by decide +kernel
theorem dX4_push_17 : decode cX4_push 17 = .ok (.aload_n 0, 1) := by decide +kernel
theorem dX4_push_18 : decode cX4_push 18 = .ok (.getfield 11, 3) := by decide +kernel
theorem dX4_push_21 : decode cX4_push 21 = .ok (.aload_n 0, 1) := by decide +kernel
theorem dX4_push_22 : decode cX4_push 22 = .ok (.getfield 22, 3) := by decide +kernel
theorem dX4_push_25 : decode cX4_push 25 = .ok (.aaload, 1) := by decide +kernel
theorem dX4_push_26 : decode cX4_push 26 = .ok (.aload_n 1, 1) := by decide +kernel
theorem dX4_push_27 : decode cX4_push 27 = .ok (.invokevirtual 25, 3) := by decide +kernel
theorem dX4_push_30 : decode cX4_push 30 = .ok (.aload_n 0, 1) := by decide +kernel
theorem dX4_push_31 : decode cX4_push 31 = .ok (.aload_n 0, 1) := by decide +kernel
theorem dX4_push_32 : decode cX4_push 32 = .ok (.getfield 22, 3) := by decide +kernel
theorem dX4_push_35 : decode cX4_push 35 = .ok (.iconst 1, 1) := by decide +kernel
theorem dX4_push_36 : decode cX4_push 36 = .ok (.iadd, 1) := by decide +kernel
theorem dX4_push_37 : decode cX4_push 37 = .ok (.bipush 20, 2) := by decide +kernel
theorem dX4_push_39 : decode cX4_push 39 = .ok (.irem, 1) := by decide +kernel
theorem dX4_push_40 : decode cX4_push 40 = .ok (.putfield 22, 3) := by decide +kernel
theorem dX4_push_43 : decode cX4_push 43 = .ok (.aload_n 0, 1) := by decide +kernel
theorem dX4_push_44 : decode cX4_push 44 = .ok (.bipush 20, 2) := by decide +kernel
theorem dX4_push_46 : decode cX4_push 46 = .ok (.aload_n 0, 1) := by decide +kernel
theorem dX4_push_47 : decode cX4_push 47 = .ok (.getfield 18, 3) := by decide +kernel
theorem dX4_push_50 : decode cX4_push 50 = .ok (.iconst 1, 1) := by decide +kernel
theorem dX4_push_51 : decode cX4_push 51 = .ok (.iadd, 1) := by decide +kernel
theorem dX4_push_52 : decode cX4_push 52 = .ok (.invokestatic 29, 3) := by decide +kernel
theorem dX4_push_55 : decode cX4_push 55 = .ok (.putfield 18, 3) := by decide +kernel
theorem dX4_push_58 : decode cX4_push 58 = .ok (.return_, 1) := by decide +kernel
theorem dX4_pop_0 : decode cX4_pop 0 = .ok (.aload_n 0, 1) := by decide +kernel
theorem dX4_pop_1 : decode cX4_pop 1 = .ok (.getfield 22, 3) := by decide +kernel
theorem dX4_pop_4 : decode cX4_pop 4 = .ok (.bipush 20, 2) := by decide +kernel
theorem dX4_pop_6 : decode cX4_pop 6 = .ok (.iadd, 1) := by decide +kernel
theorem dX4_pop_7 : decode cX4_pop 7 = .ok (.iconst 1, 1) := by decide +kernel
theorem dX4_pop_8 : decode cX4_pop 8 = .ok (.isub, 1) := by decide +kernel
theorem dX4_pop_9 : decode cX4_pop 9 = .ok (.bipush 20, 2) := by decide +kernel
theorem dX4_pop_11 : decode cX4_pop 11 = .ok (.irem, 1) := by decide +kernel
theorem dX4_pop_12 : decode cX4_pop 12 = .ok (.istore_n 2, 1) := by decide +kernel
theorem dX4_pop_13 : decode cX4_pop 13 = .ok (.aload_n 0, 1) := by decide +kernel
theorem dX4_pop_14 : decode cX4_pop 14 = .ok (.getfield 18, 3) := by decide +kernel
theorem dX4_pop_17 : decode cX4_pop 17 = .ok (.ifCond .le 13, 3) := by decide +kernel
theorem dX4_pop_20 : decode cX4_pop 20 = .ok (.iload_n 2, 1) := by decide +kernel
theorem dX4_pop_21 : decode cX4_pop 21 = .ok (.ifCond .lt 9, 3) := by decide +kernel
theorem dX4_pop_24 : decode cX4_pop 24 = .ok (.iload_n 2, 1) := by decide +kernel
theorem dX4_pop_25 : decode cX4_pop 25 = .ok (.bipush 20, 2) := by decide +kernel
theorem dX4_pop_27 : decode cX4_pop 27 = .ok (.if_icmp .lt 5, 3) := by decide +kernel
theorem dX4_pop_30 : decode cX4_pop 30 = .ok (.iconst 0, 1) := by decide +kernel
theorem dX4_pop_31 : decode cX4_pop 31 = .ok (.ireturn, 1) := by decide +kernel
theorem dX4_pop_32 : decode cX4_pop 32 = .ok (.aload_n 1, 1) := by decide +kernel
theorem dX4_pop_33 : decode cX4_pop 33 = .ok (.aload_n 0, 1) := by decide +kernel
theorem dX4_pop_34 : decode cX4_pop 34 = .ok (.getfield 11, 3) := by decide +kernel
theorem dX4_pop_37 : decode cX4_pop 37 = .ok (.iload_n 2, 1) := by decide +kernel
theorem dX4_pop_38 : decode cX4_pop 38 = .ok (.aaload, 1) := by decide +kernel
theorem dX4_pop_39 : decode cX4_pop 39 = .ok (.invokevirtual 25, 3) := by decide +kernel
theorem dX4_pop_42 : decode cX4_pop 42 = .ok (.aload_n 0, 1) := by decide +kernel
theorem dX4_pop_43 : decode cX4_pop 43 = .ok (.iload_n 2, 1) := by decide +kernel
theorem dX4_pop_44 : decode cX4_pop 44 = .ok (.putfield 22, 3) := by decide +kernel
theorem dX4_pop_47 : decode cX4_pop 47 = .ok (.aload_n 0, 1) := by decide +kernel
theorem dX4_pop_48 : decode cX4_pop 48 = .ok (.dup, 1) := by decide +kernel
theorem dX4_pop_49 : decode cX4_pop 49 = .ok (.getfield 18, 3) := by decide +kernel
theorem dX4_pop_52 : decode cX4_pop 52 = .ok (.iconst 1, 1) := by decide +kernel
theorem dX4_pop_53 : decode cX4_pop 53 = .ok (.isub, 1) := by decide +kernel
theorem dX4_pop_54 : decode cX4_pop 54 = .ok (.putfield 18, 3) := by decide +kernel
theorem dX4_pop_57 : decode cX4_pop 57 = .ok (.iconst 1, 1) := by decide +kernel
theorem dX4_pop_58 : decode cX4_pop 58 = .ok (.ireturn, 1) := by decide +kernel
theorem dX5_init_0 : decode cX5_init 0 = .ok (.aload_n 0, 1) := by decide +kernel
theorem dX5_init_1 : decode cX5_init 1 = .ok (.invokespecial 3, 3) := by decide +kernel
theorem dX5_init_4 : decode cX5_init 4 = .ok (.aload_n 0, 1) := by decide +kernel
theorem dX5_init_5 : decode cX5_init 5 = .ok (.iconst 2, 1) := by decide +kernel
theorem dX5_init_6 : decode cX5_init 6 = .ok (.anewarray 9, 3) := by decide +kernel
theorem dX5_init_9 : decode cX5_init 9 = .ok (.putfield 11, 3) := by decide +kernel
theorem dX5_init_12 : decode cX5_init 12 = .ok (.aload_n 0, 1) := by decide +kernel
theorem dX5_init_13 : decode cX5_init 13 = .ok (.iconst 2, 1) := by decide +kernel
theorem dX5_init_14 : decode cX5_init 14 = .ok (.newarray .int, 2) := by decide +kernel
theorem dX5_init_16 : decode cX5_init 16 = .ok (.putfield 17, 3) := by decide +kernel
theorem dX5_init_19 : decode cX5_init 19 = .ok (.aload_n 0, 1) := by decide +kernel
theorem dX5_init_20 : decode cX5_init 20 = .ok (.iconst 2, 1) := by decide +kernel
theorem dX5_init_21 : decode cX5_init 21 = .ok (.newarray .boolean, 2) := by decide +kernel
theorem dX5_init_23 : decode cX5_init 23 = .ok (.putfield 21, 3) := by decide +kernel
theorem dX5_init_26 : decode cX5_init 26 = .ok (.iconst 0, 1) := by decide +kernel
theorem dX5_init_27 : decode cX5_init 27 = .ok (.istore_n 1, 1) := by decide +kernel
theorem dX5_init_28 : decode cX5_init 28 = .ok (.iload_n 1, 1) := by decide +kernel
theorem dX5_init_29 : decode cX5_init 29 = .ok (.iconst 2, 1) := by decide +kernel
theorem dX5_init_30 : decode cX5_init 30 = .ok (.if_icmp .ge 22, 3) := by decide +kernel
theorem dX5_init_33 : decode cX5_init 33 = .ok (.aload_n 0, 1) := by decide +kernel
theorem dX5_init_34 : decode cX5_init 34 = .ok (.getfield 11, 3) := by decide +kernel
theorem dX5_init_37 : decode cX5_init 37 = .ok (.iload_n 1, 1) := by decide +kernel
theorem dX5_init_38 : decode cX5_init 38 = .ok (.new 9, 3) := by decide +kernel
theorem dX5_init_41 : decode cX5_init 41 = .ok (.dup, 1) := by decide +kernel
theorem dX5_init_42 : decode cX5_init 42 = .ok (.invokespecial 25, 3) := by decide +kernel
theorem dX5_init_45 : decode cX5_init 45 = .ok (.aastore, 1) := by decide +kernel
theorem dX5_init_46 : decode cX5_init 46 = .ok (.iinc 1 1, 3) := by decide +kernel
theorem dX5_init_49 : decode cX5_init 49 = .ok (.goto (-21), 3) := by decide +kernel
theorem dX5_init_52 : decode cX5_init 52 = .ok (.return_, 1) := by decide +kernel
theorem dX5_has_0 : decode cX5_has 0 = .ok (.iload_n 1, 1) := by decide +kernel
theorem dX5_has_1 : decode cX5_has 1 = .ok (.ifCond .lt 12, 3) := by decide +kernel
theorem dX5_has_4 : decode cX5_has 4 = .ok (.iload_n 1, 1) := by decide +kernel
theorem dX5_has_5 : decode cX5_has 5 = .ok (.iconst 2, 1) := by decide +kernel
theorem dX5_has_6 : decode cX5_has 6 = .ok (.if_icmp .ge 7, 3) := by decide +kernel
theorem dX5_has_9 : decode cX5_has 9 = .ok (.iconst 1, 1) := by decide +kernel
theorem dX5_has_10 : decode cX5_has 10 = .ok (.goto 4, 3) := by decide +kernel
theorem dX5_has_13 : decode cX5_has 13 = .ok (.iconst 0, 1) := by decide +kernel
theorem dX5_has_14 : decode cX5_has 14 = .ok (.ireturn, 1) := by decide +kernel
theorem dX5_forget_0 : decode cX5_forget 0 = .ok (.iconst 0, 1) := by decide +kernel
theorem dX5_forget_1 : decode cX5_forget 1 = .ok (.istore_n 1, 1) := by decide +kernel
theorem dX5_forget_2 : decode cX5_forget 2 = .ok (.iload_n 1, 1) := by decide +kernel
theorem dX5_forget_3 : decode cX5_forget 3 = .ok (.iconst 2, 1) := by decide +kernel
theorem dX5_forget_4 : decode cX5_forget 4 = .ok (.if_icmp .ge 16, 3) := by decide +kernel
theorem dX5_forget_7 : decode cX5_forget 7 = .ok (.aload_n 0, 1) := by decide +kernel
theorem dX5_forget_8 : decode cX5_forget 8 = .ok (.getfield 21, 3) := by decide +kernel
theorem dX5_forget_11 : decode cX5_forget 11 = .ok (.iload_n 1, 1) := by decide +kernel
theorem dX5_forget_12 : decode cX5_forget 12 = .ok (.iconst 0, 1) := by decide +kernel
theorem dX5_forget_13 : decode cX5_forget 13 = .ok (.bastore, 1) := by decide +kernel
theorem dX5_forget_14 : decode cX5_forget 14 = .ok (.iinc 1 1, 3) := by decide +kernel
theorem dX5_forget_17 : decode cX5_forget 17 = .ok (.goto (-15), 3) := by decide +kernel
theorem dX5_forget_20 : decode cX5_forget 20 = .ok (.return_, 1) := by decide +kernel
theorem dX5_take_0 : decode cX5_take 0 = .ok (.aload_n 0, 1) := by decide +kernel
theorem dX5_take_1 : decode cX5_take 1 = .ok (.iload_n 1, 1) := by decide +kernel
theorem dX5_take_2 : decode cX5_take 2 = .ok (.invokevirtual 26, 3) := by decide +kernel
theorem dX5_take_5 : decode cX5_take 5 = .ok (.ifCond .eq 30, 3) := by decide +kernel
theorem dX5_take_8 : decode cX5_take 8 = .ok (.aload_n 0, 1) := by decide +kernel
theorem dX5_take_9 : decode cX5_take 9 = .ok (.getfield 11, 3) := by decide +kernel
theorem dX5_take_12 : decode cX5_take 12 = .ok (.iload_n 1, 1) := by decide +kernel
theorem dX5_take_13 : decode cX5_take 13 = .ok (.aaload, 1) := by decide +kernel
theorem dX5_take_14 : decode cX5_take 14 = .ok (.aload_n 2, 1) := by decide +kernel
theorem dX5_take_15 : decode cX5_take 15 = .ok (.invokevirtual 30, 3) := by decide +kernel
theorem dX5_take_18 : decode cX5_take 18 = .ok (.aload_n 0, 1) := by decide +kernel
theorem dX5_take_19 : decode cX5_take 19 = .ok (.getfield 17, 3) := by decide +kernel
theorem dX5_take_22 : decode cX5_take 22 = .ok (.iload_n 1, 1) := by decide +kernel
theorem dX5_take_23 : decode cX5_take 23 = .ok (.aload_n 3, 1) := by decide +kernel
theorem dX5_take_24 : decode cX5_take 24 = .ok (.getfield 34, 3) := by decide +kernel
theorem dX5_take_27 : decode cX5_take 27 = .ok (.iastore, 1) := by decide +kernel
theorem dX5_take_28 : decode cX5_take 28 = .ok (.aload_n 0, 1) := by decide +kernel
theorem dX5_take_29 : decode cX5_take 29 = .ok (.getfield 21, 3) := by decide +kernel
theorem dX5_take_32 : decode cX5_take 32 = .ok (.iload_n 1, 1) := by decide +kernel
theorem dX5_take_33 : decode cX5_take 33 = .ok (.iconst 1, 1) := by decide +kernel
theorem dX5_take_34 : decode cX5_take 34 = .ok (.bastore, 1) := by decide +kernel
theorem dX5_take_35 : decode cX5_take 35 = .ok (.return_, 1) := by decide +kernel
theorem dX5_give_0 : decode cX5_give 0 = .ok (.aload_n 0, 1) := by decide +kernel
theorem dX5_give_1 : decode cX5_give 1 = .ok (.iload_n 1, 1) := by decide +kernel
theorem dX5_give_2 : decode cX5_give 2 = .ok (.invokevirtual 26, 3) := by decide +kernel
theorem dX5_give_5 : decode cX5_give 5 = .ok (.ifCond .eq 12, 3) := by decide +kernel
theorem dX5_give_8 : decode cX5_give 8 = .ok (.aload_n 0, 1) := by decide +kernel
theorem dX5_give_9 : decode cX5_give 9 = .ok (.getfield 21, 3) := by decide +kernel
theorem dX5_give_12 : decode cX5_give 12 = .ok (.iload_n 1, 1) := by decide +kernel
theorem dX5_give_13 : decode cX5_give 13 = .ok (.baload, 1) := by decide +kernel
theorem dX5_give_14 : decode cX5_give 14 = .ok (.ifCond .ne 5, 3) := by decide +kernel
theorem dX5_give_17 : decode cX5_give 17 = .ok (.iconst 0, 1) := by decide +kernel
theorem dX5_give_18 : decode cX5_give 18 = .ok (.ireturn, 1) := by decide +kernel
theorem dX5_give_19 : decode cX5_give 19 = .ok (.aload_n 2, 1) := by decide +kernel
theorem dX5_give_20 : decode cX5_give 20 = .ok (.aload_n 0, 1) := by decide +kernel
theorem dX5_give_21 : decode cX5_give 21 = .ok (.getfield 11, 3) := by decide +kernel
theorem dX5_give_24 : decode cX5_give 24 = .ok (.iload_n 1, 1) := by decide +kernel
theorem dX5_give_25 : decode cX5_give 25 = .ok (.aaload, 1) := by decide +kernel
theorem dX5_give_26 : decode cX5_give 26 = .ok (.invokevirtual 30, 3) := by decide +kernel
theorem dX5_give_29 : decode cX5_give 29 = .ok (.aload_n 3, 1) := by decide +kernel
theorem dX5_give_30 : decode cX5_give 30 = .ok (.aload_n 0, 1) := by decide +kernel
theorem dX5_give_31 : decode cX5_give 31 = .ok (.getfield 17, 3) := by decide +kernel
theorem dX5_give_34 : decode cX5_give 34 = .ok (.iload_n 1, 1) := by decide +kernel
theorem dX5_give_35 : decode cX5_give 35 = .ok (.iaload, 1) := by decide +kernel
theorem dX5_give_36 : decode cX5_give 36 = .ok (.putfield 34, 3) := by decide +kernel
theorem dX5_give_39 : decode cX5_give 39 = .ok (.iconst 1, 1) := by decide +kernel
theorem dX5_give_40 : decode cX5_give 40 = .ok (.ireturn, 1) := by decide +kernel
theorem dX6_init_0 : decode cX6_init 0 = .ok (.aload_n 0, 1) := by decide +kernel
theorem dX6_init_1 : decode cX6_init 1 = .ok (.invokespecial 3, 3) := by decide +kernel
theorem dX6_init_4 : decode cX6_init 4 = .ok (.aload_n 0, 1) := by decide +kernel
theorem dX6_init_5 : decode cX6_init 5 = .ok (.new 9, 3) := by decide +kernel
theorem dX6_init_8 : decode cX6_init 8 = .ok (.dup, 1) := by decide +kernel
theorem dX6_init_9 : decode cX6_init 9 = .ok (.invokespecial 11, 3) := by decide +kernel
theorem dX6_init_12 : decode cX6_init 12 = .ok (.putfield 12, 3) := by decide +kernel
theorem dX6_init_15 : decode cX6_init 15 = .ok (.aload_n 0, 1) := by decide +kernel
theorem dX6_init_16 : decode cX6_init 16 = .ok (.sipush 240, 3) := by decide +kernel
theorem dX6_init_19 : decode cX6_init 19 = .ok (.newarray .char, 2) := by decide +kernel
theorem dX6_init_21 : decode cX6_init 21 = .ok (.putfield 18, 3) := by decide +kernel
theorem dX6_init_24 : decode cX6_init 24 = .ok (.aload_n 0, 1) := by decide +kernel
theorem dX6_init_25 : decode cX6_init 25 = .ok (.iconst (-1), 1) := by decide +kernel
theorem dX6_init_26 : decode cX6_init 26 = .ok (.putfield 22, 3) := by decide +kernel
theorem dX6_init_29 : decode cX6_init 29 = .ok (.return_, 1) := by decide +kernel
theorem dX6_add_0 : decode cX6_add 0 = .ok (.aload_n 0, 1) := by decide +kernel
theorem dX6_add_1 : decode cX6_add 1 = .ok (.getfield 26, 3) := by decide +kernel
theorem dX6_add_4 : decode cX6_add 4 = .ok (.ifCond .lt 13, 3) := by decide +kernel
theorem dX6_add_7 : decode cX6_add 7 = .ok (.aload_n 0, 1) := by decide +kernel
theorem dX6_add_8 : decode cX6_add 8 = .ok (.getfield 26, 3) := by decide +kernel
theorem dX6_add_11 : decode cX6_add 11 = .ok (.sipush 240, 3) := by decide +kernel
theorem dX6_add_14 : decode cX6_add 14 = .ok (.if_icmp .lt 5, 3) := by decide +kernel
theorem dX6_add_17 : decode cX6_add 17 = .ok (.iconst 0, 1) := by decide +kernel
theorem dX6_add_18 : decode cX6_add 18 = .ok (.ireturn, 1) := by decide +kernel
theorem dX6_add_19 : decode cX6_add 19 = .ok (.aload_n 0, 1) := by decide +kernel
theorem dX6_add_20 : decode cX6_add 20 = .ok (.getfield 18, 3) := by decide +kernel
theorem dX6_add_23 : decode cX6_add 23 = .ok (.aload_n 0, 1) := by decide +kernel
theorem dX6_add_24 : decode cX6_add 24 = .ok (.getfield 26, 3) := by decide +kernel
theorem dX6_add_27 : decode cX6_add 27 = .ok (.iload_n 1, 1) := by decide +kernel
theorem dX6_add_28 : decode cX6_add 28 = .ok (.i2c, 1) := by decide +kernel
theorem dX6_add_29 : decode cX6_add 29 = .ok (.castore, 1) := by decide +kernel
theorem dX6_add_30 : decode cX6_add 30 = .ok (.aload_n 0, 1) := by decide +kernel
theorem dX6_add_31 : decode cX6_add 31 = .ok (.dup, 1) := by decide +kernel
theorem dX6_add_32 : decode cX6_add 32 = .ok (.getfield 26, 3) := by decide +kernel
theorem dX6_add_35 : decode cX6_add 35 = .ok (.iconst 1, 1) := by decide +kernel
theorem dX6_add_36 : decode cX6_add 36 = .ok (.iadd, 1) := by decide +kernel
theorem dX6_add_37 : decode cX6_add 37 = .ok (.putfield 26, 3) := by decide +kernel
theorem dX6_add_40 : decode cX6_add 40 = .ok (.iconst 1, 1) := by decide +kernel
theorem dX6_add_41 : decode cX6_add 41 = .ok (.ireturn, 1) := by decide +kernel
theorem dX6_reads_0 : decode cX6_reads 0 = .ok (.aload_n 0, 1) := by decide +kernel
theorem dX6_reads_1 : decode cX6_reads 1 = .ok (.iconst 0, 1) := by decide +kernel
theorem dX6_reads_2 : decode cX6_reads 2 = .ok (.putfield 29, 3) := by decide +kernel
theorem dX6_reads_5 : decode cX6_reads 5 = .ok (.aload_n 0, 1) := by decide +kernel
theorem dX6_reads_6 : decode cX6_reads 6 = .ok (.iconst 0, 1) := by decide +kernel
theorem dX6_reads_7 : decode cX6_reads 7 = .ok (.putfield 32, 3) := by decide +kernel
theorem dX6_reads_10 : decode cX6_reads 10 = .ok (.aload_n 0, 1) := by decide +kernel
theorem dX6_reads_11 : decode cX6_reads 11 = .ok (.iconst 0, 1) := by decide +kernel
theorem dX6_reads_12 : decode cX6_reads 12 = .ok (.putfield 35, 3) := by decide +kernel
theorem dX6_reads_15 : decode cX6_reads 15 = .ok (.aload_n 0, 1) := by decide +kernel
theorem dX6_reads_16 : decode cX6_reads 16 = .ok (.iconst (-1), 1) := by decide +kernel
theorem dX6_reads_17 : decode cX6_reads 17 = .ok (.putfield 22, 3) := by decide +kernel
theorem dX6_reads_20 : decode cX6_reads 20 = .ok (.aload_n 0, 1) := by decide +kernel
theorem dX6_reads_21 : decode cX6_reads 21 = .ok (.getfield 12, 3) := by decide +kernel
theorem dX6_reads_24 : decode cX6_reads 24 = .ok (.invokevirtual 38, 3) := by decide +kernel
theorem dX6_reads_27 : decode cX6_reads 27 = .ok (.iconst 0, 1) := by decide +kernel
theorem dX6_reads_28 : decode cX6_reads 28 = .ok (.istore_n 1, 1) := by decide +kernel
theorem dX6_reads_29 : decode cX6_reads 29 = .ok (.iload_n 1, 1) := by decide +kernel
theorem dX6_reads_30 : decode cX6_reads 30 = .ok (.sipush 240, 3) := by decide +kernel
theorem dX6_reads_33 : decode cX6_reads 33 = .ok (.if_icmp .gt 35, 3) := by decide +kernel
theorem dX6_reads_36 : decode cX6_reads 36 = .ok (.aload_n 0, 1) := by decide +kernel
theorem dX6_reads_37 : decode cX6_reads 37 = .ok (.getfield 35, 3) := by decide +kernel
theorem dX6_reads_40 : decode cX6_reads 40 = .ok (.ifCond .ne 28, 3) := by decide +kernel
theorem dX6_reads_43 : decode cX6_reads 43 = .ok (.aload_n 0, 1) := by decide +kernel
theorem dX6_reads_44 : decode cX6_reads 44 = .ok (.invokevirtual 41, 3) := by decide +kernel
theorem dX6_reads_47 : decode cX6_reads 47 = .ok (.aload_n 0, 1) := by decide +kernel
theorem dX6_reads_48 : decode cX6_reads 48 = .ok (.getfield 29, 3) := by decide +kernel
theorem dX6_reads_51 : decode cX6_reads 51 = .ok (.aload_n 0, 1) := by decide +kernel
theorem dX6_reads_52 : decode cX6_reads 52 = .ok (.getfield 26, 3) := by decide +kernel
theorem dX6_reads_55 : decode cX6_reads 55 = .ok (.if_icmp .ge 7, 3) := by decide +kernel
theorem dX6_reads_58 : decode cX6_reads 58 = .ok (.aload_n 0, 1) := by decide +kernel
theorem dX6_reads_59 : decode cX6_reads 59 = .ok (.invokevirtual 44, 3) := by decide +kernel
theorem dX6_reads_62 : decode cX6_reads 62 = .ok (.iinc 1 1, 3) := by decide +kernel
theorem dX6_reads_65 : decode cX6_reads 65 = .ok (.goto (-36), 3) := by decide +kernel
theorem dX6_reads_68 : decode cX6_reads 68 = .ok (.aload_n 0, 1) := by decide +kernel
theorem dX6_reads_69 : decode cX6_reads 69 = .ok (.iconst 0, 1) := by decide +kernel
theorem dX6_reads_70 : decode cX6_reads 70 = .ok (.putfield 26, 3) := by decide +kernel
theorem dX6_reads_73 : decode cX6_reads 73 = .ok (.aload_n 0, 1) := by decide +kernel
theorem dX6_reads_74 : decode cX6_reads 74 = .ok (.getfield 35, 3) := by decide +kernel
theorem dX6_reads_77 : decode cX6_reads 77 = .ok (.ifCond .ne 7, 3) := by decide +kernel
theorem dX6_reads_80 : decode cX6_reads 80 = .ok (.iconst 1, 1) := by decide +kernel
theorem dX6_reads_81 : decode cX6_reads 81 = .ok (.goto 4, 3) := by decide +kernel
theorem dX6_reads_84 : decode cX6_reads 84 = .ok (.iconst 0, 1) := by decide +kernel
theorem dX6_reads_85 : decode cX6_reads 85 = .ok (.ireturn, 1) := by decide +kernel
theorem dX6_readClause_0 : decode cX6_readClause 0 = .ok (.aload_n 0, 1) := by decide +kernel
theorem dX6_readClause_1 : decode cX6_readClause 1 = .ok (.invokevirtual 47, 3) := by decide +kernel
theorem dX6_readClause_4 : decode cX6_readClause 4 = .ok (.istore_n 1, 1) := by decide +kernel
theorem dX6_readClause_5 : decode cX6_readClause 5 = .ok (.aload_n 0, 1) := by decide +kernel
theorem dX6_readClause_6 : decode cX6_readClause 6 = .ok (.iload_n 1, 1) := by decide +kernel
theorem dX6_readClause_7 : decode cX6_readClause 7 = .ok (.invokevirtual 51, 3) := by decide +kernel
theorem dX6_readClause_10 : decode cX6_readClause 10 = .ok (.istore_n 2, 1) := by decide +kernel
theorem dX6_readClause_11 : decode cX6_readClause 11 = .ok (.iload_n 2, 1) := by decide +kernel
theorem dX6_readClause_12 : decode cX6_readClause 12 = .ok (.ifCond .eq 13, 3) := by decide +kernel
theorem dX6_readClause_15 : decode cX6_readClause 15 = .ok (.aload_n 0, 1) := by decide +kernel
theorem dX6_readClause_16 : decode cX6_readClause 16 = .ok (.iload_n 2, 1) := by decide +kernel
theorem dX6_readClause_17 : decode cX6_readClause 17 = .ok (.aload_n 0, 1) := by decide +kernel
theorem dX6_readClause_18 : decode cX6_readClause 18 = .ok (.getfield 29, 3) := by decide +kernel
theorem dX6_readClause_21 : decode cX6_readClause 21 = .ok (.invokevirtual 55, 3) := by decide +kernel
theorem dX6_readClause_24 : decode cX6_readClause 24 = .ok (.return_, 1) := by decide +kernel
theorem dX6_readClause_25 : decode cX6_readClause 25 = .ok (.aload_n 0, 1) := by decide +kernel
theorem dX6_readClause_26 : decode cX6_readClause 26 = .ok (.dup, 1) := by decide +kernel
theorem dX6_readClause_27 : decode cX6_readClause 27 = .ok (.getfield 29, 3) := by decide +kernel
theorem dX6_readClause_30 : decode cX6_readClause 30 = .ok (.iconst 1, 1) := by decide +kernel
theorem dX6_readClause_31 : decode cX6_readClause 31 = .ok (.iadd, 1) := by decide +kernel
theorem dX6_readClause_32 : decode cX6_readClause 32 = .ok (.putfield 29, 3) := by decide +kernel
theorem dX6_readClause_35 : decode cX6_readClause 35 = .ok (.iload_n 1, 1) := by decide +kernel
theorem dX6_readClause_36 : decode cX6_readClause 36 = .ok (.bipush 114, 2) := by decide +kernel
theorem dX6_readClause_38 : decode cX6_readClause 38 = .ok (.if_icmp .ne 10, 3) := by decide +kernel
theorem dX6_readClause_41 : decode cX6_readClause 41 = .ok (.aload_n 0, 1) := by decide +kernel
theorem dX6_readClause_42 : decode cX6_readClause 42 = .ok (.invokevirtual 59, 3) := by decide +kernel
theorem dX6_readClause_45 : decode cX6_readClause 45 = .ok (.goto 20, 3) := by decide +kernel
theorem dX6_readClause_48 : decode cX6_readClause 48 = .ok (.iload_n 1, 1) := by decide +kernel
theorem dX6_readClause_49 : decode cX6_readClause 49 = .ok (.bipush 116, 2) := by decide +kernel
theorem dX6_readClause_51 : decode cX6_readClause 51 = .ok (.if_icmp .ne 10, 3) := by decide +kernel
theorem dX6_readClause_54 : decode cX6_readClause 54 = .ok (.aload_n 0, 1) := by decide +kernel
theorem dX6_readClause_55 : decode cX6_readClause 55 = .ok (.invokevirtual 62, 3) := by decide +kernel
theorem dX6_readClause_58 : decode cX6_readClause 58 = .ok (.goto 7, 3) := by decide +kernel
theorem dX6_readClause_61 : decode cX6_readClause 61 = .ok (.aload_n 0, 1) := by decide +kernel
theorem dX6_readClause_62 : decode cX6_readClause 62 = .ok (.invokevirtual 65, 3) := by decide +kernel
theorem dX6_readClause_65 : decode cX6_readClause 65 = .ok (.aload_n 0, 1) := by decide +kernel
theorem dX6_readClause_66 : decode cX6_readClause 66 = .ok (.invokevirtual 68, 3) := by decide +kernel
theorem dX6_readClause_69 : decode cX6_readClause 69 = .ok (.return_, 1) := by decide +kernel
theorem dX6_faultOfWord_0 : decode cX6_faultOfWord 0 = .ok (.iload_n 1, 1) := by decide +kernel
theorem dX6_faultOfWord_1 : decode cX6_faultOfWord 1 = .ok (.lookupswitch 95 #[(114, 35), (116, 51), (119, 73)], 35) := by decide +kernel
theorem dX6_faultOfWord_36 : decode cX6_faultOfWord 36 = .ok (.aload_n 0, 1) := by decide +kernel
theorem dX6_faultOfWord_37 : decode cX6_faultOfWord 37 = .ok (.getfield 12, 3) := by decide +kernel
theorem dX6_faultOfWord_40 : decode cX6_faultOfWord 40 = .ok (.getfield 71, 3) := by decide +kernel
theorem dX6_faultOfWord_43 : decode cX6_faultOfWord 43 = .ok (.ifCond .eq 7, 3) := by decide +kernel
theorem dX6_faultOfWord_46 : decode cX6_faultOfWord 46 = .ok (.iconst 3, 1) := by decide +kernel
theorem dX6_faultOfWord_47 : decode cX6_faultOfWord 47 = .ok (.goto 4, 3) := by decide +kernel
theorem dX6_faultOfWord_50 : decode cX6_faultOfWord 50 = .ok (.iconst 0, 1) := by decide +kernel
theorem dX6_faultOfWord_51 : decode cX6_faultOfWord 51 = .ok (.ireturn, 1) := by decide +kernel
theorem dX6_faultOfWord_52 : decode cX6_faultOfWord 52 = .ok (.aload_n 0, 1) := by decide +kernel
theorem dX6_faultOfWord_53 : decode cX6_faultOfWord 53 = .ok (.aload_n 0, 1) := by decide +kernel
theorem dX6_faultOfWord_54 : decode cX6_faultOfWord 54 = .ok (.getfield 12, 3) := by decide +kernel
theorem dX6_faultOfWord_57 : decode cX6_faultOfWord 57 = .ok (.getfield 75, 3) := by decide +kernel
theorem dX6_faultOfWord_60 : decode cX6_faultOfWord 60 = .ok (.bipush 9, 2) := by decide +kernel
theorem dX6_faultOfWord_62 : decode cX6_faultOfWord 62 = .ok (.if_icmp .lt 7, 3) := by decide +kernel
theorem dX6_faultOfWord_65 : decode cX6_faultOfWord 65 = .ok (.iconst 1, 1) := by decide +kernel
theorem dX6_faultOfWord_66 : decode cX6_faultOfWord 66 = .ok (.goto 4, 3) := by decide +kernel
theorem dX6_faultOfWord_69 : decode cX6_faultOfWord 69 = .ok (.iconst 0, 1) := by decide +kernel
theorem dX6_faultOfWord_70 : decode cX6_faultOfWord 70 = .ok (.invokevirtual 78, 3) := by decide +kernel
theorem dX6_faultOfWord_73 : decode cX6_faultOfWord 73 = .ok (.ireturn, 1) := by decide +kernel
theorem dX6_faultOfWord_74 : decode cX6_faultOfWord 74 = .ok (.aload_n 0, 1) := by decide +kernel
theorem dX6_faultOfWord_75 : decode cX6_faultOfWord 75 = .ok (.aload_n 0, 1) := by decide +kernel
theorem dX6_faultOfWord_76 : decode cX6_faultOfWord 76 = .ok (.getfield 12, 3) := by decide +kernel
theorem dX6_faultOfWord_79 : decode cX6_faultOfWord 79 = .ok (.getfield 82, 3) := by decide +kernel
theorem dX6_faultOfWord_82 : decode cX6_faultOfWord 82 = .ok (.bipush 14, 2) := by decide +kernel
theorem dX6_faultOfWord_84 : decode cX6_faultOfWord 84 = .ok (.if_icmp .lt 7, 3) := by decide +kernel
theorem dX6_faultOfWord_87 : decode cX6_faultOfWord 87 = .ok (.iconst 1, 1) := by decide +kernel
theorem dX6_faultOfWord_88 : decode cX6_faultOfWord 88 = .ok (.goto 4, 3) := by decide +kernel
theorem dX6_faultOfWord_91 : decode cX6_faultOfWord 91 = .ok (.iconst 0, 1) := by decide +kernel
theorem dX6_faultOfWord_92 : decode cX6_faultOfWord 92 = .ok (.invokevirtual 78, 3) := by decide +kernel
theorem dX6_faultOfWord_95 : decode cX6_faultOfWord 95 = .ok (.ireturn, 1) := by decide +kernel
theorem dX6_faultOfWord_96 : decode cX6_faultOfWord 96 = .ok (.iconst 1, 1) := by decide +kernel
theorem dX6_faultOfWord_97 : decode cX6_faultOfWord 97 = .ok (.ireturn, 1) := by decide +kernel
theorem dX6_faultOfLater_0 : decode cX6_faultOfLater 0 = .ok (.aload_n 0, 1) := by decide +kernel
theorem dX6_faultOfLater_1 : decode cX6_faultOfLater 1 = .ok (.getfield 12, 3) := by decide +kernel
theorem dX6_faultOfLater_4 : decode cX6_faultOfLater 4 = .ok (.getfield 71, 3) := by decide +kernel
theorem dX6_faultOfLater_7 : decode cX6_faultOfLater 7 = .ok (.ifCond .ne 5, 3) := by decide +kernel
theorem dX6_faultOfLater_10 : decode cX6_faultOfLater 10 = .ok (.iconst 1, 1) := by decide +kernel
theorem dX6_faultOfLater_11 : decode cX6_faultOfLater 11 = .ok (.ireturn, 1) := by decide +kernel
theorem dX6_faultOfLater_12 : decode cX6_faultOfLater 12 = .ok (.iload_n 1, 1) := by decide +kernel
theorem dX6_faultOfLater_13 : decode cX6_faultOfLater 13 = .ok (.ifCond .eq 7, 3) := by decide +kernel
theorem dX6_faultOfLater_16 : decode cX6_faultOfLater 16 = .ok (.iconst 3, 1) := by decide +kernel
theorem dX6_faultOfLater_17 : decode cX6_faultOfLater 17 = .ok (.goto 4, 3) := by decide +kernel
theorem dX6_faultOfLater_20 : decode cX6_faultOfLater 20 = .ok (.iconst 0, 1) := by decide +kernel
theorem dX6_faultOfLater_21 : decode cX6_faultOfLater 21 = .ok (.ireturn, 1) := by decide +kernel
theorem dX6_readFineAndWood_0 : decode cX6_readFineAndWood 0 = .ok (.aload_n 0, 1) := by decide +kernel
theorem dX6_readFineAndWood_1 : decode cX6_readFineAndWood 1 = .ok (.getfield 12, 3) := by decide +kernel
theorem dX6_readFineAndWood_4 : decode cX6_readFineAndWood 4 = .ok (.iconst 1, 1) := by decide +kernel
theorem dX6_readFineAndWood_5 : decode cX6_readFineAndWood 5 = .ok (.putfield 71, 3) := by decide +kernel
theorem dX6_readFineAndWood_8 : decode cX6_readFineAndWood 8 = .ok (.aload_n 0, 1) := by decide +kernel
theorem dX6_readFineAndWood_9 : decode cX6_readFineAndWood 9 = .ok (.getfield 12, 3) := by decide +kernel
theorem dX6_readFineAndWood_12 : decode cX6_readFineAndWood 12 = .ok (.aload_n 0, 1) := by decide +kernel
theorem dX6_readFineAndWood_13 : decode cX6_readFineAndWood 13 = .ok (.iconst 0, 1) := by decide +kernel
theorem dX6_readFineAndWood_14 : decode cX6_readFineAndWood 14 = .ok (.bipush 99, 2) := by decide +kernel
theorem dX6_readFineAndWood_16 : decode cX6_readFineAndWood 16 = .ok (.invokevirtual 85, 3) := by decide +kernel
theorem dX6_readFineAndWood_19 : decode cX6_readFineAndWood 19 = .ok (.putfield 89, 3) := by decide +kernel
theorem dX6_readFineAndWood_22 : decode cX6_readFineAndWood 22 = .ok (.aload_n 0, 1) := by decide +kernel
theorem dX6_readFineAndWood_23 : decode cX6_readFineAndWood 23 = .ok (.getfield 12, 3) := by decide +kernel
theorem dX6_readFineAndWood_26 : decode cX6_readFineAndWood 26 = .ok (.aload_n 0, 1) := by decide +kernel
theorem dX6_readFineAndWood_27 : decode cX6_readFineAndWood 27 = .ok (.iconst 0, 1) := by decide +kernel
theorem dX6_readFineAndWood_28 : decode cX6_readFineAndWood 28 = .ok (.bipush 99, 2) := by decide +kernel
theorem dX6_readFineAndWood_30 : decode cX6_readFineAndWood 30 = .ok (.invokevirtual 85, 3) := by decide +kernel
theorem dX6_readFineAndWood_33 : decode cX6_readFineAndWood 33 = .ok (.putfield 92, 3) := by decide +kernel
theorem dX6_readFineAndWood_36 : decode cX6_readFineAndWood 36 = .ok (.return_, 1) := by decide +kernel
theorem dX6_readTable_0 : decode cX6_readTable 0 = .ok (.aload_n 0, 1) := by decide +kernel
theorem dX6_readTable_1 : decode cX6_readTable 1 = .ok (.iconst 1, 1) := by decide +kernel
theorem dX6_readTable_2 : decode cX6_readTable 2 = .ok (.bipush 12, 2) := by decide +kernel
theorem dX6_readTable_4 : decode cX6_readTable 4 = .ok (.invokevirtual 85, 3) := by decide +kernel
theorem dX6_readTable_7 : decode cX6_readTable 7 = .ok (.istore_n 1, 1) := by decide +kernel
theorem dX6_readTable_8 : decode cX6_readTable 8 = .ok (.aload_n 0, 1) := by decide +kernel
theorem dX6_readTable_9 : decode cX6_readTable 9 = .ok (.iconst 0, 1) := by decide +kernel
theorem dX6_readTable_10 : decode cX6_readTable 10 = .ok (.iload_n 1, 1) := by decide +kernel
theorem dX6_readTable_11 : decode cX6_readTable 11 = .ok (.invokevirtual 85, 3) := by decide +kernel
theorem dX6_readTable_14 : decode cX6_readTable 14 = .ok (.istore_n 2, 1) := by decide +kernel
theorem dX6_readTable_15 : decode cX6_readTable 15 = .ok (.aload_n 0, 1) := by decide +kernel
theorem dX6_readTable_16 : decode cX6_readTable 16 = .ok (.getfield 35, 3) := by decide +kernel
theorem dX6_readTable_19 : decode cX6_readTable 19 = .ok (.ifCond .ne 12, 3) := by decide +kernel
theorem dX6_readTable_22 : decode cX6_readTable 22 = .ok (.aload_n 0, 1) := by decide +kernel
theorem dX6_readTable_23 : decode cX6_readTable 23 = .ok (.getfield 12, 3) := by decide +kernel
theorem dX6_readTable_26 : decode cX6_readTable 26 = .ok (.iload_n 1, 1) := by decide +kernel
theorem dX6_readTable_27 : decode cX6_readTable 27 = .ok (.iload_n 2, 1) := by decide +kernel
theorem dX6_readTable_28 : decode cX6_readTable 28 = .ok (.invokevirtual 95, 3) := by decide +kernel
theorem dX6_readTable_31 : decode cX6_readTable 31 = .ok (.return_, 1) := by decide +kernel
theorem dX6_readWay_0 : decode cX6_readWay 0 = .ok (.aload_n 0, 1) := by decide +kernel
theorem dX6_readWay_1 : decode cX6_readWay 1 = .ok (.iconst 0, 1) := by decide +kernel
theorem dX6_readWay_2 : decode cX6_readWay 2 = .ok (.aload_n 0, 1) := by decide +kernel
theorem dX6_readWay_3 : decode cX6_readWay 3 = .ok (.getfield 12, 3) := by decide +kernel
theorem dX6_readWay_6 : decode cX6_readWay 6 = .ok (.getfield 75, 3) := by decide +kernel
theorem dX6_readWay_9 : decode cX6_readWay 9 = .ok (.iconst 1, 1) := by decide +kernel
theorem dX6_readWay_10 : decode cX6_readWay 10 = .ok (.isub, 1) := by decide +kernel
theorem dX6_readWay_11 : decode cX6_readWay 11 = .ok (.invokevirtual 85, 3) := by decide +kernel
theorem dX6_readWay_14 : decode cX6_readWay 14 = .ok (.istore_n 1, 1) := by decide +kernel
theorem dX6_readWay_15 : decode cX6_readWay 15 = .ok (.aload_n 0, 1) := by decide +kernel
theorem dX6_readWay_16 : decode cX6_readWay 16 = .ok (.iconst 0, 1) := by decide +kernel
theorem dX6_readWay_17 : decode cX6_readWay 17 = .ok (.aload_n 0, 1) := by decide +kernel
theorem dX6_readWay_18 : decode cX6_readWay 18 = .ok (.getfield 12, 3) := by decide +kernel
theorem dX6_readWay_21 : decode cX6_readWay 21 = .ok (.getfield 75, 3) := by decide +kernel
theorem dX6_readWay_24 : decode cX6_readWay 24 = .ok (.iconst 1, 1) := by decide +kernel
theorem dX6_readWay_25 : decode cX6_readWay 25 = .ok (.isub, 1) := by decide +kernel
theorem dX6_readWay_26 : decode cX6_readWay 26 = .ok (.invokevirtual 85, 3) := by decide +kernel
theorem dX6_readWay_29 : decode cX6_readWay 29 = .ok (.istore_n 2, 1) := by decide +kernel
theorem dX6_readWay_30 : decode cX6_readWay 30 = .ok (.aload_n 0, 1) := by decide +kernel
theorem dX6_readWay_31 : decode cX6_readWay 31 = .ok (.getfield 35, 3) := by decide +kernel
theorem dX6_readWay_34 : decode cX6_readWay 34 = .ok (.ifCond .ne 29, 3) := by decide +kernel
theorem dX6_readWay_37 : decode cX6_readWay 37 = .ok (.iload_n 1, 1) := by decide +kernel
theorem dX6_readWay_38 : decode cX6_readWay 38 = .ok (.iload_n 2, 1) := by decide +kernel
theorem dX6_readWay_39 : decode cX6_readWay 39 = .ok (.if_icmp .eq 15, 3) := by decide +kernel
theorem dX6_readWay_42 : decode cX6_readWay 42 = .ok (.aload_n 0, 1) := by decide +kernel
theorem dX6_readWay_43 : decode cX6_readWay 43 = .ok (.getfield 12, 3) := by decide +kernel
theorem dX6_readWay_46 : decode cX6_readWay 46 = .ok (.iload_n 1, 1) := by decide +kernel
theorem dX6_readWay_47 : decode cX6_readWay 47 = .ok (.iload_n 2, 1) := by decide +kernel
theorem dX6_readWay_48 : decode cX6_readWay 48 = .ok (.invokevirtual 98, 3) := by decide +kernel
theorem dX6_readWay_51 : decode cX6_readWay 51 = .ok (.ifCond .eq 12, 3) := by decide +kernel
theorem dX6_readWay_54 : decode cX6_readWay 54 = .ok (.aload_n 0, 1) := by decide +kernel
theorem dX6_readWay_55 : decode cX6_readWay 55 = .ok (.iconst 4, 1) := by decide +kernel
theorem dX6_readWay_56 : decode cX6_readWay 56 = .ok (.aload_n 0, 1) := by decide +kernel
theorem dX6_readWay_57 : decode cX6_readWay 57 = .ok (.getfield 32, 3) := by decide +kernel
theorem dX6_readWay_60 : decode cX6_readWay 60 = .ok (.invokevirtual 55, 3) := by decide +kernel
theorem dX6_readWay_63 : decode cX6_readWay 63 = .ok (.aload_n 0, 1) := by decide +kernel
theorem dX6_readWay_64 : decode cX6_readWay 64 = .ok (.getfield 35, 3) := by decide +kernel
theorem dX6_readWay_67 : decode cX6_readWay 67 = .ok (.ifCond .ne 12, 3) := by decide +kernel
theorem dX6_readWay_70 : decode cX6_readWay 70 = .ok (.aload_n 0, 1) := by decide +kernel
theorem dX6_readWay_71 : decode cX6_readWay 71 = .ok (.getfield 12, 3) := by decide +kernel
theorem dX6_readWay_74 : decode cX6_readWay 74 = .ok (.iload_n 1, 1) := by decide +kernel
theorem dX6_readWay_75 : decode cX6_readWay 75 = .ok (.iload_n 2, 1) := by decide +kernel
theorem dX6_readWay_76 : decode cX6_readWay 76 = .ok (.invokevirtual 102, 3) := by decide +kernel
theorem dX6_readWay_79 : decode cX6_readWay 79 = .ok (.return_, 1) := by decide +kernel
theorem dX6_readEnd_0 : decode cX6_readEnd 0 = .ok (.aload_n 0, 1) := by decide +kernel
theorem dX6_readEnd_1 : decode cX6_readEnd 1 = .ok (.invokevirtual 41, 3) := by decide +kernel
theorem dX6_readEnd_4 : decode cX6_readEnd 4 = .ok (.aload_n 0, 1) := by decide +kernel
theorem dX6_readEnd_5 : decode cX6_readEnd 5 = .ok (.invokevirtual 47, 3) := by decide +kernel
theorem dX6_readEnd_8 : decode cX6_readEnd 8 = .ok (.bipush 59, 2) := by decide +kernel
theorem dX6_readEnd_10 : decode cX6_readEnd 10 = .ok (.if_icmp .eq 12, 3) := by decide +kernel
theorem dX6_readEnd_13 : decode cX6_readEnd 13 = .ok (.aload_n 0, 1) := by decide +kernel
theorem dX6_readEnd_14 : decode cX6_readEnd 14 = .ok (.iconst 1, 1) := by decide +kernel
theorem dX6_readEnd_15 : decode cX6_readEnd 15 = .ok (.aload_n 0, 1) := by decide +kernel
theorem dX6_readEnd_16 : decode cX6_readEnd 16 = .ok (.getfield 29, 3) := by decide +kernel
theorem dX6_readEnd_19 : decode cX6_readEnd 19 = .ok (.invokevirtual 55, 3) := by decide +kernel
theorem dX6_readEnd_22 : decode cX6_readEnd 22 = .ok (.aload_n 0, 1) := by decide +kernel
theorem dX6_readEnd_23 : decode cX6_readEnd 23 = .ok (.dup, 1) := by decide +kernel
theorem dX6_readEnd_24 : decode cX6_readEnd 24 = .ok (.getfield 29, 3) := by decide +kernel
theorem dX6_readEnd_27 : decode cX6_readEnd 27 = .ok (.iconst 1, 1) := by decide +kernel
theorem dX6_readEnd_28 : decode cX6_readEnd 28 = .ok (.iadd, 1) := by decide +kernel
theorem dX6_readEnd_29 : decode cX6_readEnd 29 = .ok (.putfield 29, 3) := by decide +kernel
theorem dX6_readEnd_32 : decode cX6_readEnd 32 = .ok (.return_, 1) := by decide +kernel
theorem dX6_number_0 : decode cX6_number 0 = .ok (.aload_n 0, 1) := by decide +kernel
theorem dX6_number_1 : decode cX6_number 1 = .ok (.invokevirtual 41, 3) := by decide +kernel
theorem dX6_number_4 : decode cX6_number 4 = .ok (.aload_n 0, 1) := by decide +kernel
theorem dX6_number_5 : decode cX6_number 5 = .ok (.aload_n 0, 1) := by decide +kernel
theorem dX6_number_6 : decode cX6_number 6 = .ok (.getfield 29, 3) := by decide +kernel
theorem dX6_number_9 : decode cX6_number 9 = .ok (.putfield 32, 3) := by decide +kernel
theorem dX6_number_12 : decode cX6_number 12 = .ok (.aload_n 0, 1) := by decide +kernel
theorem dX6_number_13 : decode cX6_number 13 = .ok (.invokevirtual 47, 3) := by decide +kernel
theorem dX6_number_16 : decode cX6_number 16 = .ok (.invokestatic 105, 3) := by decide +kernel
theorem dX6_number_19 : decode cX6_number 19 = .ok (.ifCond .ne 14, 3) := by decide +kernel
theorem dX6_number_22 : decode cX6_number 22 = .ok (.aload_n 0, 1) := by decide +kernel
theorem dX6_number_23 : decode cX6_number 23 = .ok (.iconst 1, 1) := by decide +kernel
theorem dX6_number_24 : decode cX6_number 24 = .ok (.aload_n 0, 1) := by decide +kernel
theorem dX6_number_25 : decode cX6_number 25 = .ok (.getfield 29, 3) := by decide +kernel
theorem dX6_number_28 : decode cX6_number 28 = .ok (.invokevirtual 55, 3) := by decide +kernel
theorem dX6_number_31 : decode cX6_number 31 = .ok (.iload_n 1, 1) := by decide +kernel
theorem dX6_number_32 : decode cX6_number 32 = .ok (.ireturn, 1) := by decide +kernel
theorem dX6_number_33 : decode cX6_number 33 = .ok (.iconst 0, 1) := by decide +kernel
theorem dX6_number_34 : decode cX6_number 34 = .ok (.istore_n 3, 1) := by decide +kernel
theorem dX6_number_35 : decode cX6_number 35 = .ok (.iconst 0, 1) := by decide +kernel
theorem dX6_number_36 : decode cX6_number 36 = .ok (.istore 4, 2) := by decide +kernel
theorem dX6_number_38 : decode cX6_number 38 = .ok (.aload_n 0, 1) := by decide +kernel
theorem dX6_number_39 : decode cX6_number 39 = .ok (.getfield 29, 3) := by decide +kernel
theorem dX6_number_42 : decode cX6_number 42 = .ok (.aload_n 0, 1) := by decide +kernel
theorem dX6_number_43 : decode cX6_number 43 = .ok (.getfield 26, 3) := by decide +kernel
theorem dX6_number_46 : decode cX6_number 46 = .ok (.if_icmp .ge 52, 3) := by decide +kernel
theorem dX6_number_49 : decode cX6_number 49 = .ok (.aload_n 0, 1) := by decide +kernel
theorem dX6_number_50 : decode cX6_number 50 = .ok (.invokevirtual 47, 3) := by decide +kernel
theorem dX6_number_53 : decode cX6_number 53 = .ok (.invokestatic 105, 3) := by decide +kernel
theorem dX6_number_56 : decode cX6_number 56 = .ok (.ifCond .eq 42, 3) := by decide +kernel
theorem dX6_number_59 : decode cX6_number 59 = .ok (.iinc 4 1, 3) := by decide +kernel
theorem dX6_number_62 : decode cX6_number 62 = .ok (.iload 4, 2) := by decide +kernel
theorem dX6_number_64 : decode cX6_number 64 = .ok (.iconst 3, 1) := by decide +kernel
theorem dX6_number_65 : decode cX6_number 65 = .ok (.if_icmp .le 7, 3) := by decide +kernel
theorem dX6_number_68 : decode cX6_number 68 = .ok (.iconst 0, 1) := by decide +kernel
theorem dX6_number_69 : decode cX6_number 69 = .ok (.goto 15, 3) := by decide +kernel
theorem dX6_number_72 : decode cX6_number 72 = .ok (.iload_n 3, 1) := by decide +kernel
theorem dX6_number_73 : decode cX6_number 73 = .ok (.bipush 10, 2) := by decide +kernel
end
section
-- the decode rows as printed for this claim (a starting text)
theorem dX6_number_75 : decode cX6_number 75 = .ok (.imul, 1) := by decide +kernel
theorem dX6_number_76 : decode cX6_number 76 = .ok (.aload_n 0, 1) := by decide +kernel
theorem dX6_number_77 : decode cX6_number 77 = .ok (.invokevirtual 47, 3) := by decide +kernel
theorem dX6_number_80 : decode cX6_number 80 = .ok (.bipush 48, 2) := by decide +kernel
theorem dX6_number_82 : decode cX6_number 82 = .ok (.isub, 1) := by decide +kernel
theorem dX6_number_83 : decode cX6_number 83 = .ok (.iadd, 1) := by decide +kernel
theorem dX6_number_84 : decode cX6_number 84 = .ok (.istore_n 3, 1) := by decide +kernel
theorem dX6_number_85 : decode cX6_number 85 = .ok (.aload_n 0, 1) := by decide +kernel
theorem dX6_number_86 : decode cX6_number 86 = .ok (.dup, 1) := by decide +kernel
theorem dX6_number_87 : decode cX6_number 87 = .ok (.getfield 29, 3) := by decide +kernel
theorem dX6_number_90 : decode cX6_number 90 = .ok (.iconst 1, 1) := by decide +kernel
theorem dX6_number_91 : decode cX6_number 91 = .ok (.iadd, 1) := by decide +kernel
theorem dX6_number_92 : decode cX6_number 92 = .ok (.putfield 29, 3) := by decide +kernel
theorem dX6_number_95 : decode cX6_number 95 = .ok (.goto (-57), 3) := by decide +kernel
theorem dX6_number_98 : decode cX6_number 98 = .ok (.iload 4, 2) := by decide +kernel
theorem dX6_number_100 : decode cX6_number 100 = .ok (.iconst 3, 1) := by decide +kernel
theorem dX6_number_101 : decode cX6_number 101 = .ok (.if_icmp .gt 13, 3) := by decide +kernel
theorem dX6_number_104 : decode cX6_number 104 = .ok (.iload_n 3, 1) := by decide +kernel
theorem dX6_number_105 : decode cX6_number 105 = .ok (.iload_n 1, 1) := by decide +kernel
theorem dX6_number_106 : decode cX6_number 106 = .ok (.if_icmp .lt 8, 3) := by decide +kernel
theorem dX6_number_109 : decode cX6_number 109 = .ok (.iload_n 3, 1) := by decide +kernel
theorem dX6_number_110 : decode cX6_number 110 = .ok (.iload_n 2, 1) := by decide +kernel
theorem dX6_number_111 : decode cX6_number 111 = .ok (.if_icmp .le 12, 3) := by decide +kernel
theorem dX6_number_114 : decode cX6_number 114 = .ok (.aload_n 0, 1) := by decide +kernel
theorem dX6_number_115 : decode cX6_number 115 = .ok (.iconst 2, 1) := by decide +kernel
theorem dX6_number_116 : decode cX6_number 116 = .ok (.aload_n 0, 1) := by decide +kernel
theorem dX6_number_117 : decode cX6_number 117 = .ok (.getfield 32, 3) := by decide +kernel
theorem dX6_number_120 : decode cX6_number 120 = .ok (.invokevirtual 55, 3) := by decide +kernel
theorem dX6_number_123 : decode cX6_number 123 = .ok (.iload_n 3, 1) := by decide +kernel
theorem dX6_number_124 : decode cX6_number 124 = .ok (.ireturn, 1) := by decide +kernel
theorem dX6_skipBlanks_0 : decode cX6_skipBlanks 0 = .ok (.aload_n 0, 1) := by decide +kernel
theorem dX6_skipBlanks_1 : decode cX6_skipBlanks 1 = .ok (.getfield 29, 3) := by decide +kernel
theorem dX6_skipBlanks_4 : decode cX6_skipBlanks 4 = .ok (.aload_n 0, 1) := by decide +kernel
theorem dX6_skipBlanks_5 : decode cX6_skipBlanks 5 = .ok (.getfield 26, 3) := by decide +kernel
theorem dX6_skipBlanks_8 : decode cX6_skipBlanks 8 = .ok (.if_icmp .ge 25, 3) := by decide +kernel
theorem dX6_skipBlanks_11 : decode cX6_skipBlanks 11 = .ok (.aload_n 0, 1) := by decide +kernel
theorem dX6_skipBlanks_12 : decode cX6_skipBlanks 12 = .ok (.invokevirtual 47, 3) := by decide +kernel
theorem dX6_skipBlanks_15 : decode cX6_skipBlanks 15 = .ok (.bipush 32, 2) := by decide +kernel
theorem dX6_skipBlanks_17 : decode cX6_skipBlanks 17 = .ok (.if_icmp .ne 16, 3) := by decide +kernel
theorem dX6_skipBlanks_20 : decode cX6_skipBlanks 20 = .ok (.aload_n 0, 1) := by decide +kernel
theorem dX6_skipBlanks_21 : decode cX6_skipBlanks 21 = .ok (.dup, 1) := by decide +kernel
theorem dX6_skipBlanks_22 : decode cX6_skipBlanks 22 = .ok (.getfield 29, 3) := by decide +kernel
theorem dX6_skipBlanks_25 : decode cX6_skipBlanks 25 = .ok (.iconst 1, 1) := by decide +kernel
theorem dX6_skipBlanks_26 : decode cX6_skipBlanks 26 = .ok (.iadd, 1) := by decide +kernel
theorem dX6_skipBlanks_27 : decode cX6_skipBlanks 27 = .ok (.putfield 29, 3) := by decide +kernel
theorem dX6_skipBlanks_30 : decode cX6_skipBlanks 30 = .ok (.goto (-30), 3) := by decide +kernel
theorem dX6_skipBlanks_33 : decode cX6_skipBlanks 33 = .ok (.return_, 1) := by decide +kernel
theorem dX6_letterHere_0 : decode cX6_letterHere 0 = .ok (.aload_n 0, 1) := by decide +kernel
theorem dX6_letterHere_1 : decode cX6_letterHere 1 = .ok (.getfield 29, 3) := by decide +kernel
theorem dX6_letterHere_4 : decode cX6_letterHere 4 = .ok (.ifCond .lt 36, 3) := by decide +kernel
theorem dX6_letterHere_7 : decode cX6_letterHere 7 = .ok (.aload_n 0, 1) := by decide +kernel
theorem dX6_letterHere_8 : decode cX6_letterHere 8 = .ok (.getfield 29, 3) := by decide +kernel
theorem dX6_letterHere_11 : decode cX6_letterHere 11 = .ok (.aload_n 0, 1) := by decide +kernel
theorem dX6_letterHere_12 : decode cX6_letterHere 12 = .ok (.getfield 26, 3) := by decide +kernel
theorem dX6_letterHere_15 : decode cX6_letterHere 15 = .ok (.if_icmp .ge 25, 3) := by decide +kernel
theorem dX6_letterHere_18 : decode cX6_letterHere 18 = .ok (.aload_n 0, 1) := by decide +kernel
theorem dX6_letterHere_19 : decode cX6_letterHere 19 = .ok (.getfield 29, 3) := by decide +kernel
theorem dX6_letterHere_22 : decode cX6_letterHere 22 = .ok (.sipush 240, 3) := by decide +kernel
theorem dX6_letterHere_25 : decode cX6_letterHere 25 = .ok (.if_icmp .ge 15, 3) := by decide +kernel
theorem dX6_letterHere_28 : decode cX6_letterHere 28 = .ok (.aload_n 0, 1) := by decide +kernel
theorem dX6_letterHere_29 : decode cX6_letterHere 29 = .ok (.getfield 18, 3) := by decide +kernel
theorem dX6_letterHere_32 : decode cX6_letterHere 32 = .ok (.aload_n 0, 1) := by decide +kernel
theorem dX6_letterHere_33 : decode cX6_letterHere 33 = .ok (.getfield 29, 3) := by decide +kernel
theorem dX6_letterHere_36 : decode cX6_letterHere 36 = .ok (.caload, 1) := by decide +kernel
theorem dX6_letterHere_37 : decode cX6_letterHere 37 = .ok (.goto 4, 3) := by decide +kernel
theorem dX6_letterHere_40 : decode cX6_letterHere 40 = .ok (.iconst (-1), 1) := by decide +kernel
theorem dX6_letterHere_41 : decode cX6_letterHere 41 = .ok (.ireturn, 1) := by decide +kernel
theorem dX6_isFigure_0 : decode cX6_isFigure 0 = .ok (.iload_n 0, 1) := by decide +kernel
theorem dX6_isFigure_1 : decode cX6_isFigure 1 = .ok (.bipush 48, 2) := by decide +kernel
theorem dX6_isFigure_3 : decode cX6_isFigure 3 = .ok (.if_icmp .lt 13, 3) := by decide +kernel
theorem dX6_isFigure_6 : decode cX6_isFigure 6 = .ok (.iload_n 0, 1) := by decide +kernel
theorem dX6_isFigure_7 : decode cX6_isFigure 7 = .ok (.bipush 57, 2) := by decide +kernel
theorem dX6_isFigure_9 : decode cX6_isFigure 9 = .ok (.if_icmp .gt 7, 3) := by decide +kernel
theorem dX6_isFigure_12 : decode cX6_isFigure 12 = .ok (.iconst 1, 1) := by decide +kernel
theorem dX6_isFigure_13 : decode cX6_isFigure 13 = .ok (.goto 4, 3) := by decide +kernel
theorem dX6_isFigure_16 : decode cX6_isFigure 16 = .ok (.iconst 0, 1) := by decide +kernel
theorem dX6_isFigure_17 : decode cX6_isFigure 17 = .ok (.ireturn, 1) := by decide +kernel
theorem dX6_fails_0 : decode cX6_fails 0 = .ok (.aload_n 0, 1) := by decide +kernel
theorem dX6_fails_1 : decode cX6_fails 1 = .ok (.getfield 35, 3) := by decide +kernel
theorem dX6_fails_4 : decode cX6_fails 4 = .ok (.ifCond .ne 13, 3) := by decide +kernel
theorem dX6_fails_7 : decode cX6_fails 7 = .ok (.aload_n 0, 1) := by decide +kernel
theorem dX6_fails_8 : decode cX6_fails 8 = .ok (.iload_n 1, 1) := by decide +kernel
theorem dX6_fails_9 : decode cX6_fails 9 = .ok (.putfield 35, 3) := by decide +kernel
theorem dX6_fails_12 : decode cX6_fails 12 = .ok (.aload_n 0, 1) := by decide +kernel
theorem dX6_fails_13 : decode cX6_fails 13 = .ok (.iload_n 2, 1) := by decide +kernel
theorem dX6_fails_14 : decode cX6_fails 14 = .ok (.putfield 22, 3) := by decide +kernel
theorem dX6_fails_17 : decode cX6_fails 17 = .ok (.return_, 1) := by decide +kernel
theorem dX7_init_0 : decode cX7_init 0 = .ok (.aload_n 0, 1) := by decide +kernel
theorem dX7_init_1 : decode cX7_init 1 = .ok (.invokespecial 3, 3) := by decide +kernel
theorem dX7_init_4 : decode cX7_init 4 = .ok (.aload_n 0, 1) := by decide +kernel
theorem dX7_init_5 : decode cX7_init 5 = .ok (.bipush 9, 2) := by decide +kernel
theorem dX7_init_7 : decode cX7_init 7 = .ok (.newarray .int, 2) := by decide +kernel
theorem dX7_init_9 : decode cX7_init 9 = .ok (.putfield 9, 3) := by decide +kernel
theorem dX7_init_12 : decode cX7_init 12 = .ok (.aload_n 0, 1) := by decide +kernel
theorem dX7_init_13 : decode cX7_init 13 = .ok (.bipush 9, 2) := by decide +kernel
theorem dX7_init_15 : decode cX7_init 15 = .ok (.newarray .int, 2) := by decide +kernel
theorem dX7_init_17 : decode cX7_init 17 = .ok (.putfield 15, 3) := by decide +kernel
theorem dX7_init_20 : decode cX7_init 20 = .ok (.aload_n 0, 1) := by decide +kernel
theorem dX7_init_21 : decode cX7_init 21 = .ok (.bipush 14, 2) := by decide +kernel
theorem dX7_init_23 : decode cX7_init 23 = .ok (.newarray .int, 2) := by decide +kernel
theorem dX7_init_25 : decode cX7_init 25 = .ok (.putfield 18, 3) := by decide +kernel
theorem dX7_init_28 : decode cX7_init 28 = .ok (.aload_n 0, 1) := by decide +kernel
theorem dX7_init_29 : decode cX7_init 29 = .ok (.bipush 14, 2) := by decide +kernel
theorem dX7_init_31 : decode cX7_init 31 = .ok (.newarray .int, 2) := by decide +kernel
theorem dX7_init_33 : decode cX7_init 33 = .ok (.putfield 21, 3) := by decide +kernel
theorem dX7_init_36 : decode cX7_init 36 = .ok (.return_, 1) := by decide +kernel
theorem dX7_forget_0 : decode cX7_forget 0 = .ok (.aload_n 0, 1) := by decide +kernel
theorem dX7_forget_1 : decode cX7_forget 1 = .ok (.iconst 0, 1) := by decide +kernel
theorem dX7_forget_2 : decode cX7_forget 2 = .ok (.putfield 24, 3) := by decide +kernel
theorem dX7_forget_5 : decode cX7_forget 5 = .ok (.aload_n 0, 1) := by decide +kernel
theorem dX7_forget_6 : decode cX7_forget 6 = .ok (.iconst 0, 1) := by decide +kernel
theorem dX7_forget_7 : decode cX7_forget 7 = .ok (.putfield 28, 3) := by decide +kernel
theorem dX7_forget_10 : decode cX7_forget 10 = .ok (.aload_n 0, 1) := by decide +kernel
theorem dX7_forget_11 : decode cX7_forget 11 = .ok (.iconst 0, 1) := by decide +kernel
theorem dX7_forget_12 : decode cX7_forget 12 = .ok (.putfield 32, 3) := by decide +kernel
theorem dX7_forget_15 : decode cX7_forget 15 = .ok (.aload_n 0, 1) := by decide +kernel
theorem dX7_forget_16 : decode cX7_forget 16 = .ok (.iconst 0, 1) := by decide +kernel
theorem dX7_forget_17 : decode cX7_forget 17 = .ok (.putfield 35, 3) := by decide +kernel
theorem dX7_forget_20 : decode cX7_forget 20 = .ok (.aload_n 0, 1) := by decide +kernel
theorem dX7_forget_21 : decode cX7_forget 21 = .ok (.iconst 0, 1) := by decide +kernel
theorem dX7_forget_22 : decode cX7_forget 22 = .ok (.putfield 38, 3) := by decide +kernel
theorem dX7_forget_25 : decode cX7_forget 25 = .ok (.return_, 1) := by decide +kernel
theorem dX7_becomes_0 : decode cX7_becomes 0 = .ok (.aload_n 0, 1) := by decide +kernel
theorem dX7_becomes_1 : decode cX7_becomes 1 = .ok (.aload_n 1, 1) := by decide +kernel
theorem dX7_becomes_2 : decode cX7_becomes 2 = .ok (.getfield 24, 3) := by decide +kernel
theorem dX7_becomes_5 : decode cX7_becomes 5 = .ok (.putfield 24, 3) := by decide +kernel
theorem dX7_becomes_8 : decode cX7_becomes 8 = .ok (.aload_n 0, 1) := by decide +kernel
theorem dX7_becomes_9 : decode cX7_becomes 9 = .ok (.aload_n 1, 1) := by decide +kernel
theorem dX7_becomes_10 : decode cX7_becomes 10 = .ok (.getfield 28, 3) := by decide +kernel
theorem dX7_becomes_13 : decode cX7_becomes 13 = .ok (.putfield 28, 3) := by decide +kernel
theorem dX7_becomes_16 : decode cX7_becomes 16 = .ok (.aload_n 0, 1) := by decide +kernel
theorem dX7_becomes_17 : decode cX7_becomes 17 = .ok (.aload_n 1, 1) := by decide +kernel
theorem dX7_becomes_18 : decode cX7_becomes 18 = .ok (.getfield 32, 3) := by decide +kernel
theorem dX7_becomes_21 : decode cX7_becomes 21 = .ok (.putfield 32, 3) := by decide +kernel
theorem dX7_becomes_24 : decode cX7_becomes 24 = .ok (.aload_n 0, 1) := by decide +kernel
theorem dX7_becomes_25 : decode cX7_becomes 25 = .ok (.aload_n 1, 1) := by decide +kernel
theorem dX7_becomes_26 : decode cX7_becomes 26 = .ok (.getfield 35, 3) := by decide +kernel
theorem dX7_becomes_29 : decode cX7_becomes 29 = .ok (.putfield 35, 3) := by decide +kernel
theorem dX7_becomes_32 : decode cX7_becomes 32 = .ok (.aload_n 0, 1) := by decide +kernel
theorem dX7_becomes_33 : decode cX7_becomes 33 = .ok (.aload_n 1, 1) := by decide +kernel
theorem dX7_becomes_34 : decode cX7_becomes 34 = .ok (.getfield 38, 3) := by decide +kernel
theorem dX7_becomes_37 : decode cX7_becomes 37 = .ok (.putfield 38, 3) := by decide +kernel
theorem dX7_becomes_40 : decode cX7_becomes 40 = .ok (.iconst 0, 1) := by decide +kernel
theorem dX7_becomes_41 : decode cX7_becomes 41 = .ok (.istore_n 2, 1) := by decide +kernel
theorem dX7_becomes_42 : decode cX7_becomes 42 = .ok (.iload_n 2, 1) := by decide +kernel
theorem dX7_becomes_43 : decode cX7_becomes 43 = .ok (.bipush 9, 2) := by decide +kernel
theorem dX7_becomes_45 : decode cX7_becomes 45 = .ok (.if_icmp .ge 33, 3) := by decide +kernel
theorem dX7_becomes_48 : decode cX7_becomes 48 = .ok (.aload_n 0, 1) := by decide +kernel
theorem dX7_becomes_49 : decode cX7_becomes 49 = .ok (.getfield 9, 3) := by decide +kernel
theorem dX7_becomes_52 : decode cX7_becomes 52 = .ok (.iload_n 2, 1) := by decide +kernel
theorem dX7_becomes_53 : decode cX7_becomes 53 = .ok (.aload_n 1, 1) := by decide +kernel
theorem dX7_becomes_54 : decode cX7_becomes 54 = .ok (.getfield 9, 3) := by decide +kernel
theorem dX7_becomes_57 : decode cX7_becomes 57 = .ok (.iload_n 2, 1) := by decide +kernel
theorem dX7_becomes_58 : decode cX7_becomes 58 = .ok (.iaload, 1) := by decide +kernel
theorem dX7_becomes_59 : decode cX7_becomes 59 = .ok (.iastore, 1) := by decide +kernel
theorem dX7_becomes_60 : decode cX7_becomes 60 = .ok (.aload_n 0, 1) := by decide +kernel
theorem dX7_becomes_61 : decode cX7_becomes 61 = .ok (.getfield 15, 3) := by decide +kernel
theorem dX7_becomes_64 : decode cX7_becomes 64 = .ok (.iload_n 2, 1) := by decide +kernel
theorem dX7_becomes_65 : decode cX7_becomes 65 = .ok (.aload_n 1, 1) := by decide +kernel
theorem dX7_becomes_66 : decode cX7_becomes 66 = .ok (.getfield 15, 3) := by decide +kernel
theorem dX7_becomes_69 : decode cX7_becomes 69 = .ok (.iload_n 2, 1) := by decide +kernel
theorem dX7_becomes_70 : decode cX7_becomes 70 = .ok (.iaload, 1) := by decide +kernel
theorem dX7_becomes_71 : decode cX7_becomes 71 = .ok (.iastore, 1) := by decide +kernel
theorem dX7_becomes_72 : decode cX7_becomes 72 = .ok (.iinc 2 1, 3) := by decide +kernel
theorem dX7_becomes_75 : decode cX7_becomes 75 = .ok (.goto (-33), 3) := by decide +kernel
theorem dX7_becomes_78 : decode cX7_becomes 78 = .ok (.iconst 0, 1) := by decide +kernel
theorem dX7_becomes_79 : decode cX7_becomes 79 = .ok (.istore_n 2, 1) := by decide +kernel
theorem dX7_becomes_80 : decode cX7_becomes 80 = .ok (.iload_n 2, 1) := by decide +kernel
theorem dX7_becomes_81 : decode cX7_becomes 81 = .ok (.bipush 14, 2) := by decide +kernel
theorem dX7_becomes_83 : decode cX7_becomes 83 = .ok (.if_icmp .ge 33, 3) := by decide +kernel
theorem dX7_becomes_86 : decode cX7_becomes 86 = .ok (.aload_n 0, 1) := by decide +kernel
theorem dX7_becomes_87 : decode cX7_becomes 87 = .ok (.getfield 18, 3) := by decide +kernel
theorem dX7_becomes_90 : decode cX7_becomes 90 = .ok (.iload_n 2, 1) := by decide +kernel
theorem dX7_becomes_91 : decode cX7_becomes 91 = .ok (.aload_n 1, 1) := by decide +kernel
theorem dX7_becomes_92 : decode cX7_becomes 92 = .ok (.getfield 18, 3) := by decide +kernel
theorem dX7_becomes_95 : decode cX7_becomes 95 = .ok (.iload_n 2, 1) := by decide +kernel
theorem dX7_becomes_96 : decode cX7_becomes 96 = .ok (.iaload, 1) := by decide +kernel
theorem dX7_becomes_97 : decode cX7_becomes 97 = .ok (.iastore, 1) := by decide +kernel
theorem dX7_becomes_98 : decode cX7_becomes 98 = .ok (.aload_n 0, 1) := by decide +kernel
theorem dX7_becomes_99 : decode cX7_becomes 99 = .ok (.getfield 21, 3) := by decide +kernel
theorem dX7_becomes_102 : decode cX7_becomes 102 = .ok (.iload_n 2, 1) := by decide +kernel
theorem dX7_becomes_103 : decode cX7_becomes 103 = .ok (.aload_n 1, 1) := by decide +kernel
theorem dX7_becomes_104 : decode cX7_becomes 104 = .ok (.getfield 21, 3) := by decide +kernel
theorem dX7_becomes_107 : decode cX7_becomes 107 = .ok (.iload_n 2, 1) := by decide +kernel
theorem dX7_becomes_108 : decode cX7_becomes 108 = .ok (.iaload, 1) := by decide +kernel
theorem dX7_becomes_109 : decode cX7_becomes 109 = .ok (.iastore, 1) := by decide +kernel
theorem dX7_becomes_110 : decode cX7_becomes 110 = .ok (.iinc 2 1, 3) := by decide +kernel
theorem dX7_becomes_113 : decode cX7_becomes 113 = .ok (.goto (-33), 3) := by decide +kernel
theorem dX7_becomes_116 : decode cX7_becomes 116 = .ok (.return_, 1) := by decide +kernel
theorem dX7_hasTable_0 : decode cX7_hasTable 0 = .ok (.iload_n 1, 1) := by decide +kernel
theorem dX7_hasTable_1 : decode cX7_hasTable 1 = .ok (.ifCond .lt 15, 3) := by decide +kernel
theorem dX7_hasTable_4 : decode cX7_hasTable 4 = .ok (.iload_n 1, 1) := by decide +kernel
theorem dX7_hasTable_5 : decode cX7_hasTable 5 = .ok (.aload_n 0, 1) := by decide +kernel
theorem dX7_hasTable_6 : decode cX7_hasTable 6 = .ok (.getfield 35, 3) := by decide +kernel
theorem dX7_hasTable_9 : decode cX7_hasTable 9 = .ok (.if_icmp .ge 7, 3) := by decide +kernel
theorem dX7_hasTable_12 : decode cX7_hasTable 12 = .ok (.iconst 1, 1) := by decide +kernel
theorem dX7_hasTable_13 : decode cX7_hasTable 13 = .ok (.goto 4, 3) := by decide +kernel
theorem dX7_hasTable_16 : decode cX7_hasTable 16 = .ok (.iconst 0, 1) := by decide +kernel
theorem dX7_hasTable_17 : decode cX7_hasTable 17 = .ok (.ireturn, 1) := by decide +kernel
theorem dX7_hasWay_0 : decode cX7_hasWay 0 = .ok (.iload_n 1, 1) := by decide +kernel
theorem dX7_hasWay_1 : decode cX7_hasWay 1 = .ok (.ifCond .lt 15, 3) := by decide +kernel
theorem dX7_hasWay_4 : decode cX7_hasWay 4 = .ok (.iload_n 1, 1) := by decide +kernel
theorem dX7_hasWay_5 : decode cX7_hasWay 5 = .ok (.aload_n 0, 1) := by decide +kernel
theorem dX7_hasWay_6 : decode cX7_hasWay 6 = .ok (.getfield 38, 3) := by decide +kernel
theorem dX7_hasWay_9 : decode cX7_hasWay 9 = .ok (.if_icmp .ge 7, 3) := by decide +kernel
theorem dX7_hasWay_12 : decode cX7_hasWay 12 = .ok (.iconst 1, 1) := by decide +kernel
theorem dX7_hasWay_13 : decode cX7_hasWay 13 = .ok (.goto 4, 3) := by decide +kernel
theorem dX7_hasWay_16 : decode cX7_hasWay 16 = .ok (.iconst 0, 1) := by decide +kernel
theorem dX7_hasWay_17 : decode cX7_hasWay 17 = .ok (.ireturn, 1) := by decide +kernel
theorem dX7_allTables_0 : decode cX7_allTables 0 = .ok (.iconst 1, 1) := by decide +kernel
theorem dX7_allTables_1 : decode cX7_allTables 1 = .ok (.aload_n 0, 1) := by decide +kernel
theorem dX7_allTables_2 : decode cX7_allTables 2 = .ok (.getfield 35, 3) := by decide +kernel
theorem dX7_allTables_5 : decode cX7_allTables 5 = .ok (.ishl, 1) := by decide +kernel
theorem dX7_allTables_6 : decode cX7_allTables 6 = .ok (.iconst 1, 1) := by decide +kernel
theorem dX7_allTables_7 : decode cX7_allTables 7 = .ok (.isub, 1) := by decide +kernel
theorem dX7_allTables_8 : decode cX7_allTables 8 = .ok (.ireturn, 1) := by decide +kernel
theorem dX7_hasAll_0 : decode cX7_hasAll 0 = .ok (.iload_n 1, 1) := by decide +kernel
theorem dX7_hasAll_1 : decode cX7_hasAll 1 = .ok (.aload_n 0, 1) := by decide +kernel
theorem dX7_hasAll_2 : decode cX7_hasAll 2 = .ok (.invokevirtual 41, 3) := by decide +kernel
theorem dX7_hasAll_5 : decode cX7_hasAll 5 = .ok (.iconst (-1), 1) := by decide +kernel
theorem dX7_hasAll_6 : decode cX7_hasAll 6 = .ok (.ixor, 1) := by decide +kernel
theorem dX7_hasAll_7 : decode cX7_hasAll 7 = .ok (.iand, 1) := by decide +kernel
theorem dX7_hasAll_8 : decode cX7_hasAll 8 = .ok (.ifCond .ne 7, 3) := by decide +kernel
theorem dX7_hasAll_11 : decode cX7_hasAll 11 = .ok (.iconst 1, 1) := by decide +kernel
theorem dX7_hasAll_12 : decode cX7_hasAll 12 = .ok (.goto 4, 3) := by decide +kernel
theorem dX7_hasAll_15 : decode cX7_hasAll 15 = .ok (.iconst 0, 1) := by decide +kernel
theorem dX7_hasAll_16 : decode cX7_hasAll 16 = .ok (.ireturn, 1) := by decide +kernel
theorem dX7_joins_0 : decode cX7_joins 0 = .ok (.iconst 0, 1) := by decide +kernel
theorem dX7_joins_1 : decode cX7_joins 1 = .ok (.istore_n 3, 1) := by decide +kernel
theorem dX7_joins_2 : decode cX7_joins 2 = .ok (.iload_n 3, 1) := by decide +kernel
theorem dX7_joins_3 : decode cX7_joins 3 = .ok (.aload_n 0, 1) := by decide +kernel
theorem dX7_joins_4 : decode cX7_joins 4 = .ok (.getfield 38, 3) := by decide +kernel
theorem dX7_joins_7 : decode cX7_joins 7 = .ok (.if_icmp .ge 51, 3) := by decide +kernel
theorem dX7_joins_10 : decode cX7_joins 10 = .ok (.aload_n 0, 1) := by decide +kernel
theorem dX7_joins_11 : decode cX7_joins 11 = .ok (.getfield 18, 3) := by decide +kernel
theorem dX7_joins_14 : decode cX7_joins 14 = .ok (.iload_n 3, 1) := by decide +kernel
theorem dX7_joins_15 : decode cX7_joins 15 = .ok (.iaload, 1) := by decide +kernel
theorem dX7_joins_16 : decode cX7_joins 16 = .ok (.iload_n 1, 1) := by decide +kernel
theorem dX7_joins_17 : decode cX7_joins 17 = .ok (.if_icmp .ne 13, 3) := by decide +kernel
theorem dX7_joins_20 : decode cX7_joins 20 = .ok (.aload_n 0, 1) := by decide +kernel
theorem dX7_joins_21 : decode cX7_joins 21 = .ok (.getfield 21, 3) := by decide +kernel
theorem dX7_joins_24 : decode cX7_joins 24 = .ok (.iload_n 3, 1) := by decide +kernel
theorem dX7_joins_25 : decode cX7_joins 25 = .ok (.iaload, 1) := by decide +kernel
theorem dX7_joins_26 : decode cX7_joins 26 = .ok (.iload_n 2, 1) := by decide +kernel
theorem dX7_joins_27 : decode cX7_joins 27 = .ok (.if_icmp .eq 23, 3) := by decide +kernel
theorem dX7_joins_30 : decode cX7_joins 30 = .ok (.aload_n 0, 1) := by decide +kernel
theorem dX7_joins_31 : decode cX7_joins 31 = .ok (.getfield 18, 3) := by decide +kernel
theorem dX7_joins_34 : decode cX7_joins 34 = .ok (.iload_n 3, 1) := by decide +kernel
theorem dX7_joins_35 : decode cX7_joins 35 = .ok (.iaload, 1) := by decide +kernel
theorem dX7_joins_36 : decode cX7_joins 36 = .ok (.iload_n 2, 1) := by decide +kernel
theorem dX7_joins_37 : decode cX7_joins 37 = .ok (.if_icmp .ne 15, 3) := by decide +kernel
theorem dX7_joins_40 : decode cX7_joins 40 = .ok (.aload_n 0, 1) := by decide +kernel
theorem dX7_joins_41 : decode cX7_joins 41 = .ok (.getfield 21, 3) := by decide +kernel
theorem dX7_joins_44 : decode cX7_joins 44 = .ok (.iload_n 3, 1) := by decide +kernel
theorem dX7_joins_45 : decode cX7_joins 45 = .ok (.iaload, 1) := by decide +kernel
theorem dX7_joins_46 : decode cX7_joins 46 = .ok (.iload_n 1, 1) := by decide +kernel
theorem dX7_joins_47 : decode cX7_joins 47 = .ok (.if_icmp .ne 5, 3) := by decide +kernel
theorem dX7_joins_50 : decode cX7_joins 50 = .ok (.iconst 1, 1) := by decide +kernel
theorem dX7_joins_51 : decode cX7_joins 51 = .ok (.ireturn, 1) := by decide +kernel
theorem dX7_joins_52 : decode cX7_joins 52 = .ok (.iinc 3 1, 3) := by decide +kernel
theorem dX7_joins_55 : decode cX7_joins 55 = .ok (.goto (-53), 3) := by decide +kernel
theorem dX7_joins_58 : decode cX7_joins 58 = .ok (.iconst 0, 1) := by decide +kernel
theorem dX7_joins_59 : decode cX7_joins 59 = .ok (.ireturn, 1) := by decide +kernel
theorem dX7_addTable_0 : decode cX7_addTable 0 = .ok (.aload_n 0, 1) := by decide +kernel
theorem dX7_addTable_1 : decode cX7_addTable 1 = .ok (.getfield 35, 3) := by decide +kernel
theorem dX7_addTable_4 : decode cX7_addTable 4 = .ok (.bipush 9, 2) := by decide +kernel
theorem dX7_addTable_6 : decode cX7_addTable 6 = .ok (.if_icmp .ge 33, 3) := by decide +kernel
theorem dX7_addTable_9 : decode cX7_addTable 9 = .ok (.aload_n 0, 1) := by decide +kernel
theorem dX7_addTable_10 : decode cX7_addTable 10 = .ok (.getfield 9, 3) := by decide +kernel
theorem dX7_addTable_13 : decode cX7_addTable 13 = .ok (.aload_n 0, 1) := by decide +kernel
theorem dX7_addTable_14 : decode cX7_addTable 14 = .ok (.getfield 35, 3) := by decide +kernel
theorem dX7_addTable_17 : decode cX7_addTable 17 = .ok (.iload_n 1, 1) := by decide +kernel
theorem dX7_addTable_18 : decode cX7_addTable 18 = .ok (.iastore, 1) := by decide +kernel
theorem dX7_addTable_19 : decode cX7_addTable 19 = .ok (.aload_n 0, 1) := by decide +kernel
theorem dX7_addTable_20 : decode cX7_addTable 20 = .ok (.getfield 15, 3) := by decide +kernel
theorem dX7_addTable_23 : decode cX7_addTable 23 = .ok (.aload_n 0, 1) := by decide +kernel
theorem dX7_addTable_24 : decode cX7_addTable 24 = .ok (.getfield 35, 3) := by decide +kernel
theorem dX7_addTable_27 : decode cX7_addTable 27 = .ok (.iload_n 2, 1) := by decide +kernel
theorem dX7_addTable_28 : decode cX7_addTable 28 = .ok (.iastore, 1) := by decide +kernel
theorem dX7_addTable_29 : decode cX7_addTable 29 = .ok (.aload_n 0, 1) := by decide +kernel
theorem dX7_addTable_30 : decode cX7_addTable 30 = .ok (.dup, 1) := by decide +kernel
theorem dX7_addTable_31 : decode cX7_addTable 31 = .ok (.getfield 35, 3) := by decide +kernel
theorem dX7_addTable_34 : decode cX7_addTable 34 = .ok (.iconst 1, 1) := by decide +kernel
theorem dX7_addTable_35 : decode cX7_addTable 35 = .ok (.iadd, 1) := by decide +kernel
theorem dX7_addTable_36 : decode cX7_addTable 36 = .ok (.putfield 35, 3) := by decide +kernel
theorem dX7_addTable_39 : decode cX7_addTable 39 = .ok (.return_, 1) := by decide +kernel
theorem dX7_addWay_0 : decode cX7_addWay 0 = .ok (.aload_n 0, 1) := by decide +kernel
theorem dX7_addWay_1 : decode cX7_addWay 1 = .ok (.getfield 38, 3) := by decide +kernel
theorem dX7_addWay_4 : decode cX7_addWay 4 = .ok (.bipush 14, 2) := by decide +kernel
theorem dX7_addWay_6 : decode cX7_addWay 6 = .ok (.if_icmp .ge 33, 3) := by decide +kernel
theorem dX7_addWay_9 : decode cX7_addWay 9 = .ok (.aload_n 0, 1) := by decide +kernel
theorem dX7_addWay_10 : decode cX7_addWay 10 = .ok (.getfield 18, 3) := by decide +kernel
theorem dX7_addWay_13 : decode cX7_addWay 13 = .ok (.aload_n 0, 1) := by decide +kernel
theorem dX7_addWay_14 : decode cX7_addWay 14 = .ok (.getfield 38, 3) := by decide +kernel
theorem dX7_addWay_17 : decode cX7_addWay 17 = .ok (.iload_n 1, 1) := by decide +kernel
theorem dX7_addWay_18 : decode cX7_addWay 18 = .ok (.iastore, 1) := by decide +kernel
theorem dX7_addWay_19 : decode cX7_addWay 19 = .ok (.aload_n 0, 1) := by decide +kernel
theorem dX7_addWay_20 : decode cX7_addWay 20 = .ok (.getfield 21, 3) := by decide +kernel
theorem dX7_addWay_23 : decode cX7_addWay 23 = .ok (.aload_n 0, 1) := by decide +kernel
theorem dX7_addWay_24 : decode cX7_addWay 24 = .ok (.getfield 38, 3) := by decide +kernel
theorem dX7_addWay_27 : decode cX7_addWay 27 = .ok (.iload_n 2, 1) := by decide +kernel
theorem dX7_addWay_28 : decode cX7_addWay 28 = .ok (.iastore, 1) := by decide +kernel
theorem dX7_addWay_29 : decode cX7_addWay 29 = .ok (.aload_n 0, 1) := by decide +kernel
theorem dX7_addWay_30 : decode cX7_addWay 30 = .ok (.dup, 1) := by decide +kernel
theorem dX7_addWay_31 : decode cX7_addWay 31 = .ok (.getfield 38, 3) := by decide +kernel
theorem dX7_addWay_34 : decode cX7_addWay 34 = .ok (.iconst 1, 1) := by decide +kernel
theorem dX7_addWay_35 : decode cX7_addWay 35 = .ok (.iadd, 1) := by decide +kernel
theorem dX7_addWay_36 : decode cX7_addWay 36 = .ok (.putfield 38, 3) := by decide +kernel
theorem dX7_addWay_39 : decode cX7_addWay 39 = .ok (.return_, 1) := by decide +kernel
theorem dX8_init_0 : decode cX8_init 0 = .ok (.aload_n 0, 1) := by decide +kernel
theorem dX8_init_1 : decode cX8_init 1 = .ok (.invokespecial 3, 3) := by decide +kernel
theorem dX8_init_4 : decode cX8_init 4 = .ok (.return_, 1) := by decide +kernel
theorem dX8_forget_0 : decode cX8_forget 0 = .ok (.aload_n 0, 1) := by decide +kernel
theorem dX8_forget_1 : decode cX8_forget 1 = .ok (.iconst 0, 1) := by decide +kernel
theorem dX8_forget_2 : decode cX8_forget 2 = .ok (.putfield 9, 3) := by decide +kernel
theorem dX8_forget_5 : decode cX8_forget 5 = .ok (.aload_n 0, 1) := by decide +kernel
theorem dX8_forget_6 : decode cX8_forget 6 = .ok (.iconst 0, 1) := by decide +kernel
theorem dX8_forget_7 : decode cX8_forget 7 = .ok (.putfield 15, 3) := by decide +kernel
theorem dX8_forget_10 : decode cX8_forget 10 = .ok (.aload_n 0, 1) := by decide +kernel
theorem dX8_forget_11 : decode cX8_forget 11 = .ok (.iconst 0, 1) := by decide +kernel
theorem dX8_forget_12 : decode cX8_forget 12 = .ok (.putfield 18, 3) := by decide +kernel
theorem dX8_forget_15 : decode cX8_forget 15 = .ok (.return_, 1) := by decide +kernel
theorem dX8_add_0 : decode cX8_add 0 = .ok (.iload_n 2, 1) := by decide +kernel
theorem dX8_add_1 : decode cX8_add 1 = .ok (.ifCond .eq 18, 3) := by decide +kernel
theorem dX8_add_4 : decode cX8_add 4 = .ok (.aload_n 0, 1) := by decide +kernel
theorem dX8_add_5 : decode cX8_add 5 = .ok (.dup, 1) := by decide +kernel
theorem dX8_add_6 : decode cX8_add 6 = .ok (.getfield 15, 3) := by decide +kernel
theorem dX8_add_9 : decode cX8_add 9 = .ok (.iconst 1, 1) := by decide +kernel
theorem dX8_add_10 : decode cX8_add 10 = .ok (.iload_n 1, 1) := by decide +kernel
theorem dX8_add_11 : decode cX8_add 11 = .ok (.ishl, 1) := by decide +kernel
theorem dX8_add_12 : decode cX8_add 12 = .ok (.ior, 1) := by decide +kernel
theorem dX8_add_13 : decode cX8_add 13 = .ok (.putfield 15, 3) := by decide +kernel
theorem dX8_add_16 : decode cX8_add 16 = .ok (.goto 15, 3) := by decide +kernel
theorem dX8_add_19 : decode cX8_add 19 = .ok (.aload_n 0, 1) := by decide +kernel
theorem dX8_add_20 : decode cX8_add 20 = .ok (.dup, 1) := by decide +kernel
theorem dX8_add_21 : decode cX8_add 21 = .ok (.getfield 18, 3) := by decide +kernel
theorem dX8_add_24 : decode cX8_add 24 = .ok (.iconst 1, 1) := by decide +kernel
theorem dX8_add_25 : decode cX8_add 25 = .ok (.iload_n 1, 1) := by decide +kernel
theorem dX8_add_26 : decode cX8_add 26 = .ok (.ishl, 1) := by decide +kernel
theorem dX8_add_27 : decode cX8_add 27 = .ok (.ior, 1) := by decide +kernel
theorem dX8_add_28 : decode cX8_add 28 = .ok (.putfield 18, 3) := by decide +kernel
theorem dX8_add_31 : decode cX8_add 31 = .ok (.aload_n 0, 1) := by decide +kernel
theorem dX8_add_32 : decode cX8_add 32 = .ok (.dup, 1) := by decide +kernel
theorem dX8_add_33 : decode cX8_add 33 = .ok (.getfield 9, 3) := by decide +kernel
theorem dX8_add_36 : decode cX8_add 36 = .ok (.iconst 1, 1) := by decide +kernel
theorem dX8_add_37 : decode cX8_add 37 = .ok (.iadd, 1) := by decide +kernel
theorem dX8_add_38 : decode cX8_add 38 = .ok (.putfield 9, 3) := by decide +kernel
theorem dX8_add_41 : decode cX8_add 41 = .ok (.return_, 1) := by decide +kernel
theorem dX8_fitting_0 : decode cX8_fitting 0 = .ok (.iconst 0, 1) := by decide +kernel
theorem dX8_fitting_1 : decode cX8_fitting 1 = .ok (.istore_n 2, 1) := by decide +kernel
theorem dX8_fitting_2 : decode cX8_fitting 2 = .ok (.iconst 0, 1) := by decide +kernel
theorem dX8_fitting_3 : decode cX8_fitting 3 = .ok (.istore_n 3, 1) := by decide +kernel
theorem dX8_fitting_4 : decode cX8_fitting 4 = .ok (.iload_n 3, 1) := by decide +kernel
theorem dX8_fitting_5 : decode cX8_fitting 5 = .ok (.aload_n 1, 1) := by decide +kernel
theorem dX8_fitting_6 : decode cX8_fitting 6 = .ok (.getfield 21, 3) := by decide +kernel
theorem dX8_fitting_9 : decode cX8_fitting 9 = .ok (.if_icmp .ge 53, 3) := by decide +kernel
theorem dX8_fitting_12 : decode cX8_fitting 12 = .ok (.aload_n 1, 1) := by decide +kernel
theorem dX8_fitting_13 : decode cX8_fitting 13 = .ok (.iload_n 3, 1) := by decide +kernel
theorem dX8_fitting_14 : decode cX8_fitting 14 = .ok (.invokevirtual 26, 3) := by decide +kernel
theorem dX8_fitting_17 : decode cX8_fitting 17 = .ok (.istore 4, 2) := by decide +kernel
theorem dX8_fitting_19 : decode cX8_fitting 19 = .ok (.aload_n 1, 1) := by decide +kernel
theorem dX8_fitting_20 : decode cX8_fitting 20 = .ok (.iload_n 3, 1) := by decide +kernel
theorem dX8_fitting_21 : decode cX8_fitting 21 = .ok (.invokevirtual 30, 3) := by decide +kernel
theorem dX8_fitting_24 : decode cX8_fitting 24 = .ok (.iconst (-1), 1) := by decide +kernel
theorem dX8_fitting_25 : decode cX8_fitting 25 = .ok (.if_icmp .eq 31, 3) := by decide +kernel
theorem dX8_fitting_28 : decode cX8_fitting 28 = .ok (.aload_n 0, 1) := by decide +kernel
theorem dX8_fitting_29 : decode cX8_fitting 29 = .ok (.getfield 15, 3) := by decide +kernel
theorem dX8_fitting_32 : decode cX8_fitting 32 = .ok (.iload 4, 2) := by decide +kernel
theorem dX8_fitting_34 : decode cX8_fitting 34 = .ok (.iconst (-1), 1) := by decide +kernel
theorem dX8_fitting_35 : decode cX8_fitting 35 = .ok (.ixor, 1) := by decide +kernel
theorem dX8_fitting_36 : decode cX8_fitting 36 = .ok (.iand, 1) := by decide +kernel
theorem dX8_fitting_37 : decode cX8_fitting 37 = .ok (.ifCond .ne 19, 3) := by decide +kernel
theorem dX8_fitting_40 : decode cX8_fitting 40 = .ok (.aload_n 0, 1) := by decide +kernel
theorem dX8_fitting_41 : decode cX8_fitting 41 = .ok (.getfield 18, 3) := by decide +kernel
theorem dX8_fitting_44 : decode cX8_fitting 44 = .ok (.iload 4, 2) := by decide +kernel
theorem dX8_fitting_46 : decode cX8_fitting 46 = .ok (.iand, 1) := by decide +kernel
theorem dX8_fitting_47 : decode cX8_fitting 47 = .ok (.ifCond .ne 9, 3) := by decide +kernel
theorem dX8_fitting_50 : decode cX8_fitting 50 = .ok (.iload_n 2, 1) := by decide +kernel
theorem dX8_fitting_51 : decode cX8_fitting 51 = .ok (.iconst 1, 1) := by decide +kernel
theorem dX8_fitting_52 : decode cX8_fitting 52 = .ok (.iload_n 3, 1) := by decide +kernel
theorem dX8_fitting_53 : decode cX8_fitting 53 = .ok (.ishl, 1) := by decide +kernel
theorem dX8_fitting_54 : decode cX8_fitting 54 = .ok (.ior, 1) := by decide +kernel
theorem dX8_fitting_55 : decode cX8_fitting 55 = .ok (.istore_n 2, 1) := by decide +kernel
theorem dX8_fitting_56 : decode cX8_fitting 56 = .ok (.iinc 3 1, 3) := by decide +kernel
theorem dX8_fitting_59 : decode cX8_fitting 59 = .ok (.goto (-55), 3) := by decide +kernel
theorem dX8_fitting_62 : decode cX8_fitting 62 = .ok (.iload_n 2, 1) := by decide +kernel
theorem dX8_fitting_63 : decode cX8_fitting 63 = .ok (.ireturn, 1) := by decide +kernel
theorem dX8_best_0 : decode cX8_best 0 = .ok (.aload_n 0, 1) := by decide +kernel
theorem dX8_best_1 : decode cX8_best 1 = .ok (.aload_n 1, 1) := by decide +kernel
theorem dX8_best_2 : decode cX8_best 2 = .ok (.invokevirtual 33, 3) := by decide +kernel
theorem dX8_best_5 : decode cX8_best 5 = .ok (.istore_n 2, 1) := by decide +kernel
theorem dX8_best_6 : decode cX8_best 6 = .ok (.iconst (-1), 1) := by decide +kernel
theorem dX8_best_7 : decode cX8_best 7 = .ok (.istore_n 3, 1) := by decide +kernel
theorem dX8_best_8 : decode cX8_best 8 = .ok (.iload_n 2, 1) := by decide +kernel
theorem dX8_best_9 : decode cX8_best 9 = .ok (.invokestatic 37, 3) := by decide +kernel
theorem dX8_best_12 : decode cX8_best 12 = .ok (.istore 4, 2) := by decide +kernel
theorem dX8_best_14 : decode cX8_best 14 = .ok (.iconst 0, 1) := by decide +kernel
theorem dX8_best_15 : decode cX8_best 15 = .ok (.istore 5, 2) := by decide +kernel
theorem dX8_best_17 : decode cX8_best 17 = .ok (.iload 5, 2) := by decide +kernel
theorem dX8_best_19 : decode cX8_best 19 = .ok (.aload_n 1, 1) := by decide +kernel
theorem dX8_best_20 : decode cX8_best 20 = .ok (.getfield 21, 3) := by decide +kernel
theorem dX8_best_23 : decode cX8_best 23 = .ok (.if_icmp .ge 32, 3) := by decide +kernel
theorem dX8_best_26 : decode cX8_best 26 = .ok (.aload_n 1, 1) := by decide +kernel
theorem dX8_best_27 : decode cX8_best 27 = .ok (.iload_n 2, 1) := by decide +kernel
theorem dX8_best_28 : decode cX8_best 28 = .ok (.iload 5, 2) := by decide +kernel
theorem dX8_best_30 : decode cX8_best 30 = .ok (.invokestatic 42, 3) := by decide +kernel
theorem dX8_best_33 : decode cX8_best 33 = .ok (.istore 6, 2) := by decide +kernel
theorem dX8_best_35 : decode cX8_best 35 = .ok (.iload 6, 2) := by decide +kernel
theorem dX8_best_37 : decode cX8_best 37 = .ok (.iload 4, 2) := by decide +kernel
theorem dX8_best_39 : decode cX8_best 39 = .ok (.if_icmp .ge 10, 3) := by decide +kernel
theorem dX8_best_42 : decode cX8_best 42 = .ok (.iload 6, 2) := by decide +kernel
theorem dX8_best_44 : decode cX8_best 44 = .ok (.istore 4, 2) := by decide +kernel
theorem dX8_best_46 : decode cX8_best 46 = .ok (.iload 5, 2) := by decide +kernel
theorem dX8_best_48 : decode cX8_best 48 = .ok (.istore_n 3, 1) := by decide +kernel
theorem dX8_best_49 : decode cX8_best 49 = .ok (.iinc 5 1, 3) := by decide +kernel
theorem dX8_best_52 : decode cX8_best 52 = .ok (.goto (-35), 3) := by decide +kernel
theorem dX8_best_55 : decode cX8_best 55 = .ok (.iload_n 3, 1) := by decide +kernel
theorem dX8_best_56 : decode cX8_best 56 = .ok (.ireturn, 1) := by decide +kernel
theorem dX8_greatestPart_0 : decode cX8_greatestPart 0 = .ok (.iconst 0, 1) := by decide +kernel
theorem dX8_greatestPart_1 : decode cX8_greatestPart 1 = .ok (.istore_n 3, 1) := by decide +kernel
theorem dX8_greatestPart_2 : decode cX8_greatestPart 2 = .ok (.iconst 0, 1) := by decide +kernel
theorem dX8_greatestPart_3 : decode cX8_greatestPart 3 = .ok (.istore 4, 2) := by decide +kernel
theorem dX8_greatestPart_5 : decode cX8_greatestPart 5 = .ok (.iconst 0, 1) := by decide +kernel
theorem dX8_greatestPart_6 : decode cX8_greatestPart 6 = .ok (.istore 5, 2) := by decide +kernel
theorem dX8_greatestPart_8 : decode cX8_greatestPart 8 = .ok (.iload 5, 2) := by decide +kernel
theorem dX8_greatestPart_10 : decode cX8_greatestPart 10 = .ok (.aload_n 0, 1) := by decide +kernel
theorem dX8_greatestPart_11 : decode cX8_greatestPart 11 = .ok (.getfield 21, 3) := by decide +kernel
theorem dX8_greatestPart_14 : decode cX8_greatestPart 14 = .ok (.if_icmp .ge 34, 3) := by decide +kernel
theorem dX8_greatestPart_17 : decode cX8_greatestPart 17 = .ok (.iload_n 1, 1) := by decide +kernel
theorem dX8_greatestPart_18 : decode cX8_greatestPart 18 = .ok (.iload 5, 2) := by decide +kernel
theorem dX8_greatestPart_20 : decode cX8_greatestPart 20 = .ok (.ishr, 1) := by decide +kernel
theorem dX8_greatestPart_21 : decode cX8_greatestPart 21 = .ok (.iconst 1, 1) := by decide +kernel
theorem dX8_greatestPart_22 : decode cX8_greatestPart 22 = .ok (.iand, 1) := by decide +kernel
theorem dX8_greatestPart_23 : decode cX8_greatestPart 23 = .ok (.ifCond .eq 19, 3) := by decide +kernel
theorem dX8_greatestPart_26 : decode cX8_greatestPart 26 = .ok (.iinc 4 1, 3) := by decide +kernel
theorem dX8_greatestPart_29 : decode cX8_greatestPart 29 = .ok (.iload_n 3, 1) := by decide +kernel
theorem dX8_greatestPart_30 : decode cX8_greatestPart 30 = .ok (.aload_n 0, 1) := by decide +kernel
theorem dX8_greatestPart_31 : decode cX8_greatestPart 31 = .ok (.iload 5, 2) := by decide +kernel
theorem dX8_greatestPart_33 : decode cX8_greatestPart 33 = .ok (.invokevirtual 26, 3) := by decide +kernel
theorem dX8_greatestPart_36 : decode cX8_greatestPart 36 = .ok (.iload_n 2, 1) := by decide +kernel
theorem dX8_greatestPart_37 : decode cX8_greatestPart 37 = .ok (.ishr, 1) := by decide +kernel
theorem dX8_greatestPart_38 : decode cX8_greatestPart 38 = .ok (.iconst 1, 1) := by decide +kernel
theorem dX8_greatestPart_39 : decode cX8_greatestPart 39 = .ok (.iand, 1) := by decide +kernel
theorem dX8_greatestPart_40 : decode cX8_greatestPart 40 = .ok (.iadd, 1) := by decide +kernel
theorem dX8_greatestPart_41 : decode cX8_greatestPart 41 = .ok (.istore_n 3, 1) := by decide +kernel
theorem dX8_greatestPart_42 : decode cX8_greatestPart 42 = .ok (.iinc 5 1, 3) := by decide +kernel
theorem dX8_greatestPart_45 : decode cX8_greatestPart 45 = .ok (.goto (-37), 3) := by decide +kernel
theorem dX8_greatestPart_48 : decode cX8_greatestPart 48 = .ok (.iload_n 3, 1) := by decide +kernel
theorem dX8_greatestPart_49 : decode cX8_greatestPart 49 = .ok (.iload 4, 2) := by decide +kernel
theorem dX8_greatestPart_51 : decode cX8_greatestPart 51 = .ok (.iload_n 3, 1) := by decide +kernel
theorem dX8_greatestPart_52 : decode cX8_greatestPart 52 = .ok (.isub, 1) := by decide +kernel
theorem dX8_greatestPart_53 : decode cX8_greatestPart 53 = .ok (.invokestatic 46, 3) := by decide +kernel
theorem dX8_greatestPart_56 : decode cX8_greatestPart 56 = .ok (.ireturn, 1) := by decide +kernel
theorem dX9_init_0 : decode cX9_init 0 = .ok (.aload_n 0, 1) := by decide +kernel
theorem dX9_init_1 : decode cX9_init 1 = .ok (.invokespecial 3, 3) := by decide +kernel
theorem dX9_init_4 : decode cX9_init 4 = .ok (.aload_n 0, 1) := by decide +kernel
theorem dX9_init_5 : decode cX9_init 5 = .ok (.bipush 9, 2) := by decide +kernel
theorem dX9_init_7 : decode cX9_init 7 = .ok (.newarray .int, 2) := by decide +kernel
theorem dX9_init_9 : decode cX9_init 9 = .ok (.putfield 9, 3) := by decide +kernel
theorem dX9_init_12 : decode cX9_init 12 = .ok (.aload_n 0, 1) := by decide +kernel
theorem dX9_init_13 : decode cX9_init 13 = .ok (.bipush 9, 2) := by decide +kernel
theorem dX9_init_15 : decode cX9_init 15 = .ok (.newarray .int, 2) := by decide +kernel
theorem dX9_init_17 : decode cX9_init 17 = .ok (.putfield 15, 3) := by decide +kernel
theorem dX9_init_20 : decode cX9_init 20 = .ok (.return_, 1) := by decide +kernel
theorem dX9_begins_0 : decode cX9_begins 0 = .ok (.iconst 0, 1) := by decide +kernel
theorem dX9_begins_1 : decode cX9_begins 1 = .ok (.istore_n 2, 1) := by decide +kernel
theorem dX9_begins_2 : decode cX9_begins 2 = .ok (.iload_n 2, 1) := by decide +kernel
theorem dX9_begins_3 : decode cX9_begins 3 = .ok (.bipush 9, 2) := by decide +kernel
theorem dX9_begins_5 : decode cX9_begins 5 = .ok (.if_icmp .ge 55, 3) := by decide +kernel
theorem dX9_begins_8 : decode cX9_begins 8 = .ok (.aload_n 1, 1) := by decide +kernel
theorem dX9_begins_9 : decode cX9_begins 9 = .ok (.iload_n 2, 1) := by decide +kernel
theorem dX9_begins_10 : decode cX9_begins 10 = .ok (.invokevirtual 18, 3) := by decide +kernel
theorem dX9_begins_13 : decode cX9_begins 13 = .ok (.istore_n 3, 1) := by decide +kernel
theorem dX9_begins_14 : decode cX9_begins 14 = .ok (.aload_n 0, 1) := by decide +kernel
theorem dX9_begins_15 : decode cX9_begins 15 = .ok (.getfield 9, 3) := by decide +kernel
theorem dX9_begins_18 : decode cX9_begins 18 = .ok (.iload_n 2, 1) := by decide +kernel
theorem dX9_begins_19 : decode cX9_begins 19 = .ok (.iload_n 3, 1) := by decide +kernel
theorem dX9_begins_20 : decode cX9_begins 20 = .ok (.ifCond .eq 12, 3) := by decide +kernel
theorem dX9_begins_23 : decode cX9_begins 23 = .ok (.aload_n 1, 1) := by decide +kernel
theorem dX9_begins_24 : decode cX9_begins 24 = .ok (.getfield 24, 3) := by decide +kernel
theorem dX9_begins_27 : decode cX9_begins 27 = .ok (.iload_n 2, 1) := by decide +kernel
theorem dX9_begins_28 : decode cX9_begins 28 = .ok (.iaload, 1) := by decide +kernel
theorem dX9_begins_29 : decode cX9_begins 29 = .ok (.goto 4, 3) := by decide +kernel
theorem dX9_begins_32 : decode cX9_begins 32 = .ok (.iconst 0, 1) := by decide +kernel
theorem dX9_begins_33 : decode cX9_begins 33 = .ok (.iastore, 1) := by decide +kernel
theorem dX9_begins_34 : decode cX9_begins 34 = .ok (.aload_n 0, 1) := by decide +kernel
theorem dX9_begins_35 : decode cX9_begins 35 = .ok (.getfield 15, 3) := by decide +kernel
theorem dX9_begins_38 : decode cX9_begins 38 = .ok (.iload_n 2, 1) := by decide +kernel
theorem dX9_begins_39 : decode cX9_begins 39 = .ok (.iload_n 3, 1) := by decide +kernel
theorem dX9_begins_40 : decode cX9_begins 40 = .ok (.ifCond .eq 12, 3) := by decide +kernel
theorem dX9_begins_43 : decode cX9_begins 43 = .ok (.aload_n 1, 1) := by decide +kernel
theorem dX9_begins_44 : decode cX9_begins 44 = .ok (.getfield 25, 3) := by decide +kernel
theorem dX9_begins_47 : decode cX9_begins 47 = .ok (.iload_n 2, 1) := by decide +kernel
theorem dX9_begins_48 : decode cX9_begins 48 = .ok (.iaload, 1) := by decide +kernel
theorem dX9_begins_49 : decode cX9_begins 49 = .ok (.goto 4, 3) := by decide +kernel
theorem dX9_begins_52 : decode cX9_begins 52 = .ok (.iconst 0, 1) := by decide +kernel
theorem dX9_begins_53 : decode cX9_begins 53 = .ok (.iastore, 1) := by decide +kernel
theorem dX9_begins_54 : decode cX9_begins 54 = .ok (.iinc 2 1, 3) := by decide +kernel
theorem dX9_begins_57 : decode cX9_begins 57 = .ok (.goto (-55), 3) := by decide +kernel
theorem dX9_begins_60 : decode cX9_begins 60 = .ok (.aload_n 0, 1) := by decide +kernel
theorem dX9_begins_61 : decode cX9_begins 61 = .ok (.aload_n 1, 1) := by decide +kernel
theorem dX9_begins_62 : decode cX9_begins 62 = .ok (.getfield 26, 3) := by decide +kernel
theorem dX9_begins_65 : decode cX9_begins 65 = .ok (.putfield 30, 3) := by decide +kernel
theorem dX9_begins_68 : decode cX9_begins 68 = .ok (.aload_n 0, 1) := by decide +kernel
theorem dX9_begins_69 : decode cX9_begins 69 = .ok (.iconst 0, 1) := by decide +kernel
theorem dX9_begins_70 : decode cX9_begins 70 = .ok (.putfield 31, 3) := by decide +kernel
theorem dX9_begins_73 : decode cX9_begins 73 = .ok (.aload_n 0, 1) := by decide +kernel
theorem dX9_begins_74 : decode cX9_begins 74 = .ok (.iconst 0, 1) := by decide +kernel
theorem dX9_begins_75 : decode cX9_begins 75 = .ok (.putfield 34, 3) := by decide +kernel
theorem dX9_begins_78 : decode cX9_begins 78 = .ok (.aload_n 0, 1) := by decide +kernel
theorem dX9_begins_79 : decode cX9_begins 79 = .ok (.iconst 0, 1) := by decide +kernel
theorem dX9_begins_80 : decode cX9_begins 80 = .ok (.putfield 37, 3) := by decide +kernel
theorem dX9_begins_83 : decode cX9_begins 83 = .ok (.aload_n 0, 1) := by decide +kernel
theorem dX9_begins_84 : decode cX9_begins 84 = .ok (.iconst 0, 1) := by decide +kernel
theorem dX9_begins_85 : decode cX9_begins 85 = .ok (.putfield 40, 3) := by decide +kernel
theorem dX9_begins_88 : decode cX9_begins 88 = .ok (.aload_n 0, 1) := by decide +kernel
theorem dX9_begins_89 : decode cX9_begins 89 = .ok (.iconst 0, 1) := by decide +kernel
theorem dX9_begins_90 : decode cX9_begins 90 = .ok (.putfield 43, 3) := by decide +kernel
theorem dX9_begins_93 : decode cX9_begins 93 = .ok (.aload_n 0, 1) := by decide +kernel
theorem dX9_begins_94 : decode cX9_begins 94 = .ok (.iconst 0, 1) := by decide +kernel
theorem dX9_begins_95 : decode cX9_begins 95 = .ok (.putfield 46, 3) := by decide +kernel
theorem dX9_begins_98 : decode cX9_begins 98 = .ok (.return_, 1) := by decide +kernel
theorem dX9_becomes_0 : decode cX9_becomes 0 = .ok (.iconst 0, 1) := by decide +kernel
theorem dX9_becomes_1 : decode cX9_becomes 1 = .ok (.istore_n 2, 1) := by decide +kernel
theorem dX9_becomes_2 : decode cX9_becomes 2 = .ok (.iload_n 2, 1) := by decide +kernel
theorem dX9_becomes_3 : decode cX9_becomes 3 = .ok (.bipush 9, 2) := by decide +kernel
theorem dX9_becomes_5 : decode cX9_becomes 5 = .ok (.if_icmp .ge 33, 3) := by decide +kernel
theorem dX9_becomes_8 : decode cX9_becomes 8 = .ok (.aload_n 0, 1) := by decide +kernel
theorem dX9_becomes_9 : decode cX9_becomes 9 = .ok (.getfield 9, 3) := by decide +kernel
theorem dX9_becomes_12 : decode cX9_becomes 12 = .ok (.iload_n 2, 1) := by decide +kernel
theorem dX9_becomes_13 : decode cX9_becomes 13 = .ok (.aload_n 1, 1) := by decide +kernel
theorem dX9_becomes_14 : decode cX9_becomes 14 = .ok (.getfield 9, 3) := by decide +kernel
theorem dX9_becomes_17 : decode cX9_becomes 17 = .ok (.iload_n 2, 1) := by decide +kernel
theorem dX9_becomes_18 : decode cX9_becomes 18 = .ok (.iaload, 1) := by decide +kernel
theorem dX9_becomes_19 : decode cX9_becomes 19 = .ok (.iastore, 1) := by decide +kernel
theorem dX9_becomes_20 : decode cX9_becomes 20 = .ok (.aload_n 0, 1) := by decide +kernel
theorem dX9_becomes_21 : decode cX9_becomes 21 = .ok (.getfield 15, 3) := by decide +kernel
theorem dX9_becomes_24 : decode cX9_becomes 24 = .ok (.iload_n 2, 1) := by decide +kernel
theorem dX9_becomes_25 : decode cX9_becomes 25 = .ok (.aload_n 1, 1) := by decide +kernel
theorem dX9_becomes_26 : decode cX9_becomes 26 = .ok (.getfield 15, 3) := by decide +kernel
theorem dX9_becomes_29 : decode cX9_becomes 29 = .ok (.iload_n 2, 1) := by decide +kernel
theorem dX9_becomes_30 : decode cX9_becomes 30 = .ok (.iaload, 1) := by decide +kernel
theorem dX9_becomes_31 : decode cX9_becomes 31 = .ok (.iastore, 1) := by decide +kernel
theorem dX9_becomes_32 : decode cX9_becomes 32 = .ok (.iinc 2 1, 3) := by decide +kernel
theorem dX9_becomes_35 : decode cX9_becomes 35 = .ok (.goto (-33), 3) := by decide +kernel
theorem dX9_becomes_38 : decode cX9_becomes 38 = .ok (.aload_n 0, 1) := by decide +kernel
theorem dX9_becomes_39 : decode cX9_becomes 39 = .ok (.aload_n 1, 1) := by decide +kernel
theorem dX9_becomes_40 : decode cX9_becomes 40 = .ok (.getfield 30, 3) := by decide +kernel
theorem dX9_becomes_43 : decode cX9_becomes 43 = .ok (.putfield 30, 3) := by decide +kernel
theorem dX9_becomes_46 : decode cX9_becomes 46 = .ok (.aload_n 0, 1) := by decide +kernel
theorem dX9_becomes_47 : decode cX9_becomes 47 = .ok (.aload_n 1, 1) := by decide +kernel
theorem dX9_becomes_48 : decode cX9_becomes 48 = .ok (.getfield 31, 3) := by decide +kernel
theorem dX9_becomes_51 : decode cX9_becomes 51 = .ok (.putfield 31, 3) := by decide +kernel
theorem dX9_becomes_54 : decode cX9_becomes 54 = .ok (.aload_n 0, 1) := by decide +kernel
theorem dX9_becomes_55 : decode cX9_becomes 55 = .ok (.aload_n 1, 1) := by decide +kernel
theorem dX9_becomes_56 : decode cX9_becomes 56 = .ok (.getfield 34, 3) := by decide +kernel
theorem dX9_becomes_59 : decode cX9_becomes 59 = .ok (.putfield 34, 3) := by decide +kernel
theorem dX9_becomes_62 : decode cX9_becomes 62 = .ok (.aload_n 0, 1) := by decide +kernel
theorem dX9_becomes_63 : decode cX9_becomes 63 = .ok (.aload_n 1, 1) := by decide +kernel
theorem dX9_becomes_64 : decode cX9_becomes 64 = .ok (.getfield 37, 3) := by decide +kernel
theorem dX9_becomes_67 : decode cX9_becomes 67 = .ok (.putfield 37, 3) := by decide +kernel
theorem dX9_becomes_70 : decode cX9_becomes 70 = .ok (.aload_n 0, 1) := by decide +kernel
theorem dX9_becomes_71 : decode cX9_becomes 71 = .ok (.aload_n 1, 1) := by decide +kernel
theorem dX9_becomes_72 : decode cX9_becomes 72 = .ok (.getfield 40, 3) := by decide +kernel
theorem dX9_becomes_75 : decode cX9_becomes 75 = .ok (.putfield 40, 3) := by decide +kernel
theorem dX9_becomes_78 : decode cX9_becomes 78 = .ok (.aload_n 0, 1) := by decide +kernel
theorem dX9_becomes_79 : decode cX9_becomes 79 = .ok (.aload_n 1, 1) := by decide +kernel
theorem dX9_becomes_80 : decode cX9_becomes 80 = .ok (.getfield 43, 3) := by decide +kernel
theorem dX9_becomes_83 : decode cX9_becomes 83 = .ok (.putfield 43, 3) := by decide +kernel
theorem dX9_becomes_86 : decode cX9_becomes 86 = .ok (.aload_n 0, 1) := by decide +kernel
theorem dX9_becomes_87 : decode cX9_becomes 87 = .ok (.aload_n 1, 1) := by decide +kernel
theorem dX9_becomes_88 : decode cX9_becomes 88 = .ok (.getfield 46, 3) := by decide +kernel
theorem dX9_becomes_91 : decode cX9_becomes 91 = .ok (.putfield 46, 3) := by decide +kernel
theorem dX9_becomes_94 : decode cX9_becomes 94 = .ok (.return_, 1) := by decide +kernel
theorem dX9_free_0 : decode cX9_free 0 = .ok (.iload_n 1, 1) := by decide +kernel
theorem dX9_free_1 : decode cX9_free 1 = .ok (.ifCond .lt 25, 3) := by decide +kernel
theorem dX9_free_4 : decode cX9_free 4 = .ok (.iload_n 1, 1) := by decide +kernel
theorem dX9_free_5 : decode cX9_free 5 = .ok (.bipush 9, 2) := by decide +kernel
theorem dX9_free_7 : decode cX9_free 7 = .ok (.if_icmp .ge 19, 3) := by decide +kernel
theorem dX9_free_10 : decode cX9_free 10 = .ok (.aload_n 0, 1) := by decide +kernel
theorem dX9_free_11 : decode cX9_free 11 = .ok (.getfield 9, 3) := by decide +kernel
theorem dX9_free_14 : decode cX9_free 14 = .ok (.iload_n 1, 1) := by decide +kernel
theorem dX9_free_15 : decode cX9_free 15 = .ok (.iaload, 1) := by decide +kernel
theorem dX9_free_16 : decode cX9_free 16 = .ok (.aload_n 0, 1) := by decide +kernel
theorem dX9_free_17 : decode cX9_free 17 = .ok (.getfield 15, 3) := by decide +kernel
theorem dX9_free_20 : decode cX9_free 20 = .ok (.iload_n 1, 1) := by decide +kernel
theorem dX9_free_21 : decode cX9_free 21 = .ok (.iaload, 1) := by decide +kernel
theorem dX9_free_22 : decode cX9_free 22 = .ok (.isub, 1) := by decide +kernel
theorem dX9_free_23 : decode cX9_free 23 = .ok (.goto 4, 3) := by decide +kernel
theorem dX9_free_26 : decode cX9_free 26 = .ok (.iconst 0, 1) := by decide +kernel
theorem dX9_free_27 : decode cX9_free 27 = .ok (.ireturn, 1) := by decide +kernel
theorem dX9_sitting_0 : decode cX9_sitting 0 = .ok (.iconst 0, 1) := by decide +kernel
theorem dX9_sitting_1 : decode cX9_sitting 1 = .ok (.istore_n 1, 1) := by decide +kernel
theorem dX9_sitting_2 : decode cX9_sitting 2 = .ok (.iconst 0, 1) := by decide +kernel
theorem dX9_sitting_3 : decode cX9_sitting 3 = .ok (.istore_n 2, 1) := by decide +kernel
theorem dX9_sitting_4 : decode cX9_sitting 4 = .ok (.iload_n 2, 1) := by decide +kernel
theorem dX9_sitting_5 : decode cX9_sitting 5 = .ok (.bipush 9, 2) := by decide +kernel
theorem dX9_sitting_7 : decode cX9_sitting 7 = .ok (.if_icmp .ge 18, 3) := by decide +kernel
theorem dX9_sitting_10 : decode cX9_sitting 10 = .ok (.iload_n 1, 1) := by decide +kernel
theorem dX9_sitting_11 : decode cX9_sitting 11 = .ok (.aload_n 0, 1) := by decide +kernel
theorem dX9_sitting_12 : decode cX9_sitting 12 = .ok (.getfield 15, 3) := by decide +kernel
theorem dX9_sitting_15 : decode cX9_sitting 15 = .ok (.iload_n 2, 1) := by decide +kernel
theorem dX9_sitting_16 : decode cX9_sitting 16 = .ok (.iaload, 1) := by decide +kernel
theorem dX9_sitting_17 : decode cX9_sitting 17 = .ok (.iadd, 1) := by decide +kernel
theorem dX9_sitting_18 : decode cX9_sitting 18 = .ok (.istore_n 1, 1) := by decide +kernel
theorem dX9_sitting_19 : decode cX9_sitting 19 = .ok (.iinc 2 1, 3) := by decide +kernel
theorem dX9_sitting_22 : decode cX9_sitting 22 = .ok (.goto (-18), 3) := by decide +kernel
theorem dX9_sitting_25 : decode cX9_sitting 25 = .ok (.iload_n 1, 1) := by decide +kernel
theorem dX9_sitting_26 : decode cX9_sitting 26 = .ok (.ireturn, 1) := by decide +kernel
theorem dX9_withFreeBelow_0 : decode cX9_withFreeBelow 0 = .ok (.iconst 0, 1) := by decide +kernel
theorem dX9_withFreeBelow_1 : decode cX9_withFreeBelow 1 = .ok (.istore_n 3, 1) := by decide +kernel
theorem dX9_withFreeBelow_2 : decode cX9_withFreeBelow 2 = .ok (.iconst 0, 1) := by decide +kernel
theorem dX9_withFreeBelow_3 : decode cX9_withFreeBelow 3 = .ok (.istore 4, 2) := by decide +kernel
theorem dX9_withFreeBelow_5 : decode cX9_withFreeBelow 5 = .ok (.iload 4, 2) := by decide +kernel
theorem dX9_withFreeBelow_7 : decode cX9_withFreeBelow 7 = .ok (.iload_n 2, 1) := by decide +kernel
theorem dX9_withFreeBelow_8 : decode cX9_withFreeBelow 8 = .ok (.if_icmp .ge 26, 3) := by decide +kernel
theorem dX9_withFreeBelow_11 : decode cX9_withFreeBelow 11 = .ok (.aload_n 0, 1) := by decide +kernel
theorem dX9_withFreeBelow_12 : decode cX9_withFreeBelow 12 = .ok (.iload 4, 2) := by decide +kernel
theorem dX9_withFreeBelow_14 : decode cX9_withFreeBelow 14 = .ok (.invokevirtual 49, 3) := by decide +kernel
theorem dX9_withFreeBelow_17 : decode cX9_withFreeBelow 17 = .ok (.iload_n 1, 1) := by decide +kernel
theorem dX9_withFreeBelow_18 : decode cX9_withFreeBelow 18 = .ok (.if_icmp .ge 10, 3) := by decide +kernel
theorem dX9_withFreeBelow_21 : decode cX9_withFreeBelow 21 = .ok (.iload_n 3, 1) := by decide +kernel
theorem dX9_withFreeBelow_22 : decode cX9_withFreeBelow 22 = .ok (.iconst 1, 1) := by decide +kernel
theorem dX9_withFreeBelow_23 : decode cX9_withFreeBelow 23 = .ok (.iload 4, 2) := by decide +kernel
theorem dX9_withFreeBelow_25 : decode cX9_withFreeBelow 25 = .ok (.ishl, 1) := by decide +kernel
theorem dX9_withFreeBelow_26 : decode cX9_withFreeBelow 26 = .ok (.ior, 1) := by decide +kernel
theorem dX9_withFreeBelow_27 : decode cX9_withFreeBelow 27 = .ok (.istore_n 3, 1) := by decide +kernel
theorem dX9_withFreeBelow_28 : decode cX9_withFreeBelow 28 = .ok (.iinc 4 1, 3) := by decide +kernel
theorem dX9_withFreeBelow_31 : decode cX9_withFreeBelow 31 = .ok (.goto (-26), 3) := by decide +kernel
theorem dX9_withFreeBelow_34 : decode cX9_withFreeBelow 34 = .ok (.iload_n 3, 1) := by decide +kernel
theorem dX9_withFreeBelow_35 : decode cX9_withFreeBelow 35 = .ok (.ireturn, 1) := by decide +kernel
theorem dX9_isShut_0 : decode cX9_isShut 0 = .ok (.aload_n 0, 1) := by decide +kernel
theorem dX9_isShut_1 : decode cX9_isShut 1 = .ok (.getfield 31, 3) := by decide +kernel
theorem dX9_isShut_4 : decode cX9_isShut 4 = .ok (.iload_n 1, 1) := by decide +kernel
theorem dX9_isShut_5 : decode cX9_isShut 5 = .ok (.ishr, 1) := by decide +kernel
theorem dX9_isShut_6 : decode cX9_isShut 6 = .ok (.iconst 1, 1) := by decide +kernel
theorem dX9_isShut_7 : decode cX9_isShut 7 = .ok (.iand, 1) := by decide +kernel
theorem dX9_isShut_8 : decode cX9_isShut 8 = .ok (.ifCond .eq 7, 3) := by decide +kernel
theorem dX9_isShut_11 : decode cX9_isShut 11 = .ok (.iconst 1, 1) := by decide +kernel
theorem dX9_isShut_12 : decode cX9_isShut 12 = .ok (.goto 4, 3) := by decide +kernel
theorem dX9_isShut_15 : decode cX9_isShut 15 = .ok (.iconst 0, 1) := by decide +kernel
theorem dX9_isShut_16 : decode cX9_isShut 16 = .ok (.ireturn, 1) := by decide +kernel
theorem dX9_setShut_0 : decode cX9_setShut 0 = .ok (.aload_n 0, 1) := by decide +kernel
theorem dX9_setShut_1 : decode cX9_setShut 1 = .ok (.iload_n 2, 1) := by decide +kernel
theorem dX9_setShut_2 : decode cX9_setShut 2 = .ok (.ifCond .eq 14, 3) := by decide +kernel
theorem dX9_setShut_5 : decode cX9_setShut 5 = .ok (.aload_n 0, 1) := by decide +kernel
theorem dX9_setShut_6 : decode cX9_setShut 6 = .ok (.getfield 31, 3) := by decide +kernel
theorem dX9_setShut_9 : decode cX9_setShut 9 = .ok (.iconst 1, 1) := by decide +kernel
theorem dX9_setShut_10 : decode cX9_setShut 10 = .ok (.iload_n 1, 1) := by decide +kernel
theorem dX9_setShut_11 : decode cX9_setShut 11 = .ok (.ishl, 1) := by decide +kernel
theorem dX9_setShut_12 : decode cX9_setShut 12 = .ok (.ior, 1) := by decide +kernel
theorem dX9_setShut_13 : decode cX9_setShut 13 = .ok (.goto 13, 3) := by decide +kernel
theorem dX9_setShut_16 : decode cX9_setShut 16 = .ok (.aload_n 0, 1) := by decide +kernel
theorem dX9_setShut_17 : decode cX9_setShut 17 = .ok (.getfield 31, 3) := by decide +kernel
theorem dX9_setShut_20 : decode cX9_setShut 20 = .ok (.iconst 1, 1) := by decide +kernel
theorem dX9_setShut_21 : decode cX9_setShut 21 = .ok (.iload_n 1, 1) := by decide +kernel
theorem dX9_setShut_22 : decode cX9_setShut 22 = .ok (.ishl, 1) := by decide +kernel
theorem dX9_setShut_23 : decode cX9_setShut 23 = .ok (.iconst (-1), 1) := by decide +kernel
theorem dX9_setShut_24 : decode cX9_setShut 24 = .ok (.ixor, 1) := by decide +kernel
theorem dX9_setShut_25 : decode cX9_setShut 25 = .ok (.iand, 1) := by decide +kernel
theorem dX9_setShut_26 : decode cX9_setShut 26 = .ok (.putfield 31, 3) := by decide +kernel
theorem dX9_setShut_29 : decode cX9_setShut 29 = .ok (.return_, 1) := by decide +kernel
theorem dX9_chairsFor_0 : decode cX9_chairsFor 0 = .ok (.iconst 0, 1) := by decide +kernel
theorem dX9_chairsFor_1 : decode cX9_chairsFor 1 = .ok (.istore_n 2, 1) := by decide +kernel
theorem dX9_chairsFor_2 : decode cX9_chairsFor 2 = .ok (.iconst 0, 1) := by decide +kernel
theorem dX9_chairsFor_3 : decode cX9_chairsFor 3 = .ok (.istore_n 3, 1) := by decide +kernel
theorem dX9_chairsFor_4 : decode cX9_chairsFor 4 = .ok (.iload_n 3, 1) := by decide +kernel
theorem dX9_chairsFor_5 : decode cX9_chairsFor 5 = .ok (.bipush 9, 2) := by decide +kernel
theorem dX9_chairsFor_7 : decode cX9_chairsFor 7 = .ok (.if_icmp .ge 53, 3) := by decide +kernel
theorem dX9_chairsFor_10 : decode cX9_chairsFor 10 = .ok (.iconst 0, 1) := by decide +kernel
theorem dX9_chairsFor_11 : decode cX9_chairsFor 11 = .ok (.iconst 2, 1) := by decide +kernel
theorem dX9_chairsFor_12 : decode cX9_chairsFor 12 = .ok (.aload_n 0, 1) := by decide +kernel
theorem dX9_chairsFor_13 : decode cX9_chairsFor 13 = .ok (.iload_n 3, 1) := by decide +kernel
theorem dX9_chairsFor_14 : decode cX9_chairsFor 14 = .ok (.invokevirtual 49, 3) := by decide +kernel
theorem dX9_chairsFor_17 : decode cX9_chairsFor 17 = .ok (.isub, 1) := by decide +kernel
theorem dX9_chairsFor_18 : decode cX9_chairsFor 18 = .ok (.invokestatic 53, 3) := by decide +kernel
theorem dX9_chairsFor_21 : decode cX9_chairsFor 21 = .ok (.istore 4, 2) := by decide +kernel
theorem dX9_chairsFor_23 : decode cX9_chairsFor 23 = .ok (.iload_n 1, 1) := by decide +kernel
theorem dX9_chairsFor_24 : decode cX9_chairsFor 24 = .ok (.iload_n 3, 1) := by decide +kernel
theorem dX9_chairsFor_25 : decode cX9_chairsFor 25 = .ok (.ishr, 1) := by decide +kernel
theorem dX9_chairsFor_26 : decode cX9_chairsFor 26 = .ok (.iconst 1, 1) := by decide +kernel
theorem dX9_chairsFor_27 : decode cX9_chairsFor 27 = .ok (.iand, 1) := by decide +kernel
theorem dX9_chairsFor_28 : decode cX9_chairsFor 28 = .ok (.ifCond .eq 26, 3) := by decide +kernel
theorem dX9_chairsFor_31 : decode cX9_chairsFor 31 = .ok (.iload_n 2, 1) := by decide +kernel
theorem dX9_chairsFor_32 : decode cX9_chairsFor 32 = .ok (.aload_n 0, 1) := by decide +kernel
theorem dX9_chairsFor_33 : decode cX9_chairsFor 33 = .ok (.getfield 9, 3) := by decide +kernel
theorem dX9_chairsFor_36 : decode cX9_chairsFor 36 = .ok (.iload_n 3, 1) := by decide +kernel
theorem dX9_chairsFor_37 : decode cX9_chairsFor 37 = .ok (.iaload, 1) := by decide +kernel
theorem dX9_chairsFor_38 : decode cX9_chairsFor 38 = .ok (.iload 4, 2) := by decide +kernel
theorem dX9_chairsFor_40 : decode cX9_chairsFor 40 = .ok (.iadd, 1) := by decide +kernel
theorem dX9_chairsFor_41 : decode cX9_chairsFor 41 = .ok (.bipush 20, 2) := by decide +kernel
theorem dX9_chairsFor_43 : decode cX9_chairsFor 43 = .ok (.if_icmp .le 7, 3) := by decide +kernel
theorem dX9_chairsFor_46 : decode cX9_chairsFor 46 = .ok (.iconst 5, 1) := by decide +kernel
theorem dX9_chairsFor_47 : decode cX9_chairsFor 47 = .ok (.goto 5, 3) := by decide +kernel
theorem dX9_chairsFor_50 : decode cX9_chairsFor 50 = .ok (.iload 4, 2) := by decide +kernel
theorem dX9_chairsFor_52 : decode cX9_chairsFor 52 = .ok (.iadd, 1) := by decide +kernel
theorem dX9_chairsFor_53 : decode cX9_chairsFor 53 = .ok (.istore_n 2, 1) := by decide +kernel
theorem dX9_chairsFor_54 : decode cX9_chairsFor 54 = .ok (.iinc 3 1, 3) := by decide +kernel
theorem dX9_chairsFor_57 : decode cX9_chairsFor 57 = .ok (.goto (-53), 3) := by decide +kernel
theorem dX9_chairsFor_60 : decode cX9_chairsFor 60 = .ok (.iload_n 2, 1) := by decide +kernel
theorem dX9_chairsFor_61 : decode cX9_chairsFor 61 = .ok (.ireturn, 1) := by decide +kernel
theorem dX10_init_0 : decode cX10_init 0 = .ok (.aload_n 0, 1) := by decide +kernel
theorem dX10_init_1 : decode cX10_init 1 = .ok (.invokespecial 3, 3) := by decide +kernel
theorem dX10_init_4 : decode cX10_init 4 = .ok (.aload_n 0, 1) := by decide +kernel
theorem dX10_init_5 : decode cX10_init 5 = .ok (.new 9, 3) := by decide +kernel
theorem dX10_init_8 : decode cX10_init 8 = .ok (.dup, 1) := by decide +kernel
theorem dX10_init_9 : decode cX10_init 9 = .ok (.invokespecial 11, 3) := by decide +kernel
theorem dX10_init_12 : decode cX10_init 12 = .ok (.putfield 12, 3) := by decide +kernel
theorem dX10_init_15 : decode cX10_init 15 = .ok (.aload_n 0, 1) := by decide +kernel
theorem dX10_init_16 : decode cX10_init 16 = .ok (.new 18, 3) := by decide +kernel
theorem dX10_init_19 : decode cX10_init 19 = .ok (.dup, 1) := by decide +kernel
theorem dX10_init_20 : decode cX10_init 20 = .ok (.invokespecial 20, 3) := by decide +kernel
theorem dX10_init_23 : decode cX10_init 23 = .ok (.putfield 21, 3) := by decide +kernel
theorem dX10_init_26 : decode cX10_init 26 = .ok (.aload_n 0, 1) := by decide +kernel
theorem dX10_init_27 : decode cX10_init 27 = .ok (.new 25, 3) := by decide +kernel
theorem dX10_init_30 : decode cX10_init 30 = .ok (.dup, 1) := by decide +kernel
theorem dX10_init_31 : decode cX10_init 31 = .ok (.invokespecial 27, 3) := by decide +kernel
theorem dX10_init_34 : decode cX10_init 34 = .ok (.putfield 28, 3) := by decide +kernel
theorem dX10_init_37 : decode cX10_init 37 = .ok (.aload_n 0, 1) := by decide +kernel
theorem dX10_init_38 : decode cX10_init 38 = .ok (.bipush 9, 2) := by decide +kernel
theorem dX10_init_40 : decode cX10_init 40 = .ok (.newarray .int, 2) := by decide +kernel
theorem dX10_init_42 : decode cX10_init 42 = .ok (.putfield 32, 3) := by decide +kernel
theorem dX10_init_45 : decode cX10_init 45 = .ok (.return_, 1) := by decide +kernel
theorem dX10_moreGuests_0 : decode cX10_moreGuests 0 = .ok (.aload_n 0, 1) := by decide +kernel
theorem dX10_moreGuests_1 : decode cX10_moreGuests 1 = .ok (.getfield 12, 3) := by decide +kernel
theorem dX10_moreGuests_4 : decode cX10_moreGuests 4 = .ok (.aload_n 1, 1) := by decide +kernel
theorem dX10_moreGuests_5 : decode cX10_moreGuests 5 = .ok (.aload_n 2, 1) := by decide +kernel
theorem dX10_moreGuests_6 : decode cX10_moreGuests 6 = .ok (.getfield 36, 3) := by decide +kernel
theorem dX10_moreGuests_9 : decode cX10_moreGuests 9 = .ok (.invokevirtual 40, 3) := by decide +kernel
theorem dX10_moreGuests_12 : decode cX10_moreGuests 12 = .ok (.aload_n 0, 1) := by decide +kernel
theorem dX10_moreGuests_13 : decode cX10_moreGuests 13 = .ok (.getfield 12, 3) := by decide +kernel
theorem dX10_moreGuests_16 : decode cX10_moreGuests 16 = .ok (.iload_n 3, 1) := by decide +kernel
theorem dX10_moreGuests_17 : decode cX10_moreGuests 17 = .ok (.invokevirtual 44, 3) := by decide +kernel
theorem dX10_moreGuests_20 : decode cX10_moreGuests 20 = .ok (.istore 4, 2) := by decide +kernel
theorem dX10_moreGuests_22 : decode cX10_moreGuests 22 = .ok (.iconst 0, 1) := by decide +kernel
theorem dX10_moreGuests_23 : decode cX10_moreGuests 23 = .ok (.istore 5, 2) := by decide +kernel
theorem dX10_moreGuests_25 : decode cX10_moreGuests 25 = .ok (.iconst 0, 1) := by decide +kernel
theorem dX10_moreGuests_26 : decode cX10_moreGuests 26 = .ok (.istore 6, 2) := by decide +kernel
theorem dX10_moreGuests_28 : decode cX10_moreGuests 28 = .ok (.iload 6, 2) := by decide +kernel
theorem dX10_moreGuests_30 : decode cX10_moreGuests 30 = .ok (.aload_n 1, 1) := by decide +kernel
theorem dX10_moreGuests_31 : decode cX10_moreGuests 31 = .ok (.getfield 48, 3) := by decide +kernel
theorem dX10_moreGuests_34 : decode cX10_moreGuests 34 = .ok (.if_icmp .ge 36, 3) := by decide +kernel
theorem dX10_moreGuests_37 : decode cX10_moreGuests 37 = .ok (.iload 4, 2) := by decide +kernel
theorem dX10_moreGuests_39 : decode cX10_moreGuests 39 = .ok (.iload 6, 2) := by decide +kernel
theorem dX10_moreGuests_41 : decode cX10_moreGuests 41 = .ok (.ishr, 1) := by decide +kernel
theorem dX10_moreGuests_42 : decode cX10_moreGuests 42 = .ok (.iconst 1, 1) := by decide +kernel
theorem dX10_moreGuests_43 : decode cX10_moreGuests 43 = .ok (.iand, 1) := by decide +kernel
theorem dX10_moreGuests_44 : decode cX10_moreGuests 44 = .ok (.ifCond .eq 20, 3) := by decide +kernel
theorem dX10_moreGuests_47 : decode cX10_moreGuests 47 = .ok (.iload 5, 2) := by decide +kernel
theorem dX10_moreGuests_49 : decode cX10_moreGuests 49 = .ok (.iconst 0, 1) := by decide +kernel
theorem dX10_moreGuests_50 : decode cX10_moreGuests 50 = .ok (.aload_n 2, 1) := by decide +kernel
theorem dX10_moreGuests_51 : decode cX10_moreGuests 51 = .ok (.iload 6, 2) := by decide +kernel
theorem dX10_moreGuests_53 : decode cX10_moreGuests 53 = .ok (.invokevirtual 53, 3) := by decide +kernel
theorem dX10_moreGuests_56 : decode cX10_moreGuests 56 = .ok (.iconst 1, 1) := by decide +kernel
theorem dX10_moreGuests_57 : decode cX10_moreGuests 57 = .ok (.isub, 1) := by decide +kernel
theorem dX10_moreGuests_58 : decode cX10_moreGuests 58 = .ok (.invokestatic 56, 3) := by decide +kernel
theorem dX10_moreGuests_61 : decode cX10_moreGuests 61 = .ok (.iadd, 1) := by decide +kernel
theorem dX10_moreGuests_62 : decode cX10_moreGuests 62 = .ok (.istore 5, 2) := by decide +kernel
theorem dX10_moreGuests_64 : decode cX10_moreGuests 64 = .ok (.iinc 6 1, 3) := by decide +kernel
theorem dX10_moreGuests_67 : decode cX10_moreGuests 67 = .ok (.goto (-39), 3) := by decide +kernel
theorem dX10_moreGuests_70 : decode cX10_moreGuests 70 = .ok (.iload 5, 2) := by decide +kernel
theorem dX10_moreGuests_72 : decode cX10_moreGuests 72 = .ok (.ireturn, 1) := by decide +kernel
theorem dX10_leastFree_0 : decode cX10_leastFree 0 = .ok (.aload_n 0, 1) := by decide +kernel
theorem dX10_leastFree_1 : decode cX10_leastFree 1 = .ok (.getfield 12, 3) := by decide +kernel
theorem dX10_leastFree_4 : decode cX10_leastFree 4 = .ok (.aload_n 1, 1) := by decide +kernel
theorem dX10_leastFree_5 : decode cX10_leastFree 5 = .ok (.aload_n 2, 1) := by decide +kernel
theorem dX10_leastFree_6 : decode cX10_leastFree 6 = .ok (.getfield 36, 3) := by decide +kernel
theorem dX10_leastFree_9 : decode cX10_leastFree 9 = .ok (.invokevirtual 40, 3) := by decide +kernel
theorem dX10_leastFree_12 : decode cX10_leastFree 12 = .ok (.aload_n 0, 1) := by decide +kernel
theorem dX10_leastFree_13 : decode cX10_leastFree 13 = .ok (.getfield 12, 3) := by decide +kernel
theorem dX10_leastFree_16 : decode cX10_leastFree 16 = .ok (.iload_n 3, 1) := by decide +kernel
theorem dX10_leastFree_17 : decode cX10_leastFree 17 = .ok (.invokevirtual 44, 3) := by decide +kernel
theorem dX10_leastFree_20 : decode cX10_leastFree 20 = .ok (.istore 4, 2) := by decide +kernel
theorem dX10_leastFree_22 : decode cX10_leastFree 22 = .ok (.iconst 0, 1) := by decide +kernel
theorem dX10_leastFree_23 : decode cX10_leastFree 23 = .ok (.istore 5, 2) := by decide +kernel
theorem dX10_leastFree_25 : decode cX10_leastFree 25 = .ok (.iconst 0, 1) := by decide +kernel
theorem dX10_leastFree_26 : decode cX10_leastFree 26 = .ok (.istore 6, 2) := by decide +kernel
theorem dX10_leastFree_28 : decode cX10_leastFree 28 = .ok (.bipush 20, 2) := by decide +kernel
theorem dX10_leastFree_30 : decode cX10_leastFree 30 = .ok (.istore 7, 2) := by decide +kernel
theorem dX10_leastFree_32 : decode cX10_leastFree 32 = .ok (.iconst 0, 1) := by decide +kernel
theorem dX10_leastFree_33 : decode cX10_leastFree 33 = .ok (.istore 8, 2) := by decide +kernel
theorem dX10_leastFree_35 : decode cX10_leastFree 35 = .ok (.iload 8, 2) := by decide +kernel
theorem dX10_leastFree_37 : decode cX10_leastFree 37 = .ok (.aload_n 1, 1) := by decide +kernel
theorem dX10_leastFree_38 : decode cX10_leastFree 38 = .ok (.getfield 48, 3) := by decide +kernel
theorem dX10_leastFree_41 : decode cX10_leastFree 41 = .ok (.if_icmp .ge 47, 3) := by decide +kernel
theorem dX10_leastFree_44 : decode cX10_leastFree 44 = .ok (.iload 4, 2) := by decide +kernel
theorem dX10_leastFree_46 : decode cX10_leastFree 46 = .ok (.iload 8, 2) := by decide +kernel
theorem dX10_leastFree_48 : decode cX10_leastFree 48 = .ok (.ishr, 1) := by decide +kernel
theorem dX10_leastFree_49 : decode cX10_leastFree 49 = .ok (.iconst 1, 1) := by decide +kernel
theorem dX10_leastFree_50 : decode cX10_leastFree 50 = .ok (.iand, 1) := by decide +kernel
theorem dX10_leastFree_51 : decode cX10_leastFree 51 = .ok (.ifCond .eq 31, 3) := by decide +kernel
theorem dX10_leastFree_54 : decode cX10_leastFree 54 = .ok (.iload 5, 2) := by decide +kernel
theorem dX10_leastFree_56 : decode cX10_leastFree 56 = .ok (.aload_n 2, 1) := by decide +kernel
theorem dX10_leastFree_57 : decode cX10_leastFree 57 = .ok (.iload 8, 2) := by decide +kernel
theorem dX10_leastFree_59 : decode cX10_leastFree 59 = .ok (.invokevirtual 53, 3) := by decide +kernel
theorem dX10_leastFree_62 : decode cX10_leastFree 62 = .ok (.iadd, 1) := by decide +kernel
theorem dX10_leastFree_63 : decode cX10_leastFree 63 = .ok (.istore 5, 2) := by decide +kernel
theorem dX10_leastFree_65 : decode cX10_leastFree 65 = .ok (.iinc 6 1, 3) := by decide +kernel
theorem dX10_leastFree_68 : decode cX10_leastFree 68 = .ok (.iload 7, 2) := by decide +kernel
theorem dX10_leastFree_70 : decode cX10_leastFree 70 = .ok (.aload_n 2, 1) := by decide +kernel
theorem dX10_leastFree_71 : decode cX10_leastFree 71 = .ok (.getfield 62, 3) := by decide +kernel
theorem dX10_leastFree_74 : decode cX10_leastFree 74 = .ok (.iload 8, 2) := by decide +kernel
theorem dX10_leastFree_76 : decode cX10_leastFree 76 = .ok (.iaload, 1) := by decide +kernel
theorem dX10_leastFree_77 : decode cX10_leastFree 77 = .ok (.invokestatic 65, 3) := by decide +kernel
theorem dX10_leastFree_80 : decode cX10_leastFree 80 = .ok (.istore 7, 2) := by decide +kernel
theorem dX10_leastFree_82 : decode cX10_leastFree 82 = .ok (.iinc 8 1, 3) := by decide +kernel
theorem dX10_leastFree_85 : decode cX10_leastFree 85 = .ok (.goto (-50), 3) := by decide +kernel
theorem dX10_leastFree_88 : decode cX10_leastFree 88 = .ok (.iload 6, 2) := by decide +kernel
theorem dX10_leastFree_90 : decode cX10_leastFree 90 = .ok (.ifCond .le 16, 3) := by decide +kernel
theorem dX10_leastFree_93 : decode cX10_leastFree 93 = .ok (.iload 7, 2) := by decide +kernel
theorem dX10_leastFree_95 : decode cX10_leastFree 95 = .ok (.iload 5, 2) := by decide +kernel
theorem dX10_leastFree_97 : decode cX10_leastFree 97 = .ok (.iload 6, 2) := by decide +kernel
theorem dX10_leastFree_99 : decode cX10_leastFree 99 = .ok (.idiv, 1) := by decide +kernel
theorem dX10_leastFree_100 : decode cX10_leastFree 100 = .ok (.invokestatic 65, 3) := by decide +kernel
theorem dX10_leastFree_103 : decode cX10_leastFree 103 = .ok (.goto 4, 3) := by decide +kernel
theorem dX10_leastFree_106 : decode cX10_leastFree 106 = .ok (.iconst 0, 1) := by decide +kernel
theorem dX10_leastFree_107 : decode cX10_leastFree 107 = .ok (.ireturn, 1) := by decide +kernel
theorem dX10_movesOfTwo_0 : decode cX10_movesOfTwo 0 = .ok (.aload_n 0, 1) := by decide +kernel
theorem dX10_movesOfTwo_1 : decode cX10_movesOfTwo 1 = .ok (.getfield 28, 3) := by decide +kernel
theorem dX10_movesOfTwo_4 : decode cX10_movesOfTwo 4 = .ok (.aload_n 2, 1) := by decide +kernel
theorem dX10_movesOfTwo_5 : decode cX10_movesOfTwo 5 = .ok (.invokevirtual 68, 3) := by decide +kernel
theorem dX10_movesOfTwo_8 : decode cX10_movesOfTwo 8 = .ok (.aload_n 0, 1) := by decide +kernel
theorem dX10_movesOfTwo_9 : decode cX10_movesOfTwo 9 = .ok (.aload_n 1, 1) := by decide +kernel
theorem dX10_movesOfTwo_10 : decode cX10_movesOfTwo 10 = .ok (.iload_n 3, 1) := by decide +kernel
theorem dX10_movesOfTwo_11 : decode cX10_movesOfTwo 11 = .ok (.invokevirtual 72, 3) := by decide +kernel
theorem dX10_movesOfTwo_14 : decode cX10_movesOfTwo 14 = .ok (.aload_n 0, 1) := by decide +kernel
theorem dX10_movesOfTwo_15 : decode cX10_movesOfTwo 15 = .ok (.aload_n 1, 1) := by decide +kernel
theorem dX10_movesOfTwo_16 : decode cX10_movesOfTwo 16 = .ok (.iload 4, 2) := by decide +kernel
theorem dX10_movesOfTwo_18 : decode cX10_movesOfTwo 18 = .ok (.invokevirtual 72, 3) := by decide +kernel
theorem dX10_movesOfTwo_21 : decode cX10_movesOfTwo 21 = .ok (.iadd, 1) := by decide +kernel
theorem dX10_movesOfTwo_22 : decode cX10_movesOfTwo 22 = .ok (.ireturn, 1) := by decide +kernel
theorem dX10_movesCounted_0 : decode cX10_movesCounted 0 = .ok (.aload_n 0, 1) := by decide +kernel
theorem dX10_movesCounted_1 : decode cX10_movesCounted 1 = .ok (.getfield 21, 3) := by decide +kernel
theorem dX10_movesCounted_4 : decode cX10_movesCounted 4 = .ok (.aload_n 1, 1) := by decide +kernel
theorem dX10_movesCounted_5 : decode cX10_movesCounted 5 = .ok (.aload_n 0, 1) := by decide +kernel
theorem dX10_movesCounted_6 : decode cX10_movesCounted 6 = .ok (.getfield 28, 3) := by decide +kernel
theorem dX10_movesCounted_9 : decode cX10_movesCounted 9 = .ok (.iload_n 2, 1) := by decide +kernel
theorem dX10_movesCounted_10 : decode cX10_movesCounted 10 = .ok (.invokevirtual 76, 3) := by decide +kernel
theorem dX10_movesCounted_13 : decode cX10_movesCounted 13 = .ok (.istore_n 3, 1) := by decide +kernel
theorem dX10_movesCounted_14 : decode cX10_movesCounted 14 = .ok (.iload_n 3, 1) := by decide +kernel
theorem dX10_movesCounted_15 : decode cX10_movesCounted 15 = .ok (.ifCond .ge 9, 3) := by decide +kernel
theorem dX10_movesCounted_18 : decode cX10_movesCounted 18 = .ok (.sipush 1000, 3) := by decide +kernel
theorem dX10_movesCounted_21 : decode cX10_movesCounted 21 = .ok (.goto 4, 3) := by decide +kernel
theorem dX10_movesCounted_24 : decode cX10_movesCounted 24 = .ok (.iload_n 3, 1) := by decide +kernel
theorem dX10_movesCounted_25 : decode cX10_movesCounted 25 = .ok (.ireturn, 1) := by decide +kernel
theorem dX10_opened_0 : decode cX10_opened 0 = .ok (.aload_n 0, 1) := by decide +kernel
theorem dX10_opened_1 : decode cX10_opened 1 = .ok (.getfield 12, 3) := by decide +kernel
theorem dX10_opened_4 : decode cX10_opened 4 = .ok (.aload_n 1, 1) := by decide +kernel
theorem dX10_opened_5 : decode cX10_opened 5 = .ok (.aload_n 2, 1) := by decide +kernel
theorem dX10_opened_6 : decode cX10_opened 6 = .ok (.getfield 36, 3) := by decide +kernel
theorem dX10_opened_9 : decode cX10_opened 9 = .ok (.invokevirtual 40, 3) := by decide +kernel
theorem dX10_opened_12 : decode cX10_opened 12 = .ok (.iconst 0, 1) := by decide +kernel
theorem dX10_opened_13 : decode cX10_opened 13 = .ok (.istore 5, 2) := by decide +kernel
theorem dX10_opened_15 : decode cX10_opened 15 = .ok (.iload 5, 2) := by decide +kernel
theorem dX10_opened_17 : decode cX10_opened 17 = .ok (.aload_n 1, 1) := by decide +kernel
theorem dX10_opened_18 : decode cX10_opened 18 = .ok (.getfield 48, 3) := by decide +kernel
theorem dX10_opened_21 : decode cX10_opened 21 = .ok (.if_icmp .ge 27, 3) := by decide +kernel
theorem dX10_opened_24 : decode cX10_opened 24 = .ok (.aload_n 0, 1) := by decide +kernel
theorem dX10_opened_25 : decode cX10_opened 25 = .ok (.getfield 32, 3) := by decide +kernel
theorem dX10_opened_28 : decode cX10_opened 28 = .ok (.iload 5, 2) := by decide +kernel
theorem dX10_opened_30 : decode cX10_opened 30 = .ok (.aload_n 0, 1) := by decide +kernel
theorem dX10_opened_31 : decode cX10_opened 31 = .ok (.getfield 12, 3) := by decide +kernel
theorem dX10_opened_34 : decode cX10_opened 34 = .ok (.iload 5, 2) := by decide +kernel
theorem dX10_opened_36 : decode cX10_opened 36 = .ok (.iload 4, 2) := by decide +kernel
theorem dX10_opened_38 : decode cX10_opened 38 = .ok (.invokevirtual 80, 3) := by decide +kernel
theorem dX10_opened_41 : decode cX10_opened 41 = .ok (.iastore, 1) := by decide +kernel
theorem dX10_opened_42 : decode cX10_opened 42 = .ok (.iinc 5 1, 3) := by decide +kernel
theorem dX10_opened_45 : decode cX10_opened 45 = .ok (.goto (-30), 3) := by decide +kernel
theorem dX10_opened_48 : decode cX10_opened 48 = .ok (.aload_n 2, 1) := by decide +kernel
theorem dX10_opened_49 : decode cX10_opened 49 = .ok (.iconst 2, 1) := by decide +kernel
theorem dX10_opened_50 : decode cX10_opened 50 = .ok (.aload_n 1, 1) := by decide +kernel
theorem dX10_opened_51 : decode cX10_opened 51 = .ok (.getfield 48, 3) := by decide +kernel
theorem dX10_opened_54 : decode cX10_opened 54 = .ok (.invokevirtual 83, 3) := by decide +kernel
theorem dX10_opened_57 : decode cX10_opened 57 = .ok (.istore 5, 2) := by decide +kernel
theorem dX10_opened_59 : decode cX10_opened 59 = .ok (.aload_n 1, 1) := by decide +kernel
theorem dX10_opened_60 : decode cX10_opened 60 = .ok (.invokevirtual 86, 3) := by decide +kernel
theorem dX10_opened_63 : decode cX10_opened 63 = .ok (.iload 5, 2) := by decide +kernel
theorem dX10_opened_65 : decode cX10_opened 65 = .ok (.iconst (-1), 1) := by decide +kernel
theorem dX10_opened_66 : decode cX10_opened 66 = .ok (.ixor, 1) := by decide +kernel
theorem dX10_opened_67 : decode cX10_opened 67 = .ok (.iand, 1) := by decide +kernel
theorem dX10_opened_68 : decode cX10_opened 68 = .ok (.istore 6, 2) := by decide +kernel
theorem dX10_opened_70 : decode cX10_opened 70 = .ok (.iconst (-1), 1) := by decide +kernel
theorem dX10_opened_71 : decode cX10_opened 71 = .ok (.istore 7, 2) := by decide +kernel
theorem dX10_opened_73 : decode cX10_opened 73 = .ok (.iconst 5, 1) := by decide +kernel
theorem dX10_opened_74 : decode cX10_opened 74 = .ok (.istore 8, 2) := by decide +kernel
theorem dX10_opened_76 : decode cX10_opened 76 = .ok (.iconst 0, 1) := by decide +kernel
theorem dX10_opened_77 : decode cX10_opened 77 = .ok (.istore 9, 2) := by decide +kernel
theorem dX10_opened_79 : decode cX10_opened 79 = .ok (.iload 9, 2) := by decide +kernel
theorem dX10_opened_81 : decode cX10_opened 81 = .ok (.iload 5, 2) := by decide +kernel
theorem dX10_opened_83 : decode cX10_opened 83 = .ok (.if_icmp .gt 93, 3) := by decide +kernel
theorem dX10_opened_86 : decode cX10_opened 86 = .ok (.iload 8, 2) := by decide +kernel
theorem dX10_opened_88 : decode cX10_opened 88 = .ok (.ifCond .le 88, 3) := by decide +kernel
theorem dX10_opened_91 : decode cX10_opened 91 = .ok (.iload 9, 2) := by decide +kernel
theorem dX10_opened_93 : decode cX10_opened 93 = .ok (.iload 5, 2) := by decide +kernel
theorem dX10_opened_95 : decode cX10_opened 95 = .ok (.iconst (-1), 1) := by decide +kernel
theorem dX10_opened_96 : decode cX10_opened 96 = .ok (.ixor, 1) := by decide +kernel
theorem dX10_opened_97 : decode cX10_opened 97 = .ok (.iand, 1) := by decide +kernel
theorem dX10_opened_98 : decode cX10_opened 98 = .ok (.ifCond .ne 72, 3) := by decide +kernel
theorem dX10_opened_101 : decode cX10_opened 101 = .ok (.iload 9, 2) := by decide +kernel
theorem dX10_opened_103 : decode cX10_opened 103 = .ok (.invokestatic 90, 3) := by decide +kernel
theorem dX10_opened_106 : decode cX10_opened 106 = .ok (.iconst 4, 1) := by decide +kernel
theorem dX10_opened_107 : decode cX10_opened 107 = .ok (.if_icmp .le 6, 3) := by decide +kernel
theorem dX10_opened_110 : decode cX10_opened 110 = .ok (.goto 60, 3) := by decide +kernel
theorem dX10_opened_113 : decode cX10_opened 113 = .ok (.aload_n 0, 1) := by decide +kernel
theorem dX10_opened_114 : decode cX10_opened 114 = .ok (.aload_n 1, 1) := by decide +kernel
theorem dX10_opened_115 : decode cX10_opened 115 = .ok (.iload_n 3, 1) := by decide +kernel
theorem dX10_opened_116 : decode cX10_opened 116 = .ok (.iload 6, 2) := by decide +kernel
theorem dX10_opened_118 : decode cX10_opened 118 = .ok (.iload 9, 2) := by decide +kernel
theorem dX10_opened_120 : decode cX10_opened 120 = .ok (.ior, 1) := by decide +kernel
theorem dX10_opened_121 : decode cX10_opened 121 = .ok (.invokevirtual 95, 3) := by decide +kernel
theorem dX10_opened_124 : decode cX10_opened 124 = .ok (.ifCond .ne 6, 3) := by decide +kernel
theorem dX10_opened_127 : decode cX10_opened 127 = .ok (.goto 43, 3) := by decide +kernel
theorem dX10_opened_130 : decode cX10_opened 130 = .ok (.aload_n 2, 1) := by decide +kernel
theorem dX10_opened_131 : decode cX10_opened 131 = .ok (.iload 9, 2) := by decide +kernel
theorem dX10_opened_133 : decode cX10_opened 133 = .ok (.invokevirtual 99, 3) := by decide +kernel
theorem dX10_opened_136 : decode cX10_opened 136 = .ok (.istore 10, 2) := by decide +kernel
theorem dX10_opened_138 : decode cX10_opened 138 = .ok (.iload 10, 2) := by decide +kernel
theorem dX10_opened_140 : decode cX10_opened 140 = .ok (.iload 8, 2) := by decide +kernel
theorem dX10_opened_142 : decode cX10_opened 142 = .ok (.if_icmp .lt 20, 3) := by decide +kernel
theorem dX10_opened_145 : decode cX10_opened 145 = .ok (.iload 10, 2) := by decide +kernel
theorem dX10_opened_147 : decode cX10_opened 147 = .ok (.iload 8, 2) := by decide +kernel
theorem dX10_opened_149 : decode cX10_opened 149 = .ok (.if_icmp .ne 21, 3) := by decide +kernel
theorem dX10_opened_152 : decode cX10_opened 152 = .ok (.iload 9, 2) := by decide +kernel
theorem dX10_opened_154 : decode cX10_opened 154 = .ok (.iload 7, 2) := by decide +kernel
theorem dX10_opened_156 : decode cX10_opened 156 = .ok (.invokestatic 102, 3) := by decide +kernel
theorem dX10_opened_159 : decode cX10_opened 159 = .ok (.ifCond .eq 11, 3) := by decide +kernel
theorem dX10_opened_162 : decode cX10_opened 162 = .ok (.iload 10, 2) := by decide +kernel
theorem dX10_opened_164 : decode cX10_opened 164 = .ok (.istore 8, 2) := by decide +kernel
theorem dX10_opened_166 : decode cX10_opened 166 = .ok (.iload 9, 2) := by decide +kernel
theorem dX10_opened_168 : decode cX10_opened 168 = .ok (.istore 7, 2) := by decide +kernel
theorem dX10_opened_170 : decode cX10_opened 170 = .ok (.iinc 9 1, 3) := by decide +kernel
theorem dX10_opened_173 : decode cX10_opened 173 = .ok (.goto (-94), 3) := by decide +kernel
theorem dX10_opened_176 : decode cX10_opened 176 = .ok (.iload 7, 2) := by decide +kernel
theorem dX10_opened_178 : decode cX10_opened 178 = .ok (.ireturn, 1) := by decide +kernel
theorem dX10_reachesAll_0 : decode cX10_reachesAll 0 = .ok (.iconst 0, 1) := by decide +kernel
theorem dX10_reachesAll_1 : decode cX10_reachesAll 1 = .ok (.istore 4, 2) := by decide +kernel
theorem dX10_reachesAll_3 : decode cX10_reachesAll 3 = .ok (.iload 4, 2) := by decide +kernel
theorem dX10_reachesAll_5 : decode cX10_reachesAll 5 = .ok (.aload_n 1, 1) := by decide +kernel
theorem dX10_reachesAll_6 : decode cX10_reachesAll 6 = .ok (.getfield 48, 3) := by decide +kernel
theorem dX10_reachesAll_9 : decode cX10_reachesAll 9 = .ok (.if_icmp .ge 32, 3) := by decide +kernel
theorem dX10_reachesAll_12 : decode cX10_reachesAll 12 = .ok (.iload_n 2, 1) := by decide +kernel
theorem dX10_reachesAll_13 : decode cX10_reachesAll 13 = .ok (.iload 4, 2) := by decide +kernel
theorem dX10_reachesAll_15 : decode cX10_reachesAll 15 = .ok (.ishr, 1) := by decide +kernel
theorem dX10_reachesAll_16 : decode cX10_reachesAll 16 = .ok (.iconst 1, 1) := by decide +kernel
theorem dX10_reachesAll_17 : decode cX10_reachesAll 17 = .ok (.iand, 1) := by decide +kernel
theorem dX10_reachesAll_18 : decode cX10_reachesAll 18 = .ok (.ifCond .eq 17, 3) := by decide +kernel
theorem dX10_reachesAll_21 : decode cX10_reachesAll 21 = .ok (.aload_n 0, 1) := by decide +kernel
theorem dX10_reachesAll_22 : decode cX10_reachesAll 22 = .ok (.getfield 32, 3) := by decide +kernel
theorem dX10_reachesAll_25 : decode cX10_reachesAll 25 = .ok (.iload 4, 2) := by decide +kernel
theorem dX10_reachesAll_27 : decode cX10_reachesAll 27 = .ok (.iaload, 1) := by decide +kernel
theorem dX10_reachesAll_28 : decode cX10_reachesAll 28 = .ok (.iload_n 3, 1) := by decide +kernel
theorem dX10_reachesAll_29 : decode cX10_reachesAll 29 = .ok (.iand, 1) := by decide +kernel
theorem dX10_reachesAll_30 : decode cX10_reachesAll 30 = .ok (.ifCond .ne 5, 3) := by decide +kernel
theorem dX10_reachesAll_33 : decode cX10_reachesAll 33 = .ok (.iconst 0, 1) := by decide +kernel
theorem dX10_reachesAll_34 : decode cX10_reachesAll 34 = .ok (.ireturn, 1) := by decide +kernel
theorem dX10_reachesAll_35 : decode cX10_reachesAll 35 = .ok (.iinc 4 1, 3) := by decide +kernel
theorem dX10_reachesAll_38 : decode cX10_reachesAll 38 = .ok (.goto (-35), 3) := by decide +kernel
theorem dX10_reachesAll_41 : decode cX10_reachesAll 41 = .ok (.iconst 1, 1) := by decide +kernel
theorem dX10_reachesAll_42 : decode cX10_reachesAll 42 = .ok (.ireturn, 1) := by decide +kernel
theorem dX10_isAhead_0 : decode cX10_isAhead 0 = .ok (.iload_n 0, 1) := by decide +kernel
theorem dX10_isAhead_1 : decode cX10_isAhead 1 = .ok (.iload_n 1, 1) := by decide +kernel
theorem dX10_isAhead_2 : decode cX10_isAhead 2 = .ok (.ixor, 1) := by decide +kernel
theorem dX10_isAhead_3 : decode cX10_isAhead 3 = .ok (.istore_n 2, 1) := by decide +kernel
theorem dX10_isAhead_4 : decode cX10_isAhead 4 = .ok (.iload_n 2, 1) := by decide +kernel
theorem dX10_isAhead_5 : decode cX10_isAhead 5 = .ok (.iload_n 2, 1) := by decide +kernel
theorem dX10_isAhead_6 : decode cX10_isAhead 6 = .ok (.ineg, 1) := by decide +kernel
theorem dX10_isAhead_7 : decode cX10_isAhead 7 = .ok (.iand, 1) := by decide +kernel
theorem dX10_isAhead_8 : decode cX10_isAhead 8 = .ok (.istore_n 3, 1) := by decide +kernel
theorem dX10_isAhead_9 : decode cX10_isAhead 9 = .ok (.iload_n 1, 1) := by decide +kernel
theorem dX10_isAhead_10 : decode cX10_isAhead 10 = .ok (.iconst (-1), 1) := by decide +kernel
theorem dX10_isAhead_11 : decode cX10_isAhead 11 = .ok (.if_icmp .eq 13, 3) := by decide +kernel
theorem dX10_isAhead_14 : decode cX10_isAhead 14 = .ok (.iload_n 0, 1) := by decide +kernel
theorem dX10_isAhead_15 : decode cX10_isAhead 15 = .ok (.iload_n 3, 1) := by decide +kernel
theorem dX10_isAhead_16 : decode cX10_isAhead 16 = .ok (.iand, 1) := by decide +kernel
theorem dX10_isAhead_17 : decode cX10_isAhead 17 = .ok (.ifCond .eq 7, 3) := by decide +kernel
theorem dX10_isAhead_20 : decode cX10_isAhead 20 = .ok (.iconst 1, 1) := by decide +kernel
theorem dX10_isAhead_21 : decode cX10_isAhead 21 = .ok (.goto 4, 3) := by decide +kernel
theorem dX10_isAhead_24 : decode cX10_isAhead 24 = .ok (.iconst 0, 1) := by decide +kernel
theorem dX10_isAhead_25 : decode cX10_isAhead 25 = .ok (.ireturn, 1) := by decide +kernel
theorem dX11_init_0 : decode cX11_init 0 = .ok (.aload_n 0, 1) := by decide +kernel
theorem dX11_init_1 : decode cX11_init 1 = .ok (.invokespecial 1, 3) := by decide +kernel
theorem dX11_init_4 : decode cX11_init 4 = .ok (.aload_n 0, 1) := by decide +kernel
theorem dX11_init_5 : decode cX11_init 5 = .ok (.new 7, 3) := by decide +kernel
theorem dX11_init_8 : decode cX11_init 8 = .ok (.dup, 1) := by decide +kernel
theorem dX11_init_9 : decode cX11_init 9 = .ok (.invokespecial 9, 3) := by decide +kernel
theorem dX11_init_12 : decode cX11_init 12 = .ok (.putfield 10, 3) := by decide +kernel
theorem dX11_init_15 : decode cX11_init 15 = .ok (.aload_n 0, 1) := by decide +kernel
theorem dX11_init_16 : decode cX11_init 16 = .ok (.new 16, 3) := by decide +kernel
theorem dX11_init_19 : decode cX11_init 19 = .ok (.dup, 1) := by decide +kernel
theorem dX11_init_20 : decode cX11_init 20 = .ok (.invokespecial 18, 3) := by decide +kernel
theorem dX11_init_23 : decode cX11_init 23 = .ok (.putfield 19, 3) := by decide +kernel
theorem dX11_init_26 : decode cX11_init 26 = .ok (.aload_n 0, 1) := by decide +kernel
theorem dX11_init_27 : decode cX11_init 27 = .ok (.new 23, 3) := by decide +kernel
theorem dX11_init_30 : decode cX11_init 30 = .ok (.dup, 1) := by decide +kernel
theorem dX11_init_31 : decode cX11_init 31 = .ok (.invokespecial 25, 3) := by decide +kernel
theorem dX11_init_34 : decode cX11_init 34 = .ok (.putfield 26, 3) := by decide +kernel
theorem dX11_init_37 : decode cX11_init 37 = .ok (.aload_n 0, 1) := by decide +kernel
theorem dX11_init_38 : decode cX11_init 38 = .ok (.new 30, 3) := by decide +kernel
theorem dX11_init_41 : decode cX11_init 41 = .ok (.dup, 1) := by decide +kernel
theorem dX11_init_42 : decode cX11_init 42 = .ok (.invokespecial 32, 3) := by decide +kernel
theorem dX11_init_45 : decode cX11_init 45 = .ok (.putfield 33, 3) := by decide +kernel
theorem dX11_init_48 : decode cX11_init 48 = .ok (.aload_n 0, 1) := by decide +kernel
theorem dX11_init_49 : decode cX11_init 49 = .ok (.new 37, 3) := by decide +kernel
theorem dX11_init_52 : decode cX11_init 52 = .ok (.dup, 1) := by decide +kernel
theorem dX11_init_53 : decode cX11_init 53 = .ok (.invokespecial 39, 3) := by decide +kernel
theorem dX11_init_56 : decode cX11_init 56 = .ok (.putfield 40, 3) := by decide +kernel
theorem dX11_init_59 : decode cX11_init 59 = .ok (.aload_n 0, 1) := by decide +kernel
theorem dX11_init_60 : decode cX11_init 60 = .ok (.new 44, 3) := by decide +kernel
theorem dX11_init_63 : decode cX11_init 63 = .ok (.dup, 1) := by decide +kernel
theorem dX11_init_64 : decode cX11_init 64 = .ok (.invokespecial 46, 3) := by decide +kernel
theorem dX11_init_67 : decode cX11_init 67 = .ok (.putfield 47, 3) := by decide +kernel
theorem dX11_init_70 : decode cX11_init 70 = .ok (.aload_n 0, 1) := by decide +kernel
theorem dX11_init_71 : decode cX11_init 71 = .ok (.new 51, 3) := by decide +kernel
theorem dX11_init_74 : decode cX11_init 74 = .ok (.dup, 1) := by decide +kernel
theorem dX11_init_75 : decode cX11_init 75 = .ok (.invokespecial 53, 3) := by decide +kernel
theorem dX11_init_78 : decode cX11_init 78 = .ok (.putfield 54, 3) := by decide +kernel
theorem dX11_init_81 : decode cX11_init 81 = .ok (.aload_n 0, 1) := by decide +kernel
theorem dX11_init_82 : decode cX11_init 82 = .ok (.new 58, 3) := by decide +kernel
theorem dX11_init_85 : decode cX11_init 85 = .ok (.dup, 1) := by decide +kernel
theorem dX11_init_86 : decode cX11_init 86 = .ok (.invokespecial 60, 3) := by decide +kernel
theorem dX11_init_89 : decode cX11_init 89 = .ok (.putfield 61, 3) := by decide +kernel
theorem dX11_init_92 : decode cX11_init 92 = .ok (.aload_n 0, 1) := by decide +kernel
theorem dX11_init_93 : decode cX11_init 93 = .ok (.new 65, 3) := by decide +kernel
theorem dX11_init_96 : decode cX11_init 96 = .ok (.dup, 1) := by decide +kernel
theorem dX11_init_97 : decode cX11_init 97 = .ok (.invokespecial 67, 3) := by decide +kernel
theorem dX11_init_100 : decode cX11_init 100 = .ok (.putfield 68, 3) := by decide +kernel
theorem dX11_init_103 : decode cX11_init 103 = .ok (.aload_n 0, 1) := by decide +kernel
theorem dX11_init_104 : decode cX11_init 104 = .ok (.new 72, 3) := by decide +kernel
theorem dX11_init_107 : decode cX11_init 107 = .ok (.dup, 1) := by decide +kernel
theorem dX11_init_108 : decode cX11_init 108 = .ok (.invokespecial 74, 3) := by decide +kernel
theorem dX11_init_111 : decode cX11_init 111 = .ok (.putfield 75, 3) := by decide +kernel
theorem dX11_init_114 : decode cX11_init 114 = .ok (.aload_n 0, 1) := by decide +kernel
theorem dX11_init_115 : decode cX11_init 115 = .ok (.new 79, 3) := by decide +kernel
theorem dX11_init_118 : decode cX11_init 118 = .ok (.dup, 1) := by decide +kernel
theorem dX11_init_119 : decode cX11_init 119 = .ok (.invokespecial 81, 3) := by decide +kernel
theorem dX11_init_122 : decode cX11_init 122 = .ok (.putfield 82, 3) := by decide +kernel
theorem dX11_init_125 : decode cX11_init 125 = .ok (.return_, 1) := by decide +kernel
theorem dX11_feed_0 : decode cX11_feed 0 = .ok (.iload_n 1, 1) := by decide +kernel
theorem dX11_feed_1 : decode cX11_feed 1 = .ok (.ifCond .lt 10, 3) := by decide +kernel
theorem dX11_feed_4 : decode cX11_feed 4 = .ok (.iload_n 1, 1) := by decide +kernel
theorem dX11_feed_5 : decode cX11_feed 5 = .ok (.sipush 255, 3) := by decide +kernel
theorem dX11_feed_8 : decode cX11_feed 8 = .ok (.if_icmp .le 6, 3) := by decide +kernel
theorem dX11_feed_11 : decode cX11_feed 11 = .ok (.ldc 86, 2) := by decide +kernel
theorem dX11_feed_13 : decode cX11_feed 13 = .ok (.ireturn, 1) := by decide +kernel
theorem dX11_feed_14 : decode cX11_feed 14 = .ok (.aload_n 0, 1) := by decide +kernel
theorem dX11_feed_15 : decode cX11_feed 15 = .ok (.getfield 10, 3) := by decide +kernel
theorem dX11_feed_18 : decode cX11_feed 18 = .ok (.iload_n 1, 1) := by decide +kernel
theorem dX11_feed_19 : decode cX11_feed 19 = .ok (.invokevirtual 87, 3) := by decide +kernel
theorem dX11_feed_22 : decode cX11_feed 22 = .ok (.ifCond .ne 6, 3) := by decide +kernel
theorem dX11_feed_25 : decode cX11_feed 25 = .ok (.ldc 91, 2) := by decide +kernel
theorem dX11_feed_27 : decode cX11_feed 27 = .ok (.ireturn, 1) := by decide +kernel
theorem dX11_feed_28 : decode cX11_feed 28 = .ok (.aload_n 0, 1) := by decide +kernel
theorem dX11_feed_29 : decode cX11_feed 29 = .ok (.getfield 10, 3) := by decide +kernel
theorem dX11_feed_32 : decode cX11_feed 32 = .ok (.getfield 92, 3) := by decide +kernel
theorem dX11_feed_35 : decode cX11_feed 35 = .ok (.ireturn, 1) := by decide +kernel
theorem dX11_realm_0 : decode cX11_realm 0 = .ok (.aload_n 0, 1) := by decide +kernel
theorem dX11_realm_1 : decode cX11_realm 1 = .ok (.getfield 10, 3) := by decide +kernel
theorem dX11_realm_4 : decode cX11_realm 4 = .ok (.invokevirtual 96, 3) := by decide +kernel
theorem dX11_realm_7 : decode cX11_realm 7 = .ok (.ifCond .ne 14, 3) := by decide +kernel
theorem dX11_realm_10 : decode cX11_realm 10 = .ok (.bipush (-10), 2) := by decide +kernel
theorem dX11_realm_12 : decode cX11_realm 12 = .ok (.aload_n 0, 1) := by decide +kernel
theorem dX11_realm_13 : decode cX11_realm 13 = .ok (.getfield 10, 3) := by decide +kernel
theorem dX11_realm_16 : decode cX11_realm 16 = .ok (.getfield 100, 3) := by decide +kernel
theorem dX11_realm_19 : decode cX11_realm 19 = .ok (.isub, 1) := by decide +kernel
theorem dX11_realm_20 : decode cX11_realm 20 = .ok (.ireturn, 1) := by decide +kernel
theorem dX11_realm_21 : decode cX11_realm 21 = .ok (.aload_n 0, 1) := by decide +kernel
theorem dX11_realm_22 : decode cX11_realm 22 = .ok (.getfield 19, 3) := by decide +kernel
theorem dX11_realm_25 : decode cX11_realm 25 = .ok (.aload_n 0, 1) := by decide +kernel
theorem dX11_realm_26 : decode cX11_realm 26 = .ok (.getfield 10, 3) := by decide +kernel
theorem dX11_realm_29 : decode cX11_realm 29 = .ok (.getfield 103, 3) := by decide +kernel
theorem dX11_realm_32 : decode cX11_realm 32 = .ok (.invokevirtual 106, 3) := by decide +kernel
theorem dX11_realm_35 : decode cX11_realm 35 = .ok (.aload_n 0, 1) := by decide +kernel
theorem dX11_realm_36 : decode cX11_realm 36 = .ok (.getfield 26, 3) := by decide +kernel
theorem dX11_realm_39 : decode cX11_realm 39 = .ok (.aload_n 0, 1) := by decide +kernel
theorem dX11_realm_40 : decode cX11_realm 40 = .ok (.getfield 19, 3) := by decide +kernel
theorem dX11_realm_43 : decode cX11_realm 43 = .ok (.invokevirtual 110, 3) := by decide +kernel
theorem dX11_realm_46 : decode cX11_realm 46 = .ok (.aload_n 0, 1) := by decide +kernel
theorem dX11_realm_47 : decode cX11_realm 47 = .ok (.getfield 54, 3) := by decide +kernel
theorem dX11_realm_50 : decode cX11_realm 50 = .ok (.invokevirtual 113, 3) := by decide +kernel
theorem dX11_realm_53 : decode cX11_realm 53 = .ok (.aload_n 0, 1) := by decide +kernel
theorem dX11_realm_54 : decode cX11_realm 54 = .ok (.getfield 61, 3) := by decide +kernel
theorem dX11_realm_57 : decode cX11_realm 57 = .ok (.invokevirtual 116, 3) := by decide +kernel
theorem dX11_realm_60 : decode cX11_realm 60 = .ok (.aload_n 0, 1) := by decide +kernel
theorem dX11_realm_61 : decode cX11_realm 61 = .ok (.getfield 75, 3) := by decide +kernel
theorem dX11_realm_64 : decode cX11_realm 64 = .ok (.invokevirtual 117, 3) := by decide +kernel
theorem dX11_realm_67 : decode cX11_realm 67 = .ok (.aload_n 0, 1) := by decide +kernel
theorem dX11_realm_68 : decode cX11_realm 68 = .ok (.getfield 82, 3) := by decide +kernel
theorem dX11_realm_71 : decode cX11_realm 71 = .ok (.invokevirtual 118, 3) := by decide +kernel
theorem dX11_realm_74 : decode cX11_realm 74 = .ok (.aload_n 0, 1) := by decide +kernel
theorem dX11_realm_75 : decode cX11_realm 75 = .ok (.getfield 19, 3) := by decide +kernel
theorem dX11_realm_78 : decode cX11_realm 78 = .ok (.getfield 119, 3) := by decide +kernel
theorem dX11_realm_81 : decode cX11_realm 81 = .ok (.ireturn, 1) := by decide +kernel
theorem dX11_fault_0 : decode cX11_fault 0 = .ok (.aload_n 0, 1) := by decide +kernel
theorem dX11_fault_1 : decode cX11_fault 1 = .ok (.getfield 10, 3) := by decide +kernel
theorem dX11_fault_4 : decode cX11_fault 4 = .ok (.getfield 122, 3) := by decide +kernel
theorem dX11_fault_7 : decode cX11_fault 7 = .ok (.ireturn, 1) := by decide +kernel
theorem dX11_told_0 : decode cX11_told 0 = .ok (.iload_n 1, 1) := by decide +kernel
theorem dX11_told_1 : decode cX11_told 1 = .ok (.tableswitch 224 0 16 #[83, 91, 99, 107, 115, 123, 131, 139, 147, 155, 163, 171, 187, 192, 200, 208, 216], 83) := by decide +kernel
theorem dX11_told_84 : decode cX11_told 84 = .ok (.aload_n 0, 1) := by decide +kernel
theorem dX11_told_85 : decode cX11_told 85 = .ok (.getfield 19, 3) := by decide +kernel
end
section
-- the decode rows as printed for this claim (a starting text)
theorem dX11_told_88 : decode cX11_told 88 = .ok (.getfield 125, 3) := by decide +kernel
theorem dX11_told_91 : decode cX11_told 91 = .ok (.ireturn, 1) := by decide +kernel
theorem dX11_told_92 : decode cX11_told 92 = .ok (.aload_n 0, 1) := by decide +kernel
theorem dX11_told_93 : decode cX11_told 93 = .ok (.getfield 26, 3) := by decide +kernel
theorem dX11_told_96 : decode cX11_told 96 = .ok (.getfield 128, 3) := by decide +kernel
theorem dX11_told_99 : decode cX11_told 99 = .ok (.ireturn, 1) := by decide +kernel
theorem dX11_told_100 : decode cX11_told 100 = .ok (.aload_n 0, 1) := by decide +kernel
theorem dX11_told_101 : decode cX11_told 101 = .ok (.getfield 19, 3) := by decide +kernel
theorem dX11_told_104 : decode cX11_told 104 = .ok (.getfield 119, 3) := by decide +kernel
theorem dX11_told_107 : decode cX11_told 107 = .ok (.ireturn, 1) := by decide +kernel
theorem dX11_told_108 : decode cX11_told 108 = .ok (.aload_n 0, 1) := by decide +kernel
theorem dX11_told_109 : decode cX11_told 109 = .ok (.getfield 19, 3) := by decide +kernel
theorem dX11_told_112 : decode cX11_told 112 = .ok (.getfield 131, 3) := by decide +kernel
theorem dX11_told_115 : decode cX11_told 115 = .ok (.ireturn, 1) := by decide +kernel
theorem dX11_told_116 : decode cX11_told 116 = .ok (.aload_n 0, 1) := by decide +kernel
theorem dX11_told_117 : decode cX11_told 117 = .ok (.getfield 10, 3) := by decide +kernel
theorem dX11_told_120 : decode cX11_told 120 = .ok (.getfield 92, 3) := by decide +kernel
theorem dX11_told_123 : decode cX11_told 123 = .ok (.ireturn, 1) := by decide +kernel
theorem dX11_told_124 : decode cX11_told 124 = .ok (.aload_n 0, 1) := by decide +kernel
theorem dX11_told_125 : decode cX11_told 125 = .ok (.getfield 26, 3) := by decide +kernel
theorem dX11_told_128 : decode cX11_told 128 = .ok (.invokevirtual 134, 3) := by decide +kernel
theorem dX11_told_131 : decode cX11_told 131 = .ok (.ireturn, 1) := by decide +kernel
theorem dX11_told_132 : decode cX11_told 132 = .ok (.aload_n 0, 1) := by decide +kernel
theorem dX11_told_133 : decode cX11_told 133 = .ok (.getfield 26, 3) := by decide +kernel
theorem dX11_told_136 : decode cX11_told 136 = .ok (.getfield 138, 3) := by decide +kernel
theorem dX11_told_139 : decode cX11_told 139 = .ok (.ireturn, 1) := by decide +kernel
theorem dX11_told_140 : decode cX11_told 140 = .ok (.aload_n 0, 1) := by decide +kernel
theorem dX11_told_141 : decode cX11_told 141 = .ok (.getfield 26, 3) := by decide +kernel
theorem dX11_told_144 : decode cX11_told 144 = .ok (.getfield 141, 3) := by decide +kernel
theorem dX11_told_147 : decode cX11_told 147 = .ok (.ireturn, 1) := by decide +kernel
theorem dX11_told_148 : decode cX11_told 148 = .ok (.aload_n 0, 1) := by decide +kernel
theorem dX11_told_149 : decode cX11_told 149 = .ok (.getfield 26, 3) := by decide +kernel
theorem dX11_told_152 : decode cX11_told 152 = .ok (.getfield 144, 3) := by decide +kernel
theorem dX11_told_155 : decode cX11_told 155 = .ok (.ireturn, 1) := by decide +kernel
theorem dX11_told_156 : decode cX11_told 156 = .ok (.aload_n 0, 1) := by decide +kernel
theorem dX11_told_157 : decode cX11_told 157 = .ok (.getfield 26, 3) := by decide +kernel
theorem dX11_told_160 : decode cX11_told 160 = .ok (.getfield 147, 3) := by decide +kernel
theorem dX11_told_163 : decode cX11_told 163 = .ok (.ireturn, 1) := by decide +kernel
theorem dX11_told_164 : decode cX11_told 164 = .ok (.aload_n 0, 1) := by decide +kernel
theorem dX11_told_165 : decode cX11_told 165 = .ok (.getfield 26, 3) := by decide +kernel
theorem dX11_told_168 : decode cX11_told 168 = .ok (.getfield 150, 3) := by decide +kernel
theorem dX11_told_171 : decode cX11_told 171 = .ok (.ireturn, 1) := by decide +kernel
theorem dX11_told_172 : decode cX11_told 172 = .ok (.aload_n 0, 1) := by decide +kernel
theorem dX11_told_173 : decode cX11_told 173 = .ok (.getfield 26, 3) := by decide +kernel
theorem dX11_told_176 : decode cX11_told 176 = .ok (.iconst 1, 1) := by decide +kernel
theorem dX11_told_177 : decode cX11_told 177 = .ok (.aload_n 0, 1) := by decide +kernel
theorem dX11_told_178 : decode cX11_told 178 = .ok (.getfield 19, 3) := by decide +kernel
theorem dX11_told_181 : decode cX11_told 181 = .ok (.getfield 119, 3) := by decide +kernel
theorem dX11_told_184 : decode cX11_told 184 = .ok (.invokevirtual 153, 3) := by decide +kernel
theorem dX11_told_187 : decode cX11_told 187 = .ok (.ireturn, 1) := by decide +kernel
theorem dX11_told_188 : decode cX11_told 188 = .ok (.aload_n 0, 1) := by decide +kernel
theorem dX11_told_189 : decode cX11_told 189 = .ok (.invokevirtual 157, 3) := by decide +kernel
theorem dX11_told_192 : decode cX11_told 192 = .ok (.ireturn, 1) := by decide +kernel
theorem dX11_told_193 : decode cX11_told 193 = .ok (.aload_n 0, 1) := by decide +kernel
theorem dX11_told_194 : decode cX11_told 194 = .ok (.getfield 26, 3) := by decide +kernel
theorem dX11_told_197 : decode cX11_told 197 = .ok (.getfield 160, 3) := by decide +kernel
theorem dX11_told_200 : decode cX11_told 200 = .ok (.ireturn, 1) := by decide +kernel
theorem dX11_told_201 : decode cX11_told 201 = .ok (.aload_n 0, 1) := by decide +kernel
theorem dX11_told_202 : decode cX11_told 202 = .ok (.getfield 54, 3) := by decide +kernel
theorem dX11_told_205 : decode cX11_told 205 = .ok (.getfield 163, 3) := by decide +kernel
theorem dX11_told_208 : decode cX11_told 208 = .ok (.ireturn, 1) := by decide +kernel
theorem dX11_told_209 : decode cX11_told 209 = .ok (.aload_n 0, 1) := by decide +kernel
theorem dX11_told_210 : decode cX11_told 210 = .ok (.getfield 61, 3) := by decide +kernel
theorem dX11_told_213 : decode cX11_told 213 = .ok (.getfield 166, 3) := by decide +kernel
theorem dX11_told_216 : decode cX11_told 216 = .ok (.ireturn, 1) := by decide +kernel
theorem dX11_told_217 : decode cX11_told 217 = .ok (.aload_n 0, 1) := by decide +kernel
theorem dX11_told_218 : decode cX11_told 218 = .ok (.getfield 75, 3) := by decide +kernel
theorem dX11_told_221 : decode cX11_told 221 = .ok (.getfield 167, 3) := by decide +kernel
theorem dX11_told_224 : decode cX11_told 224 = .ok (.ireturn, 1) := by decide +kernel
theorem dX11_told_225 : decode cX11_told 225 = .ok (.ldc 86, 2) := by decide +kernel
theorem dX11_told_227 : decode cX11_told 227 = .ok (.ireturn, 1) := by decide +kernel
theorem dX11_table_0 : decode cX11_table 0 = .ok (.aload_n 0, 1) := by decide +kernel
theorem dX11_table_1 : decode cX11_table 1 = .ok (.getfield 19, 3) := by decide +kernel
theorem dX11_table_4 : decode cX11_table 4 = .ok (.iload_n 1, 1) := by decide +kernel
theorem dX11_table_5 : decode cX11_table 5 = .ok (.invokevirtual 168, 3) := by decide +kernel
theorem dX11_table_8 : decode cX11_table 8 = .ok (.ifCond .ne 6, 3) := by decide +kernel
theorem dX11_table_11 : decode cX11_table 11 = .ok (.ldc 171, 2) := by decide +kernel
theorem dX11_table_13 : decode cX11_table 13 = .ok (.ireturn, 1) := by decide +kernel
theorem dX11_table_14 : decode cX11_table 14 = .ok (.iload_n 2, 1) := by decide +kernel
theorem dX11_table_15 : decode cX11_table 15 = .ok (.tableswitch 64 0 3 #[29, 39, 49, 58], 29) := by decide +kernel
theorem dX11_table_44 : decode cX11_table 44 = .ok (.aload_n 0, 1) := by decide +kernel
theorem dX11_table_45 : decode cX11_table 45 = .ok (.getfield 26, 3) := by decide +kernel
theorem dX11_table_48 : decode cX11_table 48 = .ok (.getfield 172, 3) := by decide +kernel
theorem dX11_table_51 : decode cX11_table 51 = .ok (.iload_n 1, 1) := by decide +kernel
theorem dX11_table_52 : decode cX11_table 52 = .ok (.iaload, 1) := by decide +kernel
theorem dX11_table_53 : decode cX11_table 53 = .ok (.ireturn, 1) := by decide +kernel
theorem dX11_table_54 : decode cX11_table 54 = .ok (.aload_n 0, 1) := by decide +kernel
theorem dX11_table_55 : decode cX11_table 55 = .ok (.getfield 26, 3) := by decide +kernel
theorem dX11_table_58 : decode cX11_table 58 = .ok (.getfield 176, 3) := by decide +kernel
theorem dX11_table_61 : decode cX11_table 61 = .ok (.iload_n 1, 1) := by decide +kernel
theorem dX11_table_62 : decode cX11_table 62 = .ok (.iaload, 1) := by decide +kernel
theorem dX11_table_63 : decode cX11_table 63 = .ok (.ireturn, 1) := by decide +kernel
theorem dX11_table_64 : decode cX11_table 64 = .ok (.aload_n 0, 1) := by decide +kernel
theorem dX11_table_65 : decode cX11_table 65 = .ok (.getfield 26, 3) := by decide +kernel
theorem dX11_table_68 : decode cX11_table 68 = .ok (.iload_n 1, 1) := by decide +kernel
theorem dX11_table_69 : decode cX11_table 69 = .ok (.invokevirtual 179, 3) := by decide +kernel
theorem dX11_table_72 : decode cX11_table 72 = .ok (.ireturn, 1) := by decide +kernel
theorem dX11_table_73 : decode cX11_table 73 = .ok (.aload_n 0, 1) := by decide +kernel
theorem dX11_table_74 : decode cX11_table 74 = .ok (.iload_n 1, 1) := by decide +kernel
theorem dX11_table_75 : decode cX11_table 75 = .ok (.invokevirtual 183, 3) := by decide +kernel
theorem dX11_table_78 : decode cX11_table 78 = .ok (.ireturn, 1) := by decide +kernel
theorem dX11_table_79 : decode cX11_table 79 = .ok (.ldc 86, 2) := by decide +kernel
theorem dX11_table_81 : decode cX11_table 81 = .ok (.ireturn, 1) := by decide +kernel
theorem dX11_emergencyNow_0 : decode cX11_emergencyNow 0 = .ok (.aload_n 0, 1) := by decide +kernel
theorem dX11_emergencyNow_1 : decode cX11_emergencyNow 1 = .ok (.getfield 33, 3) := by decide +kernel
theorem dX11_emergencyNow_4 : decode cX11_emergencyNow 4 = .ok (.aload_n 0, 1) := by decide +kernel
theorem dX11_emergencyNow_5 : decode cX11_emergencyNow 5 = .ok (.getfield 19, 3) := by decide +kernel
theorem dX11_emergencyNow_8 : decode cX11_emergencyNow 8 = .ok (.aload_n 0, 1) := by decide +kernel
theorem dX11_emergencyNow_9 : decode cX11_emergencyNow 9 = .ok (.getfield 26, 3) := by decide +kernel
theorem dX11_emergencyNow_12 : decode cX11_emergencyNow 12 = .ok (.invokevirtual 186, 3) := by decide +kernel
theorem dX11_emergencyNow_15 : decode cX11_emergencyNow 15 = .ok (.aload_n 0, 1) := by decide +kernel
theorem dX11_emergencyNow_16 : decode cX11_emergencyNow 16 = .ok (.getfield 33, 3) := by decide +kernel
theorem dX11_emergencyNow_19 : decode cX11_emergencyNow 19 = .ok (.invokevirtual 190, 3) := by decide +kernel
theorem dX11_emergencyNow_22 : decode cX11_emergencyNow 22 = .ok (.ireturn, 1) := by decide +kernel
theorem dX11_joinedNow_0 : decode cX11_joinedNow 0 = .ok (.aload_n 0, 1) := by decide +kernel
theorem dX11_joinedNow_1 : decode cX11_joinedNow 1 = .ok (.getfield 33, 3) := by decide +kernel
theorem dX11_joinedNow_4 : decode cX11_joinedNow 4 = .ok (.aload_n 0, 1) := by decide +kernel
theorem dX11_joinedNow_5 : decode cX11_joinedNow 5 = .ok (.getfield 19, 3) := by decide +kernel
theorem dX11_joinedNow_8 : decode cX11_joinedNow 8 = .ok (.aload_n 0, 1) := by decide +kernel
theorem dX11_joinedNow_9 : decode cX11_joinedNow 9 = .ok (.getfield 26, 3) := by decide +kernel
theorem dX11_joinedNow_12 : decode cX11_joinedNow 12 = .ok (.getfield 160, 3) := by decide +kernel
theorem dX11_joinedNow_15 : decode cX11_joinedNow 15 = .ok (.invokevirtual 193, 3) := by decide +kernel
theorem dX11_joinedNow_18 : decode cX11_joinedNow 18 = .ok (.aload_n 0, 1) := by decide +kernel
theorem dX11_joinedNow_19 : decode cX11_joinedNow 19 = .ok (.getfield 33, 3) := by decide +kernel
theorem dX11_joinedNow_22 : decode cX11_joinedNow 22 = .ok (.iconst 1, 1) := by decide +kernel
theorem dX11_joinedNow_23 : decode cX11_joinedNow 23 = .ok (.iload_n 1, 1) := by decide +kernel
theorem dX11_joinedNow_24 : decode cX11_joinedNow 24 = .ok (.ishl, 1) := by decide +kernel
theorem dX11_joinedNow_25 : decode cX11_joinedNow 25 = .ok (.invokevirtual 197, 3) := by decide +kernel
theorem dX11_joinedNow_28 : decode cX11_joinedNow 28 = .ok (.ireturn, 1) := by decide +kernel
theorem dX11_way_0 : decode cX11_way 0 = .ok (.aload_n 0, 1) := by decide +kernel
theorem dX11_way_1 : decode cX11_way 1 = .ok (.getfield 19, 3) := by decide +kernel
theorem dX11_way_4 : decode cX11_way 4 = .ok (.iload_n 1, 1) := by decide +kernel
theorem dX11_way_5 : decode cX11_way 5 = .ok (.invokevirtual 200, 3) := by decide +kernel
theorem dX11_way_8 : decode cX11_way 8 = .ok (.ifCond .ne 6, 3) := by decide +kernel
theorem dX11_way_11 : decode cX11_way 11 = .ok (.ldc 171, 2) := by decide +kernel
theorem dX11_way_13 : decode cX11_way 13 = .ok (.ireturn, 1) := by decide +kernel
theorem dX11_way_14 : decode cX11_way 14 = .ok (.iload_n 2, 1) := by decide +kernel
theorem dX11_way_15 : decode cX11_way 15 = .ok (.tableswitch 62 0 2 #[25, 35, 45], 25) := by decide +kernel
theorem dX11_way_40 : decode cX11_way 40 = .ok (.aload_n 0, 1) := by decide +kernel
theorem dX11_way_41 : decode cX11_way 41 = .ok (.getfield 19, 3) := by decide +kernel
theorem dX11_way_44 : decode cX11_way 44 = .ok (.getfield 203, 3) := by decide +kernel
theorem dX11_way_47 : decode cX11_way 47 = .ok (.iload_n 1, 1) := by decide +kernel
theorem dX11_way_48 : decode cX11_way 48 = .ok (.iaload, 1) := by decide +kernel
theorem dX11_way_49 : decode cX11_way 49 = .ok (.ireturn, 1) := by decide +kernel
theorem dX11_way_50 : decode cX11_way 50 = .ok (.aload_n 0, 1) := by decide +kernel
theorem dX11_way_51 : decode cX11_way 51 = .ok (.getfield 19, 3) := by decide +kernel
theorem dX11_way_54 : decode cX11_way 54 = .ok (.getfield 206, 3) := by decide +kernel
theorem dX11_way_57 : decode cX11_way 57 = .ok (.iload_n 1, 1) := by decide +kernel
theorem dX11_way_58 : decode cX11_way 58 = .ok (.iaload, 1) := by decide +kernel
theorem dX11_way_59 : decode cX11_way 59 = .ok (.ireturn, 1) := by decide +kernel
theorem dX11_way_60 : decode cX11_way 60 = .ok (.aload_n 0, 1) := by decide +kernel
theorem dX11_way_61 : decode cX11_way 61 = .ok (.getfield 26, 3) := by decide +kernel
theorem dX11_way_64 : decode cX11_way 64 = .ok (.iload_n 1, 1) := by decide +kernel
theorem dX11_way_65 : decode cX11_way 65 = .ok (.invokevirtual 209, 3) := by decide +kernel
theorem dX11_way_68 : decode cX11_way 68 = .ok (.ifCond .eq 7, 3) := by decide +kernel
theorem dX11_way_71 : decode cX11_way 71 = .ok (.iconst 1, 1) := by decide +kernel
theorem dX11_way_72 : decode cX11_way 72 = .ok (.goto 4, 3) := by decide +kernel
theorem dX11_way_75 : decode cX11_way 75 = .ok (.iconst 0, 1) := by decide +kernel
theorem dX11_way_76 : decode cX11_way 76 = .ok (.ireturn, 1) := by decide +kernel
theorem dX11_way_77 : decode cX11_way 77 = .ok (.ldc 86, 2) := by decide +kernel
theorem dX11_way_79 : decode cX11_way 79 = .ok (.ireturn, 1) := by decide +kernel
theorem dX11_come_0 : decode cX11_come 0 = .ok (.aload_n 0, 1) := by decide +kernel
theorem dX11_come_1 : decode cX11_come 1 = .ok (.getfield 19, 3) := by decide +kernel
theorem dX11_come_4 : decode cX11_come 4 = .ok (.iload_n 1, 1) := by decide +kernel
theorem dX11_come_5 : decode cX11_come 5 = .ok (.invokevirtual 168, 3) := by decide +kernel
theorem dX11_come_8 : decode cX11_come 8 = .ok (.ifCond .ne 6, 3) := by decide +kernel
theorem dX11_come_11 : decode cX11_come 11 = .ok (.ldc 171, 2) := by decide +kernel
theorem dX11_come_13 : decode cX11_come 13 = .ok (.ireturn, 1) := by decide +kernel
theorem dX11_come_14 : decode cX11_come 14 = .ok (.aload_n 0, 1) := by decide +kernel
theorem dX11_come_15 : decode cX11_come 15 = .ok (.getfield 26, 3) := by decide +kernel
theorem dX11_come_18 : decode cX11_come 18 = .ok (.getfield 150, 3) := by decide +kernel
theorem dX11_come_21 : decode cX11_come 21 = .ok (.sipush 9000, 3) := by decide +kernel
theorem dX11_come_24 : decode cX11_come 24 = .ok (.if_icmp .le 6, 3) := by decide +kernel
theorem dX11_come_27 : decode cX11_come 27 = .ok (.ldc 91, 2) := by decide +kernel
theorem dX11_come_29 : decode cX11_come 29 = .ok (.ireturn, 1) := by decide +kernel
theorem dX11_come_30 : decode cX11_come 30 = .ok (.aload_n 0, 1) := by decide +kernel
theorem dX11_come_31 : decode cX11_come 31 = .ok (.getfield 75, 3) := by decide +kernel
theorem dX11_come_34 : decode cX11_come 34 = .ok (.aload_n 0, 1) := by decide +kernel
theorem dX11_come_35 : decode cX11_come 35 = .ok (.getfield 26, 3) := by decide +kernel
theorem dX11_come_38 : decode cX11_come 38 = .ok (.invokevirtual 212, 3) := by decide +kernel
theorem dX11_come_41 : decode cX11_come 41 = .ok (.aload_n 0, 1) := by decide +kernel
theorem dX11_come_42 : decode cX11_come 42 = .ok (.getfield 40, 3) := by decide +kernel
theorem dX11_come_45 : decode cX11_come 45 = .ok (.aload_n 0, 1) := by decide +kernel
theorem dX11_come_46 : decode cX11_come 46 = .ok (.getfield 19, 3) := by decide +kernel
theorem dX11_come_49 : decode cX11_come 49 = .ok (.aload_n 0, 1) := by decide +kernel
theorem dX11_come_50 : decode cX11_come 50 = .ok (.getfield 26, 3) := by decide +kernel
theorem dX11_come_53 : decode cX11_come 53 = .ok (.iload_n 1, 1) := by decide +kernel
theorem dX11_come_54 : decode cX11_come 54 = .ok (.invokevirtual 216, 3) := by decide +kernel
theorem dX11_come_57 : decode cX11_come 57 = .ok (.ireturn, 1) := by decide +kernel
theorem dX11_go_0 : decode cX11_go 0 = .ok (.aload_n 0, 1) := by decide +kernel
theorem dX11_go_1 : decode cX11_go 1 = .ok (.getfield 19, 3) := by decide +kernel
theorem dX11_go_4 : decode cX11_go 4 = .ok (.iload_n 1, 1) := by decide +kernel
theorem dX11_go_5 : decode cX11_go 5 = .ok (.invokevirtual 168, 3) := by decide +kernel
theorem dX11_go_8 : decode cX11_go 8 = .ok (.ifCond .ne 6, 3) := by decide +kernel
theorem dX11_go_11 : decode cX11_go 11 = .ok (.ldc 171, 2) := by decide +kernel
theorem dX11_go_13 : decode cX11_go 13 = .ok (.ireturn, 1) := by decide +kernel
theorem dX11_go_14 : decode cX11_go 14 = .ok (.aload_n 0, 1) := by decide +kernel
theorem dX11_go_15 : decode cX11_go 15 = .ok (.getfield 26, 3) := by decide +kernel
theorem dX11_go_18 : decode cX11_go 18 = .ok (.getfield 176, 3) := by decide +kernel
theorem dX11_go_21 : decode cX11_go 21 = .ok (.iload_n 1, 1) := by decide +kernel
theorem dX11_go_22 : decode cX11_go 22 = .ok (.iaload, 1) := by decide +kernel
theorem dX11_go_23 : decode cX11_go 23 = .ok (.ifCond .gt 6, 3) := by decide +kernel
theorem dX11_go_26 : decode cX11_go 26 = .ok (.ldc 220, 2) := by decide +kernel
theorem dX11_go_28 : decode cX11_go 28 = .ok (.ireturn, 1) := by decide +kernel
theorem dX11_go_29 : decode cX11_go 29 = .ok (.aload_n 0, 1) := by decide +kernel
theorem dX11_go_30 : decode cX11_go 30 = .ok (.getfield 75, 3) := by decide +kernel
theorem dX11_go_33 : decode cX11_go 33 = .ok (.aload_n 0, 1) := by decide +kernel
theorem dX11_go_34 : decode cX11_go 34 = .ok (.getfield 26, 3) := by decide +kernel
theorem dX11_go_37 : decode cX11_go 37 = .ok (.invokevirtual 212, 3) := by decide +kernel
theorem dX11_go_40 : decode cX11_go 40 = .ok (.aload_n 0, 1) := by decide +kernel
theorem dX11_go_41 : decode cX11_go 41 = .ok (.getfield 26, 3) := by decide +kernel
theorem dX11_go_44 : decode cX11_go 44 = .ok (.getfield 176, 3) := by decide +kernel
theorem dX11_go_47 : decode cX11_go 47 = .ok (.iload_n 1, 1) := by decide +kernel
theorem dX11_go_48 : decode cX11_go 48 = .ok (.dup2, 1) := by decide +kernel
theorem dX11_go_49 : decode cX11_go 49 = .ok (.iaload, 1) := by decide +kernel
theorem dX11_go_50 : decode cX11_go 50 = .ok (.iconst 1, 1) := by decide +kernel
theorem dX11_go_51 : decode cX11_go 51 = .ok (.isub, 1) := by decide +kernel
theorem dX11_go_52 : decode cX11_go 52 = .ok (.iastore, 1) := by decide +kernel
theorem dX11_go_53 : decode cX11_go 53 = .ok (.aload_n 0, 1) := by decide +kernel
theorem dX11_go_54 : decode cX11_go 54 = .ok (.getfield 26, 3) := by decide +kernel
theorem dX11_go_57 : decode cX11_go 57 = .ok (.getfield 176, 3) := by decide +kernel
theorem dX11_go_60 : decode cX11_go 60 = .ok (.iload_n 1, 1) := by decide +kernel
theorem dX11_go_61 : decode cX11_go 61 = .ok (.iaload, 1) := by decide +kernel
theorem dX11_go_62 : decode cX11_go 62 = .ok (.ireturn, 1) := by decide +kernel
theorem dX11_build_0 : decode cX11_build 0 = .ok (.aload_n 0, 1) := by decide +kernel
theorem dX11_build_1 : decode cX11_build 1 = .ok (.getfield 19, 3) := by decide +kernel
theorem dX11_build_4 : decode cX11_build 4 = .ok (.iload_n 1, 1) := by decide +kernel
theorem dX11_build_5 : decode cX11_build 5 = .ok (.invokevirtual 168, 3) := by decide +kernel
theorem dX11_build_8 : decode cX11_build 8 = .ok (.ifCond .ne 6, 3) := by decide +kernel
theorem dX11_build_11 : decode cX11_build 11 = .ok (.ldc 171, 2) := by decide +kernel
theorem dX11_build_13 : decode cX11_build 13 = .ok (.ireturn, 1) := by decide +kernel
theorem dX11_build_14 : decode cX11_build 14 = .ok (.aload_n 0, 1) := by decide +kernel
theorem dX11_build_15 : decode cX11_build 15 = .ok (.getfield 26, 3) := by decide +kernel
theorem dX11_build_18 : decode cX11_build 18 = .ok (.getfield 128, 3) := by decide +kernel
theorem dX11_build_21 : decode cX11_build 21 = .ok (.ifCond .le 17, 3) := by decide +kernel
theorem dX11_build_24 : decode cX11_build 24 = .ok (.aload_n 0, 1) := by decide +kernel
theorem dX11_build_25 : decode cX11_build 25 = .ok (.getfield 26, 3) := by decide +kernel
theorem dX11_build_28 : decode cX11_build 28 = .ok (.getfield 172, 3) := by decide +kernel
theorem dX11_build_31 : decode cX11_build 31 = .ok (.iload_n 1, 1) := by decide +kernel
theorem dX11_build_32 : decode cX11_build 32 = .ok (.iaload, 1) := by decide +kernel
theorem dX11_build_33 : decode cX11_build 33 = .ok (.bipush 20, 2) := by decide +kernel
theorem dX11_build_35 : decode cX11_build 35 = .ok (.if_icmp .lt 6, 3) := by decide +kernel
theorem dX11_build_38 : decode cX11_build 38 = .ok (.ldc 220, 2) := by decide +kernel
theorem dX11_build_40 : decode cX11_build 40 = .ok (.ireturn, 1) := by decide +kernel
theorem dX11_build_41 : decode cX11_build 41 = .ok (.aload_n 0, 1) := by decide +kernel
theorem dX11_build_42 : decode cX11_build 42 = .ok (.getfield 75, 3) := by decide +kernel
theorem dX11_build_45 : decode cX11_build 45 = .ok (.aload_n 0, 1) := by decide +kernel
theorem dX11_build_46 : decode cX11_build 46 = .ok (.getfield 26, 3) := by decide +kernel
theorem dX11_build_49 : decode cX11_build 49 = .ok (.invokevirtual 212, 3) := by decide +kernel
theorem dX11_build_52 : decode cX11_build 52 = .ok (.aload_n 0, 1) := by decide +kernel
theorem dX11_build_53 : decode cX11_build 53 = .ok (.getfield 26, 3) := by decide +kernel
theorem dX11_build_56 : decode cX11_build 56 = .ok (.dup, 1) := by decide +kernel
theorem dX11_build_57 : decode cX11_build 57 = .ok (.getfield 128, 3) := by decide +kernel
theorem dX11_build_60 : decode cX11_build 60 = .ok (.iconst 1, 1) := by decide +kernel
theorem dX11_build_61 : decode cX11_build 61 = .ok (.isub, 1) := by decide +kernel
theorem dX11_build_62 : decode cX11_build 62 = .ok (.putfield 128, 3) := by decide +kernel
theorem dX11_build_65 : decode cX11_build 65 = .ok (.aload_n 0, 1) := by decide +kernel
theorem dX11_build_66 : decode cX11_build 66 = .ok (.getfield 26, 3) := by decide +kernel
theorem dX11_build_69 : decode cX11_build 69 = .ok (.getfield 172, 3) := by decide +kernel
theorem dX11_build_72 : decode cX11_build 72 = .ok (.iload_n 1, 1) := by decide +kernel
theorem dX11_build_73 : decode cX11_build 73 = .ok (.dup2, 1) := by decide +kernel
theorem dX11_build_74 : decode cX11_build 74 = .ok (.iaload, 1) := by decide +kernel
theorem dX11_build_75 : decode cX11_build 75 = .ok (.iconst 1, 1) := by decide +kernel
theorem dX11_build_76 : decode cX11_build 76 = .ok (.iadd, 1) := by decide +kernel
theorem dX11_build_77 : decode cX11_build 77 = .ok (.iastore, 1) := by decide +kernel
theorem dX11_build_78 : decode cX11_build 78 = .ok (.aload_n 0, 1) := by decide +kernel
theorem dX11_build_79 : decode cX11_build 79 = .ok (.getfield 26, 3) := by decide +kernel
theorem dX11_build_82 : decode cX11_build 82 = .ok (.getfield 172, 3) := by decide +kernel
theorem dX11_build_85 : decode cX11_build 85 = .ok (.iload_n 1, 1) := by decide +kernel
theorem dX11_build_86 : decode cX11_build 86 = .ok (.iaload, 1) := by decide +kernel
theorem dX11_build_87 : decode cX11_build 87 = .ok (.ireturn, 1) := by decide +kernel
theorem dX11_breakOne_0 : decode cX11_breakOne 0 = .ok (.aload_n 0, 1) := by decide +kernel
theorem dX11_breakOne_1 : decode cX11_breakOne 1 = .ok (.getfield 19, 3) := by decide +kernel
theorem dX11_breakOne_4 : decode cX11_breakOne 4 = .ok (.iload_n 1, 1) := by decide +kernel
theorem dX11_breakOne_5 : decode cX11_breakOne 5 = .ok (.invokevirtual 168, 3) := by decide +kernel
theorem dX11_breakOne_8 : decode cX11_breakOne 8 = .ok (.ifCond .ne 6, 3) := by decide +kernel
theorem dX11_breakOne_11 : decode cX11_breakOne 11 = .ok (.ldc 171, 2) := by decide +kernel
theorem dX11_breakOne_13 : decode cX11_breakOne 13 = .ok (.ireturn, 1) := by decide +kernel
theorem dX11_breakOne_14 : decode cX11_breakOne 14 = .ok (.aload_n 0, 1) := by decide +kernel
theorem dX11_breakOne_15 : decode cX11_breakOne 15 = .ok (.getfield 26, 3) := by decide +kernel
theorem dX11_breakOne_18 : decode cX11_breakOne 18 = .ok (.iload_n 1, 1) := by decide +kernel
theorem dX11_breakOne_19 : decode cX11_breakOne 19 = .ok (.invokevirtual 179, 3) := by decide +kernel
theorem dX11_breakOne_22 : decode cX11_breakOne 22 = .ok (.ifCond .gt 6, 3) := by decide +kernel
theorem dX11_breakOne_25 : decode cX11_breakOne 25 = .ok (.ldc 220, 2) := by decide +kernel
theorem dX11_breakOne_27 : decode cX11_breakOne 27 = .ok (.ireturn, 1) := by decide +kernel
theorem dX11_breakOne_28 : decode cX11_breakOne 28 = .ok (.aload_n 0, 1) := by decide +kernel
theorem dX11_breakOne_29 : decode cX11_breakOne 29 = .ok (.getfield 75, 3) := by decide +kernel
theorem dX11_breakOne_32 : decode cX11_breakOne 32 = .ok (.aload_n 0, 1) := by decide +kernel
theorem dX11_breakOne_33 : decode cX11_breakOne 33 = .ok (.getfield 26, 3) := by decide +kernel
theorem dX11_breakOne_36 : decode cX11_breakOne 36 = .ok (.invokevirtual 212, 3) := by decide +kernel
theorem dX11_breakOne_39 : decode cX11_breakOne 39 = .ok (.aload_n 0, 1) := by decide +kernel
theorem dX11_breakOne_40 : decode cX11_breakOne 40 = .ok (.getfield 26, 3) := by decide +kernel
theorem dX11_breakOne_43 : decode cX11_breakOne 43 = .ok (.getfield 172, 3) := by decide +kernel
theorem dX11_breakOne_46 : decode cX11_breakOne 46 = .ok (.iload_n 1, 1) := by decide +kernel
theorem dX11_breakOne_47 : decode cX11_breakOne 47 = .ok (.dup2, 1) := by decide +kernel
theorem dX11_breakOne_48 : decode cX11_breakOne 48 = .ok (.iaload, 1) := by decide +kernel
theorem dX11_breakOne_49 : decode cX11_breakOne 49 = .ok (.iconst 1, 1) := by decide +kernel
theorem dX11_breakOne_50 : decode cX11_breakOne 50 = .ok (.isub, 1) := by decide +kernel
theorem dX11_breakOne_51 : decode cX11_breakOne 51 = .ok (.iastore, 1) := by decide +kernel
theorem dX11_breakOne_52 : decode cX11_breakOne 52 = .ok (.aload_n 0, 1) := by decide +kernel
theorem dX11_breakOne_53 : decode cX11_breakOne 53 = .ok (.getfield 26, 3) := by decide +kernel
theorem dX11_breakOne_56 : decode cX11_breakOne 56 = .ok (.getfield 172, 3) := by decide +kernel
theorem dX11_breakOne_59 : decode cX11_breakOne 59 = .ok (.iload_n 1, 1) := by decide +kernel
theorem dX11_breakOne_60 : decode cX11_breakOne 60 = .ok (.iaload, 1) := by decide +kernel
theorem dX11_breakOne_61 : decode cX11_breakOne 61 = .ok (.ireturn, 1) := by decide +kernel
theorem dX11_shut_0 : decode cX11_shut 0 = .ok (.aload_n 0, 1) := by decide +kernel
theorem dX11_shut_1 : decode cX11_shut 1 = .ok (.getfield 19, 3) := by decide +kernel
theorem dX11_shut_4 : decode cX11_shut 4 = .ok (.iload_n 1, 1) := by decide +kernel
theorem dX11_shut_5 : decode cX11_shut 5 = .ok (.invokevirtual 200, 3) := by decide +kernel
theorem dX11_shut_8 : decode cX11_shut 8 = .ok (.ifCond .ne 6, 3) := by decide +kernel
theorem dX11_shut_11 : decode cX11_shut 11 = .ok (.ldc 171, 2) := by decide +kernel
theorem dX11_shut_13 : decode cX11_shut 13 = .ok (.ireturn, 1) := by decide +kernel
theorem dX11_shut_14 : decode cX11_shut 14 = .ok (.aload_n 0, 1) := by decide +kernel
theorem dX11_shut_15 : decode cX11_shut 15 = .ok (.getfield 26, 3) := by decide +kernel
theorem dX11_shut_18 : decode cX11_shut 18 = .ok (.iload_n 1, 1) := by decide +kernel
theorem dX11_shut_19 : decode cX11_shut 19 = .ok (.invokevirtual 209, 3) := by decide +kernel
theorem dX11_shut_22 : decode cX11_shut 22 = .ok (.ifCond .eq 7, 3) := by decide +kernel
theorem dX11_shut_25 : decode cX11_shut 25 = .ok (.iconst 1, 1) := by decide +kernel
theorem dX11_shut_26 : decode cX11_shut 26 = .ok (.goto 4, 3) := by decide +kernel
theorem dX11_shut_29 : decode cX11_shut 29 = .ok (.iconst 0, 1) := by decide +kernel
theorem dX11_shut_30 : decode cX11_shut 30 = .ok (.istore_n 3, 1) := by decide +kernel
theorem dX11_shut_31 : decode cX11_shut 31 = .ok (.aload_n 0, 1) := by decide +kernel
theorem dX11_shut_32 : decode cX11_shut 32 = .ok (.getfield 75, 3) := by decide +kernel
theorem dX11_shut_35 : decode cX11_shut 35 = .ok (.aload_n 0, 1) := by decide +kernel
theorem dX11_shut_36 : decode cX11_shut 36 = .ok (.getfield 26, 3) := by decide +kernel
theorem dX11_shut_39 : decode cX11_shut 39 = .ok (.invokevirtual 212, 3) := by decide +kernel
theorem dX11_shut_42 : decode cX11_shut 42 = .ok (.aload_n 0, 1) := by decide +kernel
theorem dX11_shut_43 : decode cX11_shut 43 = .ok (.getfield 26, 3) := by decide +kernel
theorem dX11_shut_46 : decode cX11_shut 46 = .ok (.iload_n 1, 1) := by decide +kernel
theorem dX11_shut_47 : decode cX11_shut 47 = .ok (.iload_n 2, 1) := by decide +kernel
theorem dX11_shut_48 : decode cX11_shut 48 = .ok (.invokevirtual 221, 3) := by decide +kernel
theorem dX11_shut_51 : decode cX11_shut 51 = .ok (.iload_n 3, 1) := by decide +kernel
theorem dX11_shut_52 : decode cX11_shut 52 = .ok (.ireturn, 1) := by decide +kernel
theorem dX11_drift_0 : decode cX11_drift 0 = .ok (.iload_n 1, 1) := by decide +kernel
theorem dX11_drift_1 : decode cX11_drift 1 = .ok (.iconst 1, 1) := by decide +kernel
theorem dX11_drift_2 : decode cX11_drift 2 = .ok (.if_icmp .lt 9, 3) := by decide +kernel
theorem dX11_drift_5 : decode cX11_drift 5 = .ok (.iload_n 1, 1) := by decide +kernel
theorem dX11_drift_6 : decode cX11_drift 6 = .ok (.bipush 60, 2) := by decide +kernel
theorem dX11_drift_8 : decode cX11_drift 8 = .ok (.if_icmp .le 6, 3) := by decide +kernel
theorem dX11_drift_11 : decode cX11_drift 11 = .ok (.ldc 86, 2) := by decide +kernel
theorem dX11_drift_13 : decode cX11_drift 13 = .ok (.ireturn, 1) := by decide +kernel
theorem dX11_drift_14 : decode cX11_drift 14 = .ok (.aload_n 0, 1) := by decide +kernel
theorem dX11_drift_15 : decode cX11_drift 15 = .ok (.getfield 19, 3) := by decide +kernel
theorem dX11_drift_18 : decode cX11_drift 18 = .ok (.getfield 225, 3) := by decide +kernel
theorem dX11_drift_21 : decode cX11_drift 21 = .ok (.ifCond .ne 6, 3) := by decide +kernel
theorem dX11_drift_24 : decode cX11_drift 24 = .ok (.ldc 220, 2) := by decide +kernel
theorem dX11_drift_26 : decode cX11_drift 26 = .ok (.ireturn, 1) := by decide +kernel
theorem dX11_drift_27 : decode cX11_drift 27 = .ok (.aload_n 0, 1) := by decide +kernel
theorem dX11_drift_28 : decode cX11_drift 28 = .ok (.getfield 26, 3) := by decide +kernel
theorem dX11_drift_31 : decode cX11_drift 31 = .ok (.getfield 150, 3) := by decide +kernel
theorem dX11_drift_34 : decode cX11_drift 34 = .ok (.sipush 9000, 3) := by decide +kernel
theorem dX11_drift_37 : decode cX11_drift 37 = .ok (.if_icmp .le 6, 3) := by decide +kernel
theorem dX11_drift_40 : decode cX11_drift 40 = .ok (.ldc 91, 2) := by decide +kernel
theorem dX11_drift_42 : decode cX11_drift 42 = .ok (.ireturn, 1) := by decide +kernel
theorem dX11_drift_43 : decode cX11_drift 43 = .ok (.aload_n 0, 1) := by decide +kernel
theorem dX11_drift_44 : decode cX11_drift 44 = .ok (.getfield 75, 3) := by decide +kernel
theorem dX11_drift_47 : decode cX11_drift 47 = .ok (.aload_n 0, 1) := by decide +kernel
theorem dX11_drift_48 : decode cX11_drift 48 = .ok (.getfield 26, 3) := by decide +kernel
theorem dX11_drift_51 : decode cX11_drift 51 = .ok (.invokevirtual 212, 3) := by decide +kernel
theorem dX11_drift_54 : decode cX11_drift 54 = .ok (.aload_n 0, 1) := by decide +kernel
theorem dX11_drift_55 : decode cX11_drift 55 = .ok (.getfield 40, 3) := by decide +kernel
theorem dX11_drift_58 : decode cX11_drift 58 = .ok (.aload_n 0, 1) := by decide +kernel
theorem dX11_drift_59 : decode cX11_drift 59 = .ok (.getfield 19, 3) := by decide +kernel
theorem dX11_drift_62 : decode cX11_drift 62 = .ok (.aload_n 0, 1) := by decide +kernel
theorem dX11_drift_63 : decode cX11_drift 63 = .ok (.getfield 26, 3) := by decide +kernel
theorem dX11_drift_66 : decode cX11_drift 66 = .ok (.aload_n 0, 1) := by decide +kernel
theorem dX11_drift_67 : decode cX11_drift 67 = .ok (.getfield 68, 3) := by decide +kernel
theorem dX11_drift_70 : decode cX11_drift 70 = .ok (.iload_n 1, 1) := by decide +kernel
theorem dX11_drift_71 : decode cX11_drift 71 = .ok (.invokevirtual 229, 3) := by decide +kernel
theorem dX11_drift_74 : decode cX11_drift 74 = .ok (.aload_n 0, 1) := by decide +kernel
theorem dX11_drift_75 : decode cX11_drift 75 = .ok (.getfield 26, 3) := by decide +kernel
theorem dX11_drift_78 : decode cX11_drift 78 = .ok (.invokevirtual 134, 3) := by decide +kernel
theorem dX11_drift_81 : decode cX11_drift 81 = .ok (.ireturn, 1) := by decide +kernel
theorem dX11_undo_0 : decode cX11_undo 0 = .ok (.aload_n 0, 1) := by decide +kernel
theorem dX11_undo_1 : decode cX11_undo 1 = .ok (.getfield 75, 3) := by decide +kernel
theorem dX11_undo_4 : decode cX11_undo 4 = .ok (.aload_n 0, 1) := by decide +kernel
theorem dX11_undo_5 : decode cX11_undo 5 = .ok (.getfield 26, 3) := by decide +kernel
theorem dX11_undo_8 : decode cX11_undo 8 = .ok (.invokevirtual 233, 3) := by decide +kernel
theorem dX11_undo_11 : decode cX11_undo 11 = .ok (.ifCond .ne 6, 3) := by decide +kernel
theorem dX11_undo_14 : decode cX11_undo 14 = .ok (.ldc 220, 2) := by decide +kernel
theorem dX11_undo_16 : decode cX11_undo 16 = .ok (.ireturn, 1) := by decide +kernel
theorem dX11_undo_17 : decode cX11_undo 17 = .ok (.aload_n 0, 1) := by decide +kernel
theorem dX11_undo_18 : decode cX11_undo 18 = .ok (.getfield 75, 3) := by decide +kernel
theorem dX11_undo_21 : decode cX11_undo 21 = .ok (.getfield 167, 3) := by decide +kernel
theorem dX11_undo_24 : decode cX11_undo 24 = .ok (.ireturn, 1) := by decide +kernel
theorem dX11_chain_0 : decode cX11_chain 0 = .ok (.aload_n 0, 1) := by decide +kernel
theorem dX11_chain_1 : decode cX11_chain 1 = .ok (.getfield 19, 3) := by decide +kernel
theorem dX11_chain_4 : decode cX11_chain 4 = .ok (.iload_n 1, 1) := by decide +kernel
theorem dX11_chain_5 : decode cX11_chain 5 = .ok (.invokevirtual 168, 3) := by decide +kernel
theorem dX11_chain_8 : decode cX11_chain 8 = .ok (.ifCond .ne 6, 3) := by decide +kernel
theorem dX11_chain_11 : decode cX11_chain 11 = .ok (.ldc 171, 2) := by decide +kernel
theorem dX11_chain_13 : decode cX11_chain 13 = .ok (.ireturn, 1) := by decide +kernel
theorem dX11_chain_14 : decode cX11_chain 14 = .ok (.aload_n 0, 1) := by decide +kernel
theorem dX11_chain_15 : decode cX11_chain 15 = .ok (.getfield 33, 3) := by decide +kernel
theorem dX11_chain_18 : decode cX11_chain 18 = .ok (.aload_n 0, 1) := by decide +kernel
theorem dX11_chain_19 : decode cX11_chain 19 = .ok (.getfield 19, 3) := by decide +kernel
theorem dX11_chain_22 : decode cX11_chain 22 = .ok (.aload_n 0, 1) := by decide +kernel
theorem dX11_chain_23 : decode cX11_chain 23 = .ok (.getfield 26, 3) := by decide +kernel
theorem dX11_chain_26 : decode cX11_chain 26 = .ok (.invokevirtual 186, 3) := by decide +kernel
theorem dX11_chain_29 : decode cX11_chain 29 = .ok (.iload_n 2, 1) := by decide +kernel
theorem dX11_chain_30 : decode cX11_chain 30 = .ok (.iconst (-1), 1) := by decide +kernel
theorem dX11_chain_31 : decode cX11_chain 31 = .ok (.if_icmp .ne 14, 3) := by decide +kernel
theorem dX11_chain_34 : decode cX11_chain 34 = .ok (.aload_n 0, 1) := by decide +kernel
theorem dX11_chain_35 : decode cX11_chain 35 = .ok (.getfield 33, 3) := by decide +kernel
theorem dX11_chain_38 : decode cX11_chain 38 = .ok (.iload_n 1, 1) := by decide +kernel
theorem dX11_chain_39 : decode cX11_chain 39 = .ok (.invokevirtual 237, 3) := by decide +kernel
theorem dX11_chain_42 : decode cX11_chain 42 = .ok (.goto 12, 3) := by decide +kernel
theorem dX11_chain_45 : decode cX11_chain 45 = .ok (.aload_n 0, 1) := by decide +kernel
theorem dX11_chain_46 : decode cX11_chain 46 = .ok (.getfield 33, 3) := by decide +kernel
theorem dX11_chain_49 : decode cX11_chain 49 = .ok (.iload_n 1, 1) := by decide +kernel
theorem dX11_chain_50 : decode cX11_chain 50 = .ok (.iload_n 2, 1) := by decide +kernel
theorem dX11_chain_51 : decode cX11_chain 51 = .ok (.invokevirtual 240, 3) := by decide +kernel
theorem dX11_chain_54 : decode cX11_chain 54 = .ok (.ireturn, 1) := by decide +kernel
theorem dX11_more_0 : decode cX11_more 0 = .ok (.aload_n 0, 1) := by decide +kernel
theorem dX11_more_1 : decode cX11_more 1 = .ok (.getfield 19, 3) := by decide +kernel
theorem dX11_more_4 : decode cX11_more 4 = .ok (.iload_n 1, 1) := by decide +kernel
theorem dX11_more_5 : decode cX11_more 5 = .ok (.invokevirtual 168, 3) := by decide +kernel
theorem dX11_more_8 : decode cX11_more 8 = .ok (.ifCond .ne 6, 3) := by decide +kernel
theorem dX11_more_11 : decode cX11_more 11 = .ok (.ldc 171, 2) := by decide +kernel
theorem dX11_more_13 : decode cX11_more 13 = .ok (.ireturn, 1) := by decide +kernel
theorem dX11_more_14 : decode cX11_more 14 = .ok (.aload_n 0, 1) := by decide +kernel
theorem dX11_more_15 : decode cX11_more 15 = .ok (.getfield 47, 3) := by decide +kernel
theorem dX11_more_18 : decode cX11_more 18 = .ok (.aload_n 0, 1) := by decide +kernel
theorem dX11_more_19 : decode cX11_more 19 = .ok (.getfield 19, 3) := by decide +kernel
theorem dX11_more_22 : decode cX11_more 22 = .ok (.aload_n 0, 1) := by decide +kernel
theorem dX11_more_23 : decode cX11_more 23 = .ok (.getfield 26, 3) := by decide +kernel
theorem dX11_more_26 : decode cX11_more 26 = .ok (.iload_n 1, 1) := by decide +kernel
theorem dX11_more_27 : decode cX11_more 27 = .ok (.invokevirtual 243, 3) := by decide +kernel
theorem dX11_more_30 : decode cX11_more 30 = .ok (.ireturn, 1) := by decide +kernel
theorem dX11_far_0 : decode cX11_far 0 = .ok (.iload_n 1, 1) := by decide +kernel
theorem dX11_far_1 : decode cX11_far 1 = .ok (.ifCond .lt 8, 3) := by decide +kernel
theorem dX11_far_4 : decode cX11_far 4 = .ok (.iload_n 1, 1) := by decide +kernel
theorem dX11_far_5 : decode cX11_far 5 = .ok (.iconst 1, 1) := by decide +kernel
theorem dX11_far_6 : decode cX11_far 6 = .ok (.if_icmp .le 6, 3) := by decide +kernel
theorem dX11_far_9 : decode cX11_far 9 = .ok (.ldc 86, 2) := by decide +kernel
theorem dX11_far_11 : decode cX11_far 11 = .ok (.ireturn, 1) := by decide +kernel
theorem dX11_far_12 : decode cX11_far 12 = .ok (.aload_n 0, 1) := by decide +kernel
theorem dX11_far_13 : decode cX11_far 13 = .ok (.getfield 33, 3) := by decide +kernel
theorem dX11_far_16 : decode cX11_far 16 = .ok (.aload_n 0, 1) := by decide +kernel
theorem dX11_far_17 : decode cX11_far 17 = .ok (.getfield 19, 3) := by decide +kernel
theorem dX11_far_20 : decode cX11_far 20 = .ok (.aload_n 0, 1) := by decide +kernel
theorem dX11_far_21 : decode cX11_far 21 = .ok (.getfield 26, 3) := by decide +kernel
theorem dX11_far_24 : decode cX11_far 24 = .ok (.invokevirtual 186, 3) := by decide +kernel
theorem dX11_far_27 : decode cX11_far 27 = .ok (.aload_n 0, 1) := by decide +kernel
theorem dX11_far_28 : decode cX11_far 28 = .ok (.getfield 33, 3) := by decide +kernel
theorem dX11_far_31 : decode cX11_far 31 = .ok (.invokevirtual 246, 3) := by decide +kernel
theorem dX11_far_34 : decode cX11_far 34 = .ok (.istore_n 2, 1) := by decide +kernel
theorem dX11_far_35 : decode cX11_far 35 = .ok (.iload_n 1, 1) := by decide +kernel
theorem dX11_far_36 : decode cX11_far 36 = .ok (.ifCond .ne 14, 3) := by decide +kernel
theorem dX11_far_39 : decode cX11_far 39 = .ok (.aload_n 0, 1) := by decide +kernel
theorem dX11_far_40 : decode cX11_far 40 = .ok (.getfield 33, 3) := by decide +kernel
theorem dX11_far_43 : decode cX11_far 43 = .ok (.iload_n 2, 1) := by decide +kernel
theorem dX11_far_44 : decode cX11_far 44 = .ok (.invokevirtual 237, 3) := by decide +kernel
theorem dX11_far_47 : decode cX11_far 47 = .ok (.goto 4, 3) := by decide +kernel
theorem dX11_far_50 : decode cX11_far 50 = .ok (.iload_n 2, 1) := by decide +kernel
theorem dX11_far_51 : decode cX11_far 51 = .ok (.ireturn, 1) := by decide +kernel
theorem dX11_two_0 : decode cX11_two 0 = .ok (.aload_n 0, 1) := by decide +kernel
theorem dX11_two_1 : decode cX11_two 1 = .ok (.getfield 19, 3) := by decide +kernel
theorem dX11_two_4 : decode cX11_two 4 = .ok (.iload_n 1, 1) := by decide +kernel
theorem dX11_two_5 : decode cX11_two 5 = .ok (.invokevirtual 168, 3) := by decide +kernel
theorem dX11_two_8 : decode cX11_two 8 = .ok (.ifCond .eq 14, 3) := by decide +kernel
theorem dX11_two_11 : decode cX11_two 11 = .ok (.aload_n 0, 1) := by decide +kernel
theorem dX11_two_12 : decode cX11_two 12 = .ok (.getfield 19, 3) := by decide +kernel
theorem dX11_two_15 : decode cX11_two 15 = .ok (.iload_n 2, 1) := by decide +kernel
theorem dX11_two_16 : decode cX11_two 16 = .ok (.invokevirtual 168, 3) := by decide +kernel
theorem dX11_two_19 : decode cX11_two 19 = .ok (.ifCond .ne 6, 3) := by decide +kernel
theorem dX11_two_22 : decode cX11_two 22 = .ok (.ldc 171, 2) := by decide +kernel
theorem dX11_two_24 : decode cX11_two 24 = .ok (.ireturn, 1) := by decide +kernel
theorem dX11_two_25 : decode cX11_two 25 = .ok (.iload_n 3, 1) := by decide +kernel
theorem dX11_two_26 : decode cX11_two 26 = .ok (.ifCond .lt 8, 3) := by decide +kernel
theorem dX11_two_29 : decode cX11_two 29 = .ok (.iload_n 3, 1) := by decide +kernel
theorem dX11_two_30 : decode cX11_two 30 = .ok (.iconst 1, 1) := by decide +kernel
theorem dX11_two_31 : decode cX11_two 31 = .ok (.if_icmp .le 6, 3) := by decide +kernel
theorem dX11_two_34 : decode cX11_two 34 = .ok (.ldc 86, 2) := by decide +kernel
theorem dX11_two_36 : decode cX11_two 36 = .ok (.ireturn, 1) := by decide +kernel
theorem dX11_two_37 : decode cX11_two 37 = .ok (.aload_n 0, 1) := by decide +kernel
theorem dX11_two_38 : decode cX11_two 38 = .ok (.getfield 47, 3) := by decide +kernel
theorem dX11_two_41 : decode cX11_two 41 = .ok (.aload_n 0, 1) := by decide +kernel
theorem dX11_two_42 : decode cX11_two 42 = .ok (.getfield 19, 3) := by decide +kernel
theorem dX11_two_45 : decode cX11_two 45 = .ok (.aload_n 0, 1) := by decide +kernel
theorem dX11_two_46 : decode cX11_two 46 = .ok (.getfield 26, 3) := by decide +kernel
theorem dX11_two_49 : decode cX11_two 49 = .ok (.iload_n 1, 1) := by decide +kernel
theorem dX11_two_50 : decode cX11_two 50 = .ok (.iload_n 2, 1) := by decide +kernel
theorem dX11_two_51 : decode cX11_two 51 = .ok (.invokevirtual 249, 3) := by decide +kernel
theorem dX11_two_54 : decode cX11_two 54 = .ok (.istore 4, 2) := by decide +kernel
theorem dX11_two_56 : decode cX11_two 56 = .ok (.aload_n 0, 1) := by decide +kernel
theorem dX11_two_57 : decode cX11_two 57 = .ok (.getfield 47, 3) := by decide +kernel
theorem dX11_two_60 : decode cX11_two 60 = .ok (.aload_n 0, 1) := by decide +kernel
theorem dX11_two_61 : decode cX11_two 61 = .ok (.getfield 19, 3) := by decide +kernel
theorem dX11_two_64 : decode cX11_two 64 = .ok (.aload_n 0, 1) := by decide +kernel
theorem dX11_two_65 : decode cX11_two 65 = .ok (.getfield 26, 3) := by decide +kernel
theorem dX11_two_68 : decode cX11_two 68 = .ok (.iload_n 2, 1) := by decide +kernel
theorem dX11_two_69 : decode cX11_two 69 = .ok (.iload_n 1, 1) := by decide +kernel
theorem dX11_two_70 : decode cX11_two 70 = .ok (.invokevirtual 249, 3) := by decide +kernel
theorem dX11_two_73 : decode cX11_two 73 = .ok (.istore 5, 2) := by decide +kernel
theorem dX11_two_75 : decode cX11_two 75 = .ok (.iload_n 3, 1) := by decide +kernel
theorem dX11_two_76 : decode cX11_two 76 = .ok (.ifCond .ne 16, 3) := by decide +kernel
theorem dX11_two_79 : decode cX11_two 79 = .ok (.iload 5, 2) := by decide +kernel
theorem dX11_two_81 : decode cX11_two 81 = .ok (.iload 4, 2) := by decide +kernel
theorem dX11_two_83 : decode cX11_two 83 = .ok (.if_icmp .ge 7, 3) := by decide +kernel
theorem dX11_two_86 : decode cX11_two 86 = .ok (.iconst 1, 1) := by decide +kernel
theorem dX11_two_87 : decode cX11_two 87 = .ok (.goto 4, 3) := by decide +kernel
theorem dX11_two_90 : decode cX11_two 90 = .ok (.iconst 0, 1) := by decide +kernel
theorem dX11_two_91 : decode cX11_two 91 = .ok (.ireturn, 1) := by decide +kernel
theorem dX11_two_92 : decode cX11_two 92 = .ok (.iload 4, 2) := by decide +kernel
theorem dX11_two_94 : decode cX11_two 94 = .ok (.iload 5, 2) := by decide +kernel
theorem dX11_two_96 : decode cX11_two 96 = .ok (.invokestatic 253, 3) := by decide +kernel
theorem dX11_two_99 : decode cX11_two 99 = .ok (.ireturn, 1) := by decide +kernel
theorem dX11_chairs_0 : decode cX11_chairs 0 = .ok (.aload_n 0, 1) := by decide +kernel
theorem dX11_chairs_1 : decode cX11_chairs 1 = .ok (.getfield 19, 3) := by decide +kernel
theorem dX11_chairs_4 : decode cX11_chairs 4 = .ok (.iload_n 1, 1) := by decide +kernel
theorem dX11_chairs_5 : decode cX11_chairs 5 = .ok (.invokevirtual 258, 3) := by decide +kernel
theorem dX11_chairs_8 : decode cX11_chairs 8 = .ok (.ifCond .eq 19, 3) := by decide +kernel
theorem dX11_chairs_11 : decode cX11_chairs 11 = .ok (.iload_n 3, 1) := by decide +kernel
theorem dX11_chairs_12 : decode cX11_chairs 12 = .ok (.iconst (-1), 1) := by decide +kernel
theorem dX11_chairs_13 : decode cX11_chairs 13 = .ok (.if_icmp .eq 17, 3) := by decide +kernel
theorem dX11_chairs_16 : decode cX11_chairs 16 = .ok (.aload_n 0, 1) := by decide +kernel
theorem dX11_chairs_17 : decode cX11_chairs 17 = .ok (.getfield 19, 3) := by decide +kernel
theorem dX11_chairs_20 : decode cX11_chairs 20 = .ok (.iload_n 3, 1) := by decide +kernel
theorem dX11_chairs_21 : decode cX11_chairs 21 = .ok (.invokevirtual 168, 3) := by decide +kernel
theorem dX11_chairs_24 : decode cX11_chairs 24 = .ok (.ifCond .ne 6, 3) := by decide +kernel
theorem dX11_chairs_27 : decode cX11_chairs 27 = .ok (.ldc 171, 2) := by decide +kernel
theorem dX11_chairs_29 : decode cX11_chairs 29 = .ok (.ireturn, 1) := by decide +kernel
theorem dX11_chairs_30 : decode cX11_chairs 30 = .ok (.iload_n 2, 1) := by decide +kernel
theorem dX11_chairs_31 : decode cX11_chairs 31 = .ok (.ifCond .lt 9, 3) := by decide +kernel
theorem dX11_chairs_34 : decode cX11_chairs 34 = .ok (.iload_n 2, 1) := by decide +kernel
theorem dX11_chairs_35 : decode cX11_chairs 35 = .ok (.bipush 8, 2) := by decide +kernel
theorem dX11_chairs_37 : decode cX11_chairs 37 = .ok (.if_icmp .le 6, 3) := by decide +kernel
theorem dX11_chairs_40 : decode cX11_chairs 40 = .ok (.ldc 86, 2) := by decide +kernel
theorem dX11_chairs_42 : decode cX11_chairs 42 = .ok (.ireturn, 1) := by decide +kernel
theorem dX11_chairs_43 : decode cX11_chairs 43 = .ok (.aload_n 0, 1) := by decide +kernel
theorem dX11_chairs_44 : decode cX11_chairs 44 = .ok (.getfield 47, 3) := by decide +kernel
theorem dX11_chairs_47 : decode cX11_chairs 47 = .ok (.aload_n 0, 1) := by decide +kernel
theorem dX11_chairs_48 : decode cX11_chairs 48 = .ok (.getfield 19, 3) := by decide +kernel
theorem dX11_chairs_51 : decode cX11_chairs 51 = .ok (.aload_n 0, 1) := by decide +kernel
theorem dX11_chairs_52 : decode cX11_chairs 52 = .ok (.getfield 26, 3) := by decide +kernel
theorem dX11_chairs_55 : decode cX11_chairs 55 = .ok (.iload_n 1, 1) := by decide +kernel
theorem dX11_chairs_56 : decode cX11_chairs 56 = .ok (.iload_n 2, 1) := by decide +kernel
theorem dX11_chairs_57 : decode cX11_chairs 57 = .ok (.invokevirtual 261, 3) := by decide +kernel
theorem dX11_chairs_60 : decode cX11_chairs 60 = .ok (.istore 4, 2) := by decide +kernel
theorem dX11_chairs_62 : decode cX11_chairs 62 = .ok (.iload 4, 2) := by decide +kernel
theorem dX11_chairs_64 : decode cX11_chairs 64 = .ok (.iconst (-1), 1) := by decide +kernel
theorem dX11_chairs_65 : decode cX11_chairs 65 = .ok (.if_icmp .ne 5, 3) := by decide +kernel
theorem dX11_chairs_68 : decode cX11_chairs 68 = .ok (.iconst (-1), 1) := by decide +kernel
theorem dX11_chairs_69 : decode cX11_chairs 69 = .ok (.ireturn, 1) := by decide +kernel
theorem dX11_chairs_70 : decode cX11_chairs 70 = .ok (.iload_n 3, 1) := by decide +kernel
theorem dX11_chairs_71 : decode cX11_chairs 71 = .ok (.iconst (-1), 1) := by decide +kernel
theorem dX11_chairs_72 : decode cX11_chairs 72 = .ok (.if_icmp .ne 15, 3) := by decide +kernel
theorem dX11_chairs_75 : decode cX11_chairs 75 = .ok (.aload_n 0, 1) := by decide +kernel
theorem dX11_chairs_76 : decode cX11_chairs 76 = .ok (.getfield 26, 3) := by decide +kernel
theorem dX11_chairs_79 : decode cX11_chairs 79 = .ok (.iload 4, 2) := by decide +kernel
theorem dX11_chairs_81 : decode cX11_chairs 81 = .ok (.invokevirtual 264, 3) := by decide +kernel
theorem dX11_chairs_84 : decode cX11_chairs 84 = .ok (.goto 16, 3) := by decide +kernel
theorem dX11_chairs_87 : decode cX11_chairs 87 = .ok (.aload_n 0, 1) := by decide +kernel
theorem dX11_chairs_88 : decode cX11_chairs 88 = .ok (.getfield 26, 3) := by decide +kernel
theorem dX11_chairs_91 : decode cX11_chairs 91 = .ok (.iload 4, 2) := by decide +kernel
theorem dX11_chairs_93 : decode cX11_chairs 93 = .ok (.iconst 1, 1) := by decide +kernel
theorem dX11_chairs_94 : decode cX11_chairs 94 = .ok (.iload_n 3, 1) := by decide +kernel
theorem dX11_chairs_95 : decode cX11_chairs 95 = .ok (.ishl, 1) := by decide +kernel
theorem dX11_chairs_96 : decode cX11_chairs 96 = .ok (.iand, 1) := by decide +kernel
theorem dX11_chairs_97 : decode cX11_chairs 97 = .ok (.invokevirtual 264, 3) := by decide +kernel
theorem dX11_chairs_100 : decode cX11_chairs 100 = .ok (.ireturn, 1) := by decide +kernel
theorem dX11_spread_0 : decode cX11_spread 0 = .ok (.aload_n 0, 1) := by decide +kernel
theorem dX11_spread_1 : decode cX11_spread 1 = .ok (.getfield 19, 3) := by decide +kernel
theorem dX11_spread_4 : decode cX11_spread 4 = .ok (.iload_n 1, 1) := by decide +kernel
theorem dX11_spread_5 : decode cX11_spread 5 = .ok (.invokevirtual 168, 3) := by decide +kernel
theorem dX11_spread_8 : decode cX11_spread 8 = .ok (.ifCond .ne 6, 3) := by decide +kernel
theorem dX11_spread_11 : decode cX11_spread 11 = .ok (.ldc 171, 2) := by decide +kernel
theorem dX11_spread_13 : decode cX11_spread 13 = .ok (.ireturn, 1) := by decide +kernel
theorem dX11_spread_14 : decode cX11_spread 14 = .ok (.aload_n 0, 1) := by decide +kernel
theorem dX11_spread_15 : decode cX11_spread 15 = .ok (.getfield 47, 3) := by decide +kernel
theorem dX11_spread_18 : decode cX11_spread 18 = .ok (.aload_n 0, 1) := by decide +kernel
theorem dX11_spread_19 : decode cX11_spread 19 = .ok (.getfield 19, 3) := by decide +kernel
theorem dX11_spread_22 : decode cX11_spread 22 = .ok (.aload_n 0, 1) := by decide +kernel
theorem dX11_spread_23 : decode cX11_spread 23 = .ok (.getfield 26, 3) := by decide +kernel
theorem dX11_spread_26 : decode cX11_spread 26 = .ok (.iload_n 1, 1) := by decide +kernel
theorem dX11_spread_27 : decode cX11_spread 27 = .ok (.invokevirtual 267, 3) := by decide +kernel
theorem dX11_spread_30 : decode cX11_spread 30 = .ok (.ireturn, 1) := by decide +kernel
theorem dX11_quiet_0 : decode cX11_quiet 0 = .ok (.iload_n 1, 1) := by decide +kernel
theorem dX11_quiet_1 : decode cX11_quiet 1 = .ok (.ifCond .lt 19, 3) := by decide +kernel
theorem dX11_quiet_4 : decode cX11_quiet 4 = .ok (.iload_n 1, 1) := by decide +kernel
theorem dX11_quiet_5 : decode cX11_quiet 5 = .ok (.bipush 60, 2) := by decide +kernel
theorem dX11_quiet_7 : decode cX11_quiet 7 = .ok (.if_icmp .gt 13, 3) := by decide +kernel
theorem dX11_quiet_10 : decode cX11_quiet 10 = .ok (.iload_n 2, 1) := by decide +kernel
theorem dX11_quiet_11 : decode cX11_quiet 11 = .ok (.ifCond .lt 9, 3) := by decide +kernel
theorem dX11_quiet_14 : decode cX11_quiet 14 = .ok (.iload_n 2, 1) := by decide +kernel
theorem dX11_quiet_15 : decode cX11_quiet 15 = .ok (.bipush 100, 2) := by decide +kernel
theorem dX11_quiet_17 : decode cX11_quiet 17 = .ok (.if_icmp .le 6, 3) := by decide +kernel
theorem dX11_quiet_20 : decode cX11_quiet 20 = .ok (.ldc 86, 2) := by decide +kernel
theorem dX11_quiet_22 : decode cX11_quiet 22 = .ok (.ireturn, 1) := by decide +kernel
theorem dX11_quiet_23 : decode cX11_quiet 23 = .ok (.ldc2_w 270, 3) := by decide +kernel
theorem dX11_quiet_26 : decode cX11_quiet 26 = .ok (.lstore_n 3, 1) := by decide +kernel
theorem dX11_quiet_27 : decode cX11_quiet 27 = .ok (.iconst 0, 1) := by decide +kernel
theorem dX11_quiet_28 : decode cX11_quiet 28 = .ok (.istore 5, 2) := by decide +kernel
theorem dX11_quiet_30 : decode cX11_quiet 30 = .ok (.iload 5, 2) := by decide +kernel
theorem dX11_quiet_32 : decode cX11_quiet 32 = .ok (.iload_n 1, 1) := by decide +kernel
theorem dX11_quiet_33 : decode cX11_quiet 33 = .ok (.if_icmp .ge 21, 3) := by decide +kernel
theorem dX11_quiet_36 : decode cX11_quiet 36 = .ok (.lload_n 3, 1) := by decide +kernel
theorem dX11_quiet_37 : decode cX11_quiet 37 = .ok (.bipush 100, 2) := by decide +kernel
theorem dX11_quiet_39 : decode cX11_quiet 39 = .ok (.iload_n 2, 1) := by decide +kernel
theorem dX11_quiet_40 : decode cX11_quiet 40 = .ok (.isub, 1) := by decide +kernel
theorem dX11_quiet_41 : decode cX11_quiet 41 = .ok (.i2l, 1) := by decide +kernel
theorem dX11_quiet_42 : decode cX11_quiet 42 = .ok (.lmul, 1) := by decide +kernel
theorem dX11_quiet_43 : decode cX11_quiet 43 = .ok (.ldc2_w 272, 3) := by decide +kernel
theorem dX11_quiet_46 : decode cX11_quiet 46 = .ok (.ldiv, 1) := by decide +kernel
theorem dX11_quiet_47 : decode cX11_quiet 47 = .ok (.lstore_n 3, 1) := by decide +kernel
theorem dX11_quiet_48 : decode cX11_quiet 48 = .ok (.iinc 5 1, 3) := by decide +kernel
theorem dX11_quiet_51 : decode cX11_quiet 51 = .ok (.goto (-21), 3) := by decide +kernel
theorem dX11_quiet_54 : decode cX11_quiet 54 = .ok (.lload_n 3, 1) := by decide +kernel
theorem dX11_quiet_55 : decode cX11_quiet 55 = .ok (.l2i, 1) := by decide +kernel
theorem dX11_quiet_56 : decode cX11_quiet 56 = .ok (.ireturn, 1) := by decide +kernel
theorem dX11_see_0 : decode cX11_see 0 = .ok (.aload_n 0, 1) := by decide +kernel
theorem dX11_see_1 : decode cX11_see 1 = .ok (.getfield 19, 3) := by decide +kernel
theorem dX11_see_4 : decode cX11_see 4 = .ok (.iload_n 1, 1) := by decide +kernel
theorem dX11_see_5 : decode cX11_see 5 = .ok (.invokevirtual 168, 3) := by decide +kernel
theorem dX11_see_8 : decode cX11_see 8 = .ok (.ifCond .ne 6, 3) := by decide +kernel
theorem dX11_see_11 : decode cX11_see 11 = .ok (.ldc 171, 2) := by decide +kernel
theorem dX11_see_13 : decode cX11_see 13 = .ok (.ireturn, 1) := by decide +kernel
theorem dX11_see_14 : decode cX11_see 14 = .ok (.aload_n 0, 1) := by decide +kernel
theorem dX11_see_15 : decode cX11_see 15 = .ok (.getfield 54, 3) := by decide +kernel
theorem dX11_see_18 : decode cX11_see 18 = .ok (.getfield 163, 3) := by decide +kernel
theorem dX11_see_21 : decode cX11_see 21 = .ok (.bipush 6, 2) := by decide +kernel
theorem dX11_see_23 : decode cX11_see 23 = .ok (.if_icmp .lt 6, 3) := by decide +kernel
theorem dX11_see_26 : decode cX11_see 26 = .ok (.ldc 91, 2) := by decide +kernel
theorem dX11_see_28 : decode cX11_see 28 = .ok (.ireturn, 1) := by decide +kernel
theorem dX11_see_29 : decode cX11_see 29 = .ok (.aload_n 0, 1) := by decide +kernel
theorem dX11_see_30 : decode cX11_see 30 = .ok (.getfield 54, 3) := by decide +kernel
theorem dX11_see_33 : decode cX11_see 33 = .ok (.iload_n 1, 1) := by decide +kernel
theorem dX11_see_34 : decode cX11_see 34 = .ok (.iload_n 2, 1) := by decide +kernel
theorem dX11_see_35 : decode cX11_see 35 = .ok (.invokevirtual 274, 3) := by decide +kernel
theorem dX11_see_38 : decode cX11_see 38 = .ok (.aload_n 0, 1) := by decide +kernel
theorem dX11_see_39 : decode cX11_see 39 = .ok (.getfield 54, 3) := by decide +kernel
theorem dX11_see_42 : decode cX11_see 42 = .ok (.getfield 163, 3) := by decide +kernel
theorem dX11_see_45 : decode cX11_see 45 = .ok (.ireturn, 1) := by decide +kernel
theorem dX11_came_0 : decode cX11_came 0 = .ok (.aload_n 0, 1) := by decide +kernel
theorem dX11_came_1 : decode cX11_came 1 = .ok (.getfield 33, 3) := by decide +kernel
theorem dX11_came_4 : decode cX11_came 4 = .ok (.aload_n 0, 1) := by decide +kernel
theorem dX11_came_5 : decode cX11_came 5 = .ok (.getfield 19, 3) := by decide +kernel
theorem dX11_came_8 : decode cX11_came 8 = .ok (.aload_n 0, 1) := by decide +kernel
theorem dX11_came_9 : decode cX11_came 9 = .ok (.getfield 26, 3) := by decide +kernel
theorem dX11_came_12 : decode cX11_came 12 = .ok (.invokevirtual 186, 3) := by decide +kernel
theorem dX11_came_15 : decode cX11_came 15 = .ok (.aload_n 0, 1) := by decide +kernel
theorem dX11_came_16 : decode cX11_came 16 = .ok (.getfield 54, 3) := by decide +kernel
theorem dX11_came_19 : decode cX11_came 19 = .ok (.aload_n 0, 1) := by decide +kernel
theorem dX11_came_20 : decode cX11_came 20 = .ok (.getfield 33, 3) := by decide +kernel
theorem dX11_came_23 : decode cX11_came 23 = .ok (.invokevirtual 276, 3) := by decide +kernel
theorem dX11_came_26 : decode cX11_came 26 = .ok (.ireturn, 1) := by decide +kernel
theorem dX11_look_0 : decode cX11_look 0 = .ok (.aload_n 0, 1) := by decide +kernel
theorem dX11_look_1 : decode cX11_look 1 = .ok (.getfield 33, 3) := by decide +kernel
theorem dX11_look_4 : decode cX11_look 4 = .ok (.aload_n 0, 1) := by decide +kernel
theorem dX11_look_5 : decode cX11_look 5 = .ok (.getfield 19, 3) := by decide +kernel
theorem dX11_look_8 : decode cX11_look 8 = .ok (.aload_n 0, 1) := by decide +kernel
theorem dX11_look_9 : decode cX11_look 9 = .ok (.getfield 26, 3) := by decide +kernel
theorem dX11_look_12 : decode cX11_look 12 = .ok (.invokevirtual 186, 3) := by decide +kernel
theorem dX11_look_15 : decode cX11_look 15 = .ok (.aload_n 0, 1) := by decide +kernel
theorem dX11_look_16 : decode cX11_look 16 = .ok (.getfield 54, 3) := by decide +kernel
theorem dX11_look_19 : decode cX11_look 19 = .ok (.aload_n 0, 1) := by decide +kernel
theorem dX11_look_20 : decode cX11_look 20 = .ok (.getfield 33, 3) := by decide +kernel
theorem dX11_look_23 : decode cX11_look 23 = .ok (.invokevirtual 280, 3) := by decide +kernel
theorem dX11_look_26 : decode cX11_look 26 = .ok (.ireturn, 1) := by decide +kernel
theorem dX11_write_0 : decode cX11_write 0 = .ok (.aload_n 0, 1) := by decide +kernel
theorem dX11_write_1 : decode cX11_write 1 = .ok (.getfield 19, 3) := by decide +kernel
theorem dX11_write_4 : decode cX11_write 4 = .ok (.iload_n 1, 1) := by decide +kernel
theorem dX11_write_5 : decode cX11_write 5 = .ok (.invokevirtual 168, 3) := by decide +kernel
theorem dX11_write_8 : decode cX11_write 8 = .ok (.ifCond .ne 6, 3) := by decide +kernel
theorem dX11_write_11 : decode cX11_write 11 = .ok (.ldc 171, 2) := by decide +kernel
theorem dX11_write_13 : decode cX11_write 13 = .ok (.ireturn, 1) := by decide +kernel
theorem dX11_write_14 : decode cX11_write 14 = .ok (.iload_n 2, 1) := by decide +kernel
theorem dX11_write_15 : decode cX11_write 15 = .ok (.ifCond .lt 9, 3) := by decide +kernel
theorem dX11_write_18 : decode cX11_write 18 = .ok (.iload_n 2, 1) := by decide +kernel
theorem dX11_write_19 : decode cX11_write 19 = .ok (.bipush 20, 2) := by decide +kernel
theorem dX11_write_21 : decode cX11_write 21 = .ok (.if_icmp .le 6, 3) := by decide +kernel
theorem dX11_write_24 : decode cX11_write 24 = .ok (.ldc 86, 2) := by decide +kernel
theorem dX11_write_26 : decode cX11_write 26 = .ok (.ireturn, 1) := by decide +kernel
theorem dX11_write_27 : decode cX11_write 27 = .ok (.aload_n 0, 1) := by decide +kernel
theorem dX11_write_28 : decode cX11_write 28 = .ok (.getfield 61, 3) := by decide +kernel
theorem dX11_write_31 : decode cX11_write 31 = .ok (.iload_n 1, 1) := by decide +kernel
theorem dX11_write_32 : decode cX11_write 32 = .ok (.iload_n 2, 1) := by decide +kernel
theorem dX11_write_33 : decode cX11_write 33 = .ok (.invokevirtual 283, 3) := by decide +kernel
theorem dX11_write_36 : decode cX11_write 36 = .ok (.ifCond .ne 6, 3) := by decide +kernel
theorem dX11_write_39 : decode cX11_write 39 = .ok (.ldc 91, 2) := by decide +kernel
theorem dX11_write_41 : decode cX11_write 41 = .ok (.ireturn, 1) := by decide +kernel
theorem dX11_write_42 : decode cX11_write 42 = .ok (.aload_n 0, 1) := by decide +kernel
theorem dX11_write_43 : decode cX11_write 43 = .ok (.getfield 61, 3) := by decide +kernel
theorem dX11_write_46 : decode cX11_write 46 = .ok (.getfield 166, 3) := by decide +kernel
theorem dX11_write_49 : decode cX11_write 49 = .ok (.ireturn, 1) := by decide +kernel
theorem dX11_tear_0 : decode cX11_tear 0 = .ok (.aload_n 0, 1) := by decide +kernel
theorem dX11_tear_1 : decode cX11_tear 1 = .ok (.getfield 54, 3) := by decide +kernel
theorem dX11_tear_4 : decode cX11_tear 4 = .ok (.getfield 163, 3) := by decide +kernel
theorem dX11_tear_7 : decode cX11_tear 7 = .ok (.aload_n 0, 1) := by decide +kernel
theorem dX11_tear_8 : decode cX11_tear 8 = .ok (.getfield 61, 3) := by decide +kernel
theorem dX11_tear_11 : decode cX11_tear 11 = .ok (.getfield 166, 3) := by decide +kernel
theorem dX11_tear_14 : decode cX11_tear 14 = .ok (.iadd, 1) := by decide +kernel
theorem dX11_tear_15 : decode cX11_tear 15 = .ok (.istore_n 1, 1) := by decide +kernel
theorem dX11_tear_16 : decode cX11_tear 16 = .ok (.aload_n 0, 1) := by decide +kernel
theorem dX11_tear_17 : decode cX11_tear 17 = .ok (.getfield 54, 3) := by decide +kernel
theorem dX11_tear_20 : decode cX11_tear 20 = .ok (.invokevirtual 113, 3) := by decide +kernel
theorem dX11_tear_23 : decode cX11_tear 23 = .ok (.aload_n 0, 1) := by decide +kernel
theorem dX11_tear_24 : decode cX11_tear 24 = .ok (.getfield 61, 3) := by decide +kernel
theorem dX11_tear_27 : decode cX11_tear 27 = .ok (.invokevirtual 116, 3) := by decide +kernel
theorem dX11_tear_30 : decode cX11_tear 30 = .ok (.iload_n 1, 1) := by decide +kernel
theorem dX11_tear_31 : decode cX11_tear 31 = .ok (.ireturn, 1) := by decide +kernel
theorem dX11_judge_0 : decode cX11_judge 0 = .ok (.aload_n 0, 1) := by decide +kernel
theorem dX11_judge_1 : decode cX11_judge 1 = .ok (.getfield 61, 3) := by decide +kernel
theorem dX11_judge_4 : decode cX11_judge 4 = .ok (.aload_n 0, 1) := by decide +kernel
theorem dX11_judge_5 : decode cX11_judge 5 = .ok (.getfield 26, 3) := by decide +kernel
theorem dX11_judge_8 : decode cX11_judge 8 = .ok (.invokevirtual 286, 3) := by decide +kernel
theorem dX11_judge_11 : decode cX11_judge 11 = .ok (.ireturn, 1) := by decide +kernel
theorem dX11_seed_0 : decode cX11_seed 0 = .ok (.iload_n 1, 1) := by decide +kernel
theorem dX11_seed_1 : decode cX11_seed 1 = .ok (.ifCond .ge 6, 3) := by decide +kernel
theorem dX11_seed_4 : decode cX11_seed 4 = .ok (.ldc 86, 2) := by decide +kernel
theorem dX11_seed_6 : decode cX11_seed 6 = .ok (.ireturn, 1) := by decide +kernel
theorem dX11_seed_7 : decode cX11_seed 7 = .ok (.aload_n 0, 1) := by decide +kernel
theorem dX11_seed_8 : decode cX11_seed 8 = .ok (.getfield 68, 3) := by decide +kernel
theorem dX11_seed_11 : decode cX11_seed 11 = .ok (.getfield 290, 3) := by decide +kernel
theorem dX11_seed_14 : decode cX11_seed 14 = .ok (.istore_n 2, 1) := by decide +kernel
theorem dX11_seed_15 : decode cX11_seed 15 = .ok (.aload_n 0, 1) := by decide +kernel
theorem dX11_seed_16 : decode cX11_seed 16 = .ok (.getfield 68, 3) := by decide +kernel
theorem dX11_seed_19 : decode cX11_seed 19 = .ok (.iload_n 1, 1) := by decide +kernel
theorem dX11_seed_20 : decode cX11_seed 20 = .ok (.putfield 290, 3) := by decide +kernel
theorem dX11_seed_23 : decode cX11_seed 23 = .ok (.iload_n 2, 1) := by decide +kernel
theorem dX11_seed_24 : decode cX11_seed 24 = .ok (.ireturn, 1) := by decide +kernel
theorem dX11_keep_0 : decode cX11_keep 0 = .ok (.aload_n 0, 1) := by decide +kernel
theorem dX11_keep_1 : decode cX11_keep 1 = .ok (.getfield 82, 3) := by decide +kernel
theorem dX11_keep_4 : decode cX11_keep 4 = .ok (.iload_n 1, 1) := by decide +kernel
theorem dX11_keep_5 : decode cX11_keep 5 = .ok (.invokevirtual 293, 3) := by decide +kernel
theorem dX11_keep_8 : decode cX11_keep 8 = .ok (.ifCond .ne 6, 3) := by decide +kernel
theorem dX11_keep_11 : decode cX11_keep 11 = .ok (.ldc 171, 2) := by decide +kernel
theorem dX11_keep_13 : decode cX11_keep 13 = .ok (.ireturn, 1) := by decide +kernel
theorem dX11_keep_14 : decode cX11_keep 14 = .ok (.aload_n 0, 1) := by decide +kernel
theorem dX11_keep_15 : decode cX11_keep 15 = .ok (.getfield 82, 3) := by decide +kernel
theorem dX11_keep_18 : decode cX11_keep 18 = .ok (.iload_n 1, 1) := by decide +kernel
theorem dX11_keep_19 : decode cX11_keep 19 = .ok (.aload_n 0, 1) := by decide +kernel
theorem dX11_keep_20 : decode cX11_keep 20 = .ok (.getfield 26, 3) := by decide +kernel
theorem dX11_keep_23 : decode cX11_keep 23 = .ok (.aload_n 0, 1) := by decide +kernel
theorem dX11_keep_24 : decode cX11_keep 24 = .ok (.getfield 68, 3) := by decide +kernel
theorem dX11_keep_27 : decode cX11_keep 27 = .ok (.invokevirtual 296, 3) := by decide +kernel
theorem dX11_keep_30 : decode cX11_keep 30 = .ok (.aload_n 0, 1) := by decide +kernel
theorem dX11_keep_31 : decode cX11_keep 31 = .ok (.getfield 75, 3) := by decide +kernel
theorem dX11_keep_34 : decode cX11_keep 34 = .ok (.invokevirtual 117, 3) := by decide +kernel
theorem dX11_keep_37 : decode cX11_keep 37 = .ok (.iconst 1, 1) := by decide +kernel
theorem dX11_keep_38 : decode cX11_keep 38 = .ok (.ireturn, 1) := by decide +kernel
theorem dX11_goBack_0 : decode cX11_goBack 0 = .ok (.aload_n 0, 1) := by decide +kernel
theorem dX11_goBack_1 : decode cX11_goBack 1 = .ok (.getfield 82, 3) := by decide +kernel
theorem dX11_goBack_4 : decode cX11_goBack 4 = .ok (.iload_n 1, 1) := by decide +kernel
theorem dX11_goBack_5 : decode cX11_goBack 5 = .ok (.invokevirtual 293, 3) := by decide +kernel
theorem dX11_goBack_8 : decode cX11_goBack 8 = .ok (.ifCond .ne 6, 3) := by decide +kernel
theorem dX11_goBack_11 : decode cX11_goBack 11 = .ok (.ldc 171, 2) := by decide +kernel
theorem dX11_goBack_13 : decode cX11_goBack 13 = .ok (.ireturn, 1) := by decide +kernel
theorem dX11_goBack_14 : decode cX11_goBack 14 = .ok (.aload_n 0, 1) := by decide +kernel
theorem dX11_goBack_15 : decode cX11_goBack 15 = .ok (.getfield 82, 3) := by decide +kernel
theorem dX11_goBack_18 : decode cX11_goBack 18 = .ok (.iload_n 1, 1) := by decide +kernel
theorem dX11_goBack_19 : decode cX11_goBack 19 = .ok (.aload_n 0, 1) := by decide +kernel
theorem dX11_goBack_20 : decode cX11_goBack 20 = .ok (.getfield 26, 3) := by decide +kernel
theorem dX11_goBack_23 : decode cX11_goBack 23 = .ok (.aload_n 0, 1) := by decide +kernel
theorem dX11_goBack_24 : decode cX11_goBack 24 = .ok (.getfield 68, 3) := by decide +kernel
theorem dX11_goBack_27 : decode cX11_goBack 27 = .ok (.invokevirtual 300, 3) := by decide +kernel
theorem dX11_goBack_30 : decode cX11_goBack 30 = .ok (.ifCond .ne 6, 3) := by decide +kernel
theorem dX11_goBack_33 : decode cX11_goBack 33 = .ok (.ldc 220, 2) := by decide +kernel
theorem dX11_goBack_35 : decode cX11_goBack 35 = .ok (.ireturn, 1) := by decide +kernel
theorem dX11_goBack_36 : decode cX11_goBack 36 = .ok (.aload_n 0, 1) := by decide +kernel
theorem dX11_goBack_37 : decode cX11_goBack 37 = .ok (.getfield 75, 3) := by decide +kernel
theorem dX11_goBack_40 : decode cX11_goBack 40 = .ok (.invokevirtual 117, 3) := by decide +kernel
theorem dX11_goBack_43 : decode cX11_goBack 43 = .ok (.iconst 1, 1) := by decide +kernel
theorem dX11_goBack_44 : decode cX11_goBack 44 = .ok (.ireturn, 1) := by decide +kernel
theorem dX12_init_0 : decode cX12_init 0 = .ok (.aload_n 0, 1) := by decide +kernel
theorem dX12_init_1 : decode cX12_init 1 = .ok (.invokespecial 1, 3) := by decide +kernel
theorem dX12_init_4 : decode cX12_init 4 = .ok (.aload_n 0, 1) := by decide +kernel
theorem dX12_init_5 : decode cX12_init 5 = .ok (.bipush 14, 2) := by decide +kernel
theorem dX12_init_7 : decode cX12_init 7 = .ok (.newarray .int, 2) := by decide +kernel
theorem dX12_init_9 : decode cX12_init 9 = .ok (.putfield 7, 3) := by decide +kernel
theorem dX12_init_12 : decode cX12_init 12 = .ok (.aload_n 0, 1) := by decide +kernel
theorem dX12_init_13 : decode cX12_init 13 = .ok (.bipush 14, 2) := by decide +kernel
theorem dX12_init_15 : decode cX12_init 15 = .ok (.newarray .int, 2) := by decide +kernel
theorem dX12_init_17 : decode cX12_init 17 = .ok (.putfield 13, 3) := by decide +kernel
theorem dX12_init_20 : decode cX12_init 20 = .ok (.aload_n 0, 1) := by decide +kernel
theorem dX12_init_21 : decode cX12_init 21 = .ok (.bipush 25, 2) := by decide +kernel
theorem dX12_init_23 : decode cX12_init 23 = .ok (.newarray .int, 2) := by decide +kernel
theorem dX12_init_25 : decode cX12_init 25 = .ok (.putfield 16, 3) := by decide +kernel
theorem dX12_init_28 : decode cX12_init 28 = .ok (.aload_n 0, 1) := by decide +kernel
theorem dX12_init_29 : decode cX12_init 29 = .ok (.sipush 240, 3) := by decide +kernel
theorem dX12_init_32 : decode cX12_init 32 = .ok (.newarray .int, 2) := by decide +kernel
theorem dX12_init_34 : decode cX12_init 34 = .ok (.putfield 19, 3) := by decide +kernel
theorem dX12_init_37 : decode cX12_init 37 = .ok (.aload_n 0, 1) := by decide +kernel
theorem dX12_init_38 : decode cX12_init 38 = .ok (.iconst (-1), 1) := by decide +kernel
theorem dX12_init_39 : decode cX12_init 39 = .ok (.putfield 22, 3) := by decide +kernel
theorem dX12_init_42 : decode cX12_init 42 = .ok (.aload_n 0, 1) := by decide +kernel
theorem dX12_init_43 : decode cX12_init 43 = .ok (.iconst 2, 1) := by decide +kernel
theorem dX12_init_44 : decode cX12_init 44 = .ok (.newarray .int, 2) := by decide +kernel
theorem dX12_init_46 : decode cX12_init 46 = .ok (.putfield 26, 3) := by decide +kernel
theorem dX12_init_49 : decode cX12_init 49 = .ok (.aload_n 0, 1) := by decide +kernel
theorem dX12_init_50 : decode cX12_init 50 = .ok (.bipush 9, 2) := by decide +kernel
theorem dX12_init_52 : decode cX12_init 52 = .ok (.newarray .int, 2) := by decide +kernel
theorem dX12_init_54 : decode cX12_init 54 = .ok (.putfield 29, 3) := by decide +kernel
theorem dX12_init_57 : decode cX12_init 57 = .ok (.aload_n 0, 1) := by decide +kernel
theorem dX12_init_58 : decode cX12_init 58 = .ok (.bipush 9, 2) := by decide +kernel
theorem dX12_init_60 : decode cX12_init 60 = .ok (.newarray .int, 2) := by decide +kernel
theorem dX12_init_62 : decode cX12_init 62 = .ok (.putfield 32, 3) := by decide +kernel
theorem dX12_init_65 : decode cX12_init 65 = .ok (.aload_n 0, 1) := by decide +kernel
theorem dX12_init_66 : decode cX12_init 66 = .ok (.bipush 14, 2) := by decide +kernel
theorem dX12_init_68 : decode cX12_init 68 = .ok (.newarray .int, 2) := by decide +kernel
theorem dX12_init_70 : decode cX12_init 70 = .ok (.putfield 35, 3) := by decide +kernel
theorem dX12_init_73 : decode cX12_init 73 = .ok (.aload_n 0, 1) := by decide +kernel
theorem dX12_init_74 : decode cX12_init 74 = .ok (.bipush 14, 2) := by decide +kernel
theorem dX12_init_76 : decode cX12_init 76 = .ok (.newarray .int, 2) := by decide +kernel
theorem dX12_init_78 : decode cX12_init 78 = .ok (.putfield 38, 3) := by decide +kernel
theorem dX12_init_81 : decode cX12_init 81 = .ok (.aload_n 0, 1) := by decide +kernel
theorem dX12_init_82 : decode cX12_init 82 = .ok (.bipush 9, 2) := by decide +kernel
theorem dX12_init_84 : decode cX12_init 84 = .ok (.newarray .int, 2) := by decide +kernel
theorem dX12_init_86 : decode cX12_init 86 = .ok (.putfield 41, 3) := by decide +kernel
theorem dX12_init_89 : decode cX12_init 89 = .ok (.aload_n 0, 1) := by decide +kernel
theorem dX12_init_90 : decode cX12_init 90 = .ok (.sipush 500, 3) := by decide +kernel
theorem dX12_init_93 : decode cX12_init 93 = .ok (.newarray .int, 2) := by decide +kernel
theorem dX12_init_95 : decode cX12_init 95 = .ok (.putfield 44, 3) := by decide +kernel
theorem dX12_init_98 : decode cX12_init 98 = .ok (.aload_n 0, 1) := by decide +kernel
theorem dX12_init_99 : decode cX12_init 99 = .ok (.bipush 25, 2) := by decide +kernel
theorem dX12_init_101 : decode cX12_init 101 = .ok (.newarray .int, 2) := by decide +kernel
theorem dX12_init_103 : decode cX12_init 103 = .ok (.putfield 47, 3) := by decide +kernel
theorem dX12_init_106 : decode cX12_init 106 = .ok (.aload_n 0, 1) := by decide +kernel
theorem dX12_init_107 : decode cX12_init 107 = .ok (.bipush 9, 2) := by decide +kernel
theorem dX12_init_109 : decode cX12_init 109 = .ok (.newarray .int, 2) := by decide +kernel
theorem dX12_init_111 : decode cX12_init 111 = .ok (.putfield 50, 3) := by decide +kernel
theorem dX12_init_114 : decode cX12_init 114 = .ok (.aload_n 0, 1) := by decide +kernel
theorem dX12_init_115 : decode cX12_init 115 = .ok (.bipush 6, 2) := by decide +kernel
theorem dX12_init_117 : decode cX12_init 117 = .ok (.newarray .int, 2) := by decide +kernel
theorem dX12_init_119 : decode cX12_init 119 = .ok (.putfield 53, 3) := by decide +kernel
theorem dX12_init_122 : decode cX12_init 122 = .ok (.aload_n 0, 1) := by decide +kernel
theorem dX12_init_123 : decode cX12_init 123 = .ok (.bipush 6, 2) := by decide +kernel
theorem dX12_init_125 : decode cX12_init 125 = .ok (.newarray .boolean, 2) := by decide +kernel
theorem dX12_init_127 : decode cX12_init 127 = .ok (.putfield 56, 3) := by decide +kernel
theorem dX12_init_130 : decode cX12_init 130 = .ok (.aload_n 0, 1) := by decide +kernel
theorem dX12_init_131 : decode cX12_init 131 = .ok (.bipush 15, 2) := by decide +kernel
theorem dX12_init_133 : decode cX12_init 133 = .ok (.newarray .int, 2) := by decide +kernel
theorem dX12_init_135 : decode cX12_init 135 = .ok (.putfield 60, 3) := by decide +kernel
theorem dX12_init_138 : decode cX12_init 138 = .ok (.aload_n 0, 1) := by decide +kernel
theorem dX12_init_139 : decode cX12_init 139 = .ok (.bipush 15, 2) := by decide +kernel
theorem dX12_init_141 : decode cX12_init 141 = .ok (.newarray .int, 2) := by decide +kernel
theorem dX12_init_143 : decode cX12_init 143 = .ok (.putfield 63, 3) := by decide +kernel
theorem dX12_init_146 : decode cX12_init 146 = .ok (.aload_n 0, 1) := by decide +kernel
theorem dX12_init_147 : decode cX12_init 147 = .ok (.bipush 52, 2) := by decide +kernel
theorem dX12_init_149 : decode cX12_init 149 = .ok (.newarray .int, 2) := by decide +kernel
theorem dX12_init_151 : decode cX12_init 151 = .ok (.putfield 66, 3) := by decide +kernel
theorem dX12_init_154 : decode cX12_init 154 = .ok (.aload_n 0, 1) := by decide +kernel
theorem dX12_init_155 : decode cX12_init 155 = .ok (.iconst 2, 1) := by decide +kernel
theorem dX12_init_156 : decode cX12_init 156 = .ok (.newarray .boolean, 2) := by decide +kernel
theorem dX12_init_158 : decode cX12_init 158 = .ok (.putfield 69, 3) := by decide +kernel
theorem dX12_init_161 : decode cX12_init 161 = .ok (.aload_n 0, 1) := by decide +kernel
theorem dX12_init_162 : decode cX12_init 162 = .ok (.iconst 0, 1) := by decide +kernel
theorem dX12_init_163 : decode cX12_init 163 = .ok (.putfield 72, 3) := by decide +kernel
theorem dX12_init_166 : decode cX12_init 166 = .ok (.return_, 1) := by decide +kernel
theorem dX12_in_0 : decode cX12_in 0 = .ok (.lload_n 0, 1) := by decide +kernel
theorem dX12_in_1 : decode cX12_in 1 = .ok (.lload_n 2, 1) := by decide +kernel
theorem dX12_in_2 : decode cX12_in 2 = .ok (.lcmp, 1) := by decide +kernel
theorem dX12_in_3 : decode cX12_in 3 = .ok (.ifCond .lt 14, 3) := by decide +kernel
theorem dX12_in_6 : decode cX12_in 6 = .ok (.lload_n 0, 1) := by decide +kernel
theorem dX12_in_7 : decode cX12_in 7 = .ok (.lload 4, 2) := by decide +kernel
theorem dX12_in_9 : decode cX12_in 9 = .ok (.lcmp, 1) := by decide +kernel
theorem dX12_in_10 : decode cX12_in 10 = .ok (.ifCond .gt 7, 3) := by decide +kernel
theorem dX12_in_13 : decode cX12_in 13 = .ok (.iconst 1, 1) := by decide +kernel
theorem dX12_in_14 : decode cX12_in 14 = .ok (.goto 4, 3) := by decide +kernel
theorem dX12_in_17 : decode cX12_in 17 = .ok (.iconst 0, 1) := by decide +kernel
theorem dX12_in_18 : decode cX12_in 18 = .ok (.ireturn, 1) := by decide +kernel
theorem dX12_has_0 : decode cX12_has 0 = .ok (.iload_n 0, 1) := by decide +kernel
theorem dX12_has_1 : decode cX12_has 1 = .ok (.iload_n 1, 1) := by decide +kernel
theorem dX12_has_2 : decode cX12_has 2 = .ok (.ishr, 1) := by decide +kernel
theorem dX12_has_3 : decode cX12_has 3 = .ok (.iconst 1, 1) := by decide +kernel
theorem dX12_has_4 : decode cX12_has 4 = .ok (.iand, 1) := by decide +kernel
theorem dX12_has_5 : decode cX12_has 5 = .ok (.iconst 1, 1) := by decide +kernel
theorem dX12_has_6 : decode cX12_has 6 = .ok (.if_icmp .ne 7, 3) := by decide +kernel
theorem dX12_has_9 : decode cX12_has 9 = .ok (.iconst 1, 1) := by decide +kernel
theorem dX12_has_10 : decode cX12_has 10 = .ok (.goto 4, 3) := by decide +kernel
theorem dX12_has_13 : decode cX12_has 13 = .ok (.iconst 0, 1) := by decide +kernel
theorem dX12_has_14 : decode cX12_has 14 = .ok (.ireturn, 1) := by decide +kernel
theorem dX12_bits_0 : decode cX12_bits 0 = .ok (.iconst 0, 1) := by decide +kernel
theorem dX12_bits_1 : decode cX12_bits 1 = .ok (.istore_n 1, 1) := by decide +kernel
theorem dX12_bits_2 : decode cX12_bits 2 = .ok (.iconst 0, 1) := by decide +kernel
theorem dX12_bits_3 : decode cX12_bits 3 = .ok (.istore_n 2, 1) := by decide +kernel
theorem dX12_bits_4 : decode cX12_bits 4 = .ok (.iload_n 2, 1) := by decide +kernel
theorem dX12_bits_5 : decode cX12_bits 5 = .ok (.bipush 9, 2) := by decide +kernel
theorem dX12_bits_7 : decode cX12_bits 7 = .ok (.if_icmp .ge 17, 3) := by decide +kernel
theorem dX12_bits_10 : decode cX12_bits 10 = .ok (.iload_n 1, 1) := by decide +kernel
theorem dX12_bits_11 : decode cX12_bits 11 = .ok (.iload_n 0, 1) := by decide +kernel
theorem dX12_bits_12 : decode cX12_bits 12 = .ok (.iload_n 2, 1) := by decide +kernel
theorem dX12_bits_13 : decode cX12_bits 13 = .ok (.ishr, 1) := by decide +kernel
theorem dX12_bits_14 : decode cX12_bits 14 = .ok (.iconst 1, 1) := by decide +kernel
theorem dX12_bits_15 : decode cX12_bits 15 = .ok (.iand, 1) := by decide +kernel
theorem dX12_bits_16 : decode cX12_bits 16 = .ok (.iadd, 1) := by decide +kernel
theorem dX12_bits_17 : decode cX12_bits 17 = .ok (.istore_n 1, 1) := by decide +kernel
theorem dX12_bits_18 : decode cX12_bits 18 = .ok (.iinc 2 1, 3) := by decide +kernel
theorem dX12_bits_21 : decode cX12_bits 21 = .ok (.goto (-17), 3) := by decide +kernel
theorem dX12_bits_24 : decode cX12_bits 24 = .ok (.iload_n 1, 1) := by decide +kernel
theorem dX12_bits_25 : decode cX12_bits 25 = .ok (.ireturn, 1) := by decide +kernel
theorem dX12_isTable_0 : decode cX12_isTable 0 = .ok (.iload_n 1, 1) := by decide +kernel
theorem dX12_isTable_1 : decode cX12_isTable 1 = .ok (.i2l, 1) := by decide +kernel
theorem dX12_isTable_2 : decode cX12_isTable 2 = .ok (.lconst 0, 1) := by decide +kernel
theorem dX12_isTable_3 : decode cX12_isTable 3 = .ok (.aload_n 0, 1) := by decide +kernel
theorem dX12_isTable_4 : decode cX12_isTable 4 = .ok (.getfield 76, 3) := by decide +kernel
theorem dX12_isTable_7 : decode cX12_isTable 7 = .ok (.iconst 1, 1) := by decide +kernel
theorem dX12_isTable_8 : decode cX12_isTable 8 = .ok (.isub, 1) := by decide +kernel
theorem dX12_isTable_9 : decode cX12_isTable 9 = .ok (.i2l, 1) := by decide +kernel
theorem dX12_isTable_10 : decode cX12_isTable 10 = .ok (.invokestatic 79, 3) := by decide +kernel
theorem dX12_isTable_13 : decode cX12_isTable 13 = .ok (.ireturn, 1) := by decide +kernel
theorem dX12_feed_0 : decode cX12_feed 0 = .ok (.iload_n 1, 1) := by decide +kernel
theorem dX12_feed_1 : decode cX12_feed 1 = .ok (.i2l, 1) := by decide +kernel
theorem dX12_feed_2 : decode cX12_feed 2 = .ok (.lconst 0, 1) := by decide +kernel
theorem dX12_feed_3 : decode cX12_feed 3 = .ok (.ldc2_w 83, 3) := by decide +kernel
theorem dX12_feed_6 : decode cX12_feed 6 = .ok (.invokestatic 79, 3) := by decide +kernel
theorem dX12_feed_9 : decode cX12_feed 9 = .ok (.ifCond .ne 6, 3) := by decide +kernel
theorem dX12_feed_12 : decode cX12_feed 12 = .ok (.ldc 85, 2) := by decide +kernel
theorem dX12_feed_14 : decode cX12_feed 14 = .ok (.ireturn, 1) := by decide +kernel
theorem dX12_feed_15 : decode cX12_feed 15 = .ok (.aload_n 0, 1) := by decide +kernel
theorem dX12_feed_16 : decode cX12_feed 16 = .ok (.getfield 86, 3) := by decide +kernel
theorem dX12_feed_19 : decode cX12_feed 19 = .ok (.sipush 240, 3) := by decide +kernel
theorem dX12_feed_22 : decode cX12_feed 22 = .ok (.if_icmp .ne 6, 3) := by decide +kernel
theorem dX12_feed_25 : decode cX12_feed 25 = .ok (.ldc 89, 2) := by decide +kernel
theorem dX12_feed_27 : decode cX12_feed 27 = .ok (.ireturn, 1) := by decide +kernel
theorem dX12_feed_28 : decode cX12_feed 28 = .ok (.aload_n 0, 1) := by decide +kernel
theorem dX12_feed_29 : decode cX12_feed 29 = .ok (.getfield 19, 3) := by decide +kernel
theorem dX12_feed_32 : decode cX12_feed 32 = .ok (.aload_n 0, 1) := by decide +kernel
theorem dX12_feed_33 : decode cX12_feed 33 = .ok (.getfield 86, 3) := by decide +kernel
theorem dX12_feed_36 : decode cX12_feed 36 = .ok (.iload_n 1, 1) := by decide +kernel
theorem dX12_feed_37 : decode cX12_feed 37 = .ok (.iastore, 1) := by decide +kernel
theorem dX12_feed_38 : decode cX12_feed 38 = .ok (.aload_n 0, 1) := by decide +kernel
theorem dX12_feed_39 : decode cX12_feed 39 = .ok (.dup, 1) := by decide +kernel
theorem dX12_feed_40 : decode cX12_feed 40 = .ok (.getfield 86, 3) := by decide +kernel
theorem dX12_feed_43 : decode cX12_feed 43 = .ok (.iconst 1, 1) := by decide +kernel
theorem dX12_feed_44 : decode cX12_feed 44 = .ok (.iadd, 1) := by decide +kernel
theorem dX12_feed_45 : decode cX12_feed 45 = .ok (.putfield 86, 3) := by decide +kernel
theorem dX12_feed_48 : decode cX12_feed 48 = .ok (.aload_n 0, 1) := by decide +kernel
theorem dX12_feed_49 : decode cX12_feed 49 = .ok (.getfield 86, 3) := by decide +kernel
theorem dX12_feed_52 : decode cX12_feed 52 = .ok (.ireturn, 1) := by decide +kernel
theorem dX12_here_0 : decode cX12_here 0 = .ok (.aload_n 0, 1) := by decide +kernel
theorem dX12_here_1 : decode cX12_here 1 = .ok (.getfield 90, 3) := by decide +kernel
theorem dX12_here_4 : decode cX12_here 4 = .ok (.aload_n 0, 1) := by decide +kernel
theorem dX12_here_5 : decode cX12_here 5 = .ok (.getfield 86, 3) := by decide +kernel
theorem dX12_here_8 : decode cX12_here 8 = .ok (.if_icmp .ge 30, 3) := by decide +kernel
theorem dX12_here_11 : decode cX12_here 11 = .ok (.aload_n 0, 1) := by decide +kernel
theorem dX12_here_12 : decode cX12_here 12 = .ok (.getfield 19, 3) := by decide +kernel
theorem dX12_here_15 : decode cX12_here 15 = .ok (.aload_n 0, 1) := by decide +kernel
theorem dX12_here_16 : decode cX12_here 16 = .ok (.getfield 90, 3) := by decide +kernel
theorem dX12_here_19 : decode cX12_here 19 = .ok (.iaload, 1) := by decide +kernel
theorem dX12_here_20 : decode cX12_here 20 = .ok (.bipush 32, 2) := by decide +kernel
theorem dX12_here_22 : decode cX12_here 22 = .ok (.if_icmp .ne 16, 3) := by decide +kernel
theorem dX12_here_25 : decode cX12_here 25 = .ok (.aload_n 0, 1) := by decide +kernel
theorem dX12_here_26 : decode cX12_here 26 = .ok (.dup, 1) := by decide +kernel
theorem dX12_here_27 : decode cX12_here 27 = .ok (.getfield 90, 3) := by decide +kernel
theorem dX12_here_30 : decode cX12_here 30 = .ok (.iconst 1, 1) := by decide +kernel
theorem dX12_here_31 : decode cX12_here 31 = .ok (.iadd, 1) := by decide +kernel
theorem dX12_here_32 : decode cX12_here 32 = .ok (.putfield 90, 3) := by decide +kernel
theorem dX12_here_35 : decode cX12_here 35 = .ok (.goto (-35), 3) := by decide +kernel
theorem dX12_here_38 : decode cX12_here 38 = .ok (.aload_n 0, 1) := by decide +kernel
theorem dX12_here_39 : decode cX12_here 39 = .ok (.getfield 90, 3) := by decide +kernel
theorem dX12_here_42 : decode cX12_here 42 = .ok (.aload_n 0, 1) := by decide +kernel
theorem dX12_here_43 : decode cX12_here 43 = .ok (.getfield 86, 3) := by decide +kernel
theorem dX12_here_46 : decode cX12_here 46 = .ok (.if_icmp .ge 15, 3) := by decide +kernel
theorem dX12_here_49 : decode cX12_here 49 = .ok (.aload_n 0, 1) := by decide +kernel
theorem dX12_here_50 : decode cX12_here 50 = .ok (.getfield 19, 3) := by decide +kernel
theorem dX12_here_53 : decode cX12_here 53 = .ok (.aload_n 0, 1) := by decide +kernel
theorem dX12_here_54 : decode cX12_here 54 = .ok (.getfield 90, 3) := by decide +kernel
theorem dX12_here_57 : decode cX12_here 57 = .ok (.iaload, 1) := by decide +kernel
theorem dX12_here_58 : decode cX12_here 58 = .ok (.goto 4, 3) := by decide +kernel
theorem dX12_here_61 : decode cX12_here 61 = .ok (.iconst (-1), 1) := by decide +kernel
theorem dX12_here_62 : decode cX12_here 62 = .ok (.ireturn, 1) := by decide +kernel
theorem dX12_fails_0 : decode cX12_fails 0 = .ok (.aload_n 0, 1) := by decide +kernel
theorem dX12_fails_1 : decode cX12_fails 1 = .ok (.iload_n 2, 1) := by decide +kernel
theorem dX12_fails_2 : decode cX12_fails 2 = .ok (.putfield 22, 3) := by decide +kernel
theorem dX12_fails_5 : decode cX12_fails 5 = .ok (.iload_n 1, 1) := by decide +kernel
theorem dX12_fails_6 : decode cX12_fails 6 = .ok (.ireturn, 1) := by decide +kernel
theorem dX12_takeNumber_0 : decode cX12_takeNumber 0 = .ok (.aload_n 0, 1) := by decide +kernel
theorem dX12_takeNumber_1 : decode cX12_takeNumber 1 = .ok (.invokevirtual 93, 3) := by decide +kernel
theorem dX12_takeNumber_4 : decode cX12_takeNumber 4 = .ok (.istore_n 3, 1) := by decide +kernel
theorem dX12_takeNumber_5 : decode cX12_takeNumber 5 = .ok (.iload_n 3, 1) := by decide +kernel
theorem dX12_takeNumber_6 : decode cX12_takeNumber 6 = .ok (.i2l, 1) := by decide +kernel
theorem dX12_takeNumber_7 : decode cX12_takeNumber 7 = .ok (.ldc2_w 97, 3) := by decide +kernel
theorem dX12_takeNumber_10 : decode cX12_takeNumber 10 = .ok (.ldc2_w 99, 3) := by decide +kernel
theorem dX12_takeNumber_13 : decode cX12_takeNumber 13 = .ok (.invokestatic 79, 3) := by decide +kernel
theorem dX12_takeNumber_16 : decode cX12_takeNumber 16 = .ok (.ifCond .ne 13, 3) := by decide +kernel
theorem dX12_takeNumber_19 : decode cX12_takeNumber 19 = .ok (.aload_n 0, 1) := by decide +kernel
theorem dX12_takeNumber_20 : decode cX12_takeNumber 20 = .ok (.iconst 1, 1) := by decide +kernel
theorem dX12_takeNumber_21 : decode cX12_takeNumber 21 = .ok (.aload_n 0, 1) := by decide +kernel
theorem dX12_takeNumber_22 : decode cX12_takeNumber 22 = .ok (.getfield 90, 3) := by decide +kernel
theorem dX12_takeNumber_25 : decode cX12_takeNumber 25 = .ok (.invokevirtual 101, 3) := by decide +kernel
theorem dX12_takeNumber_28 : decode cX12_takeNumber 28 = .ok (.ireturn, 1) := by decide +kernel
theorem dX12_takeNumber_29 : decode cX12_takeNumber 29 = .ok (.aload_n 0, 1) := by decide +kernel
theorem dX12_takeNumber_30 : decode cX12_takeNumber 30 = .ok (.aload_n 0, 1) := by decide +kernel
theorem dX12_takeNumber_31 : decode cX12_takeNumber 31 = .ok (.getfield 90, 3) := by decide +kernel
theorem dX12_takeNumber_34 : decode cX12_takeNumber 34 = .ok (.putfield 105, 3) := by decide +kernel
theorem dX12_takeNumber_37 : decode cX12_takeNumber 37 = .ok (.aload_n 0, 1) := by decide +kernel
theorem dX12_takeNumber_38 : decode cX12_takeNumber 38 = .ok (.iconst 0, 1) := by decide +kernel
theorem dX12_takeNumber_39 : decode cX12_takeNumber 39 = .ok (.putfield 108, 3) := by decide +kernel
theorem dX12_takeNumber_42 : decode cX12_takeNumber 42 = .ok (.aload_n 0, 1) := by decide +kernel
theorem dX12_takeNumber_43 : decode cX12_takeNumber 43 = .ok (.getfield 90, 3) := by decide +kernel
theorem dX12_takeNumber_46 : decode cX12_takeNumber 46 = .ok (.aload_n 0, 1) := by decide +kernel
theorem dX12_takeNumber_47 : decode cX12_takeNumber 47 = .ok (.getfield 86, 3) := by decide +kernel
theorem dX12_takeNumber_50 : decode cX12_takeNumber 50 = .ok (.if_icmp .ge 79, 3) := by decide +kernel
theorem dX12_takeNumber_53 : decode cX12_takeNumber 53 = .ok (.aload_n 0, 1) := by decide +kernel
theorem dX12_takeNumber_54 : decode cX12_takeNumber 54 = .ok (.getfield 19, 3) := by decide +kernel
theorem dX12_takeNumber_57 : decode cX12_takeNumber 57 = .ok (.aload_n 0, 1) := by decide +kernel
theorem dX12_takeNumber_58 : decode cX12_takeNumber 58 = .ok (.getfield 90, 3) := by decide +kernel
theorem dX12_takeNumber_61 : decode cX12_takeNumber 61 = .ok (.iaload, 1) := by decide +kernel
theorem dX12_takeNumber_62 : decode cX12_takeNumber 62 = .ok (.i2l, 1) := by decide +kernel
theorem dX12_takeNumber_63 : decode cX12_takeNumber 63 = .ok (.ldc2_w 97, 3) := by decide +kernel
theorem dX12_takeNumber_66 : decode cX12_takeNumber 66 = .ok (.ldc2_w 99, 3) := by decide +kernel
theorem dX12_takeNumber_69 : decode cX12_takeNumber 69 = .ok (.invokestatic 79, 3) := by decide +kernel
theorem dX12_takeNumber_72 : decode cX12_takeNumber 72 = .ok (.ifCond .eq 57, 3) := by decide +kernel
theorem dX12_takeNumber_75 : decode cX12_takeNumber 75 = .ok (.aload_n 0, 1) := by decide +kernel
theorem dX12_takeNumber_76 : decode cX12_takeNumber 76 = .ok (.aload_n 0, 1) := by decide +kernel
theorem dX12_takeNumber_77 : decode cX12_takeNumber 77 = .ok (.getfield 108, 3) := by decide +kernel
theorem dX12_takeNumber_80 : decode cX12_takeNumber 80 = .ok (.sipush 10000, 3) := by decide +kernel
theorem dX12_takeNumber_83 : decode cX12_takeNumber 83 = .ok (.if_icmp .le 10, 3) := by decide +kernel
theorem dX12_takeNumber_86 : decode cX12_takeNumber 86 = .ok (.aload_n 0, 1) := by decide +kernel
theorem dX12_takeNumber_87 : decode cX12_takeNumber 87 = .ok (.getfield 108, 3) := by decide +kernel
theorem dX12_takeNumber_90 : decode cX12_takeNumber 90 = .ok (.goto 23, 3) := by decide +kernel
theorem dX12_takeNumber_93 : decode cX12_takeNumber 93 = .ok (.bipush 10, 2) := by decide +kernel
theorem dX12_takeNumber_95 : decode cX12_takeNumber 95 = .ok (.aload_n 0, 1) := by decide +kernel
theorem dX12_takeNumber_96 : decode cX12_takeNumber 96 = .ok (.getfield 108, 3) := by decide +kernel
theorem dX12_takeNumber_99 : decode cX12_takeNumber 99 = .ok (.imul, 1) := by decide +kernel
theorem dX12_takeNumber_100 : decode cX12_takeNumber 100 = .ok (.aload_n 0, 1) := by decide +kernel
theorem dX12_takeNumber_101 : decode cX12_takeNumber 101 = .ok (.getfield 19, 3) := by decide +kernel
theorem dX12_takeNumber_104 : decode cX12_takeNumber 104 = .ok (.aload_n 0, 1) := by decide +kernel
theorem dX12_takeNumber_105 : decode cX12_takeNumber 105 = .ok (.getfield 90, 3) := by decide +kernel
theorem dX12_takeNumber_108 : decode cX12_takeNumber 108 = .ok (.iaload, 1) := by decide +kernel
theorem dX12_takeNumber_109 : decode cX12_takeNumber 109 = .ok (.iadd, 1) := by decide +kernel
theorem dX12_takeNumber_110 : decode cX12_takeNumber 110 = .ok (.bipush 48, 2) := by decide +kernel
theorem dX12_takeNumber_112 : decode cX12_takeNumber 112 = .ok (.isub, 1) := by decide +kernel
theorem dX12_takeNumber_113 : decode cX12_takeNumber 113 = .ok (.putfield 108, 3) := by decide +kernel
theorem dX12_takeNumber_116 : decode cX12_takeNumber 116 = .ok (.aload_n 0, 1) := by decide +kernel
theorem dX12_takeNumber_117 : decode cX12_takeNumber 117 = .ok (.dup, 1) := by decide +kernel
theorem dX12_takeNumber_118 : decode cX12_takeNumber 118 = .ok (.getfield 90, 3) := by decide +kernel
theorem dX12_takeNumber_121 : decode cX12_takeNumber 121 = .ok (.iconst 1, 1) := by decide +kernel
theorem dX12_takeNumber_122 : decode cX12_takeNumber 122 = .ok (.iadd, 1) := by decide +kernel
theorem dX12_takeNumber_123 : decode cX12_takeNumber 123 = .ok (.putfield 90, 3) := by decide +kernel
theorem dX12_takeNumber_126 : decode cX12_takeNumber 126 = .ok (.goto (-84), 3) := by decide +kernel
theorem dX12_takeNumber_129 : decode cX12_takeNumber 129 = .ok (.aload_n 0, 1) := by decide +kernel
theorem dX12_takeNumber_130 : decode cX12_takeNumber 130 = .ok (.getfield 90, 3) := by decide +kernel
theorem dX12_takeNumber_133 : decode cX12_takeNumber 133 = .ok (.aload_n 0, 1) := by decide +kernel
theorem dX12_takeNumber_134 : decode cX12_takeNumber 134 = .ok (.getfield 105, 3) := by decide +kernel
theorem dX12_takeNumber_137 : decode cX12_takeNumber 137 = .ok (.isub, 1) := by decide +kernel
theorem dX12_takeNumber_138 : decode cX12_takeNumber 138 = .ok (.iconst 3, 1) := by decide +kernel
theorem dX12_takeNumber_139 : decode cX12_takeNumber 139 = .ok (.if_icmp .gt 18, 3) := by decide +kernel
theorem dX12_takeNumber_142 : decode cX12_takeNumber 142 = .ok (.aload_n 0, 1) := by decide +kernel
theorem dX12_takeNumber_143 : decode cX12_takeNumber 143 = .ok (.getfield 108, 3) := by decide +kernel
theorem dX12_takeNumber_146 : decode cX12_takeNumber 146 = .ok (.i2l, 1) := by decide +kernel
theorem dX12_takeNumber_147 : decode cX12_takeNumber 147 = .ok (.iload_n 1, 1) := by decide +kernel
theorem dX12_takeNumber_148 : decode cX12_takeNumber 148 = .ok (.i2l, 1) := by decide +kernel
theorem dX12_takeNumber_149 : decode cX12_takeNumber 149 = .ok (.iload_n 2, 1) := by decide +kernel
theorem dX12_takeNumber_150 : decode cX12_takeNumber 150 = .ok (.i2l, 1) := by decide +kernel
theorem dX12_takeNumber_151 : decode cX12_takeNumber 151 = .ok (.invokestatic 79, 3) := by decide +kernel
theorem dX12_takeNumber_154 : decode cX12_takeNumber 154 = .ok (.ifCond .ne 15, 3) := by decide +kernel
theorem dX12_takeNumber_157 : decode cX12_takeNumber 157 = .ok (.aload_n 0, 1) := by decide +kernel
theorem dX12_takeNumber_158 : decode cX12_takeNumber 158 = .ok (.iconst 2, 1) := by decide +kernel
theorem dX12_takeNumber_159 : decode cX12_takeNumber 159 = .ok (.aload_n 0, 1) := by decide +kernel
theorem dX12_takeNumber_160 : decode cX12_takeNumber 160 = .ok (.getfield 105, 3) := by decide +kernel
theorem dX12_takeNumber_163 : decode cX12_takeNumber 163 = .ok (.invokevirtual 101, 3) := by decide +kernel
theorem dX12_takeNumber_166 : decode cX12_takeNumber 166 = .ok (.goto 4, 3) := by decide +kernel
theorem dX12_takeNumber_169 : decode cX12_takeNumber 169 = .ok (.iconst 0, 1) := by decide +kernel
theorem dX12_takeNumber_170 : decode cX12_takeNumber 170 = .ok (.ireturn, 1) := by decide +kernel
theorem dX12_into_0 : decode cX12_into 0 = .ok (.aload_n 0, 1) := by decide +kernel
theorem dX12_into_1 : decode cX12_into 1 = .ok (.iload_n 3, 1) := by decide +kernel
theorem dX12_into_2 : decode cX12_into 2 = .ok (.iload 4, 2) := by decide +kernel
theorem dX12_into_4 : decode cX12_into 4 = .ok (.invokevirtual 111, 3) := by decide +kernel
theorem dX12_into_7 : decode cX12_into 7 = .ok (.istore 5, 2) := by decide +kernel
theorem dX12_into_9 : decode cX12_into 9 = .ok (.aload_n 1, 1) := by decide +kernel
theorem dX12_into_10 : decode cX12_into 10 = .ok (.iload_n 2, 1) := by decide +kernel
theorem dX12_into_11 : decode cX12_into 11 = .ok (.aload_n 0, 1) := by decide +kernel
theorem dX12_into_12 : decode cX12_into 12 = .ok (.getfield 108, 3) := by decide +kernel
theorem dX12_into_15 : decode cX12_into 15 = .ok (.iastore, 1) := by decide +kernel
theorem dX12_into_16 : decode cX12_into 16 = .ok (.iload 5, 2) := by decide +kernel
theorem dX12_into_18 : decode cX12_into 18 = .ok (.ireturn, 1) := by decide +kernel
theorem dX12_takeLaw_0 : decode cX12_takeLaw 0 = .ok (.aload_n 0, 1) := by decide +kernel
theorem dX12_takeLaw_1 : decode cX12_takeLaw 1 = .ok (.iconst 1, 1) := by decide +kernel
theorem dX12_takeLaw_2 : decode cX12_takeLaw 2 = .ok (.putfield 114, 3) := by decide +kernel
theorem dX12_takeLaw_5 : decode cX12_takeLaw 5 = .ok (.aload_n 0, 1) := by decide +kernel
theorem dX12_takeLaw_6 : decode cX12_takeLaw 6 = .ok (.aload_n 0, 1) := by decide +kernel
theorem dX12_takeLaw_7 : decode cX12_takeLaw 7 = .ok (.getfield 26, 3) := by decide +kernel
theorem dX12_takeLaw_10 : decode cX12_takeLaw 10 = .ok (.iconst 0, 1) := by decide +kernel
theorem dX12_takeLaw_11 : decode cX12_takeLaw 11 = .ok (.iconst 0, 1) := by decide +kernel
theorem dX12_takeLaw_12 : decode cX12_takeLaw 12 = .ok (.bipush 99, 2) := by decide +kernel
theorem dX12_takeLaw_14 : decode cX12_takeLaw 14 = .ok (.invokevirtual 117, 3) := by decide +kernel
theorem dX12_takeLaw_17 : decode cX12_takeLaw 17 = .ok (.istore_n 1, 1) := by decide +kernel
theorem dX12_takeLaw_18 : decode cX12_takeLaw 18 = .ok (.iload_n 1, 1) := by decide +kernel
theorem dX12_takeLaw_19 : decode cX12_takeLaw 19 = .ok (.ifCond .le 7, 3) := by decide +kernel
theorem dX12_takeLaw_22 : decode cX12_takeLaw 22 = .ok (.iload_n 1, 1) := by decide +kernel
theorem dX12_takeLaw_23 : decode cX12_takeLaw 23 = .ok (.goto 15, 3) := by decide +kernel
theorem dX12_takeLaw_26 : decode cX12_takeLaw 26 = .ok (.aload_n 0, 1) := by decide +kernel
theorem dX12_takeLaw_27 : decode cX12_takeLaw 27 = .ok (.aload_n 0, 1) := by decide +kernel
theorem dX12_takeLaw_28 : decode cX12_takeLaw 28 = .ok (.getfield 26, 3) := by decide +kernel
theorem dX12_takeLaw_31 : decode cX12_takeLaw 31 = .ok (.iconst 1, 1) := by decide +kernel
theorem dX12_takeLaw_32 : decode cX12_takeLaw 32 = .ok (.iconst 0, 1) := by decide +kernel
theorem dX12_takeLaw_33 : decode cX12_takeLaw 33 = .ok (.bipush 99, 2) := by decide +kernel
theorem dX12_takeLaw_35 : decode cX12_takeLaw 35 = .ok (.invokevirtual 117, 3) := by decide +kernel
theorem dX12_takeLaw_38 : decode cX12_takeLaw 38 = .ok (.ireturn, 1) := by decide +kernel
theorem dX12_takeTable_0 : decode cX12_takeTable 0 = .ok (.aload_n 0, 1) := by decide +kernel
theorem dX12_takeTable_1 : decode cX12_takeTable 1 = .ok (.getfield 121, 3) := by decide +kernel
theorem dX12_takeTable_4 : decode cX12_takeTable 4 = .ok (.istore_n 1, 1) := by decide +kernel
theorem dX12_takeTable_5 : decode cX12_takeTable 5 = .ok (.aload_n 0, 1) := by decide +kernel
theorem dX12_takeTable_6 : decode cX12_takeTable 6 = .ok (.dup, 1) := by decide +kernel
theorem dX12_takeTable_7 : decode cX12_takeTable 7 = .ok (.getfield 121, 3) := by decide +kernel
theorem dX12_takeTable_10 : decode cX12_takeTable 10 = .ok (.iconst 1, 1) := by decide +kernel
theorem dX12_takeTable_11 : decode cX12_takeTable 11 = .ok (.iadd, 1) := by decide +kernel
end
section
-- the decode rows as printed for this claim (a starting text)
theorem dX12_takeTable_12 : decode cX12_takeTable 12 = .ok (.putfield 121, 3) := by decide +kernel
theorem dX12_takeTable_15 : decode cX12_takeTable 15 = .ok (.aload_n 0, 1) := by decide +kernel
theorem dX12_takeTable_16 : decode cX12_takeTable 16 = .ok (.aload_n 0, 1) := by decide +kernel
theorem dX12_takeTable_17 : decode cX12_takeTable 17 = .ok (.getfield 29, 3) := by decide +kernel
theorem dX12_takeTable_20 : decode cX12_takeTable 20 = .ok (.iload_n 1, 1) := by decide +kernel
theorem dX12_takeTable_21 : decode cX12_takeTable 21 = .ok (.iconst 1, 1) := by decide +kernel
theorem dX12_takeTable_22 : decode cX12_takeTable 22 = .ok (.bipush 12, 2) := by decide +kernel
theorem dX12_takeTable_24 : decode cX12_takeTable 24 = .ok (.invokevirtual 117, 3) := by decide +kernel
theorem dX12_takeTable_27 : decode cX12_takeTable 27 = .ok (.istore_n 2, 1) := by decide +kernel
theorem dX12_takeTable_28 : decode cX12_takeTable 28 = .ok (.iload_n 2, 1) := by decide +kernel
theorem dX12_takeTable_29 : decode cX12_takeTable 29 = .ok (.ifCond .le 7, 3) := by decide +kernel
theorem dX12_takeTable_32 : decode cX12_takeTable 32 = .ok (.iload_n 2, 1) := by decide +kernel
theorem dX12_takeTable_33 : decode cX12_takeTable 33 = .ok (.goto 19, 3) := by decide +kernel
theorem dX12_takeTable_36 : decode cX12_takeTable 36 = .ok (.aload_n 0, 1) := by decide +kernel
theorem dX12_takeTable_37 : decode cX12_takeTable 37 = .ok (.aload_n 0, 1) := by decide +kernel
theorem dX12_takeTable_38 : decode cX12_takeTable 38 = .ok (.getfield 32, 3) := by decide +kernel
theorem dX12_takeTable_41 : decode cX12_takeTable 41 = .ok (.iload_n 1, 1) := by decide +kernel
theorem dX12_takeTable_42 : decode cX12_takeTable 42 = .ok (.iconst 0, 1) := by decide +kernel
theorem dX12_takeTable_43 : decode cX12_takeTable 43 = .ok (.aload_n 0, 1) := by decide +kernel
theorem dX12_takeTable_44 : decode cX12_takeTable 44 = .ok (.getfield 29, 3) := by decide +kernel
theorem dX12_takeTable_47 : decode cX12_takeTable 47 = .ok (.iload_n 1, 1) := by decide +kernel
theorem dX12_takeTable_48 : decode cX12_takeTable 48 = .ok (.iaload, 1) := by decide +kernel
theorem dX12_takeTable_49 : decode cX12_takeTable 49 = .ok (.invokevirtual 117, 3) := by decide +kernel
theorem dX12_takeTable_52 : decode cX12_takeTable 52 = .ok (.ireturn, 1) := by decide +kernel
theorem dX12_isWayAlready_0 : decode cX12_isWayAlready 0 = .ok (.aload_n 0, 1) := by decide +kernel
theorem dX12_isWayAlready_1 : decode cX12_isWayAlready 1 = .ok (.getfield 35, 3) := by decide +kernel
theorem dX12_isWayAlready_4 : decode cX12_isWayAlready 4 = .ok (.iload_n 1, 1) := by decide +kernel
theorem dX12_isWayAlready_5 : decode cX12_isWayAlready 5 = .ok (.iaload, 1) := by decide +kernel
theorem dX12_isWayAlready_6 : decode cX12_isWayAlready 6 = .ok (.aload_n 0, 1) := by decide +kernel
theorem dX12_isWayAlready_7 : decode cX12_isWayAlready 7 = .ok (.getfield 38, 3) := by decide +kernel
theorem dX12_isWayAlready_10 : decode cX12_isWayAlready 10 = .ok (.iload_n 1, 1) := by decide +kernel
theorem dX12_isWayAlready_11 : decode cX12_isWayAlready 11 = .ok (.iaload, 1) := by decide +kernel
theorem dX12_isWayAlready_12 : decode cX12_isWayAlready 12 = .ok (.if_icmp .ne 7, 3) := by decide +kernel
theorem dX12_isWayAlready_15 : decode cX12_isWayAlready 15 = .ok (.iconst 1, 1) := by decide +kernel
theorem dX12_isWayAlready_16 : decode cX12_isWayAlready 16 = .ok (.goto 4, 3) := by decide +kernel
theorem dX12_isWayAlready_19 : decode cX12_isWayAlready 19 = .ok (.iconst 0, 1) := by decide +kernel
theorem dX12_isWayAlready_20 : decode cX12_isWayAlready 20 = .ok (.istore_n 2, 1) := by decide +kernel
theorem dX12_isWayAlready_21 : decode cX12_isWayAlready 21 = .ok (.iconst 0, 1) := by decide +kernel
theorem dX12_isWayAlready_22 : decode cX12_isWayAlready 22 = .ok (.istore_n 3, 1) := by decide +kernel
theorem dX12_isWayAlready_23 : decode cX12_isWayAlready 23 = .ok (.iload_n 3, 1) := by decide +kernel
theorem dX12_isWayAlready_24 : decode cX12_isWayAlready 24 = .ok (.iload_n 1, 1) := by decide +kernel
theorem dX12_isWayAlready_25 : decode cX12_isWayAlready 25 = .ok (.if_icmp .ge 103, 3) := by decide +kernel
theorem dX12_isWayAlready_28 : decode cX12_isWayAlready 28 = .ok (.aload_n 0, 1) := by decide +kernel
theorem dX12_isWayAlready_29 : decode cX12_isWayAlready 29 = .ok (.getfield 35, 3) := by decide +kernel
theorem dX12_isWayAlready_32 : decode cX12_isWayAlready 32 = .ok (.iload_n 3, 1) := by decide +kernel
theorem dX12_isWayAlready_33 : decode cX12_isWayAlready 33 = .ok (.iaload, 1) := by decide +kernel
theorem dX12_isWayAlready_34 : decode cX12_isWayAlready 34 = .ok (.aload_n 0, 1) := by decide +kernel
theorem dX12_isWayAlready_35 : decode cX12_isWayAlready 35 = .ok (.getfield 35, 3) := by decide +kernel
theorem dX12_isWayAlready_38 : decode cX12_isWayAlready 38 = .ok (.iload_n 1, 1) := by decide +kernel
theorem dX12_isWayAlready_39 : decode cX12_isWayAlready 39 = .ok (.iaload, 1) := by decide +kernel
theorem dX12_isWayAlready_40 : decode cX12_isWayAlready 40 = .ok (.if_icmp .ne 22, 3) := by decide +kernel
theorem dX12_isWayAlready_43 : decode cX12_isWayAlready 43 = .ok (.aload_n 0, 1) := by decide +kernel
theorem dX12_isWayAlready_44 : decode cX12_isWayAlready 44 = .ok (.getfield 38, 3) := by decide +kernel
theorem dX12_isWayAlready_47 : decode cX12_isWayAlready 47 = .ok (.iload_n 3, 1) := by decide +kernel
theorem dX12_isWayAlready_48 : decode cX12_isWayAlready 48 = .ok (.iaload, 1) := by decide +kernel
theorem dX12_isWayAlready_49 : decode cX12_isWayAlready 49 = .ok (.aload_n 0, 1) := by decide +kernel
theorem dX12_isWayAlready_50 : decode cX12_isWayAlready 50 = .ok (.getfield 38, 3) := by decide +kernel
theorem dX12_isWayAlready_53 : decode cX12_isWayAlready 53 = .ok (.iload_n 1, 1) := by decide +kernel
theorem dX12_isWayAlready_54 : decode cX12_isWayAlready 54 = .ok (.iaload, 1) := by decide +kernel
theorem dX12_isWayAlready_55 : decode cX12_isWayAlready 55 = .ok (.if_icmp .ne 7, 3) := by decide +kernel
theorem dX12_isWayAlready_58 : decode cX12_isWayAlready 58 = .ok (.iconst 1, 1) := by decide +kernel
theorem dX12_isWayAlready_59 : decode cX12_isWayAlready 59 = .ok (.goto 4, 3) := by decide +kernel
theorem dX12_isWayAlready_62 : decode cX12_isWayAlready 62 = .ok (.iconst 0, 1) := by decide +kernel
theorem dX12_isWayAlready_63 : decode cX12_isWayAlready 63 = .ok (.istore 4, 2) := by decide +kernel
theorem dX12_isWayAlready_65 : decode cX12_isWayAlready 65 = .ok (.aload_n 0, 1) := by decide +kernel
theorem dX12_isWayAlready_66 : decode cX12_isWayAlready 66 = .ok (.getfield 35, 3) := by decide +kernel
theorem dX12_isWayAlready_69 : decode cX12_isWayAlready 69 = .ok (.iload_n 3, 1) := by decide +kernel
theorem dX12_isWayAlready_70 : decode cX12_isWayAlready 70 = .ok (.iaload, 1) := by decide +kernel
theorem dX12_isWayAlready_71 : decode cX12_isWayAlready 71 = .ok (.aload_n 0, 1) := by decide +kernel
theorem dX12_isWayAlready_72 : decode cX12_isWayAlready 72 = .ok (.getfield 38, 3) := by decide +kernel
theorem dX12_isWayAlready_75 : decode cX12_isWayAlready 75 = .ok (.iload_n 1, 1) := by decide +kernel
theorem dX12_isWayAlready_76 : decode cX12_isWayAlready 76 = .ok (.iaload, 1) := by decide +kernel
theorem dX12_isWayAlready_77 : decode cX12_isWayAlready 77 = .ok (.if_icmp .ne 22, 3) := by decide +kernel
theorem dX12_isWayAlready_80 : decode cX12_isWayAlready 80 = .ok (.aload_n 0, 1) := by decide +kernel
theorem dX12_isWayAlready_81 : decode cX12_isWayAlready 81 = .ok (.getfield 38, 3) := by decide +kernel
theorem dX12_isWayAlready_84 : decode cX12_isWayAlready 84 = .ok (.iload_n 3, 1) := by decide +kernel
theorem dX12_isWayAlready_85 : decode cX12_isWayAlready 85 = .ok (.iaload, 1) := by decide +kernel
theorem dX12_isWayAlready_86 : decode cX12_isWayAlready 86 = .ok (.aload_n 0, 1) := by decide +kernel
theorem dX12_isWayAlready_87 : decode cX12_isWayAlready 87 = .ok (.getfield 35, 3) := by decide +kernel
theorem dX12_isWayAlready_90 : decode cX12_isWayAlready 90 = .ok (.iload_n 1, 1) := by decide +kernel
theorem dX12_isWayAlready_91 : decode cX12_isWayAlready 91 = .ok (.iaload, 1) := by decide +kernel
theorem dX12_isWayAlready_92 : decode cX12_isWayAlready 92 = .ok (.if_icmp .ne 7, 3) := by decide +kernel
theorem dX12_isWayAlready_95 : decode cX12_isWayAlready 95 = .ok (.iconst 1, 1) := by decide +kernel
theorem dX12_isWayAlready_96 : decode cX12_isWayAlready 96 = .ok (.goto 4, 3) := by decide +kernel
theorem dX12_isWayAlready_99 : decode cX12_isWayAlready 99 = .ok (.iconst 0, 1) := by decide +kernel
theorem dX12_isWayAlready_100 : decode cX12_isWayAlready 100 = .ok (.istore 5, 2) := by decide +kernel
theorem dX12_isWayAlready_102 : decode cX12_isWayAlready 102 = .ok (.iload_n 2, 1) := by decide +kernel
theorem dX12_isWayAlready_103 : decode cX12_isWayAlready 103 = .ok (.ifCond .ne 13, 3) := by decide +kernel
theorem dX12_isWayAlready_106 : decode cX12_isWayAlready 106 = .ok (.iload 4, 2) := by decide +kernel
theorem dX12_isWayAlready_108 : decode cX12_isWayAlready 108 = .ok (.ifCond .ne 8, 3) := by decide +kernel
theorem dX12_isWayAlready_111 : decode cX12_isWayAlready 111 = .ok (.iload 5, 2) := by decide +kernel
theorem dX12_isWayAlready_113 : decode cX12_isWayAlready 113 = .ok (.ifCond .eq 7, 3) := by decide +kernel
theorem dX12_isWayAlready_116 : decode cX12_isWayAlready 116 = .ok (.iconst 1, 1) := by decide +kernel
theorem dX12_isWayAlready_117 : decode cX12_isWayAlready 117 = .ok (.goto 4, 3) := by decide +kernel
theorem dX12_isWayAlready_120 : decode cX12_isWayAlready 120 = .ok (.iconst 0, 1) := by decide +kernel
theorem dX12_isWayAlready_121 : decode cX12_isWayAlready 121 = .ok (.istore_n 2, 1) := by decide +kernel
theorem dX12_isWayAlready_122 : decode cX12_isWayAlready 122 = .ok (.iinc 3 1, 3) := by decide +kernel
theorem dX12_isWayAlready_125 : decode cX12_isWayAlready 125 = .ok (.goto (-102), 3) := by decide +kernel
theorem dX12_isWayAlready_128 : decode cX12_isWayAlready 128 = .ok (.iload_n 2, 1) := by decide +kernel
theorem dX12_isWayAlready_129 : decode cX12_isWayAlready 129 = .ok (.ireturn, 1) := by decide +kernel
theorem dX12_takeWay_0 : decode cX12_takeWay 0 = .ok (.aload_n 0, 1) := by decide +kernel
theorem dX12_takeWay_1 : decode cX12_takeWay 1 = .ok (.getfield 124, 3) := by decide +kernel
theorem dX12_takeWay_4 : decode cX12_takeWay 4 = .ok (.istore_n 1, 1) := by decide +kernel
theorem dX12_takeWay_5 : decode cX12_takeWay 5 = .ok (.aload_n 0, 1) := by decide +kernel
theorem dX12_takeWay_6 : decode cX12_takeWay 6 = .ok (.dup, 1) := by decide +kernel
theorem dX12_takeWay_7 : decode cX12_takeWay 7 = .ok (.getfield 124, 3) := by decide +kernel
theorem dX12_takeWay_10 : decode cX12_takeWay 10 = .ok (.iconst 1, 1) := by decide +kernel
theorem dX12_takeWay_11 : decode cX12_takeWay 11 = .ok (.iadd, 1) := by decide +kernel
theorem dX12_takeWay_12 : decode cX12_takeWay 12 = .ok (.putfield 124, 3) := by decide +kernel
theorem dX12_takeWay_15 : decode cX12_takeWay 15 = .ok (.aload_n 0, 1) := by decide +kernel
theorem dX12_takeWay_16 : decode cX12_takeWay 16 = .ok (.aload_n 0, 1) := by decide +kernel
theorem dX12_takeWay_17 : decode cX12_takeWay 17 = .ok (.getfield 35, 3) := by decide +kernel
theorem dX12_takeWay_20 : decode cX12_takeWay 20 = .ok (.iload_n 1, 1) := by decide +kernel
theorem dX12_takeWay_21 : decode cX12_takeWay 21 = .ok (.iconst 0, 1) := by decide +kernel
theorem dX12_takeWay_22 : decode cX12_takeWay 22 = .ok (.aload_n 0, 1) := by decide +kernel
theorem dX12_takeWay_23 : decode cX12_takeWay 23 = .ok (.getfield 121, 3) := by decide +kernel
theorem dX12_takeWay_26 : decode cX12_takeWay 26 = .ok (.iconst 1, 1) := by decide +kernel
theorem dX12_takeWay_27 : decode cX12_takeWay 27 = .ok (.isub, 1) := by decide +kernel
theorem dX12_takeWay_28 : decode cX12_takeWay 28 = .ok (.invokevirtual 117, 3) := by decide +kernel
theorem dX12_takeWay_31 : decode cX12_takeWay 31 = .ok (.istore_n 2, 1) := by decide +kernel
theorem dX12_takeWay_32 : decode cX12_takeWay 32 = .ok (.iload_n 2, 1) := by decide +kernel
theorem dX12_takeWay_33 : decode cX12_takeWay 33 = .ok (.ifCond .le 7, 3) := by decide +kernel
theorem dX12_takeWay_36 : decode cX12_takeWay 36 = .ok (.iload_n 2, 1) := by decide +kernel
theorem dX12_takeWay_37 : decode cX12_takeWay 37 = .ok (.goto 19, 3) := by decide +kernel
theorem dX12_takeWay_40 : decode cX12_takeWay 40 = .ok (.aload_n 0, 1) := by decide +kernel
theorem dX12_takeWay_41 : decode cX12_takeWay 41 = .ok (.aload_n 0, 1) := by decide +kernel
theorem dX12_takeWay_42 : decode cX12_takeWay 42 = .ok (.getfield 38, 3) := by decide +kernel
theorem dX12_takeWay_45 : decode cX12_takeWay 45 = .ok (.iload_n 1, 1) := by decide +kernel
theorem dX12_takeWay_46 : decode cX12_takeWay 46 = .ok (.iconst 0, 1) := by decide +kernel
theorem dX12_takeWay_47 : decode cX12_takeWay 47 = .ok (.aload_n 0, 1) := by decide +kernel
theorem dX12_takeWay_48 : decode cX12_takeWay 48 = .ok (.getfield 121, 3) := by decide +kernel
theorem dX12_takeWay_51 : decode cX12_takeWay 51 = .ok (.iconst 1, 1) := by decide +kernel
theorem dX12_takeWay_52 : decode cX12_takeWay 52 = .ok (.isub, 1) := by decide +kernel
theorem dX12_takeWay_53 : decode cX12_takeWay 53 = .ok (.invokevirtual 117, 3) := by decide +kernel
theorem dX12_takeWay_56 : decode cX12_takeWay 56 = .ok (.istore_n 2, 1) := by decide +kernel
theorem dX12_takeWay_57 : decode cX12_takeWay 57 = .ok (.iload_n 2, 1) := by decide +kernel
theorem dX12_takeWay_58 : decode cX12_takeWay 58 = .ok (.ifCond .ne 23, 3) := by decide +kernel
theorem dX12_takeWay_61 : decode cX12_takeWay 61 = .ok (.aload_n 0, 1) := by decide +kernel
theorem dX12_takeWay_62 : decode cX12_takeWay 62 = .ok (.iload_n 1, 1) := by decide +kernel
theorem dX12_takeWay_63 : decode cX12_takeWay 63 = .ok (.invokevirtual 127, 3) := by decide +kernel
theorem dX12_takeWay_66 : decode cX12_takeWay 66 = .ok (.ifCond .eq 15, 3) := by decide +kernel
theorem dX12_takeWay_69 : decode cX12_takeWay 69 = .ok (.aload_n 0, 1) := by decide +kernel
theorem dX12_takeWay_70 : decode cX12_takeWay 70 = .ok (.iconst 4, 1) := by decide +kernel
theorem dX12_takeWay_71 : decode cX12_takeWay 71 = .ok (.aload_n 0, 1) := by decide +kernel
theorem dX12_takeWay_72 : decode cX12_takeWay 72 = .ok (.getfield 105, 3) := by decide +kernel
theorem dX12_takeWay_75 : decode cX12_takeWay 75 = .ok (.invokevirtual 101, 3) := by decide +kernel
theorem dX12_takeWay_78 : decode cX12_takeWay 78 = .ok (.goto 4, 3) := by decide +kernel
theorem dX12_takeWay_81 : decode cX12_takeWay 81 = .ok (.iload_n 2, 1) := by decide +kernel
theorem dX12_takeWay_82 : decode cX12_takeWay 82 = .ok (.ireturn, 1) := by decide +kernel
theorem dX12_takeClause_0 : decode cX12_takeClause 0 = .ok (.aload_n 0, 1) := by decide +kernel
theorem dX12_takeClause_1 : decode cX12_takeClause 1 = .ok (.invokevirtual 93, 3) := by decide +kernel
theorem dX12_takeClause_4 : decode cX12_takeClause 4 = .ok (.istore_n 1, 1) := by decide +kernel
theorem dX12_takeClause_5 : decode cX12_takeClause 5 = .ok (.iload_n 1, 1) := by decide +kernel
theorem dX12_takeClause_6 : decode cX12_takeClause 6 = .ok (.bipush 114, 2) := by decide +kernel
theorem dX12_takeClause_8 : decode cX12_takeClause 8 = .ok (.if_icmp .ne 7, 3) := by decide +kernel
theorem dX12_takeClause_11 : decode cX12_takeClause 11 = .ok (.iconst 0, 1) := by decide +kernel
theorem dX12_takeClause_12 : decode cX12_takeClause 12 = .ok (.goto 24, 3) := by decide +kernel
theorem dX12_takeClause_15 : decode cX12_takeClause 15 = .ok (.iload_n 1, 1) := by decide +kernel
theorem dX12_takeClause_16 : decode cX12_takeClause 16 = .ok (.bipush 116, 2) := by decide +kernel
theorem dX12_takeClause_18 : decode cX12_takeClause 18 = .ok (.if_icmp .ne 7, 3) := by decide +kernel
theorem dX12_takeClause_21 : decode cX12_takeClause 21 = .ok (.iconst 1, 1) := by decide +kernel
theorem dX12_takeClause_22 : decode cX12_takeClause 22 = .ok (.goto 14, 3) := by decide +kernel
theorem dX12_takeClause_25 : decode cX12_takeClause 25 = .ok (.iload_n 1, 1) := by decide +kernel
theorem dX12_takeClause_26 : decode cX12_takeClause 26 = .ok (.bipush 119, 2) := by decide +kernel
theorem dX12_takeClause_28 : decode cX12_takeClause 28 = .ok (.if_icmp .ne 7, 3) := by decide +kernel
theorem dX12_takeClause_31 : decode cX12_takeClause 31 = .ok (.iconst 2, 1) := by decide +kernel
theorem dX12_takeClause_32 : decode cX12_takeClause 32 = .ok (.goto 4, 3) := by decide +kernel
theorem dX12_takeClause_35 : decode cX12_takeClause 35 = .ok (.iconst (-1), 1) := by decide +kernel
theorem dX12_takeClause_36 : decode cX12_takeClause 36 = .ok (.istore_n 2, 1) := by decide +kernel
theorem dX12_takeClause_37 : decode cX12_takeClause 37 = .ok (.iload_n 2, 1) := by decide +kernel
theorem dX12_takeClause_38 : decode cX12_takeClause 38 = .ok (.ifCond .lt 14, 3) := by decide +kernel
theorem dX12_takeClause_41 : decode cX12_takeClause 41 = .ok (.iload_n 2, 1) := by decide +kernel
theorem dX12_takeClause_42 : decode cX12_takeClause 42 = .ok (.ifCond .le 20, 3) := by decide +kernel
theorem dX12_takeClause_45 : decode cX12_takeClause 45 = .ok (.aload_n 0, 1) := by decide +kernel
theorem dX12_takeClause_46 : decode cX12_takeClause 46 = .ok (.getfield 114, 3) := by decide +kernel
theorem dX12_takeClause_49 : decode cX12_takeClause 49 = .ok (.ifCond .ne 13, 3) := by decide +kernel
theorem dX12_takeClause_52 : decode cX12_takeClause 52 = .ok (.aload_n 0, 1) := by decide +kernel
theorem dX12_takeClause_53 : decode cX12_takeClause 53 = .ok (.iconst 1, 1) := by decide +kernel
theorem dX12_takeClause_54 : decode cX12_takeClause 54 = .ok (.aload_n 0, 1) := by decide +kernel
theorem dX12_takeClause_55 : decode cX12_takeClause 55 = .ok (.getfield 90, 3) := by decide +kernel
theorem dX12_takeClause_58 : decode cX12_takeClause 58 = .ok (.invokevirtual 101, 3) := by decide +kernel
theorem dX12_takeClause_61 : decode cX12_takeClause 61 = .ok (.ireturn, 1) := by decide +kernel
theorem dX12_takeClause_62 : decode cX12_takeClause 62 = .ok (.iload_n 2, 1) := by decide +kernel
theorem dX12_takeClause_63 : decode cX12_takeClause 63 = .ok (.ifCond .ne 10, 3) := by decide +kernel
theorem dX12_takeClause_66 : decode cX12_takeClause 66 = .ok (.aload_n 0, 1) := by decide +kernel
theorem dX12_takeClause_67 : decode cX12_takeClause 67 = .ok (.getfield 114, 3) := by decide +kernel
theorem dX12_takeClause_70 : decode cX12_takeClause 70 = .ok (.goto 39, 3) := by decide +kernel
theorem dX12_takeClause_73 : decode cX12_takeClause 73 = .ok (.iload_n 2, 1) := by decide +kernel
theorem dX12_takeClause_74 : decode cX12_takeClause 74 = .ok (.iconst 1, 1) := by decide +kernel
theorem dX12_takeClause_75 : decode cX12_takeClause 75 = .ok (.if_icmp .ne 20, 3) := by decide +kernel
theorem dX12_takeClause_78 : decode cX12_takeClause 78 = .ok (.aload_n 0, 1) := by decide +kernel
theorem dX12_takeClause_79 : decode cX12_takeClause 79 = .ok (.getfield 121, 3) := by decide +kernel
theorem dX12_takeClause_82 : decode cX12_takeClause 82 = .ok (.bipush 9, 2) := by decide +kernel
theorem dX12_takeClause_84 : decode cX12_takeClause 84 = .ok (.if_icmp .ne 7, 3) := by decide +kernel
theorem dX12_takeClause_87 : decode cX12_takeClause 87 = .ok (.iconst 1, 1) := by decide +kernel
theorem dX12_takeClause_88 : decode cX12_takeClause 88 = .ok (.goto 21, 3) := by decide +kernel
theorem dX12_takeClause_91 : decode cX12_takeClause 91 = .ok (.iconst 0, 1) := by decide +kernel
theorem dX12_takeClause_92 : decode cX12_takeClause 92 = .ok (.goto 17, 3) := by decide +kernel
theorem dX12_takeClause_95 : decode cX12_takeClause 95 = .ok (.aload_n 0, 1) := by decide +kernel
theorem dX12_takeClause_96 : decode cX12_takeClause 96 = .ok (.getfield 124, 3) := by decide +kernel
theorem dX12_takeClause_99 : decode cX12_takeClause 99 = .ok (.bipush 14, 2) := by decide +kernel
theorem dX12_takeClause_101 : decode cX12_takeClause 101 = .ok (.if_icmp .ne 7, 3) := by decide +kernel
theorem dX12_takeClause_104 : decode cX12_takeClause 104 = .ok (.iconst 1, 1) := by decide +kernel
theorem dX12_takeClause_105 : decode cX12_takeClause 105 = .ok (.goto 4, 3) := by decide +kernel
theorem dX12_takeClause_108 : decode cX12_takeClause 108 = .ok (.iconst 0, 1) := by decide +kernel
theorem dX12_takeClause_109 : decode cX12_takeClause 109 = .ok (.istore_n 3, 1) := by decide +kernel
theorem dX12_takeClause_110 : decode cX12_takeClause 110 = .ok (.iload_n 3, 1) := by decide +kernel
theorem dX12_takeClause_111 : decode cX12_takeClause 111 = .ok (.ifCond .eq 13, 3) := by decide +kernel
theorem dX12_takeClause_114 : decode cX12_takeClause 114 = .ok (.aload_n 0, 1) := by decide +kernel
theorem dX12_takeClause_115 : decode cX12_takeClause 115 = .ok (.iconst 3, 1) := by decide +kernel
theorem dX12_takeClause_116 : decode cX12_takeClause 116 = .ok (.aload_n 0, 1) := by decide +kernel
theorem dX12_takeClause_117 : decode cX12_takeClause 117 = .ok (.getfield 90, 3) := by decide +kernel
theorem dX12_takeClause_120 : decode cX12_takeClause 120 = .ok (.invokevirtual 101, 3) := by decide +kernel
theorem dX12_takeClause_123 : decode cX12_takeClause 123 = .ok (.ireturn, 1) := by decide +kernel
theorem dX12_takeClause_124 : decode cX12_takeClause 124 = .ok (.aload_n 0, 1) := by decide +kernel
theorem dX12_takeClause_125 : decode cX12_takeClause 125 = .ok (.dup, 1) := by decide +kernel
theorem dX12_takeClause_126 : decode cX12_takeClause 126 = .ok (.getfield 90, 3) := by decide +kernel
theorem dX12_takeClause_129 : decode cX12_takeClause 129 = .ok (.iconst 1, 1) := by decide +kernel
theorem dX12_takeClause_130 : decode cX12_takeClause 130 = .ok (.iadd, 1) := by decide +kernel
theorem dX12_takeClause_131 : decode cX12_takeClause 131 = .ok (.putfield 90, 3) := by decide +kernel
theorem dX12_takeClause_134 : decode cX12_takeClause 134 = .ok (.iload_n 2, 1) := by decide +kernel
theorem dX12_takeClause_135 : decode cX12_takeClause 135 = .ok (.ifCond .ne 10, 3) := by decide +kernel
theorem dX12_takeClause_138 : decode cX12_takeClause 138 = .ok (.aload_n 0, 1) := by decide +kernel
theorem dX12_takeClause_139 : decode cX12_takeClause 139 = .ok (.invokevirtual 131, 3) := by decide +kernel
theorem dX12_takeClause_142 : decode cX12_takeClause 142 = .ok (.goto 19, 3) := by decide +kernel
theorem dX12_takeClause_145 : decode cX12_takeClause 145 = .ok (.iload_n 2, 1) := by decide +kernel
theorem dX12_takeClause_146 : decode cX12_takeClause 146 = .ok (.iconst 1, 1) := by decide +kernel
theorem dX12_takeClause_147 : decode cX12_takeClause 147 = .ok (.if_icmp .ne 10, 3) := by decide +kernel
theorem dX12_takeClause_150 : decode cX12_takeClause 150 = .ok (.aload_n 0, 1) := by decide +kernel
theorem dX12_takeClause_151 : decode cX12_takeClause 151 = .ok (.invokevirtual 134, 3) := by decide +kernel
theorem dX12_takeClause_154 : decode cX12_takeClause 154 = .ok (.goto 7, 3) := by decide +kernel
theorem dX12_takeClause_157 : decode cX12_takeClause 157 = .ok (.aload_n 0, 1) := by decide +kernel
theorem dX12_takeClause_158 : decode cX12_takeClause 158 = .ok (.invokevirtual 137, 3) := by decide +kernel
theorem dX12_takeClause_161 : decode cX12_takeClause 161 = .ok (.istore 4, 2) := by decide +kernel
theorem dX12_takeClause_163 : decode cX12_takeClause 163 = .ok (.iload 4, 2) := by decide +kernel
theorem dX12_takeClause_165 : decode cX12_takeClause 165 = .ok (.ifCond .ne 22, 3) := by decide +kernel
theorem dX12_takeClause_168 : decode cX12_takeClause 168 = .ok (.aload_n 0, 1) := by decide +kernel
theorem dX12_takeClause_169 : decode cX12_takeClause 169 = .ok (.invokevirtual 93, 3) := by decide +kernel
theorem dX12_takeClause_172 : decode cX12_takeClause 172 = .ok (.bipush 59, 2) := by decide +kernel
theorem dX12_takeClause_174 : decode cX12_takeClause 174 = .ok (.if_icmp .eq 13, 3) := by decide +kernel
theorem dX12_takeClause_177 : decode cX12_takeClause 177 = .ok (.aload_n 0, 1) := by decide +kernel
theorem dX12_takeClause_178 : decode cX12_takeClause 178 = .ok (.iconst 1, 1) := by decide +kernel
theorem dX12_takeClause_179 : decode cX12_takeClause 179 = .ok (.aload_n 0, 1) := by decide +kernel
theorem dX12_takeClause_180 : decode cX12_takeClause 180 = .ok (.getfield 90, 3) := by decide +kernel
theorem dX12_takeClause_183 : decode cX12_takeClause 183 = .ok (.invokevirtual 101, 3) := by decide +kernel
theorem dX12_takeClause_186 : decode cX12_takeClause 186 = .ok (.ireturn, 1) := by decide +kernel
theorem dX12_takeClause_187 : decode cX12_takeClause 187 = .ok (.aload_n 0, 1) := by decide +kernel
theorem dX12_takeClause_188 : decode cX12_takeClause 188 = .ok (.dup, 1) := by decide +kernel
theorem dX12_takeClause_189 : decode cX12_takeClause 189 = .ok (.getfield 90, 3) := by decide +kernel
theorem dX12_takeClause_192 : decode cX12_takeClause 192 = .ok (.iconst 1, 1) := by decide +kernel
theorem dX12_takeClause_193 : decode cX12_takeClause 193 = .ok (.iadd, 1) := by decide +kernel
theorem dX12_takeClause_194 : decode cX12_takeClause 194 = .ok (.putfield 90, 3) := by decide +kernel
theorem dX12_takeClause_197 : decode cX12_takeClause 197 = .ok (.iload 4, 2) := by decide +kernel
theorem dX12_takeClause_199 : decode cX12_takeClause 199 = .ok (.ireturn, 1) := by decide +kernel
theorem dX12_takeRead_0 : decode cX12_takeRead 0 = .ok (.aload_n 0, 1) := by decide +kernel
theorem dX12_takeRead_1 : decode cX12_takeRead 1 = .ok (.aload_n 0, 1) := by decide +kernel
theorem dX12_takeRead_2 : decode cX12_takeRead 2 = .ok (.getfield 114, 3) := by decide +kernel
theorem dX12_takeRead_5 : decode cX12_takeRead 5 = .ok (.putfield 72, 3) := by decide +kernel
theorem dX12_takeRead_8 : decode cX12_takeRead 8 = .ok (.aload_n 0, 1) := by decide +kernel
theorem dX12_takeRead_9 : decode cX12_takeRead 9 = .ok (.aload_n 0, 1) := by decide +kernel
theorem dX12_takeRead_10 : decode cX12_takeRead 10 = .ok (.getfield 114, 3) := by decide +kernel
theorem dX12_takeRead_13 : decode cX12_takeRead 13 = .ok (.ifCond .eq 12, 3) := by decide +kernel
theorem dX12_takeRead_16 : decode cX12_takeRead 16 = .ok (.aload_n 0, 1) := by decide +kernel
theorem dX12_takeRead_17 : decode cX12_takeRead 17 = .ok (.getfield 26, 3) := by decide +kernel
theorem dX12_takeRead_20 : decode cX12_takeRead 20 = .ok (.iconst 0, 1) := by decide +kernel
theorem dX12_takeRead_21 : decode cX12_takeRead 21 = .ok (.iaload, 1) := by decide +kernel
theorem dX12_takeRead_22 : decode cX12_takeRead 22 = .ok (.goto 4, 3) := by decide +kernel
theorem dX12_takeRead_25 : decode cX12_takeRead 25 = .ok (.iconst 0, 1) := by decide +kernel
theorem dX12_takeRead_26 : decode cX12_takeRead 26 = .ok (.putfield 140, 3) := by decide +kernel
theorem dX12_takeRead_29 : decode cX12_takeRead 29 = .ok (.aload_n 0, 1) := by decide +kernel
theorem dX12_takeRead_30 : decode cX12_takeRead 30 = .ok (.aload_n 0, 1) := by decide +kernel
theorem dX12_takeRead_31 : decode cX12_takeRead 31 = .ok (.getfield 121, 3) := by decide +kernel
theorem dX12_takeRead_34 : decode cX12_takeRead 34 = .ok (.putfield 76, 3) := by decide +kernel
theorem dX12_takeRead_37 : decode cX12_takeRead 37 = .ok (.aload_n 0, 1) := by decide +kernel
theorem dX12_takeRead_38 : decode cX12_takeRead 38 = .ok (.aload_n 0, 1) := by decide +kernel
theorem dX12_takeRead_39 : decode cX12_takeRead 39 = .ok (.getfield 124, 3) := by decide +kernel
theorem dX12_takeRead_42 : decode cX12_takeRead 42 = .ok (.putfield 143, 3) := by decide +kernel
theorem dX12_takeRead_45 : decode cX12_takeRead 45 = .ok (.iconst 0, 1) := by decide +kernel
theorem dX12_takeRead_46 : decode cX12_takeRead 46 = .ok (.istore_n 1, 1) := by decide +kernel
theorem dX12_takeRead_47 : decode cX12_takeRead 47 = .ok (.iload_n 1, 1) := by decide +kernel
theorem dX12_takeRead_48 : decode cX12_takeRead 48 = .ok (.aload_n 0, 1) := by decide +kernel
theorem dX12_takeRead_49 : decode cX12_takeRead 49 = .ok (.getfield 143, 3) := by decide +kernel
theorem dX12_takeRead_52 : decode cX12_takeRead 52 = .ok (.if_icmp .ge 33, 3) := by decide +kernel
theorem dX12_takeRead_55 : decode cX12_takeRead 55 = .ok (.aload_n 0, 1) := by decide +kernel
theorem dX12_takeRead_56 : decode cX12_takeRead 56 = .ok (.getfield 7, 3) := by decide +kernel
theorem dX12_takeRead_59 : decode cX12_takeRead 59 = .ok (.iload_n 1, 1) := by decide +kernel
theorem dX12_takeRead_60 : decode cX12_takeRead 60 = .ok (.aload_n 0, 1) := by decide +kernel
theorem dX12_takeRead_61 : decode cX12_takeRead 61 = .ok (.getfield 35, 3) := by decide +kernel
theorem dX12_takeRead_64 : decode cX12_takeRead 64 = .ok (.iload_n 1, 1) := by decide +kernel
theorem dX12_takeRead_65 : decode cX12_takeRead 65 = .ok (.iaload, 1) := by decide +kernel
theorem dX12_takeRead_66 : decode cX12_takeRead 66 = .ok (.iastore, 1) := by decide +kernel
theorem dX12_takeRead_67 : decode cX12_takeRead 67 = .ok (.aload_n 0, 1) := by decide +kernel
theorem dX12_takeRead_68 : decode cX12_takeRead 68 = .ok (.getfield 13, 3) := by decide +kernel
theorem dX12_takeRead_71 : decode cX12_takeRead 71 = .ok (.iload_n 1, 1) := by decide +kernel
theorem dX12_takeRead_72 : decode cX12_takeRead 72 = .ok (.aload_n 0, 1) := by decide +kernel
theorem dX12_takeRead_73 : decode cX12_takeRead 73 = .ok (.getfield 38, 3) := by decide +kernel
theorem dX12_takeRead_76 : decode cX12_takeRead 76 = .ok (.iload_n 1, 1) := by decide +kernel
theorem dX12_takeRead_77 : decode cX12_takeRead 77 = .ok (.iaload, 1) := by decide +kernel
theorem dX12_takeRead_78 : decode cX12_takeRead 78 = .ok (.iastore, 1) := by decide +kernel
theorem dX12_takeRead_79 : decode cX12_takeRead 79 = .ok (.iinc 1 1, 3) := by decide +kernel
theorem dX12_takeRead_82 : decode cX12_takeRead 82 = .ok (.goto (-35), 3) := by decide +kernel
theorem dX12_takeRead_85 : decode cX12_takeRead 85 = .ok (.iconst 0, 1) := by decide +kernel
theorem dX12_takeRead_86 : decode cX12_takeRead 86 = .ok (.istore_n 1, 1) := by decide +kernel
theorem dX12_takeRead_87 : decode cX12_takeRead 87 = .ok (.iload_n 1, 1) := by decide +kernel
theorem dX12_takeRead_88 : decode cX12_takeRead 88 = .ok (.bipush 25, 2) := by decide +kernel
theorem dX12_takeRead_90 : decode cX12_takeRead 90 = .ok (.if_icmp .ge 16, 3) := by decide +kernel
theorem dX12_takeRead_93 : decode cX12_takeRead 93 = .ok (.aload_n 0, 1) := by decide +kernel
theorem dX12_takeRead_94 : decode cX12_takeRead 94 = .ok (.getfield 16, 3) := by decide +kernel
theorem dX12_takeRead_97 : decode cX12_takeRead 97 = .ok (.iload_n 1, 1) := by decide +kernel
theorem dX12_takeRead_98 : decode cX12_takeRead 98 = .ok (.iconst 0, 1) := by decide +kernel
theorem dX12_takeRead_99 : decode cX12_takeRead 99 = .ok (.iastore, 1) := by decide +kernel
theorem dX12_takeRead_100 : decode cX12_takeRead 100 = .ok (.iinc 1 1, 3) := by decide +kernel
theorem dX12_takeRead_103 : decode cX12_takeRead 103 = .ok (.goto (-16), 3) := by decide +kernel
theorem dX12_takeRead_106 : decode cX12_takeRead 106 = .ok (.iconst 0, 1) := by decide +kernel
theorem dX12_takeRead_107 : decode cX12_takeRead 107 = .ok (.istore_n 1, 1) := by decide +kernel
theorem dX12_takeRead_108 : decode cX12_takeRead 108 = .ok (.iload_n 1, 1) := by decide +kernel
theorem dX12_takeRead_109 : decode cX12_takeRead 109 = .ok (.aload_n 0, 1) := by decide +kernel
theorem dX12_takeRead_110 : decode cX12_takeRead 110 = .ok (.getfield 76, 3) := by decide +kernel
theorem dX12_takeRead_113 : decode cX12_takeRead 113 = .ok (.if_icmp .ge 36, 3) := by decide +kernel
theorem dX12_takeRead_116 : decode cX12_takeRead 116 = .ok (.aload_n 0, 1) := by decide +kernel
theorem dX12_takeRead_117 : decode cX12_takeRead 117 = .ok (.getfield 16, 3) := by decide +kernel
theorem dX12_takeRead_120 : decode cX12_takeRead 120 = .ok (.iload_n 1, 1) := by decide +kernel
theorem dX12_takeRead_121 : decode cX12_takeRead 121 = .ok (.aload_n 0, 1) := by decide +kernel
theorem dX12_takeRead_122 : decode cX12_takeRead 122 = .ok (.getfield 29, 3) := by decide +kernel
theorem dX12_takeRead_125 : decode cX12_takeRead 125 = .ok (.iload_n 1, 1) := by decide +kernel
theorem dX12_takeRead_126 : decode cX12_takeRead 126 = .ok (.iaload, 1) := by decide +kernel
theorem dX12_takeRead_127 : decode cX12_takeRead 127 = .ok (.iastore, 1) := by decide +kernel
theorem dX12_takeRead_128 : decode cX12_takeRead 128 = .ok (.aload_n 0, 1) := by decide +kernel
theorem dX12_takeRead_129 : decode cX12_takeRead 129 = .ok (.getfield 16, 3) := by decide +kernel
theorem dX12_takeRead_132 : decode cX12_takeRead 132 = .ok (.bipush 9, 2) := by decide +kernel
theorem dX12_takeRead_134 : decode cX12_takeRead 134 = .ok (.iload_n 1, 1) := by decide +kernel
theorem dX12_takeRead_135 : decode cX12_takeRead 135 = .ok (.iadd, 1) := by decide +kernel
theorem dX12_takeRead_136 : decode cX12_takeRead 136 = .ok (.aload_n 0, 1) := by decide +kernel
theorem dX12_takeRead_137 : decode cX12_takeRead 137 = .ok (.getfield 32, 3) := by decide +kernel
theorem dX12_takeRead_140 : decode cX12_takeRead 140 = .ok (.iload_n 1, 1) := by decide +kernel
theorem dX12_takeRead_141 : decode cX12_takeRead 141 = .ok (.iaload, 1) := by decide +kernel
theorem dX12_takeRead_142 : decode cX12_takeRead 142 = .ok (.iastore, 1) := by decide +kernel
theorem dX12_takeRead_143 : decode cX12_takeRead 143 = .ok (.iinc 1 1, 3) := by decide +kernel
theorem dX12_takeRead_146 : decode cX12_takeRead 146 = .ok (.goto (-38), 3) := by decide +kernel
theorem dX12_takeRead_149 : decode cX12_takeRead 149 = .ok (.aload_n 0, 1) := by decide +kernel
theorem dX12_takeRead_150 : decode cX12_takeRead 150 = .ok (.getfield 16, 3) := by decide +kernel
theorem dX12_takeRead_153 : decode cX12_takeRead 153 = .ok (.bipush 18, 2) := by decide +kernel
theorem dX12_takeRead_155 : decode cX12_takeRead 155 = .ok (.aload_n 0, 1) := by decide +kernel
theorem dX12_takeRead_156 : decode cX12_takeRead 156 = .ok (.getfield 114, 3) := by decide +kernel
theorem dX12_takeRead_159 : decode cX12_takeRead 159 = .ok (.ifCond .eq 12, 3) := by decide +kernel
theorem dX12_takeRead_162 : decode cX12_takeRead 162 = .ok (.aload_n 0, 1) := by decide +kernel
theorem dX12_takeRead_163 : decode cX12_takeRead 163 = .ok (.getfield 26, 3) := by decide +kernel
theorem dX12_takeRead_166 : decode cX12_takeRead 166 = .ok (.iconst 1, 1) := by decide +kernel
theorem dX12_takeRead_167 : decode cX12_takeRead 167 = .ok (.iaload, 1) := by decide +kernel
theorem dX12_takeRead_168 : decode cX12_takeRead 168 = .ok (.goto 4, 3) := by decide +kernel
theorem dX12_takeRead_171 : decode cX12_takeRead 171 = .ok (.iconst 0, 1) := by decide +kernel
theorem dX12_takeRead_172 : decode cX12_takeRead 172 = .ok (.iastore, 1) := by decide +kernel
theorem dX12_takeRead_173 : decode cX12_takeRead 173 = .ok (.return_, 1) := by decide +kernel
theorem dX12_realm_0 : decode cX12_realm 0 = .ok (.aload_n 0, 1) := by decide +kernel
theorem dX12_realm_1 : decode cX12_realm 1 = .ok (.iconst (-1), 1) := by decide +kernel
theorem dX12_realm_2 : decode cX12_realm 2 = .ok (.putfield 22, 3) := by decide +kernel
theorem dX12_realm_5 : decode cX12_realm 5 = .ok (.aload_n 0, 1) := by decide +kernel
theorem dX12_realm_6 : decode cX12_realm 6 = .ok (.iconst 0, 1) := by decide +kernel
theorem dX12_realm_7 : decode cX12_realm 7 = .ok (.putfield 90, 3) := by decide +kernel
theorem dX12_realm_10 : decode cX12_realm 10 = .ok (.aload_n 0, 1) := by decide +kernel
theorem dX12_realm_11 : decode cX12_realm 11 = .ok (.iconst 0, 1) := by decide +kernel
theorem dX12_realm_12 : decode cX12_realm 12 = .ok (.putfield 114, 3) := by decide +kernel
theorem dX12_realm_15 : decode cX12_realm 15 = .ok (.aload_n 0, 1) := by decide +kernel
theorem dX12_realm_16 : decode cX12_realm 16 = .ok (.iconst 0, 1) := by decide +kernel
theorem dX12_realm_17 : decode cX12_realm 17 = .ok (.putfield 121, 3) := by decide +kernel
theorem dX12_realm_20 : decode cX12_realm 20 = .ok (.aload_n 0, 1) := by decide +kernel
theorem dX12_realm_21 : decode cX12_realm 21 = .ok (.iconst 0, 1) := by decide +kernel
theorem dX12_realm_22 : decode cX12_realm 22 = .ok (.putfield 124, 3) := by decide +kernel
theorem dX12_realm_25 : decode cX12_realm 25 = .ok (.iconst 0, 1) := by decide +kernel
theorem dX12_realm_26 : decode cX12_realm 26 = .ok (.istore_n 1, 1) := by decide +kernel
theorem dX12_realm_27 : decode cX12_realm 27 = .ok (.iload_n 1, 1) := by decide +kernel
theorem dX12_realm_28 : decode cX12_realm 28 = .ok (.ifCond .ne 18, 3) := by decide +kernel
theorem dX12_realm_31 : decode cX12_realm 31 = .ok (.aload_n 0, 1) := by decide +kernel
theorem dX12_realm_32 : decode cX12_realm 32 = .ok (.invokevirtual 93, 3) := by decide +kernel
theorem dX12_realm_35 : decode cX12_realm 35 = .ok (.ifCond .lt 11, 3) := by decide +kernel
theorem dX12_realm_38 : decode cX12_realm 38 = .ok (.aload_n 0, 1) := by decide +kernel
theorem dX12_realm_39 : decode cX12_realm 39 = .ok (.invokevirtual 146, 3) := by decide +kernel
theorem dX12_realm_42 : decode cX12_realm 42 = .ok (.istore_n 1, 1) := by decide +kernel
theorem dX12_realm_43 : decode cX12_realm 43 = .ok (.goto (-16), 3) := by decide +kernel
theorem dX12_realm_46 : decode cX12_realm 46 = .ok (.aload_n 0, 1) := by decide +kernel
theorem dX12_realm_47 : decode cX12_realm 47 = .ok (.iconst 0, 1) := by decide +kernel
theorem dX12_realm_48 : decode cX12_realm 48 = .ok (.putfield 86, 3) := by decide +kernel
theorem dX12_realm_51 : decode cX12_realm 51 = .ok (.iload_n 1, 1) := by decide +kernel
theorem dX12_realm_52 : decode cX12_realm 52 = .ok (.ifCond .le 8, 3) := by decide +kernel
theorem dX12_realm_55 : decode cX12_realm 55 = .ok (.bipush (-10), 2) := by decide +kernel
theorem dX12_realm_57 : decode cX12_realm 57 = .ok (.iload_n 1, 1) := by decide +kernel
theorem dX12_realm_58 : decode cX12_realm 58 = .ok (.isub, 1) := by decide +kernel
theorem dX12_realm_59 : decode cX12_realm 59 = .ok (.ireturn, 1) := by decide +kernel
theorem dX12_realm_60 : decode cX12_realm 60 = .ok (.aload_n 0, 1) := by decide +kernel
theorem dX12_realm_61 : decode cX12_realm 61 = .ok (.invokevirtual 149, 3) := by decide +kernel
theorem dX12_realm_64 : decode cX12_realm 64 = .ok (.aload_n 0, 1) := by decide +kernel
theorem dX12_realm_65 : decode cX12_realm 65 = .ok (.iconst 0, 1) := by decide +kernel
theorem dX12_realm_66 : decode cX12_realm 66 = .ok (.putfield 152, 3) := by decide +kernel
theorem dX12_realm_69 : decode cX12_realm 69 = .ok (.aload_n 0, 1) := by decide +kernel
theorem dX12_realm_70 : decode cX12_realm 70 = .ok (.iconst 0, 1) := by decide +kernel
theorem dX12_realm_71 : decode cX12_realm 71 = .ok (.putfield 155, 3) := by decide +kernel
theorem dX12_realm_74 : decode cX12_realm 74 = .ok (.aload_n 0, 1) := by decide +kernel
theorem dX12_realm_75 : decode cX12_realm 75 = .ok (.iconst 0, 1) := by decide +kernel
theorem dX12_realm_76 : decode cX12_realm 76 = .ok (.putfield 158, 3) := by decide +kernel
theorem dX12_realm_79 : decode cX12_realm 79 = .ok (.aload_n 0, 1) := by decide +kernel
theorem dX12_realm_80 : decode cX12_realm 80 = .ok (.getfield 69, 3) := by decide +kernel
theorem dX12_realm_83 : decode cX12_realm 83 = .ok (.iconst 0, 1) := by decide +kernel
theorem dX12_realm_84 : decode cX12_realm 84 = .ok (.iconst 0, 1) := by decide +kernel
theorem dX12_realm_85 : decode cX12_realm 85 = .ok (.bastore, 1) := by decide +kernel
theorem dX12_realm_86 : decode cX12_realm 86 = .ok (.aload_n 0, 1) := by decide +kernel
theorem dX12_realm_87 : decode cX12_realm 87 = .ok (.getfield 69, 3) := by decide +kernel
theorem dX12_realm_90 : decode cX12_realm 90 = .ok (.iconst 1, 1) := by decide +kernel
theorem dX12_realm_91 : decode cX12_realm 91 = .ok (.iconst 0, 1) := by decide +kernel
theorem dX12_realm_92 : decode cX12_realm 92 = .ok (.bastore, 1) := by decide +kernel
theorem dX12_realm_93 : decode cX12_realm 93 = .ok (.aload_n 0, 1) := by decide +kernel
theorem dX12_realm_94 : decode cX12_realm 94 = .ok (.getfield 76, 3) := by decide +kernel
theorem dX12_realm_97 : decode cX12_realm 97 = .ok (.ireturn, 1) := by decide +kernel
theorem dX12_fault_0 : decode cX12_fault 0 = .ok (.aload_n 0, 1) := by decide +kernel
theorem dX12_fault_1 : decode cX12_fault 1 = .ok (.getfield 22, 3) := by decide +kernel
theorem dX12_fault_4 : decode cX12_fault 4 = .ok (.ireturn, 1) := by decide +kernel
theorem dX12_free_0 : decode cX12_free 0 = .ok (.aload_n 0, 1) := by decide +kernel
theorem dX12_free_1 : decode cX12_free 1 = .ok (.getfield 16, 3) := by decide +kernel
theorem dX12_free_4 : decode cX12_free 4 = .ok (.iload_n 1, 1) := by decide +kernel
theorem dX12_free_5 : decode cX12_free 5 = .ok (.iaload, 1) := by decide +kernel
theorem dX12_free_6 : decode cX12_free 6 = .ok (.aload_n 0, 1) := by decide +kernel
theorem dX12_free_7 : decode cX12_free 7 = .ok (.getfield 16, 3) := by decide +kernel
theorem dX12_free_10 : decode cX12_free 10 = .ok (.bipush 9, 2) := by decide +kernel
theorem dX12_free_12 : decode cX12_free 12 = .ok (.iload_n 1, 1) := by decide +kernel
theorem dX12_free_13 : decode cX12_free 13 = .ok (.iadd, 1) := by decide +kernel
theorem dX12_free_14 : decode cX12_free 14 = .ok (.iaload, 1) := by decide +kernel
theorem dX12_free_15 : decode cX12_free 15 = .ok (.isub, 1) := by decide +kernel
theorem dX12_free_16 : decode cX12_free 16 = .ok (.ireturn, 1) := by decide +kernel
theorem dX12_joined_0 : decode cX12_joined 0 = .ok (.iconst 0, 1) := by decide +kernel
theorem dX12_joined_1 : decode cX12_joined 1 = .ok (.istore_n 2, 1) := by decide +kernel
theorem dX12_joined_2 : decode cX12_joined 2 = .ok (.iconst 0, 1) := by decide +kernel
theorem dX12_joined_3 : decode cX12_joined 3 = .ok (.istore_n 3, 1) := by decide +kernel
theorem dX12_joined_4 : decode cX12_joined 4 = .ok (.iload_n 3, 1) := by decide +kernel
theorem dX12_joined_5 : decode cX12_joined 5 = .ok (.aload_n 0, 1) := by decide +kernel
theorem dX12_joined_6 : decode cX12_joined 6 = .ok (.getfield 143, 3) := by decide +kernel
theorem dX12_joined_9 : decode cX12_joined 9 = .ok (.if_icmp .ge 90, 3) := by decide +kernel
theorem dX12_joined_12 : decode cX12_joined 12 = .ok (.aload_n 0, 1) := by decide +kernel
theorem dX12_joined_13 : decode cX12_joined 13 = .ok (.getfield 16, 3) := by decide +kernel
theorem dX12_joined_16 : decode cX12_joined 16 = .ok (.bipush 19, 2) := by decide +kernel
theorem dX12_joined_18 : decode cX12_joined 18 = .ok (.iaload, 1) := by decide +kernel
theorem dX12_joined_19 : decode cX12_joined 19 = .ok (.iload_n 3, 1) := by decide +kernel
theorem dX12_joined_20 : decode cX12_joined 20 = .ok (.invokestatic 161, 3) := by decide +kernel
theorem dX12_joined_23 : decode cX12_joined 23 = .ok (.ifCond .ne 7, 3) := by decide +kernel
theorem dX12_joined_26 : decode cX12_joined 26 = .ok (.iconst 1, 1) := by decide +kernel
theorem dX12_joined_27 : decode cX12_joined 27 = .ok (.goto 4, 3) := by decide +kernel
theorem dX12_joined_30 : decode cX12_joined 30 = .ok (.iconst 0, 1) := by decide +kernel
theorem dX12_joined_31 : decode cX12_joined 31 = .ok (.istore 4, 2) := by decide +kernel
theorem dX12_joined_33 : decode cX12_joined 33 = .ok (.iload_n 2, 1) := by decide +kernel
theorem dX12_joined_34 : decode cX12_joined 34 = .ok (.iload 4, 2) := by decide +kernel
theorem dX12_joined_36 : decode cX12_joined 36 = .ok (.ifCond .eq 24, 3) := by decide +kernel
theorem dX12_joined_39 : decode cX12_joined 39 = .ok (.aload_n 0, 1) := by decide +kernel
theorem dX12_joined_40 : decode cX12_joined 40 = .ok (.getfield 7, 3) := by decide +kernel
theorem dX12_joined_43 : decode cX12_joined 43 = .ok (.iload_n 3, 1) := by decide +kernel
theorem dX12_joined_44 : decode cX12_joined 44 = .ok (.iaload, 1) := by decide +kernel
theorem dX12_joined_45 : decode cX12_joined 45 = .ok (.iload_n 1, 1) := by decide +kernel
theorem dX12_joined_46 : decode cX12_joined 46 = .ok (.if_icmp .ne 14, 3) := by decide +kernel
theorem dX12_joined_49 : decode cX12_joined 49 = .ok (.iconst 1, 1) := by decide +kernel
theorem dX12_joined_50 : decode cX12_joined 50 = .ok (.aload_n 0, 1) := by decide +kernel
theorem dX12_joined_51 : decode cX12_joined 51 = .ok (.getfield 13, 3) := by decide +kernel
theorem dX12_joined_54 : decode cX12_joined 54 = .ok (.iload_n 3, 1) := by decide +kernel
theorem dX12_joined_55 : decode cX12_joined 55 = .ok (.iaload, 1) := by decide +kernel
theorem dX12_joined_56 : decode cX12_joined 56 = .ok (.ishl, 1) := by decide +kernel
theorem dX12_joined_57 : decode cX12_joined 57 = .ok (.goto 4, 3) := by decide +kernel
theorem dX12_joined_60 : decode cX12_joined 60 = .ok (.iconst 0, 1) := by decide +kernel
theorem dX12_joined_61 : decode cX12_joined 61 = .ok (.ior, 1) := by decide +kernel
theorem dX12_joined_62 : decode cX12_joined 62 = .ok (.istore_n 2, 1) := by decide +kernel
theorem dX12_joined_63 : decode cX12_joined 63 = .ok (.iload_n 2, 1) := by decide +kernel
theorem dX12_joined_64 : decode cX12_joined 64 = .ok (.iload 4, 2) := by decide +kernel
theorem dX12_joined_66 : decode cX12_joined 66 = .ok (.ifCond .eq 24, 3) := by decide +kernel
theorem dX12_joined_69 : decode cX12_joined 69 = .ok (.aload_n 0, 1) := by decide +kernel
theorem dX12_joined_70 : decode cX12_joined 70 = .ok (.getfield 13, 3) := by decide +kernel
theorem dX12_joined_73 : decode cX12_joined 73 = .ok (.iload_n 3, 1) := by decide +kernel
theorem dX12_joined_74 : decode cX12_joined 74 = .ok (.iaload, 1) := by decide +kernel
theorem dX12_joined_75 : decode cX12_joined 75 = .ok (.iload_n 1, 1) := by decide +kernel
theorem dX12_joined_76 : decode cX12_joined 76 = .ok (.if_icmp .ne 14, 3) := by decide +kernel
theorem dX12_joined_79 : decode cX12_joined 79 = .ok (.iconst 1, 1) := by decide +kernel
theorem dX12_joined_80 : decode cX12_joined 80 = .ok (.aload_n 0, 1) := by decide +kernel
theorem dX12_joined_81 : decode cX12_joined 81 = .ok (.getfield 7, 3) := by decide +kernel
theorem dX12_joined_84 : decode cX12_joined 84 = .ok (.iload_n 3, 1) := by decide +kernel
theorem dX12_joined_85 : decode cX12_joined 85 = .ok (.iaload, 1) := by decide +kernel
theorem dX12_joined_86 : decode cX12_joined 86 = .ok (.ishl, 1) := by decide +kernel
theorem dX12_joined_87 : decode cX12_joined 87 = .ok (.goto 4, 3) := by decide +kernel
theorem dX12_joined_90 : decode cX12_joined 90 = .ok (.iconst 0, 1) := by decide +kernel
theorem dX12_joined_91 : decode cX12_joined 91 = .ok (.ior, 1) := by decide +kernel
theorem dX12_joined_92 : decode cX12_joined 92 = .ok (.istore_n 2, 1) := by decide +kernel
theorem dX12_joined_93 : decode cX12_joined 93 = .ok (.iinc 3 1, 3) := by decide +kernel
theorem dX12_joined_96 : decode cX12_joined 96 = .ok (.goto (-92), 3) := by decide +kernel
theorem dX12_joined_99 : decode cX12_joined 99 = .ok (.iload_n 2, 1) := by decide +kernel
theorem dX12_joined_100 : decode cX12_joined 100 = .ok (.ireturn, 1) := by decide +kernel
theorem dX12_findAway_0 : decode cX12_findAway 0 = .ok (.iconst 0, 1) := by decide +kernel
theorem dX12_findAway_1 : decode cX12_findAway 1 = .ok (.istore_n 1, 1) := by decide +kernel
theorem dX12_findAway_2 : decode cX12_findAway 2 = .ok (.iload_n 1, 1) := by decide +kernel
theorem dX12_findAway_3 : decode cX12_findAway 3 = .ok (.bipush 9, 2) := by decide +kernel
theorem dX12_findAway_5 : decode cX12_findAway 5 = .ok (.if_icmp .ge 39, 3) := by decide +kernel
theorem dX12_findAway_8 : decode cX12_findAway 8 = .ok (.aload_n 0, 1) := by decide +kernel
theorem dX12_findAway_9 : decode cX12_findAway 9 = .ok (.getfield 41, 3) := by decide +kernel
theorem dX12_findAway_12 : decode cX12_findAway 12 = .ok (.iload_n 1, 1) := by decide +kernel
theorem dX12_findAway_13 : decode cX12_findAway 13 = .ok (.iload_n 1, 1) := by decide +kernel
theorem dX12_findAway_14 : decode cX12_findAway 14 = .ok (.aload_n 0, 1) := by decide +kernel
theorem dX12_findAway_15 : decode cX12_findAway 15 = .ok (.getfield 76, 3) := by decide +kernel
theorem dX12_findAway_18 : decode cX12_findAway 18 = .ok (.if_icmp .ge 16, 3) := by decide +kernel
theorem dX12_findAway_21 : decode cX12_findAway 21 = .ok (.aload_n 0, 1) := by decide +kernel
theorem dX12_findAway_22 : decode cX12_findAway 22 = .ok (.iload_n 1, 1) := by decide +kernel
theorem dX12_findAway_23 : decode cX12_findAway 23 = .ok (.invokevirtual 165, 3) := by decide +kernel
theorem dX12_findAway_26 : decode cX12_findAway 26 = .ok (.iconst 1, 1) := by decide +kernel
theorem dX12_findAway_27 : decode cX12_findAway 27 = .ok (.if_icmp .le 7, 3) := by decide +kernel
theorem dX12_findAway_30 : decode cX12_findAway 30 = .ok (.iconst 0, 1) := by decide +kernel
theorem dX12_findAway_31 : decode cX12_findAway 31 = .ok (.goto 6, 3) := by decide +kernel
theorem dX12_findAway_34 : decode cX12_findAway 34 = .ok (.sipush 1000, 3) := by decide +kernel
theorem dX12_findAway_37 : decode cX12_findAway 37 = .ok (.iastore, 1) := by decide +kernel
theorem dX12_findAway_38 : decode cX12_findAway 38 = .ok (.iinc 1 1, 3) := by decide +kernel
theorem dX12_findAway_41 : decode cX12_findAway 41 = .ok (.goto (-39), 3) := by decide +kernel
theorem dX12_findAway_44 : decode cX12_findAway 44 = .ok (.iconst 1, 1) := by decide +kernel
theorem dX12_findAway_45 : decode cX12_findAway 45 = .ok (.istore_n 1, 1) := by decide +kernel
theorem dX12_findAway_46 : decode cX12_findAway 46 = .ok (.iload_n 1, 1) := by decide +kernel
theorem dX12_findAway_47 : decode cX12_findAway 47 = .ok (.bipush 9, 2) := by decide +kernel
theorem dX12_findAway_49 : decode cX12_findAway 49 = .ok (.if_icmp .ge 97, 3) := by decide +kernel
theorem dX12_findAway_52 : decode cX12_findAway 52 = .ok (.iconst 0, 1) := by decide +kernel
theorem dX12_findAway_53 : decode cX12_findAway 53 = .ok (.istore_n 2, 1) := by decide +kernel
theorem dX12_findAway_54 : decode cX12_findAway 54 = .ok (.iload_n 2, 1) := by decide +kernel
theorem dX12_findAway_55 : decode cX12_findAway 55 = .ok (.aload_n 0, 1) := by decide +kernel
theorem dX12_findAway_56 : decode cX12_findAway 56 = .ok (.getfield 76, 3) := by decide +kernel
theorem dX12_findAway_59 : decode cX12_findAway 59 = .ok (.if_icmp .ge 81, 3) := by decide +kernel
theorem dX12_findAway_62 : decode cX12_findAway 62 = .ok (.aload_n 0, 1) := by decide +kernel
theorem dX12_findAway_63 : decode cX12_findAway 63 = .ok (.iload_n 2, 1) := by decide +kernel
theorem dX12_findAway_64 : decode cX12_findAway 64 = .ok (.invokevirtual 169, 3) := by decide +kernel
theorem dX12_findAway_67 : decode cX12_findAway 67 = .ok (.istore_n 3, 1) := by decide +kernel
theorem dX12_findAway_68 : decode cX12_findAway 68 = .ok (.iconst 0, 1) := by decide +kernel
theorem dX12_findAway_69 : decode cX12_findAway 69 = .ok (.istore 4, 2) := by decide +kernel
theorem dX12_findAway_71 : decode cX12_findAway 71 = .ok (.iload 4, 2) := by decide +kernel
theorem dX12_findAway_73 : decode cX12_findAway 73 = .ok (.aload_n 0, 1) := by decide +kernel
theorem dX12_findAway_74 : decode cX12_findAway 74 = .ok (.getfield 76, 3) := by decide +kernel
theorem dX12_findAway_77 : decode cX12_findAway 77 = .ok (.if_icmp .ge 57, 3) := by decide +kernel
theorem dX12_findAway_80 : decode cX12_findAway 80 = .ok (.aload_n 0, 1) := by decide +kernel
theorem dX12_findAway_81 : decode cX12_findAway 81 = .ok (.getfield 41, 3) := by decide +kernel
theorem dX12_findAway_84 : decode cX12_findAway 84 = .ok (.iload_n 2, 1) := by decide +kernel
theorem dX12_findAway_85 : decode cX12_findAway 85 = .ok (.aload_n 0, 1) := by decide +kernel
theorem dX12_findAway_86 : decode cX12_findAway 86 = .ok (.getfield 41, 3) := by decide +kernel
theorem dX12_findAway_89 : decode cX12_findAway 89 = .ok (.iload_n 2, 1) := by decide +kernel
theorem dX12_findAway_90 : decode cX12_findAway 90 = .ok (.iaload, 1) := by decide +kernel
theorem dX12_findAway_91 : decode cX12_findAway 91 = .ok (.iload_n 1, 1) := by decide +kernel
theorem dX12_findAway_92 : decode cX12_findAway 92 = .ok (.if_icmp .le 29, 3) := by decide +kernel
theorem dX12_findAway_95 : decode cX12_findAway 95 = .ok (.iload_n 3, 1) := by decide +kernel
theorem dX12_findAway_96 : decode cX12_findAway 96 = .ok (.iload 4, 2) := by decide +kernel
theorem dX12_findAway_98 : decode cX12_findAway 98 = .ok (.invokestatic 161, 3) := by decide +kernel
theorem dX12_findAway_101 : decode cX12_findAway 101 = .ok (.ifCond .eq 20, 3) := by decide +kernel
theorem dX12_findAway_104 : decode cX12_findAway 104 = .ok (.aload_n 0, 1) := by decide +kernel
theorem dX12_findAway_105 : decode cX12_findAway 105 = .ok (.getfield 41, 3) := by decide +kernel
theorem dX12_findAway_108 : decode cX12_findAway 108 = .ok (.iload 4, 2) := by decide +kernel
theorem dX12_findAway_110 : decode cX12_findAway 110 = .ok (.iaload, 1) := by decide +kernel
theorem dX12_findAway_111 : decode cX12_findAway 111 = .ok (.iload_n 1, 1) := by decide +kernel
theorem dX12_findAway_112 : decode cX12_findAway 112 = .ok (.iconst 1, 1) := by decide +kernel
theorem dX12_findAway_113 : decode cX12_findAway 113 = .ok (.isub, 1) := by decide +kernel
theorem dX12_findAway_114 : decode cX12_findAway 114 = .ok (.if_icmp .ne 7, 3) := by decide +kernel
theorem dX12_findAway_117 : decode cX12_findAway 117 = .ok (.iload_n 1, 1) := by decide +kernel
theorem dX12_findAway_118 : decode cX12_findAway 118 = .ok (.goto 9, 3) := by decide +kernel
theorem dX12_findAway_121 : decode cX12_findAway 121 = .ok (.aload_n 0, 1) := by decide +kernel
theorem dX12_findAway_122 : decode cX12_findAway 122 = .ok (.getfield 41, 3) := by decide +kernel
theorem dX12_findAway_125 : decode cX12_findAway 125 = .ok (.iload_n 2, 1) := by decide +kernel
theorem dX12_findAway_126 : decode cX12_findAway 126 = .ok (.iaload, 1) := by decide +kernel
theorem dX12_findAway_127 : decode cX12_findAway 127 = .ok (.iastore, 1) := by decide +kernel
theorem dX12_findAway_128 : decode cX12_findAway 128 = .ok (.iinc 4 1, 3) := by decide +kernel
theorem dX12_findAway_131 : decode cX12_findAway 131 = .ok (.goto (-60), 3) := by decide +kernel
theorem dX12_findAway_134 : decode cX12_findAway 134 = .ok (.iinc 2 1, 3) := by decide +kernel
theorem dX12_findAway_137 : decode cX12_findAway 137 = .ok (.goto (-83), 3) := by decide +kernel
theorem dX12_findAway_140 : decode cX12_findAway 140 = .ok (.iinc 1 1, 3) := by decide +kernel
theorem dX12_findAway_143 : decode cX12_findAway 143 = .ok (.goto (-97), 3) := by decide +kernel
theorem dX12_findAway_146 : decode cX12_findAway 146 = .ok (.return_, 1) := by decide +kernel
theorem dX12_nextOf_0 : decode cX12_nextOf 0 = .ok (.aload_n 0, 1) := by decide +kernel
theorem dX12_nextOf_1 : decode cX12_nextOf 1 = .ok (.iload_n 1, 1) := by decide +kernel
theorem dX12_nextOf_2 : decode cX12_nextOf 2 = .ok (.invokevirtual 169, 3) := by decide +kernel
theorem dX12_nextOf_5 : decode cX12_nextOf 5 = .ok (.istore_n 2, 1) := by decide +kernel
theorem dX12_nextOf_6 : decode cX12_nextOf 6 = .ok (.iconst 0, 1) := by decide +kernel
theorem dX12_nextOf_7 : decode cX12_nextOf 7 = .ok (.istore_n 3, 1) := by decide +kernel
theorem dX12_nextOf_8 : decode cX12_nextOf 8 = .ok (.iload_n 3, 1) := by decide +kernel
theorem dX12_nextOf_9 : decode cX12_nextOf 9 = .ok (.aload_n 0, 1) := by decide +kernel
theorem dX12_nextOf_10 : decode cX12_nextOf 10 = .ok (.getfield 76, 3) := by decide +kernel
theorem dX12_nextOf_13 : decode cX12_nextOf 13 = .ok (.if_icmp .ge 36, 3) := by decide +kernel
theorem dX12_nextOf_16 : decode cX12_nextOf 16 = .ok (.iload_n 2, 1) := by decide +kernel
theorem dX12_nextOf_17 : decode cX12_nextOf 17 = .ok (.iload_n 3, 1) := by decide +kernel
theorem dX12_nextOf_18 : decode cX12_nextOf 18 = .ok (.invokestatic 161, 3) := by decide +kernel
theorem dX12_nextOf_21 : decode cX12_nextOf 21 = .ok (.ifCond .eq 22, 3) := by decide +kernel
theorem dX12_nextOf_24 : decode cX12_nextOf 24 = .ok (.aload_n 0, 1) := by decide +kernel
theorem dX12_nextOf_25 : decode cX12_nextOf 25 = .ok (.getfield 41, 3) := by decide +kernel
theorem dX12_nextOf_28 : decode cX12_nextOf 28 = .ok (.iload_n 3, 1) := by decide +kernel
theorem dX12_nextOf_29 : decode cX12_nextOf 29 = .ok (.iaload, 1) := by decide +kernel
theorem dX12_nextOf_30 : decode cX12_nextOf 30 = .ok (.aload_n 0, 1) := by decide +kernel
theorem dX12_nextOf_31 : decode cX12_nextOf 31 = .ok (.getfield 41, 3) := by decide +kernel
theorem dX12_nextOf_34 : decode cX12_nextOf 34 = .ok (.iload_n 1, 1) := by decide +kernel
theorem dX12_nextOf_35 : decode cX12_nextOf 35 = .ok (.iaload, 1) := by decide +kernel
theorem dX12_nextOf_36 : decode cX12_nextOf 36 = .ok (.iconst 1, 1) := by decide +kernel
theorem dX12_nextOf_37 : decode cX12_nextOf 37 = .ok (.isub, 1) := by decide +kernel
theorem dX12_nextOf_38 : decode cX12_nextOf 38 = .ok (.if_icmp .ne 5, 3) := by decide +kernel
theorem dX12_nextOf_41 : decode cX12_nextOf 41 = .ok (.iload_n 3, 1) := by decide +kernel
theorem dX12_nextOf_42 : decode cX12_nextOf 42 = .ok (.ireturn, 1) := by decide +kernel
theorem dX12_nextOf_43 : decode cX12_nextOf 43 = .ok (.iinc 3 1, 3) := by decide +kernel
theorem dX12_nextOf_46 : decode cX12_nextOf 46 = .ok (.goto (-38), 3) := by decide +kernel
theorem dX12_nextOf_49 : decode cX12_nextOf 49 = .ok (.iconst (-1), 1) := by decide +kernel
theorem dX12_nextOf_50 : decode cX12_nextOf 50 = .ok (.ireturn, 1) := by decide +kernel
theorem dX12_lastOf_0 : decode cX12_lastOf 0 = .ok (.iload_n 1, 1) := by decide +kernel
theorem dX12_lastOf_1 : decode cX12_lastOf 1 = .ok (.istore_n 2, 1) := by decide +kernel
theorem dX12_lastOf_2 : decode cX12_lastOf 2 = .ok (.aload_n 0, 1) := by decide +kernel
theorem dX12_lastOf_3 : decode cX12_lastOf 3 = .ok (.getfield 41, 3) := by decide +kernel
theorem dX12_lastOf_6 : decode cX12_lastOf 6 = .ok (.iload_n 2, 1) := by decide +kernel
theorem dX12_lastOf_7 : decode cX12_lastOf 7 = .ok (.iaload, 1) := by decide +kernel
theorem dX12_lastOf_8 : decode cX12_lastOf 8 = .ok (.ifCond .le 12, 3) := by decide +kernel
theorem dX12_lastOf_11 : decode cX12_lastOf 11 = .ok (.aload_n 0, 1) := by decide +kernel
theorem dX12_lastOf_12 : decode cX12_lastOf 12 = .ok (.iload_n 2, 1) := by decide +kernel
theorem dX12_lastOf_13 : decode cX12_lastOf 13 = .ok (.invokevirtual 172, 3) := by decide +kernel
theorem dX12_lastOf_16 : decode cX12_lastOf 16 = .ok (.istore_n 2, 1) := by decide +kernel
theorem dX12_lastOf_17 : decode cX12_lastOf 17 = .ok (.goto (-15), 3) := by decide +kernel
theorem dX12_lastOf_20 : decode cX12_lastOf 20 = .ok (.iload_n 2, 1) := by decide +kernel
theorem dX12_lastOf_21 : decode cX12_lastOf 21 = .ok (.ireturn, 1) := by decide +kernel
theorem dX12_allSit_0 : decode cX12_allSit 0 = .ok (.iconst 0, 1) := by decide +kernel
theorem dX12_allSit_1 : decode cX12_allSit 1 = .ok (.istore_n 1, 1) := by decide +kernel
theorem dX12_allSit_2 : decode cX12_allSit 2 = .ok (.iconst 0, 1) := by decide +kernel
theorem dX12_allSit_3 : decode cX12_allSit 3 = .ok (.istore_n 2, 1) := by decide +kernel
theorem dX12_allSit_4 : decode cX12_allSit 4 = .ok (.iload_n 2, 1) := by decide +kernel
theorem dX12_allSit_5 : decode cX12_allSit 5 = .ok (.aload_n 0, 1) := by decide +kernel
theorem dX12_allSit_6 : decode cX12_allSit 6 = .ok (.getfield 76, 3) := by decide +kernel
theorem dX12_allSit_9 : decode cX12_allSit 9 = .ok (.if_icmp .ge 21, 3) := by decide +kernel
theorem dX12_allSit_12 : decode cX12_allSit 12 = .ok (.iload_n 1, 1) := by decide +kernel
theorem dX12_allSit_13 : decode cX12_allSit 13 = .ok (.aload_n 0, 1) := by decide +kernel
theorem dX12_allSit_14 : decode cX12_allSit 14 = .ok (.getfield 16, 3) := by decide +kernel
theorem dX12_allSit_17 : decode cX12_allSit 17 = .ok (.bipush 9, 2) := by decide +kernel
theorem dX12_allSit_19 : decode cX12_allSit 19 = .ok (.iload_n 2, 1) := by decide +kernel
theorem dX12_allSit_20 : decode cX12_allSit 20 = .ok (.iadd, 1) := by decide +kernel
theorem dX12_allSit_21 : decode cX12_allSit 21 = .ok (.iaload, 1) := by decide +kernel
theorem dX12_allSit_22 : decode cX12_allSit 22 = .ok (.iadd, 1) := by decide +kernel
theorem dX12_allSit_23 : decode cX12_allSit 23 = .ok (.istore_n 1, 1) := by decide +kernel
theorem dX12_allSit_24 : decode cX12_allSit 24 = .ok (.iinc 2 1, 3) := by decide +kernel
theorem dX12_allSit_27 : decode cX12_allSit 27 = .ok (.goto (-23), 3) := by decide +kernel
theorem dX12_allSit_30 : decode cX12_allSit 30 = .ok (.iload_n 1, 1) := by decide +kernel
theorem dX12_allSit_31 : decode cX12_allSit 31 = .ok (.ireturn, 1) := by decide +kernel
theorem dX12_inspected_0 : decode cX12_inspected 0 = .ok (.iconst 0, 1) := by decide +kernel
theorem dX12_inspected_1 : decode cX12_inspected 1 = .ok (.istore_n 1, 1) := by decide +kernel
theorem dX12_inspected_2 : decode cX12_inspected 2 = .ok (.iconst 0, 1) := by decide +kernel
theorem dX12_inspected_3 : decode cX12_inspected 3 = .ok (.istore_n 2, 1) := by decide +kernel
theorem dX12_inspected_4 : decode cX12_inspected 4 = .ok (.iload_n 2, 1) := by decide +kernel
theorem dX12_inspected_5 : decode cX12_inspected 5 = .ok (.aload_n 0, 1) := by decide +kernel
theorem dX12_inspected_6 : decode cX12_inspected 6 = .ok (.getfield 76, 3) := by decide +kernel
theorem dX12_inspected_9 : decode cX12_inspected 9 = .ok (.if_icmp .ge 28, 3) := by decide +kernel
theorem dX12_inspected_12 : decode cX12_inspected 12 = .ok (.iload_n 1, 1) := by decide +kernel
theorem dX12_inspected_13 : decode cX12_inspected 13 = .ok (.aload_n 0, 1) := by decide +kernel
theorem dX12_inspected_14 : decode cX12_inspected 14 = .ok (.iload_n 2, 1) := by decide +kernel
theorem dX12_inspected_15 : decode cX12_inspected 15 = .ok (.invokevirtual 165, 3) := by decide +kernel
theorem dX12_inspected_18 : decode cX12_inspected 18 = .ok (.iconst 1, 1) := by decide +kernel
theorem dX12_inspected_19 : decode cX12_inspected 19 = .ok (.if_icmp .ge 9, 3) := by decide +kernel
theorem dX12_inspected_22 : decode cX12_inspected 22 = .ok (.iconst 1, 1) := by decide +kernel
theorem dX12_inspected_23 : decode cX12_inspected 23 = .ok (.iload_n 2, 1) := by decide +kernel
theorem dX12_inspected_24 : decode cX12_inspected 24 = .ok (.ishl, 1) := by decide +kernel
theorem dX12_inspected_25 : decode cX12_inspected 25 = .ok (.goto 4, 3) := by decide +kernel
theorem dX12_inspected_28 : decode cX12_inspected 28 = .ok (.iconst 0, 1) := by decide +kernel
theorem dX12_inspected_29 : decode cX12_inspected 29 = .ok (.ior, 1) := by decide +kernel
theorem dX12_inspected_30 : decode cX12_inspected 30 = .ok (.istore_n 1, 1) := by decide +kernel
theorem dX12_inspected_31 : decode cX12_inspected 31 = .ok (.iinc 2 1, 3) := by decide +kernel
theorem dX12_inspected_34 : decode cX12_inspected 34 = .ok (.goto (-30), 3) := by decide +kernel
theorem dX12_inspected_37 : decode cX12_inspected 37 = .ok (.iload_n 1, 1) := by decide +kernel
theorem dX12_inspected_38 : decode cX12_inspected 38 = .ok (.ireturn, 1) := by decide +kernel
theorem dX12_emergency_0 : decode cX12_emergency 0 = .ok (.aload_n 0, 1) := by decide +kernel
theorem dX12_emergency_1 : decode cX12_emergency 1 = .ok (.invokevirtual 175, 3) := by decide +kernel
theorem dX12_emergency_4 : decode cX12_emergency 4 = .ok (.iconst 0, 1) := by decide +kernel
theorem dX12_emergency_5 : decode cX12_emergency 5 = .ok (.istore_n 1, 1) := by decide +kernel
theorem dX12_emergency_6 : decode cX12_emergency 6 = .ok (.iconst 0, 1) := by decide +kernel
theorem dX12_emergency_7 : decode cX12_emergency 7 = .ok (.istore_n 2, 1) := by decide +kernel
theorem dX12_emergency_8 : decode cX12_emergency 8 = .ok (.iload_n 2, 1) := by decide +kernel
theorem dX12_emergency_9 : decode cX12_emergency 9 = .ok (.aload_n 0, 1) := by decide +kernel
theorem dX12_emergency_10 : decode cX12_emergency 10 = .ok (.getfield 76, 3) := by decide +kernel
theorem dX12_emergency_13 : decode cX12_emergency 13 = .ok (.if_icmp .ge 31, 3) := by decide +kernel
theorem dX12_emergency_16 : decode cX12_emergency 16 = .ok (.iload_n 1, 1) := by decide +kernel
theorem dX12_emergency_17 : decode cX12_emergency 17 = .ok (.aload_n 0, 1) := by decide +kernel
theorem dX12_emergency_18 : decode cX12_emergency 18 = .ok (.getfield 41, 3) := by decide +kernel
theorem dX12_emergency_21 : decode cX12_emergency 21 = .ok (.iload_n 2, 1) := by decide +kernel
theorem dX12_emergency_22 : decode cX12_emergency 22 = .ok (.iaload, 1) := by decide +kernel
theorem dX12_emergency_23 : decode cX12_emergency 23 = .ok (.sipush 1000, 3) := by decide +kernel
theorem dX12_emergency_26 : decode cX12_emergency 26 = .ok (.if_icmp .ne 9, 3) := by decide +kernel
theorem dX12_emergency_29 : decode cX12_emergency 29 = .ok (.iconst 1, 1) := by decide +kernel
theorem dX12_emergency_30 : decode cX12_emergency 30 = .ok (.iload_n 2, 1) := by decide +kernel
theorem dX12_emergency_31 : decode cX12_emergency 31 = .ok (.ishl, 1) := by decide +kernel
theorem dX12_emergency_32 : decode cX12_emergency 32 = .ok (.goto 4, 3) := by decide +kernel
theorem dX12_emergency_35 : decode cX12_emergency 35 = .ok (.iconst 0, 1) := by decide +kernel
theorem dX12_emergency_36 : decode cX12_emergency 36 = .ok (.ior, 1) := by decide +kernel
theorem dX12_emergency_37 : decode cX12_emergency 37 = .ok (.istore_n 1, 1) := by decide +kernel
theorem dX12_emergency_38 : decode cX12_emergency 38 = .ok (.iinc 2 1, 3) := by decide +kernel
theorem dX12_emergency_41 : decode cX12_emergency 41 = .ok (.goto (-33), 3) := by decide +kernel
theorem dX12_emergency_44 : decode cX12_emergency 44 = .ok (.iload_n 1, 1) := by decide +kernel
theorem dX12_emergency_45 : decode cX12_emergency 45 = .ok (.ireturn, 1) := by decide +kernel
theorem dX12_told_0 : decode cX12_told 0 = .ok (.iload_n 1, 1) := by decide +kernel
theorem dX12_told_1 : decode cX12_told 1 = .ok (.tableswitch 189 0 16 #[83, 88, 96, 101, 106, 111, 116, 124, 132, 140, 148, 156, 161, 166, 174, 179, 184], 83) := by decide +kernel
theorem dX12_told_84 : decode cX12_told 84 = .ok (.aload_n 0, 1) := by decide +kernel
theorem dX12_told_85 : decode cX12_told 85 = .ok (.getfield 140, 3) := by decide +kernel
theorem dX12_told_88 : decode cX12_told 88 = .ok (.ireturn, 1) := by decide +kernel
theorem dX12_told_89 : decode cX12_told 89 = .ok (.aload_n 0, 1) := by decide +kernel
theorem dX12_told_90 : decode cX12_told 90 = .ok (.getfield 16, 3) := by decide +kernel
theorem dX12_told_93 : decode cX12_told 93 = .ok (.bipush 18, 2) := by decide +kernel
theorem dX12_told_95 : decode cX12_told 95 = .ok (.iaload, 1) := by decide +kernel
theorem dX12_told_96 : decode cX12_told 96 = .ok (.ireturn, 1) := by decide +kernel
theorem dX12_told_97 : decode cX12_told 97 = .ok (.aload_n 0, 1) := by decide +kernel
theorem dX12_told_98 : decode cX12_told 98 = .ok (.getfield 76, 3) := by decide +kernel
theorem dX12_told_101 : decode cX12_told 101 = .ok (.ireturn, 1) := by decide +kernel
theorem dX12_told_102 : decode cX12_told 102 = .ok (.aload_n 0, 1) := by decide +kernel
theorem dX12_told_103 : decode cX12_told 103 = .ok (.getfield 143, 3) := by decide +kernel
theorem dX12_told_106 : decode cX12_told 106 = .ok (.ireturn, 1) := by decide +kernel
theorem dX12_told_107 : decode cX12_told 107 = .ok (.aload_n 0, 1) := by decide +kernel
theorem dX12_told_108 : decode cX12_told 108 = .ok (.getfield 86, 3) := by decide +kernel
theorem dX12_told_111 : decode cX12_told 111 = .ok (.ireturn, 1) := by decide +kernel
theorem dX12_told_112 : decode cX12_told 112 = .ok (.aload_n 0, 1) := by decide +kernel
theorem dX12_told_113 : decode cX12_told 113 = .ok (.invokevirtual 178, 3) := by decide +kernel
theorem dX12_told_116 : decode cX12_told 116 = .ok (.ireturn, 1) := by decide +kernel
theorem dX12_told_117 : decode cX12_told 117 = .ok (.aload_n 0, 1) := by decide +kernel
theorem dX12_told_118 : decode cX12_told 118 = .ok (.getfield 16, 3) := by decide +kernel
theorem dX12_told_121 : decode cX12_told 121 = .ok (.bipush 20, 2) := by decide +kernel
theorem dX12_told_123 : decode cX12_told 123 = .ok (.iaload, 1) := by decide +kernel
theorem dX12_told_124 : decode cX12_told 124 = .ok (.ireturn, 1) := by decide +kernel
theorem dX12_told_125 : decode cX12_told 125 = .ok (.aload_n 0, 1) := by decide +kernel
theorem dX12_told_126 : decode cX12_told 126 = .ok (.getfield 16, 3) := by decide +kernel
theorem dX12_told_129 : decode cX12_told 129 = .ok (.bipush 21, 2) := by decide +kernel
theorem dX12_told_131 : decode cX12_told 131 = .ok (.iaload, 1) := by decide +kernel
theorem dX12_told_132 : decode cX12_told 132 = .ok (.ireturn, 1) := by decide +kernel
theorem dX12_told_133 : decode cX12_told 133 = .ok (.aload_n 0, 1) := by decide +kernel
theorem dX12_told_134 : decode cX12_told 134 = .ok (.getfield 16, 3) := by decide +kernel
theorem dX12_told_137 : decode cX12_told 137 = .ok (.bipush 22, 2) := by decide +kernel
theorem dX12_told_139 : decode cX12_told 139 = .ok (.iaload, 1) := by decide +kernel
theorem dX12_told_140 : decode cX12_told 140 = .ok (.ireturn, 1) := by decide +kernel
theorem dX12_told_141 : decode cX12_told 141 = .ok (.aload_n 0, 1) := by decide +kernel
theorem dX12_told_142 : decode cX12_told 142 = .ok (.getfield 16, 3) := by decide +kernel
theorem dX12_told_145 : decode cX12_told 145 = .ok (.bipush 23, 2) := by decide +kernel
theorem dX12_told_147 : decode cX12_told 147 = .ok (.iaload, 1) := by decide +kernel
theorem dX12_told_148 : decode cX12_told 148 = .ok (.ireturn, 1) := by decide +kernel
theorem dX12_told_149 : decode cX12_told 149 = .ok (.aload_n 0, 1) := by decide +kernel
theorem dX12_told_150 : decode cX12_told 150 = .ok (.getfield 16, 3) := by decide +kernel
theorem dX12_told_153 : decode cX12_told 153 = .ok (.bipush 24, 2) := by decide +kernel
theorem dX12_told_155 : decode cX12_told 155 = .ok (.iaload, 1) := by decide +kernel
theorem dX12_told_156 : decode cX12_told 156 = .ok (.ireturn, 1) := by decide +kernel
theorem dX12_told_157 : decode cX12_told 157 = .ok (.aload_n 0, 1) := by decide +kernel
theorem dX12_told_158 : decode cX12_told 158 = .ok (.invokevirtual 181, 3) := by decide +kernel
theorem dX12_told_161 : decode cX12_told 161 = .ok (.ireturn, 1) := by decide +kernel
theorem dX12_told_162 : decode cX12_told 162 = .ok (.aload_n 0, 1) := by decide +kernel
theorem dX12_told_163 : decode cX12_told 163 = .ok (.invokevirtual 184, 3) := by decide +kernel
theorem dX12_told_166 : decode cX12_told 166 = .ok (.ireturn, 1) := by decide +kernel
theorem dX12_told_167 : decode cX12_told 167 = .ok (.aload_n 0, 1) := by decide +kernel
theorem dX12_told_168 : decode cX12_told 168 = .ok (.getfield 16, 3) := by decide +kernel
theorem dX12_told_171 : decode cX12_told 171 = .ok (.bipush 19, 2) := by decide +kernel
theorem dX12_told_173 : decode cX12_told 173 = .ok (.iaload, 1) := by decide +kernel
theorem dX12_told_174 : decode cX12_told 174 = .ok (.ireturn, 1) := by decide +kernel
theorem dX12_told_175 : decode cX12_told 175 = .ok (.aload_n 0, 1) := by decide +kernel
theorem dX12_told_176 : decode cX12_told 176 = .ok (.getfield 152, 3) := by decide +kernel
theorem dX12_told_179 : decode cX12_told 179 = .ok (.ireturn, 1) := by decide +kernel
theorem dX12_told_180 : decode cX12_told 180 = .ok (.aload_n 0, 1) := by decide +kernel
theorem dX12_told_181 : decode cX12_told 181 = .ok (.getfield 155, 3) := by decide +kernel
theorem dX12_told_184 : decode cX12_told 184 = .ok (.ireturn, 1) := by decide +kernel
theorem dX12_told_185 : decode cX12_told 185 = .ok (.aload_n 0, 1) := by decide +kernel
theorem dX12_told_186 : decode cX12_told 186 = .ok (.getfield 158, 3) := by decide +kernel
theorem dX12_told_189 : decode cX12_told 189 = .ok (.ireturn, 1) := by decide +kernel
theorem dX12_told_190 : decode cX12_told 190 = .ok (.ldc 85, 2) := by decide +kernel
theorem dX12_told_192 : decode cX12_told 192 = .ok (.ireturn, 1) := by decide +kernel
theorem dX12_table_0 : decode cX12_table 0 = .ok (.aload_n 0, 1) := by decide +kernel
theorem dX12_table_1 : decode cX12_table 1 = .ok (.iload_n 1, 1) := by decide +kernel
theorem dX12_table_2 : decode cX12_table 2 = .ok (.invokevirtual 187, 3) := by decide +kernel
theorem dX12_table_5 : decode cX12_table 5 = .ok (.ifCond .ne 6, 3) := by decide +kernel
theorem dX12_table_8 : decode cX12_table 8 = .ok (.ldc 190, 2) := by decide +kernel
theorem dX12_table_10 : decode cX12_table 10 = .ok (.ireturn, 1) := by decide +kernel
theorem dX12_table_11 : decode cX12_table 11 = .ok (.iload_n 2, 1) := by decide +kernel
theorem dX12_table_12 : decode cX12_table 12 = .ok (.tableswitch 61 0 3 #[32, 39, 49, 55], 32) := by decide +kernel
theorem dX12_table_44 : decode cX12_table 44 = .ok (.aload_n 0, 1) := by decide +kernel
theorem dX12_table_45 : decode cX12_table 45 = .ok (.getfield 16, 3) := by decide +kernel
theorem dX12_table_48 : decode cX12_table 48 = .ok (.iload_n 1, 1) := by decide +kernel
theorem dX12_table_49 : decode cX12_table 49 = .ok (.iaload, 1) := by decide +kernel
theorem dX12_table_50 : decode cX12_table 50 = .ok (.ireturn, 1) := by decide +kernel
theorem dX12_table_51 : decode cX12_table 51 = .ok (.aload_n 0, 1) := by decide +kernel
theorem dX12_table_52 : decode cX12_table 52 = .ok (.getfield 16, 3) := by decide +kernel
theorem dX12_table_55 : decode cX12_table 55 = .ok (.bipush 9, 2) := by decide +kernel
theorem dX12_table_57 : decode cX12_table 57 = .ok (.iload_n 1, 1) := by decide +kernel
theorem dX12_table_58 : decode cX12_table 58 = .ok (.iadd, 1) := by decide +kernel
theorem dX12_table_59 : decode cX12_table 59 = .ok (.iaload, 1) := by decide +kernel
theorem dX12_table_60 : decode cX12_table 60 = .ok (.ireturn, 1) := by decide +kernel
theorem dX12_table_61 : decode cX12_table 61 = .ok (.aload_n 0, 1) := by decide +kernel
theorem dX12_table_62 : decode cX12_table 62 = .ok (.iload_n 1, 1) := by decide +kernel
theorem dX12_table_63 : decode cX12_table 63 = .ok (.invokevirtual 165, 3) := by decide +kernel
theorem dX12_table_66 : decode cX12_table 66 = .ok (.ireturn, 1) := by decide +kernel
theorem dX12_table_67 : decode cX12_table 67 = .ok (.aload_n 0, 1) := by decide +kernel
theorem dX12_table_68 : decode cX12_table 68 = .ok (.iload_n 1, 1) := by decide +kernel
theorem dX12_table_69 : decode cX12_table 69 = .ok (.invokevirtual 169, 3) := by decide +kernel
theorem dX12_table_72 : decode cX12_table 72 = .ok (.ireturn, 1) := by decide +kernel
theorem dX12_table_73 : decode cX12_table 73 = .ok (.ldc 85, 2) := by decide +kernel
theorem dX12_table_75 : decode cX12_table 75 = .ok (.ireturn, 1) := by decide +kernel
theorem dX12_way_0 : decode cX12_way 0 = .ok (.iload_n 1, 1) := by decide +kernel
theorem dX12_way_1 : decode cX12_way 1 = .ok (.i2l, 1) := by decide +kernel
theorem dX12_way_2 : decode cX12_way 2 = .ok (.lconst 0, 1) := by decide +kernel
theorem dX12_way_3 : decode cX12_way 3 = .ok (.aload_n 0, 1) := by decide +kernel
theorem dX12_way_4 : decode cX12_way 4 = .ok (.getfield 143, 3) := by decide +kernel
theorem dX12_way_7 : decode cX12_way 7 = .ok (.iconst 1, 1) := by decide +kernel
theorem dX12_way_8 : decode cX12_way 8 = .ok (.isub, 1) := by decide +kernel
theorem dX12_way_9 : decode cX12_way 9 = .ok (.i2l, 1) := by decide +kernel
theorem dX12_way_10 : decode cX12_way 10 = .ok (.invokestatic 79, 3) := by decide +kernel
theorem dX12_way_13 : decode cX12_way 13 = .ok (.ifCond .ne 6, 3) := by decide +kernel
theorem dX12_way_16 : decode cX12_way 16 = .ok (.ldc 190, 2) := by decide +kernel
theorem dX12_way_18 : decode cX12_way 18 = .ok (.ireturn, 1) := by decide +kernel
theorem dX12_way_19 : decode cX12_way 19 = .ok (.iload_n 2, 1) := by decide +kernel
theorem dX12_way_20 : decode cX12_way 20 = .ok (.tableswitch 54 0 2 #[28, 35, 42], 28) := by decide +kernel
theorem dX12_way_48 : decode cX12_way 48 = .ok (.aload_n 0, 1) := by decide +kernel
theorem dX12_way_49 : decode cX12_way 49 = .ok (.getfield 7, 3) := by decide +kernel
theorem dX12_way_52 : decode cX12_way 52 = .ok (.iload_n 1, 1) := by decide +kernel
theorem dX12_way_53 : decode cX12_way 53 = .ok (.iaload, 1) := by decide +kernel
theorem dX12_way_54 : decode cX12_way 54 = .ok (.ireturn, 1) := by decide +kernel
theorem dX12_way_55 : decode cX12_way 55 = .ok (.aload_n 0, 1) := by decide +kernel
theorem dX12_way_56 : decode cX12_way 56 = .ok (.getfield 13, 3) := by decide +kernel
theorem dX12_way_59 : decode cX12_way 59 = .ok (.iload_n 1, 1) := by decide +kernel
theorem dX12_way_60 : decode cX12_way 60 = .ok (.iaload, 1) := by decide +kernel
theorem dX12_way_61 : decode cX12_way 61 = .ok (.ireturn, 1) := by decide +kernel
theorem dX12_way_62 : decode cX12_way 62 = .ok (.aload_n 0, 1) := by decide +kernel
theorem dX12_way_63 : decode cX12_way 63 = .ok (.getfield 16, 3) := by decide +kernel
theorem dX12_way_66 : decode cX12_way 66 = .ok (.bipush 19, 2) := by decide +kernel
theorem dX12_way_68 : decode cX12_way 68 = .ok (.iaload, 1) := by decide +kernel
theorem dX12_way_69 : decode cX12_way 69 = .ok (.iload_n 1, 1) := by decide +kernel
theorem dX12_way_70 : decode cX12_way 70 = .ok (.ishr, 1) := by decide +kernel
theorem dX12_way_71 : decode cX12_way 71 = .ok (.iconst 1, 1) := by decide +kernel
theorem dX12_way_72 : decode cX12_way 72 = .ok (.iand, 1) := by decide +kernel
theorem dX12_way_73 : decode cX12_way 73 = .ok (.ireturn, 1) := by decide +kernel
theorem dX12_way_74 : decode cX12_way 74 = .ok (.ldc 85, 2) := by decide +kernel
theorem dX12_way_76 : decode cX12_way 76 = .ok (.ireturn, 1) := by decide +kernel
theorem dX12_remember_0 : decode cX12_remember 0 = .ok (.aload_n 0, 1) := by decide +kernel
theorem dX12_remember_1 : decode cX12_remember 1 = .ok (.getfield 158, 3) := by decide +kernel
theorem dX12_remember_4 : decode cX12_remember 4 = .ok (.bipush 20, 2) := by decide +kernel
theorem dX12_remember_6 : decode cX12_remember 6 = .ok (.if_icmp .ne 44, 3) := by decide +kernel
theorem dX12_remember_9 : decode cX12_remember 9 = .ok (.bipush 25, 2) := by decide +kernel
theorem dX12_remember_11 : decode cX12_remember 11 = .ok (.istore_n 1, 1) := by decide +kernel
theorem dX12_remember_12 : decode cX12_remember 12 = .ok (.iload_n 1, 1) := by decide +kernel
theorem dX12_remember_13 : decode cX12_remember 13 = .ok (.sipush 500, 3) := by decide +kernel
theorem dX12_remember_16 : decode cX12_remember 16 = .ok (.if_icmp .ge 24, 3) := by decide +kernel
theorem dX12_remember_19 : decode cX12_remember 19 = .ok (.aload_n 0, 1) := by decide +kernel
theorem dX12_remember_20 : decode cX12_remember 20 = .ok (.getfield 44, 3) := by decide +kernel
theorem dX12_remember_23 : decode cX12_remember 23 = .ok (.iload_n 1, 1) := by decide +kernel
theorem dX12_remember_24 : decode cX12_remember 24 = .ok (.bipush 25, 2) := by decide +kernel
theorem dX12_remember_26 : decode cX12_remember 26 = .ok (.isub, 1) := by decide +kernel
theorem dX12_remember_27 : decode cX12_remember 27 = .ok (.aload_n 0, 1) := by decide +kernel
theorem dX12_remember_28 : decode cX12_remember 28 = .ok (.getfield 44, 3) := by decide +kernel
theorem dX12_remember_31 : decode cX12_remember 31 = .ok (.iload_n 1, 1) := by decide +kernel
theorem dX12_remember_32 : decode cX12_remember 32 = .ok (.iaload, 1) := by decide +kernel
theorem dX12_remember_33 : decode cX12_remember 33 = .ok (.iastore, 1) := by decide +kernel
theorem dX12_remember_34 : decode cX12_remember 34 = .ok (.iinc 1 1, 3) := by decide +kernel
theorem dX12_remember_37 : decode cX12_remember 37 = .ok (.goto (-25), 3) := by decide +kernel
theorem dX12_remember_40 : decode cX12_remember 40 = .ok (.aload_n 0, 1) := by decide +kernel
theorem dX12_remember_41 : decode cX12_remember 41 = .ok (.dup, 1) := by decide +kernel
theorem dX12_remember_42 : decode cX12_remember 42 = .ok (.getfield 158, 3) := by decide +kernel
theorem dX12_remember_45 : decode cX12_remember 45 = .ok (.iconst 1, 1) := by decide +kernel
theorem dX12_remember_46 : decode cX12_remember 46 = .ok (.isub, 1) := by decide +kernel
theorem dX12_remember_47 : decode cX12_remember 47 = .ok (.putfield 158, 3) := by decide +kernel
theorem dX12_remember_50 : decode cX12_remember 50 = .ok (.iconst 0, 1) := by decide +kernel
theorem dX12_remember_51 : decode cX12_remember 51 = .ok (.istore_n 1, 1) := by decide +kernel
theorem dX12_remember_52 : decode cX12_remember 52 = .ok (.iload_n 1, 1) := by decide +kernel
theorem dX12_remember_53 : decode cX12_remember 53 = .ok (.bipush 25, 2) := by decide +kernel
theorem dX12_remember_55 : decode cX12_remember 55 = .ok (.if_icmp .ge 29, 3) := by decide +kernel
theorem dX12_remember_58 : decode cX12_remember 58 = .ok (.aload_n 0, 1) := by decide +kernel
theorem dX12_remember_59 : decode cX12_remember 59 = .ok (.getfield 44, 3) := by decide +kernel
theorem dX12_remember_62 : decode cX12_remember 62 = .ok (.bipush 25, 2) := by decide +kernel
theorem dX12_remember_64 : decode cX12_remember 64 = .ok (.aload_n 0, 1) := by decide +kernel
theorem dX12_remember_65 : decode cX12_remember 65 = .ok (.getfield 158, 3) := by decide +kernel
theorem dX12_remember_68 : decode cX12_remember 68 = .ok (.imul, 1) := by decide +kernel
theorem dX12_remember_69 : decode cX12_remember 69 = .ok (.iload_n 1, 1) := by decide +kernel
theorem dX12_remember_70 : decode cX12_remember 70 = .ok (.iadd, 1) := by decide +kernel
theorem dX12_remember_71 : decode cX12_remember 71 = .ok (.aload_n 0, 1) := by decide +kernel
theorem dX12_remember_72 : decode cX12_remember 72 = .ok (.getfield 16, 3) := by decide +kernel
theorem dX12_remember_75 : decode cX12_remember 75 = .ok (.iload_n 1, 1) := by decide +kernel
theorem dX12_remember_76 : decode cX12_remember 76 = .ok (.iaload, 1) := by decide +kernel
theorem dX12_remember_77 : decode cX12_remember 77 = .ok (.iastore, 1) := by decide +kernel
theorem dX12_remember_78 : decode cX12_remember 78 = .ok (.iinc 1 1, 3) := by decide +kernel
theorem dX12_remember_81 : decode cX12_remember 81 = .ok (.goto (-29), 3) := by decide +kernel
theorem dX12_remember_84 : decode cX12_remember 84 = .ok (.aload_n 0, 1) := by decide +kernel
theorem dX12_remember_85 : decode cX12_remember 85 = .ok (.dup, 1) := by decide +kernel
theorem dX12_remember_86 : decode cX12_remember 86 = .ok (.getfield 158, 3) := by decide +kernel
theorem dX12_remember_89 : decode cX12_remember 89 = .ok (.iconst 1, 1) := by decide +kernel
theorem dX12_remember_90 : decode cX12_remember 90 = .ok (.iadd, 1) := by decide +kernel
theorem dX12_remember_91 : decode cX12_remember 91 = .ok (.putfield 158, 3) := by decide +kernel
theorem dX12_remember_94 : decode cX12_remember 94 = .ok (.return_, 1) := by decide +kernel
theorem dX12_guest_0 : decode cX12_guest 0 = .ok (.aload_n 0, 1) := by decide +kernel
theorem dX12_guest_1 : decode cX12_guest 1 = .ok (.invokevirtual 175, 3) := by decide +kernel
theorem dX12_guest_4 : decode cX12_guest 4 = .ok (.aload_n 0, 1) := by decide +kernel
theorem dX12_guest_5 : decode cX12_guest 5 = .ok (.getfield 16, 3) := by decide +kernel
theorem dX12_guest_8 : decode cX12_guest 8 = .ok (.bipush 24, 2) := by decide +kernel
theorem dX12_guest_10 : decode cX12_guest 10 = .ok (.dup2, 1) := by decide +kernel
theorem dX12_guest_11 : decode cX12_guest 11 = .ok (.iaload, 1) := by decide +kernel
theorem dX12_guest_12 : decode cX12_guest 12 = .ok (.iconst 1, 1) := by decide +kernel
theorem dX12_guest_13 : decode cX12_guest 13 = .ok (.iadd, 1) := by decide +kernel
theorem dX12_guest_14 : decode cX12_guest 14 = .ok (.iastore, 1) := by decide +kernel
theorem dX12_guest_15 : decode cX12_guest 15 = .ok (.aload_n 0, 1) := by decide +kernel
theorem dX12_guest_16 : decode cX12_guest 16 = .ok (.getfield 41, 3) := by decide +kernel
theorem dX12_guest_19 : decode cX12_guest 19 = .ok (.iload_n 1, 1) := by decide +kernel
theorem dX12_guest_20 : decode cX12_guest 20 = .ok (.iaload, 1) := by decide +kernel
theorem dX12_guest_21 : decode cX12_guest 21 = .ok (.sipush 1000, 3) := by decide +kernel
theorem dX12_guest_24 : decode cX12_guest 24 = .ok (.if_icmp .ge 40, 3) := by decide +kernel
theorem dX12_guest_27 : decode cX12_guest 27 = .ok (.aload_n 0, 1) := by decide +kernel
theorem dX12_guest_28 : decode cX12_guest 28 = .ok (.getfield 41, 3) := by decide +kernel
theorem dX12_guest_31 : decode cX12_guest 31 = .ok (.iload_n 1, 1) := by decide +kernel
theorem dX12_guest_32 : decode cX12_guest 32 = .ok (.iaload, 1) := by decide +kernel
theorem dX12_guest_33 : decode cX12_guest 33 = .ok (.istore_n 2, 1) := by decide +kernel
theorem dX12_guest_34 : decode cX12_guest 34 = .ok (.aload_n 0, 1) := by decide +kernel
theorem dX12_guest_35 : decode cX12_guest 35 = .ok (.getfield 16, 3) := by decide +kernel
theorem dX12_guest_38 : decode cX12_guest 38 = .ok (.bipush 9, 2) := by decide +kernel
theorem dX12_guest_40 : decode cX12_guest 40 = .ok (.aload_n 0, 1) := by decide +kernel
theorem dX12_guest_41 : decode cX12_guest 41 = .ok (.iload_n 1, 1) := by decide +kernel
theorem dX12_guest_42 : decode cX12_guest 42 = .ok (.invokevirtual 191, 3) := by decide +kernel
theorem dX12_guest_45 : decode cX12_guest 45 = .ok (.iadd, 1) := by decide +kernel
theorem dX12_guest_46 : decode cX12_guest 46 = .ok (.dup2, 1) := by decide +kernel
theorem dX12_guest_47 : decode cX12_guest 47 = .ok (.iaload, 1) := by decide +kernel
theorem dX12_guest_48 : decode cX12_guest 48 = .ok (.iconst 1, 1) := by decide +kernel
theorem dX12_guest_49 : decode cX12_guest 49 = .ok (.iadd, 1) := by decide +kernel
theorem dX12_guest_50 : decode cX12_guest 50 = .ok (.iastore, 1) := by decide +kernel
theorem dX12_guest_51 : decode cX12_guest 51 = .ok (.aload_n 0, 1) := by decide +kernel
theorem dX12_guest_52 : decode cX12_guest 52 = .ok (.getfield 16, 3) := by decide +kernel
theorem dX12_guest_55 : decode cX12_guest 55 = .ok (.bipush 21, 2) := by decide +kernel
theorem dX12_guest_57 : decode cX12_guest 57 = .ok (.dup2, 1) := by decide +kernel
theorem dX12_guest_58 : decode cX12_guest 58 = .ok (.iaload, 1) := by decide +kernel
theorem dX12_guest_59 : decode cX12_guest 59 = .ok (.iload_n 2, 1) := by decide +kernel
theorem dX12_guest_60 : decode cX12_guest 60 = .ok (.iadd, 1) := by decide +kernel
theorem dX12_guest_61 : decode cX12_guest 61 = .ok (.iastore, 1) := by decide +kernel
theorem dX12_guest_62 : decode cX12_guest 62 = .ok (.iload_n 2, 1) := by decide +kernel
theorem dX12_guest_63 : decode cX12_guest 63 = .ok (.ireturn, 1) := by decide +kernel
theorem dX12_guest_64 : decode cX12_guest 64 = .ok (.aload_n 0, 1) := by decide +kernel
theorem dX12_guest_65 : decode cX12_guest 65 = .ok (.iload_n 1, 1) := by decide +kernel
theorem dX12_guest_66 : decode cX12_guest 66 = .ok (.invokevirtual 165, 3) := by decide +kernel
theorem dX12_guest_69 : decode cX12_guest 69 = .ok (.ifCond .le 71, 3) := by decide +kernel
theorem dX12_guest_72 : decode cX12_guest 72 = .ok (.aload_n 0, 1) := by decide +kernel
theorem dX12_guest_73 : decode cX12_guest 73 = .ok (.getfield 16, 3) := by decide +kernel
theorem dX12_guest_76 : decode cX12_guest 76 = .ok (.bipush 9, 2) := by decide +kernel
theorem dX12_guest_78 : decode cX12_guest 78 = .ok (.iload_n 1, 1) := by decide +kernel
theorem dX12_guest_79 : decode cX12_guest 79 = .ok (.iadd, 1) := by decide +kernel
theorem dX12_guest_80 : decode cX12_guest 80 = .ok (.dup2, 1) := by decide +kernel
theorem dX12_guest_81 : decode cX12_guest 81 = .ok (.iaload, 1) := by decide +kernel
theorem dX12_guest_82 : decode cX12_guest 82 = .ok (.iconst 1, 1) := by decide +kernel
theorem dX12_guest_83 : decode cX12_guest 83 = .ok (.iadd, 1) := by decide +kernel
theorem dX12_guest_84 : decode cX12_guest 84 = .ok (.iastore, 1) := by decide +kernel
theorem dX12_guest_85 : decode cX12_guest 85 = .ok (.aload_n 0, 1) := by decide +kernel
theorem dX12_guest_86 : decode cX12_guest 86 = .ok (.getfield 16, 3) := by decide +kernel
theorem dX12_guest_89 : decode cX12_guest 89 = .ok (.bipush 22, 2) := by decide +kernel
theorem dX12_guest_91 : decode cX12_guest 91 = .ok (.dup2, 1) := by decide +kernel
theorem dX12_guest_92 : decode cX12_guest 92 = .ok (.iaload, 1) := by decide +kernel
theorem dX12_guest_93 : decode cX12_guest 93 = .ok (.iconst 1, 1) := by decide +kernel
theorem dX12_guest_94 : decode cX12_guest 94 = .ok (.iadd, 1) := by decide +kernel
theorem dX12_guest_95 : decode cX12_guest 95 = .ok (.iastore, 1) := by decide +kernel
theorem dX12_guest_96 : decode cX12_guest 96 = .ok (.aload_n 0, 1) := by decide +kernel
theorem dX12_guest_97 : decode cX12_guest 97 = .ok (.getfield 16, 3) := by decide +kernel
theorem dX12_guest_100 : decode cX12_guest 100 = .ok (.bipush 23, 2) := by decide +kernel
theorem dX12_guest_102 : decode cX12_guest 102 = .ok (.aload_n 0, 1) := by decide +kernel
theorem dX12_guest_103 : decode cX12_guest 103 = .ok (.getfield 16, 3) := by decide +kernel
theorem dX12_guest_106 : decode cX12_guest 106 = .ok (.bipush 23, 2) := by decide +kernel
theorem dX12_guest_108 : decode cX12_guest 108 = .ok (.iaload, 1) := by decide +kernel
theorem dX12_guest_109 : decode cX12_guest 109 = .ok (.aload_n 0, 1) := by decide +kernel
theorem dX12_guest_110 : decode cX12_guest 110 = .ok (.getfield 140, 3) := by decide +kernel
theorem dX12_guest_113 : decode cX12_guest 113 = .ok (.iadd, 1) := by decide +kernel
theorem dX12_guest_114 : decode cX12_guest 114 = .ok (.ldc 194, 2) := by decide +kernel
theorem dX12_guest_116 : decode cX12_guest 116 = .ok (.if_icmp .ge 18, 3) := by decide +kernel
theorem dX12_guest_119 : decode cX12_guest 119 = .ok (.aload_n 0, 1) := by decide +kernel
theorem dX12_guest_120 : decode cX12_guest 120 = .ok (.getfield 16, 3) := by decide +kernel
theorem dX12_guest_123 : decode cX12_guest 123 = .ok (.bipush 23, 2) := by decide +kernel
theorem dX12_guest_125 : decode cX12_guest 125 = .ok (.iaload, 1) := by decide +kernel
theorem dX12_guest_126 : decode cX12_guest 126 = .ok (.aload_n 0, 1) := by decide +kernel
theorem dX12_guest_127 : decode cX12_guest 127 = .ok (.getfield 140, 3) := by decide +kernel
theorem dX12_guest_130 : decode cX12_guest 130 = .ok (.iadd, 1) := by decide +kernel
theorem dX12_guest_131 : decode cX12_guest 131 = .ok (.goto 5, 3) := by decide +kernel
theorem dX12_guest_134 : decode cX12_guest 134 = .ok (.ldc 194, 2) := by decide +kernel
theorem dX12_guest_136 : decode cX12_guest 136 = .ok (.iastore, 1) := by decide +kernel
theorem dX12_guest_137 : decode cX12_guest 137 = .ok (.bipush (-2), 2) := by decide +kernel
theorem dX12_guest_139 : decode cX12_guest 139 = .ok (.ireturn, 1) := by decide +kernel
theorem dX12_guest_140 : decode cX12_guest 140 = .ok (.aload_n 0, 1) := by decide +kernel
theorem dX12_guest_141 : decode cX12_guest 141 = .ok (.getfield 16, 3) := by decide +kernel
theorem dX12_guest_144 : decode cX12_guest 144 = .ok (.bipush 20, 2) := by decide +kernel
theorem dX12_guest_146 : decode cX12_guest 146 = .ok (.dup2, 1) := by decide +kernel
theorem dX12_guest_147 : decode cX12_guest 147 = .ok (.iaload, 1) := by decide +kernel
theorem dX12_guest_148 : decode cX12_guest 148 = .ok (.iconst 1, 1) := by decide +kernel
theorem dX12_guest_149 : decode cX12_guest 149 = .ok (.iadd, 1) := by decide +kernel
theorem dX12_guest_150 : decode cX12_guest 150 = .ok (.iastore, 1) := by decide +kernel
theorem dX12_guest_151 : decode cX12_guest 151 = .ok (.bipush (-3), 2) := by decide +kernel
theorem dX12_guest_153 : decode cX12_guest 153 = .ok (.ireturn, 1) := by decide +kernel
theorem dX12_come_0 : decode cX12_come 0 = .ok (.aload_n 0, 1) := by decide +kernel
theorem dX12_come_1 : decode cX12_come 1 = .ok (.iload_n 1, 1) := by decide +kernel
theorem dX12_come_2 : decode cX12_come 2 = .ok (.invokevirtual 187, 3) := by decide +kernel
theorem dX12_come_5 : decode cX12_come 5 = .ok (.ifCond .ne 6, 3) := by decide +kernel
theorem dX12_come_8 : decode cX12_come 8 = .ok (.ldc 190, 2) := by decide +kernel
theorem dX12_come_10 : decode cX12_come 10 = .ok (.ireturn, 1) := by decide +kernel
theorem dX12_come_11 : decode cX12_come 11 = .ok (.aload_n 0, 1) := by decide +kernel
theorem dX12_come_12 : decode cX12_come 12 = .ok (.getfield 16, 3) := by decide +kernel
theorem dX12_come_15 : decode cX12_come 15 = .ok (.bipush 24, 2) := by decide +kernel
theorem dX12_come_17 : decode cX12_come 17 = .ok (.iaload, 1) := by decide +kernel
theorem dX12_come_18 : decode cX12_come 18 = .ok (.sipush 9000, 3) := by decide +kernel
theorem dX12_come_21 : decode cX12_come 21 = .ok (.if_icmp .le 6, 3) := by decide +kernel
theorem dX12_come_24 : decode cX12_come 24 = .ok (.ldc 89, 2) := by decide +kernel
theorem dX12_come_26 : decode cX12_come 26 = .ok (.ireturn, 1) := by decide +kernel
theorem dX12_come_27 : decode cX12_come 27 = .ok (.aload_n 0, 1) := by decide +kernel
theorem dX12_come_28 : decode cX12_come 28 = .ok (.invokevirtual 195, 3) := by decide +kernel
theorem dX12_come_31 : decode cX12_come 31 = .ok (.aload_n 0, 1) := by decide +kernel
theorem dX12_come_32 : decode cX12_come 32 = .ok (.iload_n 1, 1) := by decide +kernel
theorem dX12_come_33 : decode cX12_come 33 = .ok (.invokevirtual 198, 3) := by decide +kernel
theorem dX12_come_36 : decode cX12_come 36 = .ok (.ireturn, 1) := by decide +kernel
theorem dX12_go_0 : decode cX12_go 0 = .ok (.aload_n 0, 1) := by decide +kernel
theorem dX12_go_1 : decode cX12_go 1 = .ok (.iload_n 1, 1) := by decide +kernel
theorem dX12_go_2 : decode cX12_go 2 = .ok (.invokevirtual 187, 3) := by decide +kernel
theorem dX12_go_5 : decode cX12_go 5 = .ok (.ifCond .ne 6, 3) := by decide +kernel
theorem dX12_go_8 : decode cX12_go 8 = .ok (.ldc 190, 2) := by decide +kernel
theorem dX12_go_10 : decode cX12_go 10 = .ok (.ireturn, 1) := by decide +kernel
theorem dX12_go_11 : decode cX12_go 11 = .ok (.aload_n 0, 1) := by decide +kernel
theorem dX12_go_12 : decode cX12_go 12 = .ok (.getfield 16, 3) := by decide +kernel
theorem dX12_go_15 : decode cX12_go 15 = .ok (.bipush 9, 2) := by decide +kernel
theorem dX12_go_17 : decode cX12_go 17 = .ok (.iload_n 1, 1) := by decide +kernel
theorem dX12_go_18 : decode cX12_go 18 = .ok (.iadd, 1) := by decide +kernel
theorem dX12_go_19 : decode cX12_go 19 = .ok (.iaload, 1) := by decide +kernel
theorem dX12_go_20 : decode cX12_go 20 = .ok (.ifCond .ne 6, 3) := by decide +kernel
theorem dX12_go_23 : decode cX12_go 23 = .ok (.ldc 201, 2) := by decide +kernel
theorem dX12_go_25 : decode cX12_go 25 = .ok (.ireturn, 1) := by decide +kernel
theorem dX12_go_26 : decode cX12_go 26 = .ok (.aload_n 0, 1) := by decide +kernel
theorem dX12_go_27 : decode cX12_go 27 = .ok (.invokevirtual 195, 3) := by decide +kernel
theorem dX12_go_30 : decode cX12_go 30 = .ok (.aload_n 0, 1) := by decide +kernel
theorem dX12_go_31 : decode cX12_go 31 = .ok (.getfield 16, 3) := by decide +kernel
theorem dX12_go_34 : decode cX12_go 34 = .ok (.bipush 9, 2) := by decide +kernel
theorem dX12_go_36 : decode cX12_go 36 = .ok (.iload_n 1, 1) := by decide +kernel
theorem dX12_go_37 : decode cX12_go 37 = .ok (.iadd, 1) := by decide +kernel
theorem dX12_go_38 : decode cX12_go 38 = .ok (.dup2, 1) := by decide +kernel
theorem dX12_go_39 : decode cX12_go 39 = .ok (.iaload, 1) := by decide +kernel
theorem dX12_go_40 : decode cX12_go 40 = .ok (.iconst 1, 1) := by decide +kernel
theorem dX12_go_41 : decode cX12_go 41 = .ok (.isub, 1) := by decide +kernel
theorem dX12_go_42 : decode cX12_go 42 = .ok (.iastore, 1) := by decide +kernel
theorem dX12_go_43 : decode cX12_go 43 = .ok (.aload_n 0, 1) := by decide +kernel
theorem dX12_go_44 : decode cX12_go 44 = .ok (.getfield 16, 3) := by decide +kernel
theorem dX12_go_47 : decode cX12_go 47 = .ok (.bipush 9, 2) := by decide +kernel
theorem dX12_go_49 : decode cX12_go 49 = .ok (.iload_n 1, 1) := by decide +kernel
theorem dX12_go_50 : decode cX12_go 50 = .ok (.iadd, 1) := by decide +kernel
theorem dX12_go_51 : decode cX12_go 51 = .ok (.iaload, 1) := by decide +kernel
theorem dX12_go_52 : decode cX12_go 52 = .ok (.ireturn, 1) := by decide +kernel
theorem dX12_build_0 : decode cX12_build 0 = .ok (.aload_n 0, 1) := by decide +kernel
theorem dX12_build_1 : decode cX12_build 1 = .ok (.iload_n 1, 1) := by decide +kernel
theorem dX12_build_2 : decode cX12_build 2 = .ok (.invokevirtual 187, 3) := by decide +kernel
theorem dX12_build_5 : decode cX12_build 5 = .ok (.ifCond .ne 6, 3) := by decide +kernel
theorem dX12_build_8 : decode cX12_build 8 = .ok (.ldc 190, 2) := by decide +kernel
theorem dX12_build_10 : decode cX12_build 10 = .ok (.ireturn, 1) := by decide +kernel
theorem dX12_build_11 : decode cX12_build 11 = .ok (.aload_n 0, 1) := by decide +kernel
theorem dX12_build_12 : decode cX12_build 12 = .ok (.getfield 16, 3) := by decide +kernel
theorem dX12_build_15 : decode cX12_build 15 = .ok (.bipush 18, 2) := by decide +kernel
theorem dX12_build_17 : decode cX12_build 17 = .ok (.iaload, 1) := by decide +kernel
theorem dX12_build_18 : decode cX12_build 18 = .ok (.ifCond .eq 14, 3) := by decide +kernel
theorem dX12_build_21 : decode cX12_build 21 = .ok (.aload_n 0, 1) := by decide +kernel
theorem dX12_build_22 : decode cX12_build 22 = .ok (.getfield 16, 3) := by decide +kernel
theorem dX12_build_25 : decode cX12_build 25 = .ok (.iload_n 1, 1) := by decide +kernel
theorem dX12_build_26 : decode cX12_build 26 = .ok (.iaload, 1) := by decide +kernel
theorem dX12_build_27 : decode cX12_build 27 = .ok (.bipush 20, 2) := by decide +kernel
theorem dX12_build_29 : decode cX12_build 29 = .ok (.if_icmp .ne 6, 3) := by decide +kernel
theorem dX12_build_32 : decode cX12_build 32 = .ok (.ldc 201, 2) := by decide +kernel
theorem dX12_build_34 : decode cX12_build 34 = .ok (.ireturn, 1) := by decide +kernel
theorem dX12_build_35 : decode cX12_build 35 = .ok (.aload_n 0, 1) := by decide +kernel
theorem dX12_build_36 : decode cX12_build 36 = .ok (.invokevirtual 195, 3) := by decide +kernel
theorem dX12_build_39 : decode cX12_build 39 = .ok (.aload_n 0, 1) := by decide +kernel
theorem dX12_build_40 : decode cX12_build 40 = .ok (.getfield 16, 3) := by decide +kernel
theorem dX12_build_43 : decode cX12_build 43 = .ok (.bipush 18, 2) := by decide +kernel
theorem dX12_build_45 : decode cX12_build 45 = .ok (.dup2, 1) := by decide +kernel
theorem dX12_build_46 : decode cX12_build 46 = .ok (.iaload, 1) := by decide +kernel
theorem dX12_build_47 : decode cX12_build 47 = .ok (.iconst 1, 1) := by decide +kernel
theorem dX12_build_48 : decode cX12_build 48 = .ok (.isub, 1) := by decide +kernel
theorem dX12_build_49 : decode cX12_build 49 = .ok (.iastore, 1) := by decide +kernel
theorem dX12_build_50 : decode cX12_build 50 = .ok (.aload_n 0, 1) := by decide +kernel
theorem dX12_build_51 : decode cX12_build 51 = .ok (.getfield 16, 3) := by decide +kernel
theorem dX12_build_54 : decode cX12_build 54 = .ok (.iload_n 1, 1) := by decide +kernel
theorem dX12_build_55 : decode cX12_build 55 = .ok (.dup2, 1) := by decide +kernel
theorem dX12_build_56 : decode cX12_build 56 = .ok (.iaload, 1) := by decide +kernel
theorem dX12_build_57 : decode cX12_build 57 = .ok (.iconst 1, 1) := by decide +kernel
theorem dX12_build_58 : decode cX12_build 58 = .ok (.iadd, 1) := by decide +kernel
theorem dX12_build_59 : decode cX12_build 59 = .ok (.iastore, 1) := by decide +kernel
theorem dX12_build_60 : decode cX12_build 60 = .ok (.aload_n 0, 1) := by decide +kernel
theorem dX12_build_61 : decode cX12_build 61 = .ok (.getfield 16, 3) := by decide +kernel
theorem dX12_build_64 : decode cX12_build 64 = .ok (.iload_n 1, 1) := by decide +kernel
theorem dX12_build_65 : decode cX12_build 65 = .ok (.iaload, 1) := by decide +kernel
theorem dX12_build_66 : decode cX12_build 66 = .ok (.ireturn, 1) := by decide +kernel
theorem dX12_breakOne_0 : decode cX12_breakOne 0 = .ok (.aload_n 0, 1) := by decide +kernel
theorem dX12_breakOne_1 : decode cX12_breakOne 1 = .ok (.iload_n 1, 1) := by decide +kernel
theorem dX12_breakOne_2 : decode cX12_breakOne 2 = .ok (.invokevirtual 187, 3) := by decide +kernel
theorem dX12_breakOne_5 : decode cX12_breakOne 5 = .ok (.ifCond .ne 6, 3) := by decide +kernel
theorem dX12_breakOne_8 : decode cX12_breakOne 8 = .ok (.ldc 190, 2) := by decide +kernel
theorem dX12_breakOne_10 : decode cX12_breakOne 10 = .ok (.ireturn, 1) := by decide +kernel
theorem dX12_breakOne_11 : decode cX12_breakOne 11 = .ok (.aload_n 0, 1) := by decide +kernel
theorem dX12_breakOne_12 : decode cX12_breakOne 12 = .ok (.iload_n 1, 1) := by decide +kernel
theorem dX12_breakOne_13 : decode cX12_breakOne 13 = .ok (.invokevirtual 165, 3) := by decide +kernel
theorem dX12_breakOne_16 : decode cX12_breakOne 16 = .ok (.iconst 1, 1) := by decide +kernel
theorem dX12_breakOne_17 : decode cX12_breakOne 17 = .ok (.if_icmp .ge 6, 3) := by decide +kernel
theorem dX12_breakOne_20 : decode cX12_breakOne 20 = .ok (.ldc 201, 2) := by decide +kernel
theorem dX12_breakOne_22 : decode cX12_breakOne 22 = .ok (.ireturn, 1) := by decide +kernel
theorem dX12_breakOne_23 : decode cX12_breakOne 23 = .ok (.aload_n 0, 1) := by decide +kernel
theorem dX12_breakOne_24 : decode cX12_breakOne 24 = .ok (.invokevirtual 195, 3) := by decide +kernel
theorem dX12_breakOne_27 : decode cX12_breakOne 27 = .ok (.aload_n 0, 1) := by decide +kernel
theorem dX12_breakOne_28 : decode cX12_breakOne 28 = .ok (.getfield 16, 3) := by decide +kernel
theorem dX12_breakOne_31 : decode cX12_breakOne 31 = .ok (.iload_n 1, 1) := by decide +kernel
theorem dX12_breakOne_32 : decode cX12_breakOne 32 = .ok (.dup2, 1) := by decide +kernel
theorem dX12_breakOne_33 : decode cX12_breakOne 33 = .ok (.iaload, 1) := by decide +kernel
theorem dX12_breakOne_34 : decode cX12_breakOne 34 = .ok (.iconst 1, 1) := by decide +kernel
theorem dX12_breakOne_35 : decode cX12_breakOne 35 = .ok (.isub, 1) := by decide +kernel
theorem dX12_breakOne_36 : decode cX12_breakOne 36 = .ok (.iastore, 1) := by decide +kernel
theorem dX12_breakOne_37 : decode cX12_breakOne 37 = .ok (.aload_n 0, 1) := by decide +kernel
theorem dX12_breakOne_38 : decode cX12_breakOne 38 = .ok (.getfield 16, 3) := by decide +kernel
theorem dX12_breakOne_41 : decode cX12_breakOne 41 = .ok (.iload_n 1, 1) := by decide +kernel
theorem dX12_breakOne_42 : decode cX12_breakOne 42 = .ok (.iaload, 1) := by decide +kernel
theorem dX12_breakOne_43 : decode cX12_breakOne 43 = .ok (.ireturn, 1) := by decide +kernel
theorem dX12_shut_0 : decode cX12_shut 0 = .ok (.iload_n 1, 1) := by decide +kernel
theorem dX12_shut_1 : decode cX12_shut 1 = .ok (.i2l, 1) := by decide +kernel
theorem dX12_shut_2 : decode cX12_shut 2 = .ok (.lconst 0, 1) := by decide +kernel
end
section
-- the decode rows as printed for this claim (a starting text)
theorem dX12_shut_3 : decode cX12_shut 3 = .ok (.aload_n 0, 1) := by decide +kernel
theorem dX12_shut_4 : decode cX12_shut 4 = .ok (.getfield 143, 3) := by decide +kernel
theorem dX12_shut_7 : decode cX12_shut 7 = .ok (.iconst 1, 1) := by decide +kernel
theorem dX12_shut_8 : decode cX12_shut 8 = .ok (.isub, 1) := by decide +kernel
theorem dX12_shut_9 : decode cX12_shut 9 = .ok (.i2l, 1) := by decide +kernel
theorem dX12_shut_10 : decode cX12_shut 10 = .ok (.invokestatic 79, 3) := by decide +kernel
theorem dX12_shut_13 : decode cX12_shut 13 = .ok (.ifCond .ne 6, 3) := by decide +kernel
theorem dX12_shut_16 : decode cX12_shut 16 = .ok (.ldc 190, 2) := by decide +kernel
theorem dX12_shut_18 : decode cX12_shut 18 = .ok (.ireturn, 1) := by decide +kernel
theorem dX12_shut_19 : decode cX12_shut 19 = .ok (.aload_n 0, 1) := by decide +kernel
theorem dX12_shut_20 : decode cX12_shut 20 = .ok (.invokevirtual 195, 3) := by decide +kernel
theorem dX12_shut_23 : decode cX12_shut 23 = .ok (.aload_n 0, 1) := by decide +kernel
theorem dX12_shut_24 : decode cX12_shut 24 = .ok (.getfield 16, 3) := by decide +kernel
theorem dX12_shut_27 : decode cX12_shut 27 = .ok (.bipush 19, 2) := by decide +kernel
theorem dX12_shut_29 : decode cX12_shut 29 = .ok (.iaload, 1) := by decide +kernel
theorem dX12_shut_30 : decode cX12_shut 30 = .ok (.iload_n 1, 1) := by decide +kernel
theorem dX12_shut_31 : decode cX12_shut 31 = .ok (.ishr, 1) := by decide +kernel
theorem dX12_shut_32 : decode cX12_shut 32 = .ok (.iconst 1, 1) := by decide +kernel
theorem dX12_shut_33 : decode cX12_shut 33 = .ok (.iand, 1) := by decide +kernel
theorem dX12_shut_34 : decode cX12_shut 34 = .ok (.istore_n 3, 1) := by decide +kernel
theorem dX12_shut_35 : decode cX12_shut 35 = .ok (.aload_n 0, 1) := by decide +kernel
theorem dX12_shut_36 : decode cX12_shut 36 = .ok (.getfield 16, 3) := by decide +kernel
theorem dX12_shut_39 : decode cX12_shut 39 = .ok (.bipush 19, 2) := by decide +kernel
theorem dX12_shut_41 : decode cX12_shut 41 = .ok (.iload_n 2, 1) := by decide +kernel
theorem dX12_shut_42 : decode cX12_shut 42 = .ok (.ifCond .eq 17, 3) := by decide +kernel
theorem dX12_shut_45 : decode cX12_shut 45 = .ok (.aload_n 0, 1) := by decide +kernel
theorem dX12_shut_46 : decode cX12_shut 46 = .ok (.getfield 16, 3) := by decide +kernel
theorem dX12_shut_49 : decode cX12_shut 49 = .ok (.bipush 19, 2) := by decide +kernel
theorem dX12_shut_51 : decode cX12_shut 51 = .ok (.iaload, 1) := by decide +kernel
theorem dX12_shut_52 : decode cX12_shut 52 = .ok (.iconst 1, 1) := by decide +kernel
theorem dX12_shut_53 : decode cX12_shut 53 = .ok (.iload_n 1, 1) := by decide +kernel
theorem dX12_shut_54 : decode cX12_shut 54 = .ok (.ishl, 1) := by decide +kernel
theorem dX12_shut_55 : decode cX12_shut 55 = .ok (.ior, 1) := by decide +kernel
theorem dX12_shut_56 : decode cX12_shut 56 = .ok (.goto 16, 3) := by decide +kernel
theorem dX12_shut_59 : decode cX12_shut 59 = .ok (.aload_n 0, 1) := by decide +kernel
theorem dX12_shut_60 : decode cX12_shut 60 = .ok (.getfield 16, 3) := by decide +kernel
theorem dX12_shut_63 : decode cX12_shut 63 = .ok (.bipush 19, 2) := by decide +kernel
theorem dX12_shut_65 : decode cX12_shut 65 = .ok (.iaload, 1) := by decide +kernel
theorem dX12_shut_66 : decode cX12_shut 66 = .ok (.iconst 1, 1) := by decide +kernel
theorem dX12_shut_67 : decode cX12_shut 67 = .ok (.iload_n 1, 1) := by decide +kernel
theorem dX12_shut_68 : decode cX12_shut 68 = .ok (.ishl, 1) := by decide +kernel
theorem dX12_shut_69 : decode cX12_shut 69 = .ok (.iconst (-1), 1) := by decide +kernel
theorem dX12_shut_70 : decode cX12_shut 70 = .ok (.ixor, 1) := by decide +kernel
theorem dX12_shut_71 : decode cX12_shut 71 = .ok (.iand, 1) := by decide +kernel
theorem dX12_shut_72 : decode cX12_shut 72 = .ok (.iastore, 1) := by decide +kernel
theorem dX12_shut_73 : decode cX12_shut 73 = .ok (.iload_n 3, 1) := by decide +kernel
theorem dX12_shut_74 : decode cX12_shut 74 = .ok (.ireturn, 1) := by decide +kernel
theorem dX12_draw_0 : decode cX12_draw 0 = .ok (.aload_n 0, 1) := by decide +kernel
theorem dX12_draw_1 : decode cX12_draw 1 = .ok (.aload_n 0, 1) := by decide +kernel
theorem dX12_draw_2 : decode cX12_draw 2 = .ok (.getfield 202, 3) := by decide +kernel
theorem dX12_draw_5 : decode cX12_draw 5 = .ok (.i2l, 1) := by decide +kernel
theorem dX12_draw_6 : decode cX12_draw 6 = .ok (.ldc2_w 205, 3) := by decide +kernel
theorem dX12_draw_9 : decode cX12_draw 9 = .ok (.lmul, 1) := by decide +kernel
theorem dX12_draw_10 : decode cX12_draw 10 = .ok (.ldc2_w 207, 3) := by decide +kernel
theorem dX12_draw_13 : decode cX12_draw 13 = .ok (.ladd, 1) := by decide +kernel
theorem dX12_draw_14 : decode cX12_draw 14 = .ok (.ldc2_w 209, 3) := by decide +kernel
theorem dX12_draw_17 : decode cX12_draw 17 = .ok (.lrem, 1) := by decide +kernel
theorem dX12_draw_18 : decode cX12_draw 18 = .ok (.l2i, 1) := by decide +kernel
theorem dX12_draw_19 : decode cX12_draw 19 = .ok (.putfield 202, 3) := by decide +kernel
theorem dX12_draw_22 : decode cX12_draw 22 = .ok (.aload_n 0, 1) := by decide +kernel
theorem dX12_draw_23 : decode cX12_draw 23 = .ok (.getfield 202, 3) := by decide +kernel
theorem dX12_draw_26 : decode cX12_draw 26 = .ok (.ldc 211, 2) := by decide +kernel
theorem dX12_draw_28 : decode cX12_draw 28 = .ok (.idiv, 1) := by decide +kernel
theorem dX12_draw_29 : decode cX12_draw 29 = .ok (.iload_n 1, 1) := by decide +kernel
theorem dX12_draw_30 : decode cX12_draw 30 = .ok (.irem, 1) := by decide +kernel
theorem dX12_draw_31 : decode cX12_draw 31 = .ok (.ireturn, 1) := by decide +kernel
theorem dX12_chance_0 : decode cX12_chance 0 = .ok (.aload_n 0, 1) := by decide +kernel
theorem dX12_chance_1 : decode cX12_chance 1 = .ok (.aload_n 0, 1) := by decide +kernel
theorem dX12_chance_2 : decode cX12_chance 2 = .ok (.getfield 76, 3) := by decide +kernel
theorem dX12_chance_5 : decode cX12_chance 5 = .ok (.invokevirtual 212, 3) := by decide +kernel
theorem dX12_chance_8 : decode cX12_chance 8 = .ok (.istore_n 1, 1) := by decide +kernel
theorem dX12_chance_9 : decode cX12_chance 9 = .ok (.aload_n 0, 1) := by decide +kernel
theorem dX12_chance_10 : decode cX12_chance 10 = .ok (.iconst 3, 1) := by decide +kernel
theorem dX12_chance_11 : decode cX12_chance 11 = .ok (.invokevirtual 212, 3) := by decide +kernel
theorem dX12_chance_14 : decode cX12_chance 14 = .ok (.istore_n 2, 1) := by decide +kernel
theorem dX12_chance_15 : decode cX12_chance 15 = .ok (.iload_n 2, 1) := by decide +kernel
theorem dX12_chance_16 : decode cX12_chance 16 = .ok (.ifCond .ne 35, 3) := by decide +kernel
theorem dX12_chance_19 : decode cX12_chance 19 = .ok (.aload_n 0, 1) := by decide +kernel
theorem dX12_chance_20 : decode cX12_chance 20 = .ok (.getfield 16, 3) := by decide +kernel
theorem dX12_chance_23 : decode cX12_chance 23 = .ok (.bipush 9, 2) := by decide +kernel
theorem dX12_chance_25 : decode cX12_chance 25 = .ok (.iload_n 1, 1) := by decide +kernel
theorem dX12_chance_26 : decode cX12_chance 26 = .ok (.iadd, 1) := by decide +kernel
theorem dX12_chance_27 : decode cX12_chance 27 = .ok (.dup2, 1) := by decide +kernel
theorem dX12_chance_28 : decode cX12_chance 28 = .ok (.iaload, 1) := by decide +kernel
theorem dX12_chance_29 : decode cX12_chance 29 = .ok (.aload_n 0, 1) := by decide +kernel
theorem dX12_chance_30 : decode cX12_chance 30 = .ok (.getfield 16, 3) := by decide +kernel
theorem dX12_chance_33 : decode cX12_chance 33 = .ok (.bipush 9, 2) := by decide +kernel
theorem dX12_chance_35 : decode cX12_chance 35 = .ok (.iload_n 1, 1) := by decide +kernel
theorem dX12_chance_36 : decode cX12_chance 36 = .ok (.iadd, 1) := by decide +kernel
theorem dX12_chance_37 : decode cX12_chance 37 = .ok (.iaload, 1) := by decide +kernel
theorem dX12_chance_38 : decode cX12_chance 38 = .ok (.ifCond .le 7, 3) := by decide +kernel
theorem dX12_chance_41 : decode cX12_chance 41 = .ok (.iconst 1, 1) := by decide +kernel
theorem dX12_chance_42 : decode cX12_chance 42 = .ok (.goto 4, 3) := by decide +kernel
theorem dX12_chance_45 : decode cX12_chance 45 = .ok (.iconst 0, 1) := by decide +kernel
theorem dX12_chance_46 : decode cX12_chance 46 = .ok (.isub, 1) := by decide +kernel
theorem dX12_chance_47 : decode cX12_chance 47 = .ok (.iastore, 1) := by decide +kernel
theorem dX12_chance_48 : decode cX12_chance 48 = .ok (.goto 9, 3) := by decide +kernel
theorem dX12_chance_51 : decode cX12_chance 51 = .ok (.aload_n 0, 1) := by decide +kernel
theorem dX12_chance_52 : decode cX12_chance 52 = .ok (.iload_n 1, 1) := by decide +kernel
theorem dX12_chance_53 : decode cX12_chance 53 = .ok (.invokevirtual 198, 3) := by decide +kernel
theorem dX12_chance_56 : decode cX12_chance 56 = .ok (.pop, 1) := by decide +kernel
theorem dX12_chance_57 : decode cX12_chance 57 = .ok (.return_, 1) := by decide +kernel
theorem dX12_drift_0 : decode cX12_drift 0 = .ok (.iload_n 1, 1) := by decide +kernel
theorem dX12_drift_1 : decode cX12_drift 1 = .ok (.i2l, 1) := by decide +kernel
theorem dX12_drift_2 : decode cX12_drift 2 = .ok (.lconst 1, 1) := by decide +kernel
theorem dX12_drift_3 : decode cX12_drift 3 = .ok (.ldc2_w 215, 3) := by decide +kernel
theorem dX12_drift_6 : decode cX12_drift 6 = .ok (.invokestatic 79, 3) := by decide +kernel
theorem dX12_drift_9 : decode cX12_drift 9 = .ok (.ifCond .ne 6, 3) := by decide +kernel
theorem dX12_drift_12 : decode cX12_drift 12 = .ok (.ldc 85, 2) := by decide +kernel
theorem dX12_drift_14 : decode cX12_drift 14 = .ok (.ireturn, 1) := by decide +kernel
theorem dX12_drift_15 : decode cX12_drift 15 = .ok (.aload_n 0, 1) := by decide +kernel
theorem dX12_drift_16 : decode cX12_drift 16 = .ok (.getfield 72, 3) := by decide +kernel
theorem dX12_drift_19 : decode cX12_drift 19 = .ok (.ifCond .ne 6, 3) := by decide +kernel
theorem dX12_drift_22 : decode cX12_drift 22 = .ok (.ldc 201, 2) := by decide +kernel
theorem dX12_drift_24 : decode cX12_drift 24 = .ok (.ireturn, 1) := by decide +kernel
theorem dX12_drift_25 : decode cX12_drift 25 = .ok (.aload_n 0, 1) := by decide +kernel
theorem dX12_drift_26 : decode cX12_drift 26 = .ok (.getfield 16, 3) := by decide +kernel
theorem dX12_drift_29 : decode cX12_drift 29 = .ok (.bipush 24, 2) := by decide +kernel
theorem dX12_drift_31 : decode cX12_drift 31 = .ok (.iaload, 1) := by decide +kernel
theorem dX12_drift_32 : decode cX12_drift 32 = .ok (.sipush 9000, 3) := by decide +kernel
theorem dX12_drift_35 : decode cX12_drift 35 = .ok (.if_icmp .le 6, 3) := by decide +kernel
theorem dX12_drift_38 : decode cX12_drift 38 = .ok (.ldc 89, 2) := by decide +kernel
theorem dX12_drift_40 : decode cX12_drift 40 = .ok (.ireturn, 1) := by decide +kernel
theorem dX12_drift_41 : decode cX12_drift 41 = .ok (.aload_n 0, 1) := by decide +kernel
theorem dX12_drift_42 : decode cX12_drift 42 = .ok (.invokevirtual 195, 3) := by decide +kernel
theorem dX12_drift_45 : decode cX12_drift 45 = .ok (.iconst 0, 1) := by decide +kernel
theorem dX12_drift_46 : decode cX12_drift 46 = .ok (.istore_n 2, 1) := by decide +kernel
theorem dX12_drift_47 : decode cX12_drift 47 = .ok (.iload_n 2, 1) := by decide +kernel
theorem dX12_drift_48 : decode cX12_drift 48 = .ok (.iload_n 1, 1) := by decide +kernel
theorem dX12_drift_49 : decode cX12_drift 49 = .ok (.if_icmp .ge 20, 3) := by decide +kernel
theorem dX12_drift_52 : decode cX12_drift 52 = .ok (.aload_n 0, 1) := by decide +kernel
theorem dX12_drift_53 : decode cX12_drift 53 = .ok (.getfield 76, 3) := by decide +kernel
theorem dX12_drift_56 : decode cX12_drift 56 = .ok (.ifCond .le 13, 3) := by decide +kernel
theorem dX12_drift_59 : decode cX12_drift 59 = .ok (.aload_n 0, 1) := by decide +kernel
theorem dX12_drift_60 : decode cX12_drift 60 = .ok (.invokevirtual 217, 3) := by decide +kernel
theorem dX12_drift_63 : decode cX12_drift 63 = .ok (.iinc 2 1, 3) := by decide +kernel
theorem dX12_drift_66 : decode cX12_drift 66 = .ok (.goto (-19), 3) := by decide +kernel
theorem dX12_drift_69 : decode cX12_drift 69 = .ok (.aload_n 0, 1) := by decide +kernel
theorem dX12_drift_70 : decode cX12_drift 70 = .ok (.invokevirtual 178, 3) := by decide +kernel
theorem dX12_drift_73 : decode cX12_drift 73 = .ok (.ireturn, 1) := by decide +kernel
theorem dX12_undo_0 : decode cX12_undo 0 = .ok (.aload_n 0, 1) := by decide +kernel
theorem dX12_undo_1 : decode cX12_undo 1 = .ok (.getfield 158, 3) := by decide +kernel
theorem dX12_undo_4 : decode cX12_undo 4 = .ok (.ifCond .ne 6, 3) := by decide +kernel
theorem dX12_undo_7 : decode cX12_undo 7 = .ok (.ldc 201, 2) := by decide +kernel
theorem dX12_undo_9 : decode cX12_undo 9 = .ok (.ireturn, 1) := by decide +kernel
theorem dX12_undo_10 : decode cX12_undo 10 = .ok (.aload_n 0, 1) := by decide +kernel
theorem dX12_undo_11 : decode cX12_undo 11 = .ok (.dup, 1) := by decide +kernel
theorem dX12_undo_12 : decode cX12_undo 12 = .ok (.getfield 158, 3) := by decide +kernel
theorem dX12_undo_15 : decode cX12_undo 15 = .ok (.iconst 1, 1) := by decide +kernel
theorem dX12_undo_16 : decode cX12_undo 16 = .ok (.isub, 1) := by decide +kernel
theorem dX12_undo_17 : decode cX12_undo 17 = .ok (.putfield 158, 3) := by decide +kernel
theorem dX12_undo_20 : decode cX12_undo 20 = .ok (.iconst 0, 1) := by decide +kernel
theorem dX12_undo_21 : decode cX12_undo 21 = .ok (.istore_n 1, 1) := by decide +kernel
theorem dX12_undo_22 : decode cX12_undo 22 = .ok (.iload_n 1, 1) := by decide +kernel
theorem dX12_undo_23 : decode cX12_undo 23 = .ok (.bipush 25, 2) := by decide +kernel
theorem dX12_undo_25 : decode cX12_undo 25 = .ok (.if_icmp .ge 29, 3) := by decide +kernel
theorem dX12_undo_28 : decode cX12_undo 28 = .ok (.aload_n 0, 1) := by decide +kernel
theorem dX12_undo_29 : decode cX12_undo 29 = .ok (.getfield 16, 3) := by decide +kernel
theorem dX12_undo_32 : decode cX12_undo 32 = .ok (.iload_n 1, 1) := by decide +kernel
theorem dX12_undo_33 : decode cX12_undo 33 = .ok (.aload_n 0, 1) := by decide +kernel
theorem dX12_undo_34 : decode cX12_undo 34 = .ok (.getfield 44, 3) := by decide +kernel
theorem dX12_undo_37 : decode cX12_undo 37 = .ok (.bipush 25, 2) := by decide +kernel
theorem dX12_undo_39 : decode cX12_undo 39 = .ok (.aload_n 0, 1) := by decide +kernel
theorem dX12_undo_40 : decode cX12_undo 40 = .ok (.getfield 158, 3) := by decide +kernel
theorem dX12_undo_43 : decode cX12_undo 43 = .ok (.imul, 1) := by decide +kernel
theorem dX12_undo_44 : decode cX12_undo 44 = .ok (.iload_n 1, 1) := by decide +kernel
theorem dX12_undo_45 : decode cX12_undo 45 = .ok (.iadd, 1) := by decide +kernel
theorem dX12_undo_46 : decode cX12_undo 46 = .ok (.iaload, 1) := by decide +kernel
theorem dX12_undo_47 : decode cX12_undo 47 = .ok (.iastore, 1) := by decide +kernel
theorem dX12_undo_48 : decode cX12_undo 48 = .ok (.iinc 1 1, 3) := by decide +kernel
theorem dX12_undo_51 : decode cX12_undo 51 = .ok (.goto (-29), 3) := by decide +kernel
theorem dX12_undo_54 : decode cX12_undo 54 = .ok (.aload_n 0, 1) := by decide +kernel
theorem dX12_undo_55 : decode cX12_undo 55 = .ok (.getfield 158, 3) := by decide +kernel
theorem dX12_undo_58 : decode cX12_undo 58 = .ok (.ireturn, 1) := by decide +kernel
theorem dX12_chain_0 : decode cX12_chain 0 = .ok (.aload_n 0, 1) := by decide +kernel
theorem dX12_chain_1 : decode cX12_chain 1 = .ok (.iload_n 1, 1) := by decide +kernel
theorem dX12_chain_2 : decode cX12_chain 2 = .ok (.invokevirtual 187, 3) := by decide +kernel
theorem dX12_chain_5 : decode cX12_chain 5 = .ok (.ifCond .ne 6, 3) := by decide +kernel
theorem dX12_chain_8 : decode cX12_chain 8 = .ok (.ldc 190, 2) := by decide +kernel
theorem dX12_chain_10 : decode cX12_chain 10 = .ok (.ireturn, 1) := by decide +kernel
theorem dX12_chain_11 : decode cX12_chain 11 = .ok (.aload_n 0, 1) := by decide +kernel
theorem dX12_chain_12 : decode cX12_chain 12 = .ok (.invokevirtual 175, 3) := by decide +kernel
theorem dX12_chain_15 : decode cX12_chain 15 = .ok (.aload_n 0, 1) := by decide +kernel
theorem dX12_chain_16 : decode cX12_chain 16 = .ok (.getfield 41, 3) := by decide +kernel
theorem dX12_chain_19 : decode cX12_chain 19 = .ok (.iload_n 1, 1) := by decide +kernel
theorem dX12_chain_20 : decode cX12_chain 20 = .ok (.iaload, 1) := by decide +kernel
theorem dX12_chain_21 : decode cX12_chain 21 = .ok (.sipush 1000, 3) := by decide +kernel
theorem dX12_chain_24 : decode cX12_chain 24 = .ok (.if_icmp .ne 5, 3) := by decide +kernel
theorem dX12_chain_27 : decode cX12_chain 27 = .ok (.iconst (-1), 1) := by decide +kernel
theorem dX12_chain_28 : decode cX12_chain 28 = .ok (.ireturn, 1) := by decide +kernel
theorem dX12_chain_29 : decode cX12_chain 29 = .ok (.iload_n 2, 1) := by decide +kernel
theorem dX12_chain_30 : decode cX12_chain 30 = .ok (.iconst (-1), 1) := by decide +kernel
theorem dX12_chain_31 : decode cX12_chain 31 = .ok (.if_icmp .ne 10, 3) := by decide +kernel
theorem dX12_chain_34 : decode cX12_chain 34 = .ok (.aload_n 0, 1) := by decide +kernel
theorem dX12_chain_35 : decode cX12_chain 35 = .ok (.getfield 41, 3) := by decide +kernel
theorem dX12_chain_38 : decode cX12_chain 38 = .ok (.iload_n 1, 1) := by decide +kernel
theorem dX12_chain_39 : decode cX12_chain 39 = .ok (.iaload, 1) := by decide +kernel
theorem dX12_chain_40 : decode cX12_chain 40 = .ok (.ireturn, 1) := by decide +kernel
theorem dX12_chain_41 : decode cX12_chain 41 = .ok (.iload_n 2, 1) := by decide +kernel
theorem dX12_chain_42 : decode cX12_chain 42 = .ok (.i2l, 1) := by decide +kernel
theorem dX12_chain_43 : decode cX12_chain 43 = .ok (.lconst 0, 1) := by decide +kernel
theorem dX12_chain_44 : decode cX12_chain 44 = .ok (.aload_n 0, 1) := by decide +kernel
theorem dX12_chain_45 : decode cX12_chain 45 = .ok (.getfield 41, 3) := by decide +kernel
theorem dX12_chain_48 : decode cX12_chain 48 = .ok (.iload_n 1, 1) := by decide +kernel
theorem dX12_chain_49 : decode cX12_chain 49 = .ok (.iaload, 1) := by decide +kernel
theorem dX12_chain_50 : decode cX12_chain 50 = .ok (.i2l, 1) := by decide +kernel
theorem dX12_chain_51 : decode cX12_chain 51 = .ok (.invokestatic 79, 3) := by decide +kernel
theorem dX12_chain_54 : decode cX12_chain 54 = .ok (.ifCond .ne 5, 3) := by decide +kernel
theorem dX12_chain_57 : decode cX12_chain 57 = .ok (.iconst (-1), 1) := by decide +kernel
theorem dX12_chain_58 : decode cX12_chain 58 = .ok (.ireturn, 1) := by decide +kernel
theorem dX12_chain_59 : decode cX12_chain 59 = .ok (.iload_n 1, 1) := by decide +kernel
theorem dX12_chain_60 : decode cX12_chain 60 = .ok (.istore_n 3, 1) := by decide +kernel
theorem dX12_chain_61 : decode cX12_chain 61 = .ok (.iconst 0, 1) := by decide +kernel
theorem dX12_chain_62 : decode cX12_chain 62 = .ok (.istore 4, 2) := by decide +kernel
theorem dX12_chain_64 : decode cX12_chain 64 = .ok (.iload 4, 2) := by decide +kernel
theorem dX12_chain_66 : decode cX12_chain 66 = .ok (.iload_n 2, 1) := by decide +kernel
theorem dX12_chain_67 : decode cX12_chain 67 = .ok (.if_icmp .ge 15, 3) := by decide +kernel
theorem dX12_chain_70 : decode cX12_chain 70 = .ok (.aload_n 0, 1) := by decide +kernel
theorem dX12_chain_71 : decode cX12_chain 71 = .ok (.iload_n 3, 1) := by decide +kernel
theorem dX12_chain_72 : decode cX12_chain 72 = .ok (.invokevirtual 172, 3) := by decide +kernel
theorem dX12_chain_75 : decode cX12_chain 75 = .ok (.istore_n 3, 1) := by decide +kernel
theorem dX12_chain_76 : decode cX12_chain 76 = .ok (.iinc 4 1, 3) := by decide +kernel
theorem dX12_chain_79 : decode cX12_chain 79 = .ok (.goto (-15), 3) := by decide +kernel
theorem dX12_chain_82 : decode cX12_chain 82 = .ok (.iload_n 3, 1) := by decide +kernel
theorem dX12_chain_83 : decode cX12_chain 83 = .ok (.ireturn, 1) := by decide +kernel
theorem dX12_together_0 : decode cX12_together 0 = .ok (.iconst 1, 1) := by decide +kernel
theorem dX12_together_1 : decode cX12_together 1 = .ok (.iload_n 1, 1) := by decide +kernel
theorem dX12_together_2 : decode cX12_together 2 = .ok (.ishl, 1) := by decide +kernel
theorem dX12_together_3 : decode cX12_together 3 = .ok (.istore_n 2, 1) := by decide +kernel
theorem dX12_together_4 : decode cX12_together 4 = .ok (.iconst 0, 1) := by decide +kernel
theorem dX12_together_5 : decode cX12_together 5 = .ok (.istore_n 3, 1) := by decide +kernel
theorem dX12_together_6 : decode cX12_together 6 = .ok (.iload_n 3, 1) := by decide +kernel
theorem dX12_together_7 : decode cX12_together 7 = .ok (.bipush 9, 2) := by decide +kernel
theorem dX12_together_9 : decode cX12_together 9 = .ok (.if_icmp .ge 49, 3) := by decide +kernel
theorem dX12_together_12 : decode cX12_together 12 = .ok (.iconst 0, 1) := by decide +kernel
theorem dX12_together_13 : decode cX12_together 13 = .ok (.istore 4, 2) := by decide +kernel
theorem dX12_together_15 : decode cX12_together 15 = .ok (.iload 4, 2) := by decide +kernel
theorem dX12_together_17 : decode cX12_together 17 = .ok (.aload_n 0, 1) := by decide +kernel
theorem dX12_together_18 : decode cX12_together 18 = .ok (.getfield 76, 3) := by decide +kernel
theorem dX12_together_21 : decode cX12_together 21 = .ok (.if_icmp .ge 31, 3) := by decide +kernel
theorem dX12_together_24 : decode cX12_together 24 = .ok (.iload_n 2, 1) := by decide +kernel
theorem dX12_together_25 : decode cX12_together 25 = .ok (.iload_n 2, 1) := by decide +kernel
theorem dX12_together_26 : decode cX12_together 26 = .ok (.iload 4, 2) := by decide +kernel
theorem dX12_together_28 : decode cX12_together 28 = .ok (.invokestatic 161, 3) := by decide +kernel
theorem dX12_together_31 : decode cX12_together 31 = .ok (.ifCond .eq 12, 3) := by decide +kernel
theorem dX12_together_34 : decode cX12_together 34 = .ok (.aload_n 0, 1) := by decide +kernel
theorem dX12_together_35 : decode cX12_together 35 = .ok (.iload 4, 2) := by decide +kernel
theorem dX12_together_37 : decode cX12_together 37 = .ok (.invokevirtual 169, 3) := by decide +kernel
theorem dX12_together_40 : decode cX12_together 40 = .ok (.goto 4, 3) := by decide +kernel
theorem dX12_together_43 : decode cX12_together 43 = .ok (.iconst 0, 1) := by decide +kernel
theorem dX12_together_44 : decode cX12_together 44 = .ok (.ior, 1) := by decide +kernel
theorem dX12_together_45 : decode cX12_together 45 = .ok (.istore_n 2, 1) := by decide +kernel
theorem dX12_together_46 : decode cX12_together 46 = .ok (.iinc 4 1, 3) := by decide +kernel
theorem dX12_together_49 : decode cX12_together 49 = .ok (.goto (-34), 3) := by decide +kernel
theorem dX12_together_52 : decode cX12_together 52 = .ok (.iinc 3 1, 3) := by decide +kernel
theorem dX12_together_55 : decode cX12_together 55 = .ok (.goto (-49), 3) := by decide +kernel
theorem dX12_together_58 : decode cX12_together 58 = .ok (.iload_n 2, 1) := by decide +kernel
theorem dX12_together_59 : decode cX12_together 59 = .ok (.ireturn, 1) := by decide +kernel
theorem dX12_more_0 : decode cX12_more 0 = .ok (.aload_n 0, 1) := by decide +kernel
theorem dX12_more_1 : decode cX12_more 1 = .ok (.iload_n 1, 1) := by decide +kernel
theorem dX12_more_2 : decode cX12_more 2 = .ok (.invokevirtual 187, 3) := by decide +kernel
theorem dX12_more_5 : decode cX12_more 5 = .ok (.ifCond .ne 6, 3) := by decide +kernel
theorem dX12_more_8 : decode cX12_more 8 = .ok (.ldc 190, 2) := by decide +kernel
theorem dX12_more_10 : decode cX12_more 10 = .ok (.ireturn, 1) := by decide +kernel
theorem dX12_more_11 : decode cX12_more 11 = .ok (.aload_n 0, 1) := by decide +kernel
theorem dX12_more_12 : decode cX12_more 12 = .ok (.iload_n 1, 1) := by decide +kernel
theorem dX12_more_13 : decode cX12_more 13 = .ok (.invokevirtual 220, 3) := by decide +kernel
theorem dX12_more_16 : decode cX12_more 16 = .ok (.istore_n 2, 1) := by decide +kernel
theorem dX12_more_17 : decode cX12_more 17 = .ok (.iconst 0, 1) := by decide +kernel
theorem dX12_more_18 : decode cX12_more 18 = .ok (.istore_n 3, 1) := by decide +kernel
theorem dX12_more_19 : decode cX12_more 19 = .ok (.iconst 0, 1) := by decide +kernel
theorem dX12_more_20 : decode cX12_more 20 = .ok (.istore 4, 2) := by decide +kernel
theorem dX12_more_22 : decode cX12_more 22 = .ok (.iload 4, 2) := by decide +kernel
theorem dX12_more_24 : decode cX12_more 24 = .ok (.aload_n 0, 1) := by decide +kernel
theorem dX12_more_25 : decode cX12_more 25 = .ok (.getfield 76, 3) := by decide +kernel
theorem dX12_more_28 : decode cX12_more 28 = .ok (.if_icmp .ge 43, 3) := by decide +kernel
theorem dX12_more_31 : decode cX12_more 31 = .ok (.iload_n 3, 1) := by decide +kernel
theorem dX12_more_32 : decode cX12_more 32 = .ok (.iload_n 2, 1) := by decide +kernel
theorem dX12_more_33 : decode cX12_more 33 = .ok (.iload 4, 2) := by decide +kernel
theorem dX12_more_35 : decode cX12_more 35 = .ok (.invokestatic 161, 3) := by decide +kernel
theorem dX12_more_38 : decode cX12_more 38 = .ok (.ifCond .eq 24, 3) := by decide +kernel
theorem dX12_more_41 : decode cX12_more 41 = .ok (.aload_n 0, 1) := by decide +kernel
theorem dX12_more_42 : decode cX12_more 42 = .ok (.iload 4, 2) := by decide +kernel
theorem dX12_more_44 : decode cX12_more 44 = .ok (.invokevirtual 165, 3) := by decide +kernel
theorem dX12_more_47 : decode cX12_more 47 = .ok (.iconst 1, 1) := by decide +kernel
theorem dX12_more_48 : decode cX12_more 48 = .ok (.if_icmp .le 14, 3) := by decide +kernel
theorem dX12_more_51 : decode cX12_more 51 = .ok (.aload_n 0, 1) := by decide +kernel
theorem dX12_more_52 : decode cX12_more 52 = .ok (.iload 4, 2) := by decide +kernel
theorem dX12_more_54 : decode cX12_more 54 = .ok (.invokevirtual 165, 3) := by decide +kernel
theorem dX12_more_57 : decode cX12_more 57 = .ok (.iconst 1, 1) := by decide +kernel
theorem dX12_more_58 : decode cX12_more 58 = .ok (.isub, 1) := by decide +kernel
theorem dX12_more_59 : decode cX12_more 59 = .ok (.goto 4, 3) := by decide +kernel
theorem dX12_more_62 : decode cX12_more 62 = .ok (.iconst 0, 1) := by decide +kernel
theorem dX12_more_63 : decode cX12_more 63 = .ok (.iadd, 1) := by decide +kernel
theorem dX12_more_64 : decode cX12_more 64 = .ok (.istore_n 3, 1) := by decide +kernel
theorem dX12_more_65 : decode cX12_more 65 = .ok (.iinc 4 1, 3) := by decide +kernel
theorem dX12_more_68 : decode cX12_more 68 = .ok (.goto (-46), 3) := by decide +kernel
theorem dX12_more_71 : decode cX12_more 71 = .ok (.iload_n 3, 1) := by decide +kernel
theorem dX12_more_72 : decode cX12_more 72 = .ok (.ireturn, 1) := by decide +kernel
theorem dX12_far_0 : decode cX12_far 0 = .ok (.iload_n 1, 1) := by decide +kernel
theorem dX12_far_1 : decode cX12_far 1 = .ok (.i2l, 1) := by decide +kernel
theorem dX12_far_2 : decode cX12_far 2 = .ok (.lconst 0, 1) := by decide +kernel
theorem dX12_far_3 : decode cX12_far 3 = .ok (.lconst 1, 1) := by decide +kernel
theorem dX12_far_4 : decode cX12_far 4 = .ok (.invokestatic 79, 3) := by decide +kernel
theorem dX12_far_7 : decode cX12_far 7 = .ok (.ifCond .ne 6, 3) := by decide +kernel
theorem dX12_far_10 : decode cX12_far 10 = .ok (.ldc 85, 2) := by decide +kernel
theorem dX12_far_12 : decode cX12_far 12 = .ok (.ireturn, 1) := by decide +kernel
theorem dX12_far_13 : decode cX12_far 13 = .ok (.aload_n 0, 1) := by decide +kernel
theorem dX12_far_14 : decode cX12_far 14 = .ok (.invokevirtual 175, 3) := by decide +kernel
theorem dX12_far_17 : decode cX12_far 17 = .ok (.iconst (-1), 1) := by decide +kernel
theorem dX12_far_18 : decode cX12_far 18 = .ok (.istore_n 2, 1) := by decide +kernel
theorem dX12_far_19 : decode cX12_far 19 = .ok (.iconst (-1), 1) := by decide +kernel
theorem dX12_far_20 : decode cX12_far 20 = .ok (.istore_n 3, 1) := by decide +kernel
theorem dX12_far_21 : decode cX12_far 21 = .ok (.iconst 0, 1) := by decide +kernel
theorem dX12_far_22 : decode cX12_far 22 = .ok (.istore 4, 2) := by decide +kernel
theorem dX12_far_24 : decode cX12_far 24 = .ok (.iload 4, 2) := by decide +kernel
theorem dX12_far_26 : decode cX12_far 26 = .ok (.aload_n 0, 1) := by decide +kernel
theorem dX12_far_27 : decode cX12_far 27 = .ok (.getfield 76, 3) := by decide +kernel
theorem dX12_far_30 : decode cX12_far 30 = .ok (.if_icmp .ge 50, 3) := by decide +kernel
theorem dX12_far_33 : decode cX12_far 33 = .ok (.aload_n 0, 1) := by decide +kernel
theorem dX12_far_34 : decode cX12_far 34 = .ok (.getfield 41, 3) := by decide +kernel
theorem dX12_far_37 : decode cX12_far 37 = .ok (.iload 4, 2) := by decide +kernel
theorem dX12_far_39 : decode cX12_far 39 = .ok (.iaload, 1) := by decide +kernel
theorem dX12_far_40 : decode cX12_far 40 = .ok (.iload_n 3, 1) := by decide +kernel
theorem dX12_far_41 : decode cX12_far 41 = .ok (.if_icmp .le 8, 3) := by decide +kernel
theorem dX12_far_44 : decode cX12_far 44 = .ok (.iload 4, 2) := by decide +kernel
theorem dX12_far_46 : decode cX12_far 46 = .ok (.goto 4, 3) := by decide +kernel
theorem dX12_far_49 : decode cX12_far 49 = .ok (.iload_n 2, 1) := by decide +kernel
theorem dX12_far_50 : decode cX12_far 50 = .ok (.istore_n 2, 1) := by decide +kernel
theorem dX12_far_51 : decode cX12_far 51 = .ok (.aload_n 0, 1) := by decide +kernel
theorem dX12_far_52 : decode cX12_far 52 = .ok (.getfield 41, 3) := by decide +kernel
theorem dX12_far_55 : decode cX12_far 55 = .ok (.iload 4, 2) := by decide +kernel
theorem dX12_far_57 : decode cX12_far 57 = .ok (.iaload, 1) := by decide +kernel
theorem dX12_far_58 : decode cX12_far 58 = .ok (.iload_n 3, 1) := by decide +kernel
theorem dX12_far_59 : decode cX12_far 59 = .ok (.if_icmp .le 13, 3) := by decide +kernel
theorem dX12_far_62 : decode cX12_far 62 = .ok (.aload_n 0, 1) := by decide +kernel
theorem dX12_far_63 : decode cX12_far 63 = .ok (.getfield 41, 3) := by decide +kernel
theorem dX12_far_66 : decode cX12_far 66 = .ok (.iload 4, 2) := by decide +kernel
theorem dX12_far_68 : decode cX12_far 68 = .ok (.iaload, 1) := by decide +kernel
theorem dX12_far_69 : decode cX12_far 69 = .ok (.goto 4, 3) := by decide +kernel
theorem dX12_far_72 : decode cX12_far 72 = .ok (.iload_n 3, 1) := by decide +kernel
theorem dX12_far_73 : decode cX12_far 73 = .ok (.istore_n 3, 1) := by decide +kernel
theorem dX12_far_74 : decode cX12_far 74 = .ok (.iinc 4 1, 3) := by decide +kernel
theorem dX12_far_77 : decode cX12_far 77 = .ok (.goto (-53), 3) := by decide +kernel
theorem dX12_far_80 : decode cX12_far 80 = .ok (.iload_n 1, 1) := by decide +kernel
theorem dX12_far_81 : decode cX12_far 81 = .ok (.iconst 1, 1) := by decide +kernel
theorem dX12_far_82 : decode cX12_far 82 = .ok (.if_icmp .ne 7, 3) := by decide +kernel
theorem dX12_far_85 : decode cX12_far 85 = .ok (.iload_n 2, 1) := by decide +kernel
theorem dX12_far_86 : decode cX12_far 86 = .ok (.goto 15, 3) := by decide +kernel
theorem dX12_far_89 : decode cX12_far 89 = .ok (.iload_n 3, 1) := by decide +kernel
theorem dX12_far_90 : decode cX12_far 90 = .ok (.sipush 1000, 3) := by decide +kernel
theorem dX12_far_93 : decode cX12_far 93 = .ok (.if_icmp .ne 7, 3) := by decide +kernel
theorem dX12_far_96 : decode cX12_far 96 = .ok (.iconst (-1), 1) := by decide +kernel
theorem dX12_far_97 : decode cX12_far 97 = .ok (.goto 4, 3) := by decide +kernel
theorem dX12_far_100 : decode cX12_far 100 = .ok (.iload_n 3, 1) := by decide +kernel
theorem dX12_far_101 : decode cX12_far 101 = .ok (.ireturn, 1) := by decide +kernel
theorem dX12_save_0 : decode cX12_save 0 = .ok (.iconst 0, 1) := by decide +kernel
theorem dX12_save_1 : decode cX12_save 1 = .ok (.istore_n 1, 1) := by decide +kernel
theorem dX12_save_2 : decode cX12_save 2 = .ok (.iload_n 1, 1) := by decide +kernel
theorem dX12_save_3 : decode cX12_save 3 = .ok (.bipush 25, 2) := by decide +kernel
theorem dX12_save_5 : decode cX12_save 5 = .ok (.if_icmp .ge 21, 3) := by decide +kernel
theorem dX12_save_8 : decode cX12_save 8 = .ok (.aload_n 0, 1) := by decide +kernel
theorem dX12_save_9 : decode cX12_save 9 = .ok (.getfield 47, 3) := by decide +kernel
theorem dX12_save_12 : decode cX12_save 12 = .ok (.iload_n 1, 1) := by decide +kernel
theorem dX12_save_13 : decode cX12_save 13 = .ok (.aload_n 0, 1) := by decide +kernel
theorem dX12_save_14 : decode cX12_save 14 = .ok (.getfield 16, 3) := by decide +kernel
theorem dX12_save_17 : decode cX12_save 17 = .ok (.iload_n 1, 1) := by decide +kernel
theorem dX12_save_18 : decode cX12_save 18 = .ok (.iaload, 1) := by decide +kernel
theorem dX12_save_19 : decode cX12_save 19 = .ok (.iastore, 1) := by decide +kernel
theorem dX12_save_20 : decode cX12_save 20 = .ok (.iinc 1 1, 3) := by decide +kernel
theorem dX12_save_23 : decode cX12_save 23 = .ok (.goto (-21), 3) := by decide +kernel
theorem dX12_save_26 : decode cX12_save 26 = .ok (.return_, 1) := by decide +kernel
theorem dX12_putBack_0 : decode cX12_putBack 0 = .ok (.iconst 0, 1) := by decide +kernel
theorem dX12_putBack_1 : decode cX12_putBack 1 = .ok (.istore_n 1, 1) := by decide +kernel
theorem dX12_putBack_2 : decode cX12_putBack 2 = .ok (.iload_n 1, 1) := by decide +kernel
theorem dX12_putBack_3 : decode cX12_putBack 3 = .ok (.bipush 25, 2) := by decide +kernel
theorem dX12_putBack_5 : decode cX12_putBack 5 = .ok (.if_icmp .ge 21, 3) := by decide +kernel
theorem dX12_putBack_8 : decode cX12_putBack 8 = .ok (.aload_n 0, 1) := by decide +kernel
theorem dX12_putBack_9 : decode cX12_putBack 9 = .ok (.getfield 16, 3) := by decide +kernel
theorem dX12_putBack_12 : decode cX12_putBack 12 = .ok (.iload_n 1, 1) := by decide +kernel
theorem dX12_putBack_13 : decode cX12_putBack 13 = .ok (.aload_n 0, 1) := by decide +kernel
theorem dX12_putBack_14 : decode cX12_putBack 14 = .ok (.getfield 47, 3) := by decide +kernel
theorem dX12_putBack_17 : decode cX12_putBack 17 = .ok (.iload_n 1, 1) := by decide +kernel
theorem dX12_putBack_18 : decode cX12_putBack 18 = .ok (.iaload, 1) := by decide +kernel
theorem dX12_putBack_19 : decode cX12_putBack 19 = .ok (.iastore, 1) := by decide +kernel
theorem dX12_putBack_20 : decode cX12_putBack 20 = .ok (.iinc 1 1, 3) := by decide +kernel
theorem dX12_putBack_23 : decode cX12_putBack 23 = .ok (.goto (-21), 3) := by decide +kernel
theorem dX12_putBack_26 : decode cX12_putBack 26 = .ok (.return_, 1) := by decide +kernel
theorem dX12_bothMoves_0 : decode cX12_bothMoves 0 = .ok (.aload_n 0, 1) := by decide +kernel
theorem dX12_bothMoves_1 : decode cX12_bothMoves 1 = .ok (.iload_n 1, 1) := by decide +kernel
theorem dX12_bothMoves_2 : decode cX12_bothMoves 2 = .ok (.invokevirtual 198, 3) := by decide +kernel
theorem dX12_bothMoves_5 : decode cX12_bothMoves 5 = .ok (.istore_n 3, 1) := by decide +kernel
theorem dX12_bothMoves_6 : decode cX12_bothMoves 6 = .ok (.aload_n 0, 1) := by decide +kernel
theorem dX12_bothMoves_7 : decode cX12_bothMoves 7 = .ok (.iload_n 2, 1) := by decide +kernel
theorem dX12_bothMoves_8 : decode cX12_bothMoves 8 = .ok (.invokevirtual 198, 3) := by decide +kernel
theorem dX12_bothMoves_11 : decode cX12_bothMoves 11 = .ok (.istore 4, 2) := by decide +kernel
theorem dX12_bothMoves_13 : decode cX12_bothMoves 13 = .ok (.aload_n 0, 1) := by decide +kernel
theorem dX12_bothMoves_14 : decode cX12_bothMoves 14 = .ok (.invokevirtual 223, 3) := by decide +kernel
theorem dX12_bothMoves_17 : decode cX12_bothMoves 17 = .ok (.iload_n 3, 1) := by decide +kernel
theorem dX12_bothMoves_18 : decode cX12_bothMoves 18 = .ok (.ifCond .ge 9, 3) := by decide +kernel
theorem dX12_bothMoves_21 : decode cX12_bothMoves 21 = .ok (.sipush 1000, 3) := by decide +kernel
theorem dX12_bothMoves_24 : decode cX12_bothMoves 24 = .ok (.goto 4, 3) := by decide +kernel
theorem dX12_bothMoves_27 : decode cX12_bothMoves 27 = .ok (.iload_n 3, 1) := by decide +kernel
theorem dX12_bothMoves_28 : decode cX12_bothMoves 28 = .ok (.iload 4, 2) := by decide +kernel
theorem dX12_bothMoves_30 : decode cX12_bothMoves 30 = .ok (.ifCond .ge 9, 3) := by decide +kernel
theorem dX12_bothMoves_33 : decode cX12_bothMoves 33 = .ok (.sipush 1000, 3) := by decide +kernel
theorem dX12_bothMoves_36 : decode cX12_bothMoves 36 = .ok (.goto 5, 3) := by decide +kernel
theorem dX12_bothMoves_39 : decode cX12_bothMoves 39 = .ok (.iload 4, 2) := by decide +kernel
theorem dX12_bothMoves_41 : decode cX12_bothMoves 41 = .ok (.iadd, 1) := by decide +kernel
theorem dX12_bothMoves_42 : decode cX12_bothMoves 42 = .ok (.ireturn, 1) := by decide +kernel
theorem dX12_two_0 : decode cX12_two 0 = .ok (.aload_n 0, 1) := by decide +kernel
theorem dX12_two_1 : decode cX12_two 1 = .ok (.iload_n 1, 1) := by decide +kernel
theorem dX12_two_2 : decode cX12_two 2 = .ok (.invokevirtual 187, 3) := by decide +kernel
theorem dX12_two_5 : decode cX12_two 5 = .ok (.ifCond .eq 11, 3) := by decide +kernel
theorem dX12_two_8 : decode cX12_two 8 = .ok (.aload_n 0, 1) := by decide +kernel
theorem dX12_two_9 : decode cX12_two 9 = .ok (.iload_n 2, 1) := by decide +kernel
theorem dX12_two_10 : decode cX12_two 10 = .ok (.invokevirtual 187, 3) := by decide +kernel
theorem dX12_two_13 : decode cX12_two 13 = .ok (.ifCond .ne 6, 3) := by decide +kernel
theorem dX12_two_16 : decode cX12_two 16 = .ok (.ldc 190, 2) := by decide +kernel
theorem dX12_two_18 : decode cX12_two 18 = .ok (.ireturn, 1) := by decide +kernel
theorem dX12_two_19 : decode cX12_two 19 = .ok (.iload_n 3, 1) := by decide +kernel
theorem dX12_two_20 : decode cX12_two 20 = .ok (.i2l, 1) := by decide +kernel
theorem dX12_two_21 : decode cX12_two 21 = .ok (.lconst 0, 1) := by decide +kernel
theorem dX12_two_22 : decode cX12_two 22 = .ok (.lconst 1, 1) := by decide +kernel
theorem dX12_two_23 : decode cX12_two 23 = .ok (.invokestatic 79, 3) := by decide +kernel
theorem dX12_two_26 : decode cX12_two 26 = .ok (.ifCond .ne 6, 3) := by decide +kernel
theorem dX12_two_29 : decode cX12_two 29 = .ok (.ldc 85, 2) := by decide +kernel
theorem dX12_two_31 : decode cX12_two 31 = .ok (.ireturn, 1) := by decide +kernel
theorem dX12_two_32 : decode cX12_two 32 = .ok (.aload_n 0, 1) := by decide +kernel
theorem dX12_two_33 : decode cX12_two 33 = .ok (.invokevirtual 226, 3) := by decide +kernel
theorem dX12_two_36 : decode cX12_two 36 = .ok (.aload_n 0, 1) := by decide +kernel
theorem dX12_two_37 : decode cX12_two 37 = .ok (.iload_n 1, 1) := by decide +kernel
theorem dX12_two_38 : decode cX12_two 38 = .ok (.iload_n 2, 1) := by decide +kernel
theorem dX12_two_39 : decode cX12_two 39 = .ok (.invokevirtual 229, 3) := by decide +kernel
theorem dX12_two_42 : decode cX12_two 42 = .ok (.istore 4, 2) := by decide +kernel
theorem dX12_two_44 : decode cX12_two 44 = .ok (.aload_n 0, 1) := by decide +kernel
theorem dX12_two_45 : decode cX12_two 45 = .ok (.iload_n 2, 1) := by decide +kernel
theorem dX12_two_46 : decode cX12_two 46 = .ok (.iload_n 1, 1) := by decide +kernel
theorem dX12_two_47 : decode cX12_two 47 = .ok (.invokevirtual 229, 3) := by decide +kernel
theorem dX12_two_50 : decode cX12_two 50 = .ok (.istore 5, 2) := by decide +kernel
theorem dX12_two_52 : decode cX12_two 52 = .ok (.iload_n 3, 1) := by decide +kernel
theorem dX12_two_53 : decode cX12_two 53 = .ok (.ifCond .ne 16, 3) := by decide +kernel
theorem dX12_two_56 : decode cX12_two 56 = .ok (.iload 5, 2) := by decide +kernel
theorem dX12_two_58 : decode cX12_two 58 = .ok (.iload 4, 2) := by decide +kernel
theorem dX12_two_60 : decode cX12_two 60 = .ok (.if_icmp .ge 7, 3) := by decide +kernel
theorem dX12_two_63 : decode cX12_two 63 = .ok (.iconst 1, 1) := by decide +kernel
theorem dX12_two_64 : decode cX12_two 64 = .ok (.goto 4, 3) := by decide +kernel
theorem dX12_two_67 : decode cX12_two 67 = .ok (.iconst 0, 1) := by decide +kernel
theorem dX12_two_68 : decode cX12_two 68 = .ok (.ireturn, 1) := by decide +kernel
theorem dX12_two_69 : decode cX12_two 69 = .ok (.iload 5, 2) := by decide +kernel
theorem dX12_two_71 : decode cX12_two 71 = .ok (.iload 4, 2) := by decide +kernel
theorem dX12_two_73 : decode cX12_two 73 = .ok (.if_icmp .ge 8, 3) := by decide +kernel
theorem dX12_two_76 : decode cX12_two 76 = .ok (.iload 5, 2) := by decide +kernel
theorem dX12_two_78 : decode cX12_two 78 = .ok (.goto 5, 3) := by decide +kernel
theorem dX12_two_81 : decode cX12_two 81 = .ok (.iload 4, 2) := by decide +kernel
theorem dX12_two_83 : decode cX12_two 83 = .ok (.ireturn, 1) := by decide +kernel
theorem dX12_allNear_0 : decode cX12_allNear 0 = .ok (.aload_n 0, 1) := by decide +kernel
theorem dX12_allNear_1 : decode cX12_allNear 1 = .ok (.invokevirtual 175, 3) := by decide +kernel
theorem dX12_allNear_4 : decode cX12_allNear 4 = .ok (.iconst 1, 1) := by decide +kernel
theorem dX12_allNear_5 : decode cX12_allNear 5 = .ok (.istore_n 3, 1) := by decide +kernel
theorem dX12_allNear_6 : decode cX12_allNear 6 = .ok (.iconst 0, 1) := by decide +kernel
theorem dX12_allNear_7 : decode cX12_allNear 7 = .ok (.istore 4, 2) := by decide +kernel
theorem dX12_allNear_9 : decode cX12_allNear 9 = .ok (.iload 4, 2) := by decide +kernel
theorem dX12_allNear_11 : decode cX12_allNear 11 = .ok (.aload_n 0, 1) := by decide +kernel
theorem dX12_allNear_12 : decode cX12_allNear 12 = .ok (.getfield 76, 3) := by decide +kernel
theorem dX12_allNear_15 : decode cX12_allNear 15 = .ok (.if_icmp .ge 39, 3) := by decide +kernel
theorem dX12_allNear_18 : decode cX12_allNear 18 = .ok (.iload_n 3, 1) := by decide +kernel
theorem dX12_allNear_19 : decode cX12_allNear 19 = .ok (.ifCond .eq 27, 3) := by decide +kernel
theorem dX12_allNear_22 : decode cX12_allNear 22 = .ok (.iload_n 1, 1) := by decide +kernel
theorem dX12_allNear_23 : decode cX12_allNear 23 = .ok (.iload 4, 2) := by decide +kernel
theorem dX12_allNear_25 : decode cX12_allNear 25 = .ok (.invokestatic 161, 3) := by decide +kernel
theorem dX12_allNear_28 : decode cX12_allNear 28 = .ok (.ifCond .eq 14, 3) := by decide +kernel
theorem dX12_allNear_31 : decode cX12_allNear 31 = .ok (.aload_n 0, 1) := by decide +kernel
theorem dX12_allNear_32 : decode cX12_allNear 32 = .ok (.getfield 41, 3) := by decide +kernel
theorem dX12_allNear_35 : decode cX12_allNear 35 = .ok (.iload 4, 2) := by decide +kernel
theorem dX12_allNear_37 : decode cX12_allNear 37 = .ok (.iaload, 1) := by decide +kernel
theorem dX12_allNear_38 : decode cX12_allNear 38 = .ok (.iload_n 2, 1) := by decide +kernel
theorem dX12_allNear_39 : decode cX12_allNear 39 = .ok (.if_icmp .gt 7, 3) := by decide +kernel
theorem dX12_allNear_42 : decode cX12_allNear 42 = .ok (.iconst 1, 1) := by decide +kernel
theorem dX12_allNear_43 : decode cX12_allNear 43 = .ok (.goto 4, 3) := by decide +kernel
theorem dX12_allNear_46 : decode cX12_allNear 46 = .ok (.iconst 0, 1) := by decide +kernel
theorem dX12_allNear_47 : decode cX12_allNear 47 = .ok (.istore_n 3, 1) := by decide +kernel
theorem dX12_allNear_48 : decode cX12_allNear 48 = .ok (.iinc 4 1, 3) := by decide +kernel
theorem dX12_allNear_51 : decode cX12_allNear 51 = .ok (.goto (-42), 3) := by decide +kernel
theorem dX12_allNear_54 : decode cX12_allNear 54 = .ok (.iload_n 3, 1) := by decide +kernel
theorem dX12_allNear_55 : decode cX12_allNear 55 = .ok (.ireturn, 1) := by decide +kernel
theorem dX12_buildBy_0 : decode cX12_buildBy 0 = .ok (.iload_n 1, 1) := by decide +kernel
theorem dX12_buildBy_1 : decode cX12_buildBy 1 = .ok (.istore_n 3, 1) := by decide +kernel
theorem dX12_buildBy_2 : decode cX12_buildBy 2 = .ok (.bipush 9, 2) := by decide +kernel
theorem dX12_buildBy_4 : decode cX12_buildBy 4 = .ok (.istore 4, 2) := by decide +kernel
theorem dX12_buildBy_6 : decode cX12_buildBy 6 = .ok (.iconst 1, 1) := by decide +kernel
theorem dX12_buildBy_7 : decode cX12_buildBy 7 = .ok (.istore 5, 2) := by decide +kernel
theorem dX12_buildBy_9 : decode cX12_buildBy 9 = .ok (.iconst 0, 1) := by decide +kernel
theorem dX12_buildBy_10 : decode cX12_buildBy 10 = .ok (.istore 6, 2) := by decide +kernel
theorem dX12_buildBy_12 : decode cX12_buildBy 12 = .ok (.iload 6, 2) := by decide +kernel
theorem dX12_buildBy_14 : decode cX12_buildBy 14 = .ok (.iload_n 2, 1) := by decide +kernel
theorem dX12_buildBy_15 : decode cX12_buildBy 15 = .ok (.if_icmp .ge 96, 3) := by decide +kernel
theorem dX12_buildBy_18 : decode cX12_buildBy 18 = .ok (.iload_n 3, 1) := by decide +kernel
theorem dX12_buildBy_19 : decode cX12_buildBy 19 = .ok (.bipush 9, 2) := by decide +kernel
theorem dX12_buildBy_21 : decode cX12_buildBy 21 = .ok (.irem, 1) := by decide +kernel
theorem dX12_buildBy_22 : decode cX12_buildBy 22 = .ok (.istore 7, 2) := by decide +kernel
theorem dX12_buildBy_24 : decode cX12_buildBy 24 = .ok (.iload_n 3, 1) := by decide +kernel
theorem dX12_buildBy_25 : decode cX12_buildBy 25 = .ok (.bipush 9, 2) := by decide +kernel
theorem dX12_buildBy_27 : decode cX12_buildBy 27 = .ok (.idiv, 1) := by decide +kernel
theorem dX12_buildBy_28 : decode cX12_buildBy 28 = .ok (.istore_n 3, 1) := by decide +kernel
theorem dX12_buildBy_29 : decode cX12_buildBy 29 = .ok (.iload 5, 2) := by decide +kernel
theorem dX12_buildBy_31 : decode cX12_buildBy 31 = .ok (.ifCond .eq 23, 3) := by decide +kernel
theorem dX12_buildBy_34 : decode cX12_buildBy 34 = .ok (.iload 7, 2) := by decide +kernel
theorem dX12_buildBy_36 : decode cX12_buildBy 36 = .ok (.iload 4, 2) := by decide +kernel
theorem dX12_buildBy_38 : decode cX12_buildBy 38 = .ok (.if_icmp .gt 16, 3) := by decide +kernel
theorem dX12_buildBy_41 : decode cX12_buildBy 41 = .ok (.iload 7, 2) := by decide +kernel
theorem dX12_buildBy_43 : decode cX12_buildBy 43 = .ok (.aload_n 0, 1) := by decide +kernel
theorem dX12_buildBy_44 : decode cX12_buildBy 44 = .ok (.getfield 76, 3) := by decide +kernel
theorem dX12_buildBy_47 : decode cX12_buildBy 47 = .ok (.if_icmp .ge 7, 3) := by decide +kernel
theorem dX12_buildBy_50 : decode cX12_buildBy 50 = .ok (.iconst 1, 1) := by decide +kernel
theorem dX12_buildBy_51 : decode cX12_buildBy 51 = .ok (.goto 4, 3) := by decide +kernel
theorem dX12_buildBy_54 : decode cX12_buildBy 54 = .ok (.iconst 0, 1) := by decide +kernel
theorem dX12_buildBy_55 : decode cX12_buildBy 55 = .ok (.istore 5, 2) := by decide +kernel
theorem dX12_buildBy_57 : decode cX12_buildBy 57 = .ok (.iload 7, 2) := by decide +kernel
theorem dX12_buildBy_59 : decode cX12_buildBy 59 = .ok (.istore 4, 2) := by decide +kernel
theorem dX12_buildBy_61 : decode cX12_buildBy 61 = .ok (.aload_n 0, 1) := by decide +kernel
theorem dX12_buildBy_62 : decode cX12_buildBy 62 = .ok (.getfield 16, 3) := by decide +kernel
theorem dX12_buildBy_65 : decode cX12_buildBy 65 = .ok (.iload 7, 2) := by decide +kernel
theorem dX12_buildBy_67 : decode cX12_buildBy 67 = .ok (.dup2, 1) := by decide +kernel
theorem dX12_buildBy_68 : decode cX12_buildBy 68 = .ok (.iaload, 1) := by decide +kernel
theorem dX12_buildBy_69 : decode cX12_buildBy 69 = .ok (.iload 5, 2) := by decide +kernel
theorem dX12_buildBy_71 : decode cX12_buildBy 71 = .ok (.ifCond .eq 7, 3) := by decide +kernel
theorem dX12_buildBy_74 : decode cX12_buildBy 74 = .ok (.iconst 1, 1) := by decide +kernel
theorem dX12_buildBy_75 : decode cX12_buildBy 75 = .ok (.goto 4, 3) := by decide +kernel
theorem dX12_buildBy_78 : decode cX12_buildBy 78 = .ok (.iconst 0, 1) := by decide +kernel
theorem dX12_buildBy_79 : decode cX12_buildBy 79 = .ok (.iadd, 1) := by decide +kernel
theorem dX12_buildBy_80 : decode cX12_buildBy 80 = .ok (.iastore, 1) := by decide +kernel
theorem dX12_buildBy_81 : decode cX12_buildBy 81 = .ok (.iload 5, 2) := by decide +kernel
theorem dX12_buildBy_83 : decode cX12_buildBy 83 = .ok (.ifCond .eq 19, 3) := by decide +kernel
theorem dX12_buildBy_86 : decode cX12_buildBy 86 = .ok (.aload_n 0, 1) := by decide +kernel
theorem dX12_buildBy_87 : decode cX12_buildBy 87 = .ok (.getfield 16, 3) := by decide +kernel
theorem dX12_buildBy_90 : decode cX12_buildBy 90 = .ok (.iload 7, 2) := by decide +kernel
theorem dX12_buildBy_92 : decode cX12_buildBy 92 = .ok (.iaload, 1) := by decide +kernel
theorem dX12_buildBy_93 : decode cX12_buildBy 93 = .ok (.bipush 20, 2) := by decide +kernel
theorem dX12_buildBy_95 : decode cX12_buildBy 95 = .ok (.if_icmp .gt 7, 3) := by decide +kernel
theorem dX12_buildBy_98 : decode cX12_buildBy 98 = .ok (.iconst 1, 1) := by decide +kernel
theorem dX12_buildBy_99 : decode cX12_buildBy 99 = .ok (.goto 4, 3) := by decide +kernel
theorem dX12_buildBy_102 : decode cX12_buildBy 102 = .ok (.iconst 0, 1) := by decide +kernel
theorem dX12_buildBy_103 : decode cX12_buildBy 103 = .ok (.istore 5, 2) := by decide +kernel
theorem dX12_buildBy_105 : decode cX12_buildBy 105 = .ok (.iinc 6 1, 3) := by decide +kernel
theorem dX12_buildBy_108 : decode cX12_buildBy 108 = .ok (.goto (-96), 3) := by decide +kernel
theorem dX12_buildBy_111 : decode cX12_buildBy 111 = .ok (.iload 5, 2) := by decide +kernel
theorem dX12_buildBy_113 : decode cX12_buildBy 113 = .ok (.ireturn, 1) := by decide +kernel
theorem dX12_findChairs_0 : decode cX12_findChairs 0 = .ok (.aload_n 0, 1) := by decide +kernel
theorem dX12_findChairs_1 : decode cX12_findChairs 1 = .ok (.invokevirtual 226, 3) := by decide +kernel
theorem dX12_findChairs_4 : decode cX12_findChairs 4 = .ok (.iconst 1, 1) := by decide +kernel
theorem dX12_findChairs_5 : decode cX12_findChairs 5 = .ok (.istore_n 3, 1) := by decide +kernel
theorem dX12_findChairs_6 : decode cX12_findChairs 6 = .ok (.iconst 0, 1) := by decide +kernel
theorem dX12_findChairs_7 : decode cX12_findChairs 7 = .ok (.istore 4, 2) := by decide +kernel
theorem dX12_findChairs_9 : decode cX12_findChairs 9 = .ok (.iload 4, 2) := by decide +kernel
theorem dX12_findChairs_11 : decode cX12_findChairs 11 = .ok (.iconst 5, 1) := by decide +kernel
theorem dX12_findChairs_12 : decode cX12_findChairs 12 = .ok (.if_icmp .ge 106, 3) := by decide +kernel
theorem dX12_findChairs_15 : decode cX12_findChairs 15 = .ok (.iconst 0, 1) := by decide +kernel
theorem dX12_findChairs_16 : decode cX12_findChairs 16 = .ok (.istore 5, 2) := by decide +kernel
theorem dX12_findChairs_18 : decode cX12_findChairs 18 = .ok (.iload 5, 2) := by decide +kernel
theorem dX12_findChairs_20 : decode cX12_findChairs 20 = .ok (.iload_n 3, 1) := by decide +kernel
theorem dX12_findChairs_21 : decode cX12_findChairs 21 = .ok (.if_icmp .ge 86, 3) := by decide +kernel
theorem dX12_findChairs_24 : decode cX12_findChairs 24 = .ok (.aload_n 0, 1) := by decide +kernel
theorem dX12_findChairs_25 : decode cX12_findChairs 25 = .ok (.iload 5, 2) := by decide +kernel
theorem dX12_findChairs_27 : decode cX12_findChairs 27 = .ok (.iload 4, 2) := by decide +kernel
theorem dX12_findChairs_29 : decode cX12_findChairs 29 = .ok (.invokevirtual 232, 3) := by decide +kernel
theorem dX12_findChairs_32 : decode cX12_findChairs 32 = .ok (.ifCond .eq 16, 3) := by decide +kernel
theorem dX12_findChairs_35 : decode cX12_findChairs 35 = .ok (.aload_n 0, 1) := by decide +kernel
theorem dX12_findChairs_36 : decode cX12_findChairs 36 = .ok (.iload_n 1, 1) := by decide +kernel
theorem dX12_findChairs_37 : decode cX12_findChairs 37 = .ok (.iload_n 2, 1) := by decide +kernel
theorem dX12_findChairs_38 : decode cX12_findChairs 38 = .ok (.invokevirtual 235, 3) := by decide +kernel
theorem dX12_findChairs_41 : decode cX12_findChairs 41 = .ok (.ifCond .eq 7, 3) := by decide +kernel
theorem dX12_findChairs_44 : decode cX12_findChairs 44 = .ok (.iconst 1, 1) := by decide +kernel
theorem dX12_findChairs_45 : decode cX12_findChairs 45 = .ok (.goto 4, 3) := by decide +kernel
theorem dX12_findChairs_48 : decode cX12_findChairs 48 = .ok (.iconst 0, 1) := by decide +kernel
theorem dX12_findChairs_49 : decode cX12_findChairs 49 = .ok (.istore 6, 2) := by decide +kernel
theorem dX12_findChairs_51 : decode cX12_findChairs 51 = .ok (.iconst 0, 1) := by decide +kernel
theorem dX12_findChairs_52 : decode cX12_findChairs 52 = .ok (.istore 7, 2) := by decide +kernel
theorem dX12_findChairs_54 : decode cX12_findChairs 54 = .ok (.iload 7, 2) := by decide +kernel
theorem dX12_findChairs_56 : decode cX12_findChairs 56 = .ok (.bipush 9, 2) := by decide +kernel
theorem dX12_findChairs_58 : decode cX12_findChairs 58 = .ok (.if_icmp .ge 31, 3) := by decide +kernel
theorem dX12_findChairs_61 : decode cX12_findChairs 61 = .ok (.aload_n 0, 1) := by decide +kernel
theorem dX12_findChairs_62 : decode cX12_findChairs 62 = .ok (.getfield 50, 3) := by decide +kernel
theorem dX12_findChairs_65 : decode cX12_findChairs 65 = .ok (.iload 7, 2) := by decide +kernel
theorem dX12_findChairs_67 : decode cX12_findChairs 67 = .ok (.aload_n 0, 1) := by decide +kernel
theorem dX12_findChairs_68 : decode cX12_findChairs 68 = .ok (.getfield 16, 3) := by decide +kernel
theorem dX12_findChairs_71 : decode cX12_findChairs 71 = .ok (.iload 7, 2) := by decide +kernel
theorem dX12_findChairs_73 : decode cX12_findChairs 73 = .ok (.iaload, 1) := by decide +kernel
theorem dX12_findChairs_74 : decode cX12_findChairs 74 = .ok (.aload_n 0, 1) := by decide +kernel
theorem dX12_findChairs_75 : decode cX12_findChairs 75 = .ok (.getfield 47, 3) := by decide +kernel
theorem dX12_findChairs_78 : decode cX12_findChairs 78 = .ok (.iload 7, 2) := by decide +kernel
theorem dX12_findChairs_80 : decode cX12_findChairs 80 = .ok (.iaload, 1) := by decide +kernel
theorem dX12_findChairs_81 : decode cX12_findChairs 81 = .ok (.isub, 1) := by decide +kernel
theorem dX12_findChairs_82 : decode cX12_findChairs 82 = .ok (.iastore, 1) := by decide +kernel
theorem dX12_findChairs_83 : decode cX12_findChairs 83 = .ok (.iinc 7 1, 3) := by decide +kernel
theorem dX12_findChairs_86 : decode cX12_findChairs 86 = .ok (.goto (-32), 3) := by decide +kernel
theorem dX12_findChairs_89 : decode cX12_findChairs 89 = .ok (.aload_n 0, 1) := by decide +kernel
theorem dX12_findChairs_90 : decode cX12_findChairs 90 = .ok (.invokevirtual 223, 3) := by decide +kernel
theorem dX12_findChairs_93 : decode cX12_findChairs 93 = .ok (.iload 6, 2) := by decide +kernel
theorem dX12_findChairs_95 : decode cX12_findChairs 95 = .ok (.ifCond .eq 6, 3) := by decide +kernel
theorem dX12_findChairs_98 : decode cX12_findChairs 98 = .ok (.iload 4, 2) := by decide +kernel
theorem dX12_findChairs_100 : decode cX12_findChairs 100 = .ok (.ireturn, 1) := by decide +kernel
theorem dX12_findChairs_101 : decode cX12_findChairs 101 = .ok (.iinc 5 1, 3) := by decide +kernel
theorem dX12_findChairs_104 : decode cX12_findChairs 104 = .ok (.goto (-86), 3) := by decide +kernel
theorem dX12_findChairs_107 : decode cX12_findChairs 107 = .ok (.iload_n 3, 1) := by decide +kernel
theorem dX12_findChairs_108 : decode cX12_findChairs 108 = .ok (.bipush 9, 2) := by decide +kernel
theorem dX12_findChairs_110 : decode cX12_findChairs 110 = .ok (.imul, 1) := by decide +kernel
theorem dX12_findChairs_111 : decode cX12_findChairs 111 = .ok (.istore_n 3, 1) := by decide +kernel
theorem dX12_findChairs_112 : decode cX12_findChairs 112 = .ok (.iinc 4 1, 3) := by decide +kernel
theorem dX12_findChairs_115 : decode cX12_findChairs 115 = .ok (.goto (-106), 3) := by decide +kernel
theorem dX12_findChairs_118 : decode cX12_findChairs 118 = .ok (.iconst (-1), 1) := by decide +kernel
theorem dX12_findChairs_119 : decode cX12_findChairs 119 = .ok (.ireturn, 1) := by decide +kernel
theorem dX12_chairs_0 : decode cX12_chairs 0 = .ok (.iload_n 1, 1) := by decide +kernel
theorem dX12_chairs_1 : decode cX12_chairs 1 = .ok (.i2l, 1) := by decide +kernel
theorem dX12_chairs_2 : decode cX12_chairs 2 = .ok (.lconst 0, 1) := by decide +kernel
theorem dX12_chairs_3 : decode cX12_chairs 3 = .ok (.iconst 1, 1) := by decide +kernel
theorem dX12_chairs_4 : decode cX12_chairs 4 = .ok (.aload_n 0, 1) := by decide +kernel
theorem dX12_chairs_5 : decode cX12_chairs 5 = .ok (.getfield 76, 3) := by decide +kernel
theorem dX12_chairs_8 : decode cX12_chairs 8 = .ok (.ishl, 1) := by decide +kernel
theorem dX12_chairs_9 : decode cX12_chairs 9 = .ok (.iconst 1, 1) := by decide +kernel
theorem dX12_chairs_10 : decode cX12_chairs 10 = .ok (.isub, 1) := by decide +kernel
theorem dX12_chairs_11 : decode cX12_chairs 11 = .ok (.i2l, 1) := by decide +kernel
theorem dX12_chairs_12 : decode cX12_chairs 12 = .ok (.invokestatic 79, 3) := by decide +kernel
theorem dX12_chairs_15 : decode cX12_chairs 15 = .ok (.ifCond .eq 16, 3) := by decide +kernel
theorem dX12_chairs_18 : decode cX12_chairs 18 = .ok (.iload_n 3, 1) := by decide +kernel
theorem dX12_chairs_19 : decode cX12_chairs 19 = .ok (.iconst (-1), 1) := by decide +kernel
theorem dX12_chairs_20 : decode cX12_chairs 20 = .ok (.if_icmp .eq 14, 3) := by decide +kernel
theorem dX12_chairs_23 : decode cX12_chairs 23 = .ok (.aload_n 0, 1) := by decide +kernel
theorem dX12_chairs_24 : decode cX12_chairs 24 = .ok (.iload_n 3, 1) := by decide +kernel
theorem dX12_chairs_25 : decode cX12_chairs 25 = .ok (.invokevirtual 187, 3) := by decide +kernel
theorem dX12_chairs_28 : decode cX12_chairs 28 = .ok (.ifCond .ne 6, 3) := by decide +kernel
theorem dX12_chairs_31 : decode cX12_chairs 31 = .ok (.ldc 190, 2) := by decide +kernel
theorem dX12_chairs_33 : decode cX12_chairs 33 = .ok (.ireturn, 1) := by decide +kernel
theorem dX12_chairs_34 : decode cX12_chairs 34 = .ok (.iload_n 2, 1) := by decide +kernel
theorem dX12_chairs_35 : decode cX12_chairs 35 = .ok (.i2l, 1) := by decide +kernel
theorem dX12_chairs_36 : decode cX12_chairs 36 = .ok (.lconst 0, 1) := by decide +kernel
theorem dX12_chairs_37 : decode cX12_chairs 37 = .ok (.ldc2_w 238, 3) := by decide +kernel
theorem dX12_chairs_40 : decode cX12_chairs 40 = .ok (.invokestatic 79, 3) := by decide +kernel
theorem dX12_chairs_43 : decode cX12_chairs 43 = .ok (.ifCond .ne 6, 3) := by decide +kernel
theorem dX12_chairs_46 : decode cX12_chairs 46 = .ok (.ldc 85, 2) := by decide +kernel
theorem dX12_chairs_48 : decode cX12_chairs 48 = .ok (.ireturn, 1) := by decide +kernel
theorem dX12_chairs_49 : decode cX12_chairs 49 = .ok (.aload_n 0, 1) := by decide +kernel
theorem dX12_chairs_50 : decode cX12_chairs 50 = .ok (.iload_n 1, 1) := by decide +kernel
theorem dX12_chairs_51 : decode cX12_chairs 51 = .ok (.iload_n 2, 1) := by decide +kernel
theorem dX12_chairs_52 : decode cX12_chairs 52 = .ok (.invokevirtual 240, 3) := by decide +kernel
theorem dX12_chairs_55 : decode cX12_chairs 55 = .ok (.istore 4, 2) := by decide +kernel
theorem dX12_chairs_57 : decode cX12_chairs 57 = .ok (.iload 4, 2) := by decide +kernel
theorem dX12_chairs_59 : decode cX12_chairs 59 = .ok (.ifCond .lt 8, 3) := by decide +kernel
theorem dX12_chairs_62 : decode cX12_chairs 62 = .ok (.iload_n 3, 1) := by decide +kernel
theorem dX12_chairs_63 : decode cX12_chairs 63 = .ok (.iconst (-1), 1) := by decide +kernel
theorem dX12_chairs_64 : decode cX12_chairs 64 = .ok (.if_icmp .ne 8, 3) := by decide +kernel
theorem dX12_chairs_67 : decode cX12_chairs 67 = .ok (.iload 4, 2) := by decide +kernel
theorem dX12_chairs_69 : decode cX12_chairs 69 = .ok (.goto 9, 3) := by decide +kernel
theorem dX12_chairs_72 : decode cX12_chairs 72 = .ok (.aload_n 0, 1) := by decide +kernel
theorem dX12_chairs_73 : decode cX12_chairs 73 = .ok (.getfield 50, 3) := by decide +kernel
theorem dX12_chairs_76 : decode cX12_chairs 76 = .ok (.iload_n 3, 1) := by decide +kernel
theorem dX12_chairs_77 : decode cX12_chairs 77 = .ok (.iaload, 1) := by decide +kernel
theorem dX12_chairs_78 : decode cX12_chairs 78 = .ok (.ireturn, 1) := by decide +kernel
theorem dX12_canSpread_0 : decode cX12_canSpread 0 = .ok (.iconst 0, 1) := by decide +kernel
theorem dX12_canSpread_1 : decode cX12_canSpread 1 = .ok (.istore_n 3, 1) := by decide +kernel
theorem dX12_canSpread_2 : decode cX12_canSpread 2 = .ok (.iconst 0, 1) := by decide +kernel
theorem dX12_canSpread_3 : decode cX12_canSpread 3 = .ok (.istore 4, 2) := by decide +kernel
theorem dX12_canSpread_5 : decode cX12_canSpread 5 = .ok (.iconst 1, 1) := by decide +kernel
theorem dX12_canSpread_6 : decode cX12_canSpread 6 = .ok (.istore 5, 2) := by decide +kernel
theorem dX12_canSpread_8 : decode cX12_canSpread 8 = .ok (.iconst 0, 1) := by decide +kernel
theorem dX12_canSpread_9 : decode cX12_canSpread 9 = .ok (.istore 6, 2) := by decide +kernel
theorem dX12_canSpread_11 : decode cX12_canSpread 11 = .ok (.iload 6, 2) := by decide +kernel
theorem dX12_canSpread_13 : decode cX12_canSpread 13 = .ok (.aload_n 0, 1) := by decide +kernel
theorem dX12_canSpread_14 : decode cX12_canSpread 14 = .ok (.getfield 76, 3) := by decide +kernel
theorem dX12_canSpread_17 : decode cX12_canSpread 17 = .ok (.if_icmp .ge 68, 3) := by decide +kernel
theorem dX12_canSpread_20 : decode cX12_canSpread 20 = .ok (.iload_n 1, 1) := by decide +kernel
theorem dX12_canSpread_21 : decode cX12_canSpread 21 = .ok (.iload 6, 2) := by decide +kernel
theorem dX12_canSpread_23 : decode cX12_canSpread 23 = .ok (.invokestatic 161, 3) := by decide +kernel
theorem dX12_canSpread_26 : decode cX12_canSpread 26 = .ok (.ifCond .eq 53, 3) := by decide +kernel
theorem dX12_canSpread_29 : decode cX12_canSpread 29 = .ok (.iload 5, 2) := by decide +kernel
theorem dX12_canSpread_31 : decode cX12_canSpread 31 = .ok (.ifCond .eq 18, 3) := by decide +kernel
theorem dX12_canSpread_34 : decode cX12_canSpread 34 = .ok (.aload_n 0, 1) := by decide +kernel
theorem dX12_canSpread_35 : decode cX12_canSpread 35 = .ok (.getfield 16, 3) := by decide +kernel
theorem dX12_canSpread_38 : decode cX12_canSpread 38 = .ok (.iload 6, 2) := by decide +kernel
theorem dX12_canSpread_40 : decode cX12_canSpread 40 = .ok (.iaload, 1) := by decide +kernel
theorem dX12_canSpread_41 : decode cX12_canSpread 41 = .ok (.iload_n 2, 1) := by decide +kernel
theorem dX12_canSpread_42 : decode cX12_canSpread 42 = .ok (.if_icmp .lt 7, 3) := by decide +kernel
theorem dX12_canSpread_45 : decode cX12_canSpread 45 = .ok (.iconst 1, 1) := by decide +kernel
theorem dX12_canSpread_46 : decode cX12_canSpread 46 = .ok (.goto 4, 3) := by decide +kernel
theorem dX12_canSpread_49 : decode cX12_canSpread 49 = .ok (.iconst 0, 1) := by decide +kernel
theorem dX12_canSpread_50 : decode cX12_canSpread 50 = .ok (.istore 5, 2) := by decide +kernel
theorem dX12_canSpread_52 : decode cX12_canSpread 52 = .ok (.iload_n 3, 1) := by decide +kernel
theorem dX12_canSpread_53 : decode cX12_canSpread 53 = .ok (.aload_n 0, 1) := by decide +kernel
theorem dX12_canSpread_54 : decode cX12_canSpread 54 = .ok (.getfield 16, 3) := by decide +kernel
theorem dX12_canSpread_57 : decode cX12_canSpread 57 = .ok (.iload 6, 2) := by decide +kernel
theorem dX12_canSpread_59 : decode cX12_canSpread 59 = .ok (.iaload, 1) := by decide +kernel
theorem dX12_canSpread_60 : decode cX12_canSpread 60 = .ok (.iload_n 2, 1) := by decide +kernel
theorem dX12_canSpread_61 : decode cX12_canSpread 61 = .ok (.isub, 1) := by decide +kernel
theorem dX12_canSpread_62 : decode cX12_canSpread 62 = .ok (.iadd, 1) := by decide +kernel
theorem dX12_canSpread_63 : decode cX12_canSpread 63 = .ok (.istore_n 3, 1) := by decide +kernel
theorem dX12_canSpread_64 : decode cX12_canSpread 64 = .ok (.iload 4, 2) := by decide +kernel
theorem dX12_canSpread_66 : decode cX12_canSpread 66 = .ok (.aload_n 0, 1) := by decide +kernel
theorem dX12_canSpread_67 : decode cX12_canSpread 67 = .ok (.getfield 16, 3) := by decide +kernel
theorem dX12_canSpread_70 : decode cX12_canSpread 70 = .ok (.bipush 9, 2) := by decide +kernel
theorem dX12_canSpread_72 : decode cX12_canSpread 72 = .ok (.iload 6, 2) := by decide +kernel
theorem dX12_canSpread_74 : decode cX12_canSpread 74 = .ok (.iadd, 1) := by decide +kernel
theorem dX12_canSpread_75 : decode cX12_canSpread 75 = .ok (.iaload, 1) := by decide +kernel
theorem dX12_canSpread_76 : decode cX12_canSpread 76 = .ok (.iadd, 1) := by decide +kernel
theorem dX12_canSpread_77 : decode cX12_canSpread 77 = .ok (.istore 4, 2) := by decide +kernel
theorem dX12_canSpread_79 : decode cX12_canSpread 79 = .ok (.iinc 6 1, 3) := by decide +kernel
theorem dX12_canSpread_82 : decode cX12_canSpread 82 = .ok (.goto (-71), 3) := by decide +kernel
theorem dX12_canSpread_85 : decode cX12_canSpread 85 = .ok (.iload 5, 2) := by decide +kernel
theorem dX12_canSpread_87 : decode cX12_canSpread 87 = .ok (.ifCond .eq 13, 3) := by decide +kernel
theorem dX12_canSpread_90 : decode cX12_canSpread 90 = .ok (.iload_n 3, 1) := by decide +kernel
theorem dX12_canSpread_91 : decode cX12_canSpread 91 = .ok (.iload 4, 2) := by decide +kernel
theorem dX12_canSpread_93 : decode cX12_canSpread 93 = .ok (.if_icmp .lt 7, 3) := by decide +kernel
theorem dX12_canSpread_96 : decode cX12_canSpread 96 = .ok (.iconst 1, 1) := by decide +kernel
theorem dX12_canSpread_97 : decode cX12_canSpread 97 = .ok (.goto 4, 3) := by decide +kernel
theorem dX12_canSpread_100 : decode cX12_canSpread 100 = .ok (.iconst 0, 1) := by decide +kernel
theorem dX12_canSpread_101 : decode cX12_canSpread 101 = .ok (.ireturn, 1) := by decide +kernel
theorem dX12_spread_0 : decode cX12_spread 0 = .ok (.aload_n 0, 1) := by decide +kernel
theorem dX12_spread_1 : decode cX12_spread 1 = .ok (.iload_n 1, 1) := by decide +kernel
theorem dX12_spread_2 : decode cX12_spread 2 = .ok (.invokevirtual 187, 3) := by decide +kernel
theorem dX12_spread_5 : decode cX12_spread 5 = .ok (.ifCond .ne 6, 3) := by decide +kernel
theorem dX12_spread_8 : decode cX12_spread 8 = .ok (.ldc 190, 2) := by decide +kernel
theorem dX12_spread_10 : decode cX12_spread 10 = .ok (.ireturn, 1) := by decide +kernel
theorem dX12_spread_11 : decode cX12_spread 11 = .ok (.aload_n 0, 1) := by decide +kernel
theorem dX12_spread_12 : decode cX12_spread 12 = .ok (.iload_n 1, 1) := by decide +kernel
theorem dX12_spread_13 : decode cX12_spread 13 = .ok (.invokevirtual 220, 3) := by decide +kernel
theorem dX12_spread_16 : decode cX12_spread 16 = .ok (.istore_n 2, 1) := by decide +kernel
theorem dX12_spread_17 : decode cX12_spread 17 = .ok (.iconst 0, 1) := by decide +kernel
theorem dX12_spread_18 : decode cX12_spread 18 = .ok (.istore_n 3, 1) := by decide +kernel
theorem dX12_spread_19 : decode cX12_spread 19 = .ok (.aload_n 0, 1) := by decide +kernel
theorem dX12_spread_20 : decode cX12_spread 20 = .ok (.iload_n 2, 1) := by decide +kernel
theorem dX12_spread_21 : decode cX12_spread 21 = .ok (.iload_n 3, 1) := by decide +kernel
theorem dX12_spread_22 : decode cX12_spread 22 = .ok (.iconst 1, 1) := by decide +kernel
theorem dX12_spread_23 : decode cX12_spread 23 = .ok (.iadd, 1) := by decide +kernel
theorem dX12_spread_24 : decode cX12_spread 24 = .ok (.invokevirtual 243, 3) := by decide +kernel
theorem dX12_spread_27 : decode cX12_spread 27 = .ok (.ifCond .eq 9, 3) := by decide +kernel
theorem dX12_spread_30 : decode cX12_spread 30 = .ok (.iinc 3 1, 3) := by decide +kernel
theorem dX12_spread_33 : decode cX12_spread 33 = .ok (.goto (-14), 3) := by decide +kernel
theorem dX12_spread_36 : decode cX12_spread 36 = .ok (.iload_n 3, 1) := by decide +kernel
theorem dX12_spread_37 : decode cX12_spread 37 = .ok (.ireturn, 1) := by decide +kernel
theorem dX12_quiet_0 : decode cX12_quiet 0 = .ok (.iload_n 1, 1) := by decide +kernel
theorem dX12_quiet_1 : decode cX12_quiet 1 = .ok (.i2l, 1) := by decide +kernel
theorem dX12_quiet_2 : decode cX12_quiet 2 = .ok (.lconst 0, 1) := by decide +kernel
theorem dX12_quiet_3 : decode cX12_quiet 3 = .ok (.ldc2_w 215, 3) := by decide +kernel
theorem dX12_quiet_6 : decode cX12_quiet 6 = .ok (.invokestatic 79, 3) := by decide +kernel
theorem dX12_quiet_9 : decode cX12_quiet 9 = .ok (.ifCond .eq 15, 3) := by decide +kernel
theorem dX12_quiet_12 : decode cX12_quiet 12 = .ok (.iload_n 2, 1) := by decide +kernel
theorem dX12_quiet_13 : decode cX12_quiet 13 = .ok (.i2l, 1) := by decide +kernel
theorem dX12_quiet_14 : decode cX12_quiet 14 = .ok (.lconst 0, 1) := by decide +kernel
theorem dX12_quiet_15 : decode cX12_quiet 15 = .ok (.ldc2_w 246, 3) := by decide +kernel
theorem dX12_quiet_18 : decode cX12_quiet 18 = .ok (.invokestatic 79, 3) := by decide +kernel
theorem dX12_quiet_21 : decode cX12_quiet 21 = .ok (.ifCond .ne 6, 3) := by decide +kernel
theorem dX12_quiet_24 : decode cX12_quiet 24 = .ok (.ldc 85, 2) := by decide +kernel
theorem dX12_quiet_26 : decode cX12_quiet 26 = .ok (.ireturn, 1) := by decide +kernel
theorem dX12_quiet_27 : decode cX12_quiet 27 = .ok (.ldc2_w 248, 3) := by decide +kernel
theorem dX12_quiet_30 : decode cX12_quiet 30 = .ok (.lstore_n 3, 1) := by decide +kernel
theorem dX12_quiet_31 : decode cX12_quiet 31 = .ok (.iconst 0, 1) := by decide +kernel
theorem dX12_quiet_32 : decode cX12_quiet 32 = .ok (.istore 5, 2) := by decide +kernel
theorem dX12_quiet_34 : decode cX12_quiet 34 = .ok (.iload 5, 2) := by decide +kernel
theorem dX12_quiet_36 : decode cX12_quiet 36 = .ok (.iload_n 1, 1) := by decide +kernel
theorem dX12_quiet_37 : decode cX12_quiet 37 = .ok (.if_icmp .ge 21, 3) := by decide +kernel
theorem dX12_quiet_40 : decode cX12_quiet 40 = .ok (.lload_n 3, 1) := by decide +kernel
theorem dX12_quiet_41 : decode cX12_quiet 41 = .ok (.bipush 100, 2) := by decide +kernel
theorem dX12_quiet_43 : decode cX12_quiet 43 = .ok (.iload_n 2, 1) := by decide +kernel
theorem dX12_quiet_44 : decode cX12_quiet 44 = .ok (.isub, 1) := by decide +kernel
theorem dX12_quiet_45 : decode cX12_quiet 45 = .ok (.i2l, 1) := by decide +kernel
theorem dX12_quiet_46 : decode cX12_quiet 46 = .ok (.lmul, 1) := by decide +kernel
theorem dX12_quiet_47 : decode cX12_quiet 47 = .ok (.ldc2_w 246, 3) := by decide +kernel
theorem dX12_quiet_50 : decode cX12_quiet 50 = .ok (.ldiv, 1) := by decide +kernel
theorem dX12_quiet_51 : decode cX12_quiet 51 = .ok (.lstore_n 3, 1) := by decide +kernel
theorem dX12_quiet_52 : decode cX12_quiet 52 = .ok (.iinc 5 1, 3) := by decide +kernel
theorem dX12_quiet_55 : decode cX12_quiet 55 = .ok (.goto (-21), 3) := by decide +kernel
theorem dX12_quiet_58 : decode cX12_quiet 58 = .ok (.lload_n 3, 1) := by decide +kernel
theorem dX12_quiet_59 : decode cX12_quiet 59 = .ok (.l2i, 1) := by decide +kernel
theorem dX12_quiet_60 : decode cX12_quiet 60 = .ok (.ireturn, 1) := by decide +kernel
theorem dX12_see_0 : decode cX12_see 0 = .ok (.aload_n 0, 1) := by decide +kernel
theorem dX12_see_1 : decode cX12_see 1 = .ok (.iload_n 1, 1) := by decide +kernel
theorem dX12_see_2 : decode cX12_see 2 = .ok (.invokevirtual 187, 3) := by decide +kernel
theorem dX12_see_5 : decode cX12_see 5 = .ok (.ifCond .ne 6, 3) := by decide +kernel
theorem dX12_see_8 : decode cX12_see 8 = .ok (.ldc 190, 2) := by decide +kernel
theorem dX12_see_10 : decode cX12_see 10 = .ok (.ireturn, 1) := by decide +kernel
theorem dX12_see_11 : decode cX12_see 11 = .ok (.aload_n 0, 1) := by decide +kernel
theorem dX12_see_12 : decode cX12_see 12 = .ok (.getfield 152, 3) := by decide +kernel
theorem dX12_see_15 : decode cX12_see 15 = .ok (.bipush 6, 2) := by decide +kernel
theorem dX12_see_17 : decode cX12_see 17 = .ok (.if_icmp .ne 6, 3) := by decide +kernel
theorem dX12_see_20 : decode cX12_see 20 = .ok (.ldc 89, 2) := by decide +kernel
theorem dX12_see_22 : decode cX12_see 22 = .ok (.ireturn, 1) := by decide +kernel
theorem dX12_see_23 : decode cX12_see 23 = .ok (.aload_n 0, 1) := by decide +kernel
theorem dX12_see_24 : decode cX12_see 24 = .ok (.getfield 53, 3) := by decide +kernel
theorem dX12_see_27 : decode cX12_see 27 = .ok (.aload_n 0, 1) := by decide +kernel
theorem dX12_see_28 : decode cX12_see 28 = .ok (.getfield 152, 3) := by decide +kernel
theorem dX12_see_31 : decode cX12_see 31 = .ok (.iload_n 1, 1) := by decide +kernel
theorem dX12_see_32 : decode cX12_see 32 = .ok (.iastore, 1) := by decide +kernel
theorem dX12_see_33 : decode cX12_see 33 = .ok (.aload_n 0, 1) := by decide +kernel
theorem dX12_see_34 : decode cX12_see 34 = .ok (.getfield 56, 3) := by decide +kernel
theorem dX12_see_37 : decode cX12_see 37 = .ok (.aload_n 0, 1) := by decide +kernel
theorem dX12_see_38 : decode cX12_see 38 = .ok (.getfield 152, 3) := by decide +kernel
theorem dX12_see_41 : decode cX12_see 41 = .ok (.iload_n 2, 1) := by decide +kernel
theorem dX12_see_42 : decode cX12_see 42 = .ok (.bastore, 1) := by decide +kernel
theorem dX12_see_43 : decode cX12_see 43 = .ok (.aload_n 0, 1) := by decide +kernel
theorem dX12_see_44 : decode cX12_see 44 = .ok (.dup, 1) := by decide +kernel
theorem dX12_see_45 : decode cX12_see 45 = .ok (.getfield 152, 3) := by decide +kernel
theorem dX12_see_48 : decode cX12_see 48 = .ok (.iconst 1, 1) := by decide +kernel
theorem dX12_see_49 : decode cX12_see 49 = .ok (.iadd, 1) := by decide +kernel
theorem dX12_see_50 : decode cX12_see 50 = .ok (.putfield 152, 3) := by decide +kernel
theorem dX12_see_53 : decode cX12_see 53 = .ok (.aload_n 0, 1) := by decide +kernel
theorem dX12_see_54 : decode cX12_see 54 = .ok (.getfield 152, 3) := by decide +kernel
theorem dX12_see_57 : decode cX12_see 57 = .ok (.ireturn, 1) := by decide +kernel
theorem dX12_movers_0 : decode cX12_movers 0 = .ok (.iconst 0, 1) := by decide +kernel
theorem dX12_movers_1 : decode cX12_movers 1 = .ok (.istore_n 2, 1) := by decide +kernel
theorem dX12_movers_2 : decode cX12_movers 2 = .ok (.iload_n 1, 1) := by decide +kernel
theorem dX12_movers_3 : decode cX12_movers 3 = .ok (.istore_n 3, 1) := by decide +kernel
theorem dX12_movers_4 : decode cX12_movers 4 = .ok (.aload_n 0, 1) := by decide +kernel
theorem dX12_movers_5 : decode cX12_movers 5 = .ok (.getfield 41, 3) := by decide +kernel
theorem dX12_movers_8 : decode cX12_movers 8 = .ok (.iload_n 3, 1) := by decide +kernel
theorem dX12_movers_9 : decode cX12_movers 9 = .ok (.iaload, 1) := by decide +kernel
theorem dX12_movers_10 : decode cX12_movers 10 = .ok (.ifCond .le 18, 3) := by decide +kernel
theorem dX12_movers_13 : decode cX12_movers 13 = .ok (.iload_n 2, 1) := by decide +kernel
theorem dX12_movers_14 : decode cX12_movers 14 = .ok (.iconst 1, 1) := by decide +kernel
theorem dX12_movers_15 : decode cX12_movers 15 = .ok (.iload_n 3, 1) := by decide +kernel
theorem dX12_movers_16 : decode cX12_movers 16 = .ok (.ishl, 1) := by decide +kernel
theorem dX12_movers_17 : decode cX12_movers 17 = .ok (.ior, 1) := by decide +kernel
theorem dX12_movers_18 : decode cX12_movers 18 = .ok (.istore_n 2, 1) := by decide +kernel
theorem dX12_movers_19 : decode cX12_movers 19 = .ok (.aload_n 0, 1) := by decide +kernel
theorem dX12_movers_20 : decode cX12_movers 20 = .ok (.iload_n 3, 1) := by decide +kernel
theorem dX12_movers_21 : decode cX12_movers 21 = .ok (.invokevirtual 172, 3) := by decide +kernel
theorem dX12_movers_24 : decode cX12_movers 24 = .ok (.istore_n 3, 1) := by decide +kernel
theorem dX12_movers_25 : decode cX12_movers 25 = .ok (.goto (-21), 3) := by decide +kernel
theorem dX12_movers_28 : decode cX12_movers 28 = .ok (.iload_n 2, 1) := by decide +kernel
theorem dX12_movers_29 : decode cX12_movers 29 = .ok (.ireturn, 1) := by decide +kernel
theorem dX12_couldCome_0 : decode cX12_couldCome 0 = .ok (.aload_n 0, 1) := by decide +kernel
theorem dX12_couldCome_1 : decode cX12_couldCome 1 = .ok (.invokevirtual 175, 3) := by decide +kernel
theorem dX12_couldCome_4 : decode cX12_couldCome 4 = .ok (.iconst 0, 1) := by decide +kernel
theorem dX12_couldCome_5 : decode cX12_couldCome 5 = .ok (.istore_n 1, 1) := by decide +kernel
theorem dX12_couldCome_6 : decode cX12_couldCome 6 = .ok (.iconst 0, 1) := by decide +kernel
theorem dX12_couldCome_7 : decode cX12_couldCome 7 = .ok (.istore_n 2, 1) := by decide +kernel
theorem dX12_couldCome_8 : decode cX12_couldCome 8 = .ok (.iload_n 2, 1) := by decide +kernel
theorem dX12_couldCome_9 : decode cX12_couldCome 9 = .ok (.aload_n 0, 1) := by decide +kernel
theorem dX12_couldCome_10 : decode cX12_couldCome 10 = .ok (.getfield 76, 3) := by decide +kernel
theorem dX12_couldCome_13 : decode cX12_couldCome 13 = .ok (.if_icmp .ge 94, 3) := by decide +kernel
theorem dX12_couldCome_16 : decode cX12_couldCome 16 = .ok (.aload_n 0, 1) := by decide +kernel
theorem dX12_couldCome_17 : decode cX12_couldCome 17 = .ok (.getfield 41, 3) := by decide +kernel
theorem dX12_couldCome_20 : decode cX12_couldCome 20 = .ok (.iload_n 2, 1) := by decide +kernel
theorem dX12_couldCome_21 : decode cX12_couldCome 21 = .ok (.iaload, 1) := by decide +kernel
theorem dX12_couldCome_22 : decode cX12_couldCome 22 = .ok (.sipush 1000, 3) := by decide +kernel
theorem dX12_couldCome_25 : decode cX12_couldCome 25 = .ok (.if_icmp .ge 7, 3) := by decide +kernel
theorem dX12_couldCome_28 : decode cX12_couldCome 28 = .ok (.iconst 1, 1) := by decide +kernel
theorem dX12_couldCome_29 : decode cX12_couldCome 29 = .ok (.goto 4, 3) := by decide +kernel
theorem dX12_couldCome_32 : decode cX12_couldCome 32 = .ok (.iconst 0, 1) := by decide +kernel
theorem dX12_couldCome_33 : decode cX12_couldCome 33 = .ok (.istore_n 3, 1) := by decide +kernel
theorem dX12_couldCome_34 : decode cX12_couldCome 34 = .ok (.iconst 0, 1) := by decide +kernel
theorem dX12_couldCome_35 : decode cX12_couldCome 35 = .ok (.istore 4, 2) := by decide +kernel
theorem dX12_couldCome_37 : decode cX12_couldCome 37 = .ok (.iload 4, 2) := by decide +kernel
theorem dX12_couldCome_39 : decode cX12_couldCome 39 = .ok (.aload_n 0, 1) := by decide +kernel
theorem dX12_couldCome_40 : decode cX12_couldCome 40 = .ok (.getfield 152, 3) := by decide +kernel
theorem dX12_couldCome_43 : decode cX12_couldCome 43 = .ok (.if_icmp .ge 44, 3) := by decide +kernel
theorem dX12_couldCome_46 : decode cX12_couldCome 46 = .ok (.iload_n 3, 1) := by decide +kernel
theorem dX12_couldCome_47 : decode cX12_couldCome 47 = .ok (.ifCond .eq 40, 3) := by decide +kernel
theorem dX12_couldCome_50 : decode cX12_couldCome 50 = .ok (.aload_n 0, 1) := by decide +kernel
theorem dX12_couldCome_51 : decode cX12_couldCome 51 = .ok (.iload_n 2, 1) := by decide +kernel
theorem dX12_couldCome_52 : decode cX12_couldCome 52 = .ok (.invokevirtual 250, 3) := by decide +kernel
theorem dX12_couldCome_55 : decode cX12_couldCome 55 = .ok (.aload_n 0, 1) := by decide +kernel
theorem dX12_couldCome_56 : decode cX12_couldCome 56 = .ok (.getfield 53, 3) := by decide +kernel
theorem dX12_couldCome_59 : decode cX12_couldCome 59 = .ok (.iload 4, 2) := by decide +kernel
theorem dX12_couldCome_61 : decode cX12_couldCome 61 = .ok (.iaload, 1) := by decide +kernel
theorem dX12_couldCome_62 : decode cX12_couldCome 62 = .ok (.invokestatic 161, 3) := by decide +kernel
theorem dX12_couldCome_65 : decode cX12_couldCome 65 = .ok (.aload_n 0, 1) := by decide +kernel
theorem dX12_couldCome_66 : decode cX12_couldCome 66 = .ok (.getfield 56, 3) := by decide +kernel
theorem dX12_couldCome_69 : decode cX12_couldCome 69 = .ok (.iload 4, 2) := by decide +kernel
theorem dX12_couldCome_71 : decode cX12_couldCome 71 = .ok (.baload, 1) := by decide +kernel
theorem dX12_couldCome_72 : decode cX12_couldCome 72 = .ok (.if_icmp .ne 7, 3) := by decide +kernel
theorem dX12_couldCome_75 : decode cX12_couldCome 75 = .ok (.iconst 1, 1) := by decide +kernel
theorem dX12_couldCome_76 : decode cX12_couldCome 76 = .ok (.goto 4, 3) := by decide +kernel
theorem dX12_couldCome_79 : decode cX12_couldCome 79 = .ok (.iconst 0, 1) := by decide +kernel
theorem dX12_couldCome_80 : decode cX12_couldCome 80 = .ok (.istore_n 3, 1) := by decide +kernel
theorem dX12_couldCome_81 : decode cX12_couldCome 81 = .ok (.iinc 4 1, 3) := by decide +kernel
theorem dX12_couldCome_84 : decode cX12_couldCome 84 = .ok (.goto (-47), 3) := by decide +kernel
theorem dX12_couldCome_87 : decode cX12_couldCome 87 = .ok (.iload_n 1, 1) := by decide +kernel
theorem dX12_couldCome_88 : decode cX12_couldCome 88 = .ok (.iload_n 3, 1) := by decide +kernel
theorem dX12_couldCome_89 : decode cX12_couldCome 89 = .ok (.ifCond .eq 9, 3) := by decide +kernel
theorem dX12_couldCome_92 : decode cX12_couldCome 92 = .ok (.iconst 1, 1) := by decide +kernel
theorem dX12_couldCome_93 : decode cX12_couldCome 93 = .ok (.iload_n 2, 1) := by decide +kernel
theorem dX12_couldCome_94 : decode cX12_couldCome 94 = .ok (.ishl, 1) := by decide +kernel
theorem dX12_couldCome_95 : decode cX12_couldCome 95 = .ok (.goto 4, 3) := by decide +kernel
theorem dX12_couldCome_98 : decode cX12_couldCome 98 = .ok (.iconst 0, 1) := by decide +kernel
theorem dX12_couldCome_99 : decode cX12_couldCome 99 = .ok (.ior, 1) := by decide +kernel
theorem dX12_couldCome_100 : decode cX12_couldCome 100 = .ok (.istore_n 1, 1) := by decide +kernel
theorem dX12_couldCome_101 : decode cX12_couldCome 101 = .ok (.iinc 2 1, 3) := by decide +kernel
theorem dX12_couldCome_104 : decode cX12_couldCome 104 = .ok (.goto (-96), 3) := by decide +kernel
theorem dX12_couldCome_107 : decode cX12_couldCome 107 = .ok (.iload_n 1, 1) := by decide +kernel
theorem dX12_couldCome_108 : decode cX12_couldCome 108 = .ok (.ireturn, 1) := by decide +kernel
theorem dX12_came_0 : decode cX12_came 0 = .ok (.aload_n 0, 1) := by decide +kernel
theorem dX12_came_1 : decode cX12_came 1 = .ok (.invokevirtual 253, 3) := by decide +kernel
theorem dX12_came_4 : decode cX12_came 4 = .ok (.ireturn, 1) := by decide +kernel
theorem dX12_look_0 : decode cX12_look 0 = .ok (.aload_n 0, 1) := by decide +kernel
theorem dX12_look_1 : decode cX12_look 1 = .ok (.invokevirtual 253, 3) := by decide +kernel
theorem dX12_look_4 : decode cX12_look 4 = .ok (.istore_n 1, 1) := by decide +kernel
theorem dX12_look_5 : decode cX12_look 5 = .ok (.iload_n 1, 1) := by decide +kernel
theorem dX12_look_6 : decode cX12_look 6 = .ok (.invokestatic 256, 3) := by decide +kernel
theorem dX12_look_9 : decode cX12_look 9 = .ok (.istore_n 2, 1) := by decide +kernel
theorem dX12_look_10 : decode cX12_look 10 = .ok (.iconst (-1), 1) := by decide +kernel
theorem dX12_look_11 : decode cX12_look 11 = .ok (.istore_n 3, 1) := by decide +kernel
theorem dX12_look_12 : decode cX12_look 12 = .ok (.iload_n 2, 1) := by decide +kernel
theorem dX12_look_13 : decode cX12_look 13 = .ok (.istore 4, 2) := by decide +kernel
theorem dX12_look_15 : decode cX12_look 15 = .ok (.iconst 0, 1) := by decide +kernel
theorem dX12_look_16 : decode cX12_look 16 = .ok (.istore 5, 2) := by decide +kernel
theorem dX12_look_18 : decode cX12_look 18 = .ok (.iload 5, 2) := by decide +kernel
theorem dX12_look_20 : decode cX12_look 20 = .ok (.aload_n 0, 1) := by decide +kernel
theorem dX12_look_21 : decode cX12_look 21 = .ok (.getfield 76, 3) := by decide +kernel
theorem dX12_look_24 : decode cX12_look 24 = .ok (.if_icmp .ge 113, 3) := by decide +kernel
theorem dX12_look_27 : decode cX12_look 27 = .ok (.iconst 0, 1) := by decide +kernel
theorem dX12_look_28 : decode cX12_look 28 = .ok (.istore 6, 2) := by decide +kernel
theorem dX12_look_30 : decode cX12_look 30 = .ok (.iconst 0, 1) := by decide +kernel
theorem dX12_look_31 : decode cX12_look 31 = .ok (.istore 7, 2) := by decide +kernel
theorem dX12_look_33 : decode cX12_look 33 = .ok (.iload 7, 2) := by decide +kernel
theorem dX12_look_35 : decode cX12_look 35 = .ok (.aload_n 0, 1) := by decide +kernel
theorem dX12_look_36 : decode cX12_look 36 = .ok (.getfield 76, 3) := by decide +kernel
theorem dX12_look_39 : decode cX12_look 39 = .ok (.if_icmp .ge 42, 3) := by decide +kernel
theorem dX12_look_42 : decode cX12_look 42 = .ok (.iload 6, 2) := by decide +kernel
theorem dX12_look_44 : decode cX12_look 44 = .ok (.iload_n 1, 1) := by decide +kernel
theorem dX12_look_45 : decode cX12_look 45 = .ok (.iload 7, 2) := by decide +kernel
theorem dX12_look_47 : decode cX12_look 47 = .ok (.invokestatic 161, 3) := by decide +kernel
theorem dX12_look_50 : decode cX12_look 50 = .ok (.ifCond .eq 21, 3) := by decide +kernel
theorem dX12_look_53 : decode cX12_look 53 = .ok (.aload_n 0, 1) := by decide +kernel
theorem dX12_look_54 : decode cX12_look 54 = .ok (.iload 7, 2) := by decide +kernel
theorem dX12_look_56 : decode cX12_look 56 = .ok (.invokevirtual 250, 3) := by decide +kernel
theorem dX12_look_59 : decode cX12_look 59 = .ok (.iload 5, 2) := by decide +kernel
theorem dX12_look_61 : decode cX12_look 61 = .ok (.invokestatic 161, 3) := by decide +kernel
theorem dX12_look_64 : decode cX12_look 64 = .ok (.ifCond .eq 7, 3) := by decide +kernel
theorem dX12_look_67 : decode cX12_look 67 = .ok (.iconst 1, 1) := by decide +kernel
theorem dX12_look_68 : decode cX12_look 68 = .ok (.goto 4, 3) := by decide +kernel
theorem dX12_look_71 : decode cX12_look 71 = .ok (.iconst 0, 1) := by decide +kernel
theorem dX12_look_72 : decode cX12_look 72 = .ok (.iadd, 1) := by decide +kernel
theorem dX12_look_73 : decode cX12_look 73 = .ok (.istore 6, 2) := by decide +kernel
theorem dX12_look_75 : decode cX12_look 75 = .ok (.iinc 7 1, 3) := by decide +kernel
theorem dX12_look_78 : decode cX12_look 78 = .ok (.goto (-45), 3) := by decide +kernel
theorem dX12_look_81 : decode cX12_look 81 = .ok (.iload 6, 2) := by decide +kernel
theorem dX12_look_83 : decode cX12_look 83 = .ok (.iload_n 2, 1) := by decide +kernel
theorem dX12_look_84 : decode cX12_look 84 = .ok (.iload 6, 2) := by decide +kernel
theorem dX12_look_86 : decode cX12_look 86 = .ok (.isub, 1) := by decide +kernel
theorem dX12_look_87 : decode cX12_look 87 = .ok (.if_icmp .le 8, 3) := by decide +kernel
theorem dX12_look_90 : decode cX12_look 90 = .ok (.iload 6, 2) := by decide +kernel
theorem dX12_look_92 : decode cX12_look 92 = .ok (.goto 7, 3) := by decide +kernel
theorem dX12_look_95 : decode cX12_look 95 = .ok (.iload_n 2, 1) := by decide +kernel
theorem dX12_look_96 : decode cX12_look 96 = .ok (.iload 6, 2) := by decide +kernel
theorem dX12_look_98 : decode cX12_look 98 = .ok (.isub, 1) := by decide +kernel
theorem dX12_look_99 : decode cX12_look 99 = .ok (.istore 7, 2) := by decide +kernel
theorem dX12_look_101 : decode cX12_look 101 = .ok (.iload 7, 2) := by decide +kernel
theorem dX12_look_103 : decode cX12_look 103 = .ok (.iload 4, 2) := by decide +kernel
theorem dX12_look_105 : decode cX12_look 105 = .ok (.if_icmp .ge 8, 3) := by decide +kernel
theorem dX12_look_108 : decode cX12_look 108 = .ok (.iload 5, 2) := by decide +kernel
theorem dX12_look_110 : decode cX12_look 110 = .ok (.goto 4, 3) := by decide +kernel
theorem dX12_look_113 : decode cX12_look 113 = .ok (.iload_n 3, 1) := by decide +kernel
theorem dX12_look_114 : decode cX12_look 114 = .ok (.istore_n 3, 1) := by decide +kernel
theorem dX12_look_115 : decode cX12_look 115 = .ok (.iload 7, 2) := by decide +kernel
theorem dX12_look_117 : decode cX12_look 117 = .ok (.iload 4, 2) := by decide +kernel
theorem dX12_look_119 : decode cX12_look 119 = .ok (.if_icmp .ge 8, 3) := by decide +kernel
theorem dX12_look_122 : decode cX12_look 122 = .ok (.iload 7, 2) := by decide +kernel
theorem dX12_look_124 : decode cX12_look 124 = .ok (.goto 5, 3) := by decide +kernel
theorem dX12_look_127 : decode cX12_look 127 = .ok (.iload 4, 2) := by decide +kernel
theorem dX12_look_129 : decode cX12_look 129 = .ok (.istore 4, 2) := by decide +kernel
theorem dX12_look_131 : decode cX12_look 131 = .ok (.iinc 5 1, 3) := by decide +kernel
theorem dX12_look_134 : decode cX12_look 134 = .ok (.goto (-116), 3) := by decide +kernel
theorem dX12_look_137 : decode cX12_look 137 = .ok (.iload_n 3, 1) := by decide +kernel
theorem dX12_look_138 : decode cX12_look 138 = .ok (.ireturn, 1) := by decide +kernel
theorem dX12_write_0 : decode cX12_write 0 = .ok (.aload_n 0, 1) := by decide +kernel
theorem dX12_write_1 : decode cX12_write 1 = .ok (.iload_n 1, 1) := by decide +kernel
theorem dX12_write_2 : decode cX12_write 2 = .ok (.invokevirtual 187, 3) := by decide +kernel
theorem dX12_write_5 : decode cX12_write 5 = .ok (.ifCond .ne 6, 3) := by decide +kernel
theorem dX12_write_8 : decode cX12_write 8 = .ok (.ldc 190, 2) := by decide +kernel
theorem dX12_write_10 : decode cX12_write 10 = .ok (.ireturn, 1) := by decide +kernel
theorem dX12_write_11 : decode cX12_write 11 = .ok (.iload_n 2, 1) := by decide +kernel
theorem dX12_write_12 : decode cX12_write 12 = .ok (.i2l, 1) := by decide +kernel
theorem dX12_write_13 : decode cX12_write 13 = .ok (.lconst 0, 1) := by decide +kernel
theorem dX12_write_14 : decode cX12_write 14 = .ok (.ldc2_w 259, 3) := by decide +kernel
theorem dX12_write_17 : decode cX12_write 17 = .ok (.invokestatic 79, 3) := by decide +kernel
theorem dX12_write_20 : decode cX12_write 20 = .ok (.ifCond .ne 6, 3) := by decide +kernel
theorem dX12_write_23 : decode cX12_write 23 = .ok (.ldc 85, 2) := by decide +kernel
theorem dX12_write_25 : decode cX12_write 25 = .ok (.ireturn, 1) := by decide +kernel
theorem dX12_write_26 : decode cX12_write 26 = .ok (.aload_n 0, 1) := by decide +kernel
theorem dX12_write_27 : decode cX12_write 27 = .ok (.getfield 155, 3) := by decide +kernel
theorem dX12_write_30 : decode cX12_write 30 = .ok (.bipush 15, 2) := by decide +kernel
theorem dX12_write_32 : decode cX12_write 32 = .ok (.if_icmp .ne 6, 3) := by decide +kernel
theorem dX12_write_35 : decode cX12_write 35 = .ok (.ldc 89, 2) := by decide +kernel
theorem dX12_write_37 : decode cX12_write 37 = .ok (.ireturn, 1) := by decide +kernel
theorem dX12_write_38 : decode cX12_write 38 = .ok (.aload_n 0, 1) := by decide +kernel
theorem dX12_write_39 : decode cX12_write 39 = .ok (.getfield 60, 3) := by decide +kernel
theorem dX12_write_42 : decode cX12_write 42 = .ok (.aload_n 0, 1) := by decide +kernel
theorem dX12_write_43 : decode cX12_write 43 = .ok (.getfield 155, 3) := by decide +kernel
theorem dX12_write_46 : decode cX12_write 46 = .ok (.iload_n 1, 1) := by decide +kernel
theorem dX12_write_47 : decode cX12_write 47 = .ok (.iastore, 1) := by decide +kernel
theorem dX12_write_48 : decode cX12_write 48 = .ok (.aload_n 0, 1) := by decide +kernel
theorem dX12_write_49 : decode cX12_write 49 = .ok (.getfield 63, 3) := by decide +kernel
theorem dX12_write_52 : decode cX12_write 52 = .ok (.aload_n 0, 1) := by decide +kernel
theorem dX12_write_53 : decode cX12_write 53 = .ok (.getfield 155, 3) := by decide +kernel
theorem dX12_write_56 : decode cX12_write 56 = .ok (.iload_n 2, 1) := by decide +kernel
theorem dX12_write_57 : decode cX12_write 57 = .ok (.iastore, 1) := by decide +kernel
theorem dX12_write_58 : decode cX12_write 58 = .ok (.aload_n 0, 1) := by decide +kernel
theorem dX12_write_59 : decode cX12_write 59 = .ok (.dup, 1) := by decide +kernel
theorem dX12_write_60 : decode cX12_write 60 = .ok (.getfield 155, 3) := by decide +kernel
theorem dX12_write_63 : decode cX12_write 63 = .ok (.iconst 1, 1) := by decide +kernel
theorem dX12_write_64 : decode cX12_write 64 = .ok (.iadd, 1) := by decide +kernel
theorem dX12_write_65 : decode cX12_write 65 = .ok (.putfield 155, 3) := by decide +kernel
theorem dX12_write_68 : decode cX12_write 68 = .ok (.aload_n 0, 1) := by decide +kernel
theorem dX12_write_69 : decode cX12_write 69 = .ok (.getfield 155, 3) := by decide +kernel
theorem dX12_write_72 : decode cX12_write 72 = .ok (.ireturn, 1) := by decide +kernel
theorem dX12_tear_0 : decode cX12_tear 0 = .ok (.aload_n 0, 1) := by decide +kernel
theorem dX12_tear_1 : decode cX12_tear 1 = .ok (.getfield 152, 3) := by decide +kernel
theorem dX12_tear_4 : decode cX12_tear 4 = .ok (.aload_n 0, 1) := by decide +kernel
theorem dX12_tear_5 : decode cX12_tear 5 = .ok (.getfield 155, 3) := by decide +kernel
theorem dX12_tear_8 : decode cX12_tear 8 = .ok (.iadd, 1) := by decide +kernel
theorem dX12_tear_9 : decode cX12_tear 9 = .ok (.istore_n 1, 1) := by decide +kernel
theorem dX12_tear_10 : decode cX12_tear 10 = .ok (.aload_n 0, 1) := by decide +kernel
theorem dX12_tear_11 : decode cX12_tear 11 = .ok (.iconst 0, 1) := by decide +kernel
theorem dX12_tear_12 : decode cX12_tear 12 = .ok (.putfield 152, 3) := by decide +kernel
theorem dX12_tear_15 : decode cX12_tear 15 = .ok (.aload_n 0, 1) := by decide +kernel
theorem dX12_tear_16 : decode cX12_tear 16 = .ok (.iconst 0, 1) := by decide +kernel
theorem dX12_tear_17 : decode cX12_tear 17 = .ok (.putfield 155, 3) := by decide +kernel
theorem dX12_tear_20 : decode cX12_tear 20 = .ok (.iload_n 1, 1) := by decide +kernel
theorem dX12_tear_21 : decode cX12_tear 21 = .ok (.ireturn, 1) := by decide +kernel
theorem dX12_judge_0 : decode cX12_judge 0 = .ok (.iconst 0, 1) := by decide +kernel
theorem dX12_judge_1 : decode cX12_judge 1 = .ok (.istore_n 1, 1) := by decide +kernel
theorem dX12_judge_2 : decode cX12_judge 2 = .ok (.iload_n 1, 1) := by decide +kernel
theorem dX12_judge_3 : decode cX12_judge 3 = .ok (.aload_n 0, 1) := by decide +kernel
theorem dX12_judge_4 : decode cX12_judge 4 = .ok (.getfield 155, 3) := by decide +kernel
theorem dX12_judge_7 : decode cX12_judge 7 = .ok (.if_icmp .ge 34, 3) := by decide +kernel
theorem dX12_judge_10 : decode cX12_judge 10 = .ok (.aload_n 0, 1) := by decide +kernel
theorem dX12_judge_11 : decode cX12_judge 11 = .ok (.getfield 16, 3) := by decide +kernel
theorem dX12_judge_14 : decode cX12_judge 14 = .ok (.bipush 9, 2) := by decide +kernel
theorem dX12_judge_16 : decode cX12_judge 16 = .ok (.aload_n 0, 1) := by decide +kernel
theorem dX12_judge_17 : decode cX12_judge 17 = .ok (.getfield 60, 3) := by decide +kernel
theorem dX12_judge_20 : decode cX12_judge 20 = .ok (.iload_n 1, 1) := by decide +kernel
theorem dX12_judge_21 : decode cX12_judge 21 = .ok (.iaload, 1) := by decide +kernel
theorem dX12_judge_22 : decode cX12_judge 22 = .ok (.iadd, 1) := by decide +kernel
theorem dX12_judge_23 : decode cX12_judge 23 = .ok (.iaload, 1) := by decide +kernel
theorem dX12_judge_24 : decode cX12_judge 24 = .ok (.aload_n 0, 1) := by decide +kernel
theorem dX12_judge_25 : decode cX12_judge 25 = .ok (.getfield 63, 3) := by decide +kernel
theorem dX12_judge_28 : decode cX12_judge 28 = .ok (.iload_n 1, 1) := by decide +kernel
theorem dX12_judge_29 : decode cX12_judge 29 = .ok (.iaload, 1) := by decide +kernel
theorem dX12_judge_30 : decode cX12_judge 30 = .ok (.if_icmp .eq 5, 3) := by decide +kernel
theorem dX12_judge_33 : decode cX12_judge 33 = .ok (.iload_n 1, 1) := by decide +kernel
theorem dX12_judge_34 : decode cX12_judge 34 = .ok (.ireturn, 1) := by decide +kernel
theorem dX12_judge_35 : decode cX12_judge 35 = .ok (.iinc 1 1, 3) := by decide +kernel
theorem dX12_judge_38 : decode cX12_judge 38 = .ok (.goto (-36), 3) := by decide +kernel
theorem dX12_judge_41 : decode cX12_judge 41 = .ok (.iconst (-1), 1) := by decide +kernel
theorem dX12_judge_42 : decode cX12_judge 42 = .ok (.ireturn, 1) := by decide +kernel
theorem dX12_seed_0 : decode cX12_seed 0 = .ok (.iload_n 1, 1) := by decide +kernel
theorem dX12_seed_1 : decode cX12_seed 1 = .ok (.ifCond .ge 6, 3) := by decide +kernel
theorem dX12_seed_4 : decode cX12_seed 4 = .ok (.ldc 85, 2) := by decide +kernel
theorem dX12_seed_6 : decode cX12_seed 6 = .ok (.ireturn, 1) := by decide +kernel
theorem dX12_seed_7 : decode cX12_seed 7 = .ok (.aload_n 0, 1) := by decide +kernel
theorem dX12_seed_8 : decode cX12_seed 8 = .ok (.getfield 202, 3) := by decide +kernel
theorem dX12_seed_11 : decode cX12_seed 11 = .ok (.istore_n 2, 1) := by decide +kernel
theorem dX12_seed_12 : decode cX12_seed 12 = .ok (.aload_n 0, 1) := by decide +kernel
theorem dX12_seed_13 : decode cX12_seed 13 = .ok (.iload_n 1, 1) := by decide +kernel
theorem dX12_seed_14 : decode cX12_seed 14 = .ok (.putfield 202, 3) := by decide +kernel
theorem dX12_seed_17 : decode cX12_seed 17 = .ok (.iload_n 2, 1) := by decide +kernel
theorem dX12_seed_18 : decode cX12_seed 18 = .ok (.ireturn, 1) := by decide +kernel
theorem dX12_keep_0 : decode cX12_keep 0 = .ok (.iload_n 1, 1) := by decide +kernel
theorem dX12_keep_1 : decode cX12_keep 1 = .ok (.i2l, 1) := by decide +kernel
theorem dX12_keep_2 : decode cX12_keep 2 = .ok (.lconst 0, 1) := by decide +kernel
theorem dX12_keep_3 : decode cX12_keep 3 = .ok (.lconst 1, 1) := by decide +kernel
theorem dX12_keep_4 : decode cX12_keep 4 = .ok (.invokestatic 79, 3) := by decide +kernel
theorem dX12_keep_7 : decode cX12_keep 7 = .ok (.ifCond .ne 6, 3) := by decide +kernel
theorem dX12_keep_10 : decode cX12_keep 10 = .ok (.ldc 190, 2) := by decide +kernel
theorem dX12_keep_12 : decode cX12_keep 12 = .ok (.ireturn, 1) := by decide +kernel
theorem dX12_keep_13 : decode cX12_keep 13 = .ok (.iconst 0, 1) := by decide +kernel
theorem dX12_keep_14 : decode cX12_keep 14 = .ok (.istore_n 2, 1) := by decide +kernel
theorem dX12_keep_15 : decode cX12_keep 15 = .ok (.iload_n 2, 1) := by decide +kernel
theorem dX12_keep_16 : decode cX12_keep 16 = .ok (.bipush 25, 2) := by decide +kernel
theorem dX12_keep_18 : decode cX12_keep 18 = .ok (.if_icmp .ge 26, 3) := by decide +kernel
theorem dX12_keep_21 : decode cX12_keep 21 = .ok (.aload_n 0, 1) := by decide +kernel
theorem dX12_keep_22 : decode cX12_keep 22 = .ok (.getfield 66, 3) := by decide +kernel
theorem dX12_keep_25 : decode cX12_keep 25 = .ok (.bipush 26, 2) := by decide +kernel
theorem dX12_keep_27 : decode cX12_keep 27 = .ok (.iload_n 1, 1) := by decide +kernel
theorem dX12_keep_28 : decode cX12_keep 28 = .ok (.imul, 1) := by decide +kernel
theorem dX12_keep_29 : decode cX12_keep 29 = .ok (.iload_n 2, 1) := by decide +kernel
theorem dX12_keep_30 : decode cX12_keep 30 = .ok (.iadd, 1) := by decide +kernel
theorem dX12_keep_31 : decode cX12_keep 31 = .ok (.aload_n 0, 1) := by decide +kernel
theorem dX12_keep_32 : decode cX12_keep 32 = .ok (.getfield 16, 3) := by decide +kernel
theorem dX12_keep_35 : decode cX12_keep 35 = .ok (.iload_n 2, 1) := by decide +kernel
theorem dX12_keep_36 : decode cX12_keep 36 = .ok (.iaload, 1) := by decide +kernel
theorem dX12_keep_37 : decode cX12_keep 37 = .ok (.iastore, 1) := by decide +kernel
theorem dX12_keep_38 : decode cX12_keep 38 = .ok (.iinc 2 1, 3) := by decide +kernel
theorem dX12_keep_41 : decode cX12_keep 41 = .ok (.goto (-26), 3) := by decide +kernel
theorem dX12_keep_44 : decode cX12_keep 44 = .ok (.aload_n 0, 1) := by decide +kernel
theorem dX12_keep_45 : decode cX12_keep 45 = .ok (.getfield 66, 3) := by decide +kernel
theorem dX12_keep_48 : decode cX12_keep 48 = .ok (.bipush 26, 2) := by decide +kernel
theorem dX12_keep_50 : decode cX12_keep 50 = .ok (.iload_n 1, 1) := by decide +kernel
theorem dX12_keep_51 : decode cX12_keep 51 = .ok (.imul, 1) := by decide +kernel
theorem dX12_keep_52 : decode cX12_keep 52 = .ok (.bipush 25, 2) := by decide +kernel
theorem dX12_keep_54 : decode cX12_keep 54 = .ok (.iadd, 1) := by decide +kernel
theorem dX12_keep_55 : decode cX12_keep 55 = .ok (.aload_n 0, 1) := by decide +kernel
theorem dX12_keep_56 : decode cX12_keep 56 = .ok (.getfield 202, 3) := by decide +kernel
theorem dX12_keep_59 : decode cX12_keep 59 = .ok (.iastore, 1) := by decide +kernel
theorem dX12_keep_60 : decode cX12_keep 60 = .ok (.aload_n 0, 1) := by decide +kernel
theorem dX12_keep_61 : decode cX12_keep 61 = .ok (.getfield 69, 3) := by decide +kernel
theorem dX12_keep_64 : decode cX12_keep 64 = .ok (.iload_n 1, 1) := by decide +kernel
theorem dX12_keep_65 : decode cX12_keep 65 = .ok (.iconst 1, 1) := by decide +kernel
theorem dX12_keep_66 : decode cX12_keep 66 = .ok (.bastore, 1) := by decide +kernel
theorem dX12_keep_67 : decode cX12_keep 67 = .ok (.aload_n 0, 1) := by decide +kernel
theorem dX12_keep_68 : decode cX12_keep 68 = .ok (.iconst 0, 1) := by decide +kernel
end
section
-- the decode rows as printed for this claim (a starting text)
theorem dX12_keep_69 : decode cX12_keep 69 = .ok (.putfield 158, 3) := by decide +kernel
theorem dX12_keep_72 : decode cX12_keep 72 = .ok (.iconst 1, 1) := by decide +kernel
theorem dX12_keep_73 : decode cX12_keep 73 = .ok (.ireturn, 1) := by decide +kernel
theorem dX12_goBack_0 : decode cX12_goBack 0 = .ok (.iload_n 1, 1) := by decide +kernel
theorem dX12_goBack_1 : decode cX12_goBack 1 = .ok (.i2l, 1) := by decide +kernel
theorem dX12_goBack_2 : decode cX12_goBack 2 = .ok (.lconst 0, 1) := by decide +kernel
theorem dX12_goBack_3 : decode cX12_goBack 3 = .ok (.lconst 1, 1) := by decide +kernel
theorem dX12_goBack_4 : decode cX12_goBack 4 = .ok (.invokestatic 79, 3) := by decide +kernel
theorem dX12_goBack_7 : decode cX12_goBack 7 = .ok (.ifCond .ne 6, 3) := by decide +kernel
theorem dX12_goBack_10 : decode cX12_goBack 10 = .ok (.ldc 190, 2) := by decide +kernel
theorem dX12_goBack_12 : decode cX12_goBack 12 = .ok (.ireturn, 1) := by decide +kernel
theorem dX12_goBack_13 : decode cX12_goBack 13 = .ok (.aload_n 0, 1) := by decide +kernel
theorem dX12_goBack_14 : decode cX12_goBack 14 = .ok (.getfield 69, 3) := by decide +kernel
theorem dX12_goBack_17 : decode cX12_goBack 17 = .ok (.iload_n 1, 1) := by decide +kernel
theorem dX12_goBack_18 : decode cX12_goBack 18 = .ok (.baload, 1) := by decide +kernel
theorem dX12_goBack_19 : decode cX12_goBack 19 = .ok (.ifCond .ne 6, 3) := by decide +kernel
theorem dX12_goBack_22 : decode cX12_goBack 22 = .ok (.ldc 201, 2) := by decide +kernel
theorem dX12_goBack_24 : decode cX12_goBack 24 = .ok (.ireturn, 1) := by decide +kernel
theorem dX12_goBack_25 : decode cX12_goBack 25 = .ok (.iconst 0, 1) := by decide +kernel
theorem dX12_goBack_26 : decode cX12_goBack 26 = .ok (.istore_n 2, 1) := by decide +kernel
theorem dX12_goBack_27 : decode cX12_goBack 27 = .ok (.iload_n 2, 1) := by decide +kernel
theorem dX12_goBack_28 : decode cX12_goBack 28 = .ok (.bipush 25, 2) := by decide +kernel
theorem dX12_goBack_30 : decode cX12_goBack 30 = .ok (.if_icmp .ge 26, 3) := by decide +kernel
theorem dX12_goBack_33 : decode cX12_goBack 33 = .ok (.aload_n 0, 1) := by decide +kernel
theorem dX12_goBack_34 : decode cX12_goBack 34 = .ok (.getfield 16, 3) := by decide +kernel
theorem dX12_goBack_37 : decode cX12_goBack 37 = .ok (.iload_n 2, 1) := by decide +kernel
theorem dX12_goBack_38 : decode cX12_goBack 38 = .ok (.aload_n 0, 1) := by decide +kernel
theorem dX12_goBack_39 : decode cX12_goBack 39 = .ok (.getfield 66, 3) := by decide +kernel
theorem dX12_goBack_42 : decode cX12_goBack 42 = .ok (.bipush 26, 2) := by decide +kernel
theorem dX12_goBack_44 : decode cX12_goBack 44 = .ok (.iload_n 1, 1) := by decide +kernel
theorem dX12_goBack_45 : decode cX12_goBack 45 = .ok (.imul, 1) := by decide +kernel
theorem dX12_goBack_46 : decode cX12_goBack 46 = .ok (.iload_n 2, 1) := by decide +kernel
theorem dX12_goBack_47 : decode cX12_goBack 47 = .ok (.iadd, 1) := by decide +kernel
theorem dX12_goBack_48 : decode cX12_goBack 48 = .ok (.iaload, 1) := by decide +kernel
theorem dX12_goBack_49 : decode cX12_goBack 49 = .ok (.iastore, 1) := by decide +kernel
theorem dX12_goBack_50 : decode cX12_goBack 50 = .ok (.iinc 2 1, 3) := by decide +kernel
theorem dX12_goBack_53 : decode cX12_goBack 53 = .ok (.goto (-26), 3) := by decide +kernel
theorem dX12_goBack_56 : decode cX12_goBack 56 = .ok (.aload_n 0, 1) := by decide +kernel
theorem dX12_goBack_57 : decode cX12_goBack 57 = .ok (.aload_n 0, 1) := by decide +kernel
theorem dX12_goBack_58 : decode cX12_goBack 58 = .ok (.getfield 66, 3) := by decide +kernel
theorem dX12_goBack_61 : decode cX12_goBack 61 = .ok (.bipush 26, 2) := by decide +kernel
theorem dX12_goBack_63 : decode cX12_goBack 63 = .ok (.iload_n 1, 1) := by decide +kernel
theorem dX12_goBack_64 : decode cX12_goBack 64 = .ok (.imul, 1) := by decide +kernel
theorem dX12_goBack_65 : decode cX12_goBack 65 = .ok (.bipush 25, 2) := by decide +kernel
theorem dX12_goBack_67 : decode cX12_goBack 67 = .ok (.iadd, 1) := by decide +kernel
theorem dX12_goBack_68 : decode cX12_goBack 68 = .ok (.iaload, 1) := by decide +kernel
theorem dX12_goBack_69 : decode cX12_goBack 69 = .ok (.putfield 202, 3) := by decide +kernel
theorem dX12_goBack_72 : decode cX12_goBack 72 = .ok (.aload_n 0, 1) := by decide +kernel
theorem dX12_goBack_73 : decode cX12_goBack 73 = .ok (.iconst 0, 1) := by decide +kernel
theorem dX12_goBack_74 : decode cX12_goBack 74 = .ok (.putfield 158, 3) := by decide +kernel
theorem dX12_goBack_77 : decode cX12_goBack 77 = .ok (.iconst 1, 1) := by decide +kernel
theorem dX12_goBack_78 : decode cX12_goBack 78 = .ok (.ireturn, 1) := by decide +kernel
theorem dJ6_numberOfTrailingZeros_0f7a4_0 : decode cJ6_numberOfTrailingZeros_0f7a4 0 = .ok (.iload_n 0, 1) := by decide +kernel
theorem dJ6_numberOfTrailingZeros_0f7a4_1 : decode cJ6_numberOfTrailingZeros_0f7a4 1 = .ok (.iconst (-1), 1) := by decide +kernel
theorem dJ6_numberOfTrailingZeros_0f7a4_2 : decode cJ6_numberOfTrailingZeros_0f7a4 2 = .ok (.ixor, 1) := by decide +kernel
theorem dJ6_numberOfTrailingZeros_0f7a4_3 : decode cJ6_numberOfTrailingZeros_0f7a4 3 = .ok (.iload_n 0, 1) := by decide +kernel
theorem dJ6_numberOfTrailingZeros_0f7a4_4 : decode cJ6_numberOfTrailingZeros_0f7a4 4 = .ok (.iconst 1, 1) := by decide +kernel
theorem dJ6_numberOfTrailingZeros_0f7a4_5 : decode cJ6_numberOfTrailingZeros_0f7a4 5 = .ok (.isub, 1) := by decide +kernel
theorem dJ6_numberOfTrailingZeros_0f7a4_6 : decode cJ6_numberOfTrailingZeros_0f7a4 6 = .ok (.iand, 1) := by decide +kernel
theorem dJ6_numberOfTrailingZeros_0f7a4_7 : decode cJ6_numberOfTrailingZeros_0f7a4 7 = .ok (.istore_n 0, 1) := by decide +kernel
theorem dJ6_numberOfTrailingZeros_0f7a4_8 : decode cJ6_numberOfTrailingZeros_0f7a4 8 = .ok (.iload_n 0, 1) := by decide +kernel
theorem dJ6_numberOfTrailingZeros_0f7a4_9 : decode cJ6_numberOfTrailingZeros_0f7a4 9 = .ok (.ifCond .gt 8, 3) := by decide +kernel
theorem dJ6_numberOfTrailingZeros_0f7a4_12 : decode cJ6_numberOfTrailingZeros_0f7a4 12 = .ok (.iload_n 0, 1) := by decide +kernel
theorem dJ6_numberOfTrailingZeros_0f7a4_13 : decode cJ6_numberOfTrailingZeros_0f7a4 13 = .ok (.bipush 32, 2) := by decide +kernel
theorem dJ6_numberOfTrailingZeros_0f7a4_15 : decode cJ6_numberOfTrailingZeros_0f7a4 15 = .ok (.iand, 1) := by decide +kernel
theorem dJ6_numberOfTrailingZeros_0f7a4_16 : decode cJ6_numberOfTrailingZeros_0f7a4 16 = .ok (.ireturn, 1) := by decide +kernel
theorem dJ6_numberOfTrailingZeros_0f7a4_17 : decode cJ6_numberOfTrailingZeros_0f7a4 17 = .ok (.iconst 1, 1) := by decide +kernel
theorem dJ6_numberOfTrailingZeros_0f7a4_18 : decode cJ6_numberOfTrailingZeros_0f7a4 18 = .ok (.istore_n 1, 1) := by decide +kernel
theorem dJ6_numberOfTrailingZeros_0f7a4_19 : decode cJ6_numberOfTrailingZeros_0f7a4 19 = .ok (.iload_n 0, 1) := by decide +kernel
theorem dJ6_numberOfTrailingZeros_0f7a4_20 : decode cJ6_numberOfTrailingZeros_0f7a4 20 = .ok (.ldc_w 264, 3) := by decide +kernel
theorem dJ6_numberOfTrailingZeros_0f7a4_23 : decode cJ6_numberOfTrailingZeros_0f7a4 23 = .ok (.if_icmp .le 11, 3) := by decide +kernel
theorem dJ6_numberOfTrailingZeros_0f7a4_26 : decode cJ6_numberOfTrailingZeros_0f7a4 26 = .ok (.iinc 1 16, 3) := by decide +kernel
theorem dJ6_numberOfTrailingZeros_0f7a4_29 : decode cJ6_numberOfTrailingZeros_0f7a4 29 = .ok (.iload_n 0, 1) := by decide +kernel
theorem dJ6_numberOfTrailingZeros_0f7a4_30 : decode cJ6_numberOfTrailingZeros_0f7a4 30 = .ok (.bipush 16, 2) := by decide +kernel
theorem dJ6_numberOfTrailingZeros_0f7a4_32 : decode cJ6_numberOfTrailingZeros_0f7a4 32 = .ok (.iushr, 1) := by decide +kernel
theorem dJ6_numberOfTrailingZeros_0f7a4_33 : decode cJ6_numberOfTrailingZeros_0f7a4 33 = .ok (.istore_n 0, 1) := by decide +kernel
theorem dJ6_numberOfTrailingZeros_0f7a4_34 : decode cJ6_numberOfTrailingZeros_0f7a4 34 = .ok (.iload_n 0, 1) := by decide +kernel
theorem dJ6_numberOfTrailingZeros_0f7a4_35 : decode cJ6_numberOfTrailingZeros_0f7a4 35 = .ok (.sipush 256, 3) := by decide +kernel
theorem dJ6_numberOfTrailingZeros_0f7a4_38 : decode cJ6_numberOfTrailingZeros_0f7a4 38 = .ok (.if_icmp .le 11, 3) := by decide +kernel
theorem dJ6_numberOfTrailingZeros_0f7a4_41 : decode cJ6_numberOfTrailingZeros_0f7a4 41 = .ok (.iinc 1 8, 3) := by decide +kernel
theorem dJ6_numberOfTrailingZeros_0f7a4_44 : decode cJ6_numberOfTrailingZeros_0f7a4 44 = .ok (.iload_n 0, 1) := by decide +kernel
theorem dJ6_numberOfTrailingZeros_0f7a4_45 : decode cJ6_numberOfTrailingZeros_0f7a4 45 = .ok (.bipush 8, 2) := by decide +kernel
theorem dJ6_numberOfTrailingZeros_0f7a4_47 : decode cJ6_numberOfTrailingZeros_0f7a4 47 = .ok (.iushr, 1) := by decide +kernel
theorem dJ6_numberOfTrailingZeros_0f7a4_48 : decode cJ6_numberOfTrailingZeros_0f7a4 48 = .ok (.istore_n 0, 1) := by decide +kernel
theorem dJ6_numberOfTrailingZeros_0f7a4_49 : decode cJ6_numberOfTrailingZeros_0f7a4 49 = .ok (.iload_n 0, 1) := by decide +kernel
theorem dJ6_numberOfTrailingZeros_0f7a4_50 : decode cJ6_numberOfTrailingZeros_0f7a4 50 = .ok (.bipush 16, 2) := by decide +kernel
theorem dJ6_numberOfTrailingZeros_0f7a4_52 : decode cJ6_numberOfTrailingZeros_0f7a4 52 = .ok (.if_icmp .le 10, 3) := by decide +kernel
theorem dJ6_numberOfTrailingZeros_0f7a4_55 : decode cJ6_numberOfTrailingZeros_0f7a4 55 = .ok (.iinc 1 4, 3) := by decide +kernel
theorem dJ6_numberOfTrailingZeros_0f7a4_58 : decode cJ6_numberOfTrailingZeros_0f7a4 58 = .ok (.iload_n 0, 1) := by decide +kernel
theorem dJ6_numberOfTrailingZeros_0f7a4_59 : decode cJ6_numberOfTrailingZeros_0f7a4 59 = .ok (.iconst 4, 1) := by decide +kernel
theorem dJ6_numberOfTrailingZeros_0f7a4_60 : decode cJ6_numberOfTrailingZeros_0f7a4 60 = .ok (.iushr, 1) := by decide +kernel
theorem dJ6_numberOfTrailingZeros_0f7a4_61 : decode cJ6_numberOfTrailingZeros_0f7a4 61 = .ok (.istore_n 0, 1) := by decide +kernel
theorem dJ6_numberOfTrailingZeros_0f7a4_62 : decode cJ6_numberOfTrailingZeros_0f7a4 62 = .ok (.iload_n 0, 1) := by decide +kernel
theorem dJ6_numberOfTrailingZeros_0f7a4_63 : decode cJ6_numberOfTrailingZeros_0f7a4 63 = .ok (.iconst 4, 1) := by decide +kernel
theorem dJ6_numberOfTrailingZeros_0f7a4_64 : decode cJ6_numberOfTrailingZeros_0f7a4 64 = .ok (.if_icmp .le 10, 3) := by decide +kernel
theorem dJ6_numberOfTrailingZeros_0f7a4_67 : decode cJ6_numberOfTrailingZeros_0f7a4 67 = .ok (.iinc 1 2, 3) := by decide +kernel
theorem dJ6_numberOfTrailingZeros_0f7a4_70 : decode cJ6_numberOfTrailingZeros_0f7a4 70 = .ok (.iload_n 0, 1) := by decide +kernel
theorem dJ6_numberOfTrailingZeros_0f7a4_71 : decode cJ6_numberOfTrailingZeros_0f7a4 71 = .ok (.iconst 2, 1) := by decide +kernel
theorem dJ6_numberOfTrailingZeros_0f7a4_72 : decode cJ6_numberOfTrailingZeros_0f7a4 72 = .ok (.iushr, 1) := by decide +kernel
theorem dJ6_numberOfTrailingZeros_0f7a4_73 : decode cJ6_numberOfTrailingZeros_0f7a4 73 = .ok (.istore_n 0, 1) := by decide +kernel
theorem dJ6_numberOfTrailingZeros_0f7a4_74 : decode cJ6_numberOfTrailingZeros_0f7a4 74 = .ok (.iload_n 1, 1) := by decide +kernel
theorem dJ6_numberOfTrailingZeros_0f7a4_75 : decode cJ6_numberOfTrailingZeros_0f7a4 75 = .ok (.iload_n 0, 1) := by decide +kernel
theorem dJ6_numberOfTrailingZeros_0f7a4_76 : decode cJ6_numberOfTrailingZeros_0f7a4 76 = .ok (.iconst 1, 1) := by decide +kernel
theorem dJ6_numberOfTrailingZeros_0f7a4_77 : decode cJ6_numberOfTrailingZeros_0f7a4 77 = .ok (.iushr, 1) := by decide +kernel
theorem dJ6_numberOfTrailingZeros_0f7a4_78 : decode cJ6_numberOfTrailingZeros_0f7a4 78 = .ok (.iadd, 1) := by decide +kernel
theorem dJ6_numberOfTrailingZeros_0f7a4_79 : decode cJ6_numberOfTrailingZeros_0f7a4 79 = .ok (.ireturn, 1) := by decide +kernel
theorem dJ6_bitCount_0f7a4_0 : decode cJ6_bitCount_0f7a4 0 = .ok (.iload_n 0, 1) := by decide +kernel
theorem dJ6_bitCount_0f7a4_1 : decode cJ6_bitCount_0f7a4 1 = .ok (.iload_n 0, 1) := by decide +kernel
theorem dJ6_bitCount_0f7a4_2 : decode cJ6_bitCount_0f7a4 2 = .ok (.iconst 1, 1) := by decide +kernel
theorem dJ6_bitCount_0f7a4_3 : decode cJ6_bitCount_0f7a4 3 = .ok (.iushr, 1) := by decide +kernel
theorem dJ6_bitCount_0f7a4_4 : decode cJ6_bitCount_0f7a4 4 = .ok (.ldc_w 265, 3) := by decide +kernel
theorem dJ6_bitCount_0f7a4_7 : decode cJ6_bitCount_0f7a4 7 = .ok (.iand, 1) := by decide +kernel
theorem dJ6_bitCount_0f7a4_8 : decode cJ6_bitCount_0f7a4 8 = .ok (.isub, 1) := by decide +kernel
theorem dJ6_bitCount_0f7a4_9 : decode cJ6_bitCount_0f7a4 9 = .ok (.istore_n 0, 1) := by decide +kernel
theorem dJ6_bitCount_0f7a4_10 : decode cJ6_bitCount_0f7a4 10 = .ok (.iload_n 0, 1) := by decide +kernel
theorem dJ6_bitCount_0f7a4_11 : decode cJ6_bitCount_0f7a4 11 = .ok (.ldc_w 266, 3) := by decide +kernel
theorem dJ6_bitCount_0f7a4_14 : decode cJ6_bitCount_0f7a4 14 = .ok (.iand, 1) := by decide +kernel
theorem dJ6_bitCount_0f7a4_15 : decode cJ6_bitCount_0f7a4 15 = .ok (.iload_n 0, 1) := by decide +kernel
theorem dJ6_bitCount_0f7a4_16 : decode cJ6_bitCount_0f7a4 16 = .ok (.iconst 2, 1) := by decide +kernel
theorem dJ6_bitCount_0f7a4_17 : decode cJ6_bitCount_0f7a4 17 = .ok (.iushr, 1) := by decide +kernel
theorem dJ6_bitCount_0f7a4_18 : decode cJ6_bitCount_0f7a4 18 = .ok (.ldc_w 266, 3) := by decide +kernel
theorem dJ6_bitCount_0f7a4_21 : decode cJ6_bitCount_0f7a4 21 = .ok (.iand, 1) := by decide +kernel
theorem dJ6_bitCount_0f7a4_22 : decode cJ6_bitCount_0f7a4 22 = .ok (.iadd, 1) := by decide +kernel
theorem dJ6_bitCount_0f7a4_23 : decode cJ6_bitCount_0f7a4 23 = .ok (.istore_n 0, 1) := by decide +kernel
theorem dJ6_bitCount_0f7a4_24 : decode cJ6_bitCount_0f7a4 24 = .ok (.iload_n 0, 1) := by decide +kernel
theorem dJ6_bitCount_0f7a4_25 : decode cJ6_bitCount_0f7a4 25 = .ok (.iload_n 0, 1) := by decide +kernel
theorem dJ6_bitCount_0f7a4_26 : decode cJ6_bitCount_0f7a4 26 = .ok (.iconst 4, 1) := by decide +kernel
theorem dJ6_bitCount_0f7a4_27 : decode cJ6_bitCount_0f7a4 27 = .ok (.iushr, 1) := by decide +kernel
theorem dJ6_bitCount_0f7a4_28 : decode cJ6_bitCount_0f7a4 28 = .ok (.iadd, 1) := by decide +kernel
theorem dJ6_bitCount_0f7a4_29 : decode cJ6_bitCount_0f7a4 29 = .ok (.ldc_w 267, 3) := by decide +kernel
theorem dJ6_bitCount_0f7a4_32 : decode cJ6_bitCount_0f7a4 32 = .ok (.iand, 1) := by decide +kernel
theorem dJ6_bitCount_0f7a4_33 : decode cJ6_bitCount_0f7a4 33 = .ok (.istore_n 0, 1) := by decide +kernel
theorem dJ6_bitCount_0f7a4_34 : decode cJ6_bitCount_0f7a4 34 = .ok (.iload_n 0, 1) := by decide +kernel
theorem dJ6_bitCount_0f7a4_35 : decode cJ6_bitCount_0f7a4 35 = .ok (.iload_n 0, 1) := by decide +kernel
theorem dJ6_bitCount_0f7a4_36 : decode cJ6_bitCount_0f7a4 36 = .ok (.bipush 8, 2) := by decide +kernel
theorem dJ6_bitCount_0f7a4_38 : decode cJ6_bitCount_0f7a4 38 = .ok (.iushr, 1) := by decide +kernel
theorem dJ6_bitCount_0f7a4_39 : decode cJ6_bitCount_0f7a4 39 = .ok (.iadd, 1) := by decide +kernel
theorem dJ6_bitCount_0f7a4_40 : decode cJ6_bitCount_0f7a4 40 = .ok (.istore_n 0, 1) := by decide +kernel
theorem dJ6_bitCount_0f7a4_41 : decode cJ6_bitCount_0f7a4 41 = .ok (.iload_n 0, 1) := by decide +kernel
theorem dJ6_bitCount_0f7a4_42 : decode cJ6_bitCount_0f7a4 42 = .ok (.iload_n 0, 1) := by decide +kernel
theorem dJ6_bitCount_0f7a4_43 : decode cJ6_bitCount_0f7a4 43 = .ok (.bipush 16, 2) := by decide +kernel
theorem dJ6_bitCount_0f7a4_45 : decode cJ6_bitCount_0f7a4 45 = .ok (.iushr, 1) := by decide +kernel
theorem dJ6_bitCount_0f7a4_46 : decode cJ6_bitCount_0f7a4 46 = .ok (.iadd, 1) := by decide +kernel
theorem dJ6_bitCount_0f7a4_47 : decode cJ6_bitCount_0f7a4 47 = .ok (.istore_n 0, 1) := by decide +kernel
theorem dJ6_bitCount_0f7a4_48 : decode cJ6_bitCount_0f7a4 48 = .ok (.iload_n 0, 1) := by decide +kernel
theorem dJ6_bitCount_0f7a4_49 : decode cJ6_bitCount_0f7a4 49 = .ok (.bipush 63, 2) := by decide +kernel
theorem dJ6_bitCount_0f7a4_51 : decode cJ6_bitCount_0f7a4 51 = .ok (.iand, 1) := by decide +kernel
theorem dJ6_bitCount_0f7a4_52 : decode cJ6_bitCount_0f7a4 52 = .ok (.ireturn, 1) := by decide +kernel
theorem dL_law_0 : decode cL_law 0 = .ok (.new 7, 3) := by decide +kernel
theorem dL_law_3 : decode cL_law 3 = .ok (.dup, 1) := by decide +kernel
theorem dL_law_4 : decode cL_law 4 = .ok (.invokespecial 9, 3) := by decide +kernel
theorem dL_law_7 : decode cL_law 7 = .ok (.astore_n 1, 1) := by decide +kernel
theorem dL_law_8 : decode cL_law 8 = .ok (.new 10, 3) := by decide +kernel
theorem dL_law_11 : decode cL_law 11 = .ok (.dup, 1) := by decide +kernel
theorem dL_law_12 : decode cL_law 12 = .ok (.invokespecial 12, 3) := by decide +kernel
theorem dL_law_15 : decode cL_law 15 = .ok (.astore_n 2, 1) := by decide +kernel
theorem dL_law_16 : decode cL_law 16 = .ok (.iconst 0, 1) := by decide +kernel
theorem dL_law_17 : decode cL_law 17 = .ok (.istore_n 3, 1) := by decide +kernel
theorem dL_law_18 : decode cL_law 18 = .ok (.iload_n 3, 1) := by decide +kernel
theorem dL_law_19 : decode cL_law 19 = .ok (.aload_n 0, 1) := by decide +kernel
theorem dL_law_20 : decode cL_law 20 = .ok (.arraylength, 1) := by decide +kernel
theorem dL_law_21 : decode cL_law 21 = .ok (.iconst 4, 1) := by decide +kernel
theorem dL_law_22 : decode cL_law 22 = .ok (.isub, 1) := by decide +kernel
theorem dL_law_23 : decode cL_law 23 = .ok (.if_icmp .gt 886, 3) := by decide +kernel
theorem dL_law_26 : decode cL_law 26 = .ok (.aload_n 0, 1) := by decide +kernel
theorem dL_law_27 : decode cL_law 27 = .ok (.iload_n 3, 1) := by decide +kernel
theorem dL_law_28 : decode cL_law 28 = .ok (.iaload, 1) := by decide +kernel
theorem dL_law_29 : decode cL_law 29 = .ok (.bipush 31, 2) := by decide +kernel
theorem dL_law_31 : decode cL_law 31 = .ok (.iand, 1) := by decide +kernel
theorem dL_law_32 : decode cL_law 32 = .ok (.tableswitch 871 0 28 #[132, 155, 168, 181, 204, 237, 270, 293, 316, 339, 362, 411, 434, 447, 480, 503, 526, 569, 612, 635, 668, 717, 730, 743, 776, 789, 802, 825, 848], 132) := by decide +kernel
theorem dL_law_164 : decode cL_law 164 = .ok (.aload_n 1, 1) := by decide +kernel
theorem dL_law_165 : decode cL_law 165 = .ok (.aload_n 0, 1) := by decide +kernel
theorem dL_law_166 : decode cL_law 166 = .ok (.iload_n 3, 1) := by decide +kernel
theorem dL_law_167 : decode cL_law 167 = .ok (.iconst 1, 1) := by decide +kernel
theorem dL_law_168 : decode cL_law 168 = .ok (.iadd, 1) := by decide +kernel
theorem dL_law_169 : decode cL_law 169 = .ok (.iaload, 1) := by decide +kernel
theorem dL_law_170 : decode cL_law 170 = .ok (.invokevirtual 13, 3) := by decide +kernel
theorem dL_law_173 : decode cL_law 173 = .ok (.aload_n 2, 1) := by decide +kernel
theorem dL_law_174 : decode cL_law 174 = .ok (.aload_n 0, 1) := by decide +kernel
theorem dL_law_175 : decode cL_law 175 = .ok (.iload_n 3, 1) := by decide +kernel
theorem dL_law_176 : decode cL_law 176 = .ok (.iconst 1, 1) := by decide +kernel
theorem dL_law_177 : decode cL_law 177 = .ok (.iadd, 1) := by decide +kernel
theorem dL_law_178 : decode cL_law 178 = .ok (.iaload, 1) := by decide +kernel
theorem dL_law_179 : decode cL_law 179 = .ok (.invokevirtual 17, 3) := by decide +kernel
theorem dL_law_182 : decode cL_law 182 = .ok (.if_icmp .eq 721, 3) := by decide +kernel
theorem dL_law_185 : decode cL_law 185 = .ok (.iconst 0, 1) := by decide +kernel
theorem dL_law_186 : decode cL_law 186 = .ok (.ireturn, 1) := by decide +kernel
theorem dL_law_187 : decode cL_law 187 = .ok (.aload_n 1, 1) := by decide +kernel
theorem dL_law_188 : decode cL_law 188 = .ok (.invokevirtual 18, 3) := by decide +kernel
theorem dL_law_191 : decode cL_law 191 = .ok (.aload_n 2, 1) := by decide +kernel
theorem dL_law_192 : decode cL_law 192 = .ok (.invokevirtual 22, 3) := by decide +kernel
theorem dL_law_195 : decode cL_law 195 = .ok (.if_icmp .eq 708, 3) := by decide +kernel
theorem dL_law_198 : decode cL_law 198 = .ok (.iconst 0, 1) := by decide +kernel
theorem dL_law_199 : decode cL_law 199 = .ok (.ireturn, 1) := by decide +kernel
theorem dL_law_200 : decode cL_law 200 = .ok (.aload_n 1, 1) := by decide +kernel
theorem dL_law_201 : decode cL_law 201 = .ok (.invokevirtual 23, 3) := by decide +kernel
theorem dL_law_204 : decode cL_law 204 = .ok (.aload_n 2, 1) := by decide +kernel
theorem dL_law_205 : decode cL_law 205 = .ok (.invokevirtual 26, 3) := by decide +kernel
theorem dL_law_208 : decode cL_law 208 = .ok (.if_icmp .eq 695, 3) := by decide +kernel
theorem dL_law_211 : decode cL_law 211 = .ok (.iconst 0, 1) := by decide +kernel
theorem dL_law_212 : decode cL_law 212 = .ok (.ireturn, 1) := by decide +kernel
theorem dL_law_213 : decode cL_law 213 = .ok (.aload_n 1, 1) := by decide +kernel
theorem dL_law_214 : decode cL_law 214 = .ok (.aload_n 0, 1) := by decide +kernel
theorem dL_law_215 : decode cL_law 215 = .ok (.iload_n 3, 1) := by decide +kernel
theorem dL_law_216 : decode cL_law 216 = .ok (.iconst 1, 1) := by decide +kernel
theorem dL_law_217 : decode cL_law 217 = .ok (.iadd, 1) := by decide +kernel
theorem dL_law_218 : decode cL_law 218 = .ok (.iaload, 1) := by decide +kernel
theorem dL_law_219 : decode cL_law 219 = .ok (.invokevirtual 27, 3) := by decide +kernel
theorem dL_law_222 : decode cL_law 222 = .ok (.aload_n 2, 1) := by decide +kernel
theorem dL_law_223 : decode cL_law 223 = .ok (.aload_n 0, 1) := by decide +kernel
theorem dL_law_224 : decode cL_law 224 = .ok (.iload_n 3, 1) := by decide +kernel
theorem dL_law_225 : decode cL_law 225 = .ok (.iconst 1, 1) := by decide +kernel
theorem dL_law_226 : decode cL_law 226 = .ok (.iadd, 1) := by decide +kernel
theorem dL_law_227 : decode cL_law 227 = .ok (.iaload, 1) := by decide +kernel
theorem dL_law_228 : decode cL_law 228 = .ok (.invokevirtual 30, 3) := by decide +kernel
theorem dL_law_231 : decode cL_law 231 = .ok (.if_icmp .eq 672, 3) := by decide +kernel
theorem dL_law_234 : decode cL_law 234 = .ok (.iconst 0, 1) := by decide +kernel
theorem dL_law_235 : decode cL_law 235 = .ok (.ireturn, 1) := by decide +kernel
theorem dL_law_236 : decode cL_law 236 = .ok (.aload_n 1, 1) := by decide +kernel
theorem dL_law_237 : decode cL_law 237 = .ok (.aload_n 0, 1) := by decide +kernel
theorem dL_law_238 : decode cL_law 238 = .ok (.iload_n 3, 1) := by decide +kernel
theorem dL_law_239 : decode cL_law 239 = .ok (.iconst 1, 1) := by decide +kernel
theorem dL_law_240 : decode cL_law 240 = .ok (.iadd, 1) := by decide +kernel
theorem dL_law_241 : decode cL_law 241 = .ok (.iaload, 1) := by decide +kernel
theorem dL_law_242 : decode cL_law 242 = .ok (.aload_n 0, 1) := by decide +kernel
theorem dL_law_243 : decode cL_law 243 = .ok (.iload_n 3, 1) := by decide +kernel
theorem dL_law_244 : decode cL_law 244 = .ok (.iconst 2, 1) := by decide +kernel
theorem dL_law_245 : decode cL_law 245 = .ok (.iadd, 1) := by decide +kernel
theorem dL_law_246 : decode cL_law 246 = .ok (.iaload, 1) := by decide +kernel
theorem dL_law_247 : decode cL_law 247 = .ok (.invokevirtual 31, 3) := by decide +kernel
theorem dL_law_250 : decode cL_law 250 = .ok (.aload_n 2, 1) := by decide +kernel
theorem dL_law_251 : decode cL_law 251 = .ok (.aload_n 0, 1) := by decide +kernel
theorem dL_law_252 : decode cL_law 252 = .ok (.iload_n 3, 1) := by decide +kernel
theorem dL_law_253 : decode cL_law 253 = .ok (.iconst 1, 1) := by decide +kernel
theorem dL_law_254 : decode cL_law 254 = .ok (.iadd, 1) := by decide +kernel
theorem dL_law_255 : decode cL_law 255 = .ok (.iaload, 1) := by decide +kernel
theorem dL_law_256 : decode cL_law 256 = .ok (.aload_n 0, 1) := by decide +kernel
theorem dL_law_257 : decode cL_law 257 = .ok (.iload_n 3, 1) := by decide +kernel
theorem dL_law_258 : decode cL_law 258 = .ok (.iconst 2, 1) := by decide +kernel
theorem dL_law_259 : decode cL_law 259 = .ok (.iadd, 1) := by decide +kernel
theorem dL_law_260 : decode cL_law 260 = .ok (.iaload, 1) := by decide +kernel
theorem dL_law_261 : decode cL_law 261 = .ok (.invokevirtual 35, 3) := by decide +kernel
theorem dL_law_264 : decode cL_law 264 = .ok (.if_icmp .eq 639, 3) := by decide +kernel
theorem dL_law_267 : decode cL_law 267 = .ok (.iconst 0, 1) := by decide +kernel
theorem dL_law_268 : decode cL_law 268 = .ok (.ireturn, 1) := by decide +kernel
theorem dL_law_269 : decode cL_law 269 = .ok (.aload_n 1, 1) := by decide +kernel
theorem dL_law_270 : decode cL_law 270 = .ok (.aload_n 0, 1) := by decide +kernel
theorem dL_law_271 : decode cL_law 271 = .ok (.iload_n 3, 1) := by decide +kernel
theorem dL_law_272 : decode cL_law 272 = .ok (.iconst 1, 1) := by decide +kernel
theorem dL_law_273 : decode cL_law 273 = .ok (.iadd, 1) := by decide +kernel
theorem dL_law_274 : decode cL_law 274 = .ok (.iaload, 1) := by decide +kernel
theorem dL_law_275 : decode cL_law 275 = .ok (.aload_n 0, 1) := by decide +kernel
theorem dL_law_276 : decode cL_law 276 = .ok (.iload_n 3, 1) := by decide +kernel
theorem dL_law_277 : decode cL_law 277 = .ok (.iconst 2, 1) := by decide +kernel
theorem dL_law_278 : decode cL_law 278 = .ok (.iadd, 1) := by decide +kernel
theorem dL_law_279 : decode cL_law 279 = .ok (.iaload, 1) := by decide +kernel
theorem dL_law_280 : decode cL_law 280 = .ok (.invokevirtual 36, 3) := by decide +kernel
theorem dL_law_283 : decode cL_law 283 = .ok (.aload_n 2, 1) := by decide +kernel
theorem dL_law_284 : decode cL_law 284 = .ok (.aload_n 0, 1) := by decide +kernel
theorem dL_law_285 : decode cL_law 285 = .ok (.iload_n 3, 1) := by decide +kernel
theorem dL_law_286 : decode cL_law 286 = .ok (.iconst 1, 1) := by decide +kernel
theorem dL_law_287 : decode cL_law 287 = .ok (.iadd, 1) := by decide +kernel
theorem dL_law_288 : decode cL_law 288 = .ok (.iaload, 1) := by decide +kernel
theorem dL_law_289 : decode cL_law 289 = .ok (.aload_n 0, 1) := by decide +kernel
theorem dL_law_290 : decode cL_law 290 = .ok (.iload_n 3, 1) := by decide +kernel
theorem dL_law_291 : decode cL_law 291 = .ok (.iconst 2, 1) := by decide +kernel
theorem dL_law_292 : decode cL_law 292 = .ok (.iadd, 1) := by decide +kernel
theorem dL_law_293 : decode cL_law 293 = .ok (.iaload, 1) := by decide +kernel
theorem dL_law_294 : decode cL_law 294 = .ok (.invokevirtual 39, 3) := by decide +kernel
theorem dL_law_297 : decode cL_law 297 = .ok (.if_icmp .eq 606, 3) := by decide +kernel
theorem dL_law_300 : decode cL_law 300 = .ok (.iconst 0, 1) := by decide +kernel
theorem dL_law_301 : decode cL_law 301 = .ok (.ireturn, 1) := by decide +kernel
theorem dL_law_302 : decode cL_law 302 = .ok (.aload_n 1, 1) := by decide +kernel
theorem dL_law_303 : decode cL_law 303 = .ok (.aload_n 0, 1) := by decide +kernel
theorem dL_law_304 : decode cL_law 304 = .ok (.iload_n 3, 1) := by decide +kernel
theorem dL_law_305 : decode cL_law 305 = .ok (.iconst 1, 1) := by decide +kernel
theorem dL_law_306 : decode cL_law 306 = .ok (.iadd, 1) := by decide +kernel
theorem dL_law_307 : decode cL_law 307 = .ok (.iaload, 1) := by decide +kernel
theorem dL_law_308 : decode cL_law 308 = .ok (.invokevirtual 40, 3) := by decide +kernel
theorem dL_law_311 : decode cL_law 311 = .ok (.aload_n 2, 1) := by decide +kernel
theorem dL_law_312 : decode cL_law 312 = .ok (.aload_n 0, 1) := by decide +kernel
theorem dL_law_313 : decode cL_law 313 = .ok (.iload_n 3, 1) := by decide +kernel
theorem dL_law_314 : decode cL_law 314 = .ok (.iconst 1, 1) := by decide +kernel
theorem dL_law_315 : decode cL_law 315 = .ok (.iadd, 1) := by decide +kernel
theorem dL_law_316 : decode cL_law 316 = .ok (.iaload, 1) := by decide +kernel
theorem dL_law_317 : decode cL_law 317 = .ok (.invokevirtual 43, 3) := by decide +kernel
theorem dL_law_320 : decode cL_law 320 = .ok (.if_icmp .eq 583, 3) := by decide +kernel
theorem dL_law_323 : decode cL_law 323 = .ok (.iconst 0, 1) := by decide +kernel
theorem dL_law_324 : decode cL_law 324 = .ok (.ireturn, 1) := by decide +kernel
theorem dL_law_325 : decode cL_law 325 = .ok (.aload_n 1, 1) := by decide +kernel
theorem dL_law_326 : decode cL_law 326 = .ok (.aload_n 0, 1) := by decide +kernel
theorem dL_law_327 : decode cL_law 327 = .ok (.iload_n 3, 1) := by decide +kernel
theorem dL_law_328 : decode cL_law 328 = .ok (.iconst 1, 1) := by decide +kernel
theorem dL_law_329 : decode cL_law 329 = .ok (.iadd, 1) := by decide +kernel
theorem dL_law_330 : decode cL_law 330 = .ok (.iaload, 1) := by decide +kernel
theorem dL_law_331 : decode cL_law 331 = .ok (.invokevirtual 44, 3) := by decide +kernel
theorem dL_law_334 : decode cL_law 334 = .ok (.aload_n 2, 1) := by decide +kernel
theorem dL_law_335 : decode cL_law 335 = .ok (.aload_n 0, 1) := by decide +kernel
theorem dL_law_336 : decode cL_law 336 = .ok (.iload_n 3, 1) := by decide +kernel
theorem dL_law_337 : decode cL_law 337 = .ok (.iconst 1, 1) := by decide +kernel
theorem dL_law_338 : decode cL_law 338 = .ok (.iadd, 1) := by decide +kernel
theorem dL_law_339 : decode cL_law 339 = .ok (.iaload, 1) := by decide +kernel
theorem dL_law_340 : decode cL_law 340 = .ok (.invokevirtual 47, 3) := by decide +kernel
theorem dL_law_343 : decode cL_law 343 = .ok (.if_icmp .eq 560, 3) := by decide +kernel
theorem dL_law_346 : decode cL_law 346 = .ok (.iconst 0, 1) := by decide +kernel
theorem dL_law_347 : decode cL_law 347 = .ok (.ireturn, 1) := by decide +kernel
theorem dL_law_348 : decode cL_law 348 = .ok (.aload_n 1, 1) := by decide +kernel
theorem dL_law_349 : decode cL_law 349 = .ok (.aload_n 0, 1) := by decide +kernel
theorem dL_law_350 : decode cL_law 350 = .ok (.iload_n 3, 1) := by decide +kernel
theorem dL_law_351 : decode cL_law 351 = .ok (.iconst 1, 1) := by decide +kernel
theorem dL_law_352 : decode cL_law 352 = .ok (.iadd, 1) := by decide +kernel
theorem dL_law_353 : decode cL_law 353 = .ok (.iaload, 1) := by decide +kernel
theorem dL_law_354 : decode cL_law 354 = .ok (.invokevirtual 48, 3) := by decide +kernel
theorem dL_law_357 : decode cL_law 357 = .ok (.aload_n 2, 1) := by decide +kernel
theorem dL_law_358 : decode cL_law 358 = .ok (.aload_n 0, 1) := by decide +kernel
theorem dL_law_359 : decode cL_law 359 = .ok (.iload_n 3, 1) := by decide +kernel
theorem dL_law_360 : decode cL_law 360 = .ok (.iconst 1, 1) := by decide +kernel
theorem dL_law_361 : decode cL_law 361 = .ok (.iadd, 1) := by decide +kernel
theorem dL_law_362 : decode cL_law 362 = .ok (.iaload, 1) := by decide +kernel
theorem dL_law_363 : decode cL_law 363 = .ok (.invokevirtual 51, 3) := by decide +kernel
theorem dL_law_366 : decode cL_law 366 = .ok (.if_icmp .eq 537, 3) := by decide +kernel
theorem dL_law_369 : decode cL_law 369 = .ok (.iconst 0, 1) := by decide +kernel
theorem dL_law_370 : decode cL_law 370 = .ok (.ireturn, 1) := by decide +kernel
theorem dL_law_371 : decode cL_law 371 = .ok (.aload_n 1, 1) := by decide +kernel
theorem dL_law_372 : decode cL_law 372 = .ok (.aload_n 0, 1) := by decide +kernel
theorem dL_law_373 : decode cL_law 373 = .ok (.iload_n 3, 1) := by decide +kernel
theorem dL_law_374 : decode cL_law 374 = .ok (.iconst 1, 1) := by decide +kernel
theorem dL_law_375 : decode cL_law 375 = .ok (.iadd, 1) := by decide +kernel
theorem dL_law_376 : decode cL_law 376 = .ok (.iaload, 1) := by decide +kernel
theorem dL_law_377 : decode cL_law 377 = .ok (.invokevirtual 52, 3) := by decide +kernel
theorem dL_law_380 : decode cL_law 380 = .ok (.aload_n 2, 1) := by decide +kernel
theorem dL_law_381 : decode cL_law 381 = .ok (.aload_n 0, 1) := by decide +kernel
theorem dL_law_382 : decode cL_law 382 = .ok (.iload_n 3, 1) := by decide +kernel
theorem dL_law_383 : decode cL_law 383 = .ok (.iconst 1, 1) := by decide +kernel
theorem dL_law_384 : decode cL_law 384 = .ok (.iadd, 1) := by decide +kernel
theorem dL_law_385 : decode cL_law 385 = .ok (.iaload, 1) := by decide +kernel
theorem dL_law_386 : decode cL_law 386 = .ok (.invokevirtual 55, 3) := by decide +kernel
theorem dL_law_389 : decode cL_law 389 = .ok (.if_icmp .eq 514, 3) := by decide +kernel
theorem dL_law_392 : decode cL_law 392 = .ok (.iconst 0, 1) := by decide +kernel
theorem dL_law_393 : decode cL_law 393 = .ok (.ireturn, 1) := by decide +kernel
theorem dL_law_394 : decode cL_law 394 = .ok (.aload_n 1, 1) := by decide +kernel
theorem dL_law_395 : decode cL_law 395 = .ok (.aload_n 0, 1) := by decide +kernel
theorem dL_law_396 : decode cL_law 396 = .ok (.iload_n 3, 1) := by decide +kernel
theorem dL_law_397 : decode cL_law 397 = .ok (.iconst 1, 1) := by decide +kernel
theorem dL_law_398 : decode cL_law 398 = .ok (.iadd, 1) := by decide +kernel
theorem dL_law_399 : decode cL_law 399 = .ok (.iaload, 1) := by decide +kernel
theorem dL_law_400 : decode cL_law 400 = .ok (.aload_n 0, 1) := by decide +kernel
theorem dL_law_401 : decode cL_law 401 = .ok (.iload_n 3, 1) := by decide +kernel
theorem dL_law_402 : decode cL_law 402 = .ok (.iconst 2, 1) := by decide +kernel
theorem dL_law_403 : decode cL_law 403 = .ok (.iadd, 1) := by decide +kernel
theorem dL_law_404 : decode cL_law 404 = .ok (.iaload, 1) := by decide +kernel
theorem dL_law_405 : decode cL_law 405 = .ok (.ifCond .eq 7, 3) := by decide +kernel
theorem dL_law_408 : decode cL_law 408 = .ok (.iconst 1, 1) := by decide +kernel
theorem dL_law_409 : decode cL_law 409 = .ok (.goto 4, 3) := by decide +kernel
theorem dL_law_412 : decode cL_law 412 = .ok (.iconst 0, 1) := by decide +kernel
theorem dL_law_413 : decode cL_law 413 = .ok (.invokevirtual 56, 3) := by decide +kernel
theorem dL_law_416 : decode cL_law 416 = .ok (.aload_n 2, 1) := by decide +kernel
theorem dL_law_417 : decode cL_law 417 = .ok (.aload_n 0, 1) := by decide +kernel
theorem dL_law_418 : decode cL_law 418 = .ok (.iload_n 3, 1) := by decide +kernel
theorem dL_law_419 : decode cL_law 419 = .ok (.iconst 1, 1) := by decide +kernel
theorem dL_law_420 : decode cL_law 420 = .ok (.iadd, 1) := by decide +kernel
theorem dL_law_421 : decode cL_law 421 = .ok (.iaload, 1) := by decide +kernel
theorem dL_law_422 : decode cL_law 422 = .ok (.aload_n 0, 1) := by decide +kernel
theorem dL_law_423 : decode cL_law 423 = .ok (.iload_n 3, 1) := by decide +kernel
theorem dL_law_424 : decode cL_law 424 = .ok (.iconst 2, 1) := by decide +kernel
theorem dL_law_425 : decode cL_law 425 = .ok (.iadd, 1) := by decide +kernel
theorem dL_law_426 : decode cL_law 426 = .ok (.iaload, 1) := by decide +kernel
theorem dL_law_427 : decode cL_law 427 = .ok (.ifCond .eq 7, 3) := by decide +kernel
theorem dL_law_430 : decode cL_law 430 = .ok (.iconst 1, 1) := by decide +kernel
theorem dL_law_431 : decode cL_law 431 = .ok (.goto 4, 3) := by decide +kernel
theorem dL_law_434 : decode cL_law 434 = .ok (.iconst 0, 1) := by decide +kernel
theorem dL_law_435 : decode cL_law 435 = .ok (.invokevirtual 60, 3) := by decide +kernel
theorem dL_law_438 : decode cL_law 438 = .ok (.if_icmp .eq 465, 3) := by decide +kernel
theorem dL_law_441 : decode cL_law 441 = .ok (.iconst 0, 1) := by decide +kernel
theorem dL_law_442 : decode cL_law 442 = .ok (.ireturn, 1) := by decide +kernel
theorem dL_law_443 : decode cL_law 443 = .ok (.aload_n 1, 1) := by decide +kernel
theorem dL_law_444 : decode cL_law 444 = .ok (.aload_n 0, 1) := by decide +kernel
theorem dL_law_445 : decode cL_law 445 = .ok (.iload_n 3, 1) := by decide +kernel
theorem dL_law_446 : decode cL_law 446 = .ok (.iconst 1, 1) := by decide +kernel
theorem dL_law_447 : decode cL_law 447 = .ok (.iadd, 1) := by decide +kernel
theorem dL_law_448 : decode cL_law 448 = .ok (.iaload, 1) := by decide +kernel
theorem dL_law_449 : decode cL_law 449 = .ok (.invokevirtual 61, 3) := by decide +kernel
theorem dL_law_452 : decode cL_law 452 = .ok (.aload_n 2, 1) := by decide +kernel
theorem dL_law_453 : decode cL_law 453 = .ok (.aload_n 0, 1) := by decide +kernel
theorem dL_law_454 : decode cL_law 454 = .ok (.iload_n 3, 1) := by decide +kernel
theorem dL_law_455 : decode cL_law 455 = .ok (.iconst 1, 1) := by decide +kernel
theorem dL_law_456 : decode cL_law 456 = .ok (.iadd, 1) := by decide +kernel
theorem dL_law_457 : decode cL_law 457 = .ok (.iaload, 1) := by decide +kernel
theorem dL_law_458 : decode cL_law 458 = .ok (.invokevirtual 64, 3) := by decide +kernel
theorem dL_law_461 : decode cL_law 461 = .ok (.if_icmp .eq 442, 3) := by decide +kernel
theorem dL_law_464 : decode cL_law 464 = .ok (.iconst 0, 1) := by decide +kernel
theorem dL_law_465 : decode cL_law 465 = .ok (.ireturn, 1) := by decide +kernel
theorem dL_law_466 : decode cL_law 466 = .ok (.aload_n 1, 1) := by decide +kernel
theorem dL_law_467 : decode cL_law 467 = .ok (.invokevirtual 65, 3) := by decide +kernel
theorem dL_law_470 : decode cL_law 470 = .ok (.aload_n 2, 1) := by decide +kernel
theorem dL_law_471 : decode cL_law 471 = .ok (.invokevirtual 68, 3) := by decide +kernel
theorem dL_law_474 : decode cL_law 474 = .ok (.if_icmp .eq 429, 3) := by decide +kernel
theorem dL_law_477 : decode cL_law 477 = .ok (.iconst 0, 1) := by decide +kernel
theorem dL_law_478 : decode cL_law 478 = .ok (.ireturn, 1) := by decide +kernel
theorem dL_law_479 : decode cL_law 479 = .ok (.aload_n 1, 1) := by decide +kernel
theorem dL_law_480 : decode cL_law 480 = .ok (.aload_n 0, 1) := by decide +kernel
theorem dL_law_481 : decode cL_law 481 = .ok (.iload_n 3, 1) := by decide +kernel
theorem dL_law_482 : decode cL_law 482 = .ok (.iconst 1, 1) := by decide +kernel
theorem dL_law_483 : decode cL_law 483 = .ok (.iadd, 1) := by decide +kernel
theorem dL_law_484 : decode cL_law 484 = .ok (.iaload, 1) := by decide +kernel
theorem dL_law_485 : decode cL_law 485 = .ok (.aload_n 0, 1) := by decide +kernel
theorem dL_law_486 : decode cL_law 486 = .ok (.iload_n 3, 1) := by decide +kernel
theorem dL_law_487 : decode cL_law 487 = .ok (.iconst 2, 1) := by decide +kernel
theorem dL_law_488 : decode cL_law 488 = .ok (.iadd, 1) := by decide +kernel
theorem dL_law_489 : decode cL_law 489 = .ok (.iaload, 1) := by decide +kernel
theorem dL_law_490 : decode cL_law 490 = .ok (.invokevirtual 69, 3) := by decide +kernel
theorem dL_law_493 : decode cL_law 493 = .ok (.aload_n 2, 1) := by decide +kernel
theorem dL_law_494 : decode cL_law 494 = .ok (.aload_n 0, 1) := by decide +kernel
theorem dL_law_495 : decode cL_law 495 = .ok (.iload_n 3, 1) := by decide +kernel
theorem dL_law_496 : decode cL_law 496 = .ok (.iconst 1, 1) := by decide +kernel
theorem dL_law_497 : decode cL_law 497 = .ok (.iadd, 1) := by decide +kernel
theorem dL_law_498 : decode cL_law 498 = .ok (.iaload, 1) := by decide +kernel
theorem dL_law_499 : decode cL_law 499 = .ok (.aload_n 0, 1) := by decide +kernel
theorem dL_law_500 : decode cL_law 500 = .ok (.iload_n 3, 1) := by decide +kernel
theorem dL_law_501 : decode cL_law 501 = .ok (.iconst 2, 1) := by decide +kernel
theorem dL_law_502 : decode cL_law 502 = .ok (.iadd, 1) := by decide +kernel
theorem dL_law_503 : decode cL_law 503 = .ok (.iaload, 1) := by decide +kernel
theorem dL_law_504 : decode cL_law 504 = .ok (.invokevirtual 72, 3) := by decide +kernel
theorem dL_law_507 : decode cL_law 507 = .ok (.if_icmp .eq 396, 3) := by decide +kernel
theorem dL_law_510 : decode cL_law 510 = .ok (.iconst 0, 1) := by decide +kernel
theorem dL_law_511 : decode cL_law 511 = .ok (.ireturn, 1) := by decide +kernel
theorem dL_law_512 : decode cL_law 512 = .ok (.aload_n 1, 1) := by decide +kernel
theorem dL_law_513 : decode cL_law 513 = .ok (.aload_n 0, 1) := by decide +kernel
theorem dL_law_514 : decode cL_law 514 = .ok (.iload_n 3, 1) := by decide +kernel
theorem dL_law_515 : decode cL_law 515 = .ok (.iconst 1, 1) := by decide +kernel
theorem dL_law_516 : decode cL_law 516 = .ok (.iadd, 1) := by decide +kernel
theorem dL_law_517 : decode cL_law 517 = .ok (.iaload, 1) := by decide +kernel
theorem dL_law_518 : decode cL_law 518 = .ok (.invokevirtual 73, 3) := by decide +kernel
theorem dL_law_521 : decode cL_law 521 = .ok (.aload_n 2, 1) := by decide +kernel
theorem dL_law_522 : decode cL_law 522 = .ok (.aload_n 0, 1) := by decide +kernel
theorem dL_law_523 : decode cL_law 523 = .ok (.iload_n 3, 1) := by decide +kernel
theorem dL_law_524 : decode cL_law 524 = .ok (.iconst 1, 1) := by decide +kernel
theorem dL_law_525 : decode cL_law 525 = .ok (.iadd, 1) := by decide +kernel
theorem dL_law_526 : decode cL_law 526 = .ok (.iaload, 1) := by decide +kernel
theorem dL_law_527 : decode cL_law 527 = .ok (.invokevirtual 76, 3) := by decide +kernel
theorem dL_law_530 : decode cL_law 530 = .ok (.if_icmp .eq 373, 3) := by decide +kernel
theorem dL_law_533 : decode cL_law 533 = .ok (.iconst 0, 1) := by decide +kernel
theorem dL_law_534 : decode cL_law 534 = .ok (.ireturn, 1) := by decide +kernel
theorem dL_law_535 : decode cL_law 535 = .ok (.aload_n 1, 1) := by decide +kernel
theorem dL_law_536 : decode cL_law 536 = .ok (.aload_n 0, 1) := by decide +kernel
theorem dL_law_537 : decode cL_law 537 = .ok (.iload_n 3, 1) := by decide +kernel
theorem dL_law_538 : decode cL_law 538 = .ok (.iconst 1, 1) := by decide +kernel
theorem dL_law_539 : decode cL_law 539 = .ok (.iadd, 1) := by decide +kernel
theorem dL_law_540 : decode cL_law 540 = .ok (.iaload, 1) := by decide +kernel
theorem dL_law_541 : decode cL_law 541 = .ok (.invokevirtual 77, 3) := by decide +kernel
theorem dL_law_544 : decode cL_law 544 = .ok (.aload_n 2, 1) := by decide +kernel
theorem dL_law_545 : decode cL_law 545 = .ok (.aload_n 0, 1) := by decide +kernel
theorem dL_law_546 : decode cL_law 546 = .ok (.iload_n 3, 1) := by decide +kernel
theorem dL_law_547 : decode cL_law 547 = .ok (.iconst 1, 1) := by decide +kernel
theorem dL_law_548 : decode cL_law 548 = .ok (.iadd, 1) := by decide +kernel
theorem dL_law_549 : decode cL_law 549 = .ok (.iaload, 1) := by decide +kernel
theorem dL_law_550 : decode cL_law 550 = .ok (.invokevirtual 80, 3) := by decide +kernel
theorem dL_law_553 : decode cL_law 553 = .ok (.if_icmp .eq 350, 3) := by decide +kernel
theorem dL_law_556 : decode cL_law 556 = .ok (.iconst 0, 1) := by decide +kernel
theorem dL_law_557 : decode cL_law 557 = .ok (.ireturn, 1) := by decide +kernel
theorem dL_law_558 : decode cL_law 558 = .ok (.aload_n 1, 1) := by decide +kernel
theorem dL_law_559 : decode cL_law 559 = .ok (.aload_n 0, 1) := by decide +kernel
theorem dL_law_560 : decode cL_law 560 = .ok (.iload_n 3, 1) := by decide +kernel
theorem dL_law_561 : decode cL_law 561 = .ok (.iconst 1, 1) := by decide +kernel
theorem dL_law_562 : decode cL_law 562 = .ok (.iadd, 1) := by decide +kernel
theorem dL_law_563 : decode cL_law 563 = .ok (.iaload, 1) := by decide +kernel
theorem dL_law_564 : decode cL_law 564 = .ok (.aload_n 0, 1) := by decide +kernel
theorem dL_law_565 : decode cL_law 565 = .ok (.iload_n 3, 1) := by decide +kernel
theorem dL_law_566 : decode cL_law 566 = .ok (.iconst 2, 1) := by decide +kernel
theorem dL_law_567 : decode cL_law 567 = .ok (.iadd, 1) := by decide +kernel
theorem dL_law_568 : decode cL_law 568 = .ok (.iaload, 1) := by decide +kernel
theorem dL_law_569 : decode cL_law 569 = .ok (.aload_n 0, 1) := by decide +kernel
theorem dL_law_570 : decode cL_law 570 = .ok (.iload_n 3, 1) := by decide +kernel
theorem dL_law_571 : decode cL_law 571 = .ok (.iconst 3, 1) := by decide +kernel
theorem dL_law_572 : decode cL_law 572 = .ok (.iadd, 1) := by decide +kernel
theorem dL_law_573 : decode cL_law 573 = .ok (.iaload, 1) := by decide +kernel
theorem dL_law_574 : decode cL_law 574 = .ok (.invokevirtual 81, 3) := by decide +kernel
theorem dL_law_577 : decode cL_law 577 = .ok (.aload_n 2, 1) := by decide +kernel
theorem dL_law_578 : decode cL_law 578 = .ok (.aload_n 0, 1) := by decide +kernel
theorem dL_law_579 : decode cL_law 579 = .ok (.iload_n 3, 1) := by decide +kernel
theorem dL_law_580 : decode cL_law 580 = .ok (.iconst 1, 1) := by decide +kernel
theorem dL_law_581 : decode cL_law 581 = .ok (.iadd, 1) := by decide +kernel
theorem dL_law_582 : decode cL_law 582 = .ok (.iaload, 1) := by decide +kernel
theorem dL_law_583 : decode cL_law 583 = .ok (.aload_n 0, 1) := by decide +kernel
theorem dL_law_584 : decode cL_law 584 = .ok (.iload_n 3, 1) := by decide +kernel
theorem dL_law_585 : decode cL_law 585 = .ok (.iconst 2, 1) := by decide +kernel
theorem dL_law_586 : decode cL_law 586 = .ok (.iadd, 1) := by decide +kernel
theorem dL_law_587 : decode cL_law 587 = .ok (.iaload, 1) := by decide +kernel
theorem dL_law_588 : decode cL_law 588 = .ok (.aload_n 0, 1) := by decide +kernel
theorem dL_law_589 : decode cL_law 589 = .ok (.iload_n 3, 1) := by decide +kernel
theorem dL_law_590 : decode cL_law 590 = .ok (.iconst 3, 1) := by decide +kernel
theorem dL_law_591 : decode cL_law 591 = .ok (.iadd, 1) := by decide +kernel
theorem dL_law_592 : decode cL_law 592 = .ok (.iaload, 1) := by decide +kernel
theorem dL_law_593 : decode cL_law 593 = .ok (.invokevirtual 85, 3) := by decide +kernel
theorem dL_law_596 : decode cL_law 596 = .ok (.if_icmp .eq 307, 3) := by decide +kernel
theorem dL_law_599 : decode cL_law 599 = .ok (.iconst 0, 1) := by decide +kernel
theorem dL_law_600 : decode cL_law 600 = .ok (.ireturn, 1) := by decide +kernel
theorem dL_law_601 : decode cL_law 601 = .ok (.aload_n 1, 1) := by decide +kernel
theorem dL_law_602 : decode cL_law 602 = .ok (.aload_n 0, 1) := by decide +kernel
theorem dL_law_603 : decode cL_law 603 = .ok (.iload_n 3, 1) := by decide +kernel
theorem dL_law_604 : decode cL_law 604 = .ok (.iconst 1, 1) := by decide +kernel
theorem dL_law_605 : decode cL_law 605 = .ok (.iadd, 1) := by decide +kernel
theorem dL_law_606 : decode cL_law 606 = .ok (.iaload, 1) := by decide +kernel
theorem dL_law_607 : decode cL_law 607 = .ok (.aload_n 0, 1) := by decide +kernel
theorem dL_law_608 : decode cL_law 608 = .ok (.iload_n 3, 1) := by decide +kernel
theorem dL_law_609 : decode cL_law 609 = .ok (.iconst 2, 1) := by decide +kernel
theorem dL_law_610 : decode cL_law 610 = .ok (.iadd, 1) := by decide +kernel
theorem dL_law_611 : decode cL_law 611 = .ok (.iaload, 1) := by decide +kernel
theorem dL_law_612 : decode cL_law 612 = .ok (.aload_n 0, 1) := by decide +kernel
theorem dL_law_613 : decode cL_law 613 = .ok (.iload_n 3, 1) := by decide +kernel
theorem dL_law_614 : decode cL_law 614 = .ok (.iconst 3, 1) := by decide +kernel
theorem dL_law_615 : decode cL_law 615 = .ok (.iadd, 1) := by decide +kernel
theorem dL_law_616 : decode cL_law 616 = .ok (.iaload, 1) := by decide +kernel
theorem dL_law_617 : decode cL_law 617 = .ok (.invokevirtual 86, 3) := by decide +kernel
theorem dL_law_620 : decode cL_law 620 = .ok (.aload_n 2, 1) := by decide +kernel
theorem dL_law_621 : decode cL_law 621 = .ok (.aload_n 0, 1) := by decide +kernel
theorem dL_law_622 : decode cL_law 622 = .ok (.iload_n 3, 1) := by decide +kernel
theorem dL_law_623 : decode cL_law 623 = .ok (.iconst 1, 1) := by decide +kernel
theorem dL_law_624 : decode cL_law 624 = .ok (.iadd, 1) := by decide +kernel
theorem dL_law_625 : decode cL_law 625 = .ok (.iaload, 1) := by decide +kernel
theorem dL_law_626 : decode cL_law 626 = .ok (.aload_n 0, 1) := by decide +kernel
theorem dL_law_627 : decode cL_law 627 = .ok (.iload_n 3, 1) := by decide +kernel
theorem dL_law_628 : decode cL_law 628 = .ok (.iconst 2, 1) := by decide +kernel
theorem dL_law_629 : decode cL_law 629 = .ok (.iadd, 1) := by decide +kernel
theorem dL_law_630 : decode cL_law 630 = .ok (.iaload, 1) := by decide +kernel
theorem dL_law_631 : decode cL_law 631 = .ok (.aload_n 0, 1) := by decide +kernel
theorem dL_law_632 : decode cL_law 632 = .ok (.iload_n 3, 1) := by decide +kernel
theorem dL_law_633 : decode cL_law 633 = .ok (.iconst 3, 1) := by decide +kernel
theorem dL_law_634 : decode cL_law 634 = .ok (.iadd, 1) := by decide +kernel
theorem dL_law_635 : decode cL_law 635 = .ok (.iaload, 1) := by decide +kernel
theorem dL_law_636 : decode cL_law 636 = .ok (.invokevirtual 89, 3) := by decide +kernel
theorem dL_law_639 : decode cL_law 639 = .ok (.if_icmp .eq 264, 3) := by decide +kernel
theorem dL_law_642 : decode cL_law 642 = .ok (.iconst 0, 1) := by decide +kernel
theorem dL_law_643 : decode cL_law 643 = .ok (.ireturn, 1) := by decide +kernel
theorem dL_law_644 : decode cL_law 644 = .ok (.aload_n 1, 1) := by decide +kernel
theorem dL_law_645 : decode cL_law 645 = .ok (.aload_n 0, 1) := by decide +kernel
theorem dL_law_646 : decode cL_law 646 = .ok (.iload_n 3, 1) := by decide +kernel
theorem dL_law_647 : decode cL_law 647 = .ok (.iconst 1, 1) := by decide +kernel
theorem dL_law_648 : decode cL_law 648 = .ok (.iadd, 1) := by decide +kernel
theorem dL_law_649 : decode cL_law 649 = .ok (.iaload, 1) := by decide +kernel
theorem dL_law_650 : decode cL_law 650 = .ok (.invokevirtual 90, 3) := by decide +kernel
theorem dL_law_653 : decode cL_law 653 = .ok (.aload_n 2, 1) := by decide +kernel
theorem dL_law_654 : decode cL_law 654 = .ok (.aload_n 0, 1) := by decide +kernel
theorem dL_law_655 : decode cL_law 655 = .ok (.iload_n 3, 1) := by decide +kernel
theorem dL_law_656 : decode cL_law 656 = .ok (.iconst 1, 1) := by decide +kernel
theorem dL_law_657 : decode cL_law 657 = .ok (.iadd, 1) := by decide +kernel
theorem dL_law_658 : decode cL_law 658 = .ok (.iaload, 1) := by decide +kernel
theorem dL_law_659 : decode cL_law 659 = .ok (.invokevirtual 93, 3) := by decide +kernel
theorem dL_law_662 : decode cL_law 662 = .ok (.if_icmp .eq 241, 3) := by decide +kernel
theorem dL_law_665 : decode cL_law 665 = .ok (.iconst 0, 1) := by decide +kernel
theorem dL_law_666 : decode cL_law 666 = .ok (.ireturn, 1) := by decide +kernel
theorem dL_law_667 : decode cL_law 667 = .ok (.aload_n 1, 1) := by decide +kernel
theorem dL_law_668 : decode cL_law 668 = .ok (.aload_n 0, 1) := by decide +kernel
theorem dL_law_669 : decode cL_law 669 = .ok (.iload_n 3, 1) := by decide +kernel
theorem dL_law_670 : decode cL_law 670 = .ok (.iconst 1, 1) := by decide +kernel
theorem dL_law_671 : decode cL_law 671 = .ok (.iadd, 1) := by decide +kernel
theorem dL_law_672 : decode cL_law 672 = .ok (.iaload, 1) := by decide +kernel
theorem dL_law_673 : decode cL_law 673 = .ok (.aload_n 0, 1) := by decide +kernel
theorem dL_law_674 : decode cL_law 674 = .ok (.iload_n 3, 1) := by decide +kernel
theorem dL_law_675 : decode cL_law 675 = .ok (.iconst 2, 1) := by decide +kernel
theorem dL_law_676 : decode cL_law 676 = .ok (.iadd, 1) := by decide +kernel
theorem dL_law_677 : decode cL_law 677 = .ok (.iaload, 1) := by decide +kernel
theorem dL_law_678 : decode cL_law 678 = .ok (.invokevirtual 94, 3) := by decide +kernel
theorem dL_law_681 : decode cL_law 681 = .ok (.aload_n 2, 1) := by decide +kernel
theorem dL_law_682 : decode cL_law 682 = .ok (.aload_n 0, 1) := by decide +kernel
theorem dL_law_683 : decode cL_law 683 = .ok (.iload_n 3, 1) := by decide +kernel
theorem dL_law_684 : decode cL_law 684 = .ok (.iconst 1, 1) := by decide +kernel
theorem dL_law_685 : decode cL_law 685 = .ok (.iadd, 1) := by decide +kernel
theorem dL_law_686 : decode cL_law 686 = .ok (.iaload, 1) := by decide +kernel
theorem dL_law_687 : decode cL_law 687 = .ok (.aload_n 0, 1) := by decide +kernel
theorem dL_law_688 : decode cL_law 688 = .ok (.iload_n 3, 1) := by decide +kernel
theorem dL_law_689 : decode cL_law 689 = .ok (.iconst 2, 1) := by decide +kernel
theorem dL_law_690 : decode cL_law 690 = .ok (.iadd, 1) := by decide +kernel
theorem dL_law_691 : decode cL_law 691 = .ok (.iaload, 1) := by decide +kernel
theorem dL_law_692 : decode cL_law 692 = .ok (.invokevirtual 97, 3) := by decide +kernel
theorem dL_law_695 : decode cL_law 695 = .ok (.if_icmp .eq 208, 3) := by decide +kernel
theorem dL_law_698 : decode cL_law 698 = .ok (.iconst 0, 1) := by decide +kernel
theorem dL_law_699 : decode cL_law 699 = .ok (.ireturn, 1) := by decide +kernel
theorem dL_law_700 : decode cL_law 700 = .ok (.aload_n 1, 1) := by decide +kernel
theorem dL_law_701 : decode cL_law 701 = .ok (.aload_n 0, 1) := by decide +kernel
theorem dL_law_702 : decode cL_law 702 = .ok (.iload_n 3, 1) := by decide +kernel
theorem dL_law_703 : decode cL_law 703 = .ok (.iconst 1, 1) := by decide +kernel
theorem dL_law_704 : decode cL_law 704 = .ok (.iadd, 1) := by decide +kernel
theorem dL_law_705 : decode cL_law 705 = .ok (.iaload, 1) := by decide +kernel
theorem dL_law_706 : decode cL_law 706 = .ok (.aload_n 0, 1) := by decide +kernel
theorem dL_law_707 : decode cL_law 707 = .ok (.iload_n 3, 1) := by decide +kernel
theorem dL_law_708 : decode cL_law 708 = .ok (.iconst 2, 1) := by decide +kernel
theorem dL_law_709 : decode cL_law 709 = .ok (.iadd, 1) := by decide +kernel
theorem dL_law_710 : decode cL_law 710 = .ok (.iaload, 1) := by decide +kernel
theorem dL_law_711 : decode cL_law 711 = .ok (.ifCond .eq 7, 3) := by decide +kernel
theorem dL_law_714 : decode cL_law 714 = .ok (.iconst 1, 1) := by decide +kernel
theorem dL_law_715 : decode cL_law 715 = .ok (.goto 4, 3) := by decide +kernel
theorem dL_law_718 : decode cL_law 718 = .ok (.iconst 0, 1) := by decide +kernel
theorem dL_law_719 : decode cL_law 719 = .ok (.invokevirtual 98, 3) := by decide +kernel
theorem dL_law_722 : decode cL_law 722 = .ok (.aload_n 2, 1) := by decide +kernel
theorem dL_law_723 : decode cL_law 723 = .ok (.aload_n 0, 1) := by decide +kernel
theorem dL_law_724 : decode cL_law 724 = .ok (.iload_n 3, 1) := by decide +kernel
theorem dL_law_725 : decode cL_law 725 = .ok (.iconst 1, 1) := by decide +kernel
theorem dL_law_726 : decode cL_law 726 = .ok (.iadd, 1) := by decide +kernel
theorem dL_law_727 : decode cL_law 727 = .ok (.iaload, 1) := by decide +kernel
theorem dL_law_728 : decode cL_law 728 = .ok (.aload_n 0, 1) := by decide +kernel
theorem dL_law_729 : decode cL_law 729 = .ok (.iload_n 3, 1) := by decide +kernel
theorem dL_law_730 : decode cL_law 730 = .ok (.iconst 2, 1) := by decide +kernel
theorem dL_law_731 : decode cL_law 731 = .ok (.iadd, 1) := by decide +kernel
theorem dL_law_732 : decode cL_law 732 = .ok (.iaload, 1) := by decide +kernel
theorem dL_law_733 : decode cL_law 733 = .ok (.ifCond .eq 7, 3) := by decide +kernel
theorem dL_law_736 : decode cL_law 736 = .ok (.iconst 1, 1) := by decide +kernel
theorem dL_law_737 : decode cL_law 737 = .ok (.goto 4, 3) := by decide +kernel
theorem dL_law_740 : decode cL_law 740 = .ok (.iconst 0, 1) := by decide +kernel
theorem dL_law_741 : decode cL_law 741 = .ok (.invokevirtual 101, 3) := by decide +kernel
theorem dL_law_744 : decode cL_law 744 = .ok (.if_icmp .eq 159, 3) := by decide +kernel
theorem dL_law_747 : decode cL_law 747 = .ok (.iconst 0, 1) := by decide +kernel
theorem dL_law_748 : decode cL_law 748 = .ok (.ireturn, 1) := by decide +kernel
theorem dL_law_749 : decode cL_law 749 = .ok (.aload_n 1, 1) := by decide +kernel
theorem dL_law_750 : decode cL_law 750 = .ok (.invokevirtual 102, 3) := by decide +kernel
theorem dL_law_753 : decode cL_law 753 = .ok (.aload_n 2, 1) := by decide +kernel
theorem dL_law_754 : decode cL_law 754 = .ok (.invokevirtual 105, 3) := by decide +kernel
theorem dL_law_757 : decode cL_law 757 = .ok (.if_icmp .eq 146, 3) := by decide +kernel
theorem dL_law_760 : decode cL_law 760 = .ok (.iconst 0, 1) := by decide +kernel
theorem dL_law_761 : decode cL_law 761 = .ok (.ireturn, 1) := by decide +kernel
theorem dL_law_762 : decode cL_law 762 = .ok (.aload_n 1, 1) := by decide +kernel
theorem dL_law_763 : decode cL_law 763 = .ok (.invokevirtual 106, 3) := by decide +kernel
theorem dL_law_766 : decode cL_law 766 = .ok (.aload_n 2, 1) := by decide +kernel
theorem dL_law_767 : decode cL_law 767 = .ok (.invokevirtual 109, 3) := by decide +kernel
theorem dL_law_770 : decode cL_law 770 = .ok (.if_icmp .eq 133, 3) := by decide +kernel
theorem dL_law_773 : decode cL_law 773 = .ok (.iconst 0, 1) := by decide +kernel
theorem dL_law_774 : decode cL_law 774 = .ok (.ireturn, 1) := by decide +kernel
theorem dL_law_775 : decode cL_law 775 = .ok (.aload_n 1, 1) := by decide +kernel
theorem dL_law_776 : decode cL_law 776 = .ok (.aload_n 0, 1) := by decide +kernel
theorem dL_law_777 : decode cL_law 777 = .ok (.iload_n 3, 1) := by decide +kernel
theorem dL_law_778 : decode cL_law 778 = .ok (.iconst 1, 1) := by decide +kernel
theorem dL_law_779 : decode cL_law 779 = .ok (.iadd, 1) := by decide +kernel
theorem dL_law_780 : decode cL_law 780 = .ok (.iaload, 1) := by decide +kernel
theorem dL_law_781 : decode cL_law 781 = .ok (.aload_n 0, 1) := by decide +kernel
theorem dL_law_782 : decode cL_law 782 = .ok (.iload_n 3, 1) := by decide +kernel
theorem dL_law_783 : decode cL_law 783 = .ok (.iconst 2, 1) := by decide +kernel
theorem dL_law_784 : decode cL_law 784 = .ok (.iadd, 1) := by decide +kernel
theorem dL_law_785 : decode cL_law 785 = .ok (.iaload, 1) := by decide +kernel
theorem dL_law_786 : decode cL_law 786 = .ok (.invokevirtual 110, 3) := by decide +kernel
theorem dL_law_789 : decode cL_law 789 = .ok (.aload_n 2, 1) := by decide +kernel
theorem dL_law_790 : decode cL_law 790 = .ok (.aload_n 0, 1) := by decide +kernel
theorem dL_law_791 : decode cL_law 791 = .ok (.iload_n 3, 1) := by decide +kernel
theorem dL_law_792 : decode cL_law 792 = .ok (.iconst 1, 1) := by decide +kernel
theorem dL_law_793 : decode cL_law 793 = .ok (.iadd, 1) := by decide +kernel
theorem dL_law_794 : decode cL_law 794 = .ok (.iaload, 1) := by decide +kernel
theorem dL_law_795 : decode cL_law 795 = .ok (.aload_n 0, 1) := by decide +kernel
theorem dL_law_796 : decode cL_law 796 = .ok (.iload_n 3, 1) := by decide +kernel
theorem dL_law_797 : decode cL_law 797 = .ok (.iconst 2, 1) := by decide +kernel
theorem dL_law_798 : decode cL_law 798 = .ok (.iadd, 1) := by decide +kernel
theorem dL_law_799 : decode cL_law 799 = .ok (.iaload, 1) := by decide +kernel
theorem dL_law_800 : decode cL_law 800 = .ok (.invokevirtual 113, 3) := by decide +kernel
theorem dL_law_803 : decode cL_law 803 = .ok (.if_icmp .eq 100, 3) := by decide +kernel
theorem dL_law_806 : decode cL_law 806 = .ok (.iconst 0, 1) := by decide +kernel
theorem dL_law_807 : decode cL_law 807 = .ok (.ireturn, 1) := by decide +kernel
theorem dL_law_808 : decode cL_law 808 = .ok (.aload_n 1, 1) := by decide +kernel
theorem dL_law_809 : decode cL_law 809 = .ok (.invokevirtual 114, 3) := by decide +kernel
theorem dL_law_812 : decode cL_law 812 = .ok (.aload_n 2, 1) := by decide +kernel
theorem dL_law_813 : decode cL_law 813 = .ok (.invokevirtual 117, 3) := by decide +kernel
theorem dL_law_816 : decode cL_law 816 = .ok (.if_icmp .eq 87, 3) := by decide +kernel
theorem dL_law_819 : decode cL_law 819 = .ok (.iconst 0, 1) := by decide +kernel
theorem dL_law_820 : decode cL_law 820 = .ok (.ireturn, 1) := by decide +kernel
theorem dL_law_821 : decode cL_law 821 = .ok (.aload_n 1, 1) := by decide +kernel
theorem dL_law_822 : decode cL_law 822 = .ok (.invokevirtual 118, 3) := by decide +kernel
theorem dL_law_825 : decode cL_law 825 = .ok (.aload_n 2, 1) := by decide +kernel
theorem dL_law_826 : decode cL_law 826 = .ok (.invokevirtual 121, 3) := by decide +kernel
theorem dL_law_829 : decode cL_law 829 = .ok (.if_icmp .eq 74, 3) := by decide +kernel
theorem dL_law_832 : decode cL_law 832 = .ok (.iconst 0, 1) := by decide +kernel
theorem dL_law_833 : decode cL_law 833 = .ok (.ireturn, 1) := by decide +kernel
theorem dL_law_834 : decode cL_law 834 = .ok (.aload_n 1, 1) := by decide +kernel
theorem dL_law_835 : decode cL_law 835 = .ok (.aload_n 0, 1) := by decide +kernel
theorem dL_law_836 : decode cL_law 836 = .ok (.iload_n 3, 1) := by decide +kernel
theorem dL_law_837 : decode cL_law 837 = .ok (.iconst 1, 1) := by decide +kernel
theorem dL_law_838 : decode cL_law 838 = .ok (.iadd, 1) := by decide +kernel
theorem dL_law_839 : decode cL_law 839 = .ok (.iaload, 1) := by decide +kernel
theorem dL_law_840 : decode cL_law 840 = .ok (.invokevirtual 122, 3) := by decide +kernel
theorem dL_law_843 : decode cL_law 843 = .ok (.aload_n 2, 1) := by decide +kernel
theorem dL_law_844 : decode cL_law 844 = .ok (.aload_n 0, 1) := by decide +kernel
theorem dL_law_845 : decode cL_law 845 = .ok (.iload_n 3, 1) := by decide +kernel
theorem dL_law_846 : decode cL_law 846 = .ok (.iconst 1, 1) := by decide +kernel
theorem dL_law_847 : decode cL_law 847 = .ok (.iadd, 1) := by decide +kernel
theorem dL_law_848 : decode cL_law 848 = .ok (.iaload, 1) := by decide +kernel
theorem dL_law_849 : decode cL_law 849 = .ok (.invokevirtual 125, 3) := by decide +kernel
theorem dL_law_852 : decode cL_law 852 = .ok (.if_icmp .eq 51, 3) := by decide +kernel
theorem dL_law_855 : decode cL_law 855 = .ok (.iconst 0, 1) := by decide +kernel
theorem dL_law_856 : decode cL_law 856 = .ok (.ireturn, 1) := by decide +kernel
theorem dL_law_857 : decode cL_law 857 = .ok (.aload_n 1, 1) := by decide +kernel
theorem dL_law_858 : decode cL_law 858 = .ok (.aload_n 0, 1) := by decide +kernel
theorem dL_law_859 : decode cL_law 859 = .ok (.iload_n 3, 1) := by decide +kernel
theorem dL_law_860 : decode cL_law 860 = .ok (.iconst 1, 1) := by decide +kernel
theorem dL_law_861 : decode cL_law 861 = .ok (.iadd, 1) := by decide +kernel
theorem dL_law_862 : decode cL_law 862 = .ok (.iaload, 1) := by decide +kernel
theorem dL_law_863 : decode cL_law 863 = .ok (.invokevirtual 126, 3) := by decide +kernel
theorem dL_law_866 : decode cL_law 866 = .ok (.aload_n 2, 1) := by decide +kernel
theorem dL_law_867 : decode cL_law 867 = .ok (.aload_n 0, 1) := by decide +kernel
theorem dL_law_868 : decode cL_law 868 = .ok (.iload_n 3, 1) := by decide +kernel
theorem dL_law_869 : decode cL_law 869 = .ok (.iconst 1, 1) := by decide +kernel
theorem dL_law_870 : decode cL_law 870 = .ok (.iadd, 1) := by decide +kernel
theorem dL_law_871 : decode cL_law 871 = .ok (.iaload, 1) := by decide +kernel
theorem dL_law_872 : decode cL_law 872 = .ok (.invokevirtual 129, 3) := by decide +kernel
theorem dL_law_875 : decode cL_law 875 = .ok (.if_icmp .eq 28, 3) := by decide +kernel
theorem dL_law_878 : decode cL_law 878 = .ok (.iconst 0, 1) := by decide +kernel
theorem dL_law_879 : decode cL_law 879 = .ok (.ireturn, 1) := by decide +kernel
theorem dL_law_880 : decode cL_law 880 = .ok (.aload_n 1, 1) := by decide +kernel
theorem dL_law_881 : decode cL_law 881 = .ok (.aload_n 0, 1) := by decide +kernel
theorem dL_law_882 : decode cL_law 882 = .ok (.iload_n 3, 1) := by decide +kernel
theorem dL_law_883 : decode cL_law 883 = .ok (.iconst 1, 1) := by decide +kernel
theorem dL_law_884 : decode cL_law 884 = .ok (.iadd, 1) := by decide +kernel
theorem dL_law_885 : decode cL_law 885 = .ok (.iaload, 1) := by decide +kernel
theorem dL_law_886 : decode cL_law 886 = .ok (.invokevirtual 130, 3) := by decide +kernel
theorem dL_law_889 : decode cL_law 889 = .ok (.aload_n 2, 1) := by decide +kernel
theorem dL_law_890 : decode cL_law 890 = .ok (.aload_n 0, 1) := by decide +kernel
theorem dL_law_891 : decode cL_law 891 = .ok (.iload_n 3, 1) := by decide +kernel
theorem dL_law_892 : decode cL_law 892 = .ok (.iconst 1, 1) := by decide +kernel
theorem dL_law_893 : decode cL_law 893 = .ok (.iadd, 1) := by decide +kernel
theorem dL_law_894 : decode cL_law 894 = .ok (.iaload, 1) := by decide +kernel
theorem dL_law_895 : decode cL_law 895 = .ok (.invokevirtual 133, 3) := by decide +kernel
theorem dL_law_898 : decode cL_law 898 = .ok (.if_icmp .eq 5, 3) := by decide +kernel
theorem dL_law_901 : decode cL_law 901 = .ok (.iconst 0, 1) := by decide +kernel
theorem dL_law_902 : decode cL_law 902 = .ok (.ireturn, 1) := by decide +kernel
theorem dL_law_903 : decode cL_law 903 = .ok (.iinc 3 4, 3) := by decide +kernel
theorem dL_law_906 : decode cL_law 906 = .ok (.goto (-888), 3) := by decide +kernel
theorem dL_law_909 : decode cL_law 909 = .ok (.iconst 1, 1) := by decide +kernel
theorem dL_law_910 : decode cL_law 910 = .ok (.ireturn, 1) := by decide +kernel
end
section
/-! THE MEMORY: the 140 cells that the law makes, one behind another from the address B on; what ints they hold: fp_Mem, by cell and place; what they refer to never changes -/
abbrev fp_Mem : Type := Nat → Nat → Int32
def fp_set (M : fp_Mem) (k j : Nat) (x : Int32) : fp_Mem := fun q => if q = k then upd (M k) j x else M q
theorem fp_set_eq (M : fp_Mem) (k j : Nat) (x : Int32) : fp_set M k j x k = upd (M k) j x := if_pos rfl
theorem fp_set_ne {M : fp_Mem} {k j : Nat} {x : Int32} {q : Nat} (h : q ≠ k) : fp_set M k j x q = M q := if_neg h
def fp_kdl : List Nat := [11, 6, 7, 20, 20, 21, 21, 22, 7, 20, 20, 21, 21, 9, 20, 20, 2, 20, 20, 20, 20, 0, 2, 20, 20, 20, 20, 10, 2, 20, 20, 20, 20, 0, 2, 20, 20, 20, 20, 9, 20, 20, 20, 8, 1, 23, 23, 3, 4, 24, 9, 20, 20, 9, 20, 20, 9, 20, 20, 9, 20, 20, 9, 20, 20, 9, 20, 20, 9, 20, 20, 9, 20, 20, 9, 20, 20, 9, 20, 20, 9, 20, 20, 9, 20, 20, 9, 20, 20, 9, 20, 20, 9, 20, 20, 9, 20, 20, 9, 20, 20, 9, 20, 20, 9, 20, 20, 9, 20, 20, 5, 25, 26, 27, 9, 20, 20, 9, 20, 20, 12, 21, 21, 28, 29, 26, 20, 20, 21, 21, 20, 30, 28, 20, 31, 32, 23, 23, 33, 27]
def fp_kd (k : Nat) : Nat := fp_kdl.getD k 99
/-- there is a cell k, of that kind -/
def fp_c (k d : Nat) : Prop := k < 140 ∧ fp_kd k = d
theorem fp_c_of {k d : Nat} (h : (decide (k < 140) && (fp_kd k == d)) = true) : fp_c k d := by
  simp only [Bool.and_eq_true, decide_eq_true_eq, beq_iff_eq] at h
  exact h
def fp_cell (G : Nat → ClassId) (B : Nat) (f : Nat → Int32) (k : Nat) : Nat → va_E
  | 0 => .inr (0, [.ref (B + (k + 1))])
  | 1 => .inr (1, [.int (f 0), .ref (B + 45), .ref (B + 46)])
  | 2 => .inr (2, [.int (f 0), .ref (B + (k + 1)), .ref (B + (k + 2)), .ref (B + (k + 3)), .ref (B + (k + 4))])
  | 3 => .inr (3, [.int (f 0)])
  | 4 => .inr (4, [.int (f 0), .int (f 1), .ref (B + 49)])
  | 5 => .inr (5, [.ref (B + 111), .ref (B + 112), .ref (B + 113)])
  | 6 => .inr (6, [.ref (B + 2), .ref (B + 7), .int (f 2), .int (f 3), .int (f 4), .int (f 5), .int (f 6)])
  | 7 => .inr (7, [.int (f 0), .int (f 1), .int (f 2), .int (f 3), .int (f 4), .ref (B + (k + 1)), .ref (B + (k + 2)), .ref (B + (k + 3)), .ref (B + (k + 4))])
  | 8 => .inr (8, [.int (f 0), .int (f 1), .int (f 2)])
  | 9 => .inr (9, [.ref (B + (k + 1)), .ref (B + (k + 2)), .int (f 2), .int (f 3), .int (f 4), .int (f 5), .int (f 6), .int (f 7), .int (f 8)])
  | 10 => .inr (10, [.ref (B + 28), .ref (B + 33), .ref (B + 39), .ref (B + 42)])
  | 11 => .inr (11, [.ref (B + 1), .ref (B + 8), .ref (B + 13), .ref (B + 16), .ref (B + 21), .ref (B + 27), .ref (B + 43), .ref (B + 44), .ref (B + 47), .ref (B + 48), .ref (B + 110)])
  | 12 => .inr (12, [.int (f 0), .int (f 1), .int (f 2), .ref (B + 121), .ref (B + 122), .ref (B + 123), .int (f 6), .int (f 7), .ref (B + 124), .int (f 9), .int (f 10), .int (f 11), .int (f 12), .int (f 13), .int (f 14), .ref (B + 125), .int (f 16), .ref (B + 126), .ref (B + 127), .int (f 19), .ref (B + 128), .ref (B + 129), .ref (B + 130), .int (f 23), .ref (B + 131), .ref (B + 132), .ref (B + 133), .int (f 27), .ref (B + 134), .ref (B + 135), .int (f 30), .ref (B + 136), .ref (B + 137), .ref (B + 138), .ref (B + 139)])
  | 20 => .inl (G 0, (9, .inl f))
  | 21 => .inl (G 0, (14, .inl f))
  | 22 => .inl (G 1, (240, .inl f))
  | 23 => .inl (G 0, (15, .inl f))
  | 26 => .inl (G 0, (2, .inl f))
  | 27 => .inl (G 2, (2, .inl f))
  | 28 => .inl (G 0, (25, .inl f))
  | 29 => .inl (G 0, (240, .inl f))
  | 30 => .inl (G 0, (500, .inl f))
  | 31 => .inl (G 0, (6, .inl f))
  | 32 => .inl (G 2, (6, .inl f))
  | 33 => .inl (G 0, (52, .inl f))
  | 24 => .inl (G 3, (20, .inr (.inr (.inr (.inr (fun i => if i < 20 then some (B + (50 + 3 * i)) else none))))))
  | 25 => .inl (G 3, (2, .inr (.inr (.inr (.inr (fun i => if i < 2 then some (B + (114 + 3 * i)) else none))))))
  | _ => .inr (99, [])
def fp_e (G : Nat → ClassId) (B : Nat) (M : fp_Mem) (k : Nat) : va_E := fp_cell G B (M k) k (fp_kd k)
def fp_w (G : Nat → ClassId) (B : Nat) (M : fp_Mem) : va_W := (List.range 140).map (fun k => (B + k, fp_e G B M k))
theorem fp_w_get {G : Nat → ClassId} {B : Nat} {M : fp_Mem} {k : Nat} (hk : k < 140) : (fp_w G B M)[k]? = some (B + k, fp_e G B M k) := by
  simp [fp_w, hk]
theorem fp_w_len {G : Nat → ClassId} {B : Nat} {M : fp_Mem} : (fp_w G B M).length = 140 := by simp [fp_w]
theorem fp_w_out {G : Nat → ClassId} {B : Nat} {M : fp_Mem} {k : Nat} {q : Nat × va_E} (h : (fp_w G B M)[k]? = some q) : k < 140 ∧ q = (B + k, fp_e G B M k) := by
  have h1 := (List.getElem?_eq_some_iff.mp h).1
  rw [fp_w_len] at h1
  rw [fp_w_get h1] at h
  exact ⟨h1, (Option.some.inj h).symm⟩
theorem fp_w_set {G : Nat → ClassId} {B : Nat} {M M' : fp_Mem} {k : Nat} {e : va_E} (he : e = fp_e G B M' k) (ho : ∀ q, q ≠ k → M' q = M q) : (fp_w G B M).set k (B + k, e) = fp_w G B M' := by
  apply List.ext_getElem?
  intro i
  by_cases hi : i < 140
  · rw [fp_w_get hi]
    by_cases hik : i = k
    · subst hik
      rw [List.getElem?_set_self (by rw [fp_w_len]; exact hi), he]
    · rw [List.getElem?_set_ne (fun h => hik h.symm), fp_w_get hi]
      unfold fp_e
      rw [ho i hik]
  · rw [List.getElem?_eq_none (by rw [List.length_set, fp_w_len]; omega), List.getElem?_eq_none (by rw [fp_w_len]; omega)]
def fp_A (B : Nat) : Nat → Prop := fun q => B ≤ q
theorem fp_w_D {G : Nat → ClassId} {B : Nat} {M : fp_Mem} : va_D (fp_A B) (fp_w G B M) := by
  refine ⟨fun i j x y hi hj hxy => ?_, fun k q hk => ?_⟩
  · obtain ⟨-, rfl⟩ := fp_w_out hi
    obtain ⟨-, rfl⟩ := fp_w_out hj
    exact Nat.add_left_cancel hxy
  · obtain ⟨-, rfl⟩ := fp_w_out hk
    exact Nat.le_add_right B k
def fp_tys (G : Nat → ClassId) : List (ClassId × FieldType) := [(G 0, .int), (G 1, .char), (G 2, .boolean), (G 3, .object "FreePlace$State")]
/-- the state holds the memory M -/
def fp_GS (D : va_G) (G : Nat → ClassId) (B : Nat) (M : fp_Mem) (U : State) : Prop := va_P D vwCl (fp_w G B M) U.heap ∧ va_K D vwCl (fp_tys G) U
/-- inside a method: the heap holds the memory M, nothing ahead of B was written -/
def fp_H (D : va_G) (G : Nat → ClassId) (B : Nat) (s : State) (M : fp_Mem) (H : Heap) (locs : List Loc) : Prop := va_P D vwCl (fp_w G B M) H ∧ va_S (fp_A B) s.heap H locs
def fp_EV (p : Program) (s : State) (m : MethodId) (args : Array Value) (meth : Method) (c : Code) (cc : ByteArray) (nL : Nat) (own : String) (rt : Option FieldType) (D : va_G) (G : Nat → ClassId) : Prop :=
  p.tables.exec = Jvm.exec ∧ c.code = cc ∧ c.maxLocals = nL ∧ s.vm.findClass own = some m.cls ∧ (∀ w ∈ fp_T, w.before args s = true) ∧ va_K D vwCl (fp_tys G) s ∧ meth.sig.returnType = rt ∧ meth.locks = false
/-! pure rows: how the models branch, guard, bind -/
theorem fp_ifT {α : Type} {q : Prop} [Decidable q] {a b r : α} (hq : q) (h : (if q then a else b) = r) : a = r := by rw [if_pos hq] at h; exact h
theorem fp_ifF {α : Type} {q : Prop} [Decidable q] {a b r : α} (hq : ¬ q) (h : (if q then a else b) = r) : b = r := by rw [if_neg hq] at h; exact h
def fp_gd {α : Type} (b : Bool) (x : Option α) : Option α := match b with | true => x | false => none
theorem fp_gd_s {α : Type} {b : Bool} {x : Option α} {r : α} (h : fp_gd b x = some r) : b = true ∧ x = some r := by
  cases b with
  | true => exact ⟨rfl, h⟩
  | false => exact nomatch h
def fp_b1 {α γ : Type} (x : Option α) (f : α → Option γ) : Option γ := match x with | some a => f a | none => none
theorem fp_b1_s {α γ : Type} {x : Option α} {f : α → Option γ} {r : γ} (h : fp_b1 x f = some r) : ∃ a, x = some a ∧ f a = some r := by
  cases x with
  | none => exact nomatch h
  | some a => exact ⟨a, rfl, h⟩
def fp_b2 {α β γ : Type} (x : Option (α × β)) (f : α → β → Option γ) : Option γ := match x with | some (a, b) => f a b | none => none
theorem fp_b2_s {α β γ : Type} {x : Option (α × β)} {f : α → β → Option γ} {r : γ} (h : fp_b2 x f = some r) : ∃ a b, x = some (a, b) ∧ f a b = some r := by
  cases x with
  | none => exact nomatch h
  | some q => exact ⟨q.1, q.2, rfl, h⟩
def fp_lt {α γ : Type} (x : α) (f : α → Option γ) : Option γ := f x
theorem fp_lt_s {α γ : Type} {x : α} {f : α → Option γ} {r : γ} (h : fp_lt x f = some r) : ∃ a, a = x ∧ f a = some r := ⟨x, rfl, h⟩
/-- the place i is in a row of n -/
def fp_in (i : Int32) (n : Nat) : Bool := decide (¬ (i < 0 ∨ n ≤ i.toNatClampNeg))
theorem fp_in_s {i : Int32} {n : Nat} (h : fp_in i n = true) : vp_in i n := (of_decide_eq_true h : ¬ (i < 0 ∨ n ≤ i.toNatClampNeg))
/-- not the divisor 0 -/
def fp_nz (i : Int32) : Bool := decide (¬ i = 0)
def fp_nzl (i : Int64) : Bool := decide (¬ i = 0)
/-- a boolean -/
def fp_zb (i : Int32) : Bool := decide (i = 0 ∨ i = 1)
theorem fp_zb_n {i : Int32} (h : fp_zb i = true) : narrow .boolean (.int i) = .int i := by
  rcases of_decide_eq_true h with rfl | rfl <;> rfl
theorem fp_zb_f {i : Int32} (h : fp_zb i = true) : fits .boolean (.int i) = true := by
  rcases of_decide_eq_true h with rfl | rfl <;> rfl
def fp_ix (i : Int32) : Nat := i.toNatClampNeg
/-! places of cells -/
def fp_is9 (k : Nat) : Prop := fp_c k 9 ∧ fp_c (k + 1) 20 ∧ fp_c (k + 2) 20
def fp_is7 (k : Nat) : Prop := fp_c k 7 ∧ fp_c (k + 1) 20 ∧ fp_c (k + 2) 20 ∧ fp_c (k + 3) 21 ∧ fp_c (k + 4) 21
def fp_is2 (k : Nat) : Prop := fp_c k 2 ∧ fp_c (k + 1) 20 ∧ fp_c (k + 2) 20 ∧ fp_c (k + 3) 20 ∧ fp_c (k + 4) 20
def fp_is0 (k : Nat) : Prop := fp_c k 0 ∧ fp_c (k + 1) 2 ∧ fp_c (k + 2) 20 ∧ fp_c (k + 3) 20 ∧ fp_c (k + 4) 20 ∧ fp_c (k + 5) 20
theorem fp_is0_2 {k : Nat} (h : fp_is0 k) : fp_is2 (k + 1) := h.2
theorem fp_is9_13 : fp_is9 13 := ⟨fp_c_of (by decide +kernel), fp_c_of (by decide +kernel), fp_c_of (by decide +kernel)⟩
theorem fp_is9_39 : fp_is9 39 := ⟨fp_c_of (by decide +kernel), fp_c_of (by decide +kernel), fp_c_of (by decide +kernel)⟩
theorem fp_is7_2 : fp_is7 2 := ⟨fp_c_of (by decide +kernel), fp_c_of (by decide +kernel), fp_c_of (by decide +kernel), fp_c_of (by decide +kernel), fp_c_of (by decide +kernel)⟩
theorem fp_is7_8 : fp_is7 8 := ⟨fp_c_of (by decide +kernel), fp_c_of (by decide +kernel), fp_c_of (by decide +kernel), fp_c_of (by decide +kernel), fp_c_of (by decide +kernel)⟩
theorem fp_is2_16 : fp_is2 16 := ⟨fp_c_of (by decide +kernel), fp_c_of (by decide +kernel), fp_c_of (by decide +kernel), fp_c_of (by decide +kernel), fp_c_of (by decide +kernel)⟩
theorem fp_is2_22 : fp_is2 22 := ⟨fp_c_of (by decide +kernel), fp_c_of (by decide +kernel), fp_c_of (by decide +kernel), fp_c_of (by decide +kernel), fp_c_of (by decide +kernel)⟩
theorem fp_is2_28 : fp_is2 28 := ⟨fp_c_of (by decide +kernel), fp_c_of (by decide +kernel), fp_c_of (by decide +kernel), fp_c_of (by decide +kernel), fp_c_of (by decide +kernel)⟩
theorem fp_is2_34 : fp_is2 34 := ⟨fp_c_of (by decide +kernel), fp_c_of (by decide +kernel), fp_c_of (by decide +kernel), fp_c_of (by decide +kernel), fp_c_of (by decide +kernel)⟩
theorem fp_is0_21 : fp_is0 21 := ⟨fp_c_of (by decide +kernel), fp_c_of (by decide +kernel), fp_c_of (by decide +kernel), fp_c_of (by decide +kernel), fp_c_of (by decide +kernel), fp_c_of (by decide +kernel)⟩
theorem fp_is0_33 : fp_is0 33 := ⟨fp_c_of (by decide +kernel), fp_c_of (by decide +kernel), fp_c_of (by decide +kernel), fp_c_of (by decide +kernel), fp_c_of (by decide +kernel), fp_c_of (by decide +kernel)⟩
theorem fp_his : ∀ i, i < 20 → (decide (50 + 3 * i < 140) && (fp_kd (50 + 3 * i) == 9)) = true ∧ (decide (50 + 3 * i + 1 < 140) && (fp_kd (50 + 3 * i + 1) == 20)) = true ∧ (decide (50 + 3 * i + 2 < 140) && (fp_kd (50 + 3 * i + 2) == 20)) = true := by decide +kernel
theorem fp_ima : ∀ i, i < 2 → (decide (114 + 3 * i < 140) && (fp_kd (114 + 3 * i) == 9)) = true ∧ (decide (114 + 3 * i + 1 < 140) && (fp_kd (114 + 3 * i + 1) == 20)) = true ∧ (decide (114 + 3 * i + 2 < 140) && (fp_kd (114 + 3 * i + 2) == 20)) = true := by decide +kernel
theorem fp_is9_h {i : Nat} (h : i < 20) : fp_is9 (50 + 3 * i) := ⟨fp_c_of (fp_his i h).1, fp_c_of (fp_his i h).2.1, fp_c_of (fp_his i h).2.2⟩
theorem fp_is9_i {i : Nat} (h : i < 2) : fp_is9 (114 + 3 * i) := ⟨fp_c_of (fp_ima i h).1, fp_c_of (fp_ima i h).2.1, fp_c_of (fp_ima i h).2.2⟩
theorem fp_in_lt {i : Int32} {n : Nat} (h : vp_in i n) : i.toNatClampNeg < n := Nat.not_le.mp fun q => h (Or.inr q)
theorem fp_a20 {G : Nat → ClassId} {B : Nat} {k : Nat} (h : fp_c k 20) (M : fp_Mem) : fp_e G B M k = .inl (G 0, (9, .inl (M k))) := by unfold fp_e; rw [h.2]; rfl
theorem fp_a21 {G : Nat → ClassId} {B : Nat} {k : Nat} (h : fp_c k 21) (M : fp_Mem) : fp_e G B M k = .inl (G 0, (14, .inl (M k))) := by unfold fp_e; rw [h.2]; rfl
theorem fp_a22 {G : Nat → ClassId} {B : Nat} {k : Nat} (h : fp_c k 22) (M : fp_Mem) : fp_e G B M k = .inl (G 1, (240, .inl (M k))) := by unfold fp_e; rw [h.2]; rfl
theorem fp_a23 {G : Nat → ClassId} {B : Nat} {k : Nat} (h : fp_c k 23) (M : fp_Mem) : fp_e G B M k = .inl (G 0, (15, .inl (M k))) := by unfold fp_e; rw [h.2]; rfl
theorem fp_a26 {G : Nat → ClassId} {B : Nat} {k : Nat} (h : fp_c k 26) (M : fp_Mem) : fp_e G B M k = .inl (G 0, (2, .inl (M k))) := by unfold fp_e; rw [h.2]; rfl
theorem fp_a27 {G : Nat → ClassId} {B : Nat} {k : Nat} (h : fp_c k 27) (M : fp_Mem) : fp_e G B M k = .inl (G 2, (2, .inl (M k))) := by unfold fp_e; rw [h.2]; rfl
theorem fp_a28 {G : Nat → ClassId} {B : Nat} {k : Nat} (h : fp_c k 28) (M : fp_Mem) : fp_e G B M k = .inl (G 0, (25, .inl (M k))) := by unfold fp_e; rw [h.2]; rfl
theorem fp_a29 {G : Nat → ClassId} {B : Nat} {k : Nat} (h : fp_c k 29) (M : fp_Mem) : fp_e G B M k = .inl (G 0, (240, .inl (M k))) := by unfold fp_e; rw [h.2]; rfl
theorem fp_a30 {G : Nat → ClassId} {B : Nat} {k : Nat} (h : fp_c k 30) (M : fp_Mem) : fp_e G B M k = .inl (G 0, (500, .inl (M k))) := by unfold fp_e; rw [h.2]; rfl
theorem fp_a31 {G : Nat → ClassId} {B : Nat} {k : Nat} (h : fp_c k 31) (M : fp_Mem) : fp_e G B M k = .inl (G 0, (6, .inl (M k))) := by unfold fp_e; rw [h.2]; rfl
theorem fp_a32 {G : Nat → ClassId} {B : Nat} {k : Nat} (h : fp_c k 32) (M : fp_Mem) : fp_e G B M k = .inl (G 2, (6, .inl (M k))) := by unfold fp_e; rw [h.2]; rfl
theorem fp_a33 {G : Nat → ClassId} {B : Nat} {k : Nat} (h : fp_c k 33) (M : fp_Mem) : fp_e G B M k = .inl (G 0, (52, .inl (M k))) := by unfold fp_e; rw [h.2]; rfl
theorem fp_o0 {G : Nat → ClassId} {B : Nat} {k : Nat} (h : fp_c k 0) (M : fp_Mem) : fp_e G B M k = .inr (0, [.ref (B + (k + 1))]) := by unfold fp_e; rw [h.2]; rfl
theorem fp_o1 {G : Nat → ClassId} {B : Nat} (M : fp_Mem) : fp_e G B M 44 = .inr (1, [.int (M 44 0), .ref (B + 45), .ref (B + 46)]) := rfl
theorem fp_o2 {G : Nat → ClassId} {B : Nat} {k : Nat} (h : fp_c k 2) (M : fp_Mem) : fp_e G B M k = .inr (2, [.int (M k 0), .ref (B + (k + 1)), .ref (B + (k + 2)), .ref (B + (k + 3)), .ref (B + (k + 4))]) := by unfold fp_e; rw [h.2]; rfl
theorem fp_o3 {G : Nat → ClassId} {B : Nat} (M : fp_Mem) : fp_e G B M 47 = .inr (3, [.int (M 47 0)]) := rfl
theorem fp_o4 {G : Nat → ClassId} {B : Nat} (M : fp_Mem) : fp_e G B M 48 = .inr (4, [.int (M 48 0), .int (M 48 1), .ref (B + 49)]) := rfl
theorem fp_o5 {G : Nat → ClassId} {B : Nat} (M : fp_Mem) : fp_e G B M 110 = .inr (5, [.ref (B + 111), .ref (B + 112), .ref (B + 113)]) := rfl
theorem fp_o6 {G : Nat → ClassId} {B : Nat} (M : fp_Mem) : fp_e G B M 1 = .inr (6, [.ref (B + 2), .ref (B + 7), .int (M 1 2), .int (M 1 3), .int (M 1 4), .int (M 1 5), .int (M 1 6)]) := rfl
theorem fp_o7 {G : Nat → ClassId} {B : Nat} {k : Nat} (h : fp_c k 7) (M : fp_Mem) : fp_e G B M k = .inr (7, [.int (M k 0), .int (M k 1), .int (M k 2), .int (M k 3), .int (M k 4), .ref (B + (k + 1)), .ref (B + (k + 2)), .ref (B + (k + 3)), .ref (B + (k + 4))]) := by unfold fp_e; rw [h.2]; rfl
theorem fp_o8 {G : Nat → ClassId} {B : Nat} (M : fp_Mem) : fp_e G B M 43 = .inr (8, [.int (M 43 0), .int (M 43 1), .int (M 43 2)]) := rfl
theorem fp_o9 {G : Nat → ClassId} {B : Nat} {k : Nat} (h : fp_c k 9) (M : fp_Mem) : fp_e G B M k = .inr (9, [.ref (B + (k + 1)), .ref (B + (k + 2)), .int (M k 2), .int (M k 3), .int (M k 4), .int (M k 5), .int (M k 6), .int (M k 7), .int (M k 8)]) := by unfold fp_e; rw [h.2]; rfl
theorem fp_o10 {G : Nat → ClassId} {B : Nat} (M : fp_Mem) : fp_e G B M 27 = .inr (10, [.ref (B + 28), .ref (B + 33), .ref (B + 39), .ref (B + 42)]) := rfl
theorem fp_o11 {G : Nat → ClassId} {B : Nat} (M : fp_Mem) : fp_e G B M 0 = .inr (11, [.ref (B + 1), .ref (B + 8), .ref (B + 13), .ref (B + 16), .ref (B + 21), .ref (B + 27), .ref (B + 43), .ref (B + 44), .ref (B + 47), .ref (B + 48), .ref (B + 110)]) := rfl
theorem fp_o12 {G : Nat → ClassId} {B : Nat} (M : fp_Mem) : fp_e G B M 120 = .inr (12, [.int (M 120 0), .int (M 120 1), .int (M 120 2), .ref (B + 121), .ref (B + 122), .ref (B + 123), .int (M 120 6), .int (M 120 7), .ref (B + 124), .int (M 120 9), .int (M 120 10), .int (M 120 11), .int (M 120 12), .int (M 120 13), .int (M 120 14), .ref (B + 125), .int (M 120 16), .ref (B + 126), .ref (B + 127), .int (M 120 19), .ref (B + 128), .ref (B + 129), .ref (B + 130), .int (M 120 23), .ref (B + 131), .ref (B + 132), .ref (B + 133), .int (M 120 27), .ref (B + 134), .ref (B + 135), .int (M 120 30), .ref (B + 136), .ref (B + 137), .ref (B + 138), .ref (B + 139)]) := rfl
theorem fp_u0 : ∀ w ∈ u_ws RX0 TX0 1, w ∈ fp_T := by decide +kernel
theorem fp_u1 : ∀ w ∈ u_ws RX1 TX1 3, w ∈ fp_T := by decide +kernel
theorem fp_u2 : ∀ w ∈ u_ws RX2 TX2 5, w ∈ fp_T := by decide +kernel
theorem fp_u3 : ∀ w ∈ u_ws RX3 TX3 1, w ∈ fp_T := by decide +kernel
theorem fp_u4 : ∀ w ∈ u_ws RX4 TX4 3, w ∈ fp_T := by decide +kernel
theorem fp_u5 : ∀ w ∈ u_ws RX5 TX5 3, w ∈ fp_T := by decide +kernel
theorem fp_u6 : ∀ w ∈ u_ws RX6 TX6 7, w ∈ fp_T := by decide +kernel
theorem fp_u7 : ∀ w ∈ u_ws RX7 TX7 9, w ∈ fp_T := by decide +kernel
theorem fp_u8 : ∀ w ∈ u_ws RX8 TX8 3, w ∈ fp_T := by decide +kernel
theorem fp_u9 : ∀ w ∈ u_ws RX9 TX9 9, w ∈ fp_T := by decide +kernel
theorem fp_u10 : ∀ w ∈ u_ws RX10 TX10 4, w ∈ fp_T := by decide +kernel
theorem fp_u11 : ∀ w ∈ u_ws RX11 TX11 11, w ∈ fp_T := by decide +kernel
theorem fp_u12 : ∀ w ∈ u_ws RX12 TX12 35, w ∈ fp_T := by decide +kernel
section FPR
variable {p : Program} {l : Launch} {e : Env} {R : Room} {s : State} {m : MethodId} {args : Array Value} {below : List Frame} {meth : Method} {c : Code} {H : Heap} {locs : List Loc} {cells slots : Nat} {Q : State → Prop}
variable {cc : ByteArray} {nL : Nat} {own : String} {rt : Option FieldType} {D : va_G} {G : Nat → ClassId} {B : Nat} {M : fp_Mem} {pc : Nat} {ls : Array Slot} {rest : List Value} {k idx : Nat}

theorem fp_tabs (E : fp_EV p s m args meth c cc nL own rt D G) {w : Cond} (h : w ∈ fp_T) : w.before args s = true := E.2.2.2.2.1 w h
theorem fp_g0_0 (E : fp_EV p s m args meth c cc nL own rt D G) (hG : fp_H D G B s M H locs) (hc : fp_c k 0) (hl : Cond.fieldLink own idx "FreePlace$Acts" "chains" "LFreePlace$Chains;" ∈ fp_T) (hdg : decode cc pc = .ok (.getfield idx, 3)) (kk : W p l e R s m args below meth c H locs cells slots Q (F0 m (pc + 3) ls (.ref (B + (k + 1)) :: rest))) : W p l e R s m args below meth c H locs cells slots Q (F0 m pc ls (.ref (B + k) :: rest)) :=
  va_get (ref := "FreePlace$Acts") (D := D) (ci := 0) (v := .ref (B + (k + 1))) (C := RX0) (T := TX0) (N := 1) E.1 E.2.1 E.2.2.2.2.1 fp_u0 E.2.2.2.1 E.2.2.2.2.2.1 hG.1 k (by rw [fp_w_get hc.1, (fp_o0 hc _)]) rfl 0 (by decide) (fp_tabs E hl) (fun _ h => h) rfl hdg kk
theorem fp_g1_0 (E : fp_EV p s m args meth c cc nL own rt D G) (hG : fp_H D G B s M H locs) (hl : Cond.fieldLink own idx "FreePlace$Book" "count" "I" ∈ fp_T) (hdg : decode cc pc = .ok (.getfield idx, 3)) (kk : W p l e R s m args below meth c H locs cells slots Q (F0 m (pc + 3) ls (.int (M 44 0) :: rest))) : W p l e R s m args below meth c H locs cells slots Q (F0 m pc ls (.ref (B + 44) :: rest)) :=
  va_get (ref := "FreePlace$Book") (D := D) (ci := 1) (v := .int (M 44 0)) (C := RX1) (T := TX1) (N := 3) E.1 E.2.1 E.2.2.2.2.1 fp_u1 E.2.2.2.1 E.2.2.2.2.2.1 hG.1 44 (by rw [fp_w_get (by decide), (fp_o1 _)]) rfl 0 (by decide) (fp_tabs E hl) (fun _ h => h) rfl hdg kk
theorem fp_p1_0 (E : fp_EV p s m args meth c cc nL own rt D G) (hG : fp_H D G B s M H locs) (hl : Cond.fieldLink own idx "FreePlace$Book" "count" "I" ∈ fp_T) {x : Int32} (hdg : decode cc pc = .ok (.putfield idx, 3)) (kk : ∀ (H : Heap) (locs : List Loc), fp_H D G B s (fp_set M 44 0 x) H locs → W p l e R s m args below meth c H locs cells slots Q (F0 m (pc + 3) ls rest)) : W p l e R s m args below meth c H locs cells slots Q (F0 m pc ls (.int x :: .ref (B + 44) :: rest)) :=
  va_put (ref := "FreePlace$Book") (D := D) (ci := 1) (v := .int x) (ty := .int) (C := RX1) (T := TX1) (N := 3) E.1 E.2.1 E.2.2.2.2.1 fp_u1 tyX1 tyX1_ok nmX1 E.2.2.2.1 E.2.2.2.2.2.1 hG.1 fp_w_D hG.2 44 (by rw [fp_w_get (by decide), (fp_o1 _)]) rfl 0 (by decide) (fp_tabs E hl) (fun _ h => h) rfl (by decide +kernel) rfl rfl (Nat.le_of_ble_eq_true rfl) hdg (fun H1 locs1 hP _ hS => kk H1 locs1 ⟨by
    rw [fp_w_set (M' := fp_set M 44 0 x) (by rw [(fp_o1 _)]; simp [fp_set_eq, upd, List.set]) (fun q hq => fp_set_ne hq)] at hP
    exact hP, hS⟩)
theorem fp_g1_1 (E : fp_EV p s m args meth c cc nL own rt D G) (hG : fp_H D G B s M H locs) (hl : Cond.fieldLink own idx "FreePlace$Book" "tables" "[I" ∈ fp_T) (hdg : decode cc pc = .ok (.getfield idx, 3)) (kk : W p l e R s m args below meth c H locs cells slots Q (F0 m (pc + 3) ls (.ref (B + 45) :: rest))) : W p l e R s m args below meth c H locs cells slots Q (F0 m pc ls (.ref (B + 44) :: rest)) :=
  va_get (ref := "FreePlace$Book") (D := D) (ci := 1) (v := .ref (B + 45)) (C := RX1) (T := TX1) (N := 3) E.1 E.2.1 E.2.2.2.2.1 fp_u1 E.2.2.2.1 E.2.2.2.2.2.1 hG.1 44 (by rw [fp_w_get (by decide), (fp_o1 _)]) rfl 1 (by decide) (fp_tabs E hl) (fun _ h => h) rfl hdg kk
theorem fp_g1_2 (E : fp_EV p s m args meth c cc nL own rt D G) (hG : fp_H D G B s M H locs) (hl : Cond.fieldLink own idx "FreePlace$Book" "sits" "[I" ∈ fp_T) (hdg : decode cc pc = .ok (.getfield idx, 3)) (kk : W p l e R s m args below meth c H locs cells slots Q (F0 m (pc + 3) ls (.ref (B + 46) :: rest))) : W p l e R s m args below meth c H locs cells slots Q (F0 m pc ls (.ref (B + 44) :: rest)) :=
  va_get (ref := "FreePlace$Book") (D := D) (ci := 1) (v := .ref (B + 46)) (C := RX1) (T := TX1) (N := 3) E.1 E.2.1 E.2.2.2.2.1 fp_u1 E.2.2.2.1 E.2.2.2.2.2.1 hG.1 44 (by rw [fp_w_get (by decide), (fp_o1 _)]) rfl 2 (by decide) (fp_tabs E hl) (fun _ h => h) rfl hdg kk
theorem fp_g2_0 (E : fp_EV p s m args meth c cc nL own rt D G) (hG : fp_H D G B s M H locs) (hc : fp_c k 2) (hl : Cond.fieldLink own idx "FreePlace$Chains" "tables" "I" ∈ fp_T) (hdg : decode cc pc = .ok (.getfield idx, 3)) (kk : W p l e R s m args below meth c H locs cells slots Q (F0 m (pc + 3) ls (.int (M k 0) :: rest))) : W p l e R s m args below meth c H locs cells slots Q (F0 m pc ls (.ref (B + k) :: rest)) :=
  va_get (ref := "FreePlace$Chains") (D := D) (ci := 2) (v := .int (M k 0)) (C := RX2) (T := TX2) (N := 5) E.1 E.2.1 E.2.2.2.2.1 fp_u2 E.2.2.2.1 E.2.2.2.2.2.1 hG.1 k (by rw [fp_w_get hc.1, (fp_o2 hc _)]) rfl 0 (by decide) (fp_tabs E hl) (fun _ h => h) rfl hdg kk
theorem fp_p2_0 (E : fp_EV p s m args meth c cc nL own rt D G) (hG : fp_H D G B s M H locs) (hc : fp_c k 2) (hl : Cond.fieldLink own idx "FreePlace$Chains" "tables" "I" ∈ fp_T) {x : Int32} (hdg : decode cc pc = .ok (.putfield idx, 3)) (kk : ∀ (H : Heap) (locs : List Loc), fp_H D G B s (fp_set M k 0 x) H locs → W p l e R s m args below meth c H locs cells slots Q (F0 m (pc + 3) ls rest)) : W p l e R s m args below meth c H locs cells slots Q (F0 m pc ls (.int x :: .ref (B + k) :: rest)) :=
  va_put (ref := "FreePlace$Chains") (D := D) (ci := 2) (v := .int x) (ty := .int) (C := RX2) (T := TX2) (N := 5) E.1 E.2.1 E.2.2.2.2.1 fp_u2 tyX2 tyX2_ok nmX2 E.2.2.2.1 E.2.2.2.2.2.1 hG.1 fp_w_D hG.2 k (by rw [fp_w_get hc.1, (fp_o2 hc _)]) rfl 0 (by decide) (fp_tabs E hl) (fun _ h => h) rfl (by decide +kernel) rfl rfl (Nat.le_of_ble_eq_true rfl) hdg (fun H1 locs1 hP _ hS => kk H1 locs1 ⟨by
    rw [fp_w_set (M' := fp_set M k 0 x) (by rw [(fp_o2 hc _)]; simp [fp_set_eq, upd, List.set]) (fun q hq => fp_set_ne hq)] at hP
    exact hP, hS⟩)
theorem fp_g2_1 (E : fp_EV p s m args meth c cc nL own rt D G) (hG : fp_H D G B s M H locs) (hc : fp_c k 2) (hl : Cond.fieldLink own idx "FreePlace$Chains" "joined" "[I" ∈ fp_T) (hdg : decode cc pc = .ok (.getfield idx, 3)) (kk : W p l e R s m args below meth c H locs cells slots Q (F0 m (pc + 3) ls (.ref (B + (k + 1)) :: rest))) : W p l e R s m args below meth c H locs cells slots Q (F0 m pc ls (.ref (B + k) :: rest)) :=
  va_get (ref := "FreePlace$Chains") (D := D) (ci := 2) (v := .ref (B + (k + 1))) (C := RX2) (T := TX2) (N := 5) E.1 E.2.1 E.2.2.2.2.1 fp_u2 E.2.2.2.1 E.2.2.2.2.2.1 hG.1 k (by rw [fp_w_get hc.1, (fp_o2 hc _)]) rfl 1 (by decide) (fp_tabs E hl) (fun _ h => h) rfl hdg kk
theorem fp_g2_2 (E : fp_EV p s m args meth c cc nL own rt D G) (hG : fp_H D G B s M H locs) (hc : fp_c k 2) (hl : Cond.fieldLink own idx "FreePlace$Chains" "moves" "[I" ∈ fp_T) (hdg : decode cc pc = .ok (.getfield idx, 3)) (kk : W p l e R s m args below meth c H locs cells slots Q (F0 m (pc + 3) ls (.ref (B + (k + 2)) :: rest))) : W p l e R s m args below meth c H locs cells slots Q (F0 m pc ls (.ref (B + k) :: rest)) :=
  va_get (ref := "FreePlace$Chains") (D := D) (ci := 2) (v := .ref (B + (k + 2))) (C := RX2) (T := TX2) (N := 5) E.1 E.2.1 E.2.2.2.2.1 fp_u2 E.2.2.2.1 E.2.2.2.2.2.1 hG.1 k (by rw [fp_w_get hc.1, (fp_o2 hc _)]) rfl 2 (by decide) (fp_tabs E hl) (fun _ h => h) rfl hdg kk
theorem fp_g2_3 (E : fp_EV p s m args meth c cc nL own rt D G) (hG : fp_H D G B s M H locs) (hc : fp_c k 2) (hl : Cond.fieldLink own idx "FreePlace$Chains" "next" "[I" ∈ fp_T) (hdg : decode cc pc = .ok (.getfield idx, 3)) (kk : W p l e R s m args below meth c H locs cells slots Q (F0 m (pc + 3) ls (.ref (B + (k + 3)) :: rest))) : W p l e R s m args below meth c H locs cells slots Q (F0 m pc ls (.ref (B + k) :: rest)) :=
  va_get (ref := "FreePlace$Chains") (D := D) (ci := 2) (v := .ref (B + (k + 3))) (C := RX2) (T := TX2) (N := 5) E.1 E.2.1 E.2.2.2.2.1 fp_u2 E.2.2.2.1 E.2.2.2.2.2.1 hG.1 k (by rw [fp_w_get hc.1, (fp_o2 hc _)]) rfl 3 (by decide) (fp_tabs E hl) (fun _ h => h) rfl hdg kk
theorem fp_g2_4 (E : fp_EV p s m args meth c cc nL own rt D G) (hG : fp_H D G B s M H locs) (hc : fp_c k 2) (hl : Cond.fieldLink own idx "FreePlace$Chains" "movers" "[I" ∈ fp_T) (hdg : decode cc pc = .ok (.getfield idx, 3)) (kk : W p l e R s m args below meth c H locs cells slots Q (F0 m (pc + 3) ls (.ref (B + (k + 4)) :: rest))) : W p l e R s m args below meth c H locs cells slots Q (F0 m pc ls (.ref (B + k) :: rest)) :=
  va_get (ref := "FreePlace$Chains") (D := D) (ci := 2) (v := .ref (B + (k + 4))) (C := RX2) (T := TX2) (N := 5) E.1 E.2.1 E.2.2.2.2.1 fp_u2 E.2.2.2.1 E.2.2.2.2.2.1 hG.1 k (by rw [fp_w_get hc.1, (fp_o2 hc _)]) rfl 4 (by decide) (fp_tabs E hl) (fun _ h => h) rfl hdg kk
theorem fp_g3_0 (E : fp_EV p s m args meth c cc nL own rt D G) (hG : fp_H D G B s M H locs) (hl : Cond.fieldLink own idx "FreePlace$Draws" "seed" "I" ∈ fp_T) (hdg : decode cc pc = .ok (.getfield idx, 3)) (kk : W p l e R s m args below meth c H locs cells slots Q (F0 m (pc + 3) ls (.int (M 47 0) :: rest))) : W p l e R s m args below meth c H locs cells slots Q (F0 m pc ls (.ref (B + 47) :: rest)) :=
  va_get (ref := "FreePlace$Draws") (D := D) (ci := 3) (v := .int (M 47 0)) (C := RX3) (T := TX3) (N := 1) E.1 E.2.1 E.2.2.2.2.1 fp_u3 E.2.2.2.1 E.2.2.2.2.2.1 hG.1 47 (by rw [fp_w_get (by decide), (fp_o3 _)]) rfl 0 (by decide) (fp_tabs E hl) (fun _ h => h) rfl hdg kk
theorem fp_p3_0 (E : fp_EV p s m args meth c cc nL own rt D G) (hG : fp_H D G B s M H locs) (hl : Cond.fieldLink own idx "FreePlace$Draws" "seed" "I" ∈ fp_T) {x : Int32} (hdg : decode cc pc = .ok (.putfield idx, 3)) (kk : ∀ (H : Heap) (locs : List Loc), fp_H D G B s (fp_set M 47 0 x) H locs → W p l e R s m args below meth c H locs cells slots Q (F0 m (pc + 3) ls rest)) : W p l e R s m args below meth c H locs cells slots Q (F0 m pc ls (.int x :: .ref (B + 47) :: rest)) :=
  va_put (ref := "FreePlace$Draws") (D := D) (ci := 3) (v := .int x) (ty := .int) (C := RX3) (T := TX3) (N := 1) E.1 E.2.1 E.2.2.2.2.1 fp_u3 tyX3 tyX3_ok nmX3 E.2.2.2.1 E.2.2.2.2.2.1 hG.1 fp_w_D hG.2 47 (by rw [fp_w_get (by decide), (fp_o3 _)]) rfl 0 (by decide) (fp_tabs E hl) (fun _ h => h) rfl (by decide +kernel) rfl rfl (Nat.le_of_ble_eq_true rfl) hdg (fun H1 locs1 hP _ hS => kk H1 locs1 ⟨by
    rw [fp_w_set (M' := fp_set M 47 0 x) (by rw [(fp_o3 _)]; simp [fp_set_eq, upd, List.set]) (fun q hq => fp_set_ne hq)] at hP
    exact hP, hS⟩)
theorem fp_g4_0 (E : fp_EV p s m args meth c cc nL own rt D G) (hG : fp_H D G B s M H locs) (hl : Cond.fieldLink own idx "FreePlace$History" "count" "I" ∈ fp_T) (hdg : decode cc pc = .ok (.getfield idx, 3)) (kk : W p l e R s m args below meth c H locs cells slots Q (F0 m (pc + 3) ls (.int (M 48 0) :: rest))) : W p l e R s m args below meth c H locs cells slots Q (F0 m pc ls (.ref (B + 48) :: rest)) :=
  va_get (ref := "FreePlace$History") (D := D) (ci := 4) (v := .int (M 48 0)) (C := RX4) (T := TX4) (N := 3) E.1 E.2.1 E.2.2.2.2.1 fp_u4 E.2.2.2.1 E.2.2.2.2.2.1 hG.1 48 (by rw [fp_w_get (by decide), (fp_o4 _)]) rfl 0 (by decide) (fp_tabs E hl) (fun _ h => h) rfl hdg kk
theorem fp_p4_0 (E : fp_EV p s m args meth c cc nL own rt D G) (hG : fp_H D G B s M H locs) (hl : Cond.fieldLink own idx "FreePlace$History" "count" "I" ∈ fp_T) {x : Int32} (hdg : decode cc pc = .ok (.putfield idx, 3)) (kk : ∀ (H : Heap) (locs : List Loc), fp_H D G B s (fp_set M 48 0 x) H locs → W p l e R s m args below meth c H locs cells slots Q (F0 m (pc + 3) ls rest)) : W p l e R s m args below meth c H locs cells slots Q (F0 m pc ls (.int x :: .ref (B + 48) :: rest)) :=
  va_put (ref := "FreePlace$History") (D := D) (ci := 4) (v := .int x) (ty := .int) (C := RX4) (T := TX4) (N := 3) E.1 E.2.1 E.2.2.2.2.1 fp_u4 tyX4 tyX4_ok nmX4 E.2.2.2.1 E.2.2.2.2.2.1 hG.1 fp_w_D hG.2 48 (by rw [fp_w_get (by decide), (fp_o4 _)]) rfl 0 (by decide) (fp_tabs E hl) (fun _ h => h) rfl (by decide +kernel) rfl rfl (Nat.le_of_ble_eq_true rfl) hdg (fun H1 locs1 hP _ hS => kk H1 locs1 ⟨by
    rw [fp_w_set (M' := fp_set M 48 0 x) (by rw [(fp_o4 _)]; simp [fp_set_eq, upd, List.set]) (fun q hq => fp_set_ne hq)] at hP
    exact hP, hS⟩)
theorem fp_g4_1 (E : fp_EV p s m args meth c cc nL own rt D G) (hG : fp_H D G B s M H locs) (hl : Cond.fieldLink own idx "FreePlace$History" "next" "I" ∈ fp_T) (hdg : decode cc pc = .ok (.getfield idx, 3)) (kk : W p l e R s m args below meth c H locs cells slots Q (F0 m (pc + 3) ls (.int (M 48 1) :: rest))) : W p l e R s m args below meth c H locs cells slots Q (F0 m pc ls (.ref (B + 48) :: rest)) :=
  va_get (ref := "FreePlace$History") (D := D) (ci := 4) (v := .int (M 48 1)) (C := RX4) (T := TX4) (N := 3) E.1 E.2.1 E.2.2.2.2.1 fp_u4 E.2.2.2.1 E.2.2.2.2.2.1 hG.1 48 (by rw [fp_w_get (by decide), (fp_o4 _)]) rfl 1 (by decide) (fp_tabs E hl) (fun _ h => h) rfl hdg kk
theorem fp_p4_1 (E : fp_EV p s m args meth c cc nL own rt D G) (hG : fp_H D G B s M H locs) (hl : Cond.fieldLink own idx "FreePlace$History" "next" "I" ∈ fp_T) {x : Int32} (hdg : decode cc pc = .ok (.putfield idx, 3)) (kk : ∀ (H : Heap) (locs : List Loc), fp_H D G B s (fp_set M 48 1 x) H locs → W p l e R s m args below meth c H locs cells slots Q (F0 m (pc + 3) ls rest)) : W p l e R s m args below meth c H locs cells slots Q (F0 m pc ls (.int x :: .ref (B + 48) :: rest)) :=
  va_put (ref := "FreePlace$History") (D := D) (ci := 4) (v := .int x) (ty := .int) (C := RX4) (T := TX4) (N := 3) E.1 E.2.1 E.2.2.2.2.1 fp_u4 tyX4 tyX4_ok nmX4 E.2.2.2.1 E.2.2.2.2.2.1 hG.1 fp_w_D hG.2 48 (by rw [fp_w_get (by decide), (fp_o4 _)]) rfl 1 (by decide) (fp_tabs E hl) (fun _ h => h) rfl (by decide +kernel) rfl rfl (Nat.le_of_ble_eq_true rfl) hdg (fun H1 locs1 hP _ hS => kk H1 locs1 ⟨by
    rw [fp_w_set (M' := fp_set M 48 1 x) (by rw [(fp_o4 _)]; simp [fp_set_eq, upd, List.set]) (fun q hq => fp_set_ne hq)] at hP
    exact hP, hS⟩)
theorem fp_g4_2 (E : fp_EV p s m args meth c cc nL own rt D G) (hG : fp_H D G B s M H locs) (hl : Cond.fieldLink own idx "FreePlace$History" "states" "[LFreePlace$State;" ∈ fp_T) (hdg : decode cc pc = .ok (.getfield idx, 3)) (kk : W p l e R s m args below meth c H locs cells slots Q (F0 m (pc + 3) ls (.ref (B + 49) :: rest))) : W p l e R s m args below meth c H locs cells slots Q (F0 m pc ls (.ref (B + 48) :: rest)) :=
  va_get (ref := "FreePlace$History") (D := D) (ci := 4) (v := .ref (B + 49)) (C := RX4) (T := TX4) (N := 3) E.1 E.2.1 E.2.2.2.2.1 fp_u4 E.2.2.2.1 E.2.2.2.2.2.1 hG.1 48 (by rw [fp_w_get (by decide), (fp_o4 _)]) rfl 2 (by decide) (fp_tabs E hl) (fun _ h => h) rfl hdg kk
theorem fp_g5_0 (E : fp_EV p s m args meth c cc nL own rt D G) (hG : fp_H D G B s M H locs) (hl : Cond.fieldLink own idx "FreePlace$Images" "states" "[LFreePlace$State;" ∈ fp_T) (hdg : decode cc pc = .ok (.getfield idx, 3)) (kk : W p l e R s m args below meth c H locs cells slots Q (F0 m (pc + 3) ls (.ref (B + 111) :: rest))) : W p l e R s m args below meth c H locs cells slots Q (F0 m pc ls (.ref (B + 110) :: rest)) :=
  va_get (ref := "FreePlace$Images") (D := D) (ci := 5) (v := .ref (B + 111)) (C := RX5) (T := TX5) (N := 3) E.1 E.2.1 E.2.2.2.2.1 fp_u5 E.2.2.2.1 E.2.2.2.2.2.1 hG.1 110 (by rw [fp_w_get (by decide), (fp_o5 _)]) rfl 0 (by decide) (fp_tabs E hl) (fun _ h => h) rfl hdg kk
theorem fp_g5_1 (E : fp_EV p s m args meth c cc nL own rt D G) (hG : fp_H D G B s M H locs) (hl : Cond.fieldLink own idx "FreePlace$Images" "seeds" "[I" ∈ fp_T) (hdg : decode cc pc = .ok (.getfield idx, 3)) (kk : W p l e R s m args below meth c H locs cells slots Q (F0 m (pc + 3) ls (.ref (B + 112) :: rest))) : W p l e R s m args below meth c H locs cells slots Q (F0 m pc ls (.ref (B + 110) :: rest)) :=
  va_get (ref := "FreePlace$Images") (D := D) (ci := 5) (v := .ref (B + 112)) (C := RX5) (T := TX5) (N := 3) E.1 E.2.1 E.2.2.2.2.1 fp_u5 E.2.2.2.1 E.2.2.2.2.2.1 hG.1 110 (by rw [fp_w_get (by decide), (fp_o5 _)]) rfl 1 (by decide) (fp_tabs E hl) (fun _ h => h) rfl hdg kk
theorem fp_g5_2 (E : fp_EV p s m args meth c cc nL own rt D G) (hG : fp_H D G B s M H locs) (hl : Cond.fieldLink own idx "FreePlace$Images" "kept" "[Z" ∈ fp_T) (hdg : decode cc pc = .ok (.getfield idx, 3)) (kk : W p l e R s m args below meth c H locs cells slots Q (F0 m (pc + 3) ls (.ref (B + 113) :: rest))) : W p l e R s m args below meth c H locs cells slots Q (F0 m pc ls (.ref (B + 110) :: rest)) :=
  va_get (ref := "FreePlace$Images") (D := D) (ci := 5) (v := .ref (B + 113)) (C := RX5) (T := TX5) (N := 3) E.1 E.2.1 E.2.2.2.2.1 fp_u5 E.2.2.2.1 E.2.2.2.2.2.1 hG.1 110 (by rw [fp_w_get (by decide), (fp_o5 _)]) rfl 2 (by decide) (fp_tabs E hl) (fun _ h => h) rfl hdg kk
theorem fp_g6_0 (E : fp_EV p s m args meth c cc nL own rt D G) (hG : fp_H D G B s M H locs) (hl : Cond.fieldLink own idx "FreePlace$Reader" "draft" "LFreePlace$Realm;" ∈ fp_T) (hdg : decode cc pc = .ok (.getfield idx, 3)) (kk : W p l e R s m args below meth c H locs cells slots Q (F0 m (pc + 3) ls (.ref (B + 2) :: rest))) : W p l e R s m args below meth c H locs cells slots Q (F0 m pc ls (.ref (B + 1) :: rest)) :=
  va_get (ref := "FreePlace$Reader") (D := D) (ci := 6) (v := .ref (B + 2)) (C := RX6) (T := TX6) (N := 7) E.1 E.2.1 E.2.2.2.2.1 fp_u6 E.2.2.2.1 E.2.2.2.2.2.1 hG.1 1 (by rw [fp_w_get (by decide), (fp_o6 _)]) rfl 0 (by decide) (fp_tabs E hl) (fun _ h => h) rfl hdg kk
theorem fp_g6_1 (E : fp_EV p s m args meth c cc nL own rt D G) (hG : fp_H D G B s M H locs) (hl : Cond.fieldLink own idx "FreePlace$Reader" "letters" "[C" ∈ fp_T) (hdg : decode cc pc = .ok (.getfield idx, 3)) (kk : W p l e R s m args below meth c H locs cells slots Q (F0 m (pc + 3) ls (.ref (B + 7) :: rest))) : W p l e R s m args below meth c H locs cells slots Q (F0 m pc ls (.ref (B + 1) :: rest)) :=
  va_get (ref := "FreePlace$Reader") (D := D) (ci := 6) (v := .ref (B + 7)) (C := RX6) (T := TX6) (N := 7) E.1 E.2.1 E.2.2.2.2.1 fp_u6 E.2.2.2.1 E.2.2.2.2.2.1 hG.1 1 (by rw [fp_w_get (by decide), (fp_o6 _)]) rfl 1 (by decide) (fp_tabs E hl) (fun _ h => h) rfl hdg kk
theorem fp_g6_2 (E : fp_EV p s m args meth c cc nL own rt D G) (hG : fp_H D G B s M H locs) (hl : Cond.fieldLink own idx "FreePlace$Reader" "length" "I" ∈ fp_T) (hdg : decode cc pc = .ok (.getfield idx, 3)) (kk : W p l e R s m args below meth c H locs cells slots Q (F0 m (pc + 3) ls (.int (M 1 2) :: rest))) : W p l e R s m args below meth c H locs cells slots Q (F0 m pc ls (.ref (B + 1) :: rest)) :=
  va_get (ref := "FreePlace$Reader") (D := D) (ci := 6) (v := .int (M 1 2)) (C := RX6) (T := TX6) (N := 7) E.1 E.2.1 E.2.2.2.2.1 fp_u6 E.2.2.2.1 E.2.2.2.2.2.1 hG.1 1 (by rw [fp_w_get (by decide), (fp_o6 _)]) rfl 2 (by decide) (fp_tabs E hl) (fun _ h => h) rfl hdg kk
theorem fp_p6_2 (E : fp_EV p s m args meth c cc nL own rt D G) (hG : fp_H D G B s M H locs) (hl : Cond.fieldLink own idx "FreePlace$Reader" "length" "I" ∈ fp_T) {x : Int32} (hdg : decode cc pc = .ok (.putfield idx, 3)) (kk : ∀ (H : Heap) (locs : List Loc), fp_H D G B s (fp_set M 1 2 x) H locs → W p l e R s m args below meth c H locs cells slots Q (F0 m (pc + 3) ls rest)) : W p l e R s m args below meth c H locs cells slots Q (F0 m pc ls (.int x :: .ref (B + 1) :: rest)) :=
  va_put (ref := "FreePlace$Reader") (D := D) (ci := 6) (v := .int x) (ty := .int) (C := RX6) (T := TX6) (N := 7) E.1 E.2.1 E.2.2.2.2.1 fp_u6 tyX6 tyX6_ok nmX6 E.2.2.2.1 E.2.2.2.2.2.1 hG.1 fp_w_D hG.2 1 (by rw [fp_w_get (by decide), (fp_o6 _)]) rfl 2 (by decide) (fp_tabs E hl) (fun _ h => h) rfl (by decide +kernel) rfl rfl (Nat.le_of_ble_eq_true rfl) hdg (fun H1 locs1 hP _ hS => kk H1 locs1 ⟨by
    rw [fp_w_set (M' := fp_set M 1 2 x) (by rw [(fp_o6 _)]; simp [fp_set_eq, upd, List.set]) (fun q hq => fp_set_ne hq)] at hP
    exact hP, hS⟩)
theorem fp_g6_3 (E : fp_EV p s m args meth c cc nL own rt D G) (hG : fp_H D G B s M H locs) (hl : Cond.fieldLink own idx "FreePlace$Reader" "at" "I" ∈ fp_T) (hdg : decode cc pc = .ok (.getfield idx, 3)) (kk : W p l e R s m args below meth c H locs cells slots Q (F0 m (pc + 3) ls (.int (M 1 3) :: rest))) : W p l e R s m args below meth c H locs cells slots Q (F0 m pc ls (.ref (B + 1) :: rest)) :=
  va_get (ref := "FreePlace$Reader") (D := D) (ci := 6) (v := .int (M 1 3)) (C := RX6) (T := TX6) (N := 7) E.1 E.2.1 E.2.2.2.2.1 fp_u6 E.2.2.2.1 E.2.2.2.2.2.1 hG.1 1 (by rw [fp_w_get (by decide), (fp_o6 _)]) rfl 3 (by decide) (fp_tabs E hl) (fun _ h => h) rfl hdg kk
theorem fp_p6_3 (E : fp_EV p s m args meth c cc nL own rt D G) (hG : fp_H D G B s M H locs) (hl : Cond.fieldLink own idx "FreePlace$Reader" "at" "I" ∈ fp_T) {x : Int32} (hdg : decode cc pc = .ok (.putfield idx, 3)) (kk : ∀ (H : Heap) (locs : List Loc), fp_H D G B s (fp_set M 1 3 x) H locs → W p l e R s m args below meth c H locs cells slots Q (F0 m (pc + 3) ls rest)) : W p l e R s m args below meth c H locs cells slots Q (F0 m pc ls (.int x :: .ref (B + 1) :: rest)) :=
  va_put (ref := "FreePlace$Reader") (D := D) (ci := 6) (v := .int x) (ty := .int) (C := RX6) (T := TX6) (N := 7) E.1 E.2.1 E.2.2.2.2.1 fp_u6 tyX6 tyX6_ok nmX6 E.2.2.2.1 E.2.2.2.2.2.1 hG.1 fp_w_D hG.2 1 (by rw [fp_w_get (by decide), (fp_o6 _)]) rfl 3 (by decide) (fp_tabs E hl) (fun _ h => h) rfl (by decide +kernel) rfl rfl (Nat.le_of_ble_eq_true rfl) hdg (fun H1 locs1 hP _ hS => kk H1 locs1 ⟨by
    rw [fp_w_set (M' := fp_set M 1 3 x) (by rw [(fp_o6 _)]; simp [fp_set_eq, upd, List.set]) (fun q hq => fp_set_ne hq)] at hP
    exact hP, hS⟩)
theorem fp_g6_4 (E : fp_EV p s m args meth c cc nL own rt D G) (hG : fp_H D G B s M H locs) (hl : Cond.fieldLink own idx "FreePlace$Reader" "numberAt" "I" ∈ fp_T) (hdg : decode cc pc = .ok (.getfield idx, 3)) (kk : W p l e R s m args below meth c H locs cells slots Q (F0 m (pc + 3) ls (.int (M 1 4) :: rest))) : W p l e R s m args below meth c H locs cells slots Q (F0 m pc ls (.ref (B + 1) :: rest)) :=
  va_get (ref := "FreePlace$Reader") (D := D) (ci := 6) (v := .int (M 1 4)) (C := RX6) (T := TX6) (N := 7) E.1 E.2.1 E.2.2.2.2.1 fp_u6 E.2.2.2.1 E.2.2.2.2.2.1 hG.1 1 (by rw [fp_w_get (by decide), (fp_o6 _)]) rfl 4 (by decide) (fp_tabs E hl) (fun _ h => h) rfl hdg kk
theorem fp_p6_4 (E : fp_EV p s m args meth c cc nL own rt D G) (hG : fp_H D G B s M H locs) (hl : Cond.fieldLink own idx "FreePlace$Reader" "numberAt" "I" ∈ fp_T) {x : Int32} (hdg : decode cc pc = .ok (.putfield idx, 3)) (kk : ∀ (H : Heap) (locs : List Loc), fp_H D G B s (fp_set M 1 4 x) H locs → W p l e R s m args below meth c H locs cells slots Q (F0 m (pc + 3) ls rest)) : W p l e R s m args below meth c H locs cells slots Q (F0 m pc ls (.int x :: .ref (B + 1) :: rest)) :=
  va_put (ref := "FreePlace$Reader") (D := D) (ci := 6) (v := .int x) (ty := .int) (C := RX6) (T := TX6) (N := 7) E.1 E.2.1 E.2.2.2.2.1 fp_u6 tyX6 tyX6_ok nmX6 E.2.2.2.1 E.2.2.2.2.2.1 hG.1 fp_w_D hG.2 1 (by rw [fp_w_get (by decide), (fp_o6 _)]) rfl 4 (by decide) (fp_tabs E hl) (fun _ h => h) rfl (by decide +kernel) rfl rfl (Nat.le_of_ble_eq_true rfl) hdg (fun H1 locs1 hP _ hS => kk H1 locs1 ⟨by
    rw [fp_w_set (M' := fp_set M 1 4 x) (by rw [(fp_o6 _)]; simp [fp_set_eq, upd, List.set]) (fun q hq => fp_set_ne hq)] at hP
    exact hP, hS⟩)
theorem fp_g6_5 (E : fp_EV p s m args meth c cc nL own rt D G) (hG : fp_H D G B s M H locs) (hl : Cond.fieldLink own idx "FreePlace$Reader" "fault" "I" ∈ fp_T) (hdg : decode cc pc = .ok (.getfield idx, 3)) (kk : W p l e R s m args below meth c H locs cells slots Q (F0 m (pc + 3) ls (.int (M 1 5) :: rest))) : W p l e R s m args below meth c H locs cells slots Q (F0 m pc ls (.ref (B + 1) :: rest)) :=
  va_get (ref := "FreePlace$Reader") (D := D) (ci := 6) (v := .int (M 1 5)) (C := RX6) (T := TX6) (N := 7) E.1 E.2.1 E.2.2.2.2.1 fp_u6 E.2.2.2.1 E.2.2.2.2.2.1 hG.1 1 (by rw [fp_w_get (by decide), (fp_o6 _)]) rfl 5 (by decide) (fp_tabs E hl) (fun _ h => h) rfl hdg kk
theorem fp_p6_5 (E : fp_EV p s m args meth c cc nL own rt D G) (hG : fp_H D G B s M H locs) (hl : Cond.fieldLink own idx "FreePlace$Reader" "fault" "I" ∈ fp_T) {x : Int32} (hdg : decode cc pc = .ok (.putfield idx, 3)) (kk : ∀ (H : Heap) (locs : List Loc), fp_H D G B s (fp_set M 1 5 x) H locs → W p l e R s m args below meth c H locs cells slots Q (F0 m (pc + 3) ls rest)) : W p l e R s m args below meth c H locs cells slots Q (F0 m pc ls (.int x :: .ref (B + 1) :: rest)) :=
  va_put (ref := "FreePlace$Reader") (D := D) (ci := 6) (v := .int x) (ty := .int) (C := RX6) (T := TX6) (N := 7) E.1 E.2.1 E.2.2.2.2.1 fp_u6 tyX6 tyX6_ok nmX6 E.2.2.2.1 E.2.2.2.2.2.1 hG.1 fp_w_D hG.2 1 (by rw [fp_w_get (by decide), (fp_o6 _)]) rfl 5 (by decide) (fp_tabs E hl) (fun _ h => h) rfl (by decide +kernel) rfl rfl (Nat.le_of_ble_eq_true rfl) hdg (fun H1 locs1 hP _ hS => kk H1 locs1 ⟨by
    rw [fp_w_set (M' := fp_set M 1 5 x) (by rw [(fp_o6 _)]; simp [fp_set_eq, upd, List.set]) (fun q hq => fp_set_ne hq)] at hP
    exact hP, hS⟩)
theorem fp_g6_6 (E : fp_EV p s m args meth c cc nL own rt D G) (hG : fp_H D G B s M H locs) (hl : Cond.fieldLink own idx "FreePlace$Reader" "place" "I" ∈ fp_T) (hdg : decode cc pc = .ok (.getfield idx, 3)) (kk : W p l e R s m args below meth c H locs cells slots Q (F0 m (pc + 3) ls (.int (M 1 6) :: rest))) : W p l e R s m args below meth c H locs cells slots Q (F0 m pc ls (.ref (B + 1) :: rest)) :=
  va_get (ref := "FreePlace$Reader") (D := D) (ci := 6) (v := .int (M 1 6)) (C := RX6) (T := TX6) (N := 7) E.1 E.2.1 E.2.2.2.2.1 fp_u6 E.2.2.2.1 E.2.2.2.2.2.1 hG.1 1 (by rw [fp_w_get (by decide), (fp_o6 _)]) rfl 6 (by decide) (fp_tabs E hl) (fun _ h => h) rfl hdg kk
theorem fp_p6_6 (E : fp_EV p s m args meth c cc nL own rt D G) (hG : fp_H D G B s M H locs) (hl : Cond.fieldLink own idx "FreePlace$Reader" "place" "I" ∈ fp_T) {x : Int32} (hdg : decode cc pc = .ok (.putfield idx, 3)) (kk : ∀ (H : Heap) (locs : List Loc), fp_H D G B s (fp_set M 1 6 x) H locs → W p l e R s m args below meth c H locs cells slots Q (F0 m (pc + 3) ls rest)) : W p l e R s m args below meth c H locs cells slots Q (F0 m pc ls (.int x :: .ref (B + 1) :: rest)) :=
  va_put (ref := "FreePlace$Reader") (D := D) (ci := 6) (v := .int x) (ty := .int) (C := RX6) (T := TX6) (N := 7) E.1 E.2.1 E.2.2.2.2.1 fp_u6 tyX6 tyX6_ok nmX6 E.2.2.2.1 E.2.2.2.2.2.1 hG.1 fp_w_D hG.2 1 (by rw [fp_w_get (by decide), (fp_o6 _)]) rfl 6 (by decide) (fp_tabs E hl) (fun _ h => h) rfl (by decide +kernel) rfl rfl (Nat.le_of_ble_eq_true rfl) hdg (fun H1 locs1 hP _ hS => kk H1 locs1 ⟨by
    rw [fp_w_set (M' := fp_set M 1 6 x) (by rw [(fp_o6 _)]; simp [fp_set_eq, upd, List.set]) (fun q hq => fp_set_ne hq)] at hP
    exact hP, hS⟩)
theorem fp_g7_0 (E : fp_EV p s m args meth c cc nL own rt D G) (hG : fp_H D G B s M H locs) (hc : fp_c k 7) (hl : Cond.fieldLink own idx "FreePlace$Realm" "there" "Z" ∈ fp_T) (hdg : decode cc pc = .ok (.getfield idx, 3)) (kk : W p l e R s m args below meth c H locs cells slots Q (F0 m (pc + 3) ls (.int (M k 0) :: rest))) : W p l e R s m args below meth c H locs cells slots Q (F0 m pc ls (.ref (B + k) :: rest)) :=
  va_get (ref := "FreePlace$Realm") (D := D) (ci := 7) (v := .int (M k 0)) (C := RX7) (T := TX7) (N := 9) E.1 E.2.1 E.2.2.2.2.1 fp_u7 E.2.2.2.1 E.2.2.2.2.2.1 hG.1 k (by rw [fp_w_get hc.1, (fp_o7 hc _)]) rfl 0 (by decide) (fp_tabs E hl) (fun _ h => h) rfl hdg kk
theorem fp_p7_0 (E : fp_EV p s m args meth c cc nL own rt D G) (hG : fp_H D G B s M H locs) (hc : fp_c k 7) (hl : Cond.fieldLink own idx "FreePlace$Realm" "there" "Z" ∈ fp_T) {x : Int32} (hz : fp_zb x = true) (hdg : decode cc pc = .ok (.putfield idx, 3)) (kk : ∀ (H : Heap) (locs : List Loc), fp_H D G B s (fp_set M k 0 x) H locs → W p l e R s m args below meth c H locs cells slots Q (F0 m (pc + 3) ls rest)) : W p l e R s m args below meth c H locs cells slots Q (F0 m pc ls (.int x :: .ref (B + k) :: rest)) :=
  va_put (ref := "FreePlace$Realm") (D := D) (ci := 7) (v := .int x) (ty := .boolean) (C := RX7) (T := TX7) (N := 9) E.1 E.2.1 E.2.2.2.2.1 fp_u7 tyX7 tyX7_ok nmX7 E.2.2.2.1 E.2.2.2.2.2.1 hG.1 fp_w_D hG.2 k (by rw [fp_w_get hc.1, (fp_o7 hc _)]) rfl 0 (by decide) (fp_tabs E hl) (fun _ h => h) rfl (by decide +kernel) (fp_zb_n hz) (fp_zb_f hz) (Nat.le_of_ble_eq_true rfl) hdg (fun H1 locs1 hP _ hS => kk H1 locs1 ⟨by
    rw [fp_w_set (M' := fp_set M k 0 x) (by rw [(fp_o7 hc _)]; simp [fp_set_eq, upd, List.set]) (fun q hq => fp_set_ne hq)] at hP
    exact hP, hS⟩)
theorem fp_g7_1 (E : fp_EV p s m args meth c cc nL own rt D G) (hG : fp_H D G B s M H locs) (hc : fp_c k 7) (hl : Cond.fieldLink own idx "FreePlace$Realm" "fine" "I" ∈ fp_T) (hdg : decode cc pc = .ok (.getfield idx, 3)) (kk : W p l e R s m args below meth c H locs cells slots Q (F0 m (pc + 3) ls (.int (M k 1) :: rest))) : W p l e R s m args below meth c H locs cells slots Q (F0 m pc ls (.ref (B + k) :: rest)) :=
  va_get (ref := "FreePlace$Realm") (D := D) (ci := 7) (v := .int (M k 1)) (C := RX7) (T := TX7) (N := 9) E.1 E.2.1 E.2.2.2.2.1 fp_u7 E.2.2.2.1 E.2.2.2.2.2.1 hG.1 k (by rw [fp_w_get hc.1, (fp_o7 hc _)]) rfl 1 (by decide) (fp_tabs E hl) (fun _ h => h) rfl hdg kk
theorem fp_p7_1 (E : fp_EV p s m args meth c cc nL own rt D G) (hG : fp_H D G B s M H locs) (hc : fp_c k 7) (hl : Cond.fieldLink own idx "FreePlace$Realm" "fine" "I" ∈ fp_T) {x : Int32} (hdg : decode cc pc = .ok (.putfield idx, 3)) (kk : ∀ (H : Heap) (locs : List Loc), fp_H D G B s (fp_set M k 1 x) H locs → W p l e R s m args below meth c H locs cells slots Q (F0 m (pc + 3) ls rest)) : W p l e R s m args below meth c H locs cells slots Q (F0 m pc ls (.int x :: .ref (B + k) :: rest)) :=
  va_put (ref := "FreePlace$Realm") (D := D) (ci := 7) (v := .int x) (ty := .int) (C := RX7) (T := TX7) (N := 9) E.1 E.2.1 E.2.2.2.2.1 fp_u7 tyX7 tyX7_ok nmX7 E.2.2.2.1 E.2.2.2.2.2.1 hG.1 fp_w_D hG.2 k (by rw [fp_w_get hc.1, (fp_o7 hc _)]) rfl 1 (by decide) (fp_tabs E hl) (fun _ h => h) rfl (by decide +kernel) rfl rfl (Nat.le_of_ble_eq_true rfl) hdg (fun H1 locs1 hP _ hS => kk H1 locs1 ⟨by
    rw [fp_w_set (M' := fp_set M k 1 x) (by rw [(fp_o7 hc _)]; simp [fp_set_eq, upd, List.set]) (fun q hq => fp_set_ne hq)] at hP
    exact hP, hS⟩)
theorem fp_g7_2 (E : fp_EV p s m args meth c cc nL own rt D G) (hG : fp_H D G B s M H locs) (hc : fp_c k 7) (hl : Cond.fieldLink own idx "FreePlace$Realm" "wood" "I" ∈ fp_T) (hdg : decode cc pc = .ok (.getfield idx, 3)) (kk : W p l e R s m args below meth c H locs cells slots Q (F0 m (pc + 3) ls (.int (M k 2) :: rest))) : W p l e R s m args below meth c H locs cells slots Q (F0 m pc ls (.ref (B + k) :: rest)) :=
  va_get (ref := "FreePlace$Realm") (D := D) (ci := 7) (v := .int (M k 2)) (C := RX7) (T := TX7) (N := 9) E.1 E.2.1 E.2.2.2.2.1 fp_u7 E.2.2.2.1 E.2.2.2.2.2.1 hG.1 k (by rw [fp_w_get hc.1, (fp_o7 hc _)]) rfl 2 (by decide) (fp_tabs E hl) (fun _ h => h) rfl hdg kk
theorem fp_p7_2 (E : fp_EV p s m args meth c cc nL own rt D G) (hG : fp_H D G B s M H locs) (hc : fp_c k 7) (hl : Cond.fieldLink own idx "FreePlace$Realm" "wood" "I" ∈ fp_T) {x : Int32} (hdg : decode cc pc = .ok (.putfield idx, 3)) (kk : ∀ (H : Heap) (locs : List Loc), fp_H D G B s (fp_set M k 2 x) H locs → W p l e R s m args below meth c H locs cells slots Q (F0 m (pc + 3) ls rest)) : W p l e R s m args below meth c H locs cells slots Q (F0 m pc ls (.int x :: .ref (B + k) :: rest)) :=
  va_put (ref := "FreePlace$Realm") (D := D) (ci := 7) (v := .int x) (ty := .int) (C := RX7) (T := TX7) (N := 9) E.1 E.2.1 E.2.2.2.2.1 fp_u7 tyX7 tyX7_ok nmX7 E.2.2.2.1 E.2.2.2.2.2.1 hG.1 fp_w_D hG.2 k (by rw [fp_w_get hc.1, (fp_o7 hc _)]) rfl 2 (by decide) (fp_tabs E hl) (fun _ h => h) rfl (by decide +kernel) rfl rfl (Nat.le_of_ble_eq_true rfl) hdg (fun H1 locs1 hP _ hS => kk H1 locs1 ⟨by
    rw [fp_w_set (M' := fp_set M k 2 x) (by rw [(fp_o7 hc _)]; simp [fp_set_eq, upd, List.set]) (fun q hq => fp_set_ne hq)] at hP
    exact hP, hS⟩)
theorem fp_g7_3 (E : fp_EV p s m args meth c cc nL own rt D G) (hG : fp_H D G B s M H locs) (hc : fp_c k 7) (hl : Cond.fieldLink own idx "FreePlace$Realm" "tables" "I" ∈ fp_T) (hdg : decode cc pc = .ok (.getfield idx, 3)) (kk : W p l e R s m args below meth c H locs cells slots Q (F0 m (pc + 3) ls (.int (M k 3) :: rest))) : W p l e R s m args below meth c H locs cells slots Q (F0 m pc ls (.ref (B + k) :: rest)) :=
  va_get (ref := "FreePlace$Realm") (D := D) (ci := 7) (v := .int (M k 3)) (C := RX7) (T := TX7) (N := 9) E.1 E.2.1 E.2.2.2.2.1 fp_u7 E.2.2.2.1 E.2.2.2.2.2.1 hG.1 k (by rw [fp_w_get hc.1, (fp_o7 hc _)]) rfl 3 (by decide) (fp_tabs E hl) (fun _ h => h) rfl hdg kk
theorem fp_p7_3 (E : fp_EV p s m args meth c cc nL own rt D G) (hG : fp_H D G B s M H locs) (hc : fp_c k 7) (hl : Cond.fieldLink own idx "FreePlace$Realm" "tables" "I" ∈ fp_T) {x : Int32} (hdg : decode cc pc = .ok (.putfield idx, 3)) (kk : ∀ (H : Heap) (locs : List Loc), fp_H D G B s (fp_set M k 3 x) H locs → W p l e R s m args below meth c H locs cells slots Q (F0 m (pc + 3) ls rest)) : W p l e R s m args below meth c H locs cells slots Q (F0 m pc ls (.int x :: .ref (B + k) :: rest)) :=
  va_put (ref := "FreePlace$Realm") (D := D) (ci := 7) (v := .int x) (ty := .int) (C := RX7) (T := TX7) (N := 9) E.1 E.2.1 E.2.2.2.2.1 fp_u7 tyX7 tyX7_ok nmX7 E.2.2.2.1 E.2.2.2.2.2.1 hG.1 fp_w_D hG.2 k (by rw [fp_w_get hc.1, (fp_o7 hc _)]) rfl 3 (by decide) (fp_tabs E hl) (fun _ h => h) rfl (by decide +kernel) rfl rfl (Nat.le_of_ble_eq_true rfl) hdg (fun H1 locs1 hP _ hS => kk H1 locs1 ⟨by
    rw [fp_w_set (M' := fp_set M k 3 x) (by rw [(fp_o7 hc _)]; simp [fp_set_eq, upd, List.set]) (fun q hq => fp_set_ne hq)] at hP
    exact hP, hS⟩)
theorem fp_g7_4 (E : fp_EV p s m args meth c cc nL own rt D G) (hG : fp_H D G B s M H locs) (hc : fp_c k 7) (hl : Cond.fieldLink own idx "FreePlace$Realm" "ways" "I" ∈ fp_T) (hdg : decode cc pc = .ok (.getfield idx, 3)) (kk : W p l e R s m args below meth c H locs cells slots Q (F0 m (pc + 3) ls (.int (M k 4) :: rest))) : W p l e R s m args below meth c H locs cells slots Q (F0 m pc ls (.ref (B + k) :: rest)) :=
  va_get (ref := "FreePlace$Realm") (D := D) (ci := 7) (v := .int (M k 4)) (C := RX7) (T := TX7) (N := 9) E.1 E.2.1 E.2.2.2.2.1 fp_u7 E.2.2.2.1 E.2.2.2.2.2.1 hG.1 k (by rw [fp_w_get hc.1, (fp_o7 hc _)]) rfl 4 (by decide) (fp_tabs E hl) (fun _ h => h) rfl hdg kk
theorem fp_p7_4 (E : fp_EV p s m args meth c cc nL own rt D G) (hG : fp_H D G B s M H locs) (hc : fp_c k 7) (hl : Cond.fieldLink own idx "FreePlace$Realm" "ways" "I" ∈ fp_T) {x : Int32} (hdg : decode cc pc = .ok (.putfield idx, 3)) (kk : ∀ (H : Heap) (locs : List Loc), fp_H D G B s (fp_set M k 4 x) H locs → W p l e R s m args below meth c H locs cells slots Q (F0 m (pc + 3) ls rest)) : W p l e R s m args below meth c H locs cells slots Q (F0 m pc ls (.int x :: .ref (B + k) :: rest)) :=
  va_put (ref := "FreePlace$Realm") (D := D) (ci := 7) (v := .int x) (ty := .int) (C := RX7) (T := TX7) (N := 9) E.1 E.2.1 E.2.2.2.2.1 fp_u7 tyX7 tyX7_ok nmX7 E.2.2.2.1 E.2.2.2.2.2.1 hG.1 fp_w_D hG.2 k (by rw [fp_w_get hc.1, (fp_o7 hc _)]) rfl 4 (by decide) (fp_tabs E hl) (fun _ h => h) rfl (by decide +kernel) rfl rfl (Nat.le_of_ble_eq_true rfl) hdg (fun H1 locs1 hP _ hS => kk H1 locs1 ⟨by
    rw [fp_w_set (M' := fp_set M k 4 x) (by rw [(fp_o7 hc _)]; simp [fp_set_eq, upd, List.set]) (fun q hq => fp_set_ne hq)] at hP
    exact hP, hS⟩)
theorem fp_g7_5 (E : fp_EV p s m args meth c cc nL own rt D G) (hG : fp_H D G B s M H locs) (hc : fp_c k 7) (hl : Cond.fieldLink own idx "FreePlace$Realm" "seats" "[I" ∈ fp_T) (hdg : decode cc pc = .ok (.getfield idx, 3)) (kk : W p l e R s m args below meth c H locs cells slots Q (F0 m (pc + 3) ls (.ref (B + (k + 1)) :: rest))) : W p l e R s m args below meth c H locs cells slots Q (F0 m pc ls (.ref (B + k) :: rest)) :=
  va_get (ref := "FreePlace$Realm") (D := D) (ci := 7) (v := .ref (B + (k + 1))) (C := RX7) (T := TX7) (N := 9) E.1 E.2.1 E.2.2.2.2.1 fp_u7 E.2.2.2.1 E.2.2.2.2.2.1 hG.1 k (by rw [fp_w_get hc.1, (fp_o7 hc _)]) rfl 5 (by decide) (fp_tabs E hl) (fun _ h => h) rfl hdg kk
theorem fp_g7_6 (E : fp_EV p s m args meth c cc nL own rt D G) (hG : fp_H D G B s M H locs) (hc : fp_c k 7) (hl : Cond.fieldLink own idx "FreePlace$Realm" "sits" "[I" ∈ fp_T) (hdg : decode cc pc = .ok (.getfield idx, 3)) (kk : W p l e R s m args below meth c H locs cells slots Q (F0 m (pc + 3) ls (.ref (B + (k + 2)) :: rest))) : W p l e R s m args below meth c H locs cells slots Q (F0 m pc ls (.ref (B + k) :: rest)) :=
  va_get (ref := "FreePlace$Realm") (D := D) (ci := 7) (v := .ref (B + (k + 2))) (C := RX7) (T := TX7) (N := 9) E.1 E.2.1 E.2.2.2.2.1 fp_u7 E.2.2.2.1 E.2.2.2.2.2.1 hG.1 k (by rw [fp_w_get hc.1, (fp_o7 hc _)]) rfl 6 (by decide) (fp_tabs E hl) (fun _ h => h) rfl hdg kk
theorem fp_g7_7 (E : fp_EV p s m args meth c cc nL own rt D G) (hG : fp_H D G B s M H locs) (hc : fp_c k 7) (hl : Cond.fieldLink own idx "FreePlace$Realm" "from" "[I" ∈ fp_T) (hdg : decode cc pc = .ok (.getfield idx, 3)) (kk : W p l e R s m args below meth c H locs cells slots Q (F0 m (pc + 3) ls (.ref (B + (k + 3)) :: rest))) : W p l e R s m args below meth c H locs cells slots Q (F0 m pc ls (.ref (B + k) :: rest)) :=
  va_get (ref := "FreePlace$Realm") (D := D) (ci := 7) (v := .ref (B + (k + 3))) (C := RX7) (T := TX7) (N := 9) E.1 E.2.1 E.2.2.2.2.1 fp_u7 E.2.2.2.1 E.2.2.2.2.2.1 hG.1 k (by rw [fp_w_get hc.1, (fp_o7 hc _)]) rfl 7 (by decide) (fp_tabs E hl) (fun _ h => h) rfl hdg kk
theorem fp_g7_8 (E : fp_EV p s m args meth c cc nL own rt D G) (hG : fp_H D G B s M H locs) (hc : fp_c k 7) (hl : Cond.fieldLink own idx "FreePlace$Realm" "to" "[I" ∈ fp_T) (hdg : decode cc pc = .ok (.getfield idx, 3)) (kk : W p l e R s m args below meth c H locs cells slots Q (F0 m (pc + 3) ls (.ref (B + (k + 4)) :: rest))) : W p l e R s m args below meth c H locs cells slots Q (F0 m pc ls (.ref (B + k) :: rest)) :=
  va_get (ref := "FreePlace$Realm") (D := D) (ci := 7) (v := .ref (B + (k + 4))) (C := RX7) (T := TX7) (N := 9) E.1 E.2.1 E.2.2.2.2.1 fp_u7 E.2.2.2.1 E.2.2.2.2.2.1 hG.1 k (by rw [fp_w_get hc.1, (fp_o7 hc _)]) rfl 8 (by decide) (fp_tabs E hl) (fun _ h => h) rfl hdg kk
theorem fp_g8_0 (E : fp_EV p s m args meth c cc nL own rt D G) (hG : fp_H D G B s M H locs) (hl : Cond.fieldLink own idx "FreePlace$Sights" "count" "I" ∈ fp_T) (hdg : decode cc pc = .ok (.getfield idx, 3)) (kk : W p l e R s m args below meth c H locs cells slots Q (F0 m (pc + 3) ls (.int (M 43 0) :: rest))) : W p l e R s m args below meth c H locs cells slots Q (F0 m pc ls (.ref (B + 43) :: rest)) :=
  va_get (ref := "FreePlace$Sights") (D := D) (ci := 8) (v := .int (M 43 0)) (C := RX8) (T := TX8) (N := 3) E.1 E.2.1 E.2.2.2.2.1 fp_u8 E.2.2.2.1 E.2.2.2.2.2.1 hG.1 43 (by rw [fp_w_get (by decide), (fp_o8 _)]) rfl 0 (by decide) (fp_tabs E hl) (fun _ h => h) rfl hdg kk
theorem fp_p8_0 (E : fp_EV p s m args meth c cc nL own rt D G) (hG : fp_H D G B s M H locs) (hl : Cond.fieldLink own idx "FreePlace$Sights" "count" "I" ∈ fp_T) {x : Int32} (hdg : decode cc pc = .ok (.putfield idx, 3)) (kk : ∀ (H : Heap) (locs : List Loc), fp_H D G B s (fp_set M 43 0 x) H locs → W p l e R s m args below meth c H locs cells slots Q (F0 m (pc + 3) ls rest)) : W p l e R s m args below meth c H locs cells slots Q (F0 m pc ls (.int x :: .ref (B + 43) :: rest)) :=
  va_put (ref := "FreePlace$Sights") (D := D) (ci := 8) (v := .int x) (ty := .int) (C := RX8) (T := TX8) (N := 3) E.1 E.2.1 E.2.2.2.2.1 fp_u8 tyX8 tyX8_ok nmX8 E.2.2.2.1 E.2.2.2.2.2.1 hG.1 fp_w_D hG.2 43 (by rw [fp_w_get (by decide), (fp_o8 _)]) rfl 0 (by decide) (fp_tabs E hl) (fun _ h => h) rfl (by decide +kernel) rfl rfl (Nat.le_of_ble_eq_true rfl) hdg (fun H1 locs1 hP _ hS => kk H1 locs1 ⟨by
    rw [fp_w_set (M' := fp_set M 43 0 x) (by rw [(fp_o8 _)]; simp [fp_set_eq, upd, List.set]) (fun q hq => fp_set_ne hq)] at hP
    exact hP, hS⟩)
theorem fp_g8_1 (E : fp_EV p s m args meth c cc nL own rt D G) (hG : fp_H D G B s M H locs) (hl : Cond.fieldLink own idx "FreePlace$Sights" "moved" "I" ∈ fp_T) (hdg : decode cc pc = .ok (.getfield idx, 3)) (kk : W p l e R s m args below meth c H locs cells slots Q (F0 m (pc + 3) ls (.int (M 43 1) :: rest))) : W p l e R s m args below meth c H locs cells slots Q (F0 m pc ls (.ref (B + 43) :: rest)) :=
  va_get (ref := "FreePlace$Sights") (D := D) (ci := 8) (v := .int (M 43 1)) (C := RX8) (T := TX8) (N := 3) E.1 E.2.1 E.2.2.2.2.1 fp_u8 E.2.2.2.1 E.2.2.2.2.2.1 hG.1 43 (by rw [fp_w_get (by decide), (fp_o8 _)]) rfl 1 (by decide) (fp_tabs E hl) (fun _ h => h) rfl hdg kk
theorem fp_p8_1 (E : fp_EV p s m args meth c cc nL own rt D G) (hG : fp_H D G B s M H locs) (hl : Cond.fieldLink own idx "FreePlace$Sights" "moved" "I" ∈ fp_T) {x : Int32} (hdg : decode cc pc = .ok (.putfield idx, 3)) (kk : ∀ (H : Heap) (locs : List Loc), fp_H D G B s (fp_set M 43 1 x) H locs → W p l e R s m args below meth c H locs cells slots Q (F0 m (pc + 3) ls rest)) : W p l e R s m args below meth c H locs cells slots Q (F0 m pc ls (.int x :: .ref (B + 43) :: rest)) :=
  va_put (ref := "FreePlace$Sights") (D := D) (ci := 8) (v := .int x) (ty := .int) (C := RX8) (T := TX8) (N := 3) E.1 E.2.1 E.2.2.2.2.1 fp_u8 tyX8 tyX8_ok nmX8 E.2.2.2.1 E.2.2.2.2.2.1 hG.1 fp_w_D hG.2 43 (by rw [fp_w_get (by decide), (fp_o8 _)]) rfl 1 (by decide) (fp_tabs E hl) (fun _ h => h) rfl (by decide +kernel) rfl rfl (Nat.le_of_ble_eq_true rfl) hdg (fun H1 locs1 hP _ hS => kk H1 locs1 ⟨by
    rw [fp_w_set (M' := fp_set M 43 1 x) (by rw [(fp_o8 _)]; simp [fp_set_eq, upd, List.set]) (fun q hq => fp_set_ne hq)] at hP
    exact hP, hS⟩)
theorem fp_g8_2 (E : fp_EV p s m args meth c cc nL own rt D G) (hG : fp_H D G B s M H locs) (hl : Cond.fieldLink own idx "FreePlace$Sights" "still" "I" ∈ fp_T) (hdg : decode cc pc = .ok (.getfield idx, 3)) (kk : W p l e R s m args below meth c H locs cells slots Q (F0 m (pc + 3) ls (.int (M 43 2) :: rest))) : W p l e R s m args below meth c H locs cells slots Q (F0 m pc ls (.ref (B + 43) :: rest)) :=
  va_get (ref := "FreePlace$Sights") (D := D) (ci := 8) (v := .int (M 43 2)) (C := RX8) (T := TX8) (N := 3) E.1 E.2.1 E.2.2.2.2.1 fp_u8 E.2.2.2.1 E.2.2.2.2.2.1 hG.1 43 (by rw [fp_w_get (by decide), (fp_o8 _)]) rfl 2 (by decide) (fp_tabs E hl) (fun _ h => h) rfl hdg kk
theorem fp_p8_2 (E : fp_EV p s m args meth c cc nL own rt D G) (hG : fp_H D G B s M H locs) (hl : Cond.fieldLink own idx "FreePlace$Sights" "still" "I" ∈ fp_T) {x : Int32} (hdg : decode cc pc = .ok (.putfield idx, 3)) (kk : ∀ (H : Heap) (locs : List Loc), fp_H D G B s (fp_set M 43 2 x) H locs → W p l e R s m args below meth c H locs cells slots Q (F0 m (pc + 3) ls rest)) : W p l e R s m args below meth c H locs cells slots Q (F0 m pc ls (.int x :: .ref (B + 43) :: rest)) :=
  va_put (ref := "FreePlace$Sights") (D := D) (ci := 8) (v := .int x) (ty := .int) (C := RX8) (T := TX8) (N := 3) E.1 E.2.1 E.2.2.2.2.1 fp_u8 tyX8 tyX8_ok nmX8 E.2.2.2.1 E.2.2.2.2.2.1 hG.1 fp_w_D hG.2 43 (by rw [fp_w_get (by decide), (fp_o8 _)]) rfl 2 (by decide) (fp_tabs E hl) (fun _ h => h) rfl (by decide +kernel) rfl rfl (Nat.le_of_ble_eq_true rfl) hdg (fun H1 locs1 hP _ hS => kk H1 locs1 ⟨by
    rw [fp_w_set (M' := fp_set M 43 2 x) (by rw [(fp_o8 _)]; simp [fp_set_eq, upd, List.set]) (fun q hq => fp_set_ne hq)] at hP
    exact hP, hS⟩)
theorem fp_g9_0 (E : fp_EV p s m args meth c cc nL own rt D G) (hG : fp_H D G B s M H locs) (hc : fp_c k 9) (hl : Cond.fieldLink own idx "FreePlace$State" "seats" "[I" ∈ fp_T) (hdg : decode cc pc = .ok (.getfield idx, 3)) (kk : W p l e R s m args below meth c H locs cells slots Q (F0 m (pc + 3) ls (.ref (B + (k + 1)) :: rest))) : W p l e R s m args below meth c H locs cells slots Q (F0 m pc ls (.ref (B + k) :: rest)) :=
  va_get (ref := "FreePlace$State") (D := D) (ci := 9) (v := .ref (B + (k + 1))) (C := RX9) (T := TX9) (N := 9) E.1 E.2.1 E.2.2.2.2.1 fp_u9 E.2.2.2.1 E.2.2.2.2.2.1 hG.1 k (by rw [fp_w_get hc.1, (fp_o9 hc _)]) rfl 0 (by decide) (fp_tabs E hl) (fun _ h => h) rfl hdg kk
theorem fp_g9_1 (E : fp_EV p s m args meth c cc nL own rt D G) (hG : fp_H D G B s M H locs) (hc : fp_c k 9) (hl : Cond.fieldLink own idx "FreePlace$State" "sits" "[I" ∈ fp_T) (hdg : decode cc pc = .ok (.getfield idx, 3)) (kk : W p l e R s m args below meth c H locs cells slots Q (F0 m (pc + 3) ls (.ref (B + (k + 2)) :: rest))) : W p l e R s m args below meth c H locs cells slots Q (F0 m pc ls (.ref (B + k) :: rest)) :=
  va_get (ref := "FreePlace$State") (D := D) (ci := 9) (v := .ref (B + (k + 2))) (C := RX9) (T := TX9) (N := 9) E.1 E.2.1 E.2.2.2.2.1 fp_u9 E.2.2.2.1 E.2.2.2.2.2.1 hG.1 k (by rw [fp_w_get hc.1, (fp_o9 hc _)]) rfl 1 (by decide) (fp_tabs E hl) (fun _ h => h) rfl hdg kk
theorem fp_g9_2 (E : fp_EV p s m args meth c cc nL own rt D G) (hG : fp_H D G B s M H locs) (hc : fp_c k 9) (hl : Cond.fieldLink own idx "FreePlace$State" "wood" "I" ∈ fp_T) (hdg : decode cc pc = .ok (.getfield idx, 3)) (kk : W p l e R s m args below meth c H locs cells slots Q (F0 m (pc + 3) ls (.int (M k 2) :: rest))) : W p l e R s m args below meth c H locs cells slots Q (F0 m pc ls (.ref (B + k) :: rest)) :=
  va_get (ref := "FreePlace$State") (D := D) (ci := 9) (v := .int (M k 2)) (C := RX9) (T := TX9) (N := 9) E.1 E.2.1 E.2.2.2.2.1 fp_u9 E.2.2.2.1 E.2.2.2.2.2.1 hG.1 k (by rw [fp_w_get hc.1, (fp_o9 hc _)]) rfl 2 (by decide) (fp_tabs E hl) (fun _ h => h) rfl hdg kk
theorem fp_p9_2 (E : fp_EV p s m args meth c cc nL own rt D G) (hG : fp_H D G B s M H locs) (hc : fp_c k 9) (hl : Cond.fieldLink own idx "FreePlace$State" "wood" "I" ∈ fp_T) {x : Int32} (hdg : decode cc pc = .ok (.putfield idx, 3)) (kk : ∀ (H : Heap) (locs : List Loc), fp_H D G B s (fp_set M k 2 x) H locs → W p l e R s m args below meth c H locs cells slots Q (F0 m (pc + 3) ls rest)) : W p l e R s m args below meth c H locs cells slots Q (F0 m pc ls (.int x :: .ref (B + k) :: rest)) :=
  va_put (ref := "FreePlace$State") (D := D) (ci := 9) (v := .int x) (ty := .int) (C := RX9) (T := TX9) (N := 9) E.1 E.2.1 E.2.2.2.2.1 fp_u9 tyX9 tyX9_ok nmX9 E.2.2.2.1 E.2.2.2.2.2.1 hG.1 fp_w_D hG.2 k (by rw [fp_w_get hc.1, (fp_o9 hc _)]) rfl 2 (by decide) (fp_tabs E hl) (fun _ h => h) rfl (by decide +kernel) rfl rfl (Nat.le_of_ble_eq_true rfl) hdg (fun H1 locs1 hP _ hS => kk H1 locs1 ⟨by
    rw [fp_w_set (M' := fp_set M k 2 x) (by rw [(fp_o9 hc _)]; simp [fp_set_eq, upd, List.set]) (fun q hq => fp_set_ne hq)] at hP
    exact hP, hS⟩)
theorem fp_g9_3 (E : fp_EV p s m args meth c cc nL own rt D G) (hG : fp_H D G B s M H locs) (hc : fp_c k 9) (hl : Cond.fieldLink own idx "FreePlace$State" "shut" "I" ∈ fp_T) (hdg : decode cc pc = .ok (.getfield idx, 3)) (kk : W p l e R s m args below meth c H locs cells slots Q (F0 m (pc + 3) ls (.int (M k 3) :: rest))) : W p l e R s m args below meth c H locs cells slots Q (F0 m pc ls (.ref (B + k) :: rest)) :=
  va_get (ref := "FreePlace$State") (D := D) (ci := 9) (v := .int (M k 3)) (C := RX9) (T := TX9) (N := 9) E.1 E.2.1 E.2.2.2.2.1 fp_u9 E.2.2.2.1 E.2.2.2.2.2.1 hG.1 k (by rw [fp_w_get hc.1, (fp_o9 hc _)]) rfl 3 (by decide) (fp_tabs E hl) (fun _ h => h) rfl hdg kk
theorem fp_p9_3 (E : fp_EV p s m args meth c cc nL own rt D G) (hG : fp_H D G B s M H locs) (hc : fp_c k 9) (hl : Cond.fieldLink own idx "FreePlace$State" "shut" "I" ∈ fp_T) {x : Int32} (hdg : decode cc pc = .ok (.putfield idx, 3)) (kk : ∀ (H : Heap) (locs : List Loc), fp_H D G B s (fp_set M k 3 x) H locs → W p l e R s m args below meth c H locs cells slots Q (F0 m (pc + 3) ls rest)) : W p l e R s m args below meth c H locs cells slots Q (F0 m pc ls (.int x :: .ref (B + k) :: rest)) :=
  va_put (ref := "FreePlace$State") (D := D) (ci := 9) (v := .int x) (ty := .int) (C := RX9) (T := TX9) (N := 9) E.1 E.2.1 E.2.2.2.2.1 fp_u9 tyX9 tyX9_ok nmX9 E.2.2.2.1 E.2.2.2.2.2.1 hG.1 fp_w_D hG.2 k (by rw [fp_w_get hc.1, (fp_o9 hc _)]) rfl 3 (by decide) (fp_tabs E hl) (fun _ h => h) rfl (by decide +kernel) rfl rfl (Nat.le_of_ble_eq_true rfl) hdg (fun H1 locs1 hP _ hS => kk H1 locs1 ⟨by
    rw [fp_w_set (M' := fp_set M k 3 x) (by rw [(fp_o9 hc _)]; simp [fp_set_eq, upd, List.set]) (fun q hq => fp_set_ne hq)] at hP
    exact hP, hS⟩)
theorem fp_g9_4 (E : fp_EV p s m args meth c cc nL own rt D G) (hG : fp_H D G B s M H locs) (hc : fp_c k 9) (hl : Cond.fieldLink own idx "FreePlace$State" "standing" "I" ∈ fp_T) (hdg : decode cc pc = .ok (.getfield idx, 3)) (kk : W p l e R s m args below meth c H locs cells slots Q (F0 m (pc + 3) ls (.int (M k 4) :: rest))) : W p l e R s m args below meth c H locs cells slots Q (F0 m pc ls (.ref (B + k) :: rest)) :=
  va_get (ref := "FreePlace$State") (D := D) (ci := 9) (v := .int (M k 4)) (C := RX9) (T := TX9) (N := 9) E.1 E.2.1 E.2.2.2.2.1 fp_u9 E.2.2.2.1 E.2.2.2.2.2.1 hG.1 k (by rw [fp_w_get hc.1, (fp_o9 hc _)]) rfl 4 (by decide) (fp_tabs E hl) (fun _ h => h) rfl hdg kk
theorem fp_p9_4 (E : fp_EV p s m args meth c cc nL own rt D G) (hG : fp_H D G B s M H locs) (hc : fp_c k 9) (hl : Cond.fieldLink own idx "FreePlace$State" "standing" "I" ∈ fp_T) {x : Int32} (hdg : decode cc pc = .ok (.putfield idx, 3)) (kk : ∀ (H : Heap) (locs : List Loc), fp_H D G B s (fp_set M k 4 x) H locs → W p l e R s m args below meth c H locs cells slots Q (F0 m (pc + 3) ls rest)) : W p l e R s m args below meth c H locs cells slots Q (F0 m pc ls (.int x :: .ref (B + k) :: rest)) :=
  va_put (ref := "FreePlace$State") (D := D) (ci := 9) (v := .int x) (ty := .int) (C := RX9) (T := TX9) (N := 9) E.1 E.2.1 E.2.2.2.2.1 fp_u9 tyX9 tyX9_ok nmX9 E.2.2.2.1 E.2.2.2.2.2.1 hG.1 fp_w_D hG.2 k (by rw [fp_w_get hc.1, (fp_o9 hc _)]) rfl 4 (by decide) (fp_tabs E hl) (fun _ h => h) rfl (by decide +kernel) rfl rfl (Nat.le_of_ble_eq_true rfl) hdg (fun H1 locs1 hP _ hS => kk H1 locs1 ⟨by
    rw [fp_w_set (M' := fp_set M k 4 x) (by rw [(fp_o9 hc _)]; simp [fp_set_eq, upd, List.set]) (fun q hq => fp_set_ne hq)] at hP
    exact hP, hS⟩)
theorem fp_g9_5 (E : fp_EV p s m args meth c cc nL own rt D G) (hG : fp_H D G B s M H locs) (hc : fp_c k 9) (hl : Cond.fieldLink own idx "FreePlace$State" "moves" "I" ∈ fp_T) (hdg : decode cc pc = .ok (.getfield idx, 3)) (kk : W p l e R s m args below meth c H locs cells slots Q (F0 m (pc + 3) ls (.int (M k 5) :: rest))) : W p l e R s m args below meth c H locs cells slots Q (F0 m pc ls (.ref (B + k) :: rest)) :=
  va_get (ref := "FreePlace$State") (D := D) (ci := 9) (v := .int (M k 5)) (C := RX9) (T := TX9) (N := 9) E.1 E.2.1 E.2.2.2.2.1 fp_u9 E.2.2.2.1 E.2.2.2.2.2.1 hG.1 k (by rw [fp_w_get hc.1, (fp_o9 hc _)]) rfl 5 (by decide) (fp_tabs E hl) (fun _ h => h) rfl hdg kk
theorem fp_p9_5 (E : fp_EV p s m args meth c cc nL own rt D G) (hG : fp_H D G B s M H locs) (hc : fp_c k 9) (hl : Cond.fieldLink own idx "FreePlace$State" "moves" "I" ∈ fp_T) {x : Int32} (hdg : decode cc pc = .ok (.putfield idx, 3)) (kk : ∀ (H : Heap) (locs : List Loc), fp_H D G B s (fp_set M k 5 x) H locs → W p l e R s m args below meth c H locs cells slots Q (F0 m (pc + 3) ls rest)) : W p l e R s m args below meth c H locs cells slots Q (F0 m pc ls (.int x :: .ref (B + k) :: rest)) :=
  va_put (ref := "FreePlace$State") (D := D) (ci := 9) (v := .int x) (ty := .int) (C := RX9) (T := TX9) (N := 9) E.1 E.2.1 E.2.2.2.2.1 fp_u9 tyX9 tyX9_ok nmX9 E.2.2.2.1 E.2.2.2.2.2.1 hG.1 fp_w_D hG.2 k (by rw [fp_w_get hc.1, (fp_o9 hc _)]) rfl 5 (by decide) (fp_tabs E hl) (fun _ h => h) rfl (by decide +kernel) rfl rfl (Nat.le_of_ble_eq_true rfl) hdg (fun H1 locs1 hP _ hS => kk H1 locs1 ⟨by
    rw [fp_w_set (M' := fp_set M k 5 x) (by rw [(fp_o9 hc _)]; simp [fp_set_eq, upd, List.set]) (fun q hq => fp_set_ne hq)] at hP
    exact hP, hS⟩)
theorem fp_g9_6 (E : fp_EV p s m args meth c cc nL own rt D G) (hG : fp_H D G B s M H locs) (hc : fp_c k 9) (hl : Cond.fieldLink own idx "FreePlace$State" "crimes" "I" ∈ fp_T) (hdg : decode cc pc = .ok (.getfield idx, 3)) (kk : W p l e R s m args below meth c H locs cells slots Q (F0 m (pc + 3) ls (.int (M k 6) :: rest))) : W p l e R s m args below meth c H locs cells slots Q (F0 m pc ls (.ref (B + k) :: rest)) :=
  va_get (ref := "FreePlace$State") (D := D) (ci := 9) (v := .int (M k 6)) (C := RX9) (T := TX9) (N := 9) E.1 E.2.1 E.2.2.2.2.1 fp_u9 E.2.2.2.1 E.2.2.2.2.2.1 hG.1 k (by rw [fp_w_get hc.1, (fp_o9 hc _)]) rfl 6 (by decide) (fp_tabs E hl) (fun _ h => h) rfl hdg kk
theorem fp_p9_6 (E : fp_EV p s m args meth c cc nL own rt D G) (hG : fp_H D G B s M H locs) (hc : fp_c k 9) (hl : Cond.fieldLink own idx "FreePlace$State" "crimes" "I" ∈ fp_T) {x : Int32} (hdg : decode cc pc = .ok (.putfield idx, 3)) (kk : ∀ (H : Heap) (locs : List Loc), fp_H D G B s (fp_set M k 6 x) H locs → W p l e R s m args below meth c H locs cells slots Q (F0 m (pc + 3) ls rest)) : W p l e R s m args below meth c H locs cells slots Q (F0 m pc ls (.int x :: .ref (B + k) :: rest)) :=
  va_put (ref := "FreePlace$State") (D := D) (ci := 9) (v := .int x) (ty := .int) (C := RX9) (T := TX9) (N := 9) E.1 E.2.1 E.2.2.2.2.1 fp_u9 tyX9 tyX9_ok nmX9 E.2.2.2.1 E.2.2.2.2.2.1 hG.1 fp_w_D hG.2 k (by rw [fp_w_get hc.1, (fp_o9 hc _)]) rfl 6 (by decide) (fp_tabs E hl) (fun _ h => h) rfl (by decide +kernel) rfl rfl (Nat.le_of_ble_eq_true rfl) hdg (fun H1 locs1 hP _ hS => kk H1 locs1 ⟨by
    rw [fp_w_set (M' := fp_set M k 6 x) (by rw [(fp_o9 hc _)]; simp [fp_set_eq, upd, List.set]) (fun q hq => fp_set_ne hq)] at hP
    exact hP, hS⟩)
theorem fp_g9_7 (E : fp_EV p s m args meth c cc nL own rt D G) (hG : fp_H D G B s M H locs) (hc : fp_c k 9) (hl : Cond.fieldLink own idx "FreePlace$State" "fines" "I" ∈ fp_T) (hdg : decode cc pc = .ok (.getfield idx, 3)) (kk : W p l e R s m args below meth c H locs cells slots Q (F0 m (pc + 3) ls (.int (M k 7) :: rest))) : W p l e R s m args below meth c H locs cells slots Q (F0 m pc ls (.ref (B + k) :: rest)) :=
  va_get (ref := "FreePlace$State") (D := D) (ci := 9) (v := .int (M k 7)) (C := RX9) (T := TX9) (N := 9) E.1 E.2.1 E.2.2.2.2.1 fp_u9 E.2.2.2.1 E.2.2.2.2.2.1 hG.1 k (by rw [fp_w_get hc.1, (fp_o9 hc _)]) rfl 7 (by decide) (fp_tabs E hl) (fun _ h => h) rfl hdg kk
theorem fp_p9_7 (E : fp_EV p s m args meth c cc nL own rt D G) (hG : fp_H D G B s M H locs) (hc : fp_c k 9) (hl : Cond.fieldLink own idx "FreePlace$State" "fines" "I" ∈ fp_T) {x : Int32} (hdg : decode cc pc = .ok (.putfield idx, 3)) (kk : ∀ (H : Heap) (locs : List Loc), fp_H D G B s (fp_set M k 7 x) H locs → W p l e R s m args below meth c H locs cells slots Q (F0 m (pc + 3) ls rest)) : W p l e R s m args below meth c H locs cells slots Q (F0 m pc ls (.int x :: .ref (B + k) :: rest)) :=
  va_put (ref := "FreePlace$State") (D := D) (ci := 9) (v := .int x) (ty := .int) (C := RX9) (T := TX9) (N := 9) E.1 E.2.1 E.2.2.2.2.1 fp_u9 tyX9 tyX9_ok nmX9 E.2.2.2.1 E.2.2.2.2.2.1 hG.1 fp_w_D hG.2 k (by rw [fp_w_get hc.1, (fp_o9 hc _)]) rfl 7 (by decide) (fp_tabs E hl) (fun _ h => h) rfl (by decide +kernel) rfl rfl (Nat.le_of_ble_eq_true rfl) hdg (fun H1 locs1 hP _ hS => kk H1 locs1 ⟨by
    rw [fp_w_set (M' := fp_set M k 7 x) (by rw [(fp_o9 hc _)]; simp [fp_set_eq, upd, List.set]) (fun q hq => fp_set_ne hq)] at hP
    exact hP, hS⟩)
theorem fp_g9_8 (E : fp_EV p s m args meth c cc nL own rt D G) (hG : fp_H D G B s M H locs) (hc : fp_c k 9) (hl : Cond.fieldLink own idx "FreePlace$State" "guests" "I" ∈ fp_T) (hdg : decode cc pc = .ok (.getfield idx, 3)) (kk : W p l e R s m args below meth c H locs cells slots Q (F0 m (pc + 3) ls (.int (M k 8) :: rest))) : W p l e R s m args below meth c H locs cells slots Q (F0 m pc ls (.ref (B + k) :: rest)) :=
  va_get (ref := "FreePlace$State") (D := D) (ci := 9) (v := .int (M k 8)) (C := RX9) (T := TX9) (N := 9) E.1 E.2.1 E.2.2.2.2.1 fp_u9 E.2.2.2.1 E.2.2.2.2.2.1 hG.1 k (by rw [fp_w_get hc.1, (fp_o9 hc _)]) rfl 8 (by decide) (fp_tabs E hl) (fun _ h => h) rfl hdg kk
theorem fp_p9_8 (E : fp_EV p s m args meth c cc nL own rt D G) (hG : fp_H D G B s M H locs) (hc : fp_c k 9) (hl : Cond.fieldLink own idx "FreePlace$State" "guests" "I" ∈ fp_T) {x : Int32} (hdg : decode cc pc = .ok (.putfield idx, 3)) (kk : ∀ (H : Heap) (locs : List Loc), fp_H D G B s (fp_set M k 8 x) H locs → W p l e R s m args below meth c H locs cells slots Q (F0 m (pc + 3) ls rest)) : W p l e R s m args below meth c H locs cells slots Q (F0 m pc ls (.int x :: .ref (B + k) :: rest)) :=
  va_put (ref := "FreePlace$State") (D := D) (ci := 9) (v := .int x) (ty := .int) (C := RX9) (T := TX9) (N := 9) E.1 E.2.1 E.2.2.2.2.1 fp_u9 tyX9 tyX9_ok nmX9 E.2.2.2.1 E.2.2.2.2.2.1 hG.1 fp_w_D hG.2 k (by rw [fp_w_get hc.1, (fp_o9 hc _)]) rfl 8 (by decide) (fp_tabs E hl) (fun _ h => h) rfl (by decide +kernel) rfl rfl (Nat.le_of_ble_eq_true rfl) hdg (fun H1 locs1 hP _ hS => kk H1 locs1 ⟨by
    rw [fp_w_set (M' := fp_set M k 8 x) (by rw [(fp_o9 hc _)]; simp [fp_set_eq, upd, List.set]) (fun q hq => fp_set_ne hq)] at hP
    exact hP, hS⟩)
theorem fp_g10_0 (E : fp_EV p s m args meth c cc nL own rt D G) (hG : fp_H D G B s M H locs) (hl : Cond.fieldLink own idx "FreePlace$Trials" "chains" "LFreePlace$Chains;" ∈ fp_T) (hdg : decode cc pc = .ok (.getfield idx, 3)) (kk : W p l e R s m args below meth c H locs cells slots Q (F0 m (pc + 3) ls (.ref (B + 28) :: rest))) : W p l e R s m args below meth c H locs cells slots Q (F0 m pc ls (.ref (B + 27) :: rest)) :=
  va_get (ref := "FreePlace$Trials") (D := D) (ci := 10) (v := .ref (B + 28)) (C := RX10) (T := TX10) (N := 4) E.1 E.2.1 E.2.2.2.2.1 fp_u10 E.2.2.2.1 E.2.2.2.2.2.1 hG.1 27 (by rw [fp_w_get (by decide), (fp_o10 _)]) rfl 0 (by decide) (fp_tabs E hl) (fun _ h => h) rfl hdg kk
theorem fp_g10_1 (E : fp_EV p s m args meth c cc nL own rt D G) (hG : fp_H D G B s M H locs) (hl : Cond.fieldLink own idx "FreePlace$Trials" "acts" "LFreePlace$Acts;" ∈ fp_T) (hdg : decode cc pc = .ok (.getfield idx, 3)) (kk : W p l e R s m args below meth c H locs cells slots Q (F0 m (pc + 3) ls (.ref (B + 33) :: rest))) : W p l e R s m args below meth c H locs cells slots Q (F0 m pc ls (.ref (B + 27) :: rest)) :=
  va_get (ref := "FreePlace$Trials") (D := D) (ci := 10) (v := .ref (B + 33)) (C := RX10) (T := TX10) (N := 4) E.1 E.2.1 E.2.2.2.2.1 fp_u10 E.2.2.2.1 E.2.2.2.2.2.1 hG.1 27 (by rw [fp_w_get (by decide), (fp_o10 _)]) rfl 1 (by decide) (fp_tabs E hl) (fun _ h => h) rfl hdg kk
theorem fp_g10_2 (E : fp_EV p s m args meth c cc nL own rt D G) (hG : fp_H D G B s M H locs) (hl : Cond.fieldLink own idx "FreePlace$Trials" "tried" "LFreePlace$State;" ∈ fp_T) (hdg : decode cc pc = .ok (.getfield idx, 3)) (kk : W p l e R s m args below meth c H locs cells slots Q (F0 m (pc + 3) ls (.ref (B + 39) :: rest))) : W p l e R s m args below meth c H locs cells slots Q (F0 m pc ls (.ref (B + 27) :: rest)) :=
  va_get (ref := "FreePlace$Trials") (D := D) (ci := 10) (v := .ref (B + 39)) (C := RX10) (T := TX10) (N := 4) E.1 E.2.1 E.2.2.2.2.1 fp_u10 E.2.2.2.1 E.2.2.2.2.2.1 hG.1 27 (by rw [fp_w_get (by decide), (fp_o10 _)]) rfl 2 (by decide) (fp_tabs E hl) (fun _ h => h) rfl hdg kk
theorem fp_g10_3 (E : fp_EV p s m args meth c cc nL own rt D G) (hG : fp_H D G B s M H locs) (hl : Cond.fieldLink own idx "FreePlace$Trials" "near" "[I" ∈ fp_T) (hdg : decode cc pc = .ok (.getfield idx, 3)) (kk : W p l e R s m args below meth c H locs cells slots Q (F0 m (pc + 3) ls (.ref (B + 42) :: rest))) : W p l e R s m args below meth c H locs cells slots Q (F0 m pc ls (.ref (B + 27) :: rest)) :=
  va_get (ref := "FreePlace$Trials") (D := D) (ci := 10) (v := .ref (B + 42)) (C := RX10) (T := TX10) (N := 4) E.1 E.2.1 E.2.2.2.2.1 fp_u10 E.2.2.2.1 E.2.2.2.2.2.1 hG.1 27 (by rw [fp_w_get (by decide), (fp_o10 _)]) rfl 3 (by decide) (fp_tabs E hl) (fun _ h => h) rfl hdg kk
theorem fp_g11_0 (E : fp_EV p s m args meth c cc nL own rt D G) (hG : fp_H D G B s M H locs) (hl : Cond.fieldLink own idx "FreePlace" "reader" "LFreePlace$Reader;" ∈ fp_T) (hdg : decode cc pc = .ok (.getfield idx, 3)) (kk : W p l e R s m args below meth c H locs cells slots Q (F0 m (pc + 3) ls (.ref (B + 1) :: rest))) : W p l e R s m args below meth c H locs cells slots Q (F0 m pc ls (.ref (B + 0) :: rest)) :=
  va_get (ref := "FreePlace") (D := D) (ci := 11) (v := .ref (B + 1)) (C := RX11) (T := TX11) (N := 11) E.1 E.2.1 E.2.2.2.2.1 fp_u11 E.2.2.2.1 E.2.2.2.2.2.1 hG.1 0 (by rw [fp_w_get (by decide), (fp_o11 _)]) rfl 0 (by decide) (fp_tabs E hl) (fun _ h => h) rfl hdg kk
theorem fp_g11_1 (E : fp_EV p s m args meth c cc nL own rt D G) (hG : fp_H D G B s M H locs) (hl : Cond.fieldLink own idx "FreePlace" "realm" "LFreePlace$Realm;" ∈ fp_T) (hdg : decode cc pc = .ok (.getfield idx, 3)) (kk : W p l e R s m args below meth c H locs cells slots Q (F0 m (pc + 3) ls (.ref (B + 8) :: rest))) : W p l e R s m args below meth c H locs cells slots Q (F0 m pc ls (.ref (B + 0) :: rest)) :=
  va_get (ref := "FreePlace") (D := D) (ci := 11) (v := .ref (B + 8)) (C := RX11) (T := TX11) (N := 11) E.1 E.2.1 E.2.2.2.2.1 fp_u11 E.2.2.2.1 E.2.2.2.2.2.1 hG.1 0 (by rw [fp_w_get (by decide), (fp_o11 _)]) rfl 1 (by decide) (fp_tabs E hl) (fun _ h => h) rfl hdg kk
theorem fp_g11_2 (E : fp_EV p s m args meth c cc nL own rt D G) (hG : fp_H D G B s M H locs) (hl : Cond.fieldLink own idx "FreePlace" "now" "LFreePlace$State;" ∈ fp_T) (hdg : decode cc pc = .ok (.getfield idx, 3)) (kk : W p l e R s m args below meth c H locs cells slots Q (F0 m (pc + 3) ls (.ref (B + 13) :: rest))) : W p l e R s m args below meth c H locs cells slots Q (F0 m pc ls (.ref (B + 0) :: rest)) :=
  va_get (ref := "FreePlace") (D := D) (ci := 11) (v := .ref (B + 13)) (C := RX11) (T := TX11) (N := 11) E.1 E.2.1 E.2.2.2.2.1 fp_u11 E.2.2.2.1 E.2.2.2.2.2.1 hG.1 0 (by rw [fp_w_get (by decide), (fp_o11 _)]) rfl 2 (by decide) (fp_tabs E hl) (fun _ h => h) rfl hdg kk
theorem fp_g11_3 (E : fp_EV p s m args meth c cc nL own rt D G) (hG : fp_H D G B s M H locs) (hl : Cond.fieldLink own idx "FreePlace" "chains" "LFreePlace$Chains;" ∈ fp_T) (hdg : decode cc pc = .ok (.getfield idx, 3)) (kk : W p l e R s m args below meth c H locs cells slots Q (F0 m (pc + 3) ls (.ref (B + 16) :: rest))) : W p l e R s m args below meth c H locs cells slots Q (F0 m pc ls (.ref (B + 0) :: rest)) :=
  va_get (ref := "FreePlace") (D := D) (ci := 11) (v := .ref (B + 16)) (C := RX11) (T := TX11) (N := 11) E.1 E.2.1 E.2.2.2.2.1 fp_u11 E.2.2.2.1 E.2.2.2.2.2.1 hG.1 0 (by rw [fp_w_get (by decide), (fp_o11 _)]) rfl 3 (by decide) (fp_tabs E hl) (fun _ h => h) rfl hdg kk
theorem fp_g11_4 (E : fp_EV p s m args meth c cc nL own rt D G) (hG : fp_H D G B s M H locs) (hl : Cond.fieldLink own idx "FreePlace" "acts" "LFreePlace$Acts;" ∈ fp_T) (hdg : decode cc pc = .ok (.getfield idx, 3)) (kk : W p l e R s m args below meth c H locs cells slots Q (F0 m (pc + 3) ls (.ref (B + 21) :: rest))) : W p l e R s m args below meth c H locs cells slots Q (F0 m pc ls (.ref (B + 0) :: rest)) :=
  va_get (ref := "FreePlace") (D := D) (ci := 11) (v := .ref (B + 21)) (C := RX11) (T := TX11) (N := 11) E.1 E.2.1 E.2.2.2.2.1 fp_u11 E.2.2.2.1 E.2.2.2.2.2.1 hG.1 0 (by rw [fp_w_get (by decide), (fp_o11 _)]) rfl 4 (by decide) (fp_tabs E hl) (fun _ h => h) rfl hdg kk
theorem fp_g11_5 (E : fp_EV p s m args meth c cc nL own rt D G) (hG : fp_H D G B s M H locs) (hl : Cond.fieldLink own idx "FreePlace" "trials" "LFreePlace$Trials;" ∈ fp_T) (hdg : decode cc pc = .ok (.getfield idx, 3)) (kk : W p l e R s m args below meth c H locs cells slots Q (F0 m (pc + 3) ls (.ref (B + 27) :: rest))) : W p l e R s m args below meth c H locs cells slots Q (F0 m pc ls (.ref (B + 0) :: rest)) :=
  va_get (ref := "FreePlace") (D := D) (ci := 11) (v := .ref (B + 27)) (C := RX11) (T := TX11) (N := 11) E.1 E.2.1 E.2.2.2.2.1 fp_u11 E.2.2.2.1 E.2.2.2.2.2.1 hG.1 0 (by rw [fp_w_get (by decide), (fp_o11 _)]) rfl 5 (by decide) (fp_tabs E hl) (fun _ h => h) rfl hdg kk
theorem fp_g11_6 (E : fp_EV p s m args meth c cc nL own rt D G) (hG : fp_H D G B s M H locs) (hl : Cond.fieldLink own idx "FreePlace" "sights" "LFreePlace$Sights;" ∈ fp_T) (hdg : decode cc pc = .ok (.getfield idx, 3)) (kk : W p l e R s m args below meth c H locs cells slots Q (F0 m (pc + 3) ls (.ref (B + 43) :: rest))) : W p l e R s m args below meth c H locs cells slots Q (F0 m pc ls (.ref (B + 0) :: rest)) :=
  va_get (ref := "FreePlace") (D := D) (ci := 11) (v := .ref (B + 43)) (C := RX11) (T := TX11) (N := 11) E.1 E.2.1 E.2.2.2.2.1 fp_u11 E.2.2.2.1 E.2.2.2.2.2.1 hG.1 0 (by rw [fp_w_get (by decide), (fp_o11 _)]) rfl 6 (by decide) (fp_tabs E hl) (fun _ h => h) rfl hdg kk
theorem fp_g11_7 (E : fp_EV p s m args meth c cc nL own rt D G) (hG : fp_H D G B s M H locs) (hl : Cond.fieldLink own idx "FreePlace" "book" "LFreePlace$Book;" ∈ fp_T) (hdg : decode cc pc = .ok (.getfield idx, 3)) (kk : W p l e R s m args below meth c H locs cells slots Q (F0 m (pc + 3) ls (.ref (B + 44) :: rest))) : W p l e R s m args below meth c H locs cells slots Q (F0 m pc ls (.ref (B + 0) :: rest)) :=
  va_get (ref := "FreePlace") (D := D) (ci := 11) (v := .ref (B + 44)) (C := RX11) (T := TX11) (N := 11) E.1 E.2.1 E.2.2.2.2.1 fp_u11 E.2.2.2.1 E.2.2.2.2.2.1 hG.1 0 (by rw [fp_w_get (by decide), (fp_o11 _)]) rfl 7 (by decide) (fp_tabs E hl) (fun _ h => h) rfl hdg kk
theorem fp_g11_8 (E : fp_EV p s m args meth c cc nL own rt D G) (hG : fp_H D G B s M H locs) (hl : Cond.fieldLink own idx "FreePlace" "draws" "LFreePlace$Draws;" ∈ fp_T) (hdg : decode cc pc = .ok (.getfield idx, 3)) (kk : W p l e R s m args below meth c H locs cells slots Q (F0 m (pc + 3) ls (.ref (B + 47) :: rest))) : W p l e R s m args below meth c H locs cells slots Q (F0 m pc ls (.ref (B + 0) :: rest)) :=
  va_get (ref := "FreePlace") (D := D) (ci := 11) (v := .ref (B + 47)) (C := RX11) (T := TX11) (N := 11) E.1 E.2.1 E.2.2.2.2.1 fp_u11 E.2.2.2.1 E.2.2.2.2.2.1 hG.1 0 (by rw [fp_w_get (by decide), (fp_o11 _)]) rfl 8 (by decide) (fp_tabs E hl) (fun _ h => h) rfl hdg kk
theorem fp_g11_9 (E : fp_EV p s m args meth c cc nL own rt D G) (hG : fp_H D G B s M H locs) (hl : Cond.fieldLink own idx "FreePlace" "history" "LFreePlace$History;" ∈ fp_T) (hdg : decode cc pc = .ok (.getfield idx, 3)) (kk : W p l e R s m args below meth c H locs cells slots Q (F0 m (pc + 3) ls (.ref (B + 48) :: rest))) : W p l e R s m args below meth c H locs cells slots Q (F0 m pc ls (.ref (B + 0) :: rest)) :=
  va_get (ref := "FreePlace") (D := D) (ci := 11) (v := .ref (B + 48)) (C := RX11) (T := TX11) (N := 11) E.1 E.2.1 E.2.2.2.2.1 fp_u11 E.2.2.2.1 E.2.2.2.2.2.1 hG.1 0 (by rw [fp_w_get (by decide), (fp_o11 _)]) rfl 9 (by decide) (fp_tabs E hl) (fun _ h => h) rfl hdg kk
theorem fp_g11_10 (E : fp_EV p s m args meth c cc nL own rt D G) (hG : fp_H D G B s M H locs) (hl : Cond.fieldLink own idx "FreePlace" "images" "LFreePlace$Images;" ∈ fp_T) (hdg : decode cc pc = .ok (.getfield idx, 3)) (kk : W p l e R s m args below meth c H locs cells slots Q (F0 m (pc + 3) ls (.ref (B + 110) :: rest))) : W p l e R s m args below meth c H locs cells slots Q (F0 m pc ls (.ref (B + 0) :: rest)) :=
  va_get (ref := "FreePlace") (D := D) (ci := 11) (v := .ref (B + 110)) (C := RX11) (T := TX11) (N := 11) E.1 E.2.1 E.2.2.2.2.1 fp_u11 E.2.2.2.1 E.2.2.2.2.2.1 hG.1 0 (by rw [fp_w_get (by decide), (fp_o11 _)]) rfl 10 (by decide) (fp_tabs E hl) (fun _ h => h) rfl hdg kk
theorem fp_g12_0 (E : fp_EV p s m args meth c cc nL own rt D G) (hG : fp_H D G B s M H locs) (hl : Cond.fieldLink own idx "FreePlaceModel" "fine" "I" ∈ fp_T) (hdg : decode cc pc = .ok (.getfield idx, 3)) (kk : W p l e R s m args below meth c H locs cells slots Q (F0 m (pc + 3) ls (.int (M 120 0) :: rest))) : W p l e R s m args below meth c H locs cells slots Q (F0 m pc ls (.ref (B + 120) :: rest)) :=
  va_get (ref := "FreePlaceModel") (D := D) (ci := 12) (v := .int (M 120 0)) (C := RX12) (T := TX12) (N := 35) E.1 E.2.1 E.2.2.2.2.1 fp_u12 E.2.2.2.1 E.2.2.2.2.2.1 hG.1 120 (by rw [fp_w_get (by decide), (fp_o12 _)]) rfl 0 (by decide) (fp_tabs E hl) (fun _ h => h) rfl hdg kk
theorem fp_p12_0 (E : fp_EV p s m args meth c cc nL own rt D G) (hG : fp_H D G B s M H locs) (hl : Cond.fieldLink own idx "FreePlaceModel" "fine" "I" ∈ fp_T) {x : Int32} (hdg : decode cc pc = .ok (.putfield idx, 3)) (kk : ∀ (H : Heap) (locs : List Loc), fp_H D G B s (fp_set M 120 0 x) H locs → W p l e R s m args below meth c H locs cells slots Q (F0 m (pc + 3) ls rest)) : W p l e R s m args below meth c H locs cells slots Q (F0 m pc ls (.int x :: .ref (B + 120) :: rest)) :=
  va_put (ref := "FreePlaceModel") (D := D) (ci := 12) (v := .int x) (ty := .int) (C := RX12) (T := TX12) (N := 35) E.1 E.2.1 E.2.2.2.2.1 fp_u12 tyX12 tyX12_ok nmX12 E.2.2.2.1 E.2.2.2.2.2.1 hG.1 fp_w_D hG.2 120 (by rw [fp_w_get (by decide), (fp_o12 _)]) rfl 0 (by decide) (fp_tabs E hl) (fun _ h => h) rfl (by decide +kernel) rfl rfl (Nat.le_of_ble_eq_true rfl) hdg (fun H1 locs1 hP _ hS => kk H1 locs1 ⟨by
    rw [fp_w_set (M' := fp_set M 120 0 x) (by rw [(fp_o12 _)]; simp [fp_set_eq, upd, List.set]) (fun q hq => fp_set_ne hq)] at hP
    exact hP, hS⟩)
theorem fp_g12_1 (E : fp_EV p s m args meth c cc nL own rt D G) (hG : fp_H D G B s M H locs) (hl : Cond.fieldLink own idx "FreePlaceModel" "tables" "I" ∈ fp_T) (hdg : decode cc pc = .ok (.getfield idx, 3)) (kk : W p l e R s m args below meth c H locs cells slots Q (F0 m (pc + 3) ls (.int (M 120 1) :: rest))) : W p l e R s m args below meth c H locs cells slots Q (F0 m pc ls (.ref (B + 120) :: rest)) :=
  va_get (ref := "FreePlaceModel") (D := D) (ci := 12) (v := .int (M 120 1)) (C := RX12) (T := TX12) (N := 35) E.1 E.2.1 E.2.2.2.2.1 fp_u12 E.2.2.2.1 E.2.2.2.2.2.1 hG.1 120 (by rw [fp_w_get (by decide), (fp_o12 _)]) rfl 1 (by decide) (fp_tabs E hl) (fun _ h => h) rfl hdg kk
theorem fp_p12_1 (E : fp_EV p s m args meth c cc nL own rt D G) (hG : fp_H D G B s M H locs) (hl : Cond.fieldLink own idx "FreePlaceModel" "tables" "I" ∈ fp_T) {x : Int32} (hdg : decode cc pc = .ok (.putfield idx, 3)) (kk : ∀ (H : Heap) (locs : List Loc), fp_H D G B s (fp_set M 120 1 x) H locs → W p l e R s m args below meth c H locs cells slots Q (F0 m (pc + 3) ls rest)) : W p l e R s m args below meth c H locs cells slots Q (F0 m pc ls (.int x :: .ref (B + 120) :: rest)) :=
  va_put (ref := "FreePlaceModel") (D := D) (ci := 12) (v := .int x) (ty := .int) (C := RX12) (T := TX12) (N := 35) E.1 E.2.1 E.2.2.2.2.1 fp_u12 tyX12 tyX12_ok nmX12 E.2.2.2.1 E.2.2.2.2.2.1 hG.1 fp_w_D hG.2 120 (by rw [fp_w_get (by decide), (fp_o12 _)]) rfl 1 (by decide) (fp_tabs E hl) (fun _ h => h) rfl (by decide +kernel) rfl rfl (Nat.le_of_ble_eq_true rfl) hdg (fun H1 locs1 hP _ hS => kk H1 locs1 ⟨by
    rw [fp_w_set (M' := fp_set M 120 1 x) (by rw [(fp_o12 _)]; simp [fp_set_eq, upd, List.set]) (fun q hq => fp_set_ne hq)] at hP
    exact hP, hS⟩)
theorem fp_g12_2 (E : fp_EV p s m args meth c cc nL own rt D G) (hG : fp_H D G B s M H locs) (hl : Cond.fieldLink own idx "FreePlaceModel" "ways" "I" ∈ fp_T) (hdg : decode cc pc = .ok (.getfield idx, 3)) (kk : W p l e R s m args below meth c H locs cells slots Q (F0 m (pc + 3) ls (.int (M 120 2) :: rest))) : W p l e R s m args below meth c H locs cells slots Q (F0 m pc ls (.ref (B + 120) :: rest)) :=
  va_get (ref := "FreePlaceModel") (D := D) (ci := 12) (v := .int (M 120 2)) (C := RX12) (T := TX12) (N := 35) E.1 E.2.1 E.2.2.2.2.1 fp_u12 E.2.2.2.1 E.2.2.2.2.2.1 hG.1 120 (by rw [fp_w_get (by decide), (fp_o12 _)]) rfl 2 (by decide) (fp_tabs E hl) (fun _ h => h) rfl hdg kk
theorem fp_p12_2 (E : fp_EV p s m args meth c cc nL own rt D G) (hG : fp_H D G B s M H locs) (hl : Cond.fieldLink own idx "FreePlaceModel" "ways" "I" ∈ fp_T) {x : Int32} (hdg : decode cc pc = .ok (.putfield idx, 3)) (kk : ∀ (H : Heap) (locs : List Loc), fp_H D G B s (fp_set M 120 2 x) H locs → W p l e R s m args below meth c H locs cells slots Q (F0 m (pc + 3) ls rest)) : W p l e R s m args below meth c H locs cells slots Q (F0 m pc ls (.int x :: .ref (B + 120) :: rest)) :=
  va_put (ref := "FreePlaceModel") (D := D) (ci := 12) (v := .int x) (ty := .int) (C := RX12) (T := TX12) (N := 35) E.1 E.2.1 E.2.2.2.2.1 fp_u12 tyX12 tyX12_ok nmX12 E.2.2.2.1 E.2.2.2.2.2.1 hG.1 fp_w_D hG.2 120 (by rw [fp_w_get (by decide), (fp_o12 _)]) rfl 2 (by decide) (fp_tabs E hl) (fun _ h => h) rfl (by decide +kernel) rfl rfl (Nat.le_of_ble_eq_true rfl) hdg (fun H1 locs1 hP _ hS => kk H1 locs1 ⟨by
    rw [fp_w_set (M' := fp_set M 120 2 x) (by rw [(fp_o12 _)]; simp [fp_set_eq, upd, List.set]) (fun q hq => fp_set_ne hq)] at hP
    exact hP, hS⟩)
theorem fp_g12_3 (E : fp_EV p s m args meth c cc nL own rt D G) (hG : fp_H D G B s M H locs) (hl : Cond.fieldLink own idx "FreePlaceModel" "wayOne" "[I" ∈ fp_T) (hdg : decode cc pc = .ok (.getfield idx, 3)) (kk : W p l e R s m args below meth c H locs cells slots Q (F0 m (pc + 3) ls (.ref (B + 121) :: rest))) : W p l e R s m args below meth c H locs cells slots Q (F0 m pc ls (.ref (B + 120) :: rest)) :=
  va_get (ref := "FreePlaceModel") (D := D) (ci := 12) (v := .ref (B + 121)) (C := RX12) (T := TX12) (N := 35) E.1 E.2.1 E.2.2.2.2.1 fp_u12 E.2.2.2.1 E.2.2.2.2.2.1 hG.1 120 (by rw [fp_w_get (by decide), (fp_o12 _)]) rfl 3 (by decide) (fp_tabs E hl) (fun _ h => h) rfl hdg kk
theorem fp_g12_4 (E : fp_EV p s m args meth c cc nL own rt D G) (hG : fp_H D G B s M H locs) (hl : Cond.fieldLink own idx "FreePlaceModel" "wayOther" "[I" ∈ fp_T) (hdg : decode cc pc = .ok (.getfield idx, 3)) (kk : W p l e R s m args below meth c H locs cells slots Q (F0 m (pc + 3) ls (.ref (B + 122) :: rest))) : W p l e R s m args below meth c H locs cells slots Q (F0 m pc ls (.ref (B + 120) :: rest)) :=
  va_get (ref := "FreePlaceModel") (D := D) (ci := 12) (v := .ref (B + 122)) (C := RX12) (T := TX12) (N := 35) E.1 E.2.1 E.2.2.2.2.1 fp_u12 E.2.2.2.1 E.2.2.2.2.2.1 hG.1 120 (by rw [fp_w_get (by decide), (fp_o12 _)]) rfl 4 (by decide) (fp_tabs E hl) (fun _ h => h) rfl hdg kk
theorem fp_g12_5 (E : fp_EV p s m args meth c cc nL own rt D G) (hG : fp_H D G B s M H locs) (hl : Cond.fieldLink own idx "FreePlaceModel" "now" "[I" ∈ fp_T) (hdg : decode cc pc = .ok (.getfield idx, 3)) (kk : W p l e R s m args below meth c H locs cells slots Q (F0 m (pc + 3) ls (.ref (B + 123) :: rest))) : W p l e R s m args below meth c H locs cells slots Q (F0 m pc ls (.ref (B + 120) :: rest)) :=
  va_get (ref := "FreePlaceModel") (D := D) (ci := 12) (v := .ref (B + 123)) (C := RX12) (T := TX12) (N := 35) E.1 E.2.1 E.2.2.2.2.1 fp_u12 E.2.2.2.1 E.2.2.2.2.2.1 hG.1 120 (by rw [fp_w_get (by decide), (fp_o12 _)]) rfl 5 (by decide) (fp_tabs E hl) (fun _ h => h) rfl hdg kk
theorem fp_g12_6 (E : fp_EV p s m args meth c cc nL own rt D G) (hG : fp_H D G B s M H locs) (hl : Cond.fieldLink own idx "FreePlaceModel" "seed" "I" ∈ fp_T) (hdg : decode cc pc = .ok (.getfield idx, 3)) (kk : W p l e R s m args below meth c H locs cells slots Q (F0 m (pc + 3) ls (.int (M 120 6) :: rest))) : W p l e R s m args below meth c H locs cells slots Q (F0 m pc ls (.ref (B + 120) :: rest)) :=
  va_get (ref := "FreePlaceModel") (D := D) (ci := 12) (v := .int (M 120 6)) (C := RX12) (T := TX12) (N := 35) E.1 E.2.1 E.2.2.2.2.1 fp_u12 E.2.2.2.1 E.2.2.2.2.2.1 hG.1 120 (by rw [fp_w_get (by decide), (fp_o12 _)]) rfl 6 (by decide) (fp_tabs E hl) (fun _ h => h) rfl hdg kk
theorem fp_p12_6 (E : fp_EV p s m args meth c cc nL own rt D G) (hG : fp_H D G B s M H locs) (hl : Cond.fieldLink own idx "FreePlaceModel" "seed" "I" ∈ fp_T) {x : Int32} (hdg : decode cc pc = .ok (.putfield idx, 3)) (kk : ∀ (H : Heap) (locs : List Loc), fp_H D G B s (fp_set M 120 6 x) H locs → W p l e R s m args below meth c H locs cells slots Q (F0 m (pc + 3) ls rest)) : W p l e R s m args below meth c H locs cells slots Q (F0 m pc ls (.int x :: .ref (B + 120) :: rest)) :=
  va_put (ref := "FreePlaceModel") (D := D) (ci := 12) (v := .int x) (ty := .int) (C := RX12) (T := TX12) (N := 35) E.1 E.2.1 E.2.2.2.2.1 fp_u12 tyX12 tyX12_ok nmX12 E.2.2.2.1 E.2.2.2.2.2.1 hG.1 fp_w_D hG.2 120 (by rw [fp_w_get (by decide), (fp_o12 _)]) rfl 6 (by decide) (fp_tabs E hl) (fun _ h => h) rfl (by decide +kernel) rfl rfl (Nat.le_of_ble_eq_true rfl) hdg (fun H1 locs1 hP _ hS => kk H1 locs1 ⟨by
    rw [fp_w_set (M' := fp_set M 120 6 x) (by rw [(fp_o12 _)]; simp [fp_set_eq, upd, List.set]) (fun q hq => fp_set_ne hq)] at hP
    exact hP, hS⟩)
theorem fp_g12_7 (E : fp_EV p s m args meth c cc nL own rt D G) (hG : fp_H D G B s M H locs) (hl : Cond.fieldLink own idx "FreePlaceModel" "isRealm" "Z" ∈ fp_T) (hdg : decode cc pc = .ok (.getfield idx, 3)) (kk : W p l e R s m args below meth c H locs cells slots Q (F0 m (pc + 3) ls (.int (M 120 7) :: rest))) : W p l e R s m args below meth c H locs cells slots Q (F0 m pc ls (.ref (B + 120) :: rest)) :=
  va_get (ref := "FreePlaceModel") (D := D) (ci := 12) (v := .int (M 120 7)) (C := RX12) (T := TX12) (N := 35) E.1 E.2.1 E.2.2.2.2.1 fp_u12 E.2.2.2.1 E.2.2.2.2.2.1 hG.1 120 (by rw [fp_w_get (by decide), (fp_o12 _)]) rfl 7 (by decide) (fp_tabs E hl) (fun _ h => h) rfl hdg kk
theorem fp_p12_7 (E : fp_EV p s m args meth c cc nL own rt D G) (hG : fp_H D G B s M H locs) (hl : Cond.fieldLink own idx "FreePlaceModel" "isRealm" "Z" ∈ fp_T) {x : Int32} (hz : fp_zb x = true) (hdg : decode cc pc = .ok (.putfield idx, 3)) (kk : ∀ (H : Heap) (locs : List Loc), fp_H D G B s (fp_set M 120 7 x) H locs → W p l e R s m args below meth c H locs cells slots Q (F0 m (pc + 3) ls rest)) : W p l e R s m args below meth c H locs cells slots Q (F0 m pc ls (.int x :: .ref (B + 120) :: rest)) :=
  va_put (ref := "FreePlaceModel") (D := D) (ci := 12) (v := .int x) (ty := .boolean) (C := RX12) (T := TX12) (N := 35) E.1 E.2.1 E.2.2.2.2.1 fp_u12 tyX12 tyX12_ok nmX12 E.2.2.2.1 E.2.2.2.2.2.1 hG.1 fp_w_D hG.2 120 (by rw [fp_w_get (by decide), (fp_o12 _)]) rfl 7 (by decide) (fp_tabs E hl) (fun _ h => h) rfl (by decide +kernel) (fp_zb_n hz) (fp_zb_f hz) (Nat.le_of_ble_eq_true rfl) hdg (fun H1 locs1 hP _ hS => kk H1 locs1 ⟨by
    rw [fp_w_set (M' := fp_set M 120 7 x) (by rw [(fp_o12 _)]; simp [fp_set_eq, upd, List.set]) (fun q hq => fp_set_ne hq)] at hP
    exact hP, hS⟩)
theorem fp_g12_8 (E : fp_EV p s m args meth c cc nL own rt D G) (hG : fp_H D G B s M H locs) (hl : Cond.fieldLink own idx "FreePlaceModel" "text" "[I" ∈ fp_T) (hdg : decode cc pc = .ok (.getfield idx, 3)) (kk : W p l e R s m args below meth c H locs cells slots Q (F0 m (pc + 3) ls (.ref (B + 124) :: rest))) : W p l e R s m args below meth c H locs cells slots Q (F0 m pc ls (.ref (B + 120) :: rest)) :=
  va_get (ref := "FreePlaceModel") (D := D) (ci := 12) (v := .ref (B + 124)) (C := RX12) (T := TX12) (N := 35) E.1 E.2.1 E.2.2.2.2.1 fp_u12 E.2.2.2.1 E.2.2.2.2.2.1 hG.1 120 (by rw [fp_w_get (by decide), (fp_o12 _)]) rfl 8 (by decide) (fp_tabs E hl) (fun _ h => h) rfl hdg kk
theorem fp_g12_9 (E : fp_EV p s m args meth c cc nL own rt D G) (hG : fp_H D G B s M H locs) (hl : Cond.fieldLink own idx "FreePlaceModel" "texted" "I" ∈ fp_T) (hdg : decode cc pc = .ok (.getfield idx, 3)) (kk : W p l e R s m args below meth c H locs cells slots Q (F0 m (pc + 3) ls (.int (M 120 9) :: rest))) : W p l e R s m args below meth c H locs cells slots Q (F0 m pc ls (.ref (B + 120) :: rest)) :=
  va_get (ref := "FreePlaceModel") (D := D) (ci := 12) (v := .int (M 120 9)) (C := RX12) (T := TX12) (N := 35) E.1 E.2.1 E.2.2.2.2.1 fp_u12 E.2.2.2.1 E.2.2.2.2.2.1 hG.1 120 (by rw [fp_w_get (by decide), (fp_o12 _)]) rfl 9 (by decide) (fp_tabs E hl) (fun _ h => h) rfl hdg kk
theorem fp_p12_9 (E : fp_EV p s m args meth c cc nL own rt D G) (hG : fp_H D G B s M H locs) (hl : Cond.fieldLink own idx "FreePlaceModel" "texted" "I" ∈ fp_T) {x : Int32} (hdg : decode cc pc = .ok (.putfield idx, 3)) (kk : ∀ (H : Heap) (locs : List Loc), fp_H D G B s (fp_set M 120 9 x) H locs → W p l e R s m args below meth c H locs cells slots Q (F0 m (pc + 3) ls rest)) : W p l e R s m args below meth c H locs cells slots Q (F0 m pc ls (.int x :: .ref (B + 120) :: rest)) :=
  va_put (ref := "FreePlaceModel") (D := D) (ci := 12) (v := .int x) (ty := .int) (C := RX12) (T := TX12) (N := 35) E.1 E.2.1 E.2.2.2.2.1 fp_u12 tyX12 tyX12_ok nmX12 E.2.2.2.1 E.2.2.2.2.2.1 hG.1 fp_w_D hG.2 120 (by rw [fp_w_get (by decide), (fp_o12 _)]) rfl 9 (by decide) (fp_tabs E hl) (fun _ h => h) rfl (by decide +kernel) rfl rfl (Nat.le_of_ble_eq_true rfl) hdg (fun H1 locs1 hP _ hS => kk H1 locs1 ⟨by
    rw [fp_w_set (M' := fp_set M 120 9 x) (by rw [(fp_o12 _)]; simp [fp_set_eq, upd, List.set]) (fun q hq => fp_set_ne hq)] at hP
    exact hP, hS⟩)
theorem fp_g12_10 (E : fp_EV p s m args meth c cc nL own rt D G) (hG : fp_H D G B s M H locs) (hl : Cond.fieldLink own idx "FreePlaceModel" "faultPlace" "I" ∈ fp_T) (hdg : decode cc pc = .ok (.getfield idx, 3)) (kk : W p l e R s m args below meth c H locs cells slots Q (F0 m (pc + 3) ls (.int (M 120 10) :: rest))) : W p l e R s m args below meth c H locs cells slots Q (F0 m pc ls (.ref (B + 120) :: rest)) :=
  va_get (ref := "FreePlaceModel") (D := D) (ci := 12) (v := .int (M 120 10)) (C := RX12) (T := TX12) (N := 35) E.1 E.2.1 E.2.2.2.2.1 fp_u12 E.2.2.2.1 E.2.2.2.2.2.1 hG.1 120 (by rw [fp_w_get (by decide), (fp_o12 _)]) rfl 10 (by decide) (fp_tabs E hl) (fun _ h => h) rfl hdg kk
theorem fp_p12_10 (E : fp_EV p s m args meth c cc nL own rt D G) (hG : fp_H D G B s M H locs) (hl : Cond.fieldLink own idx "FreePlaceModel" "faultPlace" "I" ∈ fp_T) {x : Int32} (hdg : decode cc pc = .ok (.putfield idx, 3)) (kk : ∀ (H : Heap) (locs : List Loc), fp_H D G B s (fp_set M 120 10 x) H locs → W p l e R s m args below meth c H locs cells slots Q (F0 m (pc + 3) ls rest)) : W p l e R s m args below meth c H locs cells slots Q (F0 m pc ls (.int x :: .ref (B + 120) :: rest)) :=
  va_put (ref := "FreePlaceModel") (D := D) (ci := 12) (v := .int x) (ty := .int) (C := RX12) (T := TX12) (N := 35) E.1 E.2.1 E.2.2.2.2.1 fp_u12 tyX12 tyX12_ok nmX12 E.2.2.2.1 E.2.2.2.2.2.1 hG.1 fp_w_D hG.2 120 (by rw [fp_w_get (by decide), (fp_o12 _)]) rfl 10 (by decide) (fp_tabs E hl) (fun _ h => h) rfl (by decide +kernel) rfl rfl (Nat.le_of_ble_eq_true rfl) hdg (fun H1 locs1 hP _ hS => kk H1 locs1 ⟨by
    rw [fp_w_set (M' := fp_set M 120 10 x) (by rw [(fp_o12 _)]; simp [fp_set_eq, upd, List.set]) (fun q hq => fp_set_ne hq)] at hP
    exact hP, hS⟩)
theorem fp_g12_11 (E : fp_EV p s m args meth c cc nL own rt D G) (hG : fp_H D G B s M H locs) (hl : Cond.fieldLink own idx "FreePlaceModel" "at0" "I" ∈ fp_T) (hdg : decode cc pc = .ok (.getfield idx, 3)) (kk : W p l e R s m args below meth c H locs cells slots Q (F0 m (pc + 3) ls (.int (M 120 11) :: rest))) : W p l e R s m args below meth c H locs cells slots Q (F0 m pc ls (.ref (B + 120) :: rest)) :=
  va_get (ref := "FreePlaceModel") (D := D) (ci := 12) (v := .int (M 120 11)) (C := RX12) (T := TX12) (N := 35) E.1 E.2.1 E.2.2.2.2.1 fp_u12 E.2.2.2.1 E.2.2.2.2.2.1 hG.1 120 (by rw [fp_w_get (by decide), (fp_o12 _)]) rfl 11 (by decide) (fp_tabs E hl) (fun _ h => h) rfl hdg kk
theorem fp_p12_11 (E : fp_EV p s m args meth c cc nL own rt D G) (hG : fp_H D G B s M H locs) (hl : Cond.fieldLink own idx "FreePlaceModel" "at0" "I" ∈ fp_T) {x : Int32} (hdg : decode cc pc = .ok (.putfield idx, 3)) (kk : ∀ (H : Heap) (locs : List Loc), fp_H D G B s (fp_set M 120 11 x) H locs → W p l e R s m args below meth c H locs cells slots Q (F0 m (pc + 3) ls rest)) : W p l e R s m args below meth c H locs cells slots Q (F0 m pc ls (.int x :: .ref (B + 120) :: rest)) :=
  va_put (ref := "FreePlaceModel") (D := D) (ci := 12) (v := .int x) (ty := .int) (C := RX12) (T := TX12) (N := 35) E.1 E.2.1 E.2.2.2.2.1 fp_u12 tyX12 tyX12_ok nmX12 E.2.2.2.1 E.2.2.2.2.2.1 hG.1 fp_w_D hG.2 120 (by rw [fp_w_get (by decide), (fp_o12 _)]) rfl 11 (by decide) (fp_tabs E hl) (fun _ h => h) rfl (by decide +kernel) rfl rfl (Nat.le_of_ble_eq_true rfl) hdg (fun H1 locs1 hP _ hS => kk H1 locs1 ⟨by
    rw [fp_w_set (M' := fp_set M 120 11 x) (by rw [(fp_o12 _)]; simp [fp_set_eq, upd, List.set]) (fun q hq => fp_set_ne hq)] at hP
    exact hP, hS⟩)
theorem fp_g12_12 (E : fp_EV p s m args meth c cc nL own rt D G) (hG : fp_H D G B s M H locs) (hl : Cond.fieldLink own idx "FreePlaceModel" "number" "I" ∈ fp_T) (hdg : decode cc pc = .ok (.getfield idx, 3)) (kk : W p l e R s m args below meth c H locs cells slots Q (F0 m (pc + 3) ls (.int (M 120 12) :: rest))) : W p l e R s m args below meth c H locs cells slots Q (F0 m pc ls (.ref (B + 120) :: rest)) :=
  va_get (ref := "FreePlaceModel") (D := D) (ci := 12) (v := .int (M 120 12)) (C := RX12) (T := TX12) (N := 35) E.1 E.2.1 E.2.2.2.2.1 fp_u12 E.2.2.2.1 E.2.2.2.2.2.1 hG.1 120 (by rw [fp_w_get (by decide), (fp_o12 _)]) rfl 12 (by decide) (fp_tabs E hl) (fun _ h => h) rfl hdg kk
theorem fp_p12_12 (E : fp_EV p s m args meth c cc nL own rt D G) (hG : fp_H D G B s M H locs) (hl : Cond.fieldLink own idx "FreePlaceModel" "number" "I" ∈ fp_T) {x : Int32} (hdg : decode cc pc = .ok (.putfield idx, 3)) (kk : ∀ (H : Heap) (locs : List Loc), fp_H D G B s (fp_set M 120 12 x) H locs → W p l e R s m args below meth c H locs cells slots Q (F0 m (pc + 3) ls rest)) : W p l e R s m args below meth c H locs cells slots Q (F0 m pc ls (.int x :: .ref (B + 120) :: rest)) :=
  va_put (ref := "FreePlaceModel") (D := D) (ci := 12) (v := .int x) (ty := .int) (C := RX12) (T := TX12) (N := 35) E.1 E.2.1 E.2.2.2.2.1 fp_u12 tyX12 tyX12_ok nmX12 E.2.2.2.1 E.2.2.2.2.2.1 hG.1 fp_w_D hG.2 120 (by rw [fp_w_get (by decide), (fp_o12 _)]) rfl 12 (by decide) (fp_tabs E hl) (fun _ h => h) rfl (by decide +kernel) rfl rfl (Nat.le_of_ble_eq_true rfl) hdg (fun H1 locs1 hP _ hS => kk H1 locs1 ⟨by
    rw [fp_w_set (M' := fp_set M 120 12 x) (by rw [(fp_o12 _)]; simp [fp_set_eq, upd, List.set]) (fun q hq => fp_set_ne hq)] at hP
    exact hP, hS⟩)
theorem fp_g12_13 (E : fp_EV p s m args meth c cc nL own rt D G) (hG : fp_H D G B s M H locs) (hl : Cond.fieldLink own idx "FreePlaceModel" "numberAt" "I" ∈ fp_T) (hdg : decode cc pc = .ok (.getfield idx, 3)) (kk : W p l e R s m args below meth c H locs cells slots Q (F0 m (pc + 3) ls (.int (M 120 13) :: rest))) : W p l e R s m args below meth c H locs cells slots Q (F0 m pc ls (.ref (B + 120) :: rest)) :=
  va_get (ref := "FreePlaceModel") (D := D) (ci := 12) (v := .int (M 120 13)) (C := RX12) (T := TX12) (N := 35) E.1 E.2.1 E.2.2.2.2.1 fp_u12 E.2.2.2.1 E.2.2.2.2.2.1 hG.1 120 (by rw [fp_w_get (by decide), (fp_o12 _)]) rfl 13 (by decide) (fp_tabs E hl) (fun _ h => h) rfl hdg kk
theorem fp_p12_13 (E : fp_EV p s m args meth c cc nL own rt D G) (hG : fp_H D G B s M H locs) (hl : Cond.fieldLink own idx "FreePlaceModel" "numberAt" "I" ∈ fp_T) {x : Int32} (hdg : decode cc pc = .ok (.putfield idx, 3)) (kk : ∀ (H : Heap) (locs : List Loc), fp_H D G B s (fp_set M 120 13 x) H locs → W p l e R s m args below meth c H locs cells slots Q (F0 m (pc + 3) ls rest)) : W p l e R s m args below meth c H locs cells slots Q (F0 m pc ls (.int x :: .ref (B + 120) :: rest)) :=
  va_put (ref := "FreePlaceModel") (D := D) (ci := 12) (v := .int x) (ty := .int) (C := RX12) (T := TX12) (N := 35) E.1 E.2.1 E.2.2.2.2.1 fp_u12 tyX12 tyX12_ok nmX12 E.2.2.2.1 E.2.2.2.2.2.1 hG.1 fp_w_D hG.2 120 (by rw [fp_w_get (by decide), (fp_o12 _)]) rfl 13 (by decide) (fp_tabs E hl) (fun _ h => h) rfl (by decide +kernel) rfl rfl (Nat.le_of_ble_eq_true rfl) hdg (fun H1 locs1 hP _ hS => kk H1 locs1 ⟨by
    rw [fp_w_set (M' := fp_set M 120 13 x) (by rw [(fp_o12 _)]; simp [fp_set_eq, upd, List.set]) (fun q hq => fp_set_ne hq)] at hP
    exact hP, hS⟩)
theorem fp_g12_14 (E : fp_EV p s m args meth c cc nL own rt D G) (hG : fp_H D G B s M H locs) (hl : Cond.fieldLink own idx "FreePlaceModel" "readRealm" "Z" ∈ fp_T) (hdg : decode cc pc = .ok (.getfield idx, 3)) (kk : W p l e R s m args below meth c H locs cells slots Q (F0 m (pc + 3) ls (.int (M 120 14) :: rest))) : W p l e R s m args below meth c H locs cells slots Q (F0 m pc ls (.ref (B + 120) :: rest)) :=
  va_get (ref := "FreePlaceModel") (D := D) (ci := 12) (v := .int (M 120 14)) (C := RX12) (T := TX12) (N := 35) E.1 E.2.1 E.2.2.2.2.1 fp_u12 E.2.2.2.1 E.2.2.2.2.2.1 hG.1 120 (by rw [fp_w_get (by decide), (fp_o12 _)]) rfl 14 (by decide) (fp_tabs E hl) (fun _ h => h) rfl hdg kk
theorem fp_p12_14 (E : fp_EV p s m args meth c cc nL own rt D G) (hG : fp_H D G B s M H locs) (hl : Cond.fieldLink own idx "FreePlaceModel" "readRealm" "Z" ∈ fp_T) {x : Int32} (hz : fp_zb x = true) (hdg : decode cc pc = .ok (.putfield idx, 3)) (kk : ∀ (H : Heap) (locs : List Loc), fp_H D G B s (fp_set M 120 14 x) H locs → W p l e R s m args below meth c H locs cells slots Q (F0 m (pc + 3) ls rest)) : W p l e R s m args below meth c H locs cells slots Q (F0 m pc ls (.int x :: .ref (B + 120) :: rest)) :=
  va_put (ref := "FreePlaceModel") (D := D) (ci := 12) (v := .int x) (ty := .boolean) (C := RX12) (T := TX12) (N := 35) E.1 E.2.1 E.2.2.2.2.1 fp_u12 tyX12 tyX12_ok nmX12 E.2.2.2.1 E.2.2.2.2.2.1 hG.1 fp_w_D hG.2 120 (by rw [fp_w_get (by decide), (fp_o12 _)]) rfl 14 (by decide) (fp_tabs E hl) (fun _ h => h) rfl (by decide +kernel) (fp_zb_n hz) (fp_zb_f hz) (Nat.le_of_ble_eq_true rfl) hdg (fun H1 locs1 hP _ hS => kk H1 locs1 ⟨by
    rw [fp_w_set (M' := fp_set M 120 14 x) (by rw [(fp_o12 _)]; simp [fp_set_eq, upd, List.set]) (fun q hq => fp_set_ne hq)] at hP
    exact hP, hS⟩)
theorem fp_g12_15 (E : fp_EV p s m args meth c cc nL own rt D G) (hG : fp_H D G B s M H locs) (hl : Cond.fieldLink own idx "FreePlaceModel" "readLaw" "[I" ∈ fp_T) (hdg : decode cc pc = .ok (.getfield idx, 3)) (kk : W p l e R s m args below meth c H locs cells slots Q (F0 m (pc + 3) ls (.ref (B + 125) :: rest))) : W p l e R s m args below meth c H locs cells slots Q (F0 m pc ls (.ref (B + 120) :: rest)) :=
  va_get (ref := "FreePlaceModel") (D := D) (ci := 12) (v := .ref (B + 125)) (C := RX12) (T := TX12) (N := 35) E.1 E.2.1 E.2.2.2.2.1 fp_u12 E.2.2.2.1 E.2.2.2.2.2.1 hG.1 120 (by rw [fp_w_get (by decide), (fp_o12 _)]) rfl 15 (by decide) (fp_tabs E hl) (fun _ h => h) rfl hdg kk
theorem fp_g12_16 (E : fp_EV p s m args meth c cc nL own rt D G) (hG : fp_H D G B s M H locs) (hl : Cond.fieldLink own idx "FreePlaceModel" "readTables" "I" ∈ fp_T) (hdg : decode cc pc = .ok (.getfield idx, 3)) (kk : W p l e R s m args below meth c H locs cells slots Q (F0 m (pc + 3) ls (.int (M 120 16) :: rest))) : W p l e R s m args below meth c H locs cells slots Q (F0 m pc ls (.ref (B + 120) :: rest)) :=
  va_get (ref := "FreePlaceModel") (D := D) (ci := 12) (v := .int (M 120 16)) (C := RX12) (T := TX12) (N := 35) E.1 E.2.1 E.2.2.2.2.1 fp_u12 E.2.2.2.1 E.2.2.2.2.2.1 hG.1 120 (by rw [fp_w_get (by decide), (fp_o12 _)]) rfl 16 (by decide) (fp_tabs E hl) (fun _ h => h) rfl hdg kk
theorem fp_p12_16 (E : fp_EV p s m args meth c cc nL own rt D G) (hG : fp_H D G B s M H locs) (hl : Cond.fieldLink own idx "FreePlaceModel" "readTables" "I" ∈ fp_T) {x : Int32} (hdg : decode cc pc = .ok (.putfield idx, 3)) (kk : ∀ (H : Heap) (locs : List Loc), fp_H D G B s (fp_set M 120 16 x) H locs → W p l e R s m args below meth c H locs cells slots Q (F0 m (pc + 3) ls rest)) : W p l e R s m args below meth c H locs cells slots Q (F0 m pc ls (.int x :: .ref (B + 120) :: rest)) :=
  va_put (ref := "FreePlaceModel") (D := D) (ci := 12) (v := .int x) (ty := .int) (C := RX12) (T := TX12) (N := 35) E.1 E.2.1 E.2.2.2.2.1 fp_u12 tyX12 tyX12_ok nmX12 E.2.2.2.1 E.2.2.2.2.2.1 hG.1 fp_w_D hG.2 120 (by rw [fp_w_get (by decide), (fp_o12 _)]) rfl 16 (by decide) (fp_tabs E hl) (fun _ h => h) rfl (by decide +kernel) rfl rfl (Nat.le_of_ble_eq_true rfl) hdg (fun H1 locs1 hP _ hS => kk H1 locs1 ⟨by
    rw [fp_w_set (M' := fp_set M 120 16 x) (by rw [(fp_o12 _)]; simp [fp_set_eq, upd, List.set]) (fun q hq => fp_set_ne hq)] at hP
    exact hP, hS⟩)
theorem fp_g12_17 (E : fp_EV p s m args meth c cc nL own rt D G) (hG : fp_H D G B s M H locs) (hl : Cond.fieldLink own idx "FreePlaceModel" "readSeats" "[I" ∈ fp_T) (hdg : decode cc pc = .ok (.getfield idx, 3)) (kk : W p l e R s m args below meth c H locs cells slots Q (F0 m (pc + 3) ls (.ref (B + 126) :: rest))) : W p l e R s m args below meth c H locs cells slots Q (F0 m pc ls (.ref (B + 120) :: rest)) :=
  va_get (ref := "FreePlaceModel") (D := D) (ci := 12) (v := .ref (B + 126)) (C := RX12) (T := TX12) (N := 35) E.1 E.2.1 E.2.2.2.2.1 fp_u12 E.2.2.2.1 E.2.2.2.2.2.1 hG.1 120 (by rw [fp_w_get (by decide), (fp_o12 _)]) rfl 17 (by decide) (fp_tabs E hl) (fun _ h => h) rfl hdg kk
theorem fp_g12_18 (E : fp_EV p s m args meth c cc nL own rt D G) (hG : fp_H D G B s M H locs) (hl : Cond.fieldLink own idx "FreePlaceModel" "readSit" "[I" ∈ fp_T) (hdg : decode cc pc = .ok (.getfield idx, 3)) (kk : W p l e R s m args below meth c H locs cells slots Q (F0 m (pc + 3) ls (.ref (B + 127) :: rest))) : W p l e R s m args below meth c H locs cells slots Q (F0 m pc ls (.ref (B + 120) :: rest)) :=
  va_get (ref := "FreePlaceModel") (D := D) (ci := 12) (v := .ref (B + 127)) (C := RX12) (T := TX12) (N := 35) E.1 E.2.1 E.2.2.2.2.1 fp_u12 E.2.2.2.1 E.2.2.2.2.2.1 hG.1 120 (by rw [fp_w_get (by decide), (fp_o12 _)]) rfl 18 (by decide) (fp_tabs E hl) (fun _ h => h) rfl hdg kk
theorem fp_g12_19 (E : fp_EV p s m args meth c cc nL own rt D G) (hG : fp_H D G B s M H locs) (hl : Cond.fieldLink own idx "FreePlaceModel" "readWays" "I" ∈ fp_T) (hdg : decode cc pc = .ok (.getfield idx, 3)) (kk : W p l e R s m args below meth c H locs cells slots Q (F0 m (pc + 3) ls (.int (M 120 19) :: rest))) : W p l e R s m args below meth c H locs cells slots Q (F0 m pc ls (.ref (B + 120) :: rest)) :=
  va_get (ref := "FreePlaceModel") (D := D) (ci := 12) (v := .int (M 120 19)) (C := RX12) (T := TX12) (N := 35) E.1 E.2.1 E.2.2.2.2.1 fp_u12 E.2.2.2.1 E.2.2.2.2.2.1 hG.1 120 (by rw [fp_w_get (by decide), (fp_o12 _)]) rfl 19 (by decide) (fp_tabs E hl) (fun _ h => h) rfl hdg kk
theorem fp_p12_19 (E : fp_EV p s m args meth c cc nL own rt D G) (hG : fp_H D G B s M H locs) (hl : Cond.fieldLink own idx "FreePlaceModel" "readWays" "I" ∈ fp_T) {x : Int32} (hdg : decode cc pc = .ok (.putfield idx, 3)) (kk : ∀ (H : Heap) (locs : List Loc), fp_H D G B s (fp_set M 120 19 x) H locs → W p l e R s m args below meth c H locs cells slots Q (F0 m (pc + 3) ls rest)) : W p l e R s m args below meth c H locs cells slots Q (F0 m pc ls (.int x :: .ref (B + 120) :: rest)) :=
  va_put (ref := "FreePlaceModel") (D := D) (ci := 12) (v := .int x) (ty := .int) (C := RX12) (T := TX12) (N := 35) E.1 E.2.1 E.2.2.2.2.1 fp_u12 tyX12 tyX12_ok nmX12 E.2.2.2.1 E.2.2.2.2.2.1 hG.1 fp_w_D hG.2 120 (by rw [fp_w_get (by decide), (fp_o12 _)]) rfl 19 (by decide) (fp_tabs E hl) (fun _ h => h) rfl (by decide +kernel) rfl rfl (Nat.le_of_ble_eq_true rfl) hdg (fun H1 locs1 hP _ hS => kk H1 locs1 ⟨by
    rw [fp_w_set (M' := fp_set M 120 19 x) (by rw [(fp_o12 _)]; simp [fp_set_eq, upd, List.set]) (fun q hq => fp_set_ne hq)] at hP
    exact hP, hS⟩)
theorem fp_g12_20 (E : fp_EV p s m args meth c cc nL own rt D G) (hG : fp_H D G B s M H locs) (hl : Cond.fieldLink own idx "FreePlaceModel" "readOne" "[I" ∈ fp_T) (hdg : decode cc pc = .ok (.getfield idx, 3)) (kk : W p l e R s m args below meth c H locs cells slots Q (F0 m (pc + 3) ls (.ref (B + 128) :: rest))) : W p l e R s m args below meth c H locs cells slots Q (F0 m pc ls (.ref (B + 120) :: rest)) :=
  va_get (ref := "FreePlaceModel") (D := D) (ci := 12) (v := .ref (B + 128)) (C := RX12) (T := TX12) (N := 35) E.1 E.2.1 E.2.2.2.2.1 fp_u12 E.2.2.2.1 E.2.2.2.2.2.1 hG.1 120 (by rw [fp_w_get (by decide), (fp_o12 _)]) rfl 20 (by decide) (fp_tabs E hl) (fun _ h => h) rfl hdg kk
theorem fp_g12_21 (E : fp_EV p s m args meth c cc nL own rt D G) (hG : fp_H D G B s M H locs) (hl : Cond.fieldLink own idx "FreePlaceModel" "readOther" "[I" ∈ fp_T) (hdg : decode cc pc = .ok (.getfield idx, 3)) (kk : W p l e R s m args below meth c H locs cells slots Q (F0 m (pc + 3) ls (.ref (B + 129) :: rest))) : W p l e R s m args below meth c H locs cells slots Q (F0 m pc ls (.ref (B + 120) :: rest)) :=
  va_get (ref := "FreePlaceModel") (D := D) (ci := 12) (v := .ref (B + 129)) (C := RX12) (T := TX12) (N := 35) E.1 E.2.1 E.2.2.2.2.1 fp_u12 E.2.2.2.1 E.2.2.2.2.2.1 hG.1 120 (by rw [fp_w_get (by decide), (fp_o12 _)]) rfl 21 (by decide) (fp_tabs E hl) (fun _ h => h) rfl hdg kk
theorem fp_g12_22 (E : fp_EV p s m args meth c cc nL own rt D G) (hG : fp_H D G B s M H locs) (hl : Cond.fieldLink own idx "FreePlaceModel" "away" "[I" ∈ fp_T) (hdg : decode cc pc = .ok (.getfield idx, 3)) (kk : W p l e R s m args below meth c H locs cells slots Q (F0 m (pc + 3) ls (.ref (B + 130) :: rest))) : W p l e R s m args below meth c H locs cells slots Q (F0 m pc ls (.ref (B + 120) :: rest)) :=
  va_get (ref := "FreePlaceModel") (D := D) (ci := 12) (v := .ref (B + 130)) (C := RX12) (T := TX12) (N := 35) E.1 E.2.1 E.2.2.2.2.1 fp_u12 E.2.2.2.1 E.2.2.2.2.2.1 hG.1 120 (by rw [fp_w_get (by decide), (fp_o12 _)]) rfl 22 (by decide) (fp_tabs E hl) (fun _ h => h) rfl hdg kk
theorem fp_g12_23 (E : fp_EV p s m args meth c cc nL own rt D G) (hG : fp_H D G B s M H locs) (hl : Cond.fieldLink own idx "FreePlaceModel" "undos" "I" ∈ fp_T) (hdg : decode cc pc = .ok (.getfield idx, 3)) (kk : W p l e R s m args below meth c H locs cells slots Q (F0 m (pc + 3) ls (.int (M 120 23) :: rest))) : W p l e R s m args below meth c H locs cells slots Q (F0 m pc ls (.ref (B + 120) :: rest)) :=
  va_get (ref := "FreePlaceModel") (D := D) (ci := 12) (v := .int (M 120 23)) (C := RX12) (T := TX12) (N := 35) E.1 E.2.1 E.2.2.2.2.1 fp_u12 E.2.2.2.1 E.2.2.2.2.2.1 hG.1 120 (by rw [fp_w_get (by decide), (fp_o12 _)]) rfl 23 (by decide) (fp_tabs E hl) (fun _ h => h) rfl hdg kk
theorem fp_p12_23 (E : fp_EV p s m args meth c cc nL own rt D G) (hG : fp_H D G B s M H locs) (hl : Cond.fieldLink own idx "FreePlaceModel" "undos" "I" ∈ fp_T) {x : Int32} (hdg : decode cc pc = .ok (.putfield idx, 3)) (kk : ∀ (H : Heap) (locs : List Loc), fp_H D G B s (fp_set M 120 23 x) H locs → W p l e R s m args below meth c H locs cells slots Q (F0 m (pc + 3) ls rest)) : W p l e R s m args below meth c H locs cells slots Q (F0 m pc ls (.int x :: .ref (B + 120) :: rest)) :=
  va_put (ref := "FreePlaceModel") (D := D) (ci := 12) (v := .int x) (ty := .int) (C := RX12) (T := TX12) (N := 35) E.1 E.2.1 E.2.2.2.2.1 fp_u12 tyX12 tyX12_ok nmX12 E.2.2.2.1 E.2.2.2.2.2.1 hG.1 fp_w_D hG.2 120 (by rw [fp_w_get (by decide), (fp_o12 _)]) rfl 23 (by decide) (fp_tabs E hl) (fun _ h => h) rfl (by decide +kernel) rfl rfl (Nat.le_of_ble_eq_true rfl) hdg (fun H1 locs1 hP _ hS => kk H1 locs1 ⟨by
    rw [fp_w_set (M' := fp_set M 120 23 x) (by rw [(fp_o12 _)]; simp [fp_set_eq, upd, List.set]) (fun q hq => fp_set_ne hq)] at hP
    exact hP, hS⟩)
theorem fp_g12_24 (E : fp_EV p s m args meth c cc nL own rt D G) (hG : fp_H D G B s M H locs) (hl : Cond.fieldLink own idx "FreePlaceModel" "past" "[I" ∈ fp_T) (hdg : decode cc pc = .ok (.getfield idx, 3)) (kk : W p l e R s m args below meth c H locs cells slots Q (F0 m (pc + 3) ls (.ref (B + 131) :: rest))) : W p l e R s m args below meth c H locs cells slots Q (F0 m pc ls (.ref (B + 120) :: rest)) :=
  va_get (ref := "FreePlaceModel") (D := D) (ci := 12) (v := .ref (B + 131)) (C := RX12) (T := TX12) (N := 35) E.1 E.2.1 E.2.2.2.2.1 fp_u12 E.2.2.2.1 E.2.2.2.2.2.1 hG.1 120 (by rw [fp_w_get (by decide), (fp_o12 _)]) rfl 24 (by decide) (fp_tabs E hl) (fun _ h => h) rfl hdg kk
theorem fp_g12_25 (E : fp_EV p s m args meth c cc nL own rt D G) (hG : fp_H D G B s M H locs) (hl : Cond.fieldLink own idx "FreePlaceModel" "was" "[I" ∈ fp_T) (hdg : decode cc pc = .ok (.getfield idx, 3)) (kk : W p l e R s m args below meth c H locs cells slots Q (F0 m (pc + 3) ls (.ref (B + 132) :: rest))) : W p l e R s m args below meth c H locs cells slots Q (F0 m pc ls (.ref (B + 120) :: rest)) :=
  va_get (ref := "FreePlaceModel") (D := D) (ci := 12) (v := .ref (B + 132)) (C := RX12) (T := TX12) (N := 35) E.1 E.2.1 E.2.2.2.2.1 fp_u12 E.2.2.2.1 E.2.2.2.2.2.1 hG.1 120 (by rw [fp_w_get (by decide), (fp_o12 _)]) rfl 25 (by decide) (fp_tabs E hl) (fun _ h => h) rfl hdg kk
theorem fp_g12_26 (E : fp_EV p s m args meth c cc nL own rt D G) (hG : fp_H D G B s M H locs) (hl : Cond.fieldLink own idx "FreePlaceModel" "built" "[I" ∈ fp_T) (hdg : decode cc pc = .ok (.getfield idx, 3)) (kk : W p l e R s m args below meth c H locs cells slots Q (F0 m (pc + 3) ls (.ref (B + 133) :: rest))) : W p l e R s m args below meth c H locs cells slots Q (F0 m pc ls (.ref (B + 120) :: rest)) :=
  va_get (ref := "FreePlaceModel") (D := D) (ci := 12) (v := .ref (B + 133)) (C := RX12) (T := TX12) (N := 35) E.1 E.2.1 E.2.2.2.2.1 fp_u12 E.2.2.2.1 E.2.2.2.2.2.1 hG.1 120 (by rw [fp_w_get (by decide), (fp_o12 _)]) rfl 26 (by decide) (fp_tabs E hl) (fun _ h => h) rfl hdg kk
theorem fp_g12_27 (E : fp_EV p s m args meth c cc nL own rt D G) (hG : fp_H D G B s M H locs) (hl : Cond.fieldLink own idx "FreePlaceModel" "seen" "I" ∈ fp_T) (hdg : decode cc pc = .ok (.getfield idx, 3)) (kk : W p l e R s m args below meth c H locs cells slots Q (F0 m (pc + 3) ls (.int (M 120 27) :: rest))) : W p l e R s m args below meth c H locs cells slots Q (F0 m pc ls (.ref (B + 120) :: rest)) :=
  va_get (ref := "FreePlaceModel") (D := D) (ci := 12) (v := .int (M 120 27)) (C := RX12) (T := TX12) (N := 35) E.1 E.2.1 E.2.2.2.2.1 fp_u12 E.2.2.2.1 E.2.2.2.2.2.1 hG.1 120 (by rw [fp_w_get (by decide), (fp_o12 _)]) rfl 27 (by decide) (fp_tabs E hl) (fun _ h => h) rfl hdg kk
theorem fp_p12_27 (E : fp_EV p s m args meth c cc nL own rt D G) (hG : fp_H D G B s M H locs) (hl : Cond.fieldLink own idx "FreePlaceModel" "seen" "I" ∈ fp_T) {x : Int32} (hdg : decode cc pc = .ok (.putfield idx, 3)) (kk : ∀ (H : Heap) (locs : List Loc), fp_H D G B s (fp_set M 120 27 x) H locs → W p l e R s m args below meth c H locs cells slots Q (F0 m (pc + 3) ls rest)) : W p l e R s m args below meth c H locs cells slots Q (F0 m pc ls (.int x :: .ref (B + 120) :: rest)) :=
  va_put (ref := "FreePlaceModel") (D := D) (ci := 12) (v := .int x) (ty := .int) (C := RX12) (T := TX12) (N := 35) E.1 E.2.1 E.2.2.2.2.1 fp_u12 tyX12 tyX12_ok nmX12 E.2.2.2.1 E.2.2.2.2.2.1 hG.1 fp_w_D hG.2 120 (by rw [fp_w_get (by decide), (fp_o12 _)]) rfl 27 (by decide) (fp_tabs E hl) (fun _ h => h) rfl (by decide +kernel) rfl rfl (Nat.le_of_ble_eq_true rfl) hdg (fun H1 locs1 hP _ hS => kk H1 locs1 ⟨by
    rw [fp_w_set (M' := fp_set M 120 27 x) (by rw [(fp_o12 _)]; simp [fp_set_eq, upd, List.set]) (fun q hq => fp_set_ne hq)] at hP
    exact hP, hS⟩)
theorem fp_g12_28 (E : fp_EV p s m args meth c cc nL own rt D G) (hG : fp_H D G B s M H locs) (hl : Cond.fieldLink own idx "FreePlaceModel" "seenAt" "[I" ∈ fp_T) (hdg : decode cc pc = .ok (.getfield idx, 3)) (kk : W p l e R s m args below meth c H locs cells slots Q (F0 m (pc + 3) ls (.ref (B + 134) :: rest))) : W p l e R s m args below meth c H locs cells slots Q (F0 m pc ls (.ref (B + 120) :: rest)) :=
  va_get (ref := "FreePlaceModel") (D := D) (ci := 12) (v := .ref (B + 134)) (C := RX12) (T := TX12) (N := 35) E.1 E.2.1 E.2.2.2.2.1 fp_u12 E.2.2.2.1 E.2.2.2.2.2.1 hG.1 120 (by rw [fp_w_get (by decide), (fp_o12 _)]) rfl 28 (by decide) (fp_tabs E hl) (fun _ h => h) rfl hdg kk
theorem fp_g12_29 (E : fp_EV p s m args meth c cc nL own rt D G) (hG : fp_H D G B s M H locs) (hl : Cond.fieldLink own idx "FreePlaceModel" "seenMoved" "[Z" ∈ fp_T) (hdg : decode cc pc = .ok (.getfield idx, 3)) (kk : W p l e R s m args below meth c H locs cells slots Q (F0 m (pc + 3) ls (.ref (B + 135) :: rest))) : W p l e R s m args below meth c H locs cells slots Q (F0 m pc ls (.ref (B + 120) :: rest)) :=
  va_get (ref := "FreePlaceModel") (D := D) (ci := 12) (v := .ref (B + 135)) (C := RX12) (T := TX12) (N := 35) E.1 E.2.1 E.2.2.2.2.1 fp_u12 E.2.2.2.1 E.2.2.2.2.2.1 hG.1 120 (by rw [fp_w_get (by decide), (fp_o12 _)]) rfl 29 (by decide) (fp_tabs E hl) (fun _ h => h) rfl hdg kk
theorem fp_g12_30 (E : fp_EV p s m args meth c cc nL own rt D G) (hG : fp_H D G B s M H locs) (hl : Cond.fieldLink own idx "FreePlaceModel" "booked" "I" ∈ fp_T) (hdg : decode cc pc = .ok (.getfield idx, 3)) (kk : W p l e R s m args below meth c H locs cells slots Q (F0 m (pc + 3) ls (.int (M 120 30) :: rest))) : W p l e R s m args below meth c H locs cells slots Q (F0 m pc ls (.ref (B + 120) :: rest)) :=
  va_get (ref := "FreePlaceModel") (D := D) (ci := 12) (v := .int (M 120 30)) (C := RX12) (T := TX12) (N := 35) E.1 E.2.1 E.2.2.2.2.1 fp_u12 E.2.2.2.1 E.2.2.2.2.2.1 hG.1 120 (by rw [fp_w_get (by decide), (fp_o12 _)]) rfl 30 (by decide) (fp_tabs E hl) (fun _ h => h) rfl hdg kk
theorem fp_p12_30 (E : fp_EV p s m args meth c cc nL own rt D G) (hG : fp_H D G B s M H locs) (hl : Cond.fieldLink own idx "FreePlaceModel" "booked" "I" ∈ fp_T) {x : Int32} (hdg : decode cc pc = .ok (.putfield idx, 3)) (kk : ∀ (H : Heap) (locs : List Loc), fp_H D G B s (fp_set M 120 30 x) H locs → W p l e R s m args below meth c H locs cells slots Q (F0 m (pc + 3) ls rest)) : W p l e R s m args below meth c H locs cells slots Q (F0 m pc ls (.int x :: .ref (B + 120) :: rest)) :=
  va_put (ref := "FreePlaceModel") (D := D) (ci := 12) (v := .int x) (ty := .int) (C := RX12) (T := TX12) (N := 35) E.1 E.2.1 E.2.2.2.2.1 fp_u12 tyX12 tyX12_ok nmX12 E.2.2.2.1 E.2.2.2.2.2.1 hG.1 fp_w_D hG.2 120 (by rw [fp_w_get (by decide), (fp_o12 _)]) rfl 30 (by decide) (fp_tabs E hl) (fun _ h => h) rfl (by decide +kernel) rfl rfl (Nat.le_of_ble_eq_true rfl) hdg (fun H1 locs1 hP _ hS => kk H1 locs1 ⟨by
    rw [fp_w_set (M' := fp_set M 120 30 x) (by rw [(fp_o12 _)]; simp [fp_set_eq, upd, List.set]) (fun q hq => fp_set_ne hq)] at hP
    exact hP, hS⟩)
theorem fp_g12_31 (E : fp_EV p s m args meth c cc nL own rt D G) (hG : fp_H D G B s M H locs) (hl : Cond.fieldLink own idx "FreePlaceModel" "bookAt" "[I" ∈ fp_T) (hdg : decode cc pc = .ok (.getfield idx, 3)) (kk : W p l e R s m args below meth c H locs cells slots Q (F0 m (pc + 3) ls (.ref (B + 136) :: rest))) : W p l e R s m args below meth c H locs cells slots Q (F0 m pc ls (.ref (B + 120) :: rest)) :=
  va_get (ref := "FreePlaceModel") (D := D) (ci := 12) (v := .ref (B + 136)) (C := RX12) (T := TX12) (N := 35) E.1 E.2.1 E.2.2.2.2.1 fp_u12 E.2.2.2.1 E.2.2.2.2.2.1 hG.1 120 (by rw [fp_w_get (by decide), (fp_o12 _)]) rfl 31 (by decide) (fp_tabs E hl) (fun _ h => h) rfl hdg kk
theorem fp_g12_32 (E : fp_EV p s m args meth c cc nL own rt D G) (hG : fp_H D G B s M H locs) (hl : Cond.fieldLink own idx "FreePlaceModel" "bookSit" "[I" ∈ fp_T) (hdg : decode cc pc = .ok (.getfield idx, 3)) (kk : W p l e R s m args below meth c H locs cells slots Q (F0 m (pc + 3) ls (.ref (B + 137) :: rest))) : W p l e R s m args below meth c H locs cells slots Q (F0 m pc ls (.ref (B + 120) :: rest)) :=
  va_get (ref := "FreePlaceModel") (D := D) (ci := 12) (v := .ref (B + 137)) (C := RX12) (T := TX12) (N := 35) E.1 E.2.1 E.2.2.2.2.1 fp_u12 E.2.2.2.1 E.2.2.2.2.2.1 hG.1 120 (by rw [fp_w_get (by decide), (fp_o12 _)]) rfl 32 (by decide) (fp_tabs E hl) (fun _ h => h) rfl hdg kk
theorem fp_g12_33 (E : fp_EV p s m args meth c cc nL own rt D G) (hG : fp_H D G B s M H locs) (hl : Cond.fieldLink own idx "FreePlaceModel" "images" "[I" ∈ fp_T) (hdg : decode cc pc = .ok (.getfield idx, 3)) (kk : W p l e R s m args below meth c H locs cells slots Q (F0 m (pc + 3) ls (.ref (B + 138) :: rest))) : W p l e R s m args below meth c H locs cells slots Q (F0 m pc ls (.ref (B + 120) :: rest)) :=
  va_get (ref := "FreePlaceModel") (D := D) (ci := 12) (v := .ref (B + 138)) (C := RX12) (T := TX12) (N := 35) E.1 E.2.1 E.2.2.2.2.1 fp_u12 E.2.2.2.1 E.2.2.2.2.2.1 hG.1 120 (by rw [fp_w_get (by decide), (fp_o12 _)]) rfl 33 (by decide) (fp_tabs E hl) (fun _ h => h) rfl hdg kk
theorem fp_g12_34 (E : fp_EV p s m args meth c cc nL own rt D G) (hG : fp_H D G B s M H locs) (hl : Cond.fieldLink own idx "FreePlaceModel" "isKept" "[Z" ∈ fp_T) (hdg : decode cc pc = .ok (.getfield idx, 3)) (kk : W p l e R s m args below meth c H locs cells slots Q (F0 m (pc + 3) ls (.ref (B + 139) :: rest))) : W p l e R s m args below meth c H locs cells slots Q (F0 m pc ls (.ref (B + 120) :: rest)) :=
  va_get (ref := "FreePlaceModel") (D := D) (ci := 12) (v := .ref (B + 139)) (C := RX12) (T := TX12) (N := 35) E.1 E.2.1 E.2.2.2.2.1 fp_u12 E.2.2.2.1 E.2.2.2.2.2.1 hG.1 120 (by rw [fp_w_get (by decide), (fp_o12 _)]) rfl 34 (by decide) (fp_tabs E hl) (fun _ h => h) rfl hdg kk
theorem fp_iald (E : fp_EV p s m args meth c cc nL own rt D G) (hG : fp_H D G B s M H locs) {n : Nat} (hk : k < 140) (he : ∀ M : fp_Mem, fp_e G B M k = .inl (G 0, (n, .inl (M k)))) {i : Int32} (hin : vp_in i n) (hdg : decode cc pc = .ok (.iaload, 1)) (kk : W p l e R s m args below meth c H locs cells slots Q (F0 m (pc + 1) ls (.int (M k i.toNatClampNeg) :: rest))) : W p l e R s m args below meth c H locs cells slots Q (F0 m pc ls (.int i :: .ref (B + k) :: rest)) :=
  va_iald E.1 E.2.1 E.2.2.2.2.2.1 hG.1 k 0 (by rw [fp_w_get hk, he]) rfl hin hdg kk
theorem fp_zald (E : fp_EV p s m args meth c cc nL own rt D G) (hG : fp_H D G B s M H locs) {n : Nat} (hk : k < 140) (he : ∀ M : fp_Mem, fp_e G B M k = .inl (G 2, (n, .inl (M k)))) {i : Int32} (hin : vp_in i n) (hdg : decode cc pc = .ok (.baload, 1)) (kk : W p l e R s m args below meth c H locs cells slots Q (F0 m (pc + 1) ls (.int (M k i.toNatClampNeg) :: rest))) : W p l e R s m args below meth c H locs cells slots Q (F0 m pc ls (.int i :: .ref (B + k) :: rest)) :=
  va_zald E.1 E.2.1 E.2.2.2.2.2.1 hG.1 k 2 (by rw [fp_w_get hk, he]) rfl hin hdg kk
theorem fp_cald (E : fp_EV p s m args meth c cc nL own rt D G) (hG : fp_H D G B s M H locs) {n : Nat} (hk : k < 140) (he : ∀ M : fp_Mem, fp_e G B M k = .inl (G 1, (n, .inl (M k)))) {i : Int32} (hin : vp_in i n) (hdg : decode cc pc = .ok (.caload, 1)) (kk : W p l e R s m args below meth c H locs cells slots Q (F0 m (pc + 1) ls (.int (M k i.toNatClampNeg) :: rest))) : W p l e R s m args below meth c H locs cells slots Q (F0 m pc ls (.int i :: .ref (B + k) :: rest)) :=
  va_cald E.1 E.2.1 E.2.2.2.2.2.1 hG.1 k 1 (by rw [fp_w_get hk, he]) rfl hin hdg kk
theorem fp_iast (E : fp_EV p s m args meth c cc nL own rt D G) (hG : fp_H D G B s M H locs) {n : Nat} (hk : k < 140) (he : ∀ M : fp_Mem, fp_e G B M k = .inl (G 0, (n, .inl (M k)))) {i x : Int32} (hin : vp_in i n) (hdg : decode cc pc = .ok (.iastore, 1)) (kk : ∀ (H : Heap) (locs : List Loc), fp_H D G B s (fp_set M k i.toNatClampNeg x) H locs → W p l e R s m args below meth c H locs cells slots Q (F0 m (pc + 1) ls rest)) : W p l e R s m args below meth c H locs cells slots Q (F0 m pc ls (.int x :: .int i :: .ref (B + k) :: rest)) :=
  va_iast E.1 E.2.1 E.2.2.2.2.2.1 hG.1 fp_w_D hG.2 k 0 (by rw [fp_w_get hk, he]) rfl hin hdg (fun H1 locs1 hP _ hS => kk H1 locs1 ⟨by
    rw [fp_w_set (M' := fp_set M k i.toNatClampNeg x) (by rw [he, fp_set_eq]) (fun q hq => fp_set_ne hq)] at hP
    exact hP, hS⟩)
theorem fp_zast (E : fp_EV p s m args meth c cc nL own rt D G) (hG : fp_H D G B s M H locs) {n : Nat} (hk : k < 140) (he : ∀ M : fp_Mem, fp_e G B M k = .inl (G 2, (n, .inl (M k)))) {i x : Int32} (hin : vp_in i n) (hdg : decode cc pc = .ok (.bastore, 1)) (kk : ∀ (H : Heap) (locs : List Loc), fp_H D G B s (fp_set M k i.toNatClampNeg (vp_nar .boolean x)) H locs → W p l e R s m args below meth c H locs cells slots Q (F0 m (pc + 1) ls rest)) : W p l e R s m args below meth c H locs cells slots Q (F0 m pc ls (.int x :: .int i :: .ref (B + k) :: rest)) :=
  va_zast E.1 E.2.1 E.2.2.2.2.2.1 hG.1 fp_w_D hG.2 k 2 (by rw [fp_w_get hk, he]) rfl hin hdg (fun H1 locs1 hP _ hS => kk H1 locs1 ⟨by
    rw [fp_w_set (M' := fp_set M k i.toNatClampNeg (vp_nar .boolean x)) (by rw [he, fp_set_eq]) (fun q hq => fp_set_ne hq)] at hP
    exact hP, hS⟩)
theorem fp_cast (E : fp_EV p s m args meth c cc nL own rt D G) (hG : fp_H D G B s M H locs) {n : Nat} (hk : k < 140) (he : ∀ M : fp_Mem, fp_e G B M k = .inl (G 1, (n, .inl (M k)))) {i x : Int32} (hin : vp_in i n) (hdg : decode cc pc = .ok (.castore, 1)) (kk : ∀ (H : Heap) (locs : List Loc), fp_H D G B s (fp_set M k i.toNatClampNeg (vp_nar .char x)) H locs → W p l e R s m args below meth c H locs cells slots Q (F0 m (pc + 1) ls rest)) : W p l e R s m args below meth c H locs cells slots Q (F0 m pc ls (.int x :: .int i :: .ref (B + k) :: rest)) :=
  va_cast E.1 E.2.1 E.2.2.2.2.2.1 hG.1 fp_w_D hG.2 k 1 (by rw [fp_w_get hk, he]) rfl hin hdg (fun H1 locs1 hP _ hS => kk H1 locs1 ⟨by
    rw [fp_w_set (M' := fp_set M k i.toNatClampNeg (vp_nar .char x)) (by rw [he, fp_set_eq]) (fun q hq => fp_set_ne hq)] at hP
    exact hP, hS⟩)
theorem fp_qald24 (E : fp_EV p s m args meth c cc nL own rt D G) (hG : fp_H D G B s M H locs) {i : Int32} (hin : vp_in i 20) (hdg : decode cc pc = .ok (.aaload, 1)) (kk : W p l e R s m args below meth c H locs cells slots Q (F0 m (pc + 1) ls (.ref (B + (50 + 3 * i.toNatClampNeg)) :: rest))) : W p l e R s m args below meth c H locs cells slots Q (F0 m pc ls (.int i :: .ref (B + 49) :: rest)) :=
  va_aldq (C := "FreePlace$State") (f := fun i => if i < 20 then some (B + (50 + 3 * i)) else none) E.1 E.2.1 E.2.2.2.2.2.1 hG.1 49 3 (by rw [fp_w_get (by decide)]; rfl) rfl hin hdg (by
    show W p l e R s m args below meth c H locs cells slots Q (F0 m (pc + 1) ls (va_rf (if i.toNatClampNeg < 20 then some (B + (50 + 3 * i.toNatClampNeg)) else none) :: rest))
    rw [if_pos (fp_in_lt hin)]
    exact kk)
theorem fp_qald25 (E : fp_EV p s m args meth c cc nL own rt D G) (hG : fp_H D G B s M H locs) {i : Int32} (hin : vp_in i 2) (hdg : decode cc pc = .ok (.aaload, 1)) (kk : W p l e R s m args below meth c H locs cells slots Q (F0 m (pc + 1) ls (.ref (B + (114 + 3 * i.toNatClampNeg)) :: rest))) : W p l e R s m args below meth c H locs cells slots Q (F0 m pc ls (.int i :: .ref (B + 111) :: rest)) :=
  va_aldq (C := "FreePlace$State") (f := fun i => if i < 2 then some (B + (114 + 3 * i)) else none) E.1 E.2.1 E.2.2.2.2.2.1 hG.1 111 3 (by rw [fp_w_get (by decide)]; rfl) rfl hin hdg (by
    show W p l e R s m args below meth c H locs cells slots Q (F0 m (pc + 1) ls (va_rf (if i.toNatClampNeg < 2 then some (B + (114 + 3 * i.toNatClampNeg)) else none) :: rest))
    rw [if_pos (fp_in_lt hin)]
    exact kk)
theorem fp_top {x y : Int32} (h : y = x) (kk : W p l e R s m args below meth c H locs cells slots Q (F0 m pc ls (.int y :: rest))) : W p l e R s m args below meth c H locs cells slots Q (F0 m pc ls (.int x :: rest)) := by rw [← h]; exact kk
theorem fp_topL {x y : Int64} (h : y = x) (kk : W p l e R s m args below meth c H locs cells slots Q (F0 m pc ls (.long y :: rest))) : W p l e R s m args below meth c H locs cells slots Q (F0 m pc ls (.long x :: rest)) := by rw [← h]; exact kk
theorem fp_memH {M1 : fp_Mem} (h : M1 = M) (hG : fp_H D G B s M H locs) : fp_H D G B s M1 H locs := by rw [h]; exact hG
/-- what a method's end says: the answer r, the memory M -/
abbrev fp_Qi (D : va_G) (G : Nat → ClassId) (B : Nat) (r : Int32) (M : fp_Mem) : Array Value → State → Outcome → State → Prop := va_Qi (fun (x : Int32) (u : fp_Mem) => x = r ∧ u = M) (fun u t => fp_GS D G B u t) (fp_A B)
abbrev fp_Qv (D : va_G) (G : Nat → ClassId) (B : Nat) (M : fp_Mem) : Array Value → State → Outcome → State → Prop := va_Qv (fun (u : fp_Mem) => u = M) (fun u t => fp_GS D G B u t) (fp_A B)
theorem fp_ireti (E : fp_EV p s m args meth c cc nL own (some .int) D G) (hG : fp_H D G B s M H locs) {x r : Int32} {M' : fp_Mem} (hx : x = r) (hM : M = M') (hdg : decode cc pc = .ok (.ireturn, 1)) : W p l e R s m args below meth c H locs 0 0 (MQ below (fp_Qi D G B r M') args s 0 0 (fp_A B)) (F0 m pc ls [.int x]) :=
  W.iret E.1 E.2.1 E.2.2.2.2.2.2.1 (fun t ht hW => ⟨⟨x, M, rfl, ⟨hx, hM⟩, ⟨by rw [ht]; exact hG.1, va_K.moved hW.alike E.2.2.2.2.2.1⟩⟩, hG.2.F ht⟩) hG.2.2.2 hdg E.2.2.2.2.2.2.2
theorem fp_iretz (E : fp_EV p s m args meth c cc nL own (some .boolean) D G) (hG : fp_H D G B s M H locs) {x r : Int32} {M' : fp_Mem} (hz : fp_zb x = true) (hx : x = r) (hM : M = M') (hdg : decode cc pc = .ok (.ireturn, 1)) : W p l e R s m args below meth c H locs 0 0 (MQ below (fp_Qi D G B r M') args s 0 0 (fp_A B)) (F0 m pc ls [.int x]) :=
  W.zret E.1 E.2.1 E.2.2.2.2.2.2.1 (fp_zb_n hz) (fun t ht hW => ⟨⟨x, M, rfl, ⟨hx, hM⟩, ⟨by rw [ht]; exact hG.1, va_K.moved hW.alike E.2.2.2.2.2.1⟩⟩, hG.2.F ht⟩) hG.2.2.2 hdg E.2.2.2.2.2.2.2
theorem fp_retv (E : fp_EV p s m args meth c cc nL own none D G) (hG : fp_H D G B s M H locs) {M' : fp_Mem} (hM : M = M') (hdg : decode cc pc = .ok (.return_, 1)) : W p l e R s m args below meth c H locs 0 0 (MQ below (fp_Qv D G B M') args s 0 0 (fp_A B)) (F0 m pc ls []) :=
  W.vret E.1 E.2.1 E.2.2.2.2.2.2.1 (fun t ht hW => ⟨⟨M, rfl, hM, ⟨by rw [ht]; exact hG.1, va_K.moved hW.alike E.2.2.2.2.2.1⟩⟩, hG.2.F ht⟩) hG.2.2.2 hdg E.2.2.2.2.2.2.2
/-- a contract out of a walk -/
theorem fp_met {y : MethodName} {rm : Room} {av : List Value} {Qc : Array Value → State → Outcome → State → Prop} (hy : plainName y.cls = true) (hown : y.cls = own) (hav : (lg_sl av).length ≤ nL)
    (body : ∀ {p : Program} {e : Env} {s : State} {m : MethodId} {args : Array Value} {below : List Frame} {meth : Method} {c : Code} {ls : Array Slot}, fp_EV p s m args meth c cc nL own rt D G → fp_H D G B s M s.heap [] → lv_has ls nL (lv_args 0 av) → W p l e rm s m args below meth c s.heap [] 0 0 (MQ below Qc args s 0 0 (fp_A B)) (F0 m 0 ls [])) :
    Met l y (Cond.code y cc nL rt :: fp_T) rm (va_Pc av (fp_GS D G B M)) Qc 0 0 (fp_A B) := by
  refine Met.ofW (cc := cc) (maxL := nL) (ret := rt) hy rfl ?_
  intro p e s m args below meth c s₁ Bd hml hv
  obtain ⟨rfl, hP, hK⟩ := hv
  have hts := atoms_spec (ws := Cond.code y cc nL rt :: fp_T) Bd.pre
  have hl := lv_entry av (n := nL) hav
  rw [lg_entry_eq]
  subst hown
  exact body ⟨Bd.exec, Bd.bytes, hml, findClass_of_methodNamed Bd.named, fun w hw => hts w (List.mem_cons_of_mem _ hw), hK, Bd.returns, Bd.notSynchronized⟩ ⟨hP, va_S.rf⟩ hl
/-- what the tables say of a method that is called -/
def fp_CV (y : MethodName) (b : ByteArray) (n' : Nat) (ret : Option FieldType) (n : Nat) : Prop := Cond.code y b n' ret ∈ fp_T ∧ Cond.initialized y.cls ∈ fp_T ∧ (y.cls ≠ "java/lang/invoke/MethodHandle" ∧ y.cls ≠ "java/lang/invoke/VarHandle") ∧ (parseMethodDescriptor y.desc).map (fun d => d.parameters.length) = some n
theorem fp_CB (E : fp_EV p s m args meth c cc nL own rt D G) {y : MethodName} {b : ByteArray} {n' n : Nat} {ret : Option FieldType} {rm : Room} (hc : fp_CV y b n' ret n) (hl : Cond.methodLink own idx y ∈ fp_T) (hrc : rm.cells = 0 ∧ rm.slots = 0) (hr : rm.frames + 1 ≤ R.frames ∧ 8 + (n' + 11) + rm.locals ≤ R.locals) :
    CallB R s args own idx y b n' ret (Cond.code y b n' ret :: fp_T) rm 0 0 n := by
  refine ⟨hrc.1, hrc.2, hr.1, hr.2, fun w hw a' U hW => ?_, List.mem_cons_self, fp_tabs E hc.1, fp_tabs E hc.2.1, hc.2.2.1, fun sig h => ?_, fp_tabs E hl⟩
  · rcases List.mem_cons.mp hw with rfl | hw
    · exact word_at hW (fp_T_good hc.1) (fp_tabs E hc.1)
    · exact word_at hW (fp_T_good hw) (fp_tabs E hw)
  · have h2 := hc.2.2.2
    rw [h] at h2
    exact (Option.some.inj h2).symm
theorem fp_blind {av : List Value} : FrameBlind (va_Pc av (fp_GS D G B M)) := fun a U g mk q => ⟨q.1, q.2.1, va_K.moved (u := U) (U := U.calling g mk a) (Vm.Alike.refl U.vm) q.2.2⟩
theorem fp_recv (E : fp_EV p s m args meth c cc nL own rt D G) (hG : fp_H D G B s M H locs) {ci : Nat} {fs : List Value} {C : String} {T : u_T} {N : Nat} (hk : k < 140) (he : fp_e G B M k = .inr (ci, fs)) (hc : vwCl[ci]? = some (C, T, N)) : ∃ cellB : Cell, H[B + k]? = some cellB ∧ cellB.vm.isStatics = false ∧ s.vm.findClass C = some cellB.cls :=
  va_recv E.2.2.2.2.2.1 hG.1 hc (q0 := k) (by rw [fp_w_get hk, he])
theorem fp_callVi (E : fp_EV p s m args meth c cc nL own rt D G) (hG : fp_H D G B s M H locs) {y : MethodName} {b : ByteArray} {n' n : Nat} {ret : Option FieldType} {rm : Room} {As st0 : List Value} {r : Int32} {M1 : fp_Mem}
    (hM : Met l y (Cond.code y b n' ret :: fp_T) rm (va_Pc (.ref (B + k) :: As) (fp_GS D G B M)) (fp_Qi D G B r M1) 0 0 (fp_A B)) (hcv : fp_CV y b n' ret n) (hl : Cond.methodLink own idx y ∈ fp_T) (hin : Cond.instanceMethod y ∈ fp_T) (hse : Cond.selects y.cls y y ∈ fp_T) (hrc : rm.cells = 0 ∧ rm.slots = 0) (hr : rm.frames + 1 ≤ R.frames ∧ 8 + (n' + 11) + rm.locals ≤ R.locals)
    (hrv : ∃ cellB : Cell, H[B + k]? = some cellB ∧ cellB.vm.isStatics = false ∧ s.vm.findClass y.cls = some cellB.cls) (hn : As.length = n) (hst : st0 = As.reverse ++ .ref (B + k) :: rest) (hw : (rest.map fun v => v.category).sum ≤ 8) (hls : ls.size = nL) (hdg : decode cc pc = .ok (.invokevirtual idx, 3)) (hcs : cells ≤ R.cells ∧ slots ≤ R.slots)
    (kk : ∀ (H : Heap) (locs : List Loc), fp_H D G B s M1 H locs → W p l e R s m args below meth c H locs cells slots Q (F0 m (pc + 3) ls (.int r :: rest))) : W p l e R s m args below meth c H locs cells slots Q (F0 m pc ls st0) :=
  va_calli (va_runV (As := As) (rest := rest) ⟨E.1, E.2.1, E.2.2.1, E.2.2.2.1, E.2.2.2.2.1⟩ hM ⟨fp_CB E hcv hl hrc hr, fp_tabs E hin, fp_tabs E hse⟩ ⟨fp_blind, hrv, fun U hU hW => ⟨rfl, by rw [hU]; exact hG.1, va_K.moved hW.alike E.2.2.2.2.2.1⟩⟩ rfl hn hls hst (lv_room hw) hdg hcs) hG.2 (fun q _ h => h) (fun q h => h) (fun r1 u t H1 locs1 ht hvm hp hB hz hk1 hS => by
    obtain ⟨rfl, rfl⟩ := hp
    exact kk H1 locs1 ⟨by rw [← ht]; exact hB.1, hS⟩)
theorem fp_callVv (E : fp_EV p s m args meth c cc nL own rt D G) (hG : fp_H D G B s M H locs) {y : MethodName} {b : ByteArray} {n' n : Nat} {ret : Option FieldType} {rm : Room} {As st0 : List Value} {M1 : fp_Mem}
    (hM : Met l y (Cond.code y b n' ret :: fp_T) rm (va_Pc (.ref (B + k) :: As) (fp_GS D G B M)) (fp_Qv D G B M1) 0 0 (fp_A B)) (hcv : fp_CV y b n' ret n) (hl : Cond.methodLink own idx y ∈ fp_T) (hin : Cond.instanceMethod y ∈ fp_T) (hse : Cond.selects y.cls y y ∈ fp_T) (hrc : rm.cells = 0 ∧ rm.slots = 0) (hr : rm.frames + 1 ≤ R.frames ∧ 8 + (n' + 11) + rm.locals ≤ R.locals)
    (hrv : ∃ cellB : Cell, H[B + k]? = some cellB ∧ cellB.vm.isStatics = false ∧ s.vm.findClass y.cls = some cellB.cls) (hn : As.length = n) (hst : st0 = As.reverse ++ .ref (B + k) :: rest) (hw : (rest.map fun v => v.category).sum ≤ 8) (hls : ls.size = nL) (hdg : decode cc pc = .ok (.invokevirtual idx, 3)) (hcs : cells ≤ R.cells ∧ slots ≤ R.slots)
    (kk : ∀ (H : Heap) (locs : List Loc), fp_H D G B s M1 H locs → W p l e R s m args below meth c H locs cells slots Q (F0 m (pc + 3) ls rest)) : W p l e R s m args below meth c H locs cells slots Q (F0 m pc ls st0) :=
  va_callv (va_runV (As := As) (rest := rest) ⟨E.1, E.2.1, E.2.2.1, E.2.2.2.1, E.2.2.2.2.1⟩ hM ⟨fp_CB E hcv hl hrc hr, fp_tabs E hin, fp_tabs E hse⟩ ⟨fp_blind, hrv, fun U hU hW => ⟨rfl, by rw [hU]; exact hG.1, va_K.moved hW.alike E.2.2.2.2.2.1⟩⟩ rfl hn hls hst (lv_room hw) hdg hcs) hG.2 (fun q _ h => h) (fun q h => h) (fun u t H1 locs1 ht hvm hp hB hz hk1 hS => by
    obtain rfl := hp
    exact kk H1 locs1 ⟨by rw [← ht]; exact hB.1, hS⟩)
theorem fp_callSi (E : fp_EV p s m args meth c cc nL own rt D G) (hG : fp_H D G B s M H locs) {y : MethodName} {b : ByteArray} {n' n : Nat} {ret : Option FieldType} {rm : Room} {As st0 : List Value} {r : Int32} {M1 : fp_Mem}
    (hM : Met l y (Cond.code y b n' ret :: fp_T) rm (va_Pc As (fp_GS D G B M)) (fp_Qi D G B r M1) 0 0 (fp_A B)) (hcv : fp_CV y b n' ret n) (hl : Cond.methodLink own idx y ∈ fp_T) (hstt : Cond.static y ∈ fp_T) (hrc : rm.cells = 0 ∧ rm.slots = 0) (hr : rm.frames + 1 ≤ R.frames ∧ 8 + (n' + 11) + rm.locals ≤ R.locals)
    (hn : As.length = n) (hst : st0 = As.reverse ++ rest) (hw : (rest.map fun v => v.category).sum ≤ 8) (hls : ls.size = nL) (hdg : decode cc pc = .ok (.invokestatic idx, 3)) (hcs : cells ≤ R.cells ∧ slots ≤ R.slots)
    (kk : ∀ (H : Heap) (locs : List Loc), fp_H D G B s M1 H locs → W p l e R s m args below meth c H locs cells slots Q (F0 m (pc + 3) ls (.int r :: rest))) : W p l e R s m args below meth c H locs cells slots Q (F0 m pc ls st0) :=
  va_calli (va_runS (As := As) (rest := rest) ⟨E.1, E.2.1, E.2.2.1, E.2.2.2.1, E.2.2.2.2.1⟩ hM ⟨fp_CB E hcv hl hrc hr, fp_tabs E hstt⟩ ⟨fp_blind, fun U hU hW => ⟨rfl, by rw [hU]; exact hG.1, va_K.moved hW.alike E.2.2.2.2.2.1⟩⟩ rfl hn hls hst (lv_room hw) hdg hcs) hG.2 (fun q _ h => h) (fun q h => h) (fun r1 u t H1 locs1 ht hvm hp hB hz hk1 hS => by
    obtain ⟨rfl, rfl⟩ := hp
    exact kk H1 locs1 ⟨by rw [← ht]; exact hB.1, hS⟩)
end FPR
end
